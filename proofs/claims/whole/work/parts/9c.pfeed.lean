theorem f255 : ∀ j : Fin 32, (255#32).getLsbD j.val = decide (j.val < 8) := by decide
theorem and_sh (y : BitVec 32) (k : Nat) (hk : k ≤ 24) : (y >>> k) &&& 255#32 = (y.sshiftRight k) &&& 255#32 := by
  apply BitVec.eq_of_getLsbD_eq
  intro j hj
  rw [BitVec.getLsbD_and, BitVec.getLsbD_and, f255 ⟨j, hj⟩]
  by_cases h8 : j < 8
  · have h1 : k + j < 32 := by omega
    have h2 : ¬ 32 ≤ j := by omega
    simp [BitVec.getLsbD_ushiftRight, BitVec.getLsbD_sshiftRight, h1, h2]
  · simp [h8]
theorem bytF_sh {x k : Int} (h : k = 0 ∨ k = 8 ∨ k = 16 ∨ k = 24) : andI (ushI x k) 255 = andI (shrI x k) 255 := by
  unfold andI ushI shrI
  rw [iI_back, iI_back]
  congr 1
  apply Int32.toBitVec_inj.mp
  rcases h with rfl | rfl | rfl | rfl
  · exact and_sh (iI x).toBitVec 0 (by omega)
  · exact and_sh (iI x).toBitVec 8 (by omega)
  · exact and_sh (iI x).toBitVec 16 (by omega)
  · exact and_sh (iI x).toBitVec 24 (by omega)
theorem bytF_i {x i : Int} (h : 0 ≤ i ∧ i ≤ 3) : bytF x i = andI (shrI x (24 - 8 * i)) 255 := bytF_sh (by omega)
theorem bytF_0 (x : Int) : bytF x 0 = andI (shrI x 24) 255 := bytF_i (by omega)
theorem bytF_1 (x : Int) : bytF x 1 = andI (shrI x 16) 255 := bytF_i (by omega)
theorem bytF_2 (x : Int) : bytF x 2 = andI (shrI x 8) 255 := bytF_i (by omega)
theorem bytF_3 (x : Int) : bytF x 3 = andI (shrI x 0) 255 := bytF_i (by omega)
/-! feed: a chunk of four bytes at a time -/
theorem feL_add (a0 a1 a2 a3 : Int) : ∀ (i j : Nat) (k : Int) (u : (Nat → Int) × Int), feL a0 a1 a2 a3 (i + j) k u = feL a0 a1 a2 a3 j (k + i) (feL a0 a1 a2 a3 i k u) := by
  intro i
  induction i with
  | zero => intro j k u; simp only [feL, Nat.zero_add]; congr 1; omega
  | succ i ih =>
    intro j k u
    rw [show i + 1 + j = (i + j) + 1 by omega]
    simp only [feL]
    rw [ih]
    congr 1
    omega
theorem feL_ab {a0 a1 a2 a3 x c : Int} (hc : c = 0 ∧ x = a0 ∨ c = 4 ∧ x = a1 ∨ c = 8 ∧ x = a2 ∨ c = 12 ∧ x = a3) : ∀ (q j : Nat) (i n : Int) (u : (Nat → Int) × Int), 0 ≤ i → i + j = 4 → (q : Int) = min (n - i) j → 0 ≤ n - i → feL a0 a1 a2 a3 q (c + i) u = abL x n j i u := by
  intro q
  induction q with
  | zero =>
    intro j i n u hi hj hq hn
    cases j with
    | zero => rfl
    | succ j => simp only [feL, abL]; rw [if_neg (by omega)]
  | succ q ih =>
    intro j i n u hi hj hq hn
    cases j with
    | zero => omega
    | succ j =>
      simp only [feL, abL]
      rw [if_pos (by omega), bytF_i (by omega)]
      have e1 : (c + i) % 4 = i := by rcases hc with h | h | h | h <;> omega
      have e2 : feC a0 a1 a2 a3 (c + i) = x := by
        unfold feC
        rcases hc with h | h | h | h
        · rw [if_pos (by omega)]; exact h.2.symm
        · rw [if_neg (by omega), if_pos (by omega)]; exact h.2.symm
        · rw [if_neg (by omega), if_neg (by omega), if_pos (by omega)]; exact h.2.symm
        · rw [if_neg (by omega), if_neg (by omega), if_neg (by omega)]; exact h.2.symm
      rw [e1, e2, show c + i + 1 = c + (i + 1) by omega]
      exact ih j (i + 1) n _ (by omega) (by omega) (by omega) (by omega)
theorem abL_0 {x n : Int} (h : n ≤ 0) (j : Nat) (u : (Nat → Int) × Int) : abL x n j 0 u = u := by
  cases j with
  | zero => rfl
  | succ j => simp only [abL]; rw [if_neg (by omega)]
theorem feL_c {a0 a1 a2 a3 x c : Int} (hc : c = 0 ∧ x = a0 ∨ c = 4 ∧ x = a1 ∨ c = 8 ∧ x = a2 ∨ c = 12 ∧ x = a3) {n : Int} (u : (Nat → Int) × Int) : feL a0 a1 a2 a3 (min n 4).toNat c u = abM x n u := by
  unfold abM
  by_cases h : 0 ≤ n
  · have := feL_ab hc (min n 4).toNat 4 0 n u (by omega) (by omega) (by omega) (by omega)
    rw [show c + 0 = c by omega] at this
    exact this
  · rw [abL_0 (by omega), show (min n 4).toNat = 0 by omega]; rfl
theorem feM_4 {a0 a1 a2 a3 n : Int} (h : 0 ≤ n ∧ n ≤ 16) (u : (Nat → Int) × Int) : feM a0 a1 a2 a3 n u = fd4 n a0 a1 a2 a3 u := by
  unfold feM fd4
  have e : n.toNat = (min n 4).toNat + ((min (n - 4) 4).toNat + ((min (n - 8) 4).toNat + (min (n - 12) 4).toNat)) := by omega
  rw [e, feL_add, feL_c (c := 0) (x := a0) (Or.inl ⟨rfl, rfl⟩), feL_add, feL_add]
  by_cases h4 : 4 ≤ n
  · rw [show (0 : Int) + ((min n 4).toNat : Int) = 4 by omega, feL_c (c := 4) (x := a1) (Or.inr (Or.inl ⟨rfl, rfl⟩))]
    by_cases h8 : 8 ≤ n
    · rw [show (4 : Int) + ((min (n - 4) 4).toNat : Int) = 8 by omega, feL_c (c := 8) (x := a2) (Or.inr (Or.inr (Or.inl ⟨rfl, rfl⟩)))]
      by_cases h12 : 12 ≤ n
      · rw [show (8 : Int) + ((min (n - 8) 4).toNat : Int) = 12 by omega, feL_c (c := 12) (x := a3) (Or.inr (Or.inr (Or.inr ⟨rfl, rfl⟩)))]
      · rw [show (min (n - 12) 4).toNat = 0 by omega]
        simp only [feL]
        unfold abM
        rw [abL_0 (x := a3) (n := n - 12) (by omega)]
    · rw [show (min (n - 12) 4).toNat = 0 by omega, show (min (n - 8) 4).toNat = 0 by omega]
      simp only [feL]
      unfold abM
      rw [abL_0 (x := a3) (n := n - 12) (by omega), abL_0 (x := a2) (n := n - 8) (by omega)]
  · rw [show (min (n - 12) 4).toNat = 0 by omega, show (min (n - 8) 4).toNat = 0 by omega, show (min (n - 4) 4).toNat = 0 by omega]
    simp only [feL]
    unfold abM
    rw [abL_0 (x := a3) (n := n - 12) (by omega), abL_0 (x := a2) (n := n - 8) (by omega), abL_0 (x := a1) (n := n - 4) (by omega)]
/-! bytes below the count, both sides -/
def BYe (cb ub : Nat → Int) (n : Int) : Prop := ∀ j : Nat, (j : Int) < n → cb j = ub j
theorem abL_e {x k : Int} : ∀ (j : Nat) (i : Int) (f g : Nat → Int) (n : Int), 0 ≤ n → BYe f g n → (abL x k j i (f, n)).2 = (abL x k j i (g, n)).2 ∧ 0 ≤ (abL x k j i (f, n)).2 ∧ BYe (abL x k j i (f, n)).1 (abL x k j i (g, n)).1 (abL x k j i (f, n)).2 := by
  intro j
  induction j with
  | zero => intro i f g n hn h; exact ⟨rfl, hn, h⟩
  | succ j ih =>
    intro i f g n hn h
    simp only [abL]
    by_cases c : i < k
    · rw [if_pos c, if_pos c]
      refine ih (i + 1) _ _ (n + 1) (by omega) (fun q hq => ?_)
      unfold va_up
      by_cases e : q = n.toNat
      · rw [if_pos e, if_pos e]
      · rw [if_neg e, if_neg e]; exact h q (by omega)
    · rw [if_neg c, if_neg c]; exact ⟨rfl, hn, h⟩
theorem abM_e {x k : Int} {u v : (Nat → Int) × Int} (hn : 0 ≤ u.2) (he : u.2 = v.2) (h : BYe u.1 v.1 u.2) : (abM x k u).2 = (abM x k v).2 ∧ 0 ≤ (abM x k u).2 ∧ BYe (abM x k u).1 (abM x k v).1 (abM x k u).2 := by
  obtain ⟨f, n⟩ := u
  obtain ⟨g, m⟩ := v
  dsimp only at hn he h
  subst he
  exact abL_e 4 0 f g n hn h
theorem fd4_e {n a b c d : Int} {u v : (Nat → Int) × Int} (hn : 0 ≤ u.2) (he : u.2 = v.2) (h : BYe u.1 v.1 u.2) : (fd4 n a b c d u).2 = (fd4 n a b c d v).2 ∧ BYe (fd4 n a b c d u).1 (fd4 n a b c d v).1 (fd4 n a b c d u).2 := by
  unfold fd4
  obtain ⟨e1, p1, q1⟩ := abM_e (x := a) (k := n) hn he h
  obtain ⟨e2, p2, q2⟩ := abM_e (x := b) (k := n - 4) p1 e1 q1
  obtain ⟨e3, p3, q3⟩ := abM_e (x := c) (k := n - 8) p2 e2 q2
  obtain ⟨e4, p4, q4⟩ := abM_e (x := d) (k := n - 12) p3 e3 q3
  exact ⟨e4, q4⟩
/-- feed, both sides: the model's bytes cb, the other's ub -/
theorem fe_both {n a b c d : Int} {cb ub f9 g9 : Nat → Int} {z n9 m9 : Int} (hz : 0 ≤ z) (hn : 0 ≤ n ∧ n ≤ 16) (h : BYe cb ub z) (h1 : (f9, n9) = fd4 n a b c d (ub, z)) (h2 : (g9, m9) = feM a b c d n (cb, z)) : m9 = n9 ∧ BYe g9 f9 m9 := by
  rw [feM_4 hn] at h2
  obtain ⟨e1, e2⟩ := fd4_e (n := n) (a := a) (b := b) (c := c) (d := d) (u := (cb, z)) (v := (ub, z)) hz rfl h
  rw [← h1, ← h2] at e1 e2
  exact ⟨e1, e2⟩
/-! type: the line -/
def aSL (x : Int) : Nat → Int → (Nat → Int) × Int → (Nat → Int) × Int
  | 0, _, u => u
  | j + 1, i, u => aSL x j (i + 1) (if bytF x i = 0 then u else (va_up u.1 u.2.toNat (bytF x i), u.2 + 1))
theorem ciL_v {x : Int} : ∀ (j : Nat) (i v : Int), ciL x j i v = v + ciL x j i 0 := by
  intro j
  induction j with
  | zero => intro i v; simp only [ciL]; omega
  | succ j ih =>
    intro i v
    simp only [ciL]
    rw [ih (i + 1) (if bytF x i = 0 then v else v + 1), ih (i + 1) (if bytF x i = 0 then 0 else 0 + 1)]
    split <;> omega
theorem ciL_s {x : Int} (j : Nat) (i : Int) : ciL x (j + 1) i 0 = (if bytF x i = 0 then 0 else 1) + ciL x j (i + 1) 0 := by
  simp only [ciL]
  rw [ciL_v]
  split <;> omega
theorem ciL_p {x : Int} (j : Nat) (i : Int) : 0 ≤ ciL x j i 0 := (ciL_r j i 0).1
theorem aSL_2 {x : Int} : ∀ (j : Nat) (i : Int) (u : (Nat → Int) × Int), (aSL x j i u).2 = u.2 + ciL x j i 0 := by
  intro j
  induction j with
  | zero => intro i u; simp only [aSL, ciL]; omega
  | succ j ih =>
    intro i u
    rw [ciL_s]
    simp only [aSL]
    rw [ih]
    split <;> first | omega | (dsimp only; omega)
theorem aSL_0 {x : Int} : ∀ (j : Nat) (i : Int) (u : (Nat → Int) × Int), ciL x j i 0 = 0 → aSL x j i u = u := by
  intro j
  induction j with
  | zero => intro i u h; rfl
  | succ j ih =>
    intro i u h
    rw [ciL_s] at h
    have hp := ciL_p (x := x) j (i + 1)
    simp only [aSL]
    by_cases c : bytF x i = 0
    · rw [if_pos c]
      rw [if_pos c] at h
      exact ih (i + 1) u (by omega)
    · rw [if_neg c] at h; omega
theorem acL_S {x : Int} : ∀ (j : Nat) (i : Int) (u : (Nat → Int) × Int), u.2 + ciL x j i 0 ≤ 100 → acL x j i u = aSL x j i u := by
  intro j
  induction j with
  | zero => intro i u h; rfl
  | succ j ih =>
    intro i u h
    by_cases c : u.2 < 100
    · simp only [acL, aSL]
      rw [if_pos c]
      apply ih
      rw [ciL_s] at h
      split
      · rename_i q; rw [if_pos q] at h; omega
      · rename_i q; rw [if_neg q] at h; dsimp only; omega
    · have hp := ciL_p (x := x) (j + 1) i
      rw [aSL_0 (j + 1) i u (by omega)]
      simp only [acL]
      rw [if_neg c]
def RLN (ca ul : Nat → Int) (n : Int) : Prop := ∀ j : Nat, (j : Int) < n → ul j = ca (4000 + j)
theorem pu_r (x sh : Int) : 0 ≤ andI (shrI x sh) 255 := (and255_r _).1
theorem puN_S {x : Int} : ∀ (j : Nat) (i : Int) (f g : Nat → Int) (n : Int), 0 ≤ i → i + j = 4 → 0 ≤ n → n + ciL x j i 0 ≤ 100 → RLN g f n → (puN x j (24 - 8 * i) (g, n)).2 = n + ciL x j i 0 ∧ RLN (puN x j (24 - 8 * i) (g, n)).1 (aSL x j i (f, n)).1 (n + ciL x j i 0) := by
  intro j
  induction j with
  | zero => intro i f g n hi hj hn hc h; simp only [puN, aSL, ciL]; exact ⟨by omega, by rw [show n + 0 = n by omega]; exact h⟩
  | succ j ih =>
    intro i f g n hi hj hn hc h
    have hp := ciL_p (x := x) j (i + 1)
    rw [ciL_s] at hc ⊢
    simp only [puN, aSL]
    rw [show (24 : Int) - 8 * i - 8 = 24 - 8 * (i + 1) by omega]
    have hb : bytF x i = andI (shrI x (24 - 8 * i)) 255 := bytF_i (by omega)
    have hr := pu_r x (24 - 8 * i)
    by_cases c : bytF x i = 0
    · rw [if_pos c]
      rw [if_pos c] at hc ⊢
      have e : puM (g, n) x (24 - 8 * i) = (g, n) := by unfold puM; rw [if_neg (by omega)]
      rw [e, show n + (0 + ciL x j (i + 1) 0) = n + ciL x j (i + 1) 0 by omega]
      exact ih (i + 1) f g n (by omega) (by omega) hn (by omega) h
    · rw [if_neg c]
      rw [if_neg c] at hc ⊢
      have e : puM (g, n) x (24 - 8 * i) = (va_up g (4000 + n).toNat (bytF x i), n + 1) := by unfold puM; rw [if_pos (by omega)]; dsimp only; rw [if_pos (by omega), hb]
      rw [e, show n + (1 + ciL x j (i + 1) 0) = (n + 1) + ciL x j (i + 1) 0 by omega]
      refine ih (i + 1) _ _ (n + 1) (by omega) (by omega) (by omega) (by omega) (fun q hq => ?_)
      unfold va_up
      by_cases eq : q = n.toNat
      · rw [if_pos eq, if_pos (by omega)]
      · rw [if_neg eq, if_neg (by omega)]; exact h q (by omega)
theorem pu4_S {x : Int} {f g : Nat → Int} {n : Int} (hn : 0 ≤ n) (hc : n + ciM x ≤ 100) (h : RLN g f n) : (pu4 (g, n) x).2 = n + ciM x ∧ (acM x (f, n)).2 = n + ciM x ∧ RLN (pu4 (g, n) x).1 (acM x (f, n)).1 (n + ciM x) := by
  unfold ciM at hc
  have e : acM x (f, n) = aSL x 4 0 (f, n) := acL_S 4 0 (f, n) hc
  have := puN_S (x := x) 4 0 f g n (by omega) (by omega) hn hc h
  rw [e]
  unfold ciM
  exact ⟨this.1, aSL_2 4 0 (f, n), this.2⟩
theorem pu4_S2 {x : Int} {u v : (Nat → Int) × Int} (hn : 0 ≤ u.2) (he : v.2 = u.2) (hc : u.2 + ciM x ≤ 100) (h : RLN v.1 u.1 u.2) : (pu4 v x).2 = u.2 + ciM x ∧ (acM x u).2 = u.2 + ciM x ∧ RLN (pu4 v x).1 (acM x u).1 (u.2 + ciM x) := by
  obtain ⟨f, n⟩ := u
  obtain ⟨g, m⟩ := v
  dsimp only at hn he hc h ⊢
  subst he
  exact pu4_S hn hc h
theorem tyM_5 (a b c d e : Int) (u : (Nat → Int) × Int) : tyM a b c d e u = pu4 (pu4 (pu4 (pu4 (pu4 u a) b) c) d) e := by
  unfold tyM
  simp only [tyN]
  rfl
theorem puN_2 {x : Int} : ∀ (j : Nat) (i : Int) (v : (Nat → Int) × Int), 0 ≤ i → i + j = 4 → (puN x j (24 - 8 * i) v).2 = v.2 + ciL x j i 0 := by
  intro j
  induction j with
  | zero => intro i v hi hj; simp only [puN, ciL]; omega
  | succ j ih =>
    intro i v hi hj
    rw [ciL_s]
    simp only [puN]
    rw [show (24 : Int) - 8 * i - 8 = 24 - 8 * (i + 1) by omega, ih (i + 1) _ (by omega) (by omega)]
    have hb : bytF x i = andI (shrI x (24 - 8 * i)) 255 := bytF_i (by omega)
    have hr := pu_r x (24 - 8 * i)
    unfold puM
    by_cases c : bytF x i = 0
    · rw [if_pos c, if_neg (by omega)]; omega
    · rw [if_neg c, if_pos (by omega)]; dsimp only; omega
theorem pu4_2 (x : Int) (v : (Nat → Int) × Int) : (pu4 v x).2 = v.2 + ciM x := by
  have := puN_2 (x := x) 4 0 v (by omega) (by omega)
  unfold ciM
  exact this
theorem tyM_2 (a b c d e : Int) (u : (Nat → Int) × Int) : (tyM a b c d e u).2 = u.2 + (ciM a + ciM b + ciM c + ciM d + ciM e) := by
  rw [tyM_5, pu4_2, pu4_2, pu4_2, pu4_2, pu4_2]; omega
theorem puN_lo {x : Int} {N : Nat} : ∀ (j : Nat) (sh : Int) (v : (Nat → Int) × Int), (N : Int) ≤ 4000 + v.2 → 0 ≤ v.2 → ∀ q : Nat, q < N → (puN x j sh v).1 q = v.1 q := by
  intro j
  induction j with
  | zero => intro sh v _ _ q _; rfl
  | succ j ih =>
    intro sh v h1 h2 q hq
    simp only [puN]
    have e : (puM v x sh).1 q = v.1 q ∧ v.2 ≤ (puM v x sh).2 := by
      unfold puM
      split
      · split
        · dsimp only; exact ⟨by unfold va_up; rw [if_neg (by omega)], by omega⟩
        · dsimp only; exact ⟨rfl, by omega⟩
      · exact ⟨rfl, by omega⟩
    rw [ih _ _ (by omega) (by omega) q hq]
    exact e.1
theorem pu4_lo {x : Int} {N : Nat} (v : (Nat → Int) × Int) (h1 : (N : Int) ≤ 4000 + v.2) (h2 : 0 ≤ v.2) (q : Nat) (hq : q < N) : (pu4 v x).1 q = v.1 q := puN_lo 4 24 v h1 h2 q hq
theorem tyM_lo {a b c d e : Int} {N : Nat} (u : (Nat → Int) × Int) (h1 : (N : Int) ≤ 4000 + u.2) (h2 : 0 ≤ u.2) (q : Nat) (hq : q < N) : (tyM a b c d e u).1 q = u.1 q := by
  have r1 := ciM_r a
  have r2 := ciM_r b
  have r3 := ciM_r c
  have r4 := ciM_r d
  have p1 := pu4_2 a u
  have p2 := pu4_2 b (pu4 u a)
  have p3 := pu4_2 c (pu4 (pu4 u a) b)
  have p4 := pu4_2 d (pu4 (pu4 (pu4 u a) b) c)
  rw [tyM_5, pu4_lo _ (by omega) (by omega) q hq, pu4_lo _ (by omega) (by omega) q hq, pu4_lo _ (by omega) (by omega) q hq, pu4_lo _ (by omega) (by omega) q hq, pu4_lo _ h1 h2 q hq]
/-- type, both sides, where it fits -/
theorem ty_both {a b c d e : Int} {ca ul : Nat → Int} {n : Int} (hn : 0 ≤ n) (hc : n + (ciM a + ciM b + ciM c + ciM d + ciM e) ≤ 100) (h : RLN ca ul n) : (ty5 a b c d e (ul, n)).2 = n + (ciM a + ciM b + ciM c + ciM d + ciM e) ∧ RLN (tyM a b c d e (ca, n)).1 (ty5 a b c d e (ul, n)).1 (n + (ciM a + ciM b + ciM c + ciM d + ciM e)) := by
  have r1 := ciM_r a
  have r2 := ciM_r b
  have r3 := ciM_r c
  have r4 := ciM_r d
  have r5 := ciM_r e
  rw [tyM_5]
  unfold ty5
  obtain ⟨x1, y1, z1⟩ := pu4_S2 (x := a) (u := (ul, n)) (v := (ca, n)) hn rfl (by dsimp only; omega) h
  dsimp only at x1 y1 z1
  obtain ⟨x2, y2, z2⟩ := pu4_S2 (x := b) (u := acM a (ul, n)) (v := pu4 (ca, n) a) (by omega) (by omega) (by omega) (by rw [y1]; exact z1)
  obtain ⟨x3, y3, z3⟩ := pu4_S2 (x := c) (u := acM b (acM a (ul, n))) (v := pu4 (pu4 (ca, n) a) b) (by omega) (by omega) (by omega) (by rw [y2]; exact z2)
  obtain ⟨x4, y4, z4⟩ := pu4_S2 (x := d) (u := acM c (acM b (acM a (ul, n)))) (v := pu4 (pu4 (pu4 (ca, n) a) b) c) (by omega) (by omega) (by omega) (by rw [y3]; exact z3)
  obtain ⟨x5, y5, z5⟩ := pu4_S2 (x := e) (u := acM d (acM c (acM b (acM a (ul, n))))) (v := pu4 (pu4 (pu4 (pu4 (ca, n) a) b) c) d) (by omega) (by omega) (by omega) (by rw [y4]; exact z4)
  refine ⟨by omega, ?_⟩
  rw [show n + (ciM a + ciM b + ciM c + ciM d + ciM e) = (acM d (acM c (acM b (acM a (ul, n))))).2 + ciM e by omega]
  exact z5

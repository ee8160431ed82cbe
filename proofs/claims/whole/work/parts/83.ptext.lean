/-! TEXTS of a RECORD: both sides -/
theorem vu_n {α : Type} {f : Nat → α} {k j : Nat} {v : α} (h : j ≠ k) : va_up f k v j = f j := by unfold va_up; rw [if_neg h]
theorem vu_e {α : Type} {f : Nat → α} {k : Nat} {v : α} : va_up f k v k = v := by unfold va_up; rw [if_pos rfl]
theorem vu_vu {α : Type} {f : Nat → α} {k : Nat} {v w : α} : va_up (va_up f k v) k w = va_up f k w := by
  funext j
  by_cases h : j = k
  · subst h; rw [vu_e, vu_e]
  · rw [vu_n h, vu_n h, vu_n h]
abbrev E4 : Type := Int × Int × Int × Int
def tl4 (u : St4) : List E4 := (List.range u.2.2.2.2.toNat).map (fun j => (u.1 j, u.2.1 j, u.2.2.1 j, u.2.2.2.1 j))
def g1T (ix : Int) (e : E4) : List (Int × Int) := if (ix = 0 ∧ e.1 ≠ 5) ∨ (ix ≠ 0 ∧ e.1 = ix) then [(if ix = 1 then min (e.2.1 + e.2.2.2) e.2.2.1 else e.2.1, e.2.2.1)] else []
def Z4 (u : St4) : Prop := 0 ≤ u.2.2.2.2 ∧ ∀ j : Nat, u.2.2.2.2 ≤ j → u.2.2.2.1 j = 0
def shF (s : Int) (q : Int × Int) : Int × Int := (s + q.1, s + q.2)
def tx4 (s ix : Int) (u : St4) : List (Int × Int) := ((tl4 u).flatMap (g1T ix)).map (shF s)
theorem txL_4 {ti ts te tl : Nat → Int} {tc ix : Int} : ∀ (k i : Nat), (i : Int) + k = tc → txL ti ts te tl tc ix k i = ((List.range' i k).map (fun j => (ti j, ts j, te j, tl j))).flatMap (g1T ix) := by
  intro k
  induction k with
  | zero => intro i _; rfl
  | succ k ih =>
    intro i hi
    rw [List.range'_succ, List.map_cons, List.flatMap_cons, ← ih (i + 1) (by omega)]
    simp only [txL]
    rw [show (((i + 1 : Nat)) : Int) = (i : Int) + 1 by omega]
    have e1 : (i : Int).toNat = i := Int.toNat_natCast i
    unfold g1T
    dsimp only
    by_cases h : (ix = 0 ∧ ti i ≠ 5) ∨ (ix ≠ 0 ∧ ti i = ix)
    · rw [if_pos h, if_pos (show txIn ti tc i ix = true by unfold txIn; rw [e1]; exact decide_eq_true ⟨by omega, by omega, h⟩)]
      unfold txSt txEn
      rw [if_pos (show 0 ≤ (i : Int) ∧ (i : Int) < tc by omega), if_pos (show 0 ≤ (i : Int) ∧ (i : Int) < tc by omega), e1, List.singleton_append]
    · rw [if_neg h, if_neg (show ¬ txIn ti tc i ix = true by unfold txIn; rw [e1]; intro q; exact h (of_decide_eq_true q).2.2), List.nil_append]
theorem txs_4 {d : HD} {ix : Int} (h : 0 ≤ d.tc) : txs d ix = (tl4 (d.ti, d.ts, d.te, d.tl, d.tc)).flatMap (g1T ix) := by
  unfold txs tl4
  have := txL_4 (ti := d.ti) (ts := d.ts) (te := d.te) (tl := d.tl) (tc := d.tc) (ix := ix) d.tc.toNat 0 (by omega)
  rw [List.range_eq_range']
  exact this
theorem tl4_aT {u : St4} {i a b : Int} (h : 0 ≤ u.2.2.2.2) : tl4 (aT u i a b) = tl4 u ++ [(i, a, b, u.2.2.2.1 u.2.2.2.2.toNat)] := by
  unfold tl4 aT
  dsimp only
  rw [show (u.2.2.2.2 + 1).toNat = u.2.2.2.2.toNat + 1 by omega, List.range_succ, List.map_append]
  congr 1
  · refine List.map_congr_left (fun j hj => ?_)
    have hj := List.mem_range.mp hj
    rw [vu_n (by omega), vu_n (by omega), vu_n (by omega)]
  · rw [List.map_cons, List.map_nil, vu_e, vu_e, vu_e]
theorem tl4_lO {u : St4} {i a b l : Int} (h : 0 ≤ u.2.2.2.2) : tl4 (lO (aT u i a b) l) = tl4 u ++ [(i, a, b, l)] := by
  unfold tl4 lO aT
  dsimp only
  rw [show u.2.2.2.2 + 1 - 1 = u.2.2.2.2 by omega, show (u.2.2.2.2 + 1).toNat = u.2.2.2.2.toNat + 1 by omega, List.range_succ, List.map_append]
  congr 1
  · refine List.map_congr_left (fun j hj => ?_)
    have hj := List.mem_range.mp hj
    rw [vu_n (by omega), vu_n (by omega), vu_n (by omega), vu_n (by omega)]
  · rw [List.map_cons, List.map_nil, vu_e, vu_e, vu_e, vu_e]
theorem eT_aT {u : St4} {i a b k : Int} : eT (aT u i a b) k = aT u i a k := by
  unfold eT aT
  dsimp only
  rw [show u.2.2.2.2 + 1 - 1 = u.2.2.2.2 by omega, vu_vu]
theorem eT_lO {u : St4} {i a b k l : Int} : eT (lO (aT u i a b) l) k = lO (aT u i a k) l := by
  unfold eT lO aT
  dsimp only
  rw [show u.2.2.2.2 + 1 - 1 = u.2.2.2.2 by omega, vu_vu]
theorem eT_eT {u : St4} {a b : Int} : eT (eT u a) b = eT u b := by
  unfold eT
  dsimp only
  rw [vu_vu]
theorem rsL_e {t : Nat → Int} {tag st : Int} : ∀ (k : Nat) (x : Int) (u : St4), (∀ z : Int, x ≤ z → z < x + k → t z.toNat ≠ 31) → rsL t tag st k x u = if k = 0 then u else eT u (x + k) := by
  intro k
  induction k with
  | zero => intro x u _; rw [if_pos rfl]; rfl
  | succ k ih =>
    intro x u h
    simp only [rsL]
    have e : rsS t tag st u x = eT u (x + 1) := by unfold rsS; rw [if_neg (h x (by omega) (by omega))]
    rw [e, ih (x + 1) _ (fun z z1 z2 => h z (by omega) (by omega)), if_neg (show ¬ k + 1 = 0 by omega)]
    by_cases hk : k = 0
    · subst hk; rw [if_pos rfl]; rfl
    · rw [if_neg hk, eT_eT, show x + 1 + (k : Int) = x + ((k + 1 : Nat) : Int) by omega]
theorem rsL_add {t : Nat → Int} {tag st : Int} : ∀ (a b : Nat) (x : Int) (u : St4), rsL t tag st (a + b) x u = rsL t tag st b (x + a) (rsL t tag st a x u) := by
  intro a
  induction a with
  | zero => intro b x u; rw [Nat.zero_add, show x + ((0 : Nat) : Int) = x by omega]; rfl
  | succ a ih =>
    intro b x u
    rw [show a + 1 + b = (a + b) + 1 by omega]
    simp only [rsL]
    rw [ih b (x + 1), show x + 1 + (a : Int) = x + ((a + 1 : Nat) : Int) by omega]
def loF (t : Nat → Int) (st q : Int) : Int := if t (q + 1).toNat = 97 ∧ isDig (t (st + 1).toNat) = true then t (st + 1).toNat - 48 else 0
theorem rsL_sp {t : Nat → Int} {tag st q to : Int} {u : St4} (hq : t q.toNat = 31) (h2 : q + 2 ≤ to) (hn : ∀ z : Int, q + 1 ≤ z → z < to → t z.toNat ≠ 31) (hZ : Z4 u) : tl4 (rsL t tag st (to - q).toNat q u) = tl4 u ++ [(ixOf tag (t (q + 1).toNat), q + 2, to, loF t st q)] ∧ Z4 (rsL t tag st (to - q).toNat q u) := by
  obtain ⟨hZ0, hZ1⟩ := hZ
  rw [show (to - q).toNat = (to - (q + 1)).toNat + 1 by omega]
  simp only [rsL]
  rw [rsL_e _ _ _ (fun z z1 z2 => hn z z1 (by omega)), if_neg (by omega), show q + 1 + (((to - (q + 1)).toNat : Nat) : Int) = to by omega]
  unfold rsS loF
  rw [if_pos hq]
  by_cases c : t (q + 1).toNat = 97 ∧ isDig (t (st + 1).toNat) = true
  · rw [if_pos c, if_pos c, eT_lO, tl4_lO hZ0]
    refine ⟨rfl, ?_, ?_⟩
    · show 0 ≤ u.2.2.2.2 + 1; omega
    · intro j hj
      have hj : u.2.2.2.2 + 1 ≤ (j : Int) := hj
      show va_up u.2.2.2.1 (u.2.2.2.2 + 1 - 1).toNat _ j = 0
      rw [vu_n (by omega)]
      exact hZ1 j (by omega)
  · rw [if_neg c, if_neg c, eT_aT, tl4_aT hZ0, hZ1 _ (by omega)]
    refine ⟨rfl, ?_, ?_⟩
    · show 0 ≤ u.2.2.2.2 + 1; omega
    · intro j hj
      have hj : u.2.2.2.2 + 1 ≤ (j : Int) := hj
      exact hZ1 j (by omega)
theorem nxt31 {t : Nat → Int} {en : Int} : ∀ (n : Nat) (x : Int), x + n = en → ∃ to : Int, x ≤ to ∧ to ≤ en ∧ (∀ z : Int, x ≤ z → z < to → t z.toNat ≠ 31) ∧ (to = en ∨ t to.toNat = 31) := by
  intro n
  induction n with
  | zero => intro x h; exact ⟨x, by omega, by omega, fun z z1 z2 => by omega, Or.inl (by omega)⟩
  | succ n ih =>
    intro x h
    by_cases h1 : t x.toNat = 31
    · exact ⟨x, by omega, by omega, fun z z1 z2 => by omega, Or.inr h1⟩
    · obtain ⟨to, a, b, c, d⟩ := ih (x + 1) (by omega)
      refine ⟨to, by omega, b, ?_, d⟩
      intro z z1 z2
      by_cases q : z = x
      · rw [q]; exact h1
      · exact c z (by omega) z2
theorem toL_is {f : Nat → Int} {to : Int} (ht : f to.toNat = 30 ∨ f to.toNat = 31) : ∀ (k : Nat) (x : Int), x ≤ to → (to - x).toNat < k → (∀ z : Int, x ≤ z → z < to → f z.toNat ≠ 30 ∧ f z.toNat ≠ 31) → toL f k x = to := by
  intro k
  induction k with
  | zero => intro x _ h; omega
  | succ k ih =>
    intro x h1 h2 hz
    simp only [toL]
    by_cases e : x = to
    · subst e; rw [if_pos ht]
    · have := hz x (by omega) (by omega)
      rw [if_neg (fun q => q.elim this.1 this.2)]
      exact ih (x + 1) (by omega) (by omega) (fun z z1 z2 => hz z (by omega) z2)
theorem ofI {ix tag cd : Int} : isOfF ix tag cd = true ↔ ((ix = 0 ∧ ixOf tag cd ≠ 5) ∨ (ix ≠ 0 ∧ ixOf tag cd = ix)) := by
  unfold isOfF ixOf
  rw [decide_eq_true_eq]
  (repeat' split) <;> omega
theorem gp1_g {t f : Nat → Int} {s ix tag st q to : Int} (h1 : f (s + q + 1).toNat = t (q + 1).toNat) (h2 : f (s + st + 1).toNat = t (st + 1).toNat) (h3 : q + 2 ≤ to) : (g1T ix (ixOf tag (t (q + 1).toNat), q + 2, to, loF t st q)).map (shF s) = gp1 f ix tag (s + st) (s + q) (s + to) := by
  unfold gp1 g1T skF loF
  dsimp only
  rw [h1, h2]
  by_cases c : isOfF ix tag (t (q + 1).toNat) = true
  · rw [if_pos c, if_pos (ofI.mp c), List.map_cons, List.map_nil]
    unfold shF
    dsimp only
    have e : (s + if ix = 1 then min (q + 2 + if t (q + 1).toNat = 97 ∧ isDig (t (st + 1).toNat) = true then t (st + 1).toNat - 48 else 0) to else q + 2) = if s + q + 2 + (if ix = 1 ∧ t (q + 1).toNat = 97 ∧ isDig (t (st + 1).toNat) = true then t (st + 1).toNat - 48 else 0) < s + to then s + q + 2 + (if ix = 1 ∧ t (q + 1).toNat = 97 ∧ isDig (t (st + 1).toNat) = true then t (st + 1).toNat - 48 else 0) else s + to := by
      by_cases c1 : ix = 1
      · rw [if_pos c1]
        by_cases c2 : t (q + 1).toNat = 97 ∧ isDig (t (st + 1).toNat) = true
        · rw [if_pos c2, if_pos (And.intro c1 c2)]; split <;> omega
        · rw [if_neg c2, if_neg (show ¬ (ix = 1 ∧ t (q + 1).toNat = 97 ∧ isDig (t (st + 1).toNat) = true) from fun z => c2 z.2)]; split <;> omega
      · rw [if_neg c1, if_neg (show ¬ (ix = 1 ∧ t (q + 1).toNat = 97 ∧ isDig (t (st + 1).toNat) = true) from fun z => c1 z.1)]; split <;> omega
    rw [e]
  · rw [if_neg c, if_neg (fun z => c (ofI.mpr z))]; rfl
theorem rsL_gp {t f : Nat → Int} {n : Nat} {s ix tag st en : Int} (hf : ∀ j : Int, 0 ≤ j → j < n → f (s + j).toNat = t j.toNat) (hst : 0 ≤ st ∧ st + 4 ≤ en ∧ en < n ∧ en < st + 400) (h30 : t en.toNat = 30) (hno : ∀ z : Int, st ≤ z → z < en → t z.toNat ≠ 30) (hmk : ∀ z : Int, st ≤ z → z < en → t z.toNat = 31 → st + 2 ≤ z ∧ z + 1 < en ∧ t (z + 1).toNat ≠ 31) : ∀ (k : Nat) (q : Int) (u : St4), st + 2 ≤ q → q ≤ en → (q < en → t q.toNat = 31) → (en - q).toNat < k → Z4 u → tx4 s ix (rsL t tag st (en - q).toNat q u) = tx4 s ix u ++ gpT f ix tag (s + st) (s + en) k (s + q) ∧ Z4 (rsL t tag st (en - q).toNat q u) := by
  intro k
  induction k with
  | zero => intro q u _ _ _ h; omega
  | succ k ih =>
    intro q u h1 h2 hq hk hZ
    simp only [gpT]
    by_cases c : q = en
    · subst c
      rw [if_pos (by omega), show (q - q).toNat = 0 by omega, List.append_nil]
      exact ⟨rfl, hZ⟩
    · rw [if_neg (by omega)]
      have hq := hq (by omega)
      have hm := hmk q (by omega) (by omega) hq
      obtain ⟨to, t1, t2, t3, t4⟩ := nxt31 (t := t) (en := en) (en - (q + 2)).toNat (q + 2) (by omega)
      have eto : toA f (s + q + 2) = s + to := by
        unfold toA
        refine toL_is ?_ 500 (s + q + 2) (by omega) (by omega) ?_
        · rw [hf to (by omega) (by omega)]
          rcases t4 with t4 | t4
          · rw [t4]; exact Or.inl h30
          · exact Or.inr t4
        · intro z z1 z2
          have e : f z.toNat = t (z - s).toNat := by rw [← hf (z - s) (by omega) (by omega), show s + (z - s) = z by omega]
          rw [e]
          exact ⟨hno _ (by omega) (by omega), t3 _ (by omega) (by omega)⟩
      rw [eto]
      obtain ⟨s1, s2⟩ := rsL_sp (tag := tag) (st := st) hq t1 (fun z z1 z2 => by
        by_cases e : z = q + 1
        · rw [e]; exact hm.2.2
        · exact t3 z (by omega) z2) hZ
      obtain ⟨i1, i2⟩ := ih to (rsL t tag st (to - q).toNat q u) (by omega) t2 (fun z => t4.elim (fun e => absurd e (by omega)) id) (by omega) s2
      rw [show (en - q).toNat = (to - q).toNat + (en - to).toNat by omega, rsL_add, show q + (((to - q).toNat : Nat) : Int) = to by omega]
      refine ⟨?_, i2⟩
      rw [i1, ← List.append_assoc]
      congr 1
      unfold tx4
      rw [s1, List.flatMap_append, List.map_append]
      congr 1
      rw [List.flatMap_cons, List.flatMap_nil, List.append_nil]
      exact gp1_g (by rw [show s + q + 1 = s + (q + 1) by omega]; exact hf (q + 1) (by omega) (by omega)) (by rw [show s + st + 1 = s + (st + 1) by omega]; exact hf (st + 1) (by omega) (by omega)) t1
/-- a RECORD that both sides hold -/
def RD (ca : Nat → Int) (r : Int) (d : HD) : Prop := ∃ (base fd : Int) (sf : Int → Int), d.n ≤ 400 ∧ RecOK d.t d.n base fd sf ∧ RecX d.t d.n fd sf ∧ numAt d.t d.n 12 5 = base ∧ 1 ≤ fd ∧ d.fd = fd ∧ (d.ti, d.ts, d.te, d.tl, d.tc) = rtL d.t d.n sf fd.toNat 0 (fun _ => 0, fun _ => 0, fun _ => 0, fun _ => 0, 0) ∧ (∀ j : Int, 0 ≤ j → j < d.n → ca (400 * r + j).toNat = d.t j.toNat) ∧ (0 ≤ r ∧ r ≤ 9) ∧ ∀ j, 0 ≤ d.t j ∧ d.t j < 256
theorem numM_A {t f : Nat → Int} {n : Nat} {s : Int} (hf : ∀ j : Int, 0 ≤ j → j < n → f (s + j).toNat = t j.toNat) : ∀ (k : Nat) (x v : Int), 0 ≤ x → x + k ≤ n → numM f k (s + x) v = numL t n k x v := by
  intro k
  induction k with
  | zero => intro x v _ _; rfl
  | succ k ih =>
    intro x v h0 h1
    simp only [numL, numM]
    rw [if_pos (by omega), ← ih (x + 1) _ (by omega) (by omega), hf x h0 (by omega), show s + (x + 1) = s + x + 1 by omega, show 10 * v + (t x.toNat - 48) = 10 * v + t x.toNat - 48 by omega]
theorem tx4_nil {s ix : Int} : tx4 s ix (fun _ => 0, fun _ => 0, fun _ => 0, fun _ => 0, 0) = [] := rfl
theorem rtL_ga {ca t : Nat → Int} {n : Nat} {r ix base fd : Int} {sf : Int → Int} (hr : 0 ≤ r ∧ r ≤ 9) (hn : n ≤ 400) (hf : ∀ j : Int, 0 ≤ j → j < n → ca (400 * r + j).toNat = t j.toNat) (hR : RecOK t n base fd sf) (hX : RecX t n fd sf) (hb : numAt t n 12 5 = base) : ∀ (k : Nat) (e : Int) (u : St4), 0 ≤ e → e + k = fd → Z4 u → tx4 (400 * r) ix (rtL t n sf k e u) = tx4 (400 * r) ix u ++ gaL ca r ix k e ∧ Z4 (rtL t n sf k e u) := by
  obtain ⟨⟨b1, b2, b3⟩, b4, b5, b6, hE⟩ := hR
  have ebase : numM ca 5 (400 * r + 12) 0 = base := by rw [← hb]; exact numM_A hf 5 12 0 (by omega) (by omega)
  intro k
  induction k with
  | zero => intro e u _ _ hZ; simp only [rtL, gaL]; rw [List.append_nil]; exact ⟨rfl, hZ⟩
  | succ k ih =>
    intro e u h0 h1 hZ
    simp only [rtL, gaL]
    obtain ⟨c1, c2, c3, c4, c5, c6⟩ := hE e h0 (by omega)
    obtain ⟨x1, x2, x3⟩ := hX e h0 (by omega)
    have e3 : numM ca 3 (400 * r + 24 + 12 * e) 0 = numAt t n (24 + e * 12) 3 := by
      rw [show 400 * r + 24 + 12 * e = 400 * r + (24 + e * 12) by omega]; exact numM_A hf 3 _ 0 (by omega) (by omega)
    have e5 : numM ca 5 (400 * r + 24 + 12 * e + 7) 0 = numAt t n (24 + e * 12 + 7) 5 := by
      rw [show 400 * r + 24 + 12 * e + 7 = 400 * r + (24 + e * 12 + 7) by omega]; exact numM_A hf 5 _ 0 (by omega) (by omega)
    have e4 : numM ca 4 (400 * r + 24 + 12 * e + 3) 0 = numAt t n (24 + e * 12 + 3) 4 := by
      rw [show 400 * r + 24 + 12 * e + 3 = 400 * r + (24 + e * 12 + 3) by omega]; exact numM_A hf 4 _ 0 (by omega) (by omega)
    have key : tx4 (400 * r) ix (rtS t n sf u e) = tx4 (400 * r) ix u ++ gaE ca r ix e ∧ Z4 (rtS t n sf u e) := by
      unfold rtS gaE
      rw [e3, e5, e4, ebase, show 400 * r + base + numAt t n (24 + e * 12 + 7) 5 = 400 * r + sf e by omega, show 400 * r + sf e + numAt t n (24 + e * 12 + 3) 4 - 1 = 400 * r + (sf (e + 1) - 1) by omega]
      by_cases d1 : numAt t n (24 + e * 12) 3 = 1
      · rw [if_pos d1, if_pos (by omega)]
        obtain ⟨hZ0, hZ1⟩ := hZ
        refine ⟨?_, ?_, ?_⟩
        · unfold tx4
          rw [tl4_aT hZ0, List.flatMap_append, List.map_append]
          congr 1
          rw [List.flatMap_cons, List.flatMap_nil, List.append_nil]
          unfold g1T
          dsimp only
          by_cases q : ix = 5
          · rw [if_pos (show (ix = 0 ∧ (5 : Int) ≠ 5) ∨ (ix ≠ 0 ∧ (5 : Int) = ix) by omega), if_pos (show ix = 5 ∧ numAt t n (24 + e * 12) 3 = 1 from ⟨q, d1⟩), if_neg (show ¬ ix = 1 by omega)]; rfl
          · rw [if_neg (show ¬ ((ix = 0 ∧ (5 : Int) ≠ 5) ∨ (ix ≠ 0 ∧ (5 : Int) = ix)) by omega), if_neg (show ¬ (ix = 5 ∧ numAt t n (24 + e * 12) 3 = 1) from fun z => q z.1)]; rfl
        · show 0 ≤ u.2.2.2.2 + 1; omega
        · intro j hj
          have hj : u.2.2.2.2 + 1 ≤ (j : Int) := hj
          exact hZ1 j (by omega)
      · rw [if_neg d1]
        by_cases d2 : 10 ≤ numAt t n (24 + e * 12) 3
        · obtain ⟨g1, g2⟩ := c6 d2
          rw [if_pos d2, if_neg (by omega)]
          have := rsL_gp (ix := ix) (tag := numAt t n (24 + e * 12) 3) hf (st := sf e) (en := sf (e + 1) - 1) ⟨by omega, by omega, by omega, by omega⟩ x1 x2 (x3 d2) 500 (sf e + 2) u (by omega) (by omega) (fun _ => g2) (by omega) hZ
          unfold gpA
          rw [show 400 * r + sf e + 2 = 400 * r + (sf e + 2) by omega]
          exact this
        · rw [if_neg d2, if_pos (by omega), if_neg (fun z => d1 z.2), List.append_nil]
          exact ⟨rfl, hZ⟩
    obtain ⟨i1, i2⟩ := ih (e + 1) (rtS t n sf u e) (by omega) (by omega) key.2
    refine ⟨?_, i2⟩
    rw [i1, key.1, List.append_assoc]
theorem RD.tx_ {ca : Nat → Int} {r : Int} {d : HD} (h : RD ca r d) (ix : Int) : gaT ca r ix = (txs d ix).map (shF (400 * r)) ∧ 0 ≤ d.tc := by
  obtain ⟨base, fd, sf, h1, h2, h3, h4, h5, h6, h7, h8, h9, h10⟩ := h
  have ebase : numM ca 5 (400 * r + 12) 0 = base := by
    obtain ⟨⟨b1, b2, b3⟩, b4, _⟩ := h2
    rw [← h4]; exact numM_A h8 5 12 0 (by omega) (by omega)
  obtain ⟨i1, i2⟩ := rtL_ga (ix := ix) h9 h1 h8 h2 h3 h4 fd.toNat 0 (fun _ => 0, fun _ => 0, fun _ => 0, fun _ => 0, 0) (by omega) (by omega) ⟨by simp, fun _ _ => rfl⟩
  rw [← h7, tx4_nil, List.nil_append] at i1
  rw [← h7] at i2
  refine ⟨?_, i2.1⟩
  unfold gaT
  rw [ebase, txs_4 i2.1, show ((base - 25) / 12).toNat = fd.toNat by (obtain ⟨⟨b1, b2, b3⟩, b4, _⟩ := h2; omega), ← i1]
  rfl

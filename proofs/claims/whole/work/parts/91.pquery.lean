/-! THE LINE as a query: both sides -/
def AtP (ca : Nat → Int) (e : Int) (u : PS) (i : Nat) : Prop := (u.at_, u.tk, u.tf, u.tt) = rTk ca e i
theorem AtP.next {ca : Nat → Int} {ls : Int} {u : PS} {i : Nat} (h : AtP ca (4000 + ls) u i) : AtP ca (4000 + ls) (nextP ca ls u) (i + 1) := by
  have h1 : u.at_ = (rTk ca (4000 + ls) i).1 := congrArg Prod.fst h
  have h2 : nxM ca (4000 + ls) u.at_ = nxM ca (4000 + ls) (rTk ca (4000 + ls) i).1 := by rw [h1]
  exact h2
/-- the tokens of both sides -/
def TKS (ca lc : Nat → Int) (kn kz : Int) (gk gs ge : Nat → Int) : Prop := LNf ca lc kn ∧ (0 ≤ kz ∧ kz ≤ 100) ∧ (∀ i : Nat, (i : Int) < kz → (1 ≤ gk i ∧ gk i ≤ 13 ∧ gk i ≠ 6) ∧ 0 ≤ gs i ∧ gs i < ge i ∧ ge i ≤ kn ∧ (gk i = 2 → gs i + 2 ≤ ge i) ∧ (gk i = 4 → isCmp (lc (gs i).toNat) = true)) ∧ ∀ i : Nat, rTk ca (4000 + kn) i = if (i : Int) < kz then rK (gk i, gs i, ge i) else (4000 + kn, 0, 4000 + kn, 4000 + kn)
theorem kM_i {c : Int} (h : 1 ≤ c ∧ c ≤ 13) : (kM c = 0 ↔ c = 6) ∧ (kM c = 1 ↔ c = 1) ∧ (kM c = 2 ↔ c = 2) ∧ (kM c = 3 ↔ c = 4) ∧ (kM c = 4 ↔ c = 9) ∧ (kM c = 5 ↔ c = 10) ∧ (kM c = 6 ↔ c = 5) ∧ (kM c = 7 ↔ c = 3) ∧ (kM c = 8 ↔ c = 11) ∧ (kM c = 9 ↔ c = 12) ∧ (kM c = 10 ↔ c = 13) ∧ (kM c = 11 ↔ c = 7) ∧ (kM c = 12 ↔ c = 8) := by
  have : c = 1 ∨ c = 2 ∨ c = 3 ∨ c = 4 ∨ c = 5 ∨ c = 6 ∨ c = 7 ∨ c = 8 ∨ c = 9 ∨ c = 10 ∨ c = 11 ∨ c = 12 ∨ c = 13 := by omega
  rcases this with rfl | rfl | rfl | rfl | rfl | rfl | rfl | rfl | rfl | rfl | rfl | rfl | rfl <;> decide
theorem koF_k {lc : Nat → Int} {kn st en : Int} : (1 ≤ koF lc kn st en ∧ koF lc kn st en ≤ 13 ∧ koF lc kn st en ≠ 6) ∧ (koF lc kn st en = 2 → st + 2 ≤ en) ∧ (koF lc kn st en = 4 → isCmp (chL lc kn st) = true) := by
  unfold koF knF
  (repeat' split) <;> (refine ⟨by omega, by omega, fun q => ?_⟩ <;> first | assumption | (exfalso; omega))
theorem tkl_b {lc : Nat → Int} {kn : Int} : ∀ (k : Nat) (x : Int), 0 ≤ x → (x ≤ kn → ((tkl lc kn k x).length : Int) ≤ kn - x) ∧ ∀ t ∈ tkl lc kn k x, (1 ≤ t.1 ∧ t.1 ≤ 13 ∧ t.1 ≠ 6) ∧ 0 ≤ t.2.1 ∧ t.2.1 < t.2.2 ∧ t.2.2 ≤ kn ∧ (t.1 = 2 → t.2.1 + 2 ≤ t.2.2) ∧ (t.1 = 4 → isCmp (lc t.2.1.toNat) = true) := by
  intro k
  induction k with
  | zero => intro x _; exact ⟨fun _ => by simp [tkl]; omega, fun t ht => by cases ht⟩
  | succ k ih =>
    intro x h0
    simp only [tkl]
    by_cases c1 : kn ≤ x
    · simp only [if_pos c1]; exact ⟨fun _ => by simp; omega, fun t ht => by cases ht⟩
    · simp only [if_neg c1]
      by_cases c2 : lc x.toNat = 32
      · simp only [if_pos c2]
        obtain ⟨i1, i2⟩ := ih (x + 1) (by omega)
        exact ⟨fun _ => by have := i1 (by omega); omega, i2⟩
      · simp only [if_neg c2]
        have hr := enF_r (lc := lc) (kn := kn) (x := x) ⟨h0, by omega⟩
        obtain ⟨i1, i2⟩ := ih (enF lc kn x) (by omega)
        refine ⟨fun _ => by have := i1 (by omega); rw [List.length_cons]; omega, ?_⟩
        intro t ht
        rcases List.mem_cons.mp ht with ht | ht
        · subst ht
          have hk := koF_k (lc := lc) (kn := kn) (st := x) (en := enF lc kn x)
          rw [ch_in h0 (by omega)] at hk
          exact ⟨hk.1, h0, by dsimp only; omega, hr.2, hk.2.1, hk.2.2⟩
        · exact i2 t ht
theorem TKS.mk_ {ca lc : Nat → Int} {kn : Int} (hL : LNf ca lc kn) (gk gs ge : Nat → Int) : TKS ca lc kn (tkF lc kn gk gs ge).1 (tkF lc kn gk gs ge).2.1 (tkF lc kn gk gs ge).2.2.1 (tkF lc kn gk gs ge).2.2.2 := by
  obtain ⟨l1, _, l3⟩ := tkL_l (lc := lc) (kn := kn) 200 0 0 gk gs ge
  have hl := fun (i : Nat) => rTf_l hL 200 0 (by omega) hL.1.1 (by have := hL.1; omega) i
  obtain ⟨b1, b2⟩ := tkl_b (lc := lc) (kn := kn) 200 0 (by omega)
  have b1 := b1 hL.1.1
  rw [show tkL lc kn 200 0 (((0 : Nat) : Int), gk, gs, ge) = tkF lc kn gk gs ge from rfl] at l1 l3
  have hk := hL.1
  refine ⟨hL, by omega, ?_, ?_⟩
  · intro i hi
    have := l3 i (by omega)
    rw [Nat.zero_add] at this
    have hm := b2 _ (List.getElem_mem (show i < (tkl lc kn 200 0).length by omega))
    rw [← this] at hm
    exact hm
  · intro i
    rw [rTk_f]
    have := hl i
    rw [show (4000 : Int) + 0 = 4000 from rfl] at this
    rw [this]
    by_cases c : (i : Int) < (tkF lc kn gk gs ge).1
    · have hi : i < (tkl lc kn 200 0).length := by omega
      have e := l3 i hi
      rw [Nat.zero_add] at e
      rw [if_pos c, List.getElem?_eq_getElem hi, e]
    · rw [if_neg c, List.getElem?_eq_none (by omega)]
section QSIM
variable {ca le lc : Nat → Int} {kn kz : Int} {gk gs ge : Nat → Int} {hd : Nat → Option HD}
theorem TKS.kd (h : TKS ca lc kn kz gk gs ge) (n : Nat) : 1 ≤ kdF gk kz n ∧ kdF gk kz n ≤ 13 ∧ (kdF gk kz n ≠ 6 → (n : Int) < kz ∧ kdF gk kz n = gk n ∧ seF gs kz kn n = gs n ∧ seF ge kz kn n = ge n) ∧ (kdF gk kz n = 6 → kz ≤ n ∧ seF gs kz kn n = kn ∧ seF ge kz kn n = kn) := by
  unfold kdF seF
  by_cases c : (n : Int) < kz
  · have := (h.2.2.1 n c).1
    rw [if_pos ⟨by omega, c⟩, if_pos ⟨by omega, c⟩, if_pos ⟨by omega, c⟩, Int.toNat_natCast]
    exact ⟨this.1, this.2.1, fun _ => ⟨c, rfl, rfl, rfl⟩, fun q => absurd q this.2.2⟩
  · rw [if_neg (fun q => c q.2), if_neg (fun q => c q.2), if_neg (fun q => c q.2)]
    exact ⟨by omega, by omega, fun q => absurd rfl q, fun _ => ⟨by omega, rfl, rfl⟩⟩
theorem TKS.at_ (h : TKS ca lc kn kz gk gs ge) {u : PS} {n : Nat} (ha : AtP ca (4000 + kn) u n) : u.tk = kM (kdF gk kz n) ∧ u.tf = 4000 + seF gs kz kn n + (if kdF gk kz n = 2 ∨ kdF gk kz n = 3 then 1 else 0) ∧ u.tt = 4000 + seF ge kz kn n - (if kdF gk kz n = 2 then 1 else 0) := by
  unfold AtP at ha
  rw [h.2.2.2 n] at ha
  by_cases c : (n : Int) < kz
  · have c0 : 0 ≤ (n : Int) ∧ (n : Int) < kz := ⟨by omega, c⟩
    have e1 : kdF gk kz n = gk n := by unfold kdF; rw [if_pos c0, Int.toNat_natCast]
    have e2 : seF gs kz kn n = gs n := by unfold seF; rw [if_pos c0, Int.toNat_natCast]
    have e3 : seF ge kz kn n = ge n := by unfold seF; rw [if_pos c0, Int.toNat_natCast]
    rw [if_pos c] at ha
    rw [e1, e2, e3]
    exact ⟨congrArg (fun q : Tk4 => q.2.1) ha, congrArg (fun q : Tk4 => q.2.2.1) ha, congrArg (fun q : Tk4 => q.2.2.2) ha⟩
  · have c0 : ¬ (0 ≤ (n : Int) ∧ (n : Int) < kz) := fun q => c q.2
    have e1 : kdF gk kz n = 6 := by unfold kdF; rw [if_neg c0]
    have e2 : seF gs kz kn n = kn := by unfold seF; rw [if_neg c0]
    have e3 : seF ge kz kn n = kn := by unfold seF; rw [if_neg c0]
    rw [if_neg c] at ha
    have g1 : u.tk = 0 := congrArg (fun q : Tk4 => q.2.1) ha
    have g2 : u.tf = 4000 + kn := congrArg (fun q : Tk4 => q.2.2.1) ha
    have g3 : u.tt = 4000 + kn := congrArg (fun q : Tk4 => q.2.2.2) ha
    rw [e1, e2, e3, g1, g2, g3, if_neg (by decide), if_neg (by decide)]
    exact ⟨rfl, by omega, by omega⟩
/-- what has been noted -/
def NTe (u : PS) (ft fp : Int) : Prop := u.la = ft ∧ (ft ≠ 0 → u.lp = fp)
theorem noteP_y {u : PS} {ft fp a b b2 : Int} (h : NTe u ft fp) (hb : b - 4000 = b2) (ha : a ≠ 0) : NTe (noteP a b u) (ynS ft a b2 fp).1 (ynS ft a b2 fp).2 := by
  obtain ⟨h1, h2⟩ := h
  unfold NTe noteP ynS
  by_cases c : ft = 0
  · rw [if_pos (by rw [h1]; exact c), if_pos c]
    exact ⟨rfl, fun _ => hb⟩
  · rw [if_neg (by rw [h1]; exact c), if_neg c]
    exact ⟨h1, h2⟩
theorem noteP_nop {u : PS} {a b : Int} (h : u.la ≠ 0) : noteP a b u = u := by unfold noteP; rw [if_neg h]
theorem noteP_f {u : PS} {a b : Int} : (noteP a b u).at_ = u.at_ ∧ (noteP a b u).tk = u.tk ∧ (noteP a b u).tf = u.tf ∧ (noteP a b u).tt = u.tt ∧ (noteP a b u).fa = u.fa ∧ (noteP a b u).pf = u.pf ∧ (noteP a b u).pt = u.pt := by
  unfold noteP
  split <;> exact ⟨rfl, rfl, rfl, rfl, rfl, rfl, rfl⟩
theorem noteP_at {e : Int} {u : PS} {a b : Int} {n : Nat} (h : AtP ca e u n) : AtP ca e (noteP a b u) n := by
  obtain ⟨f1, f2, f3, f4, _⟩ := noteP_f (u := u) (a := a) (b := b)
  unfold AtP at *
  rw [f1, f2, f3, f4]; exact h
/-- a token that cannot be there -/
theorem refu_s (h : TKS ca lc kn kz gk gs ge) {u : PS} {n : Nat} (ha : AtP ca (4000 + kn) u n) (hf : u.fa = 0) : (refuP kn u).fa = -2 ∧ (refuP kn u).fp = seF gs kz kn n := by
  obtain ⟨a1, a2, a3⟩ := h.at_ ha
  obtain ⟨k1, k2, k3, k4⟩ := h.kd n
  obtain ⟨i0, i1, i2, i3, i4, i5, i6, i7, i8, i9, i10, i11, i12⟩ := kM_i ⟨k1, k2⟩
  unfold refuP stopP
  rw [a1]
  by_cases c : kdF gk kz n = 3
  · rw [if_pos (i7.mpr c), if_pos hf]
    refine ⟨rfl, ?_⟩
    show u.tf - 1 - 4000 = _
    rw [a2, if_pos (Or.inr c)]; omega
  · rw [if_neg (fun q => c (i7.mp q)), if_pos hf, if_neg (fun q => c (i7.mp q))]
    refine ⟨rfl, ?_⟩
    by_cases c2 : kdF gk kz n = 2
    · show (if kM (kdF gk kz n) = 2 then u.tf - 1 - 4000 else u.tf - 4000) = _
      rw [if_pos (i2.mpr c2), a2, if_pos (Or.inl c2)]; omega
    · show (if kM (kdF gk kz n) = 2 then u.tf - 1 - 4000 else u.tf - 4000) = _
      rw [if_neg (fun q => c2 (i2.mp q)), a2, if_neg (fun q => q.elim c2 c)]; omega
/-- a term -/
theorem take_y (h : TKS ca lc kn kz gk gs ge) {u : PS} {n : Nat} (ha : AtP ca (4000 + kn) u n) (hf : u.fa = 0) {ix rl : Int} {t : YT} (ht : t.1 = n) (hk : kdF gk kz n = 1 ∨ kdF gk kz n = 2) (hc : t.2.2.1 < 50) : AtP ca (4000 + kn) (takeP ca kn u) (n + 1) ∧ (takeP ca kn u).fa = 0 ∧ (takeP ca kn u).la = u.la ∧ (takeP ca kn u).lp = u.lp ∧ (takeP ca kn u).pf = u.tf ∧ (takeP ca kn u).pt = u.tt ∧ u.tf = 4000 + (seF gs kz kn n + (if kdF gk kz n = 2 then 1 else 0)) ∧ u.tt = 4000 + (seF ge kz kn n - (if kdF gk kz n = 2 then 1 else 0)) ∧ rtM kn gk gs ge kz ix rl t = (true, (n : Int) + 1, t.2.1 + 1, t.2.2.1 + 1, va_up t.2.2.2.1 t.2.1.toNat 0, va_up t.2.2.2.2 t.2.2.1.toNat (ix, rl, seF gs kz kn n + (if kdF gk kz n = 2 then 1 else 0), seF ge kz kn n - (if kdF gk kz n = 2 then 1 else 0), (t.2.2.2.2 t.2.2.1.toNat).2.2.2.2)) := by
  obtain ⟨a1, a2, a3⟩ := h.at_ ha
  obtain ⟨k1, k2, k3, k4⟩ := h.kd n
  obtain ⟨i0, i1, i2, _⟩ := kM_i ⟨k1, k2⟩
  unfold takeP
  rw [a1, if_pos (by omega)]
  refine ⟨AtP.next (u := ⟨u.at_, kM (kdF gk kz n), u.tf, u.tt, u.fa, u.fp, u.la, u.lp, u.tf, u.tt⟩) (by rw [← a1]; exact ha), hf, rfl, rfl, rfl, rfl, ?_, a3 ▸ (by omega), ?_⟩
  · rw [a2]
    rcases hk with q | q
    · rw [if_neg (by omega), if_neg (by omega)]; omega
    · rw [if_pos (Or.inl q), if_pos q]; omega
  · unfold rtM
    rw [ht]
    rcases hk with q | q
    · rw [if_neg (by omega), if_pos q, if_pos hc, if_pos hc, if_neg (by omega)]
    · rw [if_neg (by omega), if_neg (by omega), if_pos q, if_pos hc, if_pos hc, if_pos q]
theorem take_n (h : TKS ca lc kn kz gk gs ge) {u : PS} {n : Nat} (ha : AtP ca (4000 + kn) u n) (hf : u.fa = 0) {ix rl : Int} {t : YT} (ht : t.1 = n) (hk : ¬ (kdF gk kz n = 1 ∨ kdF gk kz n = 2)) : (takeP ca kn u).fa = -2 ∧ (rtM kn gk gs ge kz ix rl t).1 = false ∧ (takeP ca kn u).fp = seF gs kz kn (rtM kn gk gs ge kz ix rl t).2.1 := by
  obtain ⟨a1, a2, a3⟩ := h.at_ ha
  obtain ⟨k1, k2, k3, k4⟩ := h.kd n
  obtain ⟨i0, i1, i2, i3, i4, i5, i6, i7, _⟩ := kM_i ⟨k1, k2⟩
  unfold takeP
  rw [a1, if_neg (by omega)]
  unfold stopP rtM
  rw [if_pos hf, ht, a1]
  by_cases c : kdF gk kz n = 3
  · rw [if_pos c, if_pos (i7.mpr c)]
    refine ⟨rfl, rfl, ?_⟩
    show kn = seF gs kz kn kz
    unfold seF; rw [if_neg (by omega)]
  · rw [if_neg c, if_neg (fun q => c (i7.mp q)), if_neg (fun q => hk (i2.mp q |> Or.inr)), if_neg (fun q => hk (Or.inl q)), if_neg (fun q => hk (Or.inr q))]
    refine ⟨rfl, rfl, ?_⟩
    show u.tf - 4000 = seF gs kz kn t.1
    rw [ht, a2, if_neg (by omega)]; omega
/-- names of INDEXES and relations -/
theorem io_ix (h : TKS ca lc kn kz gk gs ge) {u : PS} {n : Nat} (ha : AtP ca (4000 + kn) u n) (hk : kdF gk kz n = 1) : ioM ca u.tf u.tt = ixA lc kn gs ge kz n := by
  obtain ⟨a1, a2, a3⟩ := h.at_ ha
  obtain ⟨k1, k2, k3, k4⟩ := h.kd n
  obtain ⟨k5, k6, k7, k8⟩ := k3 (by omega)
  obtain ⟨b1, b2, b3, b4, b5, b6⟩ := h.2.2.1 n k5
  have a2' : u.tf = 4000 + gs n := by rw [a2, if_neg (show ¬ (kdF gk kz n = 2 ∨ kdF gk kz n = 3) by omega), k7]; omega
  have a3' : u.tt = 4000 + ge n := by rw [a3, if_neg (show ¬ kdF gk kz n = 2 by omega), k8]; omega
  rw [a2', a3']
  unfold ixA ioM
  rw [k7, k8]
  simp only [ixL]
  rw [show nmI 0 = 6 from rfl, show nmI (0 + 1) = 10 from rfl, show nmI (0 + 1 + 1) = 11 from rfl, show nmI (0 + 1 + 1 + 1) = 12 from rfl, show nmI (0 + 1 + 1 + 1 + 1) = 13 from rfl, show nmI (0 + 1 + 1 + 1 + 1 + 1) = 14 from rfl]
  rw [wr_iw h.1 b2 b4 (i := 6) (by omega), wr_iw h.1 b2 b4 (i := 10) (by omega), wr_iw h.1 b2 b4 (i := 11) (by omega), wr_iw h.1 b2 b4 (i := 12) (by omega), wr_iw h.1 b2 b4 (i := 13) (by omega), wr_iw h.1 b2 b4 (i := 14) (by omega)]
  rfl
theorem rh_rl (h : TKS ca lc kn kz gk gs ge) {u : PS} {n : Nat} (ha : AtP ca (4000 + kn) u n) : rhM ca u.tk u.tf u.tt = rlA lc kn gk gs ge kz n + 1 := by
  obtain ⟨a1, a2, a3⟩ := h.at_ ha
  obtain ⟨k1, k2, k3, k4⟩ := h.kd n
  obtain ⟨i0, i1, i2, i3, _⟩ := kM_i ⟨k1, k2⟩
  unfold rhM rlA rlF
  rw [a1]
  by_cases c1 : kdF gk kz n = 4
  · obtain ⟨k5, k6, k7, k8⟩ := k3 (by omega)
    obtain ⟨b1, b2, b3, b4, b5, b6⟩ := h.2.2.1 n k5
    have a2' : u.tf = 4000 + gs n := by rw [a2, if_neg (show ¬ (kdF gk kz n = 2 ∨ kdF gk kz n = 3) by omega), k7]; omega
    have a3' : u.tt = 4000 + ge n := by rw [a3, if_neg (show ¬ kdF gk kz n = 2 by omega), k8]; omega
    rw [if_pos (i3.mpr c1), if_pos c1, a2', a3', k7, k8, ch_in b2 (by omega), h.1.2 _ b2 (by omega), show 4000 + ge n - (4000 + gs n) = ge n - gs n by omega]
    have hc := of_decide_eq_true (b6 (by omega))
    unfold cmpR
    by_cases e2 : ge n - gs n = 2
    · rw [decide_eq_true e2]
      rcases hc with q | q | q <;> (rw [q]; simp [e2])
    · rw [decide_eq_false e2]
      rcases hc with q | q | q <;> (rw [q]; simp [e2])
  · by_cases c2 : kdF gk kz n = 1
    · obtain ⟨k5, k6, k7, k8⟩ := k3 (by omega)
      obtain ⟨b1, b2, b3, b4, b5, b6⟩ := h.2.2.1 n k5
      have a2' : u.tf = 4000 + gs n := by rw [a2, if_neg (show ¬ (kdF gk kz n = 2 ∨ kdF gk kz n = 3) by omega), k7]; omega
      have a3' : u.tt = 4000 + ge n := by rw [a3, if_neg (show ¬ kdF gk kz n = 2 by omega), k8]; omega
      rw [if_neg (fun q => c1 (i3.mp q)), if_neg c1, if_pos (i1.mpr c2), if_pos c2, a2', a3', k7, k8]
      rw [wr_iw h.1 b2 b4 (i := 6) (by omega), wr_iw h.1 b2 b4 (i := 7) (by omega), wr_iw h.1 b2 b4 (i := 8) (by omega), wr_iw h.1 b2 b4 (i := 9) (by omega)]
      (repeat' split) <;> rfl
    · rw [if_neg (show ¬ kM (kdF gk kz n) = 3 from fun q => c1 (i3.mp q)), if_neg c1, if_neg (show ¬ kM (kdF gk kz n) = 1 from fun q => c2 (i1.mp q)), if_neg c2]; rfl
/-- the RECORDS of a CLAUSE as the other side finds them -/
def recC (hd : Nat → Option HD) (lc : Nat → Int) (e : CEt) : Int := anM hd e.2.1 e.1 (yearF lc 100 e.2.2.1 e.2.2.2.1) (wsF lc true e.2.2.1 e.2.2.2.1)
theorem anL_r {rel ix y : Int} {ws : List (List Int)} : ∀ (k : Nat) (r v : Int), 0 ≤ r → r + k ≤ 10 → 0 ≤ v ∧ v < 1024 → 0 ≤ anL hd rel ix y ws k r v ∧ anL hd rel ix y ws k r v < 1024 := by
  intro k
  induction k with
  | zero => intro r v _ _ h; exact h
  | succ k ih =>
    intro r v h0 h1 hv
    simp only [anL]
    refine ih (r + 1) _ (by omega) (by omega) ?_
    split
    · exact or1024 hv (shl_r9 (by omega))
    · exact hv
theorem recC_r {e : CEt} : 0 ≤ recC hd lc e ∧ recC hd lc e < 1024 := anL_r 10 0 0 (by omega) (by omega) (by omega)
theorem yrL_n {t : Nat → Int} {n n2 : Nat} : ∀ (k : Nat) (p v d : Int), p + k ≤ n → p + k ≤ n2 → yrL t n k p v d = yrL t n2 k p v d := by
  intro k
  induction k with
  | zero => intro p v d _ _; rfl
  | succ k ih =>
    intro p v d h1 h2
    simp only [yrL]
    by_cases c : 0 ≤ p ∧ isDig (t p.toNat) = true
    · rw [if_pos (show 0 ≤ p ∧ p < n ∧ isDig (t p.toNat) = true from ⟨c.1, by omega, c.2⟩), if_pos (show 0 ≤ p ∧ p < n2 ∧ isDig (t p.toNat) = true from ⟨c.1, by omega, c.2⟩), ih (p + 1) _ _ (by omega) (by omega)]
    · rw [if_neg (show ¬ (0 ≤ p ∧ p < n ∧ isDig (t p.toNat) = true) from fun q => c ⟨q.1, q.2.2⟩), if_neg (show ¬ (0 ≤ p ∧ p < n2 ∧ isDig (t p.toNat) = true) from fun q => c ⟨q.1, q.2.2⟩), ih (p + 1) _ _ (by omega) (by omega)]
theorem so_rec (h : TKS ca lc kn kz gk gs ge) (hS : SR ca le hd) {ix rel ts te : Int} {e : CEt} (hrel : 1 ≤ rel ∧ rel ≤ 8) (ht : 0 ≤ ts ∧ ts ≤ te ∧ te ≤ kn) (he : e.1 = ix ∧ e.2.1 = rel - 1 ∧ e.2.2.1 = ts ∧ e.2.2.2.1 = te) : soT ca le ix rel (4000 + ts) (4000 + te) = recC hd lc e := by
  obtain ⟨hL, _⟩ := h
  have hk := hL.1
  rw [soT_an hS hrel (by omega)]
  unfold recC
  rw [he.1, he.2.1, he.2.2.1, he.2.2.2]
  have e1 : wsF ca true (4000 + ts) (4000 + te) = wsF lc true ts te := by
    refine wsF_c (by omega) (fun k hk => ?_)
    have := hL.2 (ts + k) (by omega) (by omega)
    rw [show (4000 + (ts + (k : Int))).toNat = (4000 + ts).toNat + k by omega, show (ts + (k : Int)).toNat = ts.toNat + k by omega] at this
    exact this
  have e2 : yrM ca (4000 + ts) (4000 + te) = yearF lc 100 ts te := by
    have := yearF_M (t := lc) (f := ca) (n := kn.toNat) (s := 4000) (x := ts) (y := te) (by omega) (fun j j0 j1 => hL.2 j j0 (by omega)) (by omega)
    unfold yrM
    rw [← this]
    unfold yearF
    exact yrL_n _ _ _ _ (by omega) (by omega)
  rw [e1, e2]
theorem clN_y {u : PS} {ft fp ix rel b : Int} {f : Int × Int} (hix : -1 ≤ ix) (hf : f = if ix = -1 then ynS ft (-3) (u.pf - 4000) fp else (ft, fp)) (hb : u.tf - 4000 = b) (h : NTe u ft fp) : NTe (clN rel ix u) (rcN ix (rel - 1) f b).1 (rcN ix (rel - 1) f b).2 := by
  unfold clN rcN
  by_cases c : ix = -1
  · rw [if_pos c] at hf
    rw [if_neg (show ¬ (ix ≠ -1 ∧ ix ≠ 4 ∧ 4 ≤ rel - 1) by omega), if_pos (show ix < 0 by omega)]
    have h1 : NTe (noteP (-3) u.pf u) f.1 f.2 := by rw [hf]; exact noteP_y h rfl (by decide)
    have hn : (noteP (-3) u.pf u).la ≠ 0 := by
      rw [h1.1, hf]
      unfold ynS
      split
      · show (-3 : Int) ≠ 0; decide
      · assumption
    by_cases c2 : 5 ≤ rel ∧ ¬ ix = 4
    · rw [if_pos c2]
      have : noteP (-4) u.tf (noteP (-3) u.pf u) = noteP (-3) u.pf u := by
        exact noteP_nop hn
      rw [this]; exact h1
    · rw [if_neg c2]; exact h1
  · rw [if_neg c] at hf
    subst hf
    rw [if_neg (show ¬ ix < 0 by omega)]
    by_cases c2 : 5 ≤ rel ∧ ¬ ix = 4
    · rw [if_pos c2, if_pos (show ix ≠ -1 ∧ ix ≠ 4 ∧ 4 ≤ rel - 1 by omega)]
      exact noteP_y h hb (by decide)
    · rw [if_neg c2, if_neg (show ¬ (ix ≠ -1 ∧ ix ≠ 4 ∧ 4 ≤ rel - 1) by omega)]
      exact h
theorem clN_f {e : Int} {u : PS} {ix rel : Int} {n : Nat} (h : AtP ca e u n) : AtP ca e (clN rel ix u) n ∧ (clN rel ix u).fa = u.fa := by
  unfold clN
  split
  · split
    · exact ⟨noteP_at (noteP_at h), by rw [(noteP_f (u := noteP (-3) u.pf u)).2.2.2.2.1, (noteP_f (u := u)).2.2.2.2.1]⟩
    · exact ⟨noteP_at h, (noteP_f (u := u)).2.2.2.2.1⟩
  · split
    · exact ⟨noteP_at h, (noteP_f (u := u)).2.2.2.2.1⟩
    · exact ⟨h, rfl⟩
def CEk (e : CEt) : Prop := (-1 ≤ e.1 ∧ e.1 ≤ 5) ∧ (0 ≤ e.2.1 ∧ e.2.1 ≤ 7) ∧ 0 ≤ e.2.2.1 ∧ e.2.2.1 ≤ e.2.2.2.1 ∧ e.2.2.2.1 ≤ 100
/-- what a CLAUSE comes to -/
def CLo (ca lc : Nat → Int) (kn kz : Int) (gs : Nat → Int) (hd : Nat → Option HD) (n : Nat) (t : YT) (R : Bool × Int × Int × YT) (Q : PS × Int) : Prop :=
  (R.1 = true ∧ Q.1.fa = 0 ∧ (∃ m : Nat, R.2.2.2.1 = m ∧ AtP ca (4000 + kn) Q.1 m ∧ n < m ∧ (m : Int) ≤ kz) ∧ NTe Q.1 R.2.1 R.2.2.1 ∧ R.2.2.2.2.1 = t.2.1 + 1 ∧ R.2.2.2.2.2.1 = t.2.2.1 + 1 ∧ t.2.2.1 < 50 ∧ R.2.2.2.2.2.2.1 = va_up t.2.2.2.1 t.2.1.toNat 0 ∧ (∀ j : Nat, j ≠ t.2.2.1.toNat → R.2.2.2.2.2.2.2 j = t.2.2.2.2 j) ∧ CEk (R.2.2.2.2.2.2.2 t.2.2.1.toNat) ∧ (Q.1.la = 0 → Q.2 = recC hd lc (R.2.2.2.2.2.2.2 t.2.2.1.toNat))) ∨ (R.1 = false ∧ Q.1.fa = -2 ∧ Q.1.fp = seF gs kz kn R.2.2.2.1)
theorem cl_sim (h : TKS ca lc kn kz gk gs ge) (hS : SR ca le hd) {u : PS} {n : Nat} (ha : AtP ca (4000 + kn) u n) (hf : u.fa = 0) {ft fp : Int} (hn : NTe u ft fp) {t : YT} (ht : t.1 = n) (hcc : 0 ≤ t.2.2.1) (h2 : 2 * t.2.2.1 ≤ n) : CLo ca lc kn kz gs hd n t (rcY lc kn gk gs ge kz ft fp t) (clP ca le kn u) ∧ ((clP ca le kn u).1.la = 0 → u.la = 0) := by
  have hkz := h.2.1
  have hkn := h.1.1
  obtain ⟨a1, a2, a3⟩ := h.at_ ha
  obtain ⟨k1, k2, k3, k4⟩ := h.kd n
  obtain ⟨i0, i1, i2, i3, i4, i5, i6, i7, _⟩ := kM_i ⟨k1, k2⟩
  unfold clP clQ
  by_cases ck : kdF gk kz n = 1 ∨ kdF gk kz n = 2
  · obtain ⟨k5, k6, k7, k8⟩ := k3 (by omega)
    obtain ⟨b1, b2, b3, b4, b5, b6⟩ := h.2.2.1 n k5
    obtain ⟨y1, y2, y3, y4, y5, y6, y7, y8, y9⟩ := take_y h ha hf (ix := 0) (rl := 2) ht ck (by omega)
    rw [if_pos y2]
    have plain : ∀ (rel : Int), rel = 0 → (kdF gk kz n ≠ 1 ∨ rlA lc kn gk gs ge kz (t.1 + 1) = -1) → CLo ca lc kn kz gs hd n t (rcY lc kn gk gs ge kz ft fp t) (clR ca le kn rel (takeP ca kn u)) ∧ ((clR ca le kn rel (takeP ca kn u)).1.la = 0 → u.la = 0) := by
      intro rel hrel hc
      unfold clR rcY
      rw [if_pos hrel, if_pos (by rw [ht] at hc ⊢; exact hc), y9]
      have hsp : 0 ≤ seF gs kz kn n + (if kdF gk kz n = 2 then 1 else 0) ∧ seF gs kz kn n + (if kdF gk kz n = 2 then 1 else 0) ≤ seF ge kz kn n - (if kdF gk kz n = 2 then 1 else 0) ∧ seF ge kz kn n - (if kdF gk kz n = 2 then 1 else 0) ≤ kn := by
        rw [k7, k8]
        split
        · have := b5 (by omega); omega
        · omega
      refine ⟨Or.inl ⟨rfl, y2, ⟨n + 1, by dsimp only; omega, y1, by omega, by omega⟩, ?_, rfl, rfl, by omega, rfl, ?_, ?_, ?_⟩, ?_⟩
      · unfold NTe at hn ⊢
        dsimp only
        rw [y3, y4]; exact hn
      · intro j hj; dsimp only; rw [vu_n hj]
      · dsimp only
        rw [vu_e]
        exact ⟨⟨(show (-1 : Int) ≤ 0 by decide), (show (0 : Int) ≤ 5 by decide)⟩, ⟨(show (0 : Int) ≤ 2 by decide), (show (2 : Int) ≤ 7 by decide)⟩, hsp.1, hsp.2.1, by dsimp only; omega⟩
      · intro hla
        dsimp only at hla ⊢
        rw [vu_e]
        unfold soM
        rw [if_pos hla, y5, y6, y7, y8]
        exact so_rec h hS (by omega) hsp ⟨rfl, rfl, rfl, rfl⟩
      · intro hla
        dsimp only at hla
        rw [y3] at hla; exact hla
    by_cases c1 : kdF gk kz n = 1
    · rw [if_pos (show u.tk = 1 by rw [a1]; exact i1.mpr c1)]
      have er := rh_rl h y1
      rw [show (((n + 1 : Nat)) : Int) = t.1 + 1 by omega] at er
      by_cases c2 : rlA lc kn gk gs ge kz (t.1 + 1) = -1
      · exact plain _ (by rw [er]; omega) (Or.inr c2)
      · -- a name and a relation
        have hrr := rhM_r (f := ca) (k := (takeP ca kn u).tk) (x := (takeP ca kn u).tf) (y := (takeP ca kn u).tt)
        rw [er] at hrr
        have hrl : -1 ≤ rlA lc kn gk gs ge kz (t.1 + 1) := (rlF_r ..).1
        obtain ⟨rl, erl⟩ : ∃ rl, rl = rlA lc kn gk gs ge kz (t.1 + 1) := ⟨_, rfl⟩
        have eix := io_ix h ha c1
        have hixr : -1 ≤ ixA lc kn gs ge kz n := by rw [← eix]; exact ioM_r.1
        obtain ⟨ix, eix2⟩ : ∃ ix, ix = ixA lc kn gs ge kz n := ⟨_, rfl⟩
        -- the token of the relation
        obtain ⟨r1, r2, r3⟩ := h.at_ y1
        obtain ⟨q1, q2, q3, q4⟩ := h.kd (n + 1)
        have hkr : kdF gk kz ((n + 1 : Nat) : Int) = 1 ∨ kdF gk kz ((n + 1 : Nat) : Int) = 4 := by
          have c2' := c2
          unfold rlA rlF at c2'
          rw [show t.1 + 1 = ((n + 1 : Nat) : Int) by omega] at c2'
          by_cases z1 : kdF gk kz ((n + 1 : Nat) : Int) = 4
          · exact Or.inr z1
          · by_cases z2 : kdF gk kz ((n + 1 : Nat) : Int) = 1
            · exact Or.inl z2
            · rw [if_neg z1, if_neg z2] at c2'; exact absurd rfl c2'
        have etf : (takeP ca kn u).tf - 4000 = seF gs kz kn ((n + 1 : Nat) : Int) := by
          rw [r2, if_neg (by omega)]; omega
        have hN1 : NTe (takeP ca kn u) ft fp := by unfold NTe at hn ⊢; rw [y3, y4]; exact hn
        have epf : (takeP ca kn u).pf - 4000 = seF gs kz kn n := by rw [y5, y7, if_neg (by omega)]; omega
        have hN2 := clN_y (u := takeP ca kn u) (rel := rl + 1) (f := rdX lc kn gs ge kz n ft fp) (b := seF gs kz kn ((n + 1 : Nat) : Int)) (ix := ix) (ft := ft) (fp := fp) (by omega) (by unfold rdX; rw [epf, eix2]) etf hN1
        rw [show rl + 1 - 1 = rl by omega] at hN2
        obtain ⟨m1, m2⟩ := clN_f (ix := ix) (rel := rl + 1) y1
        have m3 := AtP.next m1
        have hN3 : NTe (nextP ca kn (clN (rl + 1) ix (takeP ca kn u))) (rcN ix rl (rdX lc kn gs ge kz n ft fp) (seF gs kz kn ((n + 1 : Nat) : Int))).1 (rcN ix rl (rdX lc kn gs ge kz n ft fp) (seF gs kz kn ((n + 1 : Nat) : Int))).2 := hN2
        have hf3 : (nextP ca kn (clN (rl + 1) ix (takeP ca kn u))).fa = 0 := by
          show (clN (rl + 1) ix (takeP ca kn u)).fa = 0
          rw [m2]; exact y2
        have hmono : (clN (rl + 1) ix (takeP ca kn u)).la = 0 → u.la = 0 := by
          intro q
          have g1 := hN2.1
          rw [q] at g1
          have g2 : ft = 0 := by
            have z1 := rcN_r ix rl (rdX lc kn gs ge kz n ft fp) (seF gs kz kn ((n + 1 : Nat) : Int))
            have z2 := rdX_r (lc := lc) (kn := kn) (gs := gs) (ge := ge) (kz := kz) (x := n) (ft := ft) (fp := fp)
            omega
          rw [hn.1]; exact g2
        unfold clR rcY
        rw [er, ← erl, if_neg (show ¬ rl + 1 = 0 by omega), if_neg (show ¬ (kdF gk kz t.1 ≠ 1 ∨ rl = -1) by rw [ht]; omega), y5, y6, eix, ← eix2, ht, ← eix2]
        rw [show (n : Int) + 1 = ((n + 1 : Nat) : Int) by omega]
        unfold clT
        generalize hu3 : nextP ca kn (clN (rl + 1) ix (takeP ca kn u)) = u3 at *
        have hla3 : u3.la = (clN (rl + 1) ix (takeP ca kn u)).la := by rw [← hu3]; rfl
        obtain ⟨p1, p2, p3, p4⟩ := h.kd (n + 1 + 1)
        by_cases cx : kdF gk kz ((n + 1 + 1 : Nat) : Int) = 1 ∨ kdF gk kz ((n + 1 + 1 : Nat) : Int) = 2
        · obtain ⟨p5, p6, p7, p8⟩ := p3 (by omega)
          obtain ⟨d1, d2, d3, d4, d5, d6⟩ := h.2.2.1 (n + 1 + 1) p5
          obtain ⟨x1, x2, x3, x4, x5, x6, x7, x8, x9⟩ := take_y h m3 hf3 (ix := ix) (rl := rl) (t := (((n + 1 : Nat) : Int) + 1, t.2)) (by dsimp only; omega) cx (by dsimp only; omega)
          rw [x9]
          have hsp : 0 ≤ seF gs kz kn ((n + 1 + 1 : Nat) : Int) + (if kdF gk kz ((n + 1 + 1 : Nat) : Int) = 2 then 1 else 0) ∧ seF gs kz kn ((n + 1 + 1 : Nat) : Int) + (if kdF gk kz ((n + 1 + 1 : Nat) : Int) = 2 then 1 else 0) ≤ seF ge kz kn ((n + 1 + 1 : Nat) : Int) - (if kdF gk kz ((n + 1 + 1 : Nat) : Int) = 2 then 1 else 0) ∧ seF ge kz kn ((n + 1 + 1 : Nat) : Int) - (if kdF gk kz ((n + 1 + 1 : Nat) : Int) = 2 then 1 else 0) ≤ kn := by
            rw [p7, p8]
            split
            · have := d5 (by omega); omega
            · omega
          have hix5 : ix ≤ 5 := by rw [eix2, ← eix]; exact ioM_r.2
          refine ⟨Or.inl ⟨rfl, x2, ⟨n + 1 + 1 + 1, by dsimp only; omega, x1, by omega, by omega⟩, ?_, rfl, rfl, by omega, rfl, ?_, ?_, ?_⟩, ?_⟩
          · unfold NTe at hN3 ⊢
            dsimp only
            rw [x3, x4]; exact hN3
          · intro j hj; dsimp only; rw [vu_n hj]
          · dsimp only
            rw [vu_e]
            exact ⟨⟨by dsimp only; omega, hix5⟩, ⟨by dsimp only; omega, by dsimp only; omega⟩, hsp.1, hsp.2.1, by dsimp only; omega⟩
          · intro hla
            dsimp only at hla ⊢
            rw [vu_e]
            unfold clV soM
            rw [if_pos x2, if_pos hla, x5, x6, x7, x8]
            exact so_rec h hS (by omega) hsp ⟨rfl, by dsimp only; omega, rfl, rfl⟩
          · intro hla
            dsimp only at hla
            rw [x3, hla3] at hla
            exact hmono hla
        · obtain ⟨x1, x2, x3⟩ := take_n h m3 hf3 (ix := ix) (rl := rl) (t := (((n + 1 : Nat) : Int) + 1, t.2)) (by dsimp only; omega) cx
          refine ⟨Or.inr ⟨x2, x1, x3⟩, ?_⟩
          intro hla
          dsimp only at hla
          have e0 : (takeP ca kn u3).la = u3.la := by
            unfold takeP
            split
            · rfl
            · unfold stopP
              split <;> rfl
          rw [e0, hla3] at hla
          exact hmono hla
    · rw [if_neg (show ¬ u.tk = 1 by rw [a1]; exact fun q => c1 (i1.mp q))]
      exact plain 0 rfl (Or.inl c1)
  · obtain ⟨x1, x2, x3⟩ := take_n h ha hf (ix := 0) (rl := 2) ht ck
    rw [if_neg (by rw [x1]; decide)]
    unfold rcY
    rw [if_pos (Or.inl (by rw [ht]; exact fun q => ck (Or.inl q)))]
    refine ⟨Or.inr ⟨x2, x1, x3⟩, ?_⟩
    intro hla
    dsimp only at hla
    have e0 : (takeP ca kn u).la = u.la := by
      unfold takeP
      split
      · rfl
      · unfold stopP
        split <;> rfl
    rw [e0] at hla
    exact hla
def DUe (J : JA) (u : QS) (j : Nat) : Prop := (u.pe j = 0 ∧ J.2.2.1 j = 0 ∧ J.2.2.2 j = 12) ∨ ((u.pe j = 8 ∨ u.pe j = 9 ∨ u.pe j = 10) ∧ J.2.2.1 j = u.va j ∧ J.2.2.2 j = u.pe j + 3)
def I32 (a : Int) : Prop := -2147483648 ≤ a ∧ a < 2147483648
/-- the values held so far: both sides -/
def JRe (J : JA) (u : QS) (cc : Int) : Prop := J.1 = u.dp ∧ J.2.1 = cc ∧ (∀ j : Nat, ((j : Int) < u.dp ∨ ((j : Int) = u.dp ∧ u.wa = true)) → DUe J u j) ∧ (u.wa = false → J.2.2.1 u.dp.toNat = u.va u.dp.toNat ∧ I32 (u.va u.dp.toNat))
theorem andI_b {a b : Int} : I32 (andI a b) := by unfold I32 andI; have h1 := Int32.le_toInt (iI a &&& iI b); have h2 := Int32.toInt_lt (iI a &&& iI b); omega
theorem orI_b {a b : Int} : I32 (orI a b) := by unfold I32 orI; have h1 := Int32.le_toInt (iI a ||| iI b); have h2 := Int32.toInt_lt (iI a ||| iI b); omega
theorem or_0 {a : Int} (h : I32 a) : orI 0 a = a := by
  unfold orI
  rw [iI_0, Int32.or_comm, Int32.or_zero, iI_toInt h]
theorem due_j {J : JA} {u : QS} {j : Nat} {a : Int} (h : DUe J u j) (ha : I32 a) : jnC (J.2.2.2 j) (J.2.2.1 j) a = joM (u.pe j) (u.va j) a ∧ I32 (joM (u.pe j) (u.va j) a) := by
  unfold jnC joM
  rcases h with ⟨h1, h2, h3⟩ | ⟨h1, h2, h3⟩
  · rw [h1, h2, h3, if_neg (by decide), if_neg (by decide), if_neg (by decide), if_neg (by decide), if_neg (by decide), or_0 ha]
    exact ⟨rfl, ha⟩
  · rw [h2, h3]
    rcases h1 with h1 | h1 | h1
    · rw [h1, if_pos (by decide), if_pos rfl]; exact ⟨rfl, andI_b⟩
    · rw [h1, if_neg (by decide), if_neg (by decide), if_neg (by decide), if_pos rfl]; exact ⟨rfl, orI_b⟩
    · rw [h1, if_neg (by decide), if_pos (by decide), if_neg (by decide), if_neg (by decide), if_pos rfl]; exact ⟨rfl, andI_b⟩
/-- what the whole comes to -/
def QCo (lc : Nat → Int) (kn kz : Int) (gs : Nat → Int) (hd : Nat → Option HD) (R : YZ) (U : QS) (z cc : Int) (ys : Nat → Int) (g : Nat → CEt) (u : QS) : Prop :=
  (R.1 = true ∧ U.p.fa = 0 ∧ NTe U.p R.2.2.2.1 R.2.2.2.2.1 ∧ U.si = R.2.1 ∧ U.dn = R.2.2.1 ∧ (U.p.la = 0 → u.p.la = 0) ∧ z ≤ R.2.2.2.2.2.2.1 ∧ cc ≤ R.2.2.2.2.2.2.2.1 ∧ R.2.2.2.2.2.2.2.1 ≤ 50 ∧ JOK R.2.2.2.2.2.2.2.2.1 R.2.2.2.2.2.2.1 ∧ (∀ j : Nat, (j : Int) < z → R.2.2.2.2.2.2.2.2.1 j = ys j) ∧ (∀ j : Nat, (j : Int) < cc → R.2.2.2.2.2.2.2.2.2 j = g j) ∧ (U.dp = 0 ∧ U.wa = false) ∧ (∀ j : Nat, cc ≤ j → (j : Int) < R.2.2.2.2.2.2.2.1 → CEk (R.2.2.2.2.2.2.2.2.2 j)) ∧ (U.p.la = 0 → ∀ (G : Nat → CEt) (J : JA), (∀ j : Nat, (j : Int) < R.2.2.2.2.2.2.2.1 → (G j).2.2.2.2 = recC hd lc (R.2.2.2.2.2.2.2.2.2 j)) → JRe J u cc → (jaL R.2.2.2.2.2.2.2.2.1 G (R.2.2.2.2.2.2.1 - z).toNat z J).2.2.1 0 = U.va 0)) ∨ (R.1 = false ∧ U.p.fa = -2 ∧ U.p.fp = seF gs kz kn R.2.2.2.2.2.1)
theorem QC_step {R : YZ} {U u u2 : QS} {z cc cc2 v : Int} {ys : Nat → Int} {g g2 : Nat → CEt} (hz : 0 ≤ z) (h : QCo lc kn kz gs hd R U (z + 1) cc2 (va_up ys z.toNat v) g2 u2) (hc : cc ≤ cc2) (hg : ∀ j : Nat, (j : Int) < cc → g2 j = g j) (hk : ∀ j : Nat, cc ≤ j → (j : Int) < cc2 → CEk (g2 j)) (hla : u2.p.la = 0 → u.p.la = 0) (hJ : u2.p.la = 0 → ∀ (G : Nat → CEt) (J : JA), (∀ j : Nat, (j : Int) < cc2 → (G j).2.2.2.2 = recC hd lc (g2 j)) → JRe J u cc → JRe (jaS G v J) u2 cc2) : QCo lc kn kz gs hd R U z cc ys g u := by
  rcases h with ⟨h1, h2, h3, h4, h5, h6, h7, h8, h9, h10, h11, h12, h14, h15, h13⟩ | h
  · refine Or.inl ⟨h1, h2, h3, h4, h5, fun q => hla (h6 q), by omega, by omega, h9, h10, ?_, ?_, h14, ?_, ?_⟩
    · intro j hj; rw [h11 j (by omega), vu_n (by omega)]
    · intro j hj; rw [h12 j (by omega), hg j hj]
    · intro j j1 j2
      by_cases q : (j : Int) < cc2
      · rw [h12 j q]; exact hk j j1 q
      · exact h15 j (by omega) j2
    · intro q G J hG hR
      have hv : R.2.2.2.2.2.2.2.2.1 z.toNat = v := by rw [h11 z.toNat (by omega), vu_e]
      have := h13 q G (jaS G v J) hG (hJ (h6 q) G J (fun j hj => by rw [hG j (by omega), h12 j hj]) hR)
      rw [show (R.2.2.2.2.2.2.1 - z).toNat = (R.2.2.2.2.2.2.1 - (z + 1)).toNat + 1 by omega]
      simp only [jaL]
      rw [hv]
      exact this
  · exact Or.inr h
theorem JOK_push {ys : Nat → Int} {z o o2 v : Int} (h : JOK ys z) (ho : opN ys z.toNat = o) (hz : z < 100) (hv : 0 ≤ v ∧ v ≤ 20) (h2 : o2 = if v = 9 then o + 1 else if v = 10 then o - 1 else o) (h6 : 0 ≤ o2 ∧ o2 ≤ 6) : JOK (va_up ys z.toNat v) (z + 1) ∧ opN (va_up ys z.toNat v) (z + 1).toNat = o2 := by
  obtain ⟨⟨j1, j2⟩, j3, j4⟩ := h
  have key : ∀ k : Nat, (k : Int) ≤ z → opN (va_up ys z.toNat v) k = opN ys k := by
    intro k
    induction k with
    | zero => intro _; rfl
    | succ k ih =>
      intro hk
      simp only [opN]
      rw [ih (by omega), vu_n (by omega)]
  have last : opN (va_up ys z.toNat v) (z + 1).toNat = o2 := by
    rw [show (z + 1).toNat = z.toNat + 1 by omega]
    simp only [opN]
    rw [vu_e, key z.toNat (by omega), ho, h2]
  refine ⟨⟨⟨by omega, by omega⟩, ?_, ?_⟩, last⟩
  · intro k hk
    by_cases c : (k : Int) = z + 1
    · rw [show k = (z + 1).toNat by omega, last]; exact h6
    · rw [key k (by omega)]; exact j3 k (by omega)
  · intro k hk
    by_cases c : (k : Int) = z
    · rw [show k = z.toNat by omega, vu_e]; exact hv
    · rw [vu_n (by omega)]; exact j4 k (by omega)
theorem qyL_stop {u : QS} (h : ¬ (u.mo = true ∧ u.p.fa = 0)) : ∀ K : Nat, qyL ca le kn K u = u := by
  intro K
  cases K with
  | zero => rfl
  | succ K => simp only [qyL]; rw [if_neg h]
/-- the end of THE LINE -/
theorem end_sim (h : TKS ca lc kn kz gk gs ge) {u : QS} {n : Nat} (ha : AtP ca (4000 + kn) u.p n) (hf : u.p.fa = 0) {ft fp : Int} (hn : NTe u.p ft fp) (hd0 : u.dp = 0) (hj : ¬ (kdF gk kz n = 11 ∨ kdF gk kz n = 12 ∨ kdF gk kz n = 13)) (hnn : n ≤ 200) : (((reE lc kn gk gs ge kz n u.si u.dn ft fp).1 = true ∧ (quN ca kn u).p.fa = 0 ∧ NTe (quN ca kn u).p (reE lc kn gk gs ge kz n u.si u.dn ft fp).2.2.2.2.1 (reE lc kn gk gs ge kz n u.si u.dn ft fp).2.2.2.2.2 ∧ (quN ca kn u).si = (reE lc kn gk gs ge kz n u.si u.dn ft fp).2.2.1 ∧ (quN ca kn u).dn = (reE lc kn gk gs ge kz n u.si u.dn ft fp).2.2.2.1 ∧ ((quN ca kn u).p.la = 0 → u.p.la = 0)) ∨ ((reE lc kn gk gs ge kz n u.si u.dn ft fp).1 = false ∧ (quN ca kn u).p.fa = -2 ∧ (quN ca kn u).p.fp = seF gs kz kn (reE lc kn gk gs ge kz n u.si u.dn ft fp).2.1)) ∧ (quN ca kn u).va = u.va ∧ (quN ca kn u).mo = false ∧ (quN ca kn u).dp = u.dp ∧ (quN ca kn u).wa = false := by
  obtain ⟨a1, a2, a3⟩ := h.at_ ha
  obtain ⟨k1, k2, k3, k4⟩ := h.kd n
  obtain ⟨i0, i1, i2, i3, i4, i5, i6, i7, i8, i9, i10, i11, i12⟩ := kM_i ⟨k1, k2⟩
  -- a token that must be the end
  have fin : ∀ (v : PS) (m : Nat), AtP ca (4000 + kn) v m → v.fa = 0 → (kdF gk kz m = 6 ∧ endP kn v = v) ∨ (kdF gk kz m ≠ 6 ∧ (endP kn v).fa = -2 ∧ (endP kn v).fp = seF gs kz kn m) := by
    intro v m hv hvf
    obtain ⟨b1, _, _⟩ := h.at_ hv
    obtain ⟨l1, l2, _, _⟩ := h.kd m
    obtain ⟨j0, _⟩ := kM_i ⟨l1, l2⟩
    unfold endP
    rw [b1]
    by_cases c : kdF gk kz m = 6
    · rw [if_pos (j0.mpr c)]; exact Or.inl ⟨c, rfl⟩
    · rw [if_neg (fun q => c (j0.mp q))]; exact Or.inr ⟨c, refu_s h hv hvf⟩
  unfold quN
  rw [a1, if_neg (by omega), if_neg (by omega)]
  unfold reE
  by_cases c7 : kdF gk kz n = 7
  · rw [if_pos (show kM (kdF gk kz n) = 11 ∧ u.dp = 0 from ⟨i11.mpr c7, hd0⟩), if_pos c7]
    refine ⟨?_, rfl, rfl, rfl, rfl⟩
    show (_ ∧ (srP ca kn u.si u.dn u.p).1.fa = 0 ∧ NTe (srP ca kn u.si u.dn u.p).1 _ _ ∧ (srP ca kn u.si u.dn u.p).2.1 = _ ∧ (srP ca kn u.si u.dn u.p).2.2 = _ ∧ ((srP ca kn u.si u.dn u.p).1.la = 0 → u.p.la = 0)) ∨ (_ ∧ (srP ca kn u.si u.dn u.p).1.fa = -2 ∧ (srP ca kn u.si u.dn u.p).1.fp = _)
    have ha1 := AtP.next ha
    have hf1 : (nextP ca kn u.p).fa = 0 := hf
    have hn1 : NTe (nextP ca kn u.p) ft fp := hn
    unfold srP
    generalize hq1 : nextP ca kn u.p = p1 at *
    have hla1 : p1.la = u.p.la := by rw [← hq1]; rfl
    obtain ⟨b1, b2, b3⟩ := h.at_ ha1
    obtain ⟨l1, l2, l3, l4⟩ := h.kd (n + 1)
    obtain ⟨j0, j1, _⟩ := kM_i ⟨l1, l2⟩
    rw [show (((n + 1 : Nat)) : Int) = (n : Int) + 1 by omega] at b1 b2 b3 l1 l2 l3 l4 j0 j1
    unfold srQ
    rw [b1]
    by_cases c1 : kdF gk kz ((n : Int) + 1) = 1
    · rw [if_pos (j1.mpr c1), if_pos c1]
      have eix := io_ix h ha1 (by rw [show (((n + 1 : Nat)) : Int) = (n : Int) + 1 by omega]; exact c1)
      rw [show (((n + 1 : Nat)) : Int) = (n : Int) + 1 by omega] at eix
      have hixr : -1 ≤ ixA lc kn gs ge kz ((n : Int) + 1) := by rw [← eix]; exact ioM_r.1
      have hN : NTe (if ioM ca p1.tf p1.tt < 0 then noteP (-3) p1.tf p1 else p1) (rdX lc kn gs ge kz ((n : Int) + 1) ft fp).1 (rdX lc kn gs ge kz ((n : Int) + 1) ft fp).2 := by
        rw [eix]
        unfold rdX
        by_cases c : ixA lc kn gs ge kz ((n : Int) + 1) = -1
        · rw [if_pos c, if_pos (by omega)]
          exact noteP_y hn1 (by rw [b2, if_neg (by omega)]; omega) (by decide)
        · rw [if_neg c, if_neg (by omega)]; exact hn1
      have hA : AtP ca (4000 + kn) (if ioM ca p1.tf p1.tt < 0 then noteP (-3) p1.tf p1 else p1) (n + 1) := by
        split
        · exact noteP_at ha1
        · exact ha1
      have hF : (if ioM ca p1.tf p1.tt < 0 then noteP (-3) p1.tf p1 else p1).fa = 0 := by
        split
        · rw [(noteP_f (u := p1)).2.2.2.2.1]; exact hf1
        · exact hf1
      have ha2 := AtP.next hA
      have hN2 : NTe (srI ca kn p1) (rdX lc kn gs ge kz ((n : Int) + 1) ft fp).1 (rdX lc kn gs ge kz ((n : Int) + 1) ft fp).2 := hN
      have hF2 : (srI ca kn p1).fa = 0 := hF
      have ha2 : AtP ca (4000 + kn) (srI ca kn p1) (n + 1 + 1) := ha2
      have hmono : (srI ca kn p1).la = 0 → u.p.la = 0 := by
        intro q
        have g1 := hN2.1
        rw [q] at g1
        have z2 := rdX_r (lc := lc) (kn := kn) (gs := gs) (ge := ge) (kz := kz) (x := (n : Int) + 1) (ft := ft) (fp := fp)
        rw [hn.1]; omega
      unfold srE
      generalize srI ca kn p1 = p2 at *
      rw [eix]
      obtain ⟨d1, d2, d3⟩ := h.at_ ha2
      obtain ⟨e1, e2, e3, e4⟩ := h.kd (n + 1 + 1)
      obtain ⟨f0, f1, f2, f3, f4, f5, f6, _⟩ := kM_i ⟨e1, e2⟩
      have fz := fin p2 (n + 1 + 1) ha2 hF2
      rw [show (((n + 1 + 1 : Nat)) : Int) = (n : Int) + 1 + 1 by omega] at d1 f6 fz
      rw [d1]
      by_cases c5 : kdF gk kz ((n : Int) + 1 + 1) = 5
      · rw [if_pos (f6.mpr c5), if_pos c5]
        have ha3 := AtP.next ha2
        have hF3 : (nextP ca kn p2).fa = 0 := hF2
        have hN3 : NTe (nextP ca kn p2) (rdX lc kn gs ge kz ((n : Int) + 1) ft fp).1 (rdX lc kn gs ge kz ((n : Int) + 1) ft fp).2 := hN2
        have hm3 : (nextP ca kn p2).la = 0 → u.p.la = 0 := hmono
        unfold srD
        generalize nextP ca kn p2 = p3 at *
        obtain ⟨g1, g2, g3⟩ := h.at_ ha3
        obtain ⟨m1, m2, m3, m4⟩ := h.kd (n + 1 + 1 + 1)
        obtain ⟨o0, o1, o2, o3, o4, o5, o6, o7, o8, o9, o10, o11, o12⟩ := kM_i ⟨m1, m2⟩
        rw [show (((n + 1 + 1 + 1 : Nat)) : Int) = (n : Int) + 1 + 1 + 1 by omega] at g1 o12
        rw [g1]
        by_cases c8 : kdF gk kz ((n : Int) + 1 + 1 + 1) = 8
        · rw [if_pos (o12.mpr c8), if_pos c8]
          have ha4 := AtP.next ha3
          have hF4 : (nextP ca kn p3).fa = 0 := hF3
          have hN4 : NTe (nextP ca kn p3) (rdX lc kn gs ge kz ((n : Int) + 1) ft fp).1 (rdX lc kn gs ge kz ((n : Int) + 1) ft fp).2 := hN3
          have hm4 : (nextP ca kn p3).la = 0 → u.p.la = 0 := hm3
          have fz4 := fin (nextP ca kn p3) (n + 1 + 1 + 1 + 1) ha4 hF4
          rw [show (((n + 1 + 1 + 1 + 1 : Nat)) : Int) = (n : Int) + 1 + 1 + 1 + 1 by omega] at fz4
          dsimp only
          rcases fz4 with ⟨y1, y2⟩ | ⟨y1, y2, y3⟩
          · rw [y2]; exact Or.inl ⟨decide_eq_true y1, hF4, hN4, rfl, rfl, hm4⟩
          · exact Or.inr ⟨decide_eq_false y1, y2, y3⟩
        · rw [if_neg (fun q => c8 (o12.mp q)), if_neg c8]
          have := refu_s h ha3 hF3
          rw [show (((n + 1 + 1 + 1 : Nat)) : Int) = (n : Int) + 1 + 1 + 1 by omega] at this
          exact Or.inr ⟨rfl, this.1, this.2⟩
      · rw [if_neg (fun q => c5 (f6.mp q)), if_neg c5]
        dsimp only
        rcases fz with ⟨y1, y2⟩ | ⟨y1, y2, y3⟩
        · rw [y2]; exact Or.inl ⟨decide_eq_true y1, hF2, hN2, rfl, rfl, hmono⟩
        · exact Or.inr ⟨decide_eq_false y1, y2, y3⟩
    · rw [if_neg (fun q => c1 (j1.mp q)), if_neg c1]
      have := refu_s h ha1 hf1
      rw [show (((n + 1 : Nat)) : Int) = (n : Int) + 1 by omega] at this
      exact Or.inr ⟨rfl, this.1, this.2⟩
  · rw [if_neg (show ¬ (kM (kdF gk kz n) = 11 ∧ u.dp = 0) from fun q => c7 (i11.mp q.1)), if_neg c7]
    refine ⟨?_, rfl, rfl, rfl, rfl⟩
    by_cases c6 : kdF gk kz n = 6
    · rw [if_pos ⟨i0.mpr c6, by omega⟩]
      exact Or.inl ⟨decide_eq_true c6, hf, hn, rfl, rfl, id⟩
    · rw [if_neg (fun q => c6 (i0.mp q.1))]
      have := refu_s h ha hf
      exact Or.inr ⟨decide_eq_false c6, this.1, this.2⟩
theorem q_sim (h : TKS ca lc kn kz gk gs ge) (hS : SR ca le hd) {si : Int} {dn : Bool} : ∀ (k K : Nat) (o : Int) (b : Bool) (ft fp : Int) (n : Nat) (z cc : Int) (ys : Nat → Int) (g : Nat → CEt) (u : QS), u.mo = true → u.p.fa = 0 → AtP ca (4000 + kn) u.p n → NTe u.p ft fp → u.dp = o → u.wa = b → 0 ≤ o ∧ o ≤ 6 → (n : Int) ≤ kz → kz + 1 - k ≤ n → k < K → 0 ≤ z ∧ z ≤ n → 0 ≤ cc → 2 * cc ≤ (if b = true then (n : Int) else n + 1) → u.si = si → u.dn = dn → JOK ys z → opN ys z.toNat = o → QCo lc kn kz gs hd (rqL lc kn gk gs ge kz si dn k o b (ft, fp, (n : Int), z, cc, ys, g)) (qyL ca le kn K u) z cc ys g u := by
  have hkz := h.2.1
  intro k
  induction k with
  | zero => intro K o b ft fp n z cc ys g u _ _ _ _ _ _ _ h1 h2; omega
  | succ k ih =>
    intro K o b ft fp n z cc ys g u hmo hfa hat hnt hdp hwa ho hn1 hn2 hK hz hcc hcb hsi hdn hJ hop
    obtain ⟨K, rfl⟩ : ∃ q, K = q + 1 := ⟨K - 1, by omega⟩
    obtain ⟨a1, a2, a3⟩ := h.at_ hat
    obtain ⟨k1, k2, k3, k4⟩ := h.kd n
    obtain ⟨i0, i1, i2, i3, i4, i5, i6, i7, i8, i9, i10, i11, i12⟩ := kM_i ⟨k1, k2⟩
    have eU : qyL ca le kn (K + 1) u = qyL ca le kn K (quS ca le kn u) := by
      simp only [qyL]; rw [if_pos ⟨hmo, hfa⟩]
    rw [eU]
    simp only [rqL]
    unfold quS
    rw [hwa]
    cases b with
    | true =>
      rw [if_pos rfl, if_pos rfl]
      rw [if_pos rfl] at hcb
      unfold quW
      rw [a1]
      by_cases c9 : kdF gk kz n = 9
      · rw [if_pos (i4.mpr c9), hdp]
        by_cases c6 : o < 6
        · -- a bracket opens
          obtain ⟨k5, _⟩ := k3 (by omega)
          rw [if_pos c6, if_pos ⟨c9, c6⟩]
          unfold tsY
          dsimp only
          rw [c9]
          obtain ⟨J1, J2⟩ := JOK_push (v := 9) (o2 := o + 1) hJ hop (by omega) (by omega) rfl (by omega)
          refine QC_step hz.1 (ih K (o + 1) true ft fp (n + 1) (z + 1) cc _ g _ hmo hfa (AtP.next hat) hnt rfl rfl (by omega) (by omega) (by omega) (by omega) (by omega) hcc (by rw [if_pos rfl]; omega) hsi hdn J1 J2) (by omega) (fun _ _ => rfl) (fun j j1 j2 => by omega) id ?_
          intro _ G J _ hR
          obtain ⟨r1, r2, r3, r4⟩ := hR
          unfold jaS
          rw [if_pos rfl]
          refine ⟨by show J.1 + 1 = o + 1; rw [r1, hdp], r2, ?_, fun q => Bool.noConfusion q⟩
          intro j hj
          have hj : (j : Int) < o + 1 ∨ ((j : Int) = o + 1 ∧ true = true) := hj
          show DUe (J.1 + 1, J.2.1, va_up J.2.2.1 (J.1 + 1).toNat 0, va_up J.2.2.2 (J.1 + 1).toNat 12) (QS.mk (nextP ca kn u.p) (o + 1) u.va (va_up u.pe (o + 1).toNat 0) true u.mo u.si u.dn) j
          unfold DUe
          dsimp only [QS.mk, QS.pe, QS.va, QS.dp, QS.wa, QS.p]
          rw [r1, hdp]
          by_cases e : j = (o + 1).toNat
          · subst e
            rw [vu_e, vu_e, vu_e]
            exact Or.inl ⟨rfl, rfl, rfl⟩
          · rw [vu_n e, vu_n e, vu_n e]
            exact r3 j (by rw [hdp, hwa]; rcases hj with q | ⟨q, _⟩; (by_cases q2 : (j : Int) = o; exact Or.inr ⟨q2, rfl⟩; exact Or.inl (by omega)); (omega))
        · -- one bracket too many
          rw [if_neg c6, if_neg (fun q => c6 q.2)]
          have hst : (stopP kn u.p).fa = -2 ∧ (stopP kn u.p).fp = seF gs kz kn n := by
            unfold stopP
            rw [if_pos hfa, a1, if_neg (fun q => by have := i7.mp q; omega), if_neg (fun q => by have := i2.mp q; omega)]
            refine ⟨rfl, ?_⟩
            show u.p.tf - 4000 = _
            rw [a2, if_neg (by omega)]; omega
          have hrc : (rcY lc kn gk gs ge kz ft fp ((n : Int), z, cc, ys, g)).1 = false ∧ (rcY lc kn gk gs ge kz ft fp ((n : Int), z, cc, ys, g)).2.2.2.1 = n := by
            unfold rcY
            rw [if_pos (Or.inl (by dsimp only; omega))]
            unfold rtM
            dsimp only
            rw [if_neg (by omega), if_neg (by omega), if_neg (by omega)]
            exact ⟨rfl, rfl⟩
          rw [if_neg (by rw [hrc.1]; decide), qyL_stop (by show ¬ (_ ∧ (stopP kn u.p).fa = 0); rw [hst.1]; exact fun q => absurd q.2 (by decide))]
          refine Or.inr ⟨rfl, hst.1, ?_⟩
          show (stopP kn u.p).fp = seF gs kz kn (rcY lc kn gk gs ge kz ft fp ((n : Int), z, cc, ys, g)).2.2.2.1
          rw [hrc.2]; exact hst.2
      · -- a CLAUSE
        rw [if_neg (fun q => c9 (i4.mp q)), if_neg (fun q => c9 q.1)]
        obtain ⟨cl, cm⟩ := cl_sim (le := le) h hS hat hfa hnt (t := ((n : Int), z, cc, ys, g)) rfl hcc hcb
        generalize rcY lc kn gk gs ge kz ft fp ((n : Int), z, cc, ys, g) = R at *
        generalize clP ca le kn u.p = Q at *
        rcases cl with ⟨x1, x2, ⟨m, x3, x4, x5, x6⟩, x7, x8, x9, x10, x11, x12, x14, x13⟩ | ⟨x1, x2, x3⟩
        · rw [if_pos x1]
          obtain ⟨v0, ft2, fp2, n2, z2, cc2, ys2, g2⟩ := R
          dsimp only at x1 x3 x7 x8 x9 x10 x11 x12 x14 x13 ⊢
          subst x3 x8 x9 x11
          obtain ⟨J1, J2⟩ := JOK_push (v := 0) (o2 := o) hJ hop (by omega) (by omega) (by rw [if_neg (by decide), if_neg (by decide)]) ho
          refine QC_step hz.1 (ih K o false ft2 fp2 m (z + 1) (cc + 1) _ g2 _ hmo x2 x4 x7 hdp rfl ho x6 (by omega) (by omega) (by omega) (by omega) (by rw [if_neg (by decide)]; omega) hsi hdn J1 J2) (by omega) (fun j hj => x12 j (by omega)) (fun j j1 j2 => by rw [show j = cc.toNat by omega]; exact x14) cm ?_
          intro hla G J hG hR
          obtain ⟨r1, r2, r3, r4⟩ := hR
          have hval := x13 hla
          have hg := hG cc.toNat (by omega)
          rw [← hval] at hg
          have hI : I32 Q.2 := by rw [hval]; have := recC_r (hd := hd) (lc := lc) (e := g2 cc.toNat); unfold I32; omega
          have due := r3 u.dp.toNat (Or.inr ⟨by omega, hwa⟩)
          obtain ⟨d1, d2⟩ := due_j due hI
          unfold jaS
          rw [if_neg (by decide), if_neg (by decide), if_pos rfl, r1, r2, if_pos x10, hg, d1]
          refine ⟨rfl, rfl, ?_, ?_⟩
          · intro j hj
            have hj : (j : Int) < u.dp := by
              rcases hj with q | ⟨_, q⟩
              · exact q
              · exact absurd (show (false : Bool) = true from q) (by decide)
            have := r3 j (Or.inl hj)
            unfold DUe at this ⊢
            dsimp only [QS.mk, QS.pe, QS.va, QS.dp, QS.wa, QS.p]
            rw [vu_n (show j ≠ u.dp.toNat by omega), vu_n (show j ≠ u.dp.toNat by omega)]
            exact this
          · intro _
            dsimp only [QS.mk, QS.pe, QS.va, QS.dp, QS.wa, QS.p]
            rw [vu_e, vu_e]
            exact ⟨rfl, d2⟩
        · rw [if_neg (by rw [x1]; decide), qyL_stop (by show ¬ (_ ∧ Q.1.fa = 0); rw [x2]; exact fun q => absurd q.2 (by decide))]
          exact Or.inr ⟨rfl, x2, x3⟩
    | false =>
      rw [if_neg (show ¬ (false : Bool) = true by decide), if_neg (show ¬ (false : Bool) = true by decide)]
      rw [if_neg (by decide)] at hcb
      by_cases c10 : kdF gk kz n = 10 ∧ 0 < o
      · -- a bracket closes
        obtain ⟨k5, _⟩ := k3 (by omega)
        unfold quN
        rw [a1, if_neg (show ¬ (kM (kdF gk kz n) = 8 ∨ kM (kdF gk kz n) = 9 ∨ kM (kdF gk kz n) = 10) by omega), if_pos (show kM (kdF gk kz n) = 5 ∧ 0 < u.dp from ⟨i5.mpr c10.1, by omega⟩), if_pos c10]
        unfold tsY
        dsimp only
        rw [c10.1]
        obtain ⟨J1, J2⟩ := JOK_push (v := 10) (o2 := o - 1) hJ hop (by omega) (by omega) rfl (by omega)
        refine QC_step hz.1 (ih K (o - 1) false ft fp (n + 1) (z + 1) cc _ g _ hmo hfa (AtP.next hat) hnt (by show u.dp - 1 = o - 1; rw [hdp]) rfl (by omega) (by omega) (by omega) (by omega) (by omega) hcc (by rw [if_neg (by decide)]; omega) hsi hdn J1 J2) (by omega) (fun _ _ => rfl) (fun j j1 j2 => by omega) id ?_
        intro _ G J _ hR
        obtain ⟨r1, r2, r3, r4⟩ := hR
        obtain ⟨r5, r6⟩ := r4 hwa
        have due := r3 (u.dp - 1).toNat (Or.inl (by omega))
        obtain ⟨d1, d2⟩ := due_j due r6
        unfold jaS
        rw [if_neg (by decide), if_pos rfl, r1, show u.dp - 1 + 1 = u.dp by omega, r5, d1]
        refine ⟨rfl, r2, ?_, ?_⟩
        · intro j hj
          have hj : (j : Int) < u.dp - 1 := by
            rcases hj with q | ⟨_, q⟩
            · exact q
            · exact absurd (show (false : Bool) = true from q) (by decide)
          have := r3 j (Or.inl (by omega))
          unfold DUe at this ⊢
          dsimp only [QS.mk, QS.pe, QS.va, QS.dp, QS.wa, QS.p]
          rw [vu_n (show j ≠ (u.dp - 1).toNat by omega), vu_n (show j ≠ (u.dp - 1).toNat by omega)]
          exact this
        · intro _
          dsimp only [QS.mk, QS.pe, QS.va, QS.dp, QS.wa, QS.p]
          rw [vu_e, vu_e]
          exact ⟨rfl, d2⟩
      · rw [if_neg c10]
        by_cases cj : kdF gk kz n = 11 ∨ kdF gk kz n = 12 ∨ kdF gk kz n = 13
        · -- a word that joins
          obtain ⟨k5, _⟩ := k3 (by omega)
          unfold quN
          rw [a1, if_pos (show kM (kdF gk kz n) = 8 ∨ kM (kdF gk kz n) = 9 ∨ kM (kdF gk kz n) = 10 by omega), if_pos (show jnF (kdF gk kz n) = true from decide_eq_true cj)]
          unfold tsY
          dsimp only
          have ek : kM (kdF gk kz n) = kdF gk kz n - 3 := by
            rcases cj with q | q | q <;> rw [q] <;> rfl
          rw [ek]
          generalize kdF gk kz n = kd at *
          obtain ⟨J1, J2⟩ := JOK_push (v := kd) (o2 := o) hJ hop (by omega) (by omega) (by rw [if_neg (by omega), if_neg (by omega)]) ho
          refine QC_step hz.1 (ih K o true ft fp (n + 1) (z + 1) cc _ g _ hmo hfa (AtP.next hat) hnt hdp rfl ho (by omega) (by omega) (by omega) (by omega) hcc (by rw [if_pos rfl]; omega) hsi hdn J1 J2) (by omega) (fun _ _ => rfl) (fun j j1 j2 => by omega) id ?_
          intro _ G J _ hR
          obtain ⟨r1, r2, r3, r4⟩ := hR
          obtain ⟨r5, r6⟩ := r4 hwa
          unfold jaS
          rw [if_neg (by omega), if_neg (by omega), if_neg (by omega), r1]
          refine ⟨rfl, r2, ?_, fun q => Bool.noConfusion q⟩
          intro j hj
          have hj : (j : Int) < u.dp ∨ ((j : Int) = u.dp ∧ true = true) := hj
          unfold DUe
          dsimp only [QS.mk, QS.pe, QS.va, QS.dp, QS.wa, QS.p]
          by_cases e : j = u.dp.toNat
          · subst e
            rw [vu_e, vu_e, vu_e]
            exact Or.inr ⟨by omega, r5, by omega⟩
          · rw [vu_n e, vu_n e, vu_n e]
            exact r3 j (Or.inl (by omega))
        · -- the end, or nothing that may be there
          rw [if_neg (show ¬ jnF (kdF gk kz n) = true from fun q => cj (of_decide_eq_true q))]
          by_cases c0 : o = 0
          · rw [if_pos c0]
            obtain ⟨e1, e2, e3, e4, e5⟩ := end_sim h hat hfa hnt (by rw [hdp]; exact c0) cj (by omega)
            rw [hsi, hdn] at e1
            rw [qyL_stop (by rw [e3]; exact fun q => absurd q.1 (by decide))]
            unfold reY
            dsimp only
            generalize quN ca kn u = U at *
            generalize reE lc kn gk gs ge kz (n : Int) si dn ft fp = E at *
            rcases e1 with ⟨x1, x2, x3, x4, x5, x6⟩ | ⟨x1, x2, x3⟩
            · refine Or.inl ⟨x1, x2, x3, x4, x5, x6, by dsimp only; omega, by dsimp only; omega, by dsimp only; omega, hJ, fun _ _ => rfl, fun _ _ => rfl, ⟨by rw [e4, hdp]; exact c0, e5⟩, fun j j1 j2 => by dsimp only at j2; omega, ?_⟩
              intro _ G J _ hR
              obtain ⟨r1, r2, r3, r4⟩ := hR
              obtain ⟨r5, _⟩ := r4 hwa
              dsimp only
              rw [show (z - z).toNat = 0 by omega]
              simp only [jaL]
              rw [e2]
              rw [hdp, c0] at r5
              exact r5
            · exact Or.inr ⟨x1, x2, x3⟩
          · rw [if_neg c0]
            have hq : quN ca kn u = QS.mk (refuP kn u.p) u.dp u.va u.pe false false u.si u.dn := by
              unfold quN
              rw [a1, if_neg (show ¬ (kM (kdF gk kz n) = 8 ∨ kM (kdF gk kz n) = 9 ∨ kM (kdF gk kz n) = 10) by omega), if_neg (show ¬ (kM (kdF gk kz n) = 5 ∧ 0 < u.dp) from fun q => c10 ⟨i5.mp q.1, by omega⟩), if_neg (show ¬ (kM (kdF gk kz n) = 11 ∧ u.dp = 0) from fun q => c0 (by omega)), if_neg (show ¬ (kM (kdF gk kz n) = 0 ∧ ¬ 0 < u.dp) from fun q => q.2 (by omega))]
            have hre := refu_s h hat hfa
            rw [hq, qyL_stop (by exact fun q => absurd (show (false : Bool) = true from q.1) (by decide))]
            exact Or.inr ⟨rfl, hre.1, hre.2⟩
end QSIM

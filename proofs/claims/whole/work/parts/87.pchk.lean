/-! the look through BYTES: both sides -/
theorem by_FM {tb : Nat → Int} {cn x : Int} (h : 0 ≤ x) : byM tb cn x = byF tb cn x := by
  unfold byM byF
  by_cases c : x < cn
  · rw [if_pos c, if_pos ⟨h, c⟩]
  · rw [if_neg c, if_neg (fun q => c q.2)]
theorem by_out {tb : Nat → Int} {cn x : Int} (h : cn ≤ x) : byF tb cn x = -1 := by
  unfold byF; rw [if_neg (by omega)]
theorem leL_F {tb : Nat → Int} {cn : Int} : ∀ (k : Nat) (x : Int), 0 ≤ x → leL tb cn k x = ldL tb cn k x := by
  intro k
  induction k with
  | zero => intro x _; rfl
  | succ k ih => intro x h; simp only [leL, ldL]; rw [by_FM h, ih (x + 1) (by omega)]
theorem behF_i {x : Int} (h : 24 ≤ x) : behF x = true ↔ (¬ x = 24 ∧ (x - 24) % 12 = 0) := by
  unfold behF
  rw [decide_eq_true_eq]
  omega
def dcP (u : Int × Int) : Bool × Int := (decide (u.1 = 0), u.2)
theorem diL_F {tb : Nat → Int} {cn : Int} : ∀ (k n : Nat) (x : Int), 24 ≤ x → x ≤ cn → k = (cn - x).toNat → k < n → diL tb cn n x = dcP (enL tb cn k x) := by
  intro k
  induction k with
  | zero =>
    intro n x h0 h1 hk hn
    obtain ⟨n, rfl⟩ : ∃ m, n = m + 1 := ⟨n - 1, by omega⟩
    simp only [diL, enL]
    rw [by_FM (by omega), by_out (by omega), if_neg (fun q => absurd q.2.2 (by omega)), if_neg (by decide), show x = cn by omega]
    rfl
  | succ k ih =>
    intro n x h0 h1 hk hn
    obtain ⟨n, rfl⟩ : ∃ m, n = m + 1 := ⟨n - 1, by omega⟩
    simp only [diL, enL]
    rw [by_FM (by omega)]
    have hb := behF_i h0
    by_cases c : byF tb cn x = 30 ∧ behF x = true
    · rw [if_pos c, if_pos ⟨(hb.mp c.2).1, (hb.mp c.2).2, c.1⟩]; rfl
    · rw [if_neg c, if_neg (fun q => c ⟨q.2.2, hb.mpr ⟨q.1, q.2.1⟩⟩)]
      by_cases c2 : isDig (byF tb cn x) = true
      · rw [if_pos c2, if_pos c2]; exact ih n (x + 1) (by omega) (by omega) (by omega) (by omega)
      · rw [if_neg c2, if_neg c2]; rfl
def resA (u : Bool × Int) : Int := if u.1 = true then u.2 + 1 else -1 - u.2
theorem isTxt_m : isTxt (-1) = false := by decide
theorem isTxt_30 : isTxt 30 = false := by decide
theorem isTxt_31 : isTxt 31 = false := by decide
theorem by_in {tb : Nat → Int} {cn x : Int} {P : Int → Bool} (h : P (byF tb cn x) = true) (h2 : P (-1) = false) : x < cn := by
  by_cases c : x < cn
  · exact c
  · rw [by_out (by omega), h2] at h; exact Bool.noConfusion h
theorem alW_t {tb : Nat → Int} {cn st : Int} : ∀ (m n : Nat) (x : Int), 0 ≤ x → x ≤ cn → m = (cn + 1 - x).toNat → m ≤ n → alW tb cn true n x = resA (ffL tb cn st false m x) := by
  intro m
  induction m with
  | zero => intro n x _ _ h; omega
  | succ m ih =>
    intro n x h0 h1 hm hn
    obtain ⟨n, rfl⟩ : ∃ q, n = q + 1 := ⟨n - 1, by omega⟩
    simp only [alW, ffL]
    rw [by_FM h0]
    rw [show (if (false : Bool) = true then fsF tb cn x (x - st) (byF tb cn x) else isTxt (byF tb cn x)) = isTxt (byF tb cn x) from rfl]
    by_cases c1 : byF tb cn x = 30
    · rw [if_pos c1, c1, if_neg (by rw [isTxt_30]; decide)]; rfl
    · rw [if_neg c1, if_neg (fun q => Bool.noConfusion q.1)]
      by_cases c2 : isTxt (byF tb cn x) = true
      · have := by_in c2 isTxt_m
        rw [if_pos c2, if_pos c2]; exact ih n (x + 1) (by omega) (by omega) (by omega) (by omega)
      · rw [if_neg c2, if_neg c2, decide_eq_false c1]; rfl
theorem ldc {c : Int} : (isLow c || isDig c) = true ↔ (isDig c = true ∨ (97 ≤ c ∧ c ≤ 122)) := by
  unfold isLow
  rw [Bool.or_eq_true, decide_eq_true_eq]
  exact Or.comm
theorem alW_e {tb : Nat → Int} {cn : Int} {b : Bool} {n : Nat} {k : Int} : alW tb cn b (n + 1) k = if byM tb cn k = 30 then k + 1 else if b = false ∧ byM tb cn k = 31 then (if isDig (byM tb cn (k + 1)) = true ∨ (97 ≤ byM tb cn (k + 1) ∧ byM tb cn (k + 1) ≤ 122) then alW tb cn b n (k + 2) else -1 - (k + 1)) else if isTxt (byM tb cn k) = true then alW tb cn b n (k + 1) else -1 - k := rfl
theorem ffL_t {tb : Nat → Int} {cn st : Int} {m : Nat} {x : Int} : ffL tb cn st true (m + 1) x = if fsF tb cn x (x - st) (byF tb cn x) = true then ffL tb cn st true m (x + 1) else (decide (byF tb cn x = 30) && ceF tb cn x (x - st) true, x) := rfl
theorem alW_f {tb : Nat → Int} {cn st : Int} : ∀ (m n : Nat) (x : Int), 0 ≤ st → st + 2 ≤ x → x ≤ cn → ((x = st + 2 ∧ byF tb cn x = 31) ∨ (st + 2 < x ∧ byF tb cn (x - 1) ≠ 31)) → m = (cn + 1 - x).toNat → m ≤ n → alW tb cn false n x = resA (ffL tb cn st true m x) := by
  intro m
  induction m using Nat.strongRecOn with
  | ind m ih =>
    intro n x hs h0 h1 hst hm hn
    obtain ⟨m, rfl⟩ : ∃ q, m = q + 1 := ⟨m - 1, by omega⟩
    obtain ⟨n, rfl⟩ : ∃ q, n = q + 1 := ⟨n - 1, by omega⟩
    rw [alW_e, ffL_t, by_FM (x := x) (by omega), by_FM (x := x + 1) (by omega)]
    have efs : byF tb cn x ≠ 31 → fsF tb cn x (x - st) (byF tb cn x) = isTxt (byF tb cn x) := by
      intro h31
      rcases hst with ⟨_, q⟩ | ⟨q1, q2⟩
      · exact absurd q h31
      · unfold fsF; rw [if_neg (by omega), if_neg (by omega), if_neg q2, decide_eq_false h31, Bool.false_or]
    by_cases c0 : byF tb cn x = 31
    · have hlt : x < cn := by
        by_cases c : x < cn
        · exact c
        · rw [by_out (by omega)] at c0; omega
      have e1 : fsF tb cn x (x - st) (byF tb cn x) = true := by
        unfold fsF
        rcases hst with ⟨q, _⟩ | ⟨q1, q2⟩
        · rw [if_neg (by omega), if_pos (by omega), c0]; rfl
        · rw [if_neg (by omega), if_neg (by omega), if_neg q2, c0]; rfl
      rw [if_neg (by omega), if_pos ⟨rfl, c0⟩, if_pos e1]
      obtain ⟨m, rfl⟩ : ∃ q, m = q + 1 := ⟨m - 1, by omega⟩
      rw [ffL_t]
      have e2 : fsF tb cn (x + 1) (x + 1 - st) (byF tb cn (x + 1)) = (isLow (byF tb cn (x + 1)) || isDig (byF tb cn (x + 1))) := by
        unfold fsF
        rw [if_neg (by omega), if_neg (by omega), show x + 1 - 1 = x by omega, if_pos c0]
      rw [e2]
      by_cases c2 : (isLow (byF tb cn (x + 1)) || isDig (byF tb cn (x + 1))) = true
      · have hlt2 := by_in (P := fun c => isLow c || isDig c) c2 (by decide)
        rw [if_pos c2, if_pos (ldc.mp c2), show x + 1 + 1 = x + 2 by omega]
        refine ih m (by omega) n (x + 2) hs (by omega) (by omega) (Or.inr ⟨by omega, ?_⟩) (by omega) (by omega)
        rw [show x + 2 - 1 = x + 1 by omega]
        intro q
        rw [q] at c2
        exact absurd c2 (by decide)
      · rw [if_neg c2, if_neg (fun q => c2 (ldc.mpr q))]
        have e3 : ceF tb cn (x + 1) (x + 1 - st) true = false := by
          unfold ceF
          rw [if_pos rfl, show x + 1 - 1 = x by omega]
          exact decide_eq_false (fun q => q.2 c0)
        rw [e3, Bool.and_false]
        rfl
    · rw [efs c0]
      have hst : st + 2 < x ∧ byF tb cn (x - 1) ≠ 31 := by
        rcases hst with ⟨_, q⟩ | q
        · exact absurd q c0
        · exact q
      by_cases c1 : byF tb cn x = 30
      · rw [if_pos c1, c1, if_neg (by rw [isTxt_30]; decide)]
        have e3 : ceF tb cn x (x - st) true = true := by
          unfold ceF
          rw [if_pos rfl]
          exact decide_eq_true ⟨by omega, hst.2⟩
        rw [e3]; rfl
      · rw [if_neg c1, if_neg (fun q => c0 q.2)]
        by_cases c2 : isTxt (byF tb cn x) = true
        · have := by_in c2 isTxt_m
          rw [if_pos c2, if_pos c2]
          exact ih m (by omega) n (x + 1) hs (by omega) (by omega) (Or.inr ⟨by omega, by rw [show x + 1 - 1 = x by omega]; exact c0⟩) (by omega) (by omega)
        · rw [if_neg c2, if_neg c2, decide_eq_false c1]; rfl
theorem alM_F {tb : Nat → Int} {cn st tag : Int} (h0 : 0 ≤ st) (h1 : st ≤ cn) (hc : cn ≤ 900) : alM tb cn (decide (tag < 10)) st = resA (ffR tb cn st (decide (10 ≤ tag))) := by
  unfold alM ffR
  by_cases ct : tag < 10
  · rw [decide_eq_true ct, decide_eq_false (show ¬ 10 ≤ tag by omega), if_pos rfl]
    exact alW_t _ 1000 st h0 h1 rfl (by omega)
  · rw [decide_eq_false ct, decide_eq_true (show 10 ≤ tag by omega), if_neg (by decide)]
    have hJ : ∀ x : Int, 0 ≤ x → inJ tb cn x = (decide (byF tb cn x = 32) || isDig (byF tb cn x)) := by
      intro x hx; unfold inJ; rw [by_FM hx]
    have step : ∀ (m : Nat) (x : Int), ffL tb cn st true (m + 1) x = if fsF tb cn x (x - st) (byF tb cn x) = true then ffL tb cn st true m (x + 1) else (decide (byF tb cn x = 30) && ceF tb cn x (x - st) true, x) := fun m x => rfl
    have hce : ∀ x : Int, x - st ≤ 2 → ceF tb cn x (x - st) true = false := by
      intro x hx; unfold ceF; rw [if_pos rfl]; exact decide_eq_false (fun q => by omega)
    rw [hJ st h0, hJ (st + 1) (by omega), by_FM (by omega)]
    rw [show (cn + 1 - st).toNat = (cn - st).toNat + 1 by omega, step]
    have f0 : fsF tb cn st (st - st) (byF tb cn st) = (decide (byF tb cn st = 32) || isDig (byF tb cn st)) := by
      unfold fsF; rw [if_pos (by omega)]
    rw [f0]
    by_cases c0 : (decide (byF tb cn st = 32) || isDig (byF tb cn st)) = true
    · have l0 := by_in (P := fun c => decide (c = 32) || isDig c) c0 (by decide)
      rw [c0, if_neg (by decide), if_pos rfl, show (cn - st).toNat = (cn - (st + 1)).toNat + 1 by omega, step]
      have f1 : fsF tb cn (st + 1) (st + 1 - st) (byF tb cn (st + 1)) = (decide (byF tb cn (st + 1) = 32) || isDig (byF tb cn (st + 1))) := by
        unfold fsF; rw [if_pos (by omega)]
      rw [f1]
      by_cases c1 : (decide (byF tb cn (st + 1) = 32) || isDig (byF tb cn (st + 1))) = true
      · have l1 := by_in (P := fun c => decide (c = 32) || isDig c) c1 (by decide)
        rw [c1, if_neg (by decide), if_pos rfl]
        by_cases c2 : byF tb cn (st + 2) = 31
        · rw [if_pos c2, show st + 1 + 1 = st + 2 by omega]
          exact alW_f _ 1000 (st + 2) h0 (by omega) (by omega) (Or.inl ⟨rfl, c2⟩) (by omega) (by omega)
        · rw [if_neg c2, show (cn - (st + 1)).toNat = (cn - (st + 2)).toNat + 1 by omega, step, show st + 1 + 1 = st + 2 by omega]
          have f2 : fsF tb cn (st + 2) (st + 2 - st) (byF tb cn (st + 2)) = false := by
            unfold fsF; rw [if_neg (by omega), if_pos (by omega)]; exact decide_eq_false c2
          rw [f2, if_neg (by decide), hce (st + 2) (by omega), Bool.and_false]; rfl
      · rw [Bool.not_eq_true] at c1
        rw [c1, if_pos rfl, if_neg (by decide), hce (st + 1) (by omega), Bool.and_false]; rfl
    · rw [Bool.not_eq_true] at c0
      rw [c0, if_pos rfl, if_neg (by decide), hce st (by omega), Bool.and_false]; rfl
theorem numM_B {tb : Nat → Int} {nb : Nat} {k : Nat} {x : Int} (h0 : 0 ≤ x) (h : x + k ≤ nb) : numM tb k x 0 = numAt tb nb x k := by
  have := numM_A (t := tb) (f := tb) (n := nb) (s := 0) (fun j _ _ => by rw [Int.zero_add]) k x 0 h0 h
  rw [Int.zero_add] at this
  rw [this]; unfold numAt; rw [Int.toNat_natCast]
theorem ffL_x {tb : Nat → Int} {cn st : Int} {b : Bool} : ∀ (k : Nat) (x : Int), x ≤ cn → k = (cn + 1 - x).toNat → x ≤ (ffL tb cn st b k x).2 ∧ (ffL tb cn st b k x).2 ≤ cn ∧ ((ffL tb cn st b k x).1 = true → byF tb cn (ffL tb cn st b k x).2 = 30 ∧ ceF tb cn (ffL tb cn st b k x).2 ((ffL tb cn st b k x).2 - st) b = true) ∧ ∀ z : Int, x ≤ z → z < (ffL tb cn st b k x).2 → (if b = true then fsF tb cn z (z - st) (byF tb cn z) else isTxt (byF tb cn z)) = true := by
  intro k
  induction k with
  | zero => intro x h1 hk; omega
  | succ k ih =>
    intro x h1 hk
    simp only [ffL]
    by_cases c : (if b = true then fsF tb cn x (x - st) (byF tb cn x) else isTxt (byF tb cn x)) = true
    · rw [if_pos c]
      have hx : x < cn := by
        by_cases q : x < cn
        · exact q
        · exfalso
          rw [by_out (by omega)] at c
          cases b
          · rw [if_neg (by decide), isTxt_m] at c; exact Bool.noConfusion c
          · rw [if_pos rfl] at c
            unfold fsF at c
            revert c
            (repeat' split) <;> decide
      obtain ⟨i1, i2, i3, i4⟩ := ih (x + 1) (by omega) (by omega)
      refine ⟨by omega, i2, i3, ?_⟩
      intro z z1 z2
      by_cases e : z = x
      · rw [e]; exact c
      · exact i4 z (by omega) z2
    · rw [if_neg c]
      dsimp only
      refine ⟨by omega, h1, ?_, fun z z1 z2 => by omega⟩
      intro q
      rw [Bool.and_eq_true, decide_eq_true_eq] at q
      exact q
theorem ffR_x {tb : Nat → Int} {cn st : Int} {b : Bool} (h : st ≤ cn) : st ≤ (ffR tb cn st b).2 ∧ (ffR tb cn st b).2 ≤ cn ∧ ((ffR tb cn st b).1 = true → byF tb cn (ffR tb cn st b).2 = 30 ∧ ceF tb cn (ffR tb cn st b).2 ((ffR tb cn st b).2 - st) b = true) ∧ ∀ z : Int, st ≤ z → z < (ffR tb cn st b).2 → (if b = true then fsF tb cn z (z - st) (byF tb cn z) else isTxt (byF tb cn z)) = true := ffL_x _ st h rfl
theorem flR_cf {tb : Nat → Int} {nb : Nat} {cn fp bs fe e d : Int} (he : 0 ≤ e) (hn : 24 + 12 * e + 12 ≤ nb) (h0 : 0 ≤ bs + d) (h1 : bs + d ≤ cn) (hc : cn ≤ 900) (hfe : fe + 1 = bs + d) : ((cf1 tb cn bs (24 + 12 * e) d).1 < 0 ∧ (flR tb nb cn fp bs fe e (24 + e * 12) (fe + 1)).1 = (cf1 tb cn bs (24 + 12 * e) d).1 ∧ (flR tb nb cn fp bs fe e (24 + e * 12) (fe + 1)).2.1 = (cf1 tb cn bs (24 + 12 * e) d).2) ∨ ((cf1 tb cn bs (24 + 12 * e) d).1 = 0 ∧ (flR tb nb cn fp bs fe e (24 + e * 12) (fe + 1)).1 = 0 ∧ (flR tb nb cn fp bs fe e (24 + e * 12) (fe + 1)).2.1 = fp ∧ (flR tb nb cn fp bs fe e (24 + e * 12) (fe + 1)).2.2 + 1 = bs + (cf1 tb cn bs (24 + 12 * e) d).2 ∧ (flR tb nb cn fp bs fe e (24 + e * 12) (fe + 1)).2.2 < cn ∧ fe < (flR tb nb cn fp bs fe e (24 + e * 12) (fe + 1)).2.2) := by
  have e3 : numM tb 3 (24 + 12 * e) 0 = numAt tb nb (24 + e * 12) 3 := by rw [show 24 + 12 * e = 24 + e * 12 by omega]; exact numM_B (by omega) (by omega)
  have e4 : numM tb 4 (24 + 12 * e + 3) 0 = numAt tb nb (24 + e * 12 + 3) 4 := by rw [show 24 + 12 * e = 24 + e * 12 by omega]; exact numM_B (by omega) (by omega)
  have e5 : numM tb 5 (24 + 12 * e + 7) 0 = numAt tb nb (24 + e * 12 + 7) 5 := by rw [show 24 + 12 * e = 24 + e * 12 by omega]; exact numM_B (by omega) (by omega)
  have ea := alM_F (tb := tb) (cn := cn) (st := fe + 1) (tag := numAt tb nb (24 + e * 12) 3) (by omega) (by omega) hc
  obtain ⟨r1, r2, r3, _⟩ := ffR_x (tb := tb) (cn := cn) (st := fe + 1) (b := decide (10 ≤ numAt tb nb (24 + e * 12) 3)) (by omega)
  unfold cf1 flR
  rw [e3, e4, e5, ← hfe, ea]
  have ed : decide (24 + 12 * e = 24) = decide (e = 0) := decide_eq_decide.mpr (by omega)
  rw [ed]
  generalize ffR tb cn (fe + 1) (decide (10 ≤ numAt tb nb (24 + e * 12) 3)) = R at *
  by_cases c1 : decide (e = 0) ≠ decide (numAt tb nb (24 + e * 12) 3 = 1)
  · rw [if_pos c1, if_pos c1]; exact Or.inl ⟨by simp, rfl, by dsimp only; omega⟩
  · rw [if_neg c1, if_neg c1]
    by_cases c2 : numAt tb nb (24 + e * 12 + 7) 5 = d
    · rw [if_neg (fun q => q c2), if_neg (show ¬ (bs + numAt tb nb (24 + e * 12 + 7) 5 ≠ fe + 1) by omega)]
      by_cases c3 : R.1 = true
      · obtain ⟨g1, _⟩ := r3 c3
        have hlt : R.2 < cn := by
          by_cases q : R.2 < cn
          · exact q
          · rw [by_out (by omega)] at g1; omega
        have er : resA R = R.2 + 1 := by unfold resA; rw [if_pos c3]
        rw [er, if_neg (show ¬ R.2 + 1 < 0 by omega), if_neg (show ¬ R.1 = false by rw [c3]; decide)]
        by_cases c4 : numAt tb nb (24 + e * 12 + 3) 4 = R.2 + 1 - (fe + 1)
        · rw [if_neg (show ¬ ¬ numAt tb nb (24 + e * 12 + 3) 4 = R.2 + 1 - bs - d by omega), if_neg (show ¬ (numAt tb nb (24 + e * 12 + 3) 4 ≠ R.2 + 1 - (fe + 1)) by omega)]
          exact Or.inr ⟨rfl, rfl, rfl, by dsimp only; omega, hlt, by dsimp only; omega⟩
        · rw [if_pos (show ¬ numAt tb nb (24 + e * 12 + 3) 4 = R.2 + 1 - bs - d by omega), if_pos (show numAt tb nb (24 + e * 12 + 3) 4 ≠ R.2 + 1 - (fe + 1) by omega)]
          exact Or.inl ⟨by simp, rfl, by dsimp only; omega⟩
      · have er : resA R = -1 - R.2 := by unfold resA; rw [if_neg c3]
        rw [er, if_pos (show -1 - R.2 < 0 by omega), if_pos (show R.1 = false by simpa using c3)]
        exact Or.inl ⟨by simp, rfl, by dsimp only; omega⟩
    · rw [if_pos c2, if_pos (show bs + numAt tb nb (24 + e * 12 + 7) 5 ≠ fe + 1 by omega)]
      exact Or.inl ⟨by simp, rfl, by dsimp only; omega⟩
theorem fdL_cf {tb : Nat → Int} {nb : Nat} {cn bs : Int} (hc : cn ≤ 900) : ∀ (k : Nat) (e d fp ie fe : Int), 0 ≤ e → 24 + 12 * (e + k) ≤ nb → 0 ≤ bs + d → bs + d ≤ cn → fe + 1 = bs + d → ((cfL tb cn bs k (24 + 12 * e) d).1 < 0 ∧ (fdL tb nb cn bs k e (fp, ie, fe)).1 = (cfL tb cn bs k (24 + 12 * e) d).1 ∧ (fdL tb nb cn bs k e (fp, ie, fe)).2.1 = (cfL tb cn bs k (24 + 12 * e) d).2) ∨ ((cfL tb cn bs k (24 + 12 * e) d).1 = 0 ∧ (fdL tb nb cn bs k e (fp, ie, fe)).1 = 0 ∧ (fdL tb nb cn bs k e (fp, ie, fe)).2.1 = fp ∧ (fdL tb nb cn bs k e (fp, ie, fe)).2.2.2 + 1 = bs + (cfL tb cn bs k (24 + 12 * e) d).2 ∧ (fdL tb nb cn bs k e (fp, ie, fe)).2.2.2 < cn ∧ fe ≤ (fdL tb nb cn bs k e (fp, ie, fe)).2.2.2) := by
  intro k
  induction k with
  | zero => intro e d fp ie fe h0 hn h1 h2 h3; simp only [cfL, fdL]; exact Or.inr ⟨trivial, trivial, trivial, h3, by omega, by omega⟩
  | succ k ih =>
    intro e d fp ie fe h0 hn h1 h2 h3
    simp only [cfL, fdL]
    rcases flR_cf (tb := tb) (nb := nb) (fp := fp) h0 (by omega) h1 h2 hc h3 with ⟨a1, a2, a3⟩ | ⟨a1, a2, a3, a4, a5, a6⟩
    · rw [if_pos a1, if_neg (by omega)]
      exact Or.inl ⟨a1, a2, a3⟩
    · rw [if_neg (by omega), if_pos a2, a3, show 24 + 12 * e + 12 = 24 + 12 * (e + 1) by omega]
      rcases ih (e + 1) _ fp (if e = 0 then (flR tb nb cn fp bs fe e (24 + e * 12) (fe + 1)).2.2 else ie) _ (by omega) (by omega) (by omega) (by omega) a4 with q | ⟨q1, q2, q3, q4, q5, q6⟩
      · exact Or.inl q
      · exact Or.inr ⟨q1, q2, q3, q4, q5, by omega⟩

/-! what a look through BYTES without FAULT says -/
theorem ldR_c {tb : Nat → Int} {nb : Nat} {cn fp : Int} (hn : (5 : Int) ≤ nb) : (leM tb cn < 24 ∧ ldR tb nb cn fp = (-5, leM tb cn)) ∨ (¬ leM tb cn < 24 ∧ ¬ numM tb 5 0 0 = cn ∧ ldR tb nb cn fp = (-6, 0)) ∨ (¬ leM tb cn < 24 ∧ numM tb 5 0 0 = cn ∧ ldR tb nb cn fp = (0, fp)) := by
  have eL : leM tb cn = ldL tb cn 24 0 := leL_F 24 0 (by omega)
  have e5 : numM tb 5 0 0 = numAt tb nb 0 5 := numM_B (by omega) (by omega)
  rw [eL, e5]
  unfold ldR
  by_cases c1 : ldL tb cn 24 0 < 24
  · rw [if_pos c1]; exact Or.inl ⟨c1, rfl⟩
  · rw [if_neg c1]
    by_cases c2 : numAt tb nb 0 5 = cn
    · rw [if_pos c2]; exact Or.inr (Or.inr ⟨c1, c2, rfl⟩)
    · rw [if_neg c2]; exact Or.inr (Or.inl ⟨c1, c2, rfl⟩)
theorem enR_c {tb : Nat → Int} {nb : Nat} {cn fp en bs : Int} (hc : 24 ≤ cn ∧ cn ≤ 900) (hn : (17 : Int) ≤ nb) : ((diM tb cn).1 = false ∧ (enR tb nb cn fp en bs).1 = -5 ∧ (enR tb nb cn fp en bs).2.1 = (diM tb cn).2) ∨ ((diM tb cn).1 = true ∧ ¬ numM tb 5 12 0 = (diM tb cn).2 + 1 ∧ (enR tb nb cn fp en bs).1 = -6 ∧ (enR tb nb cn fp en bs).2.1 = 12) ∨ ((diM tb cn).1 = true ∧ numM tb 5 12 0 = (diM tb cn).2 + 1 ∧ enR tb nb cn fp en bs = (0, fp, ((diM tb cn).2 - 24) / 12, (diM tb cn).2 + 1)) := by
  have e5 : numM tb 5 12 0 = numAt tb nb 12 5 := numM_B (by omega) (by omega)
  have ed := diL_F (tb := tb) (cn := cn) (cn - 24).toNat 1000 24 (by omega) (by omega) rfl (by omega)
  rw [show diL tb cn 1000 24 = diM tb cn from rfl, show enL tb cn (cn - 24).toNat 24 = enT tb cn from rfl] at ed
  have er := enL_r (tb := tb) (cn := cn) (cn - 24).toNat 24 (by omega) (by omega)
  rw [show enL tb cn (cn - 24).toNat 24 = enT tb cn from rfl] at er
  rw [ed, e5]
  unfold enR dcP
  rcases er with er | ⟨er, _⟩
  · rw [if_pos er, er]; exact Or.inl ⟨rfl, rfl, rfl⟩
  · rw [if_neg (by omega), er]
    by_cases c2 : numAt tb nb 12 5 = (enT tb cn).2 + 1
    · rw [if_pos c2]; exact Or.inr (Or.inr ⟨rfl, c2, rfl⟩)
    · rw [if_neg c2]; exact Or.inr (Or.inl ⟨rfl, c2, rfl, rfl⟩)
theorem diM_t {tb : Nat → Int} {cn : Int} (hc : 24 ≤ cn ∧ cn ≤ 900) (h : (diM tb cn).1 = true) : 36 ≤ (diM tb cn).2 ∧ (diM tb cn).2 < cn ∧ ((diM tb cn).2 - 24) % 12 = 0 := by
  have ed := diL_F (tb := tb) (cn := cn) (cn - 24).toNat 1000 24 (by omega) (by omega) rfl (by omega)
  rw [show diL tb cn 1000 24 = diM tb cn from rfl] at ed
  have er := enL_r (tb := tb) (cn := cn) (cn - 24).toNat 24 (by omega) (by omega)
  rw [ed] at h ⊢
  unfold dcP at h ⊢
  have h := of_decide_eq_true h
  rcases er with er | ⟨_, e1, e2, e3⟩
  · omega
  · have := (behF_i (by omega)).mp e3
    omega
def ibF (tb : Nat → Int) (nb : Nat) (cn bs fp en : Int) (ie : Int) : Int × Int × Int × Int := fdL tb nb cn bs en.toNat 0 (fp, ie, bs - 1)
/-- the reference's look says what the other's says; then come the RECORDS that are there -/
theorem ckM_in {tb ca le : Nat → Int} {nb : Nat} {cn fp en bs ie fe fp2 : Int} (hnb : nb = 400) (hc : 0 ≤ cn ∧ cn ≤ 400) : ((inR tb nb cn fp en bs ie fe).1 < 0 ∧ ckM tb ca le cn fp2 = ((inR tb nb cn fp en bs ie fe).1, (inR tb nb cn fp en bs ie fe).2.1)) ∨ ((inR tb nb cn fp en bs ie fe).1 = 0 ∧ ckM tb ca le cn fp2 = coM tb ca le fp2 (inR tb nb cn fp en bs ie fe).2.2.2.1 ∧ (24 ≤ cn ∧ (diM tb cn).1 = true ∧ numM tb 5 12 0 = (diM tb cn).2 + 1) ∧ (inR tb nb cn fp en bs ie fe).2.1 = fp ∧ (inR tb nb cn fp en bs ie fe).2.2.1 = ((diM tb cn).2 - 24) / 12 ∧ (inR tb nb cn fp en bs ie fe).2.2.2.1 = (diM tb cn).2 + 1 ∧ (inR tb nb cn fp en bs ie fe).2.2.2.2.1 = (fdR tb nb cn fp (((diM tb cn).2 - 24) / 12) ((diM tb cn).2 + 1) ie).2.2.1 ∧ (fdR tb nb cn fp (((diM tb cn).2 - 24) / 12) ((diM tb cn).2 + 1) ie).1 = 0 ∧ byF tb cn ((fdR tb nb cn fp (((diM tb cn).2 - 24) / 12) ((diM tb cn).2 + 1) ie).2.2.2 + 1) = 29 ∧ (fdR tb nb cn fp (((diM tb cn).2 - 24) / 12) ((diM tb cn).2 + 1) ie).2.2.2 + 1 + 1 = cn) := by
  unfold ckM inR
  rcases ldR_c (tb := tb) (nb := nb) (cn := cn) (fp := fp) (by omega) with ⟨a1, a2⟩ | ⟨a1, a2, a3⟩ | ⟨a1, a2, a3⟩
  · rw [if_pos a1, a2, if_neg (show ¬ ((-5 : Int), leM tb cn).1 = 0 from by show ¬ (-5 : Int) = 0; decide)]
    exact Or.inl ⟨(by show (-5 : Int) < 0; decide), rfl⟩
  · rw [if_neg a1, if_pos a2, a3, if_neg (show ¬ ((-6 : Int), (0 : Int)).1 = 0 from by show ¬ (-6 : Int) = 0; decide)]
    exact Or.inl ⟨(by show (-6 : Int) < 0; decide), rfl⟩
  · have h24 := ldR_ok (tb := tb) (nb := nb) (cn := cn) (fp := fp) (by rw [a3])
    rw [if_neg a1, if_neg (show ¬ ¬ numM tb 5 0 0 = cn from fun q => q a2), a3, if_pos (show ((0 : Int), fp).1 = 0 from rfl)]
    dsimp only
    unfold ck2
    rcases enR_c (tb := tb) (nb := nb) (cn := cn) (fp := fp) (en := en) (bs := bs) (by omega) (by omega) with ⟨b1, b2, b3⟩ | ⟨b1, b2, b3, b4⟩ | ⟨b1, b2, b3⟩
    · rw [if_pos b1, b2, if_neg (show ¬ (-5 : Int) = 0 by decide)]
      dsimp only
      rw [b3]
      exact Or.inl ⟨by omega, rfl⟩
    · have hf1 : ¬ (diM tb cn).1 = false := by rw [b1]; decide
      rw [if_neg hf1, if_pos b2, b3, if_neg (show ¬ (-6 : Int) = 0 by decide)]
      dsimp only
      rw [b4]
      exact Or.inl ⟨by omega, rfl⟩
    · have hf1 : ¬ (diM tb cn).1 = false := by rw [b1]; decide
      rw [if_neg hf1, if_neg (show ¬ ¬ numM tb 5 12 0 = (diM tb cn).2 + 1 from fun q => q b2), b3, if_pos (show ((0 : Int), fp, ((diM tb cn).2 - 24) / 12, (diM tb cn).2 + 1).1 = 0 from rfl)]
      dsimp only
      obtain ⟨x1, x2, x3⟩ := diM_t (by omega) b1
      generalize (diM tb cn).2 = x at *
      unfold ck3 ck4
      have hf := fdL_cf (tb := tb) (nb := nb) (cn := cn) (bs := x + 1) (by omega) ((x - 24) / 12).toNat 0 0 fp ie (x + 1 - 1) (by omega) (by omega) (by omega) (by omega) (by omega)
      rw [show fdL tb nb cn (x + 1) ((x - 24) / 12).toNat 0 (fp, ie, x + 1 - 1) = fdR tb nb cn fp ((x - 24) / 12) (x + 1) ie from rfl, show 24 + 12 * (0 : Int) = 24 by omega] at hf
      rcases hf with ⟨c1, c2, c3⟩ | ⟨c1, c2, c3, c4, c5, c6⟩
      · rw [if_pos c1, if_neg (by omega)]
        dsimp only
        rw [c2, c3]
        exact Or.inl ⟨c1, rfl⟩
      · rw [if_neg (show ¬ (cfL tb cn (x + 1) ((x - 24) / 12).toNat 24 0).1 < 0 by omega), if_pos c2, by_FM (by omega), ← c4]
        unfold ndR
        by_cases d1 : byF tb cn ((fdR tb nb cn fp ((x - 24) / 12) (x + 1) ie).2.2.2 + 1) = 29
        · have hlt : (fdR tb nb cn fp ((x - 24) / 12) (x + 1) ie).2.2.2 + 1 < cn := by
            by_cases q : (fdR tb nb cn fp ((x - 24) / 12) (x + 1) ie).2.2.2 + 1 < cn
            · exact q
            · rw [by_out (by omega)] at d1; omega
          rw [if_neg (show ¬ ¬ byF tb cn ((fdR tb nb cn fp ((x - 24) / 12) (x + 1) ie).2.2.2 + 1) = 29 from fun q => q d1), if_pos d1]
          by_cases d2 : (fdR tb nb cn fp ((x - 24) / 12) (x + 1) ie).2.2.2 + 1 + 1 = cn
          · rw [if_neg (show ¬ (fdR tb nb cn fp ((x - 24) / 12) (x + 1) ie).2.2.2 + 1 + 1 < cn by omega), if_pos d2, c3]
            exact Or.inr ⟨rfl, rfl, ⟨h24, b1, b2⟩, rfl, rfl, rfl, rfl, c2, d1, d2⟩
          · rw [if_pos (show (fdR tb nb cn fp ((x - 24) / 12) (x + 1) ie).2.2.2 + 1 + 1 < cn by omega), if_neg d2]
            exact Or.inl ⟨(by show (-5 : Int) < 0; decide), rfl⟩
        · rw [if_pos d1, if_neg d1]
          exact Or.inl ⟨(by show (-5 : Int) < 0; decide), rfl⟩
def sfN (tb : Nat → Int) (nb : Nat) (cn bs : Int) : Nat → Int
  | 0 => bs
  | e + 1 => (ffR tb cn (sfN tb nb cn bs e) (decide (10 ≤ numAt tb nb (24 + (e : Int) * 12) 3))).2 + 1
theorem flR_ok {tb : Nat → Int} {nb : Nat} {cn fp bs fe k e st : Int} (h : (flR tb nb cn fp bs fe k e st).1 = 0) : decide (k = 0) = decide (numAt tb nb e 3 = 1) ∧ bs + numAt tb nb (e + 7) 5 = st ∧ (ffR tb cn st (decide (10 ≤ numAt tb nb e 3))).1 = true ∧ numAt tb nb (e + 3) 4 = (ffR tb cn st (decide (10 ≤ numAt tb nb e 3))).2 + 1 - st ∧ (flR tb nb cn fp bs fe k e st).2.1 = fp ∧ (flR tb nb cn fp bs fe k e st).2.2 = (ffR tb cn st (decide (10 ≤ numAt tb nb e 3))).2 := by
  unfold flR at h ⊢
  by_cases c1 : decide (k = 0) ≠ decide (numAt tb nb e 3 = 1)
  · rw [if_pos c1] at h; exact absurd h (show ¬ (-7 : Int) = 0 by decide)
  · rw [if_neg c1] at h ⊢
    by_cases c2 : bs + numAt tb nb (e + 7) 5 ≠ st
    · rw [if_pos c2] at h; exact absurd h (show ¬ (-6 : Int) = 0 by decide)
    · rw [if_neg c2] at h ⊢
      by_cases c3 : (ffR tb cn st (decide (10 ≤ numAt tb nb e 3))).1 = false
      · rw [if_pos c3] at h; exact absurd h (show ¬ (-5 : Int) = 0 by decide)
      · rw [if_neg c3] at h ⊢
        by_cases c4 : numAt tb nb (e + 3) 4 ≠ (ffR tb cn st (decide (10 ≤ numAt tb nb e 3))).2 + 1 - st
        · rw [if_pos c4] at h; exact absurd h (show ¬ (-6 : Int) = 0 by decide)
        · rw [if_neg c4]
          exact ⟨by simpa using c1, by omega, by simpa using c3, by omega, rfl, rfl⟩
theorem fdL_ok {tb : Nat → Int} {nb : Nat} {cn bs : Int} : ∀ (k e : Nat) (u : Int × Int × Int), u.2.2 + 1 = sfN tb nb cn bs e → (fdL tb nb cn bs k e u).1 = 0 → (∀ i : Nat, e ≤ i → i < e + k → decide ((i : Int) = 0) = decide (numAt tb nb (24 + (i : Int) * 12) 3 = 1) ∧ bs + numAt tb nb (24 + (i : Int) * 12 + 7) 5 = sfN tb nb cn bs i ∧ (ffR tb cn (sfN tb nb cn bs i) (decide (10 ≤ numAt tb nb (24 + (i : Int) * 12) 3))).1 = true ∧ numAt tb nb (24 + (i : Int) * 12 + 3) 4 = sfN tb nb cn bs (i + 1) - sfN tb nb cn bs i) ∧ (fdL tb nb cn bs k e u).2.2.2 + 1 = sfN tb nb cn bs (e + k) ∧ (1 ≤ e → (fdL tb nb cn bs k e u).2.2.1 = u.2.1) ∧ (e = 0 → 1 ≤ k → (fdL tb nb cn bs k e u).2.2.1 = sfN tb nb cn bs 1 - 1) := by
  intro k
  induction k with
  | zero => intro e u hu _; exact ⟨fun i h1 h2 => by omega, hu, fun _ => rfl, fun _ h => by omega⟩
  | succ k ih =>
    intro e u hu h
    simp only [fdL] at h ⊢
    by_cases c : (flR tb nb cn u.1 bs u.2.2 (e : Int) (24 + (e : Int) * 12) (u.2.2 + 1)).1 = 0
    · obtain ⟨f1, f2, f3, f4, f5, f6⟩ := flR_ok c
      rw [hu] at f2 f3 f4 f6
      rw [hu] at c h ⊢
      rw [if_pos c] at h ⊢
      have es : (flR tb nb cn u.1 bs u.2.2 (e : Int) (24 + (e : Int) * 12) (sfN tb nb cn bs e)).2.2 + 1 = sfN tb nb cn bs (e + 1) := by rw [f6]; rfl
      rw [show (e : Int) + 1 = ((e + 1 : Nat) : Int) by omega] at h ⊢
      obtain ⟨i1, i2, i3, i4⟩ := ih (e + 1) _ (by exact es) h
      refine ⟨?_, by rw [i2, show e + 1 + k = e + (k + 1) by omega], ?_, ?_⟩
      · intro i h1 h2
        by_cases q : i = e
        · subst q
          refine ⟨f1, f2, f3, ?_⟩
          rw [f4]; rfl
        · exact i1 i (by omega) (by omega)
      · intro he
        rw [i3 (by omega)]
        dsimp only
        rw [if_neg (by omega)]
      · intro he _
        rw [i3 (by omega)]
        dsimp only
        rw [if_pos (by omega), show (1 : Nat) = e + 1 by omega, ← es]
        omega
    · rw [hu] at c h
      rw [if_neg c] at h
      exact absurd h c
theorem enL_d {tb : Nat → Int} {cn : Int} : ∀ (k : Nat) (x : Int), (enL tb cn k x).1 = 0 → ∀ z : Int, x ≤ z → z < (enL tb cn k x).2 → isDig (byF tb cn z) = true := by
  intro k
  induction k with
  | zero => intro x h; exact absurd h (show ¬ (1 : Int) = 0 by decide)
  | succ k ih =>
    intro x
    simp only [enL]
    by_cases c : byF tb cn x = 30 ∧ behF x = true
    · rw [if_pos c]; intro _ z z1 z2; dsimp only at z2; omega
    · rw [if_neg c]
      by_cases c2 : isDig (byF tb cn x) = true
      · rw [if_pos c2]
        intro h z z1 z2
        by_cases e : z = x
        · rw [e]; exact c2
        · exact ih (x + 1) h z (by omega) z2
      · rw [if_neg c2]; intro h; exact absurd h (show ¬ (1 : Int) = 0 by decide)
theorem diM_d {tb : Nat → Int} {cn : Int} (hc : 24 ≤ cn ∧ cn ≤ 900) (h : (diM tb cn).1 = true) : ∀ z : Int, 24 ≤ z → z < (diM tb cn).2 → 48 ≤ tb z.toNat ∧ tb z.toNat ≤ 57 := by
  have hx := diM_t hc h
  have ed := diL_F (tb := tb) (cn := cn) (cn - 24).toNat 1000 24 (by omega) (by omega) rfl (by omega)
  rw [show diL tb cn 1000 24 = diM tb cn from rfl] at ed
  intro z z1 z2
  have := enL_d (tb := tb) (cn := cn) (cn - 24).toNat 24 (by rw [ed] at h; exact of_decide_eq_true h) z z1 (by rw [ed] at z2; exact z2)
  unfold byF at this
  rw [if_pos (by omega)] at this
  exact of_decide_eq_true this
theorem numAt_n {t tb : Nat → Int} {n nb : Nat} (h : ∀ j : Nat, j < n → t j = tb j) (hn : n ≤ nb) {x : Int} {k : Nat} (h0 : 0 ≤ x) (h1 : x + k ≤ n) : numAt t n x k = numAt tb nb x k := by
  rw [← numM_B (nb := nb) h0 (by omega)]
  have := numM_A (t := t) (f := tb) (n := n) (s := 0) (fun j j0 j1 => by rw [Int.zero_add, h j.toNat (by omega)]) k x 0 h0 h1
  rw [Int.zero_add] at this
  rw [this]; unfold numAt; rw [Int.toNat_natCast]
theorem fs_30 {tb : Nat → Int} {cn z d : Int} : fsF tb cn z d 30 = false := by
  unfold fsF; (repeat' split) <;> decide
theorem rec_in {tb t : Nat → Int} {nb n : Nat} {cn fp ie : Int} (hnb : nb = 400) (hn : (n : Int) = cn) (hc : 24 ≤ cn ∧ cn ≤ 400) (ht : ∀ j : Nat, j < n → t j = tb j) (hd : (diM tb cn).1 = true) (hb : numM tb 5 12 0 = (diM tb cn).2 + 1) (hf : (fdR tb nb cn fp (((diM tb cn).2 - 24) / 12) ((diM tb cn).2 + 1) ie).1 = 0) (he : (fdR tb nb cn fp (((diM tb cn).2 - 24) / 12) ((diM tb cn).2 + 1) ie).2.2.2 + 1 + 1 = cn) : RecOK t n ((diM tb cn).2 + 1) (((diM tb cn).2 - 24) / 12) (fun z => sfN tb nb cn ((diM tb cn).2 + 1) z.toNat) ∧ RecX t n (((diM tb cn).2 - 24) / 12) (fun z => sfN tb nb cn ((diM tb cn).2 + 1) z.toNat) ∧ numAt t n 12 5 = (diM tb cn).2 + 1 ∧ 1 ≤ ((diM tb cn).2 - 24) / 12 ∧ (fdR tb nb cn fp (((diM tb cn).2 - 24) / 12) ((diM tb cn).2 + 1) ie).2.2.1 = sfN tb nb cn ((diM tb cn).2 + 1) 1 - 1 := by
  obtain ⟨x1, x2, x3⟩ := diM_t (by omega) hd
  have hdg := diM_d (by omega) hd
  generalize (diM tb cn).2 = x at *
  obtain ⟨fd, efd⟩ : ∃ fd : Nat, ((x - 24) / 12) = (fd : Int) := ⟨((x - 24) / 12).toNat, by omega⟩
  unfold fdR at hf he ⊢
  rw [efd] at hf he ⊢
  rw [Int.toNat_natCast] at hf he ⊢
  obtain ⟨k1, k2, k3, k4⟩ := fdL_ok (tb := tb) (nb := nb) (cn := cn) (bs := x + 1) fd 0 (fp, ie, x + 1 - 1) (by show x + 1 - 1 + 1 = x + 1; omega) hf
  rw [show ((0 : Nat) : Int) = 0 from rfl] at k2 k3 k4
  rw [Nat.zero_add] at k1 k2
  have hl : sfN tb nb cn (x + 1) fd + 1 = cn := by omega
  have hs : ∀ i : Nat, i ≤ fd → x + 1 ≤ sfN tb nb cn (x + 1) i ∧ sfN tb nb cn (x + 1) i < cn := by
    intro i
    induction i with
    | zero => intro _; show x + 1 ≤ x + 1 ∧ x + 1 < cn; refine ⟨by omega, ?_⟩
              by_cases q : fd = 0
              · omega
              · by_cases q2 : x + 1 < cn
                · exact q2
                · obtain ⟨_, _, g3, _⟩ := k1 0 (by omega) (by omega)
                  have g3 : (ffR tb cn (x + 1) (decide (10 ≤ numAt tb nb (24 + ((0 : Nat) : Int) * 12) 3))).1 = true := g3
                  obtain ⟨r1, r2, r3, _⟩ := ffR_x (tb := tb) (cn := cn) (st := x + 1) (b := decide (10 ≤ numAt tb nb (24 + ((0 : Nat) : Int) * 12) 3)) (by omega)
                  have := (r3 g3).1
                  rw [by_out (by omega)] at this
                  omega
    | succ i ih =>
      intro hi
      have ih := ih (by omega)
      obtain ⟨_, _, g3, _⟩ := k1 i (by omega) (by omega)
      obtain ⟨r1, r2, r3, _⟩ := ffR_x (tb := tb) (cn := cn) (st := sfN tb nb cn (x + 1) i) (b := decide (10 ≤ numAt tb nb (24 + (i : Int) * 12) 3)) (by omega)
      have g := (r3 g3).1
      have hlt : (ffR tb cn (sfN tb nb cn (x + 1) i) (decide (10 ≤ numAt tb nb (24 + (i : Int) * 12) 3))).2 < cn := by
        by_cases q : (ffR tb cn (sfN tb nb cn (x + 1) i) (decide (10 ≤ numAt tb nb (24 + (i : Int) * 12) 3))).2 < cn
        · exact q
        · rw [by_out (by omega)] at g; omega
      show x + 1 ≤ (ffR tb cn (sfN tb nb cn (x + 1) i) (decide (10 ≤ numAt tb nb (24 + (i : Int) * 12) 3))).2 + 1 ∧ (ffR tb cn (sfN tb nb cn (x + 1) i) (decide (10 ≤ numAt tb nb (24 + (i : Int) * 12) 3))).2 + 1 < cn
      by_cases q : i + 1 = fd
      · have hl := hl
        rw [← q] at hl
        have hl : (ffR tb cn (sfN tb nb cn (x + 1) i) (decide (10 ≤ numAt tb nb (24 + (i : Int) * 12) 3))).2 + 1 + 1 = cn := hl
        omega
      · obtain ⟨_, _, h3, _⟩ := k1 (i + 1) (by omega) (by omega)
        have h3 : (ffR tb cn ((ffR tb cn (sfN tb nb cn (x + 1) i) (decide (10 ≤ numAt tb nb (24 + (i : Int) * 12) 3))).2 + 1) (decide (10 ≤ numAt tb nb (24 + ((i + 1 : Nat) : Int) * 12) 3))).1 = true := h3
        refine ⟨by omega, ?_⟩
        by_cases q2 : (ffR tb cn (sfN tb nb cn (x + 1) i) (decide (10 ≤ numAt tb nb (24 + (i : Int) * 12) 3))).2 + 1 < cn
        · exact q2
        · obtain ⟨t1, t2, t3, _⟩ := ffR_x (tb := tb) (cn := cn) (st := (ffR tb cn (sfN tb nb cn (x + 1) i) (decide (10 ≤ numAt tb nb (24 + (i : Int) * 12) 3))).2 + 1) (b := decide (10 ≤ numAt tb nb (24 + ((i + 1 : Nat) : Int) * 12) 3)) (by omega)
          have := (t3 h3).1
          rw [by_out (by omega)] at this
          omega
  have h00 : x + 1 < cn := (hs 0 (by omega)).2
  have hby : ∀ z : Int, 0 ≤ z → z < cn → byF tb cn z = t z.toNat := by
    intro z z0 z1
    unfold byF; rw [if_pos ⟨z0, z1⟩, ht z.toNat (by omega)]
  refine ⟨⟨⟨by omega, by omega, by omega⟩, by omega, rfl, ?_, ?_⟩, ?_, ?_, by omega, k4 rfl (by omega)⟩
  · show sfN tb nb cn (x + 1) ((fd : Int)).toNat + 1 = n
    rw [Int.toNat_natCast, ← k2, hn]; exact he
  · intro e e0 e1
    obtain ⟨i, rfl⟩ : ∃ i : Nat, e = (i : Int) := ⟨e.toNat, by omega⟩
    obtain ⟨g1, g2, g3, g4⟩ := k1 i (by omega) (by omega)
    have s1 := hs i (by omega)
    have s2 := hs (i + 1) (by omega)
    dsimp only
    rw [show ((i : Int) + 1).toNat = i + 1 by omega, Int.toNat_natCast]
    have n3 : numAt t n (24 + (i : Int) * 12) 3 = numAt tb nb (24 + (i : Int) * 12) 3 := numAt_n (k := 3) ht (by omega) (by omega) (by omega)
    have n5 : numAt t n (24 + (i : Int) * 12 + 7) 5 = numAt tb nb (24 + (i : Int) * 12 + 7) 5 := numAt_n (k := 5) ht (by omega) (by omega) (by omega)
    have n4 : numAt t n (24 + (i : Int) * 12 + 3) 4 = numAt tb nb (24 + (i : Int) * 12 + 3) 4 := numAt_n (k := 4) ht (by omega) (by omega) (by omega)
    rw [n3, n5, n4]
    obtain ⟨r1, r2, r3, r4⟩ := ffR_x (tb := tb) (cn := cn) (st := sfN tb nb cn (x + 1) i) (b := decide (10 ≤ numAt tb nb (24 + (i : Int) * 12) 3)) (by omega)
    have es : sfN tb nb cn (x + 1) (i + 1) = (ffR tb cn (sfN tb nb cn (x + 1) i) (decide (10 ≤ numAt tb nb (24 + (i : Int) * 12) 3))).2 + 1 := rfl
    refine ⟨?_, g2, g4, by omega, ?_, ?_⟩
    · have n6 : numM tb 3 (24 + (i : Int) * 12) 0 = numAt tb nb (24 + (i : Int) * 12) 3 := numM_B (k := 3) (by omega) (by omega)
      rw [← n6]
      have d0 := hdg (24 + (i : Int) * 12) (by omega) (by omega)
      have d1 := hdg (24 + (i : Int) * 12 + 1) (by omega) (by omega)
      have d2 := hdg (24 + (i : Int) * 12 + 1 + 1) (by omega) (by omega)
      simp only [numM]
      omega
    · have := decide_eq_decide.mp g1
      omega
    · intro ht10
      rw [decide_eq_true ht10] at r1 r2 r3 r4 es g3
      obtain ⟨q1, q2⟩ := r3 g3
      unfold ceF at q2
      rw [if_pos rfl] at q2
      obtain ⟨q2, q3⟩ := of_decide_eq_true q2
      have o2 := r4 (sfN tb nb cn (x + 1) i + 2) (by omega) (by omega)
      rw [if_pos rfl] at o2
      unfold fsF at o2
      rw [if_neg (by omega), if_pos (by omega)] at o2
      have o2 := of_decide_eq_true o2
      refine ⟨?_, by rw [← hby _ (by omega) (by omega)]; exact o2⟩
      by_cases q : (ffR tb cn (sfN tb nb cn (x + 1) i) true).2 = sfN tb nb cn (x + 1) i + 3
      · rw [q, show sfN tb nb cn (x + 1) i + 3 - 1 = sfN tb nb cn (x + 1) i + 2 by omega] at q3
        exact absurd o2 q3
      · omega
  · intro e e0 e1
    obtain ⟨i, rfl⟩ : ∃ i : Nat, e = (i : Int) := ⟨e.toNat, by omega⟩
    obtain ⟨g1, g2, g3, g4⟩ := k1 i (by omega) (by omega)
    have s1 := hs i (by omega)
    have s2 := hs (i + 1) (by omega)
    dsimp only
    rw [show ((i : Int) + 1).toNat = i + 1 by omega, Int.toNat_natCast]
    have n3 : numAt t n (24 + (i : Int) * 12) 3 = numAt tb nb (24 + (i : Int) * 12) 3 := numAt_n (k := 3) ht (by omega) (by omega) (by omega)
    rw [n3]
    obtain ⟨r1, r2, r3, r4⟩ := ffR_x (tb := tb) (cn := cn) (st := sfN tb nb cn (x + 1) i) (b := decide (10 ≤ numAt tb nb (24 + (i : Int) * 12) 3)) (by omega)
    have es : sfN tb nb cn (x + 1) (i + 1) = (ffR tb cn (sfN tb nb cn (x + 1) i) (decide (10 ≤ numAt tb nb (24 + (i : Int) * 12) 3))).2 + 1 := rfl
    rw [es, show (ffR tb cn (sfN tb nb cn (x + 1) i) (decide (10 ≤ numAt tb nb (24 + (i : Int) * 12) 3))).2 + 1 - 1 = (ffR tb cn (sfN tb nb cn (x + 1) i) (decide (10 ≤ numAt tb nb (24 + (i : Int) * 12) 3))).2 by omega]
    obtain ⟨q1, q2⟩ := r3 g3
    refine ⟨by rw [← hby _ (by omega) (by omega)]; exact q1, ?_, ?_⟩
    · intro z z1 z2
      rw [← hby z (by omega) (by omega)]
      intro h30
      have := r4 z z1 z2
      rw [h30] at this
      split at this
      · rw [fs_30] at this; exact Bool.noConfusion this
      · exact absurd this (by decide)
    · intro ht10 z z1 z2 z3
      rw [decide_eq_true ht10] at r1 r2 r3 r4 es g3 q1 q2 z2 ⊢
      rw [← hby z (by omega) (by omega)] at z3
      have oz := r4 z z1 z2
      rw [if_pos rfl, z3] at oz
      have hz2 : sfN tb nb cn (x + 1) i + 2 ≤ z := by
        by_cases q : sfN tb nb cn (x + 1) i + 2 ≤ z
        · exact q
        · exfalso
          unfold fsF at oz
          rw [if_pos (by omega)] at oz
          exact absurd oz (by decide)
      unfold ceF at q2
      rw [if_pos rfl] at q2
      obtain ⟨q2, q3⟩ := of_decide_eq_true q2
      have hlt : z + 1 < (ffR tb cn (sfN tb nb cn (x + 1) i) true).2 := by
        by_cases q : z + 1 < (ffR tb cn (sfN tb nb cn (x + 1) i) true).2
        · exact q
        · exfalso
          rw [show (ffR tb cn (sfN tb nb cn (x + 1) i) true).2 - 1 = z by omega] at q3
          exact q3 z3
      refine ⟨hz2, hlt, ?_⟩
      rw [← hby (z + 1) (by omega) (by omega)]
      have o1 := r4 (z + 1) (by omega) hlt
      rw [if_pos rfl] at o1
      unfold fsF at o1
      rw [if_neg (by omega), if_neg (by omega), show z + 1 - 1 = z by omega, if_pos z3] at o1
      intro q
      rw [q] at o1
      exact absurd o1 (by decide)
  · have n5 : numAt t n 12 5 = numAt tb nb 12 5 := numAt_n (k := 5) ht (by omega) (by omega) (by omega)
    have n6 : numM tb 5 12 0 = numAt tb nb 12 5 := numM_B (k := 5) (by omega) (by omega)
    rw [n5, ← n6]; exact hb

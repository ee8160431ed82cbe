/-! years -/
theorem numM_s {f : Nat → Int} : ∀ (k : Nat) (x v : Int), numM f (k + 1) x v = 10 * numM f k x v + f (x + k).toNat - 48 := by
  intro k
  induction k with
  | zero => intro x v; simp only [numM]; rw [show x + ((0 : Nat) : Int) = x by omega]
  | succ k ih =>
    intro x v
    show numM f (k + 1) (x + 1) (10 * v + f x.toNat - 48) = 10 * numM f k (x + 1) (10 * v + f x.toNat - 48) + f (x + ((k + 1 : Nat) : Int)).toNat - 48
    rw [ih (x + 1), show x + 1 + (k : Int) = x + ((k + 1 : Nat) : Int) by omega]
def yvF (f : Nat → Int) (x : Int) : Int := if 0 ≤ x then numM f 4 x 0 else -1
theorem yrL_M {t f : Nat → Int} {n : Nat} {s : Int} (ht : ∀ j : Int, 0 ≤ j → j < n → f (s + j).toNat = t j.toNat) : ∀ (k : Nat) (p v : Int) (d : Nat), 0 ≤ p → p + k ≤ n → d ≤ 3 → (d : Int) ≤ s + p → numM f d (s + p - d) 0 = v → yrL t n k p v d = yvF f (fouL f k (s + p) d) := by
  intro k
  induction k with
  | zero => intro p v d _ _ _ _ _; rfl
  | succ k ih =>
    intro p v d h0 h1 h2 h3 hv
    simp only [yrL, fouL]
    by_cases hd : isDig (t p.toNat) = true
    · have e : fouS f (s + p) d = (d : Int) + 1 := by unfold fouS; rw [ht p h0 (by omega), if_pos hd]
      rw [if_pos ⟨h0, by omega, hd⟩, e]
      by_cases h4 : (d : Int) + 1 = 4
      · rw [if_pos h4, if_pos h4]
        unfold yvF
        rw [if_pos (by omega)]
        obtain rfl : d = 3 := by omega
        rw [numM_s 3 (s + p - 3) 0, show s + p - 3 + ((3 : Nat) : Int) = s + p by omega, ht p h0 (by omega)]
        rw [show s + p - ((3 : Nat) : Int) = s + p - 3 by omega] at hv
        rw [hv]; omega
      · rw [if_neg h4, if_neg h4, show (d : Int) + 1 = ((d + 1 : Nat) : Int) by omega, ih (p + 1) _ (d + 1) (by omega) (by omega) (by omega) (by omega) (by
          rw [show s + (p + 1) - ((d + 1 : Nat) : Int) = s + p - d by omega, numM_s, hv, show s + p - (d : Int) + (d : Int) = s + p by omega, ht p h0 (by omega)]
          omega), show s + (p + 1) = s + p + 1 by omega]
    · have e : fouS f (s + p) d = 0 := by unfold fouS; rw [ht p h0 (by omega), if_neg hd]
      rw [if_neg (fun q => hd q.2.2), e, if_neg (show ¬ (0 : Int) = 4 by omega)]
      have := ih (p + 1) 0 0 (by omega) (by omega) (by omega) (by omega) rfl
      rw [show s + (p + 1) = s + p + 1 by omega] at this
      exact this
theorem yearF_M {t f : Nat → Int} {n : Nat} {s x y : Int} (hs : 0 ≤ s) (ht : ∀ j : Int, 0 ≤ j → j < n → f (s + j).toNat = t j.toNat) (h : 0 ≤ x ∧ x ≤ y ∧ y ≤ n) : yearF t n x y = if 0 ≤ fouM f (s + x) (s + y) then numM f 4 (fouM f (s + x) (s + y)) 0 else -1 := by
  unfold yearF fouM
  rw [show s + y - (s + x) = y - x by omega]
  exact yrL_M ht (y - x).toNat x 0 0 h.1 (by omega) (by omega) (by omega) rfl
theorem fouL_d {f : Nat → Int} : ∀ (k : Nat) (x r : Int), 0 ≤ r → r ≤ 3 → (∀ z : Int, x - r ≤ z → z < x → isDig (f z.toNat) = true) → 0 ≤ fouL f k x r → ∀ z : Int, fouL f k x r ≤ z → z < fouL f k x r + 4 → isDig (f z.toNat) = true := by
  intro k
  induction k with
  | zero => intro x r _ _ _ h; simp only [fouL] at h; omega
  | succ k ih =>
    intro x r h0 h3 hz
    simp only [fouL]
    by_cases hd : isDig (f x.toNat) = true
    · have e : fouS f x r = r + 1 := by unfold fouS; rw [if_pos hd]
      rw [e]
      by_cases h4 : r + 1 = 4
      · rw [if_pos h4]
        intro _ z z1 z2
        by_cases q : z = x
        · rw [q]; exact hd
        · exact hz z (by omega) (by omega)
      · rw [if_neg h4]
        refine ih (x + 1) (r + 1) (by omega) (by omega) ?_
        intro z z1 z2
        by_cases q : z = x
        · rw [q]; exact hd
        · exact hz z (by omega) (by omega)
    · have e : fouS f x r = 0 := by unfold fouS; rw [if_neg hd]
      rw [e, if_neg (show ¬ (0 : Int) = 4 by omega)]
      exact ih (x + 1) 0 (by omega) (by omega) (fun z z1 z2 => by omega)
theorem fou_nn {f : Nat → Int} {x y : Int} (h : 0 ≤ fouM f x y) : 0 ≤ numM f 4 (fouM f x y) 0 := by
  have hz := fouL_d (f := f) (y - x).toNat x 0 (by omega) (by omega) (fun z z1 z2 => by omega) h
  rw [show fouL f (y - x).toNat x 0 = fouM f x y from rfl] at hz
  obtain ⟨w, ew⟩ : ∃ w, w = fouM f x y := ⟨_, rfl⟩
  rw [← ew] at hz ⊢
  have a0 := of_decide_eq_true (hz w (by omega) (by omega))
  have a1 := of_decide_eq_true (hz (w + 1) (by omega) (by omega))
  have a2 := of_decide_eq_true (hz (w + 1 + 1) (by omega) (by omega))
  have a3 := of_decide_eq_true (hz (w + 1 + 1 + 1) (by omega) (by omega))
  simp only [numM]
  omega

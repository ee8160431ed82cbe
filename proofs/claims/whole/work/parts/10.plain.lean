/-! plain words of both sides -/
def isDig (c : Int) : Bool := decide (48 ≤ c ∧ c ≤ 57)
def isLow (c : Int) : Bool := decide (97 ≤ c ∧ c ≤ 122)
def sml (c : Int) : Int := if 65 ≤ c ∧ c ≤ 90 then c + 32 else c
def isTxt (c : Int) : Bool := decide (32 ≤ c ∧ c ≤ 126)
theorem sml_r {c : Int} (h : 0 ≤ c ∧ c < 65536) : 0 ≤ sml c ∧ sml c < 65536 := by unfold sml; split <;> omega
def numL (t : Nat → Int) (n : Nat) : Nat → Int → Int → Int
  | 0, _, v => v
  | k + 1, p, v => numL t n k (p + 1) (if 0 ≤ p ∧ p < n then 10 * v + (t p.toNat - 48) else v)
def numAt (t : Nat → Int) (n : Nat) (x k : Int) : Int := numL t n k.toNat x 0
def yrL (t : Nat → Int) (n : Nat) : Nat → Int → Int → Int → Int
  | 0, _, _, _ => -1
  | k + 1, p, v, d => if 0 ≤ p ∧ p < n ∧ isDig (t p.toNat) = true then (if d + 1 = 4 then 10 * v + (t p.toNat - 48) else yrL t n k (p + 1) (10 * v + (t p.toNat - 48)) (d + 1)) else yrL t n k (p + 1) 0 0
def yearF (t : Nat → Int) (n : Nat) (x y : Int) : Int := yrL t n (y - x).toNat x 0 0
def cmpL (f g : Nat → Int) : Nat → Nat → Int → Int
  | 0, _, d => d
  | k + 1, i, d => if f i = g i then cmpL f g k (i + 1) d else f i - g i
def cmpF (a : Nat → Int) (n : Nat) (x xe : Int) (b : Nat → Int) (n' : Nat) (y ye : Int) : Int :=
  if x < 0 ∨ n < xe ∨ y < 0 ∨ n' < ye then 1 else cmpL (fun i => a (x.toNat + i)) (fun i => b (y.toNat + i)) (min (xe - x) (ye - y)).toNat 0 ((xe - x) - (ye - y))

theorem d_Q_isDigit_0 : decode b_Q_isDigit 0 = .ok (.iload_n 0, 1) := by decide +kernel
theorem d_Q_isDigit_1 : decode b_Q_isDigit 1 = .ok (.bipush 48, 2) := by decide +kernel
theorem d_Q_isDigit_3 : decode b_Q_isDigit 3 = .ok (.if_icmp .lt 13, 3) := by decide +kernel
theorem d_Q_isDigit_6 : decode b_Q_isDigit 6 = .ok (.iload_n 0, 1) := by decide +kernel
theorem d_Q_isDigit_7 : decode b_Q_isDigit 7 = .ok (.bipush 57, 2) := by decide +kernel
theorem d_Q_isDigit_9 : decode b_Q_isDigit 9 = .ok (.if_icmp .gt 7, 3) := by decide +kernel
theorem d_Q_isDigit_12 : decode b_Q_isDigit 12 = .ok (.iconst 1, 1) := by decide +kernel
theorem d_Q_isDigit_13 : decode b_Q_isDigit 13 = .ok (.goto 4, 3) := by decide +kernel
theorem d_Q_isDigit_16 : decode b_Q_isDigit 16 = .ok (.iconst 0, 1) := by decide +kernel
theorem d_Q_isDigit_17 : decode b_Q_isDigit 17 = .ok (.ireturn, 1) := by decide +kernel
set_option maxHeartbeats 4000000 in
set_option maxRecDepth 100000 in
theorem c_Q_isDigit (l : Launch) (dC : Nat → ClassId) (dI : Nat → Nat → Nat) (kA : Nat → ClassId) (ch : Int) (hc : -2147483648 ≤ ch ∧ ch < 2147483648) : Met l y_Q_isDigit (wsy y_Q_isDigit b_Q_isDigit 1 (some .boolean)) (rmd 0 0 0) (li_Pr (dC, dI) CL (TY kA) [.int (iI ch)] (va_P (dC, dI) CL [])) (k2_QcV (.int (iI (bI (isDig ch))))) 0 0 (fun _ => False) := by
  refine li_mr (by decide) (Nat.le_of_ble_eq_true rfl) (by exact li_narZ2 _) ?_
  intro p e s m args below meth c Q C hP hK hN hG fin ls hl
  obtain ⟨hx, hb, hr, hml, hown, hts, hlocks, hin⟩ := C
  have hown : s.vm.findClass R_Q = some m.cls := hown
  have hP : va_P (dC, dI) CL [] s.heap := hP
  have hl : lv_has ls 1 [(0, .int (iI ch))] := hl
  refine lv_iload_n hx hb d_Q_isDigit_0 rfl (lv_at hl 0 rfl) ?_
  refine lv_bipush (v := iI 48) hx hb d_Q_isDigit_1 (by decide) ?_
  refine li_icmp_lt (tgt := 16) hx hb d_Q_isDigit_3 (by decide) (by omega) (by omega) (fun c1 => ?_) (fun c1 => ?_)
  · have _q := c1
    refine lv_iconst (v := iI 0) hx hb d_Q_isDigit_16 rfl ?_
    exact fin _ _ _ (by first | exact bI_t (decide_eq_true (by omega)) | exact bI_f (decide_eq_false (by omega))) d_Q_isDigit_17
  · have _q := c1
    refine lv_iload_n hx hb d_Q_isDigit_6 rfl (lv_at hl 0 rfl) ?_
    refine lv_bipush (v := iI 57) hx hb d_Q_isDigit_7 (by decide) ?_
    refine li_icmp_gt (tgt := 16) hx hb d_Q_isDigit_9 (by decide) (by omega) (by omega) (fun c2 => ?_) (fun c2 => ?_)
    · have _q := c2
      refine lv_iconst (v := iI 0) hx hb d_Q_isDigit_16 rfl ?_
      exact fin _ _ _ (by first | exact bI_t (decide_eq_true (by omega)) | exact bI_f (decide_eq_false (by omega))) d_Q_isDigit_17
    · have _q := c2
      refine lv_iconst (v := iI 1) hx hb d_Q_isDigit_12 rfl ?_
      refine lv_goto (tgt := 17) hx hb d_Q_isDigit_13 (by decide) ?_
      exact fin _ _ _ (by first | exact bI_t (decide_eq_true (by omega)) | exact bI_f (decide_eq_false (by omega))) d_Q_isDigit_17
theorem d_Q_isSmallLetter_0 : decode b_Q_isSmallLetter 0 = .ok (.iload_n 0, 1) := by decide +kernel
theorem d_Q_isSmallLetter_1 : decode b_Q_isSmallLetter 1 = .ok (.bipush 97, 2) := by decide +kernel
theorem d_Q_isSmallLetter_3 : decode b_Q_isSmallLetter 3 = .ok (.if_icmp .lt 13, 3) := by decide +kernel
theorem d_Q_isSmallLetter_6 : decode b_Q_isSmallLetter 6 = .ok (.iload_n 0, 1) := by decide +kernel
theorem d_Q_isSmallLetter_7 : decode b_Q_isSmallLetter 7 = .ok (.bipush 122, 2) := by decide +kernel
theorem d_Q_isSmallLetter_9 : decode b_Q_isSmallLetter 9 = .ok (.if_icmp .gt 7, 3) := by decide +kernel
theorem d_Q_isSmallLetter_12 : decode b_Q_isSmallLetter 12 = .ok (.iconst 1, 1) := by decide +kernel
theorem d_Q_isSmallLetter_13 : decode b_Q_isSmallLetter 13 = .ok (.goto 4, 3) := by decide +kernel
theorem d_Q_isSmallLetter_16 : decode b_Q_isSmallLetter 16 = .ok (.iconst 0, 1) := by decide +kernel
theorem d_Q_isSmallLetter_17 : decode b_Q_isSmallLetter 17 = .ok (.ireturn, 1) := by decide +kernel
set_option maxHeartbeats 4000000 in
set_option maxRecDepth 100000 in
theorem c_Q_isSmallLetter (l : Launch) (dC : Nat → ClassId) (dI : Nat → Nat → Nat) (kA : Nat → ClassId) (ch : Int) (hc : -2147483648 ≤ ch ∧ ch < 2147483648) : Met l y_Q_isSmallLetter (wsy y_Q_isSmallLetter b_Q_isSmallLetter 1 (some .boolean)) (rmd 0 0 0) (li_Pr (dC, dI) CL (TY kA) [.int (iI ch)] (va_P (dC, dI) CL [])) (k2_QcV (.int (iI (bI (isLow ch))))) 0 0 (fun _ => False) := by
  refine li_mr (by decide) (Nat.le_of_ble_eq_true rfl) (by exact li_narZ2 _) ?_
  intro p e s m args below meth c Q C hP hK hN hG fin ls hl
  obtain ⟨hx, hb, hr, hml, hown, hts, hlocks, hin⟩ := C
  have hown : s.vm.findClass R_Q = some m.cls := hown
  have hP : va_P (dC, dI) CL [] s.heap := hP
  have hl : lv_has ls 1 [(0, .int (iI ch))] := hl
  refine lv_iload_n hx hb d_Q_isSmallLetter_0 rfl (lv_at hl 0 rfl) ?_
  refine lv_bipush (v := iI 97) hx hb d_Q_isSmallLetter_1 (by decide) ?_
  refine li_icmp_lt (tgt := 16) hx hb d_Q_isSmallLetter_3 (by decide) (by omega) (by omega) (fun c1 => ?_) (fun c1 => ?_)
  · have _q := c1
    refine lv_iconst (v := iI 0) hx hb d_Q_isSmallLetter_16 rfl ?_
    exact fin _ _ _ (by first | exact bI_t (decide_eq_true (by omega)) | exact bI_f (decide_eq_false (by omega))) d_Q_isSmallLetter_17
  · have _q := c1
    refine lv_iload_n hx hb d_Q_isSmallLetter_6 rfl (lv_at hl 0 rfl) ?_
    refine lv_bipush (v := iI 122) hx hb d_Q_isSmallLetter_7 (by decide) ?_
    refine li_icmp_gt (tgt := 16) hx hb d_Q_isSmallLetter_9 (by decide) (by omega) (by omega) (fun c2 => ?_) (fun c2 => ?_)
    · have _q := c2
      refine lv_iconst (v := iI 0) hx hb d_Q_isSmallLetter_16 rfl ?_
      exact fin _ _ _ (by first | exact bI_t (decide_eq_true (by omega)) | exact bI_f (decide_eq_false (by omega))) d_Q_isSmallLetter_17
    · have _q := c2
      refine lv_iconst (v := iI 1) hx hb d_Q_isSmallLetter_12 rfl ?_
      refine lv_goto (tgt := 17) hx hb d_Q_isSmallLetter_13 (by decide) ?_
      exact fin _ _ _ (by first | exact bI_t (decide_eq_true (by omega)) | exact bI_f (decide_eq_false (by omega))) d_Q_isSmallLetter_17
theorem d_Q_small_0 : decode b_Q_small 0 = .ok (.iload_n 0, 1) := by decide +kernel
theorem d_Q_small_1 : decode b_Q_small 1 = .ok (.bipush 65, 2) := by decide +kernel
theorem d_Q_small_3 : decode b_Q_small 3 = .ok (.if_icmp .lt 20, 3) := by decide +kernel
theorem d_Q_small_6 : decode b_Q_small 6 = .ok (.iload_n 0, 1) := by decide +kernel
theorem d_Q_small_7 : decode b_Q_small 7 = .ok (.bipush 90, 2) := by decide +kernel
theorem d_Q_small_9 : decode b_Q_small 9 = .ok (.if_icmp .gt 14, 3) := by decide +kernel
theorem d_Q_small_12 : decode b_Q_small 12 = .ok (.iload_n 0, 1) := by decide +kernel
theorem d_Q_small_13 : decode b_Q_small 13 = .ok (.bipush 97, 2) := by decide +kernel
theorem d_Q_small_15 : decode b_Q_small 15 = .ok (.iadd, 1) := by decide +kernel
theorem d_Q_small_16 : decode b_Q_small 16 = .ok (.bipush 65, 2) := by decide +kernel
theorem d_Q_small_18 : decode b_Q_small 18 = .ok (.isub, 1) := by decide +kernel
theorem d_Q_small_19 : decode b_Q_small 19 = .ok (.i2c, 1) := by decide +kernel
theorem d_Q_small_20 : decode b_Q_small 20 = .ok (.goto 4, 3) := by decide +kernel
theorem d_Q_small_23 : decode b_Q_small 23 = .ok (.iload_n 0, 1) := by decide +kernel
theorem d_Q_small_24 : decode b_Q_small 24 = .ok (.ireturn, 1) := by decide +kernel
set_option maxHeartbeats 4000000 in
set_option maxRecDepth 100000 in
theorem c_Q_small (l : Launch) (dC : Nat → ClassId) (dI : Nat → Nat → Nat) (kA : Nat → ClassId) (ch : Int) (hc : 0 ≤ ch ∧ ch < 65536) : Met l y_Q_small (wsy y_Q_small b_Q_small 1 (some .char)) (rmd 0 0 0) (li_Pr (dC, dI) CL (TY kA) [.int (iI ch)] (va_P (dC, dI) CL [])) (k2_QcV (.int (iI (sml ch)))) 0 0 (fun _ => False) := by
  refine li_mr (by decide) (Nat.le_of_ble_eq_true rfl) (by exact li_narC2 (sml_r hc).1 (sml_r hc).2) ?_
  intro p e s m args below meth c Q C hP hK hN hG fin ls hl
  obtain ⟨hx, hb, hr, hml, hown, hts, hlocks, hin⟩ := C
  have hown : s.vm.findClass R_Q = some m.cls := hown
  have hP : va_P (dC, dI) CL [] s.heap := hP
  have hl : lv_has ls 1 [(0, .int (iI ch))] := hl
  refine lv_iload_n hx hb d_Q_small_0 rfl (lv_at hl 0 rfl) ?_
  refine lv_bipush (v := iI 65) hx hb d_Q_small_1 (by decide) ?_
  refine li_icmp_lt (tgt := 23) hx hb d_Q_small_3 (by decide) (by omega) (by omega) (fun c1 => ?_) (fun c1 => ?_)
  · have _q := c1
    refine lv_iload_n hx hb d_Q_small_23 rfl (lv_at hl 0 rfl) ?_
    exact fin _ _ _ (by unfold sml; split <;> omega) d_Q_small_24
  · have _q := c1
    refine lv_iload_n hx hb d_Q_small_6 rfl (lv_at hl 0 rfl) ?_
    refine lv_bipush (v := iI 90) hx hb d_Q_small_7 (by decide) ?_
    refine li_icmp_gt (tgt := 23) hx hb d_Q_small_9 (by decide) (by omega) (by omega) (fun c2 => ?_) (fun c2 => ?_)
    · have _q := c2
      refine lv_iload_n hx hb d_Q_small_23 rfl (lv_at hl 0 rfl) ?_
      exact fin _ _ _ (by unfold sml; split <;> omega) d_Q_small_24
    · have _q := c2
      refine lv_iload_n hx hb d_Q_small_12 rfl (lv_at hl 0 rfl) ?_
      refine lv_bipush (v := iI 97) hx hb d_Q_small_13 (by decide) ?_
      refine li_iadd hx hb d_Q_small_15 ?_
      refine lv_bipush (v := iI 65) hx hb d_Q_small_16 (by decide) ?_
      refine li_isub hx hb d_Q_small_18 ?_
      refine li_i2c hx hb d_Q_small_19 (by omega) (by omega) ?_
      refine lv_goto (tgt := 24) hx hb d_Q_small_20 (by decide) ?_
      exact fin _ _ _ (by unfold sml; split <;> omega) d_Q_small_24
theorem d_Q_numberAt_0 : decode b_Q_numberAt 0 = .ok (.iconst 0, 1) := by decide +kernel
theorem d_Q_numberAt_1 : decode b_Q_numberAt 1 = .ok (.istore_n 3, 1) := by decide +kernel
theorem d_Q_numberAt_2 : decode b_Q_numberAt 2 = .ok (.iload_n 1, 1) := by decide +kernel
theorem d_Q_numberAt_3 : decode b_Q_numberAt 3 = .ok (.istore 4, 2) := by decide +kernel
theorem d_Q_numberAt_5 : decode b_Q_numberAt 5 = .ok (.iload 4, 2) := by decide +kernel
theorem d_Q_numberAt_7 : decode b_Q_numberAt 7 = .ok (.iload_n 1, 1) := by decide +kernel
theorem d_Q_numberAt_8 : decode b_Q_numberAt 8 = .ok (.iload_n 2, 1) := by decide +kernel
theorem d_Q_numberAt_9 : decode b_Q_numberAt 9 = .ok (.iadd, 1) := by decide +kernel
theorem d_Q_numberAt_10 : decode b_Q_numberAt 10 = .ok (.if_icmp .ge 34, 3) := by decide +kernel
theorem d_Q_numberAt_13 : decode b_Q_numberAt 13 = .ok (.iload 4, 2) := by decide +kernel
theorem d_Q_numberAt_15 : decode b_Q_numberAt 15 = .ok (.ifCond .lt 23, 3) := by decide +kernel
theorem d_Q_numberAt_18 : decode b_Q_numberAt 18 = .ok (.iload 4, 2) := by decide +kernel
theorem d_Q_numberAt_20 : decode b_Q_numberAt 20 = .ok (.aload_n 0, 1) := by decide +kernel
theorem d_Q_numberAt_21 : decode b_Q_numberAt 21 = .ok (.arraylength, 1) := by decide +kernel
theorem d_Q_numberAt_22 : decode b_Q_numberAt 22 = .ok (.if_icmp .ge 16, 3) := by decide +kernel
theorem d_Q_numberAt_25 : decode b_Q_numberAt 25 = .ok (.bipush 10, 2) := by decide +kernel
theorem d_Q_numberAt_27 : decode b_Q_numberAt 27 = .ok (.iload_n 3, 1) := by decide +kernel
theorem d_Q_numberAt_28 : decode b_Q_numberAt 28 = .ok (.imul, 1) := by decide +kernel
theorem d_Q_numberAt_29 : decode b_Q_numberAt 29 = .ok (.aload_n 0, 1) := by decide +kernel
theorem d_Q_numberAt_30 : decode b_Q_numberAt 30 = .ok (.iload 4, 2) := by decide +kernel
theorem d_Q_numberAt_32 : decode b_Q_numberAt 32 = .ok (.caload, 1) := by decide +kernel
theorem d_Q_numberAt_33 : decode b_Q_numberAt 33 = .ok (.bipush 48, 2) := by decide +kernel
theorem d_Q_numberAt_35 : decode b_Q_numberAt 35 = .ok (.isub, 1) := by decide +kernel
theorem d_Q_numberAt_36 : decode b_Q_numberAt 36 = .ok (.iadd, 1) := by decide +kernel
theorem d_Q_numberAt_37 : decode b_Q_numberAt 37 = .ok (.istore_n 3, 1) := by decide +kernel
theorem d_Q_numberAt_38 : decode b_Q_numberAt 38 = .ok (.iinc 4 1, 3) := by decide +kernel
theorem d_Q_numberAt_41 : decode b_Q_numberAt 41 = .ok (.goto (-36), 3) := by decide +kernel
theorem d_Q_numberAt_44 : decode b_Q_numberAt 44 = .ok (.iload_n 3, 1) := by decide +kernel
theorem d_Q_numberAt_45 : decode b_Q_numberAt 45 = .ok (.ireturn, 1) := by decide +kernel
set_option maxHeartbeats 4000000 in
set_option maxRecDepth 100000 in
theorem c_Q_numberAt (l : Launch) (dC : Nat → ClassId) (dI : Nat → Nat → Nat) (kA : Nat → ClassId) (a : Nat) (n : Nat) (t : Nat → Int) (x : Int) (k : Int) (hn : n < 2147483648) (hx0 : 0 ≤ x ∧ x ≤ 100000) (hk0 : 0 ≤ k ∧ k ≤ 100) : Met l y_Q_numberAt (wsy y_Q_numberAt b_Q_numberAt 5 (some .int)) (rmd 0 0 0) (li_Pr (dC, dI) CL (TY kA) [.ref a, .int (iI x), .int (iI k)] (va_P (dC, dI) CL [(a, .inl (kA 1, n, .inl (aI t)))])) (k2_QcV (.int (iI (numAt t n x k)))) 0 0 (fun _ => False) := by
  refine li_mr (by decide) (Nat.le_of_ble_eq_true rfl) (by rfl) ?_
  intro p e s m args below meth c Q C hP hK hN hG fin ls hl
  obtain ⟨hx, hb, hr, hml, hown, hts, hlocks, hin⟩ := C
  have hown : s.vm.findClass R_Q = some m.cls := hown
  have hP : va_P (dC, dI) CL [(a, .inl (kA 1, n, .inl (aI t)))] s.heap := hP
  have hl : lv_has ls 5 [(0, .ref a), (1, .int (iI x)), (2, .int (iI k))] := hl
  have K_5 : ∀ (nn : Nat) (v : Int) (p1 : Int), (x ≤ p1 ∧ p1 ≤ x + k) → (numL t n (x + k - p1).toNat p1 v = numAt t n x k) → ((x + k - p1).toNat < nn) → ∀ ls : Array Slot, lv_has ls 5 [(0, .ref a), (1, .int (iI x)), (2, .int (iI k)), (3, .int (iI v)), (4, .int (iI p1))] → W p l e (rmd 0 0 0) s m args below meth c s.heap [] 0 0 Q (F0 m 5 ls []) := by
    intro nn
    induction nn with
    | zero => intro v p1 hp hres hm; exact absurd hm (Nat.not_lt_zero _)
    | succ nn ih =>
      intro v p1 hp hres hm ls hl
      refine lv_iload hx hb d_Q_numberAt_5 (lv_at hl 4 rfl) ?_
      refine lv_iload_n hx hb d_Q_numberAt_7 rfl (lv_at hl 1 rfl) ?_
      refine lv_iload_n hx hb d_Q_numberAt_8 rfl (lv_at hl 2 rfl) ?_
      refine li_iadd hx hb d_Q_numberAt_9 ?_
      refine li_icmp_ge (tgt := 44) hx hb d_Q_numberAt_10 (by decide) (by omega) (by omega) (fun c1 => ?_) (fun c1 => ?_)
      · have _q := c1
        refine lv_iload_n hx hb d_Q_numberAt_44 rfl (lv_at hl 3 rfl) ?_
        exact fin _ _ _ (by rw [← hres, show (x + k - p1).toNat = 0 by omega]; rfl) d_Q_numberAt_45
      · have _q := c1
        refine lv_iload hx hb d_Q_numberAt_13 (lv_at hl 4 rfl) ?_
        refine li_if_lt (tgt := 38) hx hb d_Q_numberAt_15 (by decide) (by omega) (fun c2 => ?_) (fun c2 => ?_)
        · have _q := c2
          obtain ⟨x3, ex3⟩ : ∃ y : Int, y = p1 + 1 := ⟨_, rfl⟩
          refine lv_iinc (v := iI x3) (lv' := [(4, .int (iI x3)), (0, .ref a), (1, .int (iI x)), (2, .int (iI k)), (3, .int (iI v))]) hx hb d_Q_numberAt_38 hl (k := 4) rfl (by rw [ex3]; exact iI_add _ _) (by decide) rfl (fun ls hl => ?_)
          refine lv_goto (tgt := 5) hx hb d_Q_numberAt_41 (by decide) ?_
          exact ih v x3 (by omega) (by first | (exfalso; omega) | (show numL t n (x + k - x).toNat x 0 = numL t n k.toNat x 0; rw [show x + k - x = k by omega]) | (subst_vars; rw [← hres, show (x + k - p1).toNat = (x + k - (p1 + 1)).toNat + 1 by omega]; simp only [numL]; first | rw [if_pos (by omega)] | rw [if_neg (by omega)])) (by omega) _ (lv_sub hl [1, 2, 3, 4, 0] rfl)
        · have _q := c2
          refine lv_iload hx hb d_Q_numberAt_18 (lv_at hl 4 rfl) ?_
          refine lv_aload_n hx hb d_Q_numberAt_20 rfl (lv_at hl 0 rfl) ?_
          refine li_alen hx hb hK hP 0 1 rfl rfl d_Q_numberAt_21 ?_
          refine li_icmp_ge (tgt := 38) hx hb d_Q_numberAt_22 (by decide) (by omega) (by omega) (fun c4 => ?_) (fun c4 => ?_)
          · have _q := c4
            obtain ⟨x5, ex5⟩ : ∃ y : Int, y = p1 + 1 := ⟨_, rfl⟩
            refine lv_iinc (v := iI x5) (lv' := [(4, .int (iI x5)), (0, .ref a), (1, .int (iI x)), (2, .int (iI k)), (3, .int (iI v))]) hx hb d_Q_numberAt_38 hl (k := 4) rfl (by rw [ex5]; exact iI_add _ _) (by decide) rfl (fun ls hl => ?_)
            refine lv_goto (tgt := 5) hx hb d_Q_numberAt_41 (by decide) ?_
            exact ih v x5 (by omega) (by first | (exfalso; omega) | (show numL t n (x + k - x).toNat x 0 = numL t n k.toNat x 0; rw [show x + k - x = k by omega]) | (subst_vars; rw [← hres, show (x + k - p1).toNat = (x + k - (p1 + 1)).toNat + 1 by omega]; simp only [numL]; first | rw [if_pos (by omega)] | rw [if_neg (by omega)])) (by omega) _ (lv_sub hl [1, 2, 3, 4, 0] rfl)
          · have _q := c4
            refine lv_bipush (v := iI 10) hx hb d_Q_numberAt_25 (by decide) ?_
            refine lv_iload_n hx hb d_Q_numberAt_27 rfl (lv_at hl 3 rfl) ?_
            refine li_imul hx hb d_Q_numberAt_28 ?_
            refine lv_aload_n hx hb d_Q_numberAt_29 rfl (lv_at hl 0 rfl) ?_
            refine lv_iload hx hb d_Q_numberAt_30 (lv_at hl 4 rfl) ?_
            refine li_cald hx hb hK hP 0 1 rfl rfl (by omega) (by omega) (by omega) d_Q_numberAt_32 ?_
            refine lv_bipush (v := iI 48) hx hb d_Q_numberAt_33 (by decide) ?_
            refine li_isub hx hb d_Q_numberAt_35 ?_
            refine li_iadd hx hb d_Q_numberAt_36 ?_
            refine li_nm (fun x6 ex6 => ?_)
            refine lv_istore_n (lv' := [(3, .int (iI x6)), (0, .ref a), (1, .int (iI x)), (2, .int (iI k)), (4, .int (iI p1))]) hx hb d_Q_numberAt_37 rfl hl (by decide) rfl (fun ls hl => ?_)
            obtain ⟨x7, ex7⟩ : ∃ y : Int, y = p1 + 1 := ⟨_, rfl⟩
            refine lv_iinc (v := iI x7) (lv' := [(4, .int (iI x7)), (3, .int (iI x6)), (0, .ref a), (1, .int (iI x)), (2, .int (iI k))]) hx hb d_Q_numberAt_38 hl (k := 4) rfl (by rw [ex7]; exact iI_add _ _) (by decide) rfl (fun ls hl => ?_)
            refine lv_goto (tgt := 5) hx hb d_Q_numberAt_41 (by decide) ?_
            exact ih x6 x7 (by omega) (by first | (exfalso; omega) | (show numL t n (x + k - x).toNat x 0 = numL t n k.toNat x 0; rw [show x + k - x = k by omega]) | (subst_vars; rw [← hres, show (x + k - p1).toNat = (x + k - (p1 + 1)).toNat + 1 by omega]; simp only [numL]; first | rw [if_pos (by omega)] | rw [if_neg (by omega)])) (by omega) _ (lv_sub hl [2, 3, 4, 1, 0] rfl)
  refine lv_iconst (v := iI 0) hx hb d_Q_numberAt_0 rfl ?_
  refine lv_istore_n (lv' := [(3, .int (iI 0)), (0, .ref a), (1, .int (iI x)), (2, .int (iI k))]) hx hb d_Q_numberAt_1 rfl hl (by decide) rfl (fun ls hl => ?_)
  refine lv_iload_n hx hb d_Q_numberAt_2 rfl (lv_at hl 2 rfl) ?_
  refine lv_istore (lv' := [(4, .int (iI x)), (3, .int (iI 0)), (0, .ref a), (1, .int (iI x)), (2, .int (iI k))]) hx hb d_Q_numberAt_3 hl (by decide) rfl (fun ls hl => ?_)
  exact K_5 ((x + k - x).toNat + 1) 0 x (by omega) (by first | (exfalso; omega) | (show numL t n (x + k - x).toNat x 0 = numL t n k.toNat x 0; rw [show x + k - x = k by omega]) | (subst_vars; rw [← hres, show (x + k - p1).toNat = (x + k - (p1 + 1)).toNat + 1 by omega]; simp only [numL]; first | rw [if_pos (by omega)] | rw [if_neg (by omega)])) (Nat.lt_succ_self _) _ (lv_sub hl [2, 3, 4, 1, 0] rfl)
theorem d_Q_yearIn_0 : decode b_Q_yearIn 0 = .ok (.iconst 0, 1) := by decide +kernel
theorem d_Q_yearIn_1 : decode b_Q_yearIn 1 = .ok (.istore_n 3, 1) := by decide +kernel
theorem d_Q_yearIn_2 : decode b_Q_yearIn 2 = .ok (.iconst 0, 1) := by decide +kernel
theorem d_Q_yearIn_3 : decode b_Q_yearIn 3 = .ok (.istore 4, 2) := by decide +kernel
theorem d_Q_yearIn_5 : decode b_Q_yearIn 5 = .ok (.iload_n 1, 1) := by decide +kernel
theorem d_Q_yearIn_6 : decode b_Q_yearIn 6 = .ok (.istore 5, 2) := by decide +kernel
theorem d_Q_yearIn_8 : decode b_Q_yearIn 8 = .ok (.iload 5, 2) := by decide +kernel
theorem d_Q_yearIn_10 : decode b_Q_yearIn 10 = .ok (.iload_n 2, 1) := by decide +kernel
theorem d_Q_yearIn_11 : decode b_Q_yearIn 11 = .ok (.if_icmp .ge 63, 3) := by decide +kernel
theorem d_Q_yearIn_14 : decode b_Q_yearIn 14 = .ok (.iload 5, 2) := by decide +kernel
theorem d_Q_yearIn_16 : decode b_Q_yearIn 16 = .ok (.ifCond .lt 20, 3) := by decide +kernel
theorem d_Q_yearIn_19 : decode b_Q_yearIn 19 = .ok (.iload 5, 2) := by decide +kernel
theorem d_Q_yearIn_21 : decode b_Q_yearIn 21 = .ok (.aload_n 0, 1) := by decide +kernel
theorem d_Q_yearIn_22 : decode b_Q_yearIn 22 = .ok (.arraylength, 1) := by decide +kernel
theorem d_Q_yearIn_23 : decode b_Q_yearIn 23 = .ok (.if_icmp .ge 13, 3) := by decide +kernel
theorem d_Q_yearIn_26 : decode b_Q_yearIn 26 = .ok (.aload_n 0, 1) := by decide +kernel
theorem d_Q_yearIn_27 : decode b_Q_yearIn 27 = .ok (.iload 5, 2) := by decide +kernel
theorem d_Q_yearIn_29 : decode b_Q_yearIn 29 = .ok (.caload, 1) := by decide +kernel
theorem d_Q_yearIn_30 : decode b_Q_yearIn 30 = .ok (.invokestatic 233, 3) := by decide +kernel
theorem d_Q_yearIn_33 : decode b_Q_yearIn 33 = .ok (.ifCond .ne 11, 3) := by decide +kernel
theorem d_Q_yearIn_36 : decode b_Q_yearIn 36 = .ok (.iconst 0, 1) := by decide +kernel
theorem d_Q_yearIn_37 : decode b_Q_yearIn 37 = .ok (.istore_n 3, 1) := by decide +kernel
theorem d_Q_yearIn_38 : decode b_Q_yearIn 38 = .ok (.iconst 0, 1) := by decide +kernel
theorem d_Q_yearIn_39 : decode b_Q_yearIn 39 = .ok (.istore 4, 2) := by decide +kernel
theorem d_Q_yearIn_41 : decode b_Q_yearIn 41 = .ok (.goto 27, 3) := by decide +kernel
theorem d_Q_yearIn_44 : decode b_Q_yearIn 44 = .ok (.bipush 10, 2) := by decide +kernel
theorem d_Q_yearIn_46 : decode b_Q_yearIn 46 = .ok (.iload_n 3, 1) := by decide +kernel
theorem d_Q_yearIn_47 : decode b_Q_yearIn 47 = .ok (.imul, 1) := by decide +kernel
theorem d_Q_yearIn_48 : decode b_Q_yearIn 48 = .ok (.aload_n 0, 1) := by decide +kernel
theorem d_Q_yearIn_49 : decode b_Q_yearIn 49 = .ok (.iload 5, 2) := by decide +kernel
theorem d_Q_yearIn_51 : decode b_Q_yearIn 51 = .ok (.caload, 1) := by decide +kernel
theorem d_Q_yearIn_52 : decode b_Q_yearIn 52 = .ok (.bipush 48, 2) := by decide +kernel
theorem d_Q_yearIn_54 : decode b_Q_yearIn 54 = .ok (.isub, 1) := by decide +kernel
theorem d_Q_yearIn_55 : decode b_Q_yearIn 55 = .ok (.iadd, 1) := by decide +kernel
theorem d_Q_yearIn_56 : decode b_Q_yearIn 56 = .ok (.istore_n 3, 1) := by decide +kernel
theorem d_Q_yearIn_57 : decode b_Q_yearIn 57 = .ok (.iinc 4 1, 3) := by decide +kernel
theorem d_Q_yearIn_60 : decode b_Q_yearIn 60 = .ok (.iload 4, 2) := by decide +kernel
theorem d_Q_yearIn_62 : decode b_Q_yearIn 62 = .ok (.iconst 4, 1) := by decide +kernel
theorem d_Q_yearIn_63 : decode b_Q_yearIn 63 = .ok (.if_icmp .ne 5, 3) := by decide +kernel
theorem d_Q_yearIn_66 : decode b_Q_yearIn 66 = .ok (.iload_n 3, 1) := by decide +kernel
theorem d_Q_yearIn_67 : decode b_Q_yearIn 67 = .ok (.ireturn, 1) := by decide +kernel
theorem d_Q_yearIn_68 : decode b_Q_yearIn 68 = .ok (.iinc 5 1, 3) := by decide +kernel
theorem d_Q_yearIn_71 : decode b_Q_yearIn 71 = .ok (.goto (-63), 3) := by decide +kernel
theorem d_Q_yearIn_74 : decode b_Q_yearIn 74 = .ok (.iconst (-1), 1) := by decide +kernel
theorem d_Q_yearIn_75 : decode b_Q_yearIn 75 = .ok (.ireturn, 1) := by decide +kernel
set_option maxHeartbeats 4000000 in
set_option maxRecDepth 100000 in
theorem c_Q_yearIn (l : Launch) (dC : Nat → ClassId) (dI : Nat → Nat → Nat) (kA : Nat → ClassId) (a : Nat) (n : Nat) (t : Nat → Int) (x : Int) (y : Int) (hn : n < 2147483648) (ht : ∀ j, 0 ≤ t j ∧ t j < 65536) (hx0 : 0 ≤ x ∧ x ≤ 100000) (hy0 : 0 ≤ y ∧ y ≤ 100000) : Met l y_Q_yearIn (wsy y_Q_yearIn b_Q_yearIn 6 (some .int)) (rmd 1 0 0) (li_Pr (dC, dI) CL (TY kA) [.ref a, .int (iI x), .int (iI y)] (va_P (dC, dI) CL [(a, .inl (kA 1, n, .inl (aI t)))])) (k2_QcV (.int (iI (yearF t n x y)))) 0 0 (fun _ => False) := by
  refine li_mr (by decide) (Nat.le_of_ble_eq_true rfl) (by rfl) ?_
  intro p e s m args below meth c Q C hP hK hN hG fin ls hl
  obtain ⟨hx, hb, hr, hml, hown, hts, hlocks, hin⟩ := C
  have hown : s.vm.findClass R_Q = some m.cls := hown
  have hP : va_P (dC, dI) CL [(a, .inl (kA 1, n, .inl (aI t)))] s.heap := hP
  have hl : lv_has ls 6 [(0, .ref a), (1, .int (iI x)), (2, .int (iI y))] := hl
  have K_8 : ∀ (nn : Nat) (v : Int) (d : Int) (p1 : Int), (x ≤ p1 ∧ (p1 ≤ x ∨ p1 ≤ y) ∧ 0 ≤ d ∧ d ≤ 3) → (yrL t n (y - p1).toNat p1 v d = yearF t n x y) → ((y - p1).toNat < nn) → ∀ ls : Array Slot, lv_has ls 6 [(0, .ref a), (1, .int (iI x)), (2, .int (iI y)), (3, .int (iI v)), (4, .int (iI d)), (5, .int (iI p1))] → W p l e (rmd 1 0 0) s m args below meth c s.heap [] 0 0 Q (F0 m 8 ls []) := by
    intro nn
    induction nn with
    | zero => intro v d p1 hp hres hm; exact absurd hm (Nat.not_lt_zero _)
    | succ nn ih =>
      intro v d p1 hp hres hm ls hl
      refine lv_iload hx hb d_Q_yearIn_8 (lv_at hl 5 rfl) ?_
      refine lv_iload_n hx hb d_Q_yearIn_10 rfl (lv_at hl 2 rfl) ?_
      refine li_icmp_ge (tgt := 74) hx hb d_Q_yearIn_11 (by decide) (by first | omega | (have := ht p1.toNat; omega)) (by first | omega | (have := ht p1.toNat; omega)) (fun c1 => ?_) (fun c1 => ?_)
      · have _q := c1
        refine lv_iconst (v := iI (-1)) hx hb d_Q_yearIn_74 rfl ?_
        exact fin _ _ _ (by first | (rw [← hres, show (y - p1).toNat = 0 by omega]; rfl) | (rw [← hres, show (y - p1).toNat = (y - (p1 + 1)).toNat + 1 by omega]; simp only [yrL]; rw [if_pos ⟨by omega, by omega, by assumption⟩, if_pos (by omega)]; omega)) d_Q_yearIn_75
      · have _q := c1
        refine lv_iload hx hb d_Q_yearIn_14 (lv_at hl 5 rfl) ?_
        refine li_if_lt (tgt := 36) hx hb d_Q_yearIn_16 (by decide) (by first | omega | (have := ht p1.toNat; omega)) (fun c2 => ?_) (fun c2 => ?_)
        · have _q := c2
          refine lv_iconst (v := iI 0) hx hb d_Q_yearIn_36 rfl ?_
          refine lv_istore_n (lv' := [(3, .int (iI 0)), (0, .ref a), (1, .int (iI x)), (2, .int (iI y)), (4, .int (iI d)), (5, .int (iI p1))]) hx hb d_Q_yearIn_37 rfl hl (by decide) rfl (fun ls hl => ?_)
          refine lv_iconst (v := iI 0) hx hb d_Q_yearIn_38 rfl ?_
          refine lv_istore (lv' := [(4, .int (iI 0)), (3, .int (iI 0)), (0, .ref a), (1, .int (iI x)), (2, .int (iI y)), (5, .int (iI p1))]) hx hb d_Q_yearIn_39 hl (by decide) rfl (fun ls hl => ?_)
          refine lv_goto (tgt := 68) hx hb d_Q_yearIn_41 (by decide) ?_
          obtain ⟨x3, ex3⟩ : ∃ y : Int, y = p1 + 1 := ⟨_, rfl⟩
          refine lv_iinc (v := iI x3) (lv' := [(5, .int (iI x3)), (4, .int (iI 0)), (3, .int (iI 0)), (0, .ref a), (1, .int (iI x)), (2, .int (iI y))]) hx hb d_Q_yearIn_68 hl (k := 5) rfl (by rw [ex3]; exact iI_add _ _) (by decide) rfl (fun ls hl => ?_)
          refine lv_goto (tgt := 8) hx hb d_Q_yearIn_71 (by decide) ?_
          exact ih 0 0 x3 (by omega) (by first | (exfalso; omega) | rfl | (subst_vars; rw [← hres, show (y - p1).toNat = (y - (p1 + 1)).toNat + 1 by omega]; simp only [yrL]; first | (rw [if_pos ⟨by omega, by omega, by assumption⟩, if_neg (by omega)]) | rw [if_neg (by intro q; first | omega | (simp_all))])) (by omega) _ (lv_sub hl [3, 4, 5, 2, 1, 0] rfl)
        · have _q := c2
          refine lv_iload hx hb d_Q_yearIn_19 (lv_at hl 5 rfl) ?_
          refine lv_aload_n hx hb d_Q_yearIn_21 rfl (lv_at hl 0 rfl) ?_
          refine li_alen hx hb hK hP 0 1 rfl rfl d_Q_yearIn_22 ?_
          refine li_icmp_ge (tgt := 36) hx hb d_Q_yearIn_23 (by decide) (by first | omega | (have := ht p1.toNat; omega)) (by first | omega | (have := ht p1.toNat; omega)) (fun c4 => ?_) (fun c4 => ?_)
          · have _q := c4
            refine lv_iconst (v := iI 0) hx hb d_Q_yearIn_36 rfl ?_
            refine lv_istore_n (lv' := [(3, .int (iI 0)), (0, .ref a), (1, .int (iI x)), (2, .int (iI y)), (4, .int (iI d)), (5, .int (iI p1))]) hx hb d_Q_yearIn_37 rfl hl (by decide) rfl (fun ls hl => ?_)
            refine lv_iconst (v := iI 0) hx hb d_Q_yearIn_38 rfl ?_
            refine lv_istore (lv' := [(4, .int (iI 0)), (3, .int (iI 0)), (0, .ref a), (1, .int (iI x)), (2, .int (iI y)), (5, .int (iI p1))]) hx hb d_Q_yearIn_39 hl (by decide) rfl (fun ls hl => ?_)
            refine lv_goto (tgt := 68) hx hb d_Q_yearIn_41 (by decide) ?_
            obtain ⟨x5, ex5⟩ : ∃ y : Int, y = p1 + 1 := ⟨_, rfl⟩
            refine lv_iinc (v := iI x5) (lv' := [(5, .int (iI x5)), (4, .int (iI 0)), (3, .int (iI 0)), (0, .ref a), (1, .int (iI x)), (2, .int (iI y))]) hx hb d_Q_yearIn_68 hl (k := 5) rfl (by rw [ex5]; exact iI_add _ _) (by decide) rfl (fun ls hl => ?_)
            refine lv_goto (tgt := 8) hx hb d_Q_yearIn_71 (by decide) ?_
            exact ih 0 0 x5 (by omega) (by first | (exfalso; omega) | rfl | (subst_vars; rw [← hres, show (y - p1).toNat = (y - (p1 + 1)).toNat + 1 by omega]; simp only [yrL]; first | (rw [if_pos ⟨by omega, by omega, by assumption⟩, if_neg (by omega)]) | rw [if_neg (by intro q; first | omega | (simp_all))])) (by omega) _ (lv_sub hl [3, 4, 5, 2, 1, 0] rfl)
          · have _q := c4
            refine lv_aload_n hx hb d_Q_yearIn_26 rfl (lv_at hl 0 rfl) ?_
            refine lv_iload hx hb d_Q_yearIn_27 (lv_at hl 5 rfl) ?_
            refine li_cald hx hb hK hP 0 1 rfl rfl (by omega) (by omega) (by omega) d_Q_yearIn_29 ?_
            refine li_callr ((va_runS (As := [.int (iI (t p1.toNat))]) (rest := []) ⟨hx, hb, hml, hown, hts⟩ (c_Q_isDigit l dC dI kA (t p1.toNat) (by have := ht p1.toNat; omega)) (cw_Q_233 hts rfl rfl ⟨by decide, by decide⟩) (li_preS (hP.sub [] rfl) hK hN hG.rd) rfl rfl hl.1 rfl (lv_room (Nat.le_of_ble_eq_true rfl)) d_Q_yearIn_30 ⟨by decide, by decide⟩).run) ?_
            refine li_bnz (tgt := 44) hx hb d_Q_yearIn_33 (by decide) (fun c6 => ?_) (fun c6 => ?_)
            · have _q := c6
              refine lv_bipush (v := iI 10) hx hb d_Q_yearIn_44 (by decide) ?_
              refine lv_iload_n hx hb d_Q_yearIn_46 rfl (lv_at hl 3 rfl) ?_
              refine li_imul hx hb d_Q_yearIn_47 ?_
              refine lv_aload_n hx hb d_Q_yearIn_48 rfl (lv_at hl 0 rfl) ?_
              refine lv_iload hx hb d_Q_yearIn_49 (lv_at hl 5 rfl) ?_
              refine li_cald hx hb hK hP 0 1 rfl rfl (by omega) (by omega) (by omega) d_Q_yearIn_51 ?_
              refine lv_bipush (v := iI 48) hx hb d_Q_yearIn_52 (by decide) ?_
              refine li_isub hx hb d_Q_yearIn_54 ?_
              refine li_iadd hx hb d_Q_yearIn_55 ?_
              refine li_nm (fun x7 ex7 => ?_)
              refine lv_istore_n (lv' := [(3, .int (iI x7)), (0, .ref a), (1, .int (iI x)), (2, .int (iI y)), (4, .int (iI d)), (5, .int (iI p1))]) hx hb d_Q_yearIn_56 rfl hl (by decide) rfl (fun ls hl => ?_)
              obtain ⟨x8, ex8⟩ : ∃ y : Int, y = d + 1 := ⟨_, rfl⟩
              refine lv_iinc (v := iI x8) (lv' := [(4, .int (iI x8)), (3, .int (iI x7)), (0, .ref a), (1, .int (iI x)), (2, .int (iI y)), (5, .int (iI p1))]) hx hb d_Q_yearIn_57 hl (k := 4) rfl (by rw [ex8]; exact iI_add _ _) (by decide) rfl (fun ls hl => ?_)
              refine lv_iload hx hb d_Q_yearIn_60 (lv_at hl 0 rfl) ?_
              refine lv_iconst (v := iI 4) hx hb d_Q_yearIn_62 rfl ?_
              refine li_icmp_ne (tgt := 68) hx hb d_Q_yearIn_63 (by decide) (by first | omega | (have := ht p1.toNat; omega)) (by first | omega | (have := ht p1.toNat; omega)) (fun c9 => ?_) (fun c9 => ?_)
              · have _q := c9
                obtain ⟨x10, ex10⟩ : ∃ y : Int, y = p1 + 1 := ⟨_, rfl⟩
                refine lv_iinc (v := iI x10) (lv' := [(5, .int (iI x10)), (4, .int (iI x8)), (3, .int (iI x7)), (0, .ref a), (1, .int (iI x)), (2, .int (iI y))]) hx hb d_Q_yearIn_68 hl (k := 5) rfl (by rw [ex10]; exact iI_add _ _) (by decide) rfl (fun ls hl => ?_)
                refine lv_goto (tgt := 8) hx hb d_Q_yearIn_71 (by decide) ?_
                exact ih x7 x8 x10 (by omega) (by first | (exfalso; omega) | rfl | (subst_vars; rw [← hres, show (y - p1).toNat = (y - (p1 + 1)).toNat + 1 by omega]; simp only [yrL]; first | (rw [if_pos ⟨by omega, by omega, by assumption⟩, if_neg (by omega)]) | rw [if_neg (by intro q; first | omega | (simp_all))])) (by omega) _ (lv_sub hl [3, 4, 5, 2, 1, 0] rfl)
              · have _q := c9
                refine lv_iload_n hx hb d_Q_yearIn_66 rfl (lv_at hl 1 rfl) ?_
                exact fin _ _ _ (by first | (rw [← hres, show (y - p1).toNat = 0 by omega]; rfl) | (rw [← hres, show (y - p1).toNat = (y - (p1 + 1)).toNat + 1 by omega]; simp only [yrL]; rw [if_pos ⟨by omega, by omega, by assumption⟩, if_pos (by omega)]; omega)) d_Q_yearIn_67
            · have _q := c6
              refine lv_iconst (v := iI 0) hx hb d_Q_yearIn_36 rfl ?_
              refine lv_istore_n (lv' := [(3, .int (iI 0)), (0, .ref a), (1, .int (iI x)), (2, .int (iI y)), (4, .int (iI d)), (5, .int (iI p1))]) hx hb d_Q_yearIn_37 rfl hl (by decide) rfl (fun ls hl => ?_)
              refine lv_iconst (v := iI 0) hx hb d_Q_yearIn_38 rfl ?_
              refine lv_istore (lv' := [(4, .int (iI 0)), (3, .int (iI 0)), (0, .ref a), (1, .int (iI x)), (2, .int (iI y)), (5, .int (iI p1))]) hx hb d_Q_yearIn_39 hl (by decide) rfl (fun ls hl => ?_)
              refine lv_goto (tgt := 68) hx hb d_Q_yearIn_41 (by decide) ?_
              obtain ⟨x11, ex11⟩ : ∃ y : Int, y = p1 + 1 := ⟨_, rfl⟩
              refine lv_iinc (v := iI x11) (lv' := [(5, .int (iI x11)), (4, .int (iI 0)), (3, .int (iI 0)), (0, .ref a), (1, .int (iI x)), (2, .int (iI y))]) hx hb d_Q_yearIn_68 hl (k := 5) rfl (by rw [ex11]; exact iI_add _ _) (by decide) rfl (fun ls hl => ?_)
              refine lv_goto (tgt := 8) hx hb d_Q_yearIn_71 (by decide) ?_
              exact ih 0 0 x11 (by omega) (by first | (exfalso; omega) | rfl | (subst_vars; rw [← hres, show (y - p1).toNat = (y - (p1 + 1)).toNat + 1 by omega]; simp only [yrL]; first | (rw [if_pos ⟨by omega, by omega, by assumption⟩, if_neg (by omega)]) | rw [if_neg (by intro q; first | omega | (simp_all))])) (by omega) _ (lv_sub hl [3, 4, 5, 2, 1, 0] rfl)
  refine lv_iconst (v := iI 0) hx hb d_Q_yearIn_0 rfl ?_
  refine lv_istore_n (lv' := [(3, .int (iI 0)), (0, .ref a), (1, .int (iI x)), (2, .int (iI y))]) hx hb d_Q_yearIn_1 rfl hl (by decide) rfl (fun ls hl => ?_)
  refine lv_iconst (v := iI 0) hx hb d_Q_yearIn_2 rfl ?_
  refine lv_istore (lv' := [(4, .int (iI 0)), (3, .int (iI 0)), (0, .ref a), (1, .int (iI x)), (2, .int (iI y))]) hx hb d_Q_yearIn_3 hl (by decide) rfl (fun ls hl => ?_)
  refine lv_iload_n hx hb d_Q_yearIn_5 rfl (lv_at hl 3 rfl) ?_
  refine lv_istore (lv' := [(5, .int (iI x)), (4, .int (iI 0)), (3, .int (iI 0)), (0, .ref a), (1, .int (iI x)), (2, .int (iI y))]) hx hb d_Q_yearIn_6 hl (by decide) rfl (fun ls hl => ?_)
  exact K_8 ((y - x).toNat + 1) 0 0 x (by omega) (by first | (exfalso; omega) | rfl | (subst_vars; rw [← hres, show (y - p1).toNat = (y - (p1 + 1)).toNat + 1 by omega]; simp only [yrL]; first | (rw [if_pos ⟨by omega, by omega, by assumption⟩, if_neg (by omega)]) | rw [if_neg (by intro q; first | omega | (simp_all))])) (Nat.lt_succ_self _) _ (lv_sub hl [3, 4, 5, 2, 1, 0] rfl)

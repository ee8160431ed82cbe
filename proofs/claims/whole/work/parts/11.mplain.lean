def inF (v lo hi : Int) : Bool := decide (lo ≤ v ∧ v ≤ hi)
def isLet (ch : Int) : Bool := decide ((48 ≤ ch ∧ ch ≤ 57) ∨ (97 ≤ sml ch ∧ sml ch ≤ 122))
def isNam (ch : Int) : Bool := decide (ch ≠ 32 ∧ ch ≠ 34 ∧ ch ≠ 40 ∧ ch ≠ 41 ∧ ch ≠ 47 ∧ ch ≠ 60 ∧ ch ≠ 61 ∧ ch ≠ 62)
def isOfF (ix tag cd : Int) : Bool := decide (ix = 0 ∨ (ix = 1 ∧ tag = 245 ∧ (cd = 97 ∨ cd = 98)) ∨ (ix = 2 ∧ (tag = 100 ∨ tag = 700) ∧ cd = 97) ∨ (ix = 3 ∧ tag = 650 ∧ cd = 97) ∨ (ix = 4 ∧ tag = 260 ∧ cd = 99))
theorem sml_b {ch : Int} (h : -2147483648 ≤ ch ∧ ch < 2147483648) : -2147483648 ≤ sml ch ∧ sml ch < 2147483648 := by unfold sml; split <;> omega

theorem d_M_isIn_0 : decode b_M_isIn 0 = .ok (.iload_n 0, 1) := by decide +kernel
theorem d_M_isIn_1 : decode b_M_isIn 1 = .ok (.iload_n 1, 1) := by decide +kernel
theorem d_M_isIn_2 : decode b_M_isIn 2 = .ok (.if_icmp .lt 12, 3) := by decide +kernel
theorem d_M_isIn_5 : decode b_M_isIn 5 = .ok (.iload_n 0, 1) := by decide +kernel
theorem d_M_isIn_6 : decode b_M_isIn 6 = .ok (.iload_n 2, 1) := by decide +kernel
theorem d_M_isIn_7 : decode b_M_isIn 7 = .ok (.if_icmp .gt 7, 3) := by decide +kernel
theorem d_M_isIn_10 : decode b_M_isIn 10 = .ok (.iconst 1, 1) := by decide +kernel
theorem d_M_isIn_11 : decode b_M_isIn 11 = .ok (.goto 4, 3) := by decide +kernel
theorem d_M_isIn_14 : decode b_M_isIn 14 = .ok (.iconst 0, 1) := by decide +kernel
theorem d_M_isIn_15 : decode b_M_isIn 15 = .ok (.ireturn, 1) := by decide +kernel
set_option maxHeartbeats 4000000 in
set_option maxRecDepth 100000 in
theorem c_M_isIn (l : Launch) (dC : Nat → ClassId) (dI : Nat → Nat → Nat) (kA : Nat → ClassId) (v : Int) (lo : Int) (hi : Int) (hv : -2147483648 ≤ v ∧ v < 2147483648) (hlo : -2147483648 ≤ lo ∧ lo < 2147483648) (hhi : -2147483648 ≤ hi ∧ hi < 2147483648) : Met l y_M_isIn (wsy y_M_isIn b_M_isIn 3 (some .boolean)) (rmd 0 0 0) (li_Pr (dC, dI) CL (TY kA) [.int (iI v), .int (iI lo), .int (iI hi)] (va_P (dC, dI) CL [])) (k2_QcV (.int (iI (bI (inF v lo hi))))) 0 0 (fun _ => False) := by
  refine li_mr (by decide) (Nat.le_of_ble_eq_true rfl) (by exact li_narZ2 _) ?_
  intro p e s m args below meth c Q C hP hK hN hG fin ls hl
  obtain ⟨hx, hb, hr, hml, hown, hts, hlocks, hin⟩ := C
  have hown : s.vm.findClass R_M = some m.cls := hown
  have hP : va_P (dC, dI) CL [] s.heap := hP
  have hl : lv_has ls 3 [(0, .int (iI v)), (1, .int (iI lo)), (2, .int (iI hi))] := hl
  refine lv_iload_n hx hb d_M_isIn_0 rfl (lv_at hl 0 rfl) ?_
  refine lv_iload_n hx hb d_M_isIn_1 rfl (lv_at hl 1 rfl) ?_
  refine li_icmp_lt (tgt := 14) hx hb d_M_isIn_2 (by decide) (by omega) (by omega) (fun c1 => ?_) (fun c1 => ?_)
  · have _q := c1
    refine lv_iconst (v := iI 0) hx hb d_M_isIn_14 rfl ?_
    exact fin _ _ _ (by first | exact bI_t (decide_eq_true (by omega)) | exact bI_f (decide_eq_false (by omega))) d_M_isIn_15
  · have _q := c1
    refine lv_iload_n hx hb d_M_isIn_5 rfl (lv_at hl 0 rfl) ?_
    refine lv_iload_n hx hb d_M_isIn_6 rfl (lv_at hl 2 rfl) ?_
    refine li_icmp_gt (tgt := 14) hx hb d_M_isIn_7 (by decide) (by omega) (by omega) (fun c2 => ?_) (fun c2 => ?_)
    · have _q := c2
      refine lv_iconst (v := iI 0) hx hb d_M_isIn_14 rfl ?_
      exact fin _ _ _ (by first | exact bI_t (decide_eq_true (by omega)) | exact bI_f (decide_eq_false (by omega))) d_M_isIn_15
    · have _q := c2
      refine lv_iconst (v := iI 1) hx hb d_M_isIn_10 rfl ?_
      refine lv_goto (tgt := 15) hx hb d_M_isIn_11 (by decide) ?_
      exact fin _ _ _ (by first | exact bI_t (decide_eq_true (by omega)) | exact bI_f (decide_eq_false (by omega))) d_M_isIn_15
theorem d_M_isDigit_0 : decode b_M_isDigit 0 = .ok (.iload_n 0, 1) := by decide +kernel
theorem d_M_isDigit_1 : decode b_M_isDigit 1 = .ok (.bipush 48, 2) := by decide +kernel
theorem d_M_isDigit_3 : decode b_M_isDigit 3 = .ok (.if_icmp .lt 13, 3) := by decide +kernel
theorem d_M_isDigit_6 : decode b_M_isDigit 6 = .ok (.iload_n 0, 1) := by decide +kernel
theorem d_M_isDigit_7 : decode b_M_isDigit 7 = .ok (.bipush 57, 2) := by decide +kernel
theorem d_M_isDigit_9 : decode b_M_isDigit 9 = .ok (.if_icmp .gt 7, 3) := by decide +kernel
theorem d_M_isDigit_12 : decode b_M_isDigit 12 = .ok (.iconst 1, 1) := by decide +kernel
theorem d_M_isDigit_13 : decode b_M_isDigit 13 = .ok (.goto 4, 3) := by decide +kernel
theorem d_M_isDigit_16 : decode b_M_isDigit 16 = .ok (.iconst 0, 1) := by decide +kernel
theorem d_M_isDigit_17 : decode b_M_isDigit 17 = .ok (.ireturn, 1) := by decide +kernel
set_option maxHeartbeats 4000000 in
set_option maxRecDepth 100000 in
theorem c_M_isDigit (l : Launch) (dC : Nat → ClassId) (dI : Nat → Nat → Nat) (kA : Nat → ClassId) (ch : Int) (hc : -2147483648 ≤ ch ∧ ch < 2147483648) : Met l y_M_isDigit (wsy y_M_isDigit b_M_isDigit 1 (some .boolean)) (rmd 0 0 0) (li_Pr (dC, dI) CL (TY kA) [.int (iI ch)] (va_P (dC, dI) CL [])) (k2_QcV (.int (iI (bI (isDig ch))))) 0 0 (fun _ => False) := by
  refine li_mr (by decide) (Nat.le_of_ble_eq_true rfl) (by exact li_narZ2 _) ?_
  intro p e s m args below meth c Q C hP hK hN hG fin ls hl
  obtain ⟨hx, hb, hr, hml, hown, hts, hlocks, hin⟩ := C
  have hown : s.vm.findClass R_M = some m.cls := hown
  have hP : va_P (dC, dI) CL [] s.heap := hP
  have hl : lv_has ls 1 [(0, .int (iI ch))] := hl
  refine lv_iload_n hx hb d_M_isDigit_0 rfl (lv_at hl 0 rfl) ?_
  refine lv_bipush (v := iI 48) hx hb d_M_isDigit_1 (by decide) ?_
  refine li_icmp_lt (tgt := 16) hx hb d_M_isDigit_3 (by decide) (by omega) (by omega) (fun c1 => ?_) (fun c1 => ?_)
  · have _q := c1
    refine lv_iconst (v := iI 0) hx hb d_M_isDigit_16 rfl ?_
    exact fin _ _ _ (by first | exact bI_t (decide_eq_true (by omega)) | exact bI_f (decide_eq_false (by omega))) d_M_isDigit_17
  · have _q := c1
    refine lv_iload_n hx hb d_M_isDigit_6 rfl (lv_at hl 0 rfl) ?_
    refine lv_bipush (v := iI 57) hx hb d_M_isDigit_7 (by decide) ?_
    refine li_icmp_gt (tgt := 16) hx hb d_M_isDigit_9 (by decide) (by omega) (by omega) (fun c2 => ?_) (fun c2 => ?_)
    · have _q := c2
      refine lv_iconst (v := iI 0) hx hb d_M_isDigit_16 rfl ?_
      exact fin _ _ _ (by first | exact bI_t (decide_eq_true (by omega)) | exact bI_f (decide_eq_false (by omega))) d_M_isDigit_17
    · have _q := c2
      refine lv_iconst (v := iI 1) hx hb d_M_isDigit_12 rfl ?_
      refine lv_goto (tgt := 17) hx hb d_M_isDigit_13 (by decide) ?_
      exact fin _ _ _ (by first | exact bI_t (decide_eq_true (by omega)) | exact bI_f (decide_eq_false (by omega))) d_M_isDigit_17
theorem d_M_small_0 : decode b_M_small 0 = .ok (.iload_n 0, 1) := by decide +kernel
theorem d_M_small_1 : decode b_M_small 1 = .ok (.bipush 65, 2) := by decide +kernel
theorem d_M_small_3 : decode b_M_small 3 = .ok (.if_icmp .lt 16, 3) := by decide +kernel
theorem d_M_small_6 : decode b_M_small 6 = .ok (.iload_n 0, 1) := by decide +kernel
theorem d_M_small_7 : decode b_M_small 7 = .ok (.bipush 90, 2) := by decide +kernel
theorem d_M_small_9 : decode b_M_small 9 = .ok (.if_icmp .gt 10, 3) := by decide +kernel
theorem d_M_small_12 : decode b_M_small 12 = .ok (.iload_n 0, 1) := by decide +kernel
theorem d_M_small_13 : decode b_M_small 13 = .ok (.bipush 32, 2) := by decide +kernel
theorem d_M_small_15 : decode b_M_small 15 = .ok (.iadd, 1) := by decide +kernel
theorem d_M_small_16 : decode b_M_small 16 = .ok (.goto 4, 3) := by decide +kernel
theorem d_M_small_19 : decode b_M_small 19 = .ok (.iload_n 0, 1) := by decide +kernel
theorem d_M_small_20 : decode b_M_small 20 = .ok (.ireturn, 1) := by decide +kernel
set_option maxHeartbeats 4000000 in
set_option maxRecDepth 100000 in
theorem c_M_small (l : Launch) (dC : Nat → ClassId) (dI : Nat → Nat → Nat) (kA : Nat → ClassId) (ch : Int) (hc : -2147483648 ≤ ch ∧ ch < 2147483648) : Met l y_M_small (wsy y_M_small b_M_small 1 (some .int)) (rmd 0 0 0) (li_Pr (dC, dI) CL (TY kA) [.int (iI ch)] (va_P (dC, dI) CL [])) (k2_QcV (.int (iI (sml ch)))) 0 0 (fun _ => False) := by
  refine li_mr (by decide) (Nat.le_of_ble_eq_true rfl) (by rfl) ?_
  intro p e s m args below meth c Q C hP hK hN hG fin ls hl
  obtain ⟨hx, hb, hr, hml, hown, hts, hlocks, hin⟩ := C
  have hown : s.vm.findClass R_M = some m.cls := hown
  have hP : va_P (dC, dI) CL [] s.heap := hP
  have hl : lv_has ls 1 [(0, .int (iI ch))] := hl
  refine lv_iload_n hx hb d_M_small_0 rfl (lv_at hl 0 rfl) ?_
  refine lv_bipush (v := iI 65) hx hb d_M_small_1 (by decide) ?_
  refine li_icmp_lt (tgt := 19) hx hb d_M_small_3 (by decide) (by omega) (by omega) (fun c1 => ?_) (fun c1 => ?_)
  · have _q := c1
    refine lv_iload_n hx hb d_M_small_19 rfl (lv_at hl 0 rfl) ?_
    exact fin _ _ _ (by unfold sml; split <;> omega) d_M_small_20
  · have _q := c1
    refine lv_iload_n hx hb d_M_small_6 rfl (lv_at hl 0 rfl) ?_
    refine lv_bipush (v := iI 90) hx hb d_M_small_7 (by decide) ?_
    refine li_icmp_gt (tgt := 19) hx hb d_M_small_9 (by decide) (by omega) (by omega) (fun c2 => ?_) (fun c2 => ?_)
    · have _q := c2
      refine lv_iload_n hx hb d_M_small_19 rfl (lv_at hl 0 rfl) ?_
      exact fin _ _ _ (by unfold sml; split <;> omega) d_M_small_20
    · have _q := c2
      refine lv_iload_n hx hb d_M_small_12 rfl (lv_at hl 0 rfl) ?_
      refine lv_bipush (v := iI 32) hx hb d_M_small_13 (by decide) ?_
      refine li_iadd hx hb d_M_small_15 ?_
      refine lv_goto (tgt := 20) hx hb d_M_small_16 (by decide) ?_
      exact fin _ _ _ (by unfold sml; split <;> omega) d_M_small_20
theorem d_M_isText_0 : decode b_M_isText 0 = .ok (.iload_n 0, 1) := by decide +kernel
theorem d_M_isText_1 : decode b_M_isText 1 = .ok (.bipush 32, 2) := by decide +kernel
theorem d_M_isText_3 : decode b_M_isText 3 = .ok (.if_icmp .lt 13, 3) := by decide +kernel
theorem d_M_isText_6 : decode b_M_isText 6 = .ok (.iload_n 0, 1) := by decide +kernel
theorem d_M_isText_7 : decode b_M_isText 7 = .ok (.bipush 126, 2) := by decide +kernel
theorem d_M_isText_9 : decode b_M_isText 9 = .ok (.if_icmp .gt 7, 3) := by decide +kernel
theorem d_M_isText_12 : decode b_M_isText 12 = .ok (.iconst 1, 1) := by decide +kernel
theorem d_M_isText_13 : decode b_M_isText 13 = .ok (.goto 4, 3) := by decide +kernel
theorem d_M_isText_16 : decode b_M_isText 16 = .ok (.iconst 0, 1) := by decide +kernel
theorem d_M_isText_17 : decode b_M_isText 17 = .ok (.ireturn, 1) := by decide +kernel
set_option maxHeartbeats 4000000 in
set_option maxRecDepth 100000 in
theorem c_M_isText (l : Launch) (dC : Nat → ClassId) (dI : Nat → Nat → Nat) (kA : Nat → ClassId) (ch : Int) (hc : -2147483648 ≤ ch ∧ ch < 2147483648) : Met l y_M_isText (wsy y_M_isText b_M_isText 1 (some .boolean)) (rmd 0 0 0) (li_Pr (dC, dI) CL (TY kA) [.int (iI ch)] (va_P (dC, dI) CL [])) (k2_QcV (.int (iI (bI (isTxt ch))))) 0 0 (fun _ => False) := by
  refine li_mr (by decide) (Nat.le_of_ble_eq_true rfl) (by exact li_narZ2 _) ?_
  intro p e s m args below meth c Q C hP hK hN hG fin ls hl
  obtain ⟨hx, hb, hr, hml, hown, hts, hlocks, hin⟩ := C
  have hown : s.vm.findClass R_M = some m.cls := hown
  have hP : va_P (dC, dI) CL [] s.heap := hP
  have hl : lv_has ls 1 [(0, .int (iI ch))] := hl
  refine lv_iload_n hx hb d_M_isText_0 rfl (lv_at hl 0 rfl) ?_
  refine lv_bipush (v := iI 32) hx hb d_M_isText_1 (by decide) ?_
  refine li_icmp_lt (tgt := 16) hx hb d_M_isText_3 (by decide) (by omega) (by omega) (fun c1 => ?_) (fun c1 => ?_)
  · have _q := c1
    refine lv_iconst (v := iI 0) hx hb d_M_isText_16 rfl ?_
    exact fin _ _ _ (by first | exact bI_t (decide_eq_true (by omega)) | exact bI_f (decide_eq_false (by omega))) d_M_isText_17
  · have _q := c1
    refine lv_iload_n hx hb d_M_isText_6 rfl (lv_at hl 0 rfl) ?_
    refine lv_bipush (v := iI 126) hx hb d_M_isText_7 (by decide) ?_
    refine li_icmp_gt (tgt := 16) hx hb d_M_isText_9 (by decide) (by omega) (by omega) (fun c2 => ?_) (fun c2 => ?_)
    · have _q := c2
      refine lv_iconst (v := iI 0) hx hb d_M_isText_16 rfl ?_
      exact fin _ _ _ (by first | exact bI_t (decide_eq_true (by omega)) | exact bI_f (decide_eq_false (by omega))) d_M_isText_17
    · have _q := c2
      refine lv_iconst (v := iI 1) hx hb d_M_isText_12 rfl ?_
      refine lv_goto (tgt := 17) hx hb d_M_isText_13 (by decide) ?_
      exact fin _ _ _ (by first | exact bI_t (decide_eq_true (by omega)) | exact bI_f (decide_eq_false (by omega))) d_M_isText_17
theorem d_M_isOf_0 : decode b_M_isOf 0 = .ok (.iload_n 0, 1) := by decide +kernel
theorem d_M_isOf_1 : decode b_M_isOf 1 = .ok (.tableswitch 125 0 4 #[35, 37, 62, 87, 106], 35) := by decide +kernel
theorem d_M_isOf_36 : decode b_M_isOf 36 = .ok (.iconst 1, 1) := by decide +kernel
theorem d_M_isOf_37 : decode b_M_isOf 37 = .ok (.ireturn, 1) := by decide +kernel
theorem d_M_isOf_38 : decode b_M_isOf 38 = .ok (.iload_n 1, 1) := by decide +kernel
theorem d_M_isOf_39 : decode b_M_isOf 39 = .ok (.sipush 245, 3) := by decide +kernel
theorem d_M_isOf_42 : decode b_M_isOf 42 = .ok (.if_icmp .ne 19, 3) := by decide +kernel
theorem d_M_isOf_45 : decode b_M_isOf 45 = .ok (.iload_n 2, 1) := by decide +kernel
theorem d_M_isOf_46 : decode b_M_isOf 46 = .ok (.bipush 97, 2) := by decide +kernel
theorem d_M_isOf_48 : decode b_M_isOf 48 = .ok (.if_icmp .eq 9, 3) := by decide +kernel
theorem d_M_isOf_51 : decode b_M_isOf 51 = .ok (.iload_n 2, 1) := by decide +kernel
theorem d_M_isOf_52 : decode b_M_isOf 52 = .ok (.bipush 98, 2) := by decide +kernel
theorem d_M_isOf_54 : decode b_M_isOf 54 = .ok (.if_icmp .ne 7, 3) := by decide +kernel
theorem d_M_isOf_57 : decode b_M_isOf 57 = .ok (.iconst 1, 1) := by decide +kernel
theorem d_M_isOf_58 : decode b_M_isOf 58 = .ok (.goto 4, 3) := by decide +kernel
theorem d_M_isOf_61 : decode b_M_isOf 61 = .ok (.iconst 0, 1) := by decide +kernel
theorem d_M_isOf_62 : decode b_M_isOf 62 = .ok (.ireturn, 1) := by decide +kernel
theorem d_M_isOf_63 : decode b_M_isOf 63 = .ok (.iload_n 1, 1) := by decide +kernel
theorem d_M_isOf_64 : decode b_M_isOf 64 = .ok (.bipush 100, 2) := by decide +kernel
theorem d_M_isOf_66 : decode b_M_isOf 66 = .ok (.if_icmp .eq 10, 3) := by decide +kernel
theorem d_M_isOf_69 : decode b_M_isOf 69 = .ok (.iload_n 1, 1) := by decide +kernel
theorem d_M_isOf_70 : decode b_M_isOf 70 = .ok (.sipush 700, 3) := by decide +kernel
theorem d_M_isOf_73 : decode b_M_isOf 73 = .ok (.if_icmp .ne 13, 3) := by decide +kernel
theorem d_M_isOf_76 : decode b_M_isOf 76 = .ok (.iload_n 2, 1) := by decide +kernel
theorem d_M_isOf_77 : decode b_M_isOf 77 = .ok (.bipush 97, 2) := by decide +kernel
theorem d_M_isOf_79 : decode b_M_isOf 79 = .ok (.if_icmp .ne 7, 3) := by decide +kernel
theorem d_M_isOf_82 : decode b_M_isOf 82 = .ok (.iconst 1, 1) := by decide +kernel
theorem d_M_isOf_83 : decode b_M_isOf 83 = .ok (.goto 4, 3) := by decide +kernel
theorem d_M_isOf_86 : decode b_M_isOf 86 = .ok (.iconst 0, 1) := by decide +kernel
theorem d_M_isOf_87 : decode b_M_isOf 87 = .ok (.ireturn, 1) := by decide +kernel
theorem d_M_isOf_88 : decode b_M_isOf 88 = .ok (.iload_n 1, 1) := by decide +kernel
theorem d_M_isOf_89 : decode b_M_isOf 89 = .ok (.sipush 650, 3) := by decide +kernel
theorem d_M_isOf_92 : decode b_M_isOf 92 = .ok (.if_icmp .ne 13, 3) := by decide +kernel
theorem d_M_isOf_95 : decode b_M_isOf 95 = .ok (.iload_n 2, 1) := by decide +kernel
theorem d_M_isOf_96 : decode b_M_isOf 96 = .ok (.bipush 97, 2) := by decide +kernel
theorem d_M_isOf_98 : decode b_M_isOf 98 = .ok (.if_icmp .ne 7, 3) := by decide +kernel
theorem d_M_isOf_101 : decode b_M_isOf 101 = .ok (.iconst 1, 1) := by decide +kernel
theorem d_M_isOf_102 : decode b_M_isOf 102 = .ok (.goto 4, 3) := by decide +kernel
theorem d_M_isOf_105 : decode b_M_isOf 105 = .ok (.iconst 0, 1) := by decide +kernel
theorem d_M_isOf_106 : decode b_M_isOf 106 = .ok (.ireturn, 1) := by decide +kernel
theorem d_M_isOf_107 : decode b_M_isOf 107 = .ok (.iload_n 1, 1) := by decide +kernel
theorem d_M_isOf_108 : decode b_M_isOf 108 = .ok (.sipush 260, 3) := by decide +kernel
theorem d_M_isOf_111 : decode b_M_isOf 111 = .ok (.if_icmp .ne 13, 3) := by decide +kernel
theorem d_M_isOf_114 : decode b_M_isOf 114 = .ok (.iload_n 2, 1) := by decide +kernel
theorem d_M_isOf_115 : decode b_M_isOf 115 = .ok (.bipush 99, 2) := by decide +kernel
theorem d_M_isOf_117 : decode b_M_isOf 117 = .ok (.if_icmp .ne 7, 3) := by decide +kernel
theorem d_M_isOf_120 : decode b_M_isOf 120 = .ok (.iconst 1, 1) := by decide +kernel
theorem d_M_isOf_121 : decode b_M_isOf 121 = .ok (.goto 4, 3) := by decide +kernel
theorem d_M_isOf_124 : decode b_M_isOf 124 = .ok (.iconst 0, 1) := by decide +kernel
theorem d_M_isOf_125 : decode b_M_isOf 125 = .ok (.ireturn, 1) := by decide +kernel
theorem d_M_isOf_126 : decode b_M_isOf 126 = .ok (.iconst 0, 1) := by decide +kernel
theorem d_M_isOf_127 : decode b_M_isOf 127 = .ok (.ireturn, 1) := by decide +kernel
set_option maxHeartbeats 4000000 in
set_option maxRecDepth 100000 in
theorem c_M_isOf (l : Launch) (dC : Nat → ClassId) (dI : Nat → Nat → Nat) (kA : Nat → ClassId) (ix : Int) (tag : Int) (cd : Int) (hix : -2147483648 ≤ ix ∧ ix < 2147483648) (htag : -2147483648 ≤ tag ∧ tag < 2147483648) (hcd : -2147483648 ≤ cd ∧ cd < 2147483648) : Met l y_M_isOf (wsy y_M_isOf b_M_isOf 3 (some .boolean)) (rmd 0 0 0) (li_Pr (dC, dI) CL (TY kA) [.int (iI ix), .int (iI tag), .int (iI cd)] (va_P (dC, dI) CL [])) (k2_QcV (.int (iI (bI (isOfF ix tag cd))))) 0 0 (fun _ => False) := by
  refine li_mr (by decide) (Nat.le_of_ble_eq_true rfl) (by exact li_narZ2 _) ?_
  intro p e s m args below meth c Q C hP hK hN hG fin ls hl
  obtain ⟨hx, hb, hr, hml, hown, hts, hlocks, hin⟩ := C
  have hown : s.vm.findClass R_M = some m.cls := hown
  have hP : va_P (dC, dI) CL [] s.heap := hP
  have hl : lv_has ls 3 [(0, .int (iI ix)), (1, .int (iI tag)), (2, .int (iI cd))] := hl
  refine lv_iload_n hx hb d_M_isOf_0 rfl (lv_at hl 0 rfl) ?_
  by_cases w1 : ix = 0
  · refine li_to (z := 0) w1 ?_
    refine lv_tableIn (x := iI 0) (off := 35) (tgt := 36) hx hb d_M_isOf_1 (by decide) (by decide) (by decide) (by decide) ?_
    refine lv_iconst (v := iI 1) hx hb d_M_isOf_36 rfl ?_
    exact fin _ _ _ (by first | exact bI_t (decide_eq_true (by omega)) | exact bI_f (decide_eq_false (by omega))) d_M_isOf_37
  by_cases w2 : ix = 1
  · refine li_to (z := 1) w2 ?_
    refine lv_tableIn (x := iI 1) (off := 37) (tgt := 38) hx hb d_M_isOf_1 (by decide) (by decide) (by decide) (by decide) ?_
    refine lv_iload_n hx hb d_M_isOf_38 rfl (lv_at hl 1 rfl) ?_
    refine lv_sipush (v := iI 245) hx hb d_M_isOf_39 (by decide) ?_
    refine li_icmp_ne (tgt := 61) hx hb d_M_isOf_42 (by decide) (by omega) (by omega) (fun c3 => ?_) (fun c3 => ?_)
    · have _q := c3
      refine lv_iconst (v := iI 0) hx hb d_M_isOf_61 rfl ?_
      exact fin _ _ _ (by first | exact bI_t (decide_eq_true (by omega)) | exact bI_f (decide_eq_false (by omega))) d_M_isOf_62
    · have _q := c3
      refine lv_iload_n hx hb d_M_isOf_45 rfl (lv_at hl 2 rfl) ?_
      refine lv_bipush (v := iI 97) hx hb d_M_isOf_46 (by decide) ?_
      refine li_icmp_eq (tgt := 57) hx hb d_M_isOf_48 (by decide) (by omega) (by omega) (fun c4 => ?_) (fun c4 => ?_)
      · have _q := c4
        refine lv_iconst (v := iI 1) hx hb d_M_isOf_57 rfl ?_
        refine lv_goto (tgt := 62) hx hb d_M_isOf_58 (by decide) ?_
        exact fin _ _ _ (by first | exact bI_t (decide_eq_true (by omega)) | exact bI_f (decide_eq_false (by omega))) d_M_isOf_62
      · have _q := c4
        refine lv_iload_n hx hb d_M_isOf_51 rfl (lv_at hl 2 rfl) ?_
        refine lv_bipush (v := iI 98) hx hb d_M_isOf_52 (by decide) ?_
        refine li_icmp_ne (tgt := 61) hx hb d_M_isOf_54 (by decide) (by omega) (by omega) (fun c5 => ?_) (fun c5 => ?_)
        · have _q := c5
          refine lv_iconst (v := iI 0) hx hb d_M_isOf_61 rfl ?_
          exact fin _ _ _ (by first | exact bI_t (decide_eq_true (by omega)) | exact bI_f (decide_eq_false (by omega))) d_M_isOf_62
        · have _q := c5
          refine lv_iconst (v := iI 1) hx hb d_M_isOf_57 rfl ?_
          refine lv_goto (tgt := 62) hx hb d_M_isOf_58 (by decide) ?_
          exact fin _ _ _ (by first | exact bI_t (decide_eq_true (by omega)) | exact bI_f (decide_eq_false (by omega))) d_M_isOf_62
  by_cases w6 : ix = 2
  · refine li_to (z := 2) w6 ?_
    refine lv_tableIn (x := iI 2) (off := 62) (tgt := 63) hx hb d_M_isOf_1 (by decide) (by decide) (by decide) (by decide) ?_
    refine lv_iload_n hx hb d_M_isOf_63 rfl (lv_at hl 1 rfl) ?_
    refine lv_bipush (v := iI 100) hx hb d_M_isOf_64 (by decide) ?_
    refine li_icmp_eq (tgt := 76) hx hb d_M_isOf_66 (by decide) (by omega) (by omega) (fun c7 => ?_) (fun c7 => ?_)
    · have _q := c7
      refine lv_iload_n hx hb d_M_isOf_76 rfl (lv_at hl 2 rfl) ?_
      refine lv_bipush (v := iI 97) hx hb d_M_isOf_77 (by decide) ?_
      refine li_icmp_ne (tgt := 86) hx hb d_M_isOf_79 (by decide) (by omega) (by omega) (fun c8 => ?_) (fun c8 => ?_)
      · have _q := c8
        refine lv_iconst (v := iI 0) hx hb d_M_isOf_86 rfl ?_
        exact fin _ _ _ (by first | exact bI_t (decide_eq_true (by omega)) | exact bI_f (decide_eq_false (by omega))) d_M_isOf_87
      · have _q := c8
        refine lv_iconst (v := iI 1) hx hb d_M_isOf_82 rfl ?_
        refine lv_goto (tgt := 87) hx hb d_M_isOf_83 (by decide) ?_
        exact fin _ _ _ (by first | exact bI_t (decide_eq_true (by omega)) | exact bI_f (decide_eq_false (by omega))) d_M_isOf_87
    · have _q := c7
      refine lv_iload_n hx hb d_M_isOf_69 rfl (lv_at hl 1 rfl) ?_
      refine lv_sipush (v := iI 700) hx hb d_M_isOf_70 (by decide) ?_
      refine li_icmp_ne (tgt := 86) hx hb d_M_isOf_73 (by decide) (by omega) (by omega) (fun c9 => ?_) (fun c9 => ?_)
      · have _q := c9
        refine lv_iconst (v := iI 0) hx hb d_M_isOf_86 rfl ?_
        exact fin _ _ _ (by first | exact bI_t (decide_eq_true (by omega)) | exact bI_f (decide_eq_false (by omega))) d_M_isOf_87
      · have _q := c9
        refine lv_iload_n hx hb d_M_isOf_76 rfl (lv_at hl 2 rfl) ?_
        refine lv_bipush (v := iI 97) hx hb d_M_isOf_77 (by decide) ?_
        refine li_icmp_ne (tgt := 86) hx hb d_M_isOf_79 (by decide) (by omega) (by omega) (fun c10 => ?_) (fun c10 => ?_)
        · have _q := c10
          refine lv_iconst (v := iI 0) hx hb d_M_isOf_86 rfl ?_
          exact fin _ _ _ (by first | exact bI_t (decide_eq_true (by omega)) | exact bI_f (decide_eq_false (by omega))) d_M_isOf_87
        · have _q := c10
          refine lv_iconst (v := iI 1) hx hb d_M_isOf_82 rfl ?_
          refine lv_goto (tgt := 87) hx hb d_M_isOf_83 (by decide) ?_
          exact fin _ _ _ (by first | exact bI_t (decide_eq_true (by omega)) | exact bI_f (decide_eq_false (by omega))) d_M_isOf_87
  by_cases w11 : ix = 3
  · refine li_to (z := 3) w11 ?_
    refine lv_tableIn (x := iI 3) (off := 87) (tgt := 88) hx hb d_M_isOf_1 (by decide) (by decide) (by decide) (by decide) ?_
    refine lv_iload_n hx hb d_M_isOf_88 rfl (lv_at hl 1 rfl) ?_
    refine lv_sipush (v := iI 650) hx hb d_M_isOf_89 (by decide) ?_
    refine li_icmp_ne (tgt := 105) hx hb d_M_isOf_92 (by decide) (by omega) (by omega) (fun c12 => ?_) (fun c12 => ?_)
    · have _q := c12
      refine lv_iconst (v := iI 0) hx hb d_M_isOf_105 rfl ?_
      exact fin _ _ _ (by first | exact bI_t (decide_eq_true (by omega)) | exact bI_f (decide_eq_false (by omega))) d_M_isOf_106
    · have _q := c12
      refine lv_iload_n hx hb d_M_isOf_95 rfl (lv_at hl 2 rfl) ?_
      refine lv_bipush (v := iI 97) hx hb d_M_isOf_96 (by decide) ?_
      refine li_icmp_ne (tgt := 105) hx hb d_M_isOf_98 (by decide) (by omega) (by omega) (fun c13 => ?_) (fun c13 => ?_)
      · have _q := c13
        refine lv_iconst (v := iI 0) hx hb d_M_isOf_105 rfl ?_
        exact fin _ _ _ (by first | exact bI_t (decide_eq_true (by omega)) | exact bI_f (decide_eq_false (by omega))) d_M_isOf_106
      · have _q := c13
        refine lv_iconst (v := iI 1) hx hb d_M_isOf_101 rfl ?_
        refine lv_goto (tgt := 106) hx hb d_M_isOf_102 (by decide) ?_
        exact fin _ _ _ (by first | exact bI_t (decide_eq_true (by omega)) | exact bI_f (decide_eq_false (by omega))) d_M_isOf_106
  by_cases w14 : ix = 4
  · refine li_to (z := 4) w14 ?_
    refine lv_tableIn (x := iI 4) (off := 106) (tgt := 107) hx hb d_M_isOf_1 (by decide) (by decide) (by decide) (by decide) ?_
    refine lv_iload_n hx hb d_M_isOf_107 rfl (lv_at hl 1 rfl) ?_
    refine lv_sipush (v := iI 260) hx hb d_M_isOf_108 (by decide) ?_
    refine li_icmp_ne (tgt := 124) hx hb d_M_isOf_111 (by decide) (by omega) (by omega) (fun c15 => ?_) (fun c15 => ?_)
    · have _q := c15
      refine lv_iconst (v := iI 0) hx hb d_M_isOf_124 rfl ?_
      exact fin _ _ _ (by first | exact bI_t (decide_eq_true (by omega)) | exact bI_f (decide_eq_false (by omega))) d_M_isOf_125
    · have _q := c15
      refine lv_iload_n hx hb d_M_isOf_114 rfl (lv_at hl 2 rfl) ?_
      refine lv_bipush (v := iI 99) hx hb d_M_isOf_115 (by decide) ?_
      refine li_icmp_ne (tgt := 124) hx hb d_M_isOf_117 (by decide) (by omega) (by omega) (fun c16 => ?_) (fun c16 => ?_)
      · have _q := c16
        refine lv_iconst (v := iI 0) hx hb d_M_isOf_124 rfl ?_
        exact fin _ _ _ (by first | exact bI_t (decide_eq_true (by omega)) | exact bI_f (decide_eq_false (by omega))) d_M_isOf_125
      · have _q := c16
        refine lv_iconst (v := iI 1) hx hb d_M_isOf_120 rfl ?_
        refine lv_goto (tgt := 125) hx hb d_M_isOf_121 (by decide) ?_
        exact fin _ _ _ (by first | exact bI_t (decide_eq_true (by omega)) | exact bI_f (decide_eq_false (by omega))) d_M_isOf_125
  refine lv_tableOut (tgt := 126) hx hb d_M_isOf_1 (by rw [iI_toInt (by omega)]; omega) (by decide) ?_
  refine lv_iconst (v := iI 0) hx hb d_M_isOf_126 rfl ?_
  exact fin _ _ _ (by first | exact bI_t (decide_eq_true (by omega)) | exact bI_f (decide_eq_false (by omega))) d_M_isOf_127
theorem d_M_isLetter_0 : decode b_M_isLetter 0 = .ok (.iload_n 0, 1) := by decide +kernel
theorem d_M_isLetter_1 : decode b_M_isLetter 1 = .ok (.invokestatic 77, 3) := by decide +kernel
theorem d_M_isLetter_4 : decode b_M_isLetter 4 = .ok (.ifCond .ne 21, 3) := by decide +kernel
theorem d_M_isLetter_7 : decode b_M_isLetter 7 = .ok (.iload_n 0, 1) := by decide +kernel
theorem d_M_isLetter_8 : decode b_M_isLetter 8 = .ok (.invokestatic 136, 3) := by decide +kernel
theorem d_M_isLetter_11 : decode b_M_isLetter 11 = .ok (.bipush 97, 2) := by decide +kernel
theorem d_M_isLetter_13 : decode b_M_isLetter 13 = .ok (.if_icmp .lt 16, 3) := by decide +kernel
theorem d_M_isLetter_16 : decode b_M_isLetter 16 = .ok (.iload_n 0, 1) := by decide +kernel
theorem d_M_isLetter_17 : decode b_M_isLetter 17 = .ok (.invokestatic 136, 3) := by decide +kernel
theorem d_M_isLetter_20 : decode b_M_isLetter 20 = .ok (.bipush 122, 2) := by decide +kernel
theorem d_M_isLetter_22 : decode b_M_isLetter 22 = .ok (.if_icmp .gt 7, 3) := by decide +kernel
theorem d_M_isLetter_25 : decode b_M_isLetter 25 = .ok (.iconst 1, 1) := by decide +kernel
theorem d_M_isLetter_26 : decode b_M_isLetter 26 = .ok (.goto 4, 3) := by decide +kernel
theorem d_M_isLetter_29 : decode b_M_isLetter 29 = .ok (.iconst 0, 1) := by decide +kernel
theorem d_M_isLetter_30 : decode b_M_isLetter 30 = .ok (.ireturn, 1) := by decide +kernel
set_option maxHeartbeats 4000000 in
set_option maxRecDepth 100000 in
theorem c_M_isLetter (l : Launch) (dC : Nat → ClassId) (dI : Nat → Nat → Nat) (kA : Nat → ClassId) (ch : Int) (hc : -2147483648 ≤ ch ∧ ch < 2147483648) : Met l y_M_isLetter (wsy y_M_isLetter b_M_isLetter 1 (some .boolean)) (rmd 1 0 0) (li_Pr (dC, dI) CL (TY kA) [.int (iI ch)] (va_P (dC, dI) CL [])) (k2_QcV (.int (iI (bI (isLet ch))))) 0 0 (fun _ => False) := by
  refine li_mr (by decide) (Nat.le_of_ble_eq_true rfl) (by exact li_narZ2 _) ?_
  intro p e s m args below meth c Q C hP hK hN hG fin ls hl
  obtain ⟨hx, hb, hr, hml, hown, hts, hlocks, hin⟩ := C
  have hown : s.vm.findClass R_M = some m.cls := hown
  have hP : va_P (dC, dI) CL [] s.heap := hP
  have hl : lv_has ls 1 [(0, .int (iI ch))] := hl
  refine lv_iload_n hx hb d_M_isLetter_0 rfl (lv_at hl 0 rfl) ?_
  refine li_callr ((va_runS (As := [.int (iI ch)]) (rest := []) ⟨hx, hb, hml, hown, hts⟩ (c_M_isDigit l dC dI kA ch (by omega)) (cw_M_77 hts rfl rfl ⟨by decide, by decide⟩) (li_preS (hP.sub [] rfl) hK hN hG.rd) rfl rfl hl.1 rfl (lv_room (Nat.le_of_ble_eq_true rfl)) d_M_isLetter_1 ⟨by decide, by decide⟩).run) ?_
  refine li_bnz (tgt := 25) hx hb d_M_isLetter_4 (by decide) (fun c1 => ?_) (fun c1 => ?_)
  · have _q := c1
    refine lv_iconst (v := iI 1) hx hb d_M_isLetter_25 rfl ?_
    refine lv_goto (tgt := 30) hx hb d_M_isLetter_26 (by decide) ?_
    exact fin _ _ _ (by first | exact bI_t (decide_eq_true (by omega)) | exact bI_f (decide_eq_false (by omega)) | (exact bI_t (decide_eq_true (by have := of_decide_eq_true c1; omega))) | (exact bI_t (decide_eq_true (by have := of_decide_eq_false c1; omega))) | (exact bI_f (decide_eq_false (by have := of_decide_eq_false c1; omega)))) d_M_isLetter_30
  · have _q := c1
    refine lv_iload_n hx hb d_M_isLetter_7 rfl (lv_at hl 0 rfl) ?_
    refine li_callr ((va_runS (As := [.int (iI ch)]) (rest := []) ⟨hx, hb, hml, hown, hts⟩ (c_M_small l dC dI kA ch (by omega)) (cw_M_136 hts rfl rfl ⟨by decide, by decide⟩) (li_preS (hP.sub [] rfl) hK hN hG.rd) rfl rfl hl.1 rfl (lv_room (Nat.le_of_ble_eq_true rfl)) d_M_isLetter_8 ⟨by decide, by decide⟩).run) ?_
    refine lv_bipush (v := iI 97) hx hb d_M_isLetter_11 (by decide) ?_
    refine li_icmp_lt (tgt := 29) hx hb d_M_isLetter_13 (by decide) (by first | omega | (have := sml_b hc; omega)) (by first | omega | (have := sml_b hc; omega)) (fun c2 => ?_) (fun c2 => ?_)
    · have _q := c2
      refine lv_iconst (v := iI 0) hx hb d_M_isLetter_29 rfl ?_
      exact fin _ _ _ (by first | exact bI_t (decide_eq_true (by omega)) | exact bI_f (decide_eq_false (by omega)) | (exact bI_t (decide_eq_true (by have := of_decide_eq_true c1; omega))) | (exact bI_t (decide_eq_true (by have := of_decide_eq_false c1; omega))) | (exact bI_f (decide_eq_false (by have := of_decide_eq_false c1; omega)))) d_M_isLetter_30
    · have _q := c2
      refine lv_iload_n hx hb d_M_isLetter_16 rfl (lv_at hl 0 rfl) ?_
      refine li_callr ((va_runS (As := [.int (iI ch)]) (rest := []) ⟨hx, hb, hml, hown, hts⟩ (c_M_small l dC dI kA ch (by omega)) (cw_M_136 hts rfl rfl ⟨by decide, by decide⟩) (li_preS (hP.sub [] rfl) hK hN hG.rd) rfl rfl hl.1 rfl (lv_room (Nat.le_of_ble_eq_true rfl)) d_M_isLetter_17 ⟨by decide, by decide⟩).run) ?_
      refine lv_bipush (v := iI 122) hx hb d_M_isLetter_20 (by decide) ?_
      refine li_icmp_gt (tgt := 29) hx hb d_M_isLetter_22 (by decide) (by first | omega | (have := sml_b hc; omega)) (by first | omega | (have := sml_b hc; omega)) (fun c3 => ?_) (fun c3 => ?_)
      · have _q := c3
        refine lv_iconst (v := iI 0) hx hb d_M_isLetter_29 rfl ?_
        exact fin _ _ _ (by first | exact bI_t (decide_eq_true (by omega)) | exact bI_f (decide_eq_false (by omega)) | (exact bI_t (decide_eq_true (by have := of_decide_eq_true c1; omega))) | (exact bI_t (decide_eq_true (by have := of_decide_eq_false c1; omega))) | (exact bI_f (decide_eq_false (by have := of_decide_eq_false c1; omega)))) d_M_isLetter_30
      · have _q := c3
        refine lv_iconst (v := iI 1) hx hb d_M_isLetter_25 rfl ?_
        refine lv_goto (tgt := 30) hx hb d_M_isLetter_26 (by decide) ?_
        exact fin _ _ _ (by first | exact bI_t (decide_eq_true (by omega)) | exact bI_f (decide_eq_false (by omega)) | (exact bI_t (decide_eq_true (by have := of_decide_eq_true c1; omega))) | (exact bI_t (decide_eq_true (by have := of_decide_eq_false c1; omega))) | (exact bI_f (decide_eq_false (by have := of_decide_eq_false c1; omega)))) d_M_isLetter_30
theorem d_M_isNameSign_0 : decode b_M_isNameSign 0 = .ok (.iload_n 0, 1) := by decide +kernel
theorem d_M_isNameSign_1 : decode b_M_isNameSign 1 = .ok (.bipush 32, 2) := by decide +kernel
theorem d_M_isNameSign_3 : decode b_M_isNameSign 3 = .ok (.if_icmp .eq 49, 3) := by decide +kernel
theorem d_M_isNameSign_6 : decode b_M_isNameSign 6 = .ok (.iload_n 0, 1) := by decide +kernel
theorem d_M_isNameSign_7 : decode b_M_isNameSign 7 = .ok (.bipush 34, 2) := by decide +kernel
theorem d_M_isNameSign_9 : decode b_M_isNameSign 9 = .ok (.if_icmp .eq 43, 3) := by decide +kernel
theorem d_M_isNameSign_12 : decode b_M_isNameSign 12 = .ok (.iload_n 0, 1) := by decide +kernel
theorem d_M_isNameSign_13 : decode b_M_isNameSign 13 = .ok (.bipush 40, 2) := by decide +kernel
theorem d_M_isNameSign_15 : decode b_M_isNameSign 15 = .ok (.if_icmp .eq 37, 3) := by decide +kernel
theorem d_M_isNameSign_18 : decode b_M_isNameSign 18 = .ok (.iload_n 0, 1) := by decide +kernel
theorem d_M_isNameSign_19 : decode b_M_isNameSign 19 = .ok (.bipush 41, 2) := by decide +kernel
theorem d_M_isNameSign_21 : decode b_M_isNameSign 21 = .ok (.if_icmp .eq 31, 3) := by decide +kernel
theorem d_M_isNameSign_24 : decode b_M_isNameSign 24 = .ok (.iload_n 0, 1) := by decide +kernel
theorem d_M_isNameSign_25 : decode b_M_isNameSign 25 = .ok (.bipush 47, 2) := by decide +kernel
theorem d_M_isNameSign_27 : decode b_M_isNameSign 27 = .ok (.if_icmp .eq 25, 3) := by decide +kernel
theorem d_M_isNameSign_30 : decode b_M_isNameSign 30 = .ok (.iload_n 0, 1) := by decide +kernel
theorem d_M_isNameSign_31 : decode b_M_isNameSign 31 = .ok (.bipush 60, 2) := by decide +kernel
theorem d_M_isNameSign_33 : decode b_M_isNameSign 33 = .ok (.if_icmp .eq 19, 3) := by decide +kernel
theorem d_M_isNameSign_36 : decode b_M_isNameSign 36 = .ok (.iload_n 0, 1) := by decide +kernel
theorem d_M_isNameSign_37 : decode b_M_isNameSign 37 = .ok (.bipush 61, 2) := by decide +kernel
theorem d_M_isNameSign_39 : decode b_M_isNameSign 39 = .ok (.if_icmp .eq 13, 3) := by decide +kernel
theorem d_M_isNameSign_42 : decode b_M_isNameSign 42 = .ok (.iload_n 0, 1) := by decide +kernel
theorem d_M_isNameSign_43 : decode b_M_isNameSign 43 = .ok (.bipush 62, 2) := by decide +kernel
theorem d_M_isNameSign_45 : decode b_M_isNameSign 45 = .ok (.if_icmp .eq 7, 3) := by decide +kernel
theorem d_M_isNameSign_48 : decode b_M_isNameSign 48 = .ok (.iconst 1, 1) := by decide +kernel
theorem d_M_isNameSign_49 : decode b_M_isNameSign 49 = .ok (.goto 4, 3) := by decide +kernel
theorem d_M_isNameSign_52 : decode b_M_isNameSign 52 = .ok (.iconst 0, 1) := by decide +kernel
theorem d_M_isNameSign_53 : decode b_M_isNameSign 53 = .ok (.ireturn, 1) := by decide +kernel
set_option maxHeartbeats 4000000 in
set_option maxRecDepth 100000 in
theorem c_M_isNameSign (l : Launch) (dC : Nat → ClassId) (dI : Nat → Nat → Nat) (kA : Nat → ClassId) (ch : Int) (hc : -2147483648 ≤ ch ∧ ch < 2147483648) : Met l y_M_isNameSign (wsy y_M_isNameSign b_M_isNameSign 1 (some .boolean)) (rmd 0 0 0) (li_Pr (dC, dI) CL (TY kA) [.int (iI ch)] (va_P (dC, dI) CL [])) (k2_QcV (.int (iI (bI (isNam ch))))) 0 0 (fun _ => False) := by
  refine li_mr (by decide) (Nat.le_of_ble_eq_true rfl) (by exact li_narZ2 _) ?_
  intro p e s m args below meth c Q C hP hK hN hG fin ls hl
  obtain ⟨hx, hb, hr, hml, hown, hts, hlocks, hin⟩ := C
  have hown : s.vm.findClass R_M = some m.cls := hown
  have hP : va_P (dC, dI) CL [] s.heap := hP
  have hl : lv_has ls 1 [(0, .int (iI ch))] := hl
  refine lv_iload_n hx hb d_M_isNameSign_0 rfl (lv_at hl 0 rfl) ?_
  refine lv_bipush (v := iI 32) hx hb d_M_isNameSign_1 (by decide) ?_
  refine li_icmp_eq (tgt := 52) hx hb d_M_isNameSign_3 (by decide) (by omega) (by omega) (fun c1 => ?_) (fun c1 => ?_)
  · have _q := c1
    refine lv_iconst (v := iI 0) hx hb d_M_isNameSign_52 rfl ?_
    exact fin _ _ _ (by first | exact bI_t (decide_eq_true (by omega)) | exact bI_f (decide_eq_false (by omega))) d_M_isNameSign_53
  · have _q := c1
    refine lv_iload_n hx hb d_M_isNameSign_6 rfl (lv_at hl 0 rfl) ?_
    refine lv_bipush (v := iI 34) hx hb d_M_isNameSign_7 (by decide) ?_
    refine li_icmp_eq (tgt := 52) hx hb d_M_isNameSign_9 (by decide) (by omega) (by omega) (fun c2 => ?_) (fun c2 => ?_)
    · have _q := c2
      refine lv_iconst (v := iI 0) hx hb d_M_isNameSign_52 rfl ?_
      exact fin _ _ _ (by first | exact bI_t (decide_eq_true (by omega)) | exact bI_f (decide_eq_false (by omega))) d_M_isNameSign_53
    · have _q := c2
      refine lv_iload_n hx hb d_M_isNameSign_12 rfl (lv_at hl 0 rfl) ?_
      refine lv_bipush (v := iI 40) hx hb d_M_isNameSign_13 (by decide) ?_
      refine li_icmp_eq (tgt := 52) hx hb d_M_isNameSign_15 (by decide) (by omega) (by omega) (fun c3 => ?_) (fun c3 => ?_)
      · have _q := c3
        refine lv_iconst (v := iI 0) hx hb d_M_isNameSign_52 rfl ?_
        exact fin _ _ _ (by first | exact bI_t (decide_eq_true (by omega)) | exact bI_f (decide_eq_false (by omega))) d_M_isNameSign_53
      · have _q := c3
        refine lv_iload_n hx hb d_M_isNameSign_18 rfl (lv_at hl 0 rfl) ?_
        refine lv_bipush (v := iI 41) hx hb d_M_isNameSign_19 (by decide) ?_
        refine li_icmp_eq (tgt := 52) hx hb d_M_isNameSign_21 (by decide) (by omega) (by omega) (fun c4 => ?_) (fun c4 => ?_)
        · have _q := c4
          refine lv_iconst (v := iI 0) hx hb d_M_isNameSign_52 rfl ?_
          exact fin _ _ _ (by first | exact bI_t (decide_eq_true (by omega)) | exact bI_f (decide_eq_false (by omega))) d_M_isNameSign_53
        · have _q := c4
          refine lv_iload_n hx hb d_M_isNameSign_24 rfl (lv_at hl 0 rfl) ?_
          refine lv_bipush (v := iI 47) hx hb d_M_isNameSign_25 (by decide) ?_
          refine li_icmp_eq (tgt := 52) hx hb d_M_isNameSign_27 (by decide) (by omega) (by omega) (fun c5 => ?_) (fun c5 => ?_)
          · have _q := c5
            refine lv_iconst (v := iI 0) hx hb d_M_isNameSign_52 rfl ?_
            exact fin _ _ _ (by first | exact bI_t (decide_eq_true (by omega)) | exact bI_f (decide_eq_false (by omega))) d_M_isNameSign_53
          · have _q := c5
            refine lv_iload_n hx hb d_M_isNameSign_30 rfl (lv_at hl 0 rfl) ?_
            refine lv_bipush (v := iI 60) hx hb d_M_isNameSign_31 (by decide) ?_
            refine li_icmp_eq (tgt := 52) hx hb d_M_isNameSign_33 (by decide) (by omega) (by omega) (fun c6 => ?_) (fun c6 => ?_)
            · have _q := c6
              refine lv_iconst (v := iI 0) hx hb d_M_isNameSign_52 rfl ?_
              exact fin _ _ _ (by first | exact bI_t (decide_eq_true (by omega)) | exact bI_f (decide_eq_false (by omega))) d_M_isNameSign_53
            · have _q := c6
              refine lv_iload_n hx hb d_M_isNameSign_36 rfl (lv_at hl 0 rfl) ?_
              refine lv_bipush (v := iI 61) hx hb d_M_isNameSign_37 (by decide) ?_
              refine li_icmp_eq (tgt := 52) hx hb d_M_isNameSign_39 (by decide) (by omega) (by omega) (fun c7 => ?_) (fun c7 => ?_)
              · have _q := c7
                refine lv_iconst (v := iI 0) hx hb d_M_isNameSign_52 rfl ?_
                exact fin _ _ _ (by first | exact bI_t (decide_eq_true (by omega)) | exact bI_f (decide_eq_false (by omega))) d_M_isNameSign_53
              · have _q := c7
                refine lv_iload_n hx hb d_M_isNameSign_42 rfl (lv_at hl 0 rfl) ?_
                refine lv_bipush (v := iI 62) hx hb d_M_isNameSign_43 (by decide) ?_
                refine li_icmp_eq (tgt := 52) hx hb d_M_isNameSign_45 (by decide) (by omega) (by omega) (fun c8 => ?_) (fun c8 => ?_)
                · have _q := c8
                  refine lv_iconst (v := iI 0) hx hb d_M_isNameSign_52 rfl ?_
                  exact fin _ _ _ (by first | exact bI_t (decide_eq_true (by omega)) | exact bI_f (decide_eq_false (by omega))) d_M_isNameSign_53
                · have _q := c8
                  refine lv_iconst (v := iI 1) hx hb d_M_isNameSign_48 rfl ?_
                  refine lv_goto (tgt := 53) hx hb d_M_isNameSign_49 (by decide) ?_
                  exact fin _ _ _ (by first | exact bI_t (decide_eq_true (by omega)) | exact bI_f (decide_eq_false (by omega))) d_M_isNameSign_53

def R_N : String := "java/lang/Integer"
theorem ii_N : Cond.initialized R_N ∈ TB := tk1 23 rfl rfl
abbrev b_N_compare : ByteArray := prog_17_method_40_code
def y_N_compare : MethodName := ⟨R_N, "compare", "(II)I"⟩
theorem k_N_compare : Cond.code y_N_compare b_N_compare 2 (some .int) ∈ TB := tk4 60 rfl rfl
theorem cw_S_35 {R : Room} {s : State} {args : Array Value} {rm : Room} {mc ms : Nat} (hts : ∀ w ∈ TB, w.before args s = true) (hrc : rm.cells = mc) (hrs : rm.slots = ms) (hR : rm.frames + 1 ≤ R.frames ∧ 8 + (2 + 11) + rm.locals ≤ R.locals) : CallB R s args R_S 35 y_N_compare b_N_compare 2 (some .int) (wsy y_N_compare b_N_compare 2 (some .int)) rm mc ms 2 ∧ (Cond.static y_N_compare).before args s = true := va_cwS 2 hts (giS (tk4 58 rfl rfl) (tk4 59 rfl rfl) ii_N k_N_compare) rfl hrc hrs (by decide +kernel) hR
theorem cw_W_74 {R : Room} {s : State} {args : Array Value} {rm : Room} {mc ms : Nat} (hts : ∀ w ∈ TB, w.before args s = true) (hrc : rm.cells = mc) (hrs : rm.slots = ms) (hR : rm.frames + 1 ≤ R.frames ∧ 8 + (2 + 11) + rm.locals ≤ R.locals) : CallB R s args R_W 74 y_N_compare b_N_compare 2 (some .int) (wsy y_N_compare b_N_compare 2 (some .int)) rm mc ms 2 ∧ (Cond.static y_N_compare).before args s = true := va_cwS 2 hts (giS (tk4 71 rfl rfl) (tk4 59 rfl rfl) ii_N k_N_compare) rfl hrc hrs (by decide +kernel) hR
def icmp (x y : Int) : Int := if x < y then -1 else if x = y then 0 else 1
theorem d_N_compare_0 : decode b_N_compare 0 = .ok (.iload_n 0, 1) := by decide +kernel
theorem d_N_compare_1 : decode b_N_compare 1 = .ok (.iload_n 1, 1) := by decide +kernel
theorem d_N_compare_2 : decode b_N_compare 2 = .ok (.if_icmp .ge 7, 3) := by decide +kernel
theorem d_N_compare_5 : decode b_N_compare 5 = .ok (.iconst (-1), 1) := by decide +kernel
theorem d_N_compare_6 : decode b_N_compare 6 = .ok (.goto 13, 3) := by decide +kernel
theorem d_N_compare_9 : decode b_N_compare 9 = .ok (.iload_n 0, 1) := by decide +kernel
theorem d_N_compare_10 : decode b_N_compare 10 = .ok (.iload_n 1, 1) := by decide +kernel
theorem d_N_compare_11 : decode b_N_compare 11 = .ok (.if_icmp .ne 7, 3) := by decide +kernel
theorem d_N_compare_14 : decode b_N_compare 14 = .ok (.iconst 0, 1) := by decide +kernel
theorem d_N_compare_15 : decode b_N_compare 15 = .ok (.goto 4, 3) := by decide +kernel
theorem d_N_compare_18 : decode b_N_compare 18 = .ok (.iconst 1, 1) := by decide +kernel
theorem d_N_compare_19 : decode b_N_compare 19 = .ok (.ireturn, 1) := by decide +kernel
set_option maxHeartbeats 4000000 in
set_option maxRecDepth 100000 in
theorem c_N_compare (l : Launch) (dC : Nat → ClassId) (dI : Nat → Nat → Nat) (kA : Nat → ClassId) (x : Int) (y : Int) (hx0 : -2147483648 ≤ x ∧ x < 2147483648) (hy0 : -2147483648 ≤ y ∧ y < 2147483648) : Met l y_N_compare (wsy y_N_compare b_N_compare 2 (some .int)) (rmd 0 0 0) (li_Pr (dC, dI) CL (TY kA) [.int (iI x), .int (iI y)] (va_P (dC, dI) CL [])) (k2_QcV (.int (iI (icmp x y)))) 0 0 (fun _ => False) := by
  refine li_mr (by decide) (Nat.le_of_ble_eq_true rfl) (by rfl) ?_
  intro p e s m args below meth c Q C hP hK hN hG fin ls hl
  obtain ⟨hx, hb, hr, hml, hown, hts, hlocks, hin⟩ := C
  have hown : s.vm.findClass R_N = some m.cls := hown
  have hP : va_P (dC, dI) CL [] s.heap := hP
  have hl : lv_has ls 2 [(0, .int (iI x)), (1, .int (iI y))] := hl
  refine lv_iload_n hx hb d_N_compare_0 rfl (lv_at hl 0 rfl) ?_
  refine lv_iload_n hx hb d_N_compare_1 rfl (lv_at hl 1 rfl) ?_
  refine li_icmp_ge (tgt := 9) hx hb d_N_compare_2 (by decide) (by omega) (by omega) (fun c1 => ?_) (fun c1 => ?_)
  · have _q := c1
    refine lv_iload_n hx hb d_N_compare_9 rfl (lv_at hl 0 rfl) ?_
    refine lv_iload_n hx hb d_N_compare_10 rfl (lv_at hl 1 rfl) ?_
    refine li_icmp_ne (tgt := 18) hx hb d_N_compare_11 (by decide) (by omega) (by omega) (fun c2 => ?_) (fun c2 => ?_)
    · have _q := c2
      refine lv_iconst (v := iI 1) hx hb d_N_compare_18 rfl ?_
      exact fin _ _ _ (by unfold icmp; repeat (first | omega | (rw [if_pos (by omega)]) | (rw [if_neg (by omega)]))) d_N_compare_19
    · have _q := c2
      refine lv_iconst (v := iI 0) hx hb d_N_compare_14 rfl ?_
      refine lv_goto (tgt := 19) hx hb d_N_compare_15 (by decide) ?_
      exact fin _ _ _ (by unfold icmp; repeat (first | omega | (rw [if_pos (by omega)]) | (rw [if_neg (by omega)]))) d_N_compare_19
  · have _q := c1
    refine lv_iconst (v := iI (-1)) hx hb d_N_compare_5 rfl ?_
    refine lv_goto (tgt := 19) hx hb d_N_compare_6 (by decide) ?_
    exact fin _ _ _ (by unfold icmp; repeat (first | omega | (rw [if_pos (by omega)]) | (rw [if_neg (by omega)]))) d_N_compare_19

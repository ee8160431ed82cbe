def R_Str : String := "java/lang/String"
theorem ii_Str : Cond.initialized R_Str ∈ TB := tk1 17 rfl rfl
def R_Lat : String := "java/lang/StringLatin1"
theorem ii_Lat : Cond.initialized R_Lat ∈ TB := tk1 18 rfl rfl
def R_Pre : String := "jdk/internal/util/Preconditions"
theorem ii_Pre : Cond.initialized R_Pre ∈ TB := tk1 19 rfl rfl
abbrev b_Str_coder : ByteArray := prog_20_method_152_code
def y_Str_coder : MethodName := ⟨R_Str, "coder", "()B"⟩
theorem k_Str_coder : Cond.code y_Str_coder b_Str_coder 1 (some .byte) ∈ TB := tk2 112 rfl rfl
abbrev b_Str_isLatin1 : ByteArray := prog_20_method_154_code
def y_Str_isLatin1 : MethodName := ⟨R_Str, "isLatin1", "()Z"⟩
theorem k_Str_isLatin1 : Cond.code y_Str_isLatin1 b_Str_isLatin1 1 (some .boolean) ∈ TB := tk2 122 rfl rfl
abbrev b_Str_length : ByteArray := prog_20_method_54_code
def y_Str_length : MethodName := ⟨R_Str, "length", "()I"⟩
theorem k_Str_length : Cond.code y_Str_length b_Str_length 1 (some .int) ∈ TB := tk2 108 rfl rfl
abbrev b_Pre_checkIndex : ByteArray := prog_26_method_11_code
def y_Pre_checkIndex : MethodName := ⟨R_Pre, "checkIndex", "(IILjava/util/function/BiFunction;)I"⟩
theorem k_Pre_checkIndex : Cond.code y_Pre_checkIndex b_Pre_checkIndex 3 (some .int) ∈ TB := tk2 133 rfl rfl
abbrev b_Str_checkIndex : ByteArray := prog_20_method_155_code
def y_Str_checkIndex : MethodName := ⟨R_Str, "checkIndex", "(II)V"⟩
theorem k_Str_checkIndex : Cond.code y_Str_checkIndex b_Str_checkIndex 2 none ∈ TB := tk2 128 rfl rfl
abbrev b_Lat_charAt : ByteArray := prog_21_method_2_code
def y_Lat_charAt : MethodName := ⟨R_Lat, "charAt", "([BI)C"⟩
theorem k_Lat_charAt : Cond.code y_Lat_charAt b_Lat_charAt 2 (some .char) ∈ TB := tk2 125 rfl rfl
abbrev b_Str_charAt : ByteArray := prog_20_method_56_code
def y_Str_charAt : MethodName := ⟨R_Str, "charAt", "(I)C"⟩
theorem k_Str_charAt : Cond.code y_Str_charAt b_Str_charAt 2 (some .char) ∈ TB := tk2 118 rfl rfl
theorem cw_I_65 {R : Room} {s : State} {args : Array Value} {rm : Room} {mc ms : Nat} (hts : ∀ w ∈ TB, w.before args s = true) (hrc : rm.cells = mc) (hrs : rm.slots = ms) (hR : rm.frames + 1 ≤ R.frames ∧ 8 + (1 + 11) + rm.locals ≤ R.locals) : CallW R s args R_I R_Str 65 y_Str_length b_Str_length 1 (some .int) (wsy y_Str_length b_Str_length 1 (some .int)) rm mc ms 0 := cwV 0 hts (giV (tk2 105 rfl rfl) (tk2 106 rfl rfl) (tk2 107 rfl rfl) ii_Str k_Str_length) rfl hrc hrs (by decide +kernel) hR
theorem cw_Str_335 {R : Room} {s : State} {args : Array Value} {rm : Room} {mc ms : Nat} (hts : ∀ w ∈ TB, w.before args s = true) (hrc : rm.cells = mc) (hrs : rm.slots = ms) (hR : rm.frames + 1 ≤ R.frames ∧ 8 + (1 + 11) + rm.locals ≤ R.locals) : CallW R s args R_Str R_Str 335 y_Str_coder b_Str_coder 1 (some .byte) (wsy y_Str_coder b_Str_coder 1 (some .byte)) rm mc ms 0 := cwV 0 hts (giV (tk2 109 rfl rfl) (tk2 110 rfl rfl) (tk2 111 rfl rfl) ii_Str k_Str_coder) rfl hrc hrs (by decide +kernel) hR
theorem cw_I_70 {R : Room} {s : State} {args : Array Value} {rm : Room} {mc ms : Nat} (hts : ∀ w ∈ TB, w.before args s = true) (hrc : rm.cells = mc) (hrs : rm.slots = ms) (hR : rm.frames + 1 ≤ R.frames ∧ 8 + (2 + 11) + rm.locals ≤ R.locals) : CallW R s args R_I R_Str 70 y_Str_charAt b_Str_charAt 2 (some .char) (wsy y_Str_charAt b_Str_charAt 2 (some .char)) rm mc ms 1 := cwV 1 hts (giV (tk2 115 rfl rfl) (tk2 116 rfl rfl) (tk2 117 rfl rfl) ii_Str k_Str_charAt) rfl hrc hrs (by decide +kernel) hR
theorem cw_Str_492 {R : Room} {s : State} {args : Array Value} {rm : Room} {mc ms : Nat} (hts : ∀ w ∈ TB, w.before args s = true) (hrc : rm.cells = mc) (hrs : rm.slots = ms) (hR : rm.frames + 1 ≤ R.frames ∧ 8 + (1 + 11) + rm.locals ≤ R.locals) : CallW R s args R_Str R_Str 492 y_Str_isLatin1 b_Str_isLatin1 1 (some .boolean) (wsy y_Str_isLatin1 b_Str_isLatin1 1 (some .boolean)) rm mc ms 0 := cwV 0 hts (giV (tk2 119 rfl rfl) (tk2 120 rfl rfl) (tk2 121 rfl rfl) ii_Str k_Str_isLatin1) rfl hrc hrs (by decide +kernel) hR
theorem cw_Str_495 {R : Room} {s : State} {args : Array Value} {rm : Room} {mc ms : Nat} (hts : ∀ w ∈ TB, w.before args s = true) (hrc : rm.cells = mc) (hrs : rm.slots = ms) (hR : rm.frames + 1 ≤ R.frames ∧ 8 + (2 + 11) + rm.locals ≤ R.locals) : CallB R s args R_Str 495 y_Lat_charAt b_Lat_charAt 2 (some .char) (wsy y_Lat_charAt b_Lat_charAt 2 (some .char)) rm mc ms 2 ∧ (Cond.static y_Lat_charAt).before args s = true := va_cwS 2 hts (giS (tk2 123 rfl rfl) (tk2 124 rfl rfl) ii_Lat k_Lat_charAt) rfl hrc hrs (by decide +kernel) hR
theorem cw_Lat_9 {R : Room} {s : State} {args : Array Value} {rm : Room} {mc ms : Nat} (hts : ∀ w ∈ TB, w.before args s = true) (hrc : rm.cells = mc) (hrs : rm.slots = ms) (hR : rm.frames + 1 ≤ R.frames ∧ 8 + (2 + 11) + rm.locals ≤ R.locals) : CallB R s args R_Lat 9 y_Str_checkIndex b_Str_checkIndex 2 none (wsy y_Str_checkIndex b_Str_checkIndex 2 none) rm mc ms 2 ∧ (Cond.static y_Str_checkIndex).before args s = true := va_cwS 2 hts (giS (tk2 126 rfl rfl) (tk2 127 rfl rfl) ii_Str k_Str_checkIndex) rfl hrc hrs (by decide +kernel) hR
theorem cw_Str_1059 {R : Room} {s : State} {args : Array Value} {rm : Room} {mc ms : Nat} (hts : ∀ w ∈ TB, w.before args s = true) (hrc : rm.cells = mc) (hrs : rm.slots = ms) (hR : rm.frames + 1 ≤ R.frames ∧ 8 + (3 + 11) + rm.locals ≤ R.locals) : CallB R s args R_Str 1059 y_Pre_checkIndex b_Pre_checkIndex 3 (some .int) (wsy y_Pre_checkIndex b_Pre_checkIndex 3 (some .int)) rm mc ms 3 ∧ (Cond.static y_Pre_checkIndex).before args s = true := va_cwS 3 hts (giS (tk2 131 rfl rfl) (tk2 132 rfl rfl) ii_Pre k_Pre_checkIndex) rfl hrc hrs (by decide +kernel) hR
theorem cw_K_83 {R : Room} {s : State} {args : Array Value} {rm : Room} {mc ms : Nat} (hts : ∀ w ∈ TB, w.before args s = true) (hrc : rm.cells = mc) (hrs : rm.slots = ms) (hR : rm.frames + 1 ≤ R.frames ∧ 8 + (1 + 11) + rm.locals ≤ R.locals) : CallW R s args R_K R_Str 83 y_Str_length b_Str_length 1 (some .int) (wsy y_Str_length b_Str_length 1 (some .int)) rm mc ms 0 := cwV 0 hts (giV (tk3 96 rfl rfl) (tk2 106 rfl rfl) (tk2 107 rfl rfl) ii_Str k_Str_length) rfl hrc hrs (by decide +kernel) hR
theorem cw_K_92 {R : Room} {s : State} {args : Array Value} {rm : Room} {mc ms : Nat} (hts : ∀ w ∈ TB, w.before args s = true) (hrc : rm.cells = mc) (hrs : rm.slots = ms) (hR : rm.frames + 1 ≤ R.frames ∧ 8 + (2 + 11) + rm.locals ≤ R.locals) : CallW R s args R_K R_Str 92 y_Str_charAt b_Str_charAt 2 (some .char) (wsy y_Str_charAt b_Str_charAt 2 (some .char)) rm mc ms 1 := cwV 1 hts (giV (tk3 100 rfl rfl) (tk2 116 rfl rfl) (tk2 117 rfl rfl) ii_Str k_Str_charAt) rfl hrc hrs (by decide +kernel) hR
theorem d_Str_coder_0 : decode b_Str_coder 0 = .ok (.getstatic 38, 3) := by decide +kernel
theorem d_Str_coder_3 : decode b_Str_coder 3 = .ok (.ifCond .eq 10, 3) := by decide +kernel
theorem d_Str_coder_6 : decode b_Str_coder 6 = .ok (.aload_n 0, 1) := by decide +kernel
theorem d_Str_coder_7 : decode b_Str_coder 7 = .ok (.getfield 15, 3) := by decide +kernel
theorem d_Str_coder_10 : decode b_Str_coder 10 = .ok (.goto 4, 3) := by decide +kernel
theorem d_Str_coder_13 : decode b_Str_coder 13 = .ok (.iconst 1, 1) := by decide +kernel
theorem d_Str_coder_14 : decode b_Str_coder 14 = .ok (.ireturn, 1) := by decide +kernel
set_option maxHeartbeats 4000000 in
set_option maxRecDepth 100000 in
theorem c_Str_coder (l : Launch) (dC : Nat → ClassId) (dI : Nat → Nat → Nat) (kA : Nat → ClassId) (i : Nat) (hi : i < 22) : Met l y_Str_coder (wsy y_Str_coder b_Str_coder 1 (some .byte)) (rmd 0 0 0) (li_Pr (dC, dI) CL (TY kA) [.ref (dI 101 i)] (va_P (dC, dI) CL [])) (k2_QcV (.int (iI (0)))) 0 0 (fun _ => False) := by
  refine li_mr (by decide) (Nat.le_of_ble_eq_true rfl) (by rfl) ?_
  intro p e s m args below meth c Q C hP hK hN hG fin ls hl
  obtain ⟨hx, hb, hr, hml, hown, hts, hlocks, hin⟩ := C
  have hown : s.vm.findClass R_Str = some m.cls := hown
  have hP : va_P (dC, dI) CL [] s.heap := hP
  have hl : lv_has ls 1 [(0, .ref (dI 101 i))] := hl
  refine va_gets (ref := R_Str) hx hb hG.2.2.2.1 va_S.rf hown (hts (Cond.fieldLink R_Str 38 R_Str "COMPACT_STRINGS" "Z") (tk2 113 rfl rfl)) (fun _ h => h) d_Str_coder_0 ?_
  refine W.eq (g2 := F0 m 3 ls [.int (iI 1)]) rfl ?_
  refine li_if_eq (tgt := 13) hx hb d_Str_coder_3 (by decide) (by omega) (fun c1 => ?_) (fun c1 => ?_)
  · have _q := c1
    exact absurd c1 (by omega)
  · have _q := c1
    refine lv_aload_n hx hb d_Str_coder_6 rfl (lv_at hl 0 rfl) ?_
    refine vk_getf (ref := R_Str) hx hb (hG.2.2.1.1 i (by omega)).2.1 va_S.rf hown (hts (Cond.fieldLink R_Str 15 R_Str "coder" "B") (tk7 27 rfl rfl)) (fun _ h => h) d_Str_coder_7 ?_
    refine W.eq (g2 := F0 m 10 ls [.int (iI 0)]) rfl ?_
    refine lv_goto (tgt := 14) hx hb d_Str_coder_10 (by decide) ?_
    exact fin _ _ _ (by rfl) d_Str_coder_14
theorem d_Str_isLatin1_0 : decode b_Str_isLatin1 0 = .ok (.getstatic 38, 3) := by decide +kernel
theorem d_Str_isLatin1_3 : decode b_Str_isLatin1 3 = .ok (.ifCond .eq 14, 3) := by decide +kernel
theorem d_Str_isLatin1_6 : decode b_Str_isLatin1 6 = .ok (.aload_n 0, 1) := by decide +kernel
theorem d_Str_isLatin1_7 : decode b_Str_isLatin1 7 = .ok (.getfield 15, 3) := by decide +kernel
theorem d_Str_isLatin1_10 : decode b_Str_isLatin1 10 = .ok (.ifCond .ne 7, 3) := by decide +kernel
theorem d_Str_isLatin1_13 : decode b_Str_isLatin1 13 = .ok (.iconst 1, 1) := by decide +kernel
theorem d_Str_isLatin1_14 : decode b_Str_isLatin1 14 = .ok (.goto 4, 3) := by decide +kernel
theorem d_Str_isLatin1_17 : decode b_Str_isLatin1 17 = .ok (.iconst 0, 1) := by decide +kernel
theorem d_Str_isLatin1_18 : decode b_Str_isLatin1 18 = .ok (.ireturn, 1) := by decide +kernel
set_option maxHeartbeats 4000000 in
set_option maxRecDepth 100000 in
theorem c_Str_isLatin1 (l : Launch) (dC : Nat → ClassId) (dI : Nat → Nat → Nat) (kA : Nat → ClassId) (i : Nat) (hi : i < 22) : Met l y_Str_isLatin1 (wsy y_Str_isLatin1 b_Str_isLatin1 1 (some .boolean)) (rmd 0 0 0) (li_Pr (dC, dI) CL (TY kA) [.ref (dI 101 i)] (va_P (dC, dI) CL [])) (k2_QcV (.int (iI (bI true)))) 0 0 (fun _ => False) := by
  refine li_mr (by decide) (Nat.le_of_ble_eq_true rfl) (by rfl) ?_
  intro p e s m args below meth c Q C hP hK hN hG fin ls hl
  obtain ⟨hx, hb, hr, hml, hown, hts, hlocks, hin⟩ := C
  have hown : s.vm.findClass R_Str = some m.cls := hown
  have hP : va_P (dC, dI) CL [] s.heap := hP
  have hl : lv_has ls 1 [(0, .ref (dI 101 i))] := hl
  refine va_gets (ref := R_Str) hx hb hG.2.2.2.1 va_S.rf hown (hts (Cond.fieldLink R_Str 38 R_Str "COMPACT_STRINGS" "Z") (tk2 113 rfl rfl)) (fun _ h => h) d_Str_isLatin1_0 ?_
  refine W.eq (g2 := F0 m 3 ls [.int (iI 1)]) rfl ?_
  refine li_if_eq (tgt := 17) hx hb d_Str_isLatin1_3 (by decide) (by omega) (fun c1 => ?_) (fun c1 => ?_)
  · have _q := c1
    exact absurd c1 (by omega)
  · have _q := c1
    refine lv_aload_n hx hb d_Str_isLatin1_6 rfl (lv_at hl 0 rfl) ?_
    refine vk_getf (ref := R_Str) hx hb (hG.2.2.1.1 i (by omega)).2.1 va_S.rf hown (hts (Cond.fieldLink R_Str 15 R_Str "coder" "B") (tk7 27 rfl rfl)) (fun _ h => h) d_Str_isLatin1_7 ?_
    refine W.eq (g2 := F0 m 10 ls [.int (iI 0)]) rfl ?_
    refine li_if_ne (tgt := 17) hx hb d_Str_isLatin1_10 (by decide) (by omega) (fun c2 => ?_) (fun c2 => ?_)
    · have _q := c2
      exact absurd c2 (by omega)
    · have _q := c2
      refine lv_iconst (v := iI 1) hx hb d_Str_isLatin1_13 rfl ?_
      refine lv_goto (tgt := 18) hx hb d_Str_isLatin1_14 (by decide) ?_
      exact fin _ _ _ (by rfl) d_Str_isLatin1_18
theorem d_Str_length_0 : decode b_Str_length 0 = .ok (.aload_n 0, 1) := by decide +kernel
theorem d_Str_length_1 : decode b_Str_length 1 = .ok (.getfield 9, 3) := by decide +kernel
theorem d_Str_length_4 : decode b_Str_length 4 = .ok (.arraylength, 1) := by decide +kernel
theorem d_Str_length_5 : decode b_Str_length 5 = .ok (.aload_n 0, 1) := by decide +kernel
theorem d_Str_length_6 : decode b_Str_length 6 = .ok (.invokevirtual 335, 3) := by decide +kernel
theorem d_Str_length_9 : decode b_Str_length 9 = .ok (.ishr, 1) := by decide +kernel
theorem d_Str_length_10 : decode b_Str_length 10 = .ok (.ireturn, 1) := by decide +kernel
set_option maxHeartbeats 4000000 in
set_option maxRecDepth 100000 in
theorem c_Str_length (l : Launch) (dC : Nat → ClassId) (dI : Nat → Nat → Nat) (kA : Nat → ClassId) (i : Nat) (hi : i < 22) : Met l y_Str_length (wsy y_Str_length b_Str_length 1 (some .int)) (rmd 1 0 0) (li_Pr (dC, dI) CL (TY kA) [.ref (dI 101 i)] (va_P (dC, dI) CL [])) (k2_QcV (.int (iI (((lenS.getD i 0 : Nat) : Int))))) 0 0 (fun _ => False) := by
  refine li_mr (by decide) (Nat.le_of_ble_eq_true rfl) (by rfl) ?_
  intro p e s m args below meth c Q C hP hK hN hG fin ls hl
  obtain ⟨hx, hb, hr, hml, hown, hts, hlocks, hin⟩ := C
  have hown : s.vm.findClass R_Str = some m.cls := hown
  have hP : va_P (dC, dI) CL [] s.heap := hP
  have hl : lv_has ls 1 [(0, .ref (dI 101 i))] := hl
  refine lv_aload_n hx hb d_Str_length_0 rfl (lv_at hl 0 rfl) ?_
  refine vk_getf (ref := R_Str) hx hb (hG.2.2.1.1 i (by omega)).2.2.1 va_S.rf hown (hts (Cond.fieldLink R_Str 9 R_Str "value" "[B") (tk7 26 rfl rfl)) (fun _ h => h) d_Str_length_1 ?_
  refine va_tlen hx hb (hG.2.2.1.1 i (by omega)).2.2.2 va_S.rf (v := iI ((lenS.getD i 0 : Nat) : Int)) (by rw [iI_nI]; rfl) d_Str_length_4 ?_
  refine lv_aload_n hx hb d_Str_length_5 rfl (lv_at hl 0 rfl) ?_
  refine li_callr ((va_runV (As := []) (rest := [.int (iI ((lenS.getD i 0 : Nat) : Int))]) ⟨hx, hb, hml, hown, hts⟩ (c_Str_coder l dC dI kA i (by omega)) (cw_Str_335 hts rfl rfl ⟨Nat.le_of_ble_eq_true rfl, Nat.le_of_ble_eq_true rfl⟩) (li_preV (vk_recv hG.2.2.1 (i := i) (by exact hi) (va_S.rf (A := fun q => dI 100 0 ≤ q))) va_Pnil hK hN hG.rd) rfl rfl hl.1 rfl (lv_room (Nat.le_of_ble_eq_true rfl)) d_Str_length_6 ⟨(by show 0 + 0 ≤ 0; omega), (by show 0 + 0 ≤ 0; omega)⟩).run) ?_
  refine li_shr0 hx hb d_Str_length_9 ?_
  exact fin _ _ _ (by rfl) d_Str_length_10
theorem d_Pre_checkIndex_0 : decode b_Pre_checkIndex 0 = .ok (.iload_n 0, 1) := by decide +kernel
theorem d_Pre_checkIndex_1 : decode b_Pre_checkIndex 1 = .ok (.ifCond .lt 8, 3) := by decide +kernel
theorem d_Pre_checkIndex_4 : decode b_Pre_checkIndex 4 = .ok (.iload_n 0, 1) := by decide +kernel
theorem d_Pre_checkIndex_5 : decode b_Pre_checkIndex 5 = .ok (.iload_n 1, 1) := by decide +kernel
theorem d_Pre_checkIndex_6 : decode b_Pre_checkIndex 6 = .ok (.if_icmp .lt 10, 3) := by decide +kernel
theorem d_Pre_checkIndex_9 : decode b_Pre_checkIndex 9 = .ok (.aload_n 2, 1) := by decide +kernel
theorem d_Pre_checkIndex_10 : decode b_Pre_checkIndex 10 = .ok (.iload_n 0, 1) := by decide +kernel
theorem d_Pre_checkIndex_11 : decode b_Pre_checkIndex 11 = .ok (.iload_n 1, 1) := by decide +kernel
theorem d_Pre_checkIndex_12 : decode b_Pre_checkIndex 12 = .ok (.invokestatic 95, 3) := by decide +kernel
theorem d_Pre_checkIndex_15 : decode b_Pre_checkIndex 15 = .ok (.athrow, 1) := by decide +kernel
theorem d_Pre_checkIndex_16 : decode b_Pre_checkIndex 16 = .ok (.iload_n 0, 1) := by decide +kernel
theorem d_Pre_checkIndex_17 : decode b_Pre_checkIndex 17 = .ok (.ireturn, 1) := by decide +kernel
set_option maxHeartbeats 4000000 in
set_option maxRecDepth 100000 in
theorem c_Pre_checkIndex (l : Launch) (dC : Nat → ClassId) (dI : Nat → Nat → Nat) (kA : Nat → ClassId) (k : Int) (z : Int) (a : Nat) (hk : 0 ≤ k ∧ k < z ∧ z < 2147483648) : Met l y_Pre_checkIndex (wsy y_Pre_checkIndex b_Pre_checkIndex 3 (some .int)) (rmd 0 0 0) (li_Pr (dC, dI) CL (TY kA) [.int (iI k), .int (iI z), .ref a] (va_P (dC, dI) CL [])) (k2_QcV (.int (iI (k)))) 0 0 (fun _ => False) := by
  refine li_mr (by decide) (Nat.le_of_ble_eq_true rfl) (by rfl) ?_
  intro p e s m args below meth c Q C hP hK hN hG fin ls hl
  obtain ⟨hx, hb, hr, hml, hown, hts, hlocks, hin⟩ := C
  have hown : s.vm.findClass R_Pre = some m.cls := hown
  have hP : va_P (dC, dI) CL [] s.heap := hP
  have hl : lv_has ls 3 [(0, .int (iI k)), (1, .int (iI z)), (2, .ref a)] := hl
  refine lv_iload_n hx hb d_Pre_checkIndex_0 rfl (lv_at hl 0 rfl) ?_
  refine li_if_lt (tgt := 9) hx hb d_Pre_checkIndex_1 (by decide) (by omega) (fun c1 => ?_) (fun c1 => ?_)
  · have _q := c1
    exact absurd c1 (by omega)
  · have _q := c1
    refine lv_iload_n hx hb d_Pre_checkIndex_4 rfl (lv_at hl 0 rfl) ?_
    refine lv_iload_n hx hb d_Pre_checkIndex_5 rfl (lv_at hl 1 rfl) ?_
    refine li_icmp_lt (tgt := 16) hx hb d_Pre_checkIndex_6 (by decide) (by omega) (by omega) (fun c2 => ?_) (fun c2 => ?_)
    · have _q := c2
      refine lv_iload_n hx hb d_Pre_checkIndex_16 rfl (lv_at hl 0 rfl) ?_
      exact fin _ _ _ (by rfl) d_Pre_checkIndex_17
    · have _q := c2
      exact absurd c2 (by omega)
set_option maxHeartbeats 4000000 in
set_option maxRecDepth 100000 in
theorem c_Pre_checkIndexN (l : Launch) (dC : Nat → ClassId) (dI : Nat → Nat → Nat) (kA : Nat → ClassId) (k : Int) (z : Int) (hk : 0 ≤ k ∧ k < z ∧ z < 2147483648) : Met l y_Pre_checkIndex (wsy y_Pre_checkIndex b_Pre_checkIndex 3 (some .int)) (rmd 0 0 0) (li_Pr (dC, dI) CL (TY kA) [.int (iI k), .int (iI z), .null] (va_P (dC, dI) CL [])) (k2_QcV (.int (iI (k)))) 0 0 (fun _ => False) := by
  refine li_mr (by decide) (Nat.le_of_ble_eq_true rfl) (by rfl) ?_
  intro p e s m args below meth c Q C hP hK hN hG fin ls hl
  obtain ⟨hx, hb, hr, hml, hown, hts, hlocks, hin⟩ := C
  have hown : s.vm.findClass R_Pre = some m.cls := hown
  have hP : va_P (dC, dI) CL [] s.heap := hP
  have hl : lv_has ls 3 [(0, .int (iI k)), (1, .int (iI z)), (2, .null)] := hl
  refine lv_iload_n hx hb d_Pre_checkIndex_0 rfl (lv_at hl 0 rfl) ?_
  refine li_if_lt (tgt := 9) hx hb d_Pre_checkIndex_1 (by decide) (by omega) (fun c1 => ?_) (fun c1 => ?_)
  · have _q := c1
    exact absurd c1 (by omega)
  · have _q := c1
    refine lv_iload_n hx hb d_Pre_checkIndex_4 rfl (lv_at hl 0 rfl) ?_
    refine lv_iload_n hx hb d_Pre_checkIndex_5 rfl (lv_at hl 1 rfl) ?_
    refine li_icmp_lt (tgt := 16) hx hb d_Pre_checkIndex_6 (by decide) (by omega) (by omega) (fun c2 => ?_) (fun c2 => ?_)
    · have _q := c2
      refine lv_iload_n hx hb d_Pre_checkIndex_16 rfl (lv_at hl 0 rfl) ?_
      exact fin _ _ _ (by rfl) d_Pre_checkIndex_17
    · have _q := c2
      exact absurd c2 (by omega)
theorem d_Str_checkIndex_0 : decode b_Str_checkIndex 0 = .ok (.iload_n 0, 1) := by decide +kernel
theorem d_Str_checkIndex_1 : decode b_Str_checkIndex 1 = .ok (.iload_n 1, 1) := by decide +kernel
theorem d_Str_checkIndex_2 : decode b_Str_checkIndex 2 = .ok (.getstatic 1053, 3) := by decide +kernel
theorem d_Str_checkIndex_5 : decode b_Str_checkIndex 5 = .ok (.invokestatic 1059, 3) := by decide +kernel
theorem d_Str_checkIndex_8 : decode b_Str_checkIndex 8 = .ok (.pop, 1) := by decide +kernel
theorem d_Str_checkIndex_9 : decode b_Str_checkIndex 9 = .ok (.return_, 1) := by decide +kernel
set_option maxHeartbeats 4000000 in
set_option maxRecDepth 100000 in
theorem c_Str_checkIndex (l : Launch) (dC : Nat → ClassId) (dI : Nat → Nat → Nat) (kA : Nat → ClassId) (k : Int) (z : Int) (hk : 0 ≤ k ∧ k < z ∧ z < 2147483648) : Met l y_Str_checkIndex (wsy y_Str_checkIndex b_Str_checkIndex 2 none) (rmd 1 0 0) (li_Pr (dC, dI) CL (TY kA) [.int (iI k), .int (iI z)] (va_P (dC, dI) CL [])) k0_Qc 0 0 (fun _ => False) := by
  refine li_mrv (by decide) (Nat.le_of_ble_eq_true rfl) ?_
  intro p e s m args below meth c Q C hP hK hN hG fin ls hl
  obtain ⟨hx, hb, hr, hml, hown, hts, hlocks, hin⟩ := C
  have hown : s.vm.findClass R_Str = some m.cls := hown
  have hP : va_P (dC, dI) CL [] s.heap := hP
  have hl : lv_has ls 2 [(0, .int (iI k)), (1, .int (iI z))] := hl
  refine lv_iload_n hx hb d_Str_checkIndex_0 rfl (lv_at hl 0 rfl) ?_
  refine lv_iload_n hx hb d_Str_checkIndex_1 rfl (lv_at hl 1 rfl) ?_
  rcases hG.2.2.2.2.2.2.1 with hz | ⟨tz, hz⟩
  · refine va_gets (ref := R_Pre) hx hb hz va_S.rf hown (hts (Cond.fieldLink R_Str 1053 R_Pre "SIOOBE_FORMATTER" "Ljava/util/function/BiFunction;") (tk2 129 rfl rfl)) (fun _ h => h) d_Str_checkIndex_2 ?_
    refine li_callr ((va_runS (As := [.int (iI k), .int (iI z), .null]) (rest := []) ⟨hx, hb, hml, hown, hts⟩ (c_Pre_checkIndexN l dC dI kA k z (by omega)) (cw_Str_1059 hts rfl rfl ⟨Nat.le_of_ble_eq_true rfl, Nat.le_of_ble_eq_true rfl⟩) (li_preS va_Pnil hK hN hG.rd) rfl rfl hl.1 rfl (lv_room (Nat.le_of_ble_eq_true rfl)) d_Str_checkIndex_5 ⟨(by show 0 + 0 ≤ 0; omega), (by show 0 + 0 ≤ 0; omega)⟩).run) ?_
    refine lv_pop hx hb d_Str_checkIndex_8 rfl ?_
    exact fin _ _ d_Str_checkIndex_9
  · refine va_gets (ref := R_Pre) hx hb hz va_S.rf hown (hts (Cond.fieldLink R_Str 1053 R_Pre "SIOOBE_FORMATTER" "Ljava/util/function/BiFunction;") (tk2 129 rfl rfl)) (fun _ h => h) d_Str_checkIndex_2 ?_
    refine li_callr ((va_runS (As := [.int (iI k), .int (iI z), .ref tz]) (rest := []) ⟨hx, hb, hml, hown, hts⟩ (c_Pre_checkIndex l dC dI kA k z tz (by omega)) (cw_Str_1059 hts rfl rfl ⟨Nat.le_of_ble_eq_true rfl, Nat.le_of_ble_eq_true rfl⟩) (li_preS va_Pnil hK hN hG.rd) rfl rfl hl.1 rfl (lv_room (Nat.le_of_ble_eq_true rfl)) d_Str_checkIndex_5 ⟨(by show 0 + 0 ≤ 0; omega), (by show 0 + 0 ≤ 0; omega)⟩).run) ?_
    refine lv_pop hx hb d_Str_checkIndex_8 rfl ?_
    exact fin _ _ d_Str_checkIndex_9
theorem d_Lat_charAt_0 : decode b_Lat_charAt 0 = .ok (.iload_n 1, 1) := by decide +kernel
theorem d_Lat_charAt_1 : decode b_Lat_charAt 1 = .ok (.aload_n 0, 1) := by decide +kernel
theorem d_Lat_charAt_2 : decode b_Lat_charAt 2 = .ok (.arraylength, 1) := by decide +kernel
theorem d_Lat_charAt_3 : decode b_Lat_charAt 3 = .ok (.invokestatic 9, 3) := by decide +kernel
theorem d_Lat_charAt_6 : decode b_Lat_charAt 6 = .ok (.aload_n 0, 1) := by decide +kernel
theorem d_Lat_charAt_7 : decode b_Lat_charAt 7 = .ok (.iload_n 1, 1) := by decide +kernel
theorem d_Lat_charAt_8 : decode b_Lat_charAt 8 = .ok (.baload, 1) := by decide +kernel
theorem d_Lat_charAt_9 : decode b_Lat_charAt 9 = .ok (.sipush 255, 3) := by decide +kernel
theorem d_Lat_charAt_12 : decode b_Lat_charAt 12 = .ok (.iand, 1) := by decide +kernel
theorem d_Lat_charAt_13 : decode b_Lat_charAt 13 = .ok (.i2c, 1) := by decide +kernel
theorem d_Lat_charAt_14 : decode b_Lat_charAt 14 = .ok (.ireturn, 1) := by decide +kernel
set_option maxHeartbeats 4000000 in
set_option maxRecDepth 100000 in
theorem c_Lat_charAt (l : Launch) (dC : Nat → ClassId) (dI : Nat → Nat → Nat) (kA : Nat → ClassId) (i : Nat) (k : Int) (hi : i < 22) (hk : 0 ≤ k ∧ k < (lenS.getD i 0 : Nat)) : Met l y_Lat_charAt (wsy y_Lat_charAt b_Lat_charAt 2 (some .char)) (rmd 2 0 0) (li_Pr (dC, dI) CL (TY kA) [.ref (dI 102 i), .int (iI k)] (va_P (dC, dI) CL [])) (k2_QcV (.int (iI (chS i k.toNat)))) 0 0 (fun _ => False) := by
  refine li_mr (by decide) (Nat.le_of_ble_eq_true rfl) (by have := chS_r i k.toNat; exact li_narC2 (by omega) (by omega)) ?_
  intro p e s m args below meth c Q C hP hK hN hG fin ls hl
  obtain ⟨hx, hb, hr, hml, hown, hts, hlocks, hin⟩ := C
  have hown : s.vm.findClass R_Lat = some m.cls := hown
  have hP : va_P (dC, dI) CL [] s.heap := hP
  have hl : lv_has ls 2 [(0, .ref (dI 102 i)), (1, .int (iI k))] := hl
  refine lv_iload_n hx hb d_Lat_charAt_0 rfl (lv_at hl 1 rfl) ?_
  refine lv_aload_n hx hb d_Lat_charAt_1 rfl (lv_at hl 0 rfl) ?_
  refine va_tlen hx hb (hG.2.2.1.1 i (by omega)).2.2.2 va_S.rf (v := iI ((lenS.getD i 0 : Nat) : Int)) (by rw [iI_nI]; rfl) d_Lat_charAt_2 ?_
  refine li_callrv ((va_runS (As := [.int (iI k), .int (iI ((lenS.getD i 0 : Nat) : Int))]) (rest := []) ⟨hx, hb, hml, hown, hts⟩ (c_Str_checkIndex l dC dI kA k ((lenS.getD i 0 : Nat) : Int) (by have := lenS_b i; omega)) (cw_Lat_9 hts rfl rfl ⟨Nat.le_of_ble_eq_true rfl, Nat.le_of_ble_eq_true rfl⟩) (li_preS va_Pnil hK hN hG.rd) rfl rfl hl.1 rfl (lv_room (Nat.le_of_ble_eq_true rfl)) d_Lat_charAt_3 ⟨(by show 0 + 0 ≤ 0; omega), (by show 0 + 0 ≤ 0; omega)⟩).run) ?_
  refine lv_aload_n hx hb d_Lat_charAt_6 rfl (lv_at hl 0 rfl) ?_
  refine lv_iload_n hx hb d_Lat_charAt_7 rfl (lv_at hl 1 rfl) ?_
  refine va_tb hx hb (hG.2.2.1.1 i (by omega)).2.2.2 va_S.rf (v := .int (iI (chS i k.toNat))) (iI_in (by omega) (by omega) (lenS_r _)) (by rw [iI_clamp (by omega) (by have := lenS_r i; omega)]; exact congrArg Value.int (byS_eq i k.toNat)) d_Lat_charAt_8 ?_
  refine lv_sipush (v := iI 255) hx hb d_Lat_charAt_9 (by decide) ?_
  refine li_and255 hx hb d_Lat_charAt_12 (by have := chS_r i k.toNat; omega) ?_
  refine li_i2c hx hb d_Lat_charAt_13 (by have := chS_r i k.toNat; omega) (by have := chS_r i k.toNat; omega) ?_
  exact fin _ _ _ (by rfl) d_Lat_charAt_14
theorem d_Str_charAt_0 : decode b_Str_charAt 0 = .ok (.aload_n 0, 1) := by decide +kernel
theorem d_Str_charAt_1 : decode b_Str_charAt 1 = .ok (.invokevirtual 492, 3) := by decide +kernel
theorem d_Str_charAt_4 : decode b_Str_charAt 4 = .ok (.ifCond .eq 12, 3) := by decide +kernel
theorem d_Str_charAt_7 : decode b_Str_charAt 7 = .ok (.aload_n 0, 1) := by decide +kernel
theorem d_Str_charAt_8 : decode b_Str_charAt 8 = .ok (.getfield 9, 3) := by decide +kernel
theorem d_Str_charAt_11 : decode b_Str_charAt 11 = .ok (.iload_n 1, 1) := by decide +kernel
theorem d_Str_charAt_12 : decode b_Str_charAt 12 = .ok (.invokestatic 495, 3) := by decide +kernel
theorem d_Str_charAt_15 : decode b_Str_charAt 15 = .ok (.ireturn, 1) := by decide +kernel
theorem d_Str_charAt_16 : decode b_Str_charAt 16 = .ok (.aload_n 0, 1) := by decide +kernel
theorem d_Str_charAt_17 : decode b_Str_charAt 17 = .ok (.getfield 9, 3) := by decide +kernel
theorem d_Str_charAt_20 : decode b_Str_charAt 20 = .ok (.iload_n 1, 1) := by decide +kernel
theorem d_Str_charAt_21 : decode b_Str_charAt 21 = .ok (.invokestatic 498, 3) := by decide +kernel
theorem d_Str_charAt_24 : decode b_Str_charAt 24 = .ok (.ireturn, 1) := by decide +kernel
set_option maxHeartbeats 4000000 in
set_option maxRecDepth 100000 in
theorem c_Str_charAt (l : Launch) (dC : Nat → ClassId) (dI : Nat → Nat → Nat) (kA : Nat → ClassId) (i : Nat) (k : Int) (hi : i < 22) (hk : 0 ≤ k ∧ k < (lenS.getD i 0 : Nat)) : Met l y_Str_charAt (wsy y_Str_charAt b_Str_charAt 2 (some .char)) (rmd 3 0 0) (li_Pr (dC, dI) CL (TY kA) [.ref (dI 101 i), .int (iI k)] (va_P (dC, dI) CL [])) (k2_QcV (.int (iI (chS i k.toNat)))) 0 0 (fun _ => False) := by
  refine li_mr (by decide) (Nat.le_of_ble_eq_true rfl) (by have := chS_r i k.toNat; exact li_narC2 (by omega) (by omega)) ?_
  intro p e s m args below meth c Q C hP hK hN hG fin ls hl
  obtain ⟨hx, hb, hr, hml, hown, hts, hlocks, hin⟩ := C
  have hown : s.vm.findClass R_Str = some m.cls := hown
  have hP : va_P (dC, dI) CL [] s.heap := hP
  have hl : lv_has ls 2 [(0, .ref (dI 101 i)), (1, .int (iI k))] := hl
  refine lv_aload_n hx hb d_Str_charAt_0 rfl (lv_at hl 0 rfl) ?_
  refine li_callr ((va_runV (As := []) (rest := []) ⟨hx, hb, hml, hown, hts⟩ (c_Str_isLatin1 l dC dI kA i (by omega)) (cw_Str_492 hts rfl rfl ⟨Nat.le_of_ble_eq_true rfl, Nat.le_of_ble_eq_true rfl⟩) (li_preV (vk_recv hG.2.2.1 (i := i) (by exact hi) (va_S.rf (A := fun q => dI 100 0 ≤ q))) va_Pnil hK hN hG.rd) rfl rfl hl.1 rfl (lv_room (Nat.le_of_ble_eq_true rfl)) d_Str_charAt_1 ⟨(by show 0 + 0 ≤ 0; omega), (by show 0 + 0 ≤ 0; omega)⟩).run) ?_
  refine li_bz (tgt := 16) hx hb d_Str_charAt_4 (by decide) (fun c1 => ?_) (fun c1 => ?_)
  · have _q := c1
    exact absurd c1 (by simp)
  · have _q := c1
    refine lv_aload_n hx hb d_Str_charAt_7 rfl (lv_at hl 0 rfl) ?_
    refine vk_getf (ref := R_Str) hx hb (hG.2.2.1.1 i (by omega)).2.2.1 va_S.rf hown (hts (Cond.fieldLink R_Str 9 R_Str "value" "[B") (tk7 26 rfl rfl)) (fun _ h => h) d_Str_charAt_8 ?_
    refine lv_iload_n hx hb d_Str_charAt_11 rfl (lv_at hl 1 rfl) ?_
    refine li_callr ((va_runS (As := [.ref (dI 102 i), .int (iI k)]) (rest := []) ⟨hx, hb, hml, hown, hts⟩ (c_Lat_charAt l dC dI kA i k (by omega) (by omega)) (cw_Str_495 hts rfl rfl ⟨Nat.le_of_ble_eq_true rfl, Nat.le_of_ble_eq_true rfl⟩) (li_preS va_Pnil hK hN hG.rd) rfl rfl hl.1 rfl (lv_room (Nat.le_of_ble_eq_true rfl)) d_Str_charAt_12 ⟨(by show 0 + 0 ≤ 0; omega), (by show 0 + 0 ≤ 0; omega)⟩).run) ?_
    exact fin _ _ _ (by rfl) d_Str_charAt_15

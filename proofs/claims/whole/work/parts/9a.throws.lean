set_option maxHeartbeats 4000000 in
set_option maxRecDepth 100000 in
theorem t_Q_checkRecord (l : Launch) (hlT : l.stackTraces = false) (dC : Nat → ClassId) (dI : Nat → Nat → Nat) (kA : Nat → ClassId) (r : Int) (hr : r < 0 ∨ 9 < r) (hrg : -2147483648 ≤ r ∧ r < 2147483648) : MetT l y_Q_checkRecord (wsy y_Q_checkRecord b_Q_checkRecord 1 none) (rmd 6 1 6) (li_PrT (dC, dI) CL (TY kA) [.int (iI r)] (va_P (dC, dI) CL [])) IAE := by
  refine li_metT hlT (by decide) (Nat.le_of_ble_eq_true rfl) ?_
  intro p e s m below meth c C htr hout hP hK hN hG hT ls hl
  obtain ⟨hx, hb, hr, hml, hown, hts, hlocks, hin⟩ := C
  have hown : s.vm.findClass R_Q = some m.cls := hown
  have hP : va_P (dC, dI) CL [] s.heap := hP
  have hl : lv_has ls 1 [(0, .int (iI r))] := hl
  refine lv_iload_n hx hb d_Q_checkRecord_0 rfl (lv_at hl 0 rfl) ?_
  refine li_if_lt (tgt := 10) hx hb d_Q_checkRecord_1 (by decide) (by omega) (fun c1 => ?_) (fun c1 => ?_)
  · have _q := c1
    exact li_throw (X := IAE) (cc := b_Q_checkRecord) htr hx hb (hml.trans hl.1.symm) hlocks hout hown (by decide +kernel) (at_IAE hts hG hT) (hts (Cond.classLink R_Q 74 IAE) (tk4 89 rfl rfl)) (hts (Cond.initialized IAE) (tk1 15 rfl rfl)) (hG.2.1 18 (R_Q, 212, "record is not 0 .. 9") rfl) d_Q_checkRecord_10 d_Q_checkRecord_13 d_Q_checkRecord_14 d_Q_checkRecord_16 d_Q_checkRecord_19 (Nat.le_of_ble_eq_true rfl) (Nat.le_of_ble_eq_true rfl) (Nat.le_of_ble_eq_true rfl) (Nat.le_of_ble_eq_true rfl)
  · have _q := c1
    refine lv_iload_n hx hb d_Q_checkRecord_4 rfl (lv_at hl 0 rfl) ?_
    refine lv_bipush (v := iI 10) hx hb d_Q_checkRecord_5 (by decide) ?_
    refine li_icmp_lt (tgt := 20) hx hb d_Q_checkRecord_7 (by decide) (by omega) (by omega) (fun c2 => ?_) (fun c2 => ?_)
    · have _q := c2
      exact absurd c2 (by omega)
    · have _q := c2
      exact li_throw (X := IAE) (cc := b_Q_checkRecord) htr hx hb (hml.trans hl.1.symm) hlocks hout hown (by decide +kernel) (at_IAE hts hG hT) (hts (Cond.classLink R_Q 74 IAE) (tk4 89 rfl rfl)) (hts (Cond.initialized IAE) (tk1 15 rfl rfl)) (hG.2.1 18 (R_Q, 212, "record is not 0 .. 9") rfl) d_Q_checkRecord_10 d_Q_checkRecord_13 d_Q_checkRecord_14 d_Q_checkRecord_16 d_Q_checkRecord_19 (Nat.le_of_ble_eq_true rfl) (Nat.le_of_ble_eq_true rfl) (Nat.le_of_ble_eq_true rfl) (Nat.le_of_ble_eq_true rfl)
set_option maxHeartbeats 4000000 in
set_option maxRecDepth 100000 in
theorem t_Q_checkIndex (l : Launch) (hlT : l.stackTraces = false) (dC : Nat → ClassId) (dI : Nat → Nat → Nat) (kA : Nat → ClassId) (r : Int) (hr : r < 0 ∨ 5 < r) (hrg : -2147483648 ≤ r ∧ r < 2147483648) : MetT l y_Q_checkIndex (wsy y_Q_checkIndex b_Q_checkIndex 1 none) (rmd 6 1 6) (li_PrT (dC, dI) CL (TY kA) [.int (iI r)] (va_P (dC, dI) CL [])) IAE := by
  refine li_metT hlT (by decide) (Nat.le_of_ble_eq_true rfl) ?_
  intro p e s m below meth c C htr hout hP hK hN hG hT ls hl
  obtain ⟨hx, hb, hr, hml, hown, hts, hlocks, hin⟩ := C
  have hown : s.vm.findClass R_Q = some m.cls := hown
  have hP : va_P (dC, dI) CL [] s.heap := hP
  have hl : lv_has ls 1 [(0, .int (iI r))] := hl
  refine lv_iload_n hx hb d_Q_checkIndex_0 rfl (lv_at hl 0 rfl) ?_
  refine li_if_lt (tgt := 10) hx hb d_Q_checkIndex_1 (by decide) (by omega) (fun c1 => ?_) (fun c1 => ?_)
  · have _q := c1
    exact li_throw (X := IAE) (cc := b_Q_checkIndex) htr hx hb (hml.trans hl.1.symm) hlocks hout hown (by decide +kernel) (at_IAE hts hG hT) (hts (Cond.classLink R_Q 74 IAE) (tk4 89 rfl rfl)) (hts (Cond.initialized IAE) (tk1 15 rfl rfl)) (hG.2.1 21 (R_Q, 214, "index is not 0 .. 5") rfl) d_Q_checkIndex_10 d_Q_checkIndex_13 d_Q_checkIndex_14 d_Q_checkIndex_16 d_Q_checkIndex_19 (Nat.le_of_ble_eq_true rfl) (Nat.le_of_ble_eq_true rfl) (Nat.le_of_ble_eq_true rfl) (Nat.le_of_ble_eq_true rfl)
  · have _q := c1
    refine lv_iload_n hx hb d_Q_checkIndex_4 rfl (lv_at hl 0 rfl) ?_
    refine lv_bipush (v := iI 6) hx hb d_Q_checkIndex_5 (by decide) ?_
    refine li_icmp_lt (tgt := 20) hx hb d_Q_checkIndex_7 (by decide) (by omega) (by omega) (fun c2 => ?_) (fun c2 => ?_)
    · have _q := c2
      exact absurd c2 (by omega)
    · have _q := c2
      exact li_throw (X := IAE) (cc := b_Q_checkIndex) htr hx hb (hml.trans hl.1.symm) hlocks hout hown (by decide +kernel) (at_IAE hts hG hT) (hts (Cond.classLink R_Q 74 IAE) (tk4 89 rfl rfl)) (hts (Cond.initialized IAE) (tk1 15 rfl rfl)) (hG.2.1 21 (R_Q, 214, "index is not 0 .. 5") rfl) d_Q_checkIndex_10 d_Q_checkIndex_13 d_Q_checkIndex_14 d_Q_checkIndex_16 d_Q_checkIndex_19 (Nat.le_of_ble_eq_true rfl) (Nat.le_of_ble_eq_true rfl) (Nat.le_of_ble_eq_true rfl) (Nat.le_of_ble_eq_true rfl)
set_option maxHeartbeats 4000000 in
set_option maxRecDepth 100000 in
theorem t_Q_cut (l : Launch) (hlT : l.stackTraces = false) (dC : Nat → ClassId) (dI : Nat → Nat → Nat) (kA : Nat → ClassId) (qo : Nat) (qa : Nat → Nat) (qbc : Int) (qll : Int) (qfc : Int) (qfp : Int) (n : Int) (hbc : 0 ≤ qbc ∧ qbc ≤ 400) (hn : n < 0 ∨ qbc < n) (hrg : -2147483648 ≤ n ∧ n < 2147483648) : MetT l y_Q_cut (wsy y_Q_cut b_Q_cut 3 (some .int)) (rmd 6 1 6) (li_PrT (dC, dI) CL (TY kA) [.ref qo, .int (iI n)] (va_P (dC, dI) CL [(qo, .inr (0, [.ref (qa 0), .int (iI qbc), .ref (qa 1), .int (iI qll), .ref (qa 2), .ref (qa 3), .int (iI qfc), .int (iI qfp), .ref (qa 4), .ref (qa 5), .ref (qa 6), .ref (qa 7), .ref (qa 8), .ref (qa 9)]))])) IAE := by
  refine li_metT hlT (by decide) (Nat.le_of_ble_eq_true rfl) ?_
  intro p e s m below meth c C htr hout hP hK hN hG hT ls hl
  obtain ⟨hx, hb, hr, hml, hown, hts, hlocks, hin⟩ := C
  have hown : s.vm.findClass R_Q = some m.cls := hown
  have hP : va_P (dC, dI) CL [(qo, .inr (0, [.ref (qa 0), .int (iI qbc), .ref (qa 1), .int (iI qll), .ref (qa 2), .ref (qa 3), .int (iI qfc), .int (iI qfp), .ref (qa 4), .ref (qa 5), .ref (qa 6), .ref (qa 7), .ref (qa 8), .ref (qa 9)]))] s.heap := hP
  have hl : lv_has ls 3 [(0, .ref qo), (1, .int (iI n))] := hl
  refine lv_iload_n hx hb d_Q_cut_0 rfl (lv_at hl 1 rfl) ?_
  refine li_if_lt (tgt := 12) hx hb d_Q_cut_1 (by decide) (by omega) (fun c1 => ?_) (fun c1 => ?_)
  · have _q := c1
    exact li_throw (X := IAE) (cc := b_Q_cut) htr hx hb (hml.trans hl.1.symm) hlocks hout hown (by decide +kernel) (at_IAE hts hG hT) (hts (Cond.classLink R_Q 74 IAE) (tk4 89 rfl rfl)) (hts (Cond.initialized IAE) (tk1 15 rfl rfl)) (hG.2.1 17 (R_Q, 93, "there are not so many bytes") rfl) d_Q_cut_12 d_Q_cut_15 d_Q_cut_16 d_Q_cut_18 d_Q_cut_21 (Nat.le_of_ble_eq_true rfl) (Nat.le_of_ble_eq_true rfl) (Nat.le_of_ble_eq_true rfl) (Nat.le_of_ble_eq_true rfl)
  · have _q := c1
    refine lv_iload_n hx hb d_Q_cut_4 rfl (lv_at hl 1 rfl) ?_
    refine lv_aload_n hx hb d_Q_cut_5 rfl (lv_at hl 0 rfl) ?_
    refine gf_Q_81 hx hb hts hown hK hP 0 rfl rfl d_Q_cut_6 ?_
    refine li_icmp_le (tgt := 22) hx hb d_Q_cut_9 (by decide) (by omega) (by omega) (fun c2 => ?_) (fun c2 => ?_)
    · have _q := c2
      exact absurd c2 (by omega)
    · have _q := c2
      exact li_throw (X := IAE) (cc := b_Q_cut) htr hx hb (hml.trans hl.1.symm) hlocks hout hown (by decide +kernel) (at_IAE hts hG hT) (hts (Cond.classLink R_Q 74 IAE) (tk4 89 rfl rfl)) (hts (Cond.initialized IAE) (tk1 15 rfl rfl)) (hG.2.1 17 (R_Q, 93, "there are not so many bytes") rfl) d_Q_cut_12 d_Q_cut_15 d_Q_cut_16 d_Q_cut_18 d_Q_cut_21 (Nat.le_of_ble_eq_true rfl) (Nat.le_of_ble_eq_true rfl) (Nat.le_of_ble_eq_true rfl) (Nat.le_of_ble_eq_true rfl)
set_option maxHeartbeats 4000000 in
set_option maxRecDepth 100000 in
theorem t_Q_feed (l : Launch) (hlT : l.stackTraces = false) (dC : Nat → ClassId) (dI : Nat → Nat → Nat) (kA : Nat → ClassId) (qo : Nat) (qa : Nat → Nat) (qbc : Int) (qll : Int) (qfc : Int) (qfp : Int) (n : Int) (pa : Int) (pb : Int) (pc : Int) (pd : Int) (hn : n < 0 ∨ 16 < n) (hrg : -2147483648 ≤ n ∧ n < 2147483648) : MetT l y_Q_feed (wsy y_Q_feed b_Q_feed 6 (some .int)) (rmd 6 1 6) (li_PrT (dC, dI) CL (TY kA) [.ref qo, .int (iI n), .int (iI pa), .int (iI pb), .int (iI pc), .int (iI pd)] (va_P (dC, dI) CL [(qo, .inr (0, [.ref (qa 0), .int (iI qbc), .ref (qa 1), .int (iI qll), .ref (qa 2), .ref (qa 3), .int (iI qfc), .int (iI qfp), .ref (qa 4), .ref (qa 5), .ref (qa 6), .ref (qa 7), .ref (qa 8), .ref (qa 9)]))])) IAE := by
  refine li_metT hlT (by decide) (Nat.le_of_ble_eq_true rfl) ?_
  intro p e s m below meth c C htr hout hP hK hN hG hT ls hl
  obtain ⟨hx, hb, hr, hml, hown, hts, hlocks, hin⟩ := C
  have hown : s.vm.findClass R_Q = some m.cls := hown
  have hP : va_P (dC, dI) CL [(qo, .inr (0, [.ref (qa 0), .int (iI qbc), .ref (qa 1), .int (iI qll), .ref (qa 2), .ref (qa 3), .int (iI qfc), .int (iI qfp), .ref (qa 4), .ref (qa 5), .ref (qa 6), .ref (qa 7), .ref (qa 8), .ref (qa 9)]))] s.heap := hP
  have hl : lv_has ls 6 [(0, .ref qo), (1, .int (iI n)), (2, .int (iI pa)), (3, .int (iI pb)), (4, .int (iI pc)), (5, .int (iI pd))] := hl
  refine lv_iload_n hx hb d_Q_feed_0 rfl (lv_at hl 1 rfl) ?_
  refine li_if_lt (tgt := 10) hx hb d_Q_feed_1 (by decide) (by omega) (fun c1 => ?_) (fun c1 => ?_)
  · have _q := c1
    exact li_throw (X := IAE) (cc := b_Q_feed) htr hx hb (hml.trans hl.1.symm) hlocks hout hown (by decide +kernel) (at_IAE hts hG hT) (hts (Cond.classLink R_Q 74 IAE) (tk4 89 rfl rfl)) (hts (Cond.initialized IAE) (tk1 15 rfl rfl)) (hG.2.1 15 (R_Q, 76, "many is not 0 .. 16") rfl) d_Q_feed_10 d_Q_feed_13 d_Q_feed_14 d_Q_feed_16 d_Q_feed_19 (Nat.le_of_ble_eq_true rfl) (Nat.le_of_ble_eq_true rfl) (Nat.le_of_ble_eq_true rfl) (Nat.le_of_ble_eq_true rfl)
  · have _q := c1
    refine lv_iload_n hx hb d_Q_feed_4 rfl (lv_at hl 1 rfl) ?_
    refine lv_bipush (v := iI 16) hx hb d_Q_feed_5 (by decide) ?_
    refine li_icmp_le (tgt := 20) hx hb d_Q_feed_7 (by decide) (by omega) (by omega) (fun c2 => ?_) (fun c2 => ?_)
    · have _q := c2
      exact absurd c2 (by omega)
    · have _q := c2
      exact li_throw (X := IAE) (cc := b_Q_feed) htr hx hb (hml.trans hl.1.symm) hlocks hout hown (by decide +kernel) (at_IAE hts hG hT) (hts (Cond.classLink R_Q 74 IAE) (tk4 89 rfl rfl)) (hts (Cond.initialized IAE) (tk1 15 rfl rfl)) (hG.2.1 15 (R_Q, 76, "many is not 0 .. 16") rfl) d_Q_feed_10 d_Q_feed_13 d_Q_feed_14 d_Q_feed_16 d_Q_feed_19 (Nat.le_of_ble_eq_true rfl) (Nat.le_of_ble_eq_true rfl) (Nat.le_of_ble_eq_true rfl) (Nat.le_of_ble_eq_true rfl)
set_option maxHeartbeats 4000000 in
set_option maxRecDepth 100000 in
theorem t_Q_feed2 (l : Launch) (hlT : l.stackTraces = false) (dC : Nat → ClassId) (dI : Nat → Nat → Nat) (kA : Nat → ClassId) (qo : Nat) (qa : Nat → Nat) (qbc : Int) (qll : Int) (qfc : Int) (qfp : Int) (n : Int) (pa : Int) (pb : Int) (pc : Int) (pd : Int) (hbc : 0 ≤ qbc ∧ qbc ≤ 400) (hn : 0 ≤ n ∧ n ≤ 16 ∧ 400 < qbc + n) : MetT l y_Q_feed (wsy y_Q_feed b_Q_feed 6 (some .int)) (rmd 6 1 6) (li_PrT (dC, dI) CL (TY kA) [.ref qo, .int (iI n), .int (iI pa), .int (iI pb), .int (iI pc), .int (iI pd)] (va_P (dC, dI) CL [(qo, .inr (0, [.ref (qa 0), .int (iI qbc), .ref (qa 1), .int (iI qll), .ref (qa 2), .ref (qa 3), .int (iI qfc), .int (iI qfp), .ref (qa 4), .ref (qa 5), .ref (qa 6), .ref (qa 7), .ref (qa 8), .ref (qa 9)]))])) ISE := by
  refine li_metT hlT (by decide) (Nat.le_of_ble_eq_true rfl) ?_
  intro p e s m below meth c C htr hout hP hK hN hG hT ls hl
  obtain ⟨hx, hb, hr, hml, hown, hts, hlocks, hin⟩ := C
  have hown : s.vm.findClass R_Q = some m.cls := hown
  have hP : va_P (dC, dI) CL [(qo, .inr (0, [.ref (qa 0), .int (iI qbc), .ref (qa 1), .int (iI qll), .ref (qa 2), .ref (qa 3), .int (iI qfc), .int (iI qfp), .ref (qa 4), .ref (qa 5), .ref (qa 6), .ref (qa 7), .ref (qa 8), .ref (qa 9)]))] s.heap := hP
  have hl : lv_has ls 6 [(0, .ref qo), (1, .int (iI n)), (2, .int (iI pa)), (3, .int (iI pb)), (4, .int (iI pc)), (5, .int (iI pd))] := hl
  refine lv_iload_n hx hb d_Q_feed_0 rfl (lv_at hl 1 rfl) ?_
  refine li_if_lt (tgt := 10) hx hb d_Q_feed_1 (by decide) (by omega) (fun c1 => ?_) (fun c1 => ?_)
  · have _q := c1
    exact absurd c1 (by omega)
  · have _q := c1
    refine lv_iload_n hx hb d_Q_feed_4 rfl (lv_at hl 1 rfl) ?_
    refine lv_bipush (v := iI 16) hx hb d_Q_feed_5 (by decide) ?_
    refine li_icmp_le (tgt := 20) hx hb d_Q_feed_7 (by decide) (by omega) (by omega) (fun c2 => ?_) (fun c2 => ?_)
    · have _q := c2
      refine lv_aload_n hx hb d_Q_feed_20 rfl (lv_at hl 0 rfl) ?_
      refine gf_Q_81 hx hb hts hown hK hP 0 rfl rfl d_Q_feed_21 ?_
      refine lv_iload_n hx hb d_Q_feed_24 rfl (lv_at hl 1 rfl) ?_
      refine li_iadd hx hb d_Q_feed_25 ?_
      refine lv_sipush (v := iI 400) hx hb d_Q_feed_26 (by decide) ?_
      refine li_icmp_le (tgt := 42) hx hb d_Q_feed_29 (by decide) (by omega) (by omega) (fun c3 => ?_) (fun c3 => ?_)
      · have _q := c3
        exact absurd c3 (by omega)
      · have _q := c3
        exact li_throw (X := ISE) (cc := b_Q_feed) htr hx hb (hml.trans hl.1.symm) hlocks hout hown (by decide +kernel) (at_ISE hts hG hT) (hts (Cond.classLink R_Q 84 ISE) (tk4 155 rfl rfl)) (hts (Cond.initialized ISE) (tk1 16 rfl rfl)) (hG.2.1 16 (R_Q, 86, "there would be more than 400 bytes") rfl) d_Q_feed_32 d_Q_feed_35 d_Q_feed_36 d_Q_feed_38 d_Q_feed_41 (Nat.le_of_ble_eq_true rfl) (Nat.le_of_ble_eq_true rfl) (Nat.le_of_ble_eq_true rfl) (Nat.le_of_ble_eq_true rfl)
    · have _q := c2
      exact absurd c2 (by omega)
set_option maxHeartbeats 4000000 in
set_option maxRecDepth 100000 in
theorem t_Q_type (l : Launch) (hlT : l.stackTraces = false) (dC : Nat → ClassId) (dI : Nat → Nat → Nat) (kA : Nat → ClassId) (qo : Nat) (qa : Nat → Nat) (qbc : Int) (qll : Int) (qfc : Int) (qfp : Int) (pa : Int) (pb : Int) (pc : Int) (pd : Int) (pe : Int) (hll : 0 ≤ qll ∧ qll ≤ 100) (hfit : 100 < qll + (ciM pa + ciM pb + ciM pc + ciM pd + ciM pe)) : MetT l y_Q_type (wsy y_Q_type b_Q_type 7 (some .int)) (rmd 6 1 6) (li_PrT (dC, dI) CL (TY kA) [.ref qo, .int (iI pa), .int (iI pb), .int (iI pc), .int (iI pd), .int (iI pe)] (va_P (dC, dI) CL [(qo, .inr (0, [.ref (qa 0), .int (iI qbc), .ref (qa 1), .int (iI qll), .ref (qa 2), .ref (qa 3), .int (iI qfc), .int (iI qfp), .ref (qa 4), .ref (qa 5), .ref (qa 6), .ref (qa 7), .ref (qa 8), .ref (qa 9)]))])) ISE := by
  refine li_metT hlT (by decide) (Nat.le_of_ble_eq_true rfl) ?_
  intro p e s m below meth c C htr hout hP hK hN hG hT ls hl
  obtain ⟨hx, hb, hr, hml, hown, hts, hlocks, hin⟩ := C
  have hown : s.vm.findClass R_Q = some m.cls := hown
  have hP : va_P (dC, dI) CL [(qo, .inr (0, [.ref (qa 0), .int (iI qbc), .ref (qa 1), .int (iI qll), .ref (qa 2), .ref (qa 3), .int (iI qfc), .int (iI qfp), .ref (qa 4), .ref (qa 5), .ref (qa 6), .ref (qa 7), .ref (qa 8), .ref (qa 9)]))] s.heap := hP
  have hl : lv_has ls 7 [(0, .ref qo), (1, .int (iI pa)), (2, .int (iI pb)), (3, .int (iI pc)), (4, .int (iI pd)), (5, .int (iI pe))] := hl
  have hr_a := ciM_r pa
  have hr_b := ciM_r pb
  have hr_c := ciM_r pc
  have hr_d := ciM_r pd
  have hr_e := ciM_r pe
  refine lv_iload_n hx hb d_Q_type_0 rfl (lv_at hl 1 rfl) ?_
  refine li_callr ((va_runS (As := [.int (iI pa)]) (rest := []) ⟨hx, hb, hml, hown, hts⟩ (c_Q_charactersIn l dC dI kA pa ) (cw_Q_126 hts rfl rfl ⟨Nat.le_of_ble_eq_true rfl, Nat.le_of_ble_eq_true rfl⟩) (li_preS va_Pnil hK hN hG.rd) rfl rfl hl.1 rfl (lv_room (Nat.le_of_ble_eq_true rfl)) d_Q_type_1 ⟨(by show 0 + 0 ≤ 1; omega), (by show 0 + 0 ≤ 6; omega)⟩).run) ?_
  refine lv_iload_n hx hb d_Q_type_4 rfl (lv_at hl 2 rfl) ?_
  refine li_callr ((va_runS (As := [.int (iI pb)]) (rest := [.int (iI (ciM pa))]) ⟨hx, hb, hml, hown, hts⟩ (c_Q_charactersIn l dC dI kA pb ) (cw_Q_126 hts rfl rfl ⟨Nat.le_of_ble_eq_true rfl, Nat.le_of_ble_eq_true rfl⟩) (li_preS va_Pnil hK hN hG.rd) rfl rfl hl.1 rfl (lv_room (Nat.le_of_ble_eq_true rfl)) d_Q_type_5 ⟨(by show 0 + 0 ≤ 1; omega), (by show 0 + 0 ≤ 6; omega)⟩).run) ?_
  refine li_iadd hx hb d_Q_type_8 ?_
  refine lv_iload_n hx hb d_Q_type_9 rfl (lv_at hl 3 rfl) ?_
  refine li_callr ((va_runS (As := [.int (iI pc)]) (rest := [.int (iI ((ciM pa) + (ciM pb)))]) ⟨hx, hb, hml, hown, hts⟩ (c_Q_charactersIn l dC dI kA pc ) (cw_Q_126 hts rfl rfl ⟨Nat.le_of_ble_eq_true rfl, Nat.le_of_ble_eq_true rfl⟩) (li_preS va_Pnil hK hN hG.rd) rfl rfl hl.1 rfl (lv_room (Nat.le_of_ble_eq_true rfl)) d_Q_type_10 ⟨(by show 0 + 0 ≤ 1; omega), (by show 0 + 0 ≤ 6; omega)⟩).run) ?_
  refine li_iadd hx hb d_Q_type_13 ?_
  refine lv_iload hx hb d_Q_type_14 (lv_at hl 4 rfl) ?_
  refine li_callr ((va_runS (As := [.int (iI pd)]) (rest := [.int (iI (((ciM pa) + (ciM pb)) + (ciM pc)))]) ⟨hx, hb, hml, hown, hts⟩ (c_Q_charactersIn l dC dI kA pd ) (cw_Q_126 hts rfl rfl ⟨Nat.le_of_ble_eq_true rfl, Nat.le_of_ble_eq_true rfl⟩) (li_preS va_Pnil hK hN hG.rd) rfl rfl hl.1 rfl (lv_room (Nat.le_of_ble_eq_true rfl)) d_Q_type_16 ⟨(by show 0 + 0 ≤ 1; omega), (by show 0 + 0 ≤ 6; omega)⟩).run) ?_
  refine li_iadd hx hb d_Q_type_19 ?_
  refine lv_iload hx hb d_Q_type_20 (lv_at hl 5 rfl) ?_
  refine li_callr ((va_runS (As := [.int (iI pe)]) (rest := [.int (iI ((((ciM pa) + (ciM pb)) + (ciM pc)) + (ciM pd)))]) ⟨hx, hb, hml, hown, hts⟩ (c_Q_charactersIn l dC dI kA pe ) (cw_Q_126 hts rfl rfl ⟨Nat.le_of_ble_eq_true rfl, Nat.le_of_ble_eq_true rfl⟩) (li_preS va_Pnil hK hN hG.rd) rfl rfl hl.1 rfl (lv_room (Nat.le_of_ble_eq_true rfl)) d_Q_type_22 ⟨(by show 0 + 0 ≤ 1; omega), (by show 0 + 0 ≤ 6; omega)⟩).run) ?_
  refine li_iadd hx hb d_Q_type_25 ?_
  refine li_nm (fun nc enc => ?_)
  refine lv_istore (lv' := [(6, .int (iI nc)), (0, .ref qo), (1, .int (iI pa)), (2, .int (iI pb)), (3, .int (iI pc)), (4, .int (iI pd)), (5, .int (iI pe))]) hx hb d_Q_type_26 hl (by decide) rfl (fun ls hl => ?_)
  refine lv_aload_n hx hb d_Q_type_28 rfl (lv_at hl 1 rfl) ?_
  refine gf_Q_130 hx hb hts hown hK hP 0 rfl rfl d_Q_type_29 ?_
  refine lv_iload hx hb d_Q_type_32 (lv_at hl 0 rfl) ?_
  refine li_iadd hx hb d_Q_type_34 ?_
  refine lv_bipush (v := iI 100) hx hb d_Q_type_35 (by decide) ?_
  refine li_icmp_le (tgt := 50) hx hb d_Q_type_37 (by decide) (by omega) (by omega) (fun c1 => ?_) (fun c1 => ?_)
  · have _q := c1
    exact absurd c1 (by omega)
  · have _q := c1
    exact li_throw (X := ISE) (cc := b_Q_type) htr hx hb (hml.trans hl.1.symm) hlocks hout hown (by decide +kernel) (at_ISE hts hG hT) (hts (Cond.classLink R_Q 84 ISE) (tk4 155 rfl rfl)) (hts (Cond.initialized ISE) (tk1 16 rfl rfl)) (hG.2.1 19 (R_Q, 133, "the line would have more than 100 characters") rfl) d_Q_type_40 d_Q_type_43 d_Q_type_44 d_Q_type_46 d_Q_type_49 (Nat.le_of_ble_eq_true rfl) (Nat.le_of_ble_eq_true rfl) (Nat.le_of_ble_eq_true rfl) (Nat.le_of_ble_eq_true rfl)
set_option maxHeartbeats 4000000 in
set_option maxRecDepth 100000 in
theorem t_Q_drop (l : Launch) (hlT : l.stackTraces = false) (dC : Nat → ClassId) (dI : Nat → Nat → Nat) (kA : Nat → ClassId) (qo : Nat) (qa : Nat → Nat) (qbc : Int) (qll : Int) (qfc : Int) (qfp : Int) (r : Int) (hr : r < 0 ∨ 9 < r) (hrg : -2147483648 ≤ r ∧ r < 2147483648) : MetT l y_Q_drop (wsy y_Q_drop b_Q_drop 2 (some .boolean)) (rmd 7 1 6) (li_PrT (dC, dI) CL (TY kA) [.ref qo, .int (iI r)] (va_P (dC, dI) CL [(qo, .inr (0, [.ref (qa 0), .int (iI qbc), .ref (qa 1), .int (iI qll), .ref (qa 2), .ref (qa 3), .int (iI qfc), .int (iI qfp), .ref (qa 4), .ref (qa 5), .ref (qa 6), .ref (qa 7), .ref (qa 8), .ref (qa 9)]))])) IAE := by
  refine li_metT hlT (by decide) (Nat.le_of_ble_eq_true rfl) ?_
  intro p e s m below meth c C htr hout hP hK hN hG hT ls hl
  obtain ⟨hx, hb, hr, hml, hown, hts, hlocks, hin⟩ := C
  have hown : s.vm.findClass R_Q = some m.cls := hown
  have hP : va_P (dC, dI) CL [(qo, .inr (0, [.ref (qa 0), .int (iI qbc), .ref (qa 1), .int (iI qll), .ref (qa 2), .ref (qa 3), .int (iI qfc), .int (iI qfp), .ref (qa 4), .ref (qa 5), .ref (qa 6), .ref (qa 7), .ref (qa 8), .ref (qa 9)]))] s.heap := hP
  have hl : lv_has ls 2 [(0, .ref qo), (1, .int (iI r))] := hl
  refine lv_iload_n hx hb d_Q_drop_0 rfl (lv_at hl 1 rfl) ?_
  exact li_throwOut (li_runTS (As := [.int (iI r)]) (rest := []) ⟨hx, hb, hml, hown, hts⟩ (t_Q_checkRecord l hlT dC dI kA r (by omega) (by omega)) (cw_Q_120 hts rfl rfl ⟨Nat.le_of_ble_eq_true rfl, Nat.le_of_ble_eq_true rfl⟩) (li_preST va_Pnil hK hN hG.rd hT.rd) rfl rfl hl.1 rfl (lv_room (Nat.le_of_ble_eq_true rfl)) d_Q_drop_1 ⟨(by show 0 + 1 ≤ 1; omega), (by show 0 + 6 ≤ 6; omega)⟩) hlocks hout
set_option maxHeartbeats 4000000 in
set_option maxRecDepth 100000 in
theorem t_Q_record (l : Launch) (hlT : l.stackTraces = false) (dC : Nat → ClassId) (dI : Nat → Nat → Nat) (kA : Nat → ClassId) (qo : Nat) (qa : Nat → Nat) (qbc : Int) (qll : Int) (qfc : Int) (qfp : Int) (r : Int) (w : Int) (hr : r < 0 ∨ 9 < r) (hrg : -2147483648 ≤ r ∧ r < 2147483648) : MetT l y_Q_record (wsy y_Q_record b_Q_record 4 (some .int)) (rmd 7 1 6) (li_PrT (dC, dI) CL (TY kA) [.ref qo, .int (iI r), .int (iI w)] (va_P (dC, dI) CL [(qo, .inr (0, [.ref (qa 0), .int (iI qbc), .ref (qa 1), .int (iI qll), .ref (qa 2), .ref (qa 3), .int (iI qfc), .int (iI qfp), .ref (qa 4), .ref (qa 5), .ref (qa 6), .ref (qa 7), .ref (qa 8), .ref (qa 9)]))])) IAE := by
  refine li_metT hlT (by decide) (Nat.le_of_ble_eq_true rfl) ?_
  intro p e s m below meth c C htr hout hP hK hN hG hT ls hl
  obtain ⟨hx, hb, hr, hml, hown, hts, hlocks, hin⟩ := C
  have hown : s.vm.findClass R_Q = some m.cls := hown
  have hP : va_P (dC, dI) CL [(qo, .inr (0, [.ref (qa 0), .int (iI qbc), .ref (qa 1), .int (iI qll), .ref (qa 2), .ref (qa 3), .int (iI qfc), .int (iI qfp), .ref (qa 4), .ref (qa 5), .ref (qa 6), .ref (qa 7), .ref (qa 8), .ref (qa 9)]))] s.heap := hP
  have hl : lv_has ls 4 [(0, .ref qo), (1, .int (iI r)), (2, .int (iI w))] := hl
  refine lv_iload_n hx hb d_Q_record_0 rfl (lv_at hl 1 rfl) ?_
  exact li_throwOut (li_runTS (As := [.int (iI r)]) (rest := []) ⟨hx, hb, hml, hown, hts⟩ (t_Q_checkRecord l hlT dC dI kA r (by omega) (by omega)) (cw_Q_120 hts rfl rfl ⟨Nat.le_of_ble_eq_true rfl, Nat.le_of_ble_eq_true rfl⟩) (li_preST va_Pnil hK hN hG.rd hT.rd) rfl rfl hl.1 rfl (lv_room (Nat.le_of_ble_eq_true rfl)) d_Q_record_1 ⟨(by show 0 + 1 ≤ 1; omega), (by show 0 + 6 ≤ 6; omega)⟩) hlocks hout
set_option maxHeartbeats 4000000 in
set_option maxRecDepth 100000 in
theorem t_Q_octet (l : Launch) (hlT : l.stackTraces = false) (dC : Nat → ClassId) (dI : Nat → Nat → Nat) (kA : Nat → ClassId) (qo : Nat) (qa : Nat → Nat) (qbc : Int) (qll : Int) (qfc : Int) (qfp : Int) (r : Int) (k : Int) (hr : r < 0 ∨ 9 < r) (hrg : -2147483648 ≤ r ∧ r < 2147483648) : MetT l y_Q_octet (wsy y_Q_octet b_Q_octet 4 (some .int)) (rmd 7 1 6) (li_PrT (dC, dI) CL (TY kA) [.ref qo, .int (iI r), .int (iI k)] (va_P (dC, dI) CL [(qo, .inr (0, [.ref (qa 0), .int (iI qbc), .ref (qa 1), .int (iI qll), .ref (qa 2), .ref (qa 3), .int (iI qfc), .int (iI qfp), .ref (qa 4), .ref (qa 5), .ref (qa 6), .ref (qa 7), .ref (qa 8), .ref (qa 9)]))])) IAE := by
  refine li_metT hlT (by decide) (Nat.le_of_ble_eq_true rfl) ?_
  intro p e s m below meth c C htr hout hP hK hN hG hT ls hl
  obtain ⟨hx, hb, hr, hml, hown, hts, hlocks, hin⟩ := C
  have hown : s.vm.findClass R_Q = some m.cls := hown
  have hP : va_P (dC, dI) CL [(qo, .inr (0, [.ref (qa 0), .int (iI qbc), .ref (qa 1), .int (iI qll), .ref (qa 2), .ref (qa 3), .int (iI qfc), .int (iI qfp), .ref (qa 4), .ref (qa 5), .ref (qa 6), .ref (qa 7), .ref (qa 8), .ref (qa 9)]))] s.heap := hP
  have hl : lv_has ls 4 [(0, .ref qo), (1, .int (iI r)), (2, .int (iI k))] := hl
  refine lv_iload_n hx hb d_Q_octet_0 rfl (lv_at hl 1 rfl) ?_
  exact li_throwOut (li_runTS (As := [.int (iI r)]) (rest := []) ⟨hx, hb, hml, hown, hts⟩ (t_Q_checkRecord l hlT dC dI kA r (by omega) (by omega)) (cw_Q_120 hts rfl rfl ⟨Nat.le_of_ble_eq_true rfl, Nat.le_of_ble_eq_true rfl⟩) (li_preST va_Pnil hK hN hG.rd hT.rd) rfl rfl hl.1 rfl (lv_room (Nat.le_of_ble_eq_true rfl)) d_Q_octet_1 ⟨(by show 0 + 1 ≤ 1; omega), (by show 0 + 6 ≤ 6; omega)⟩) hlocks hout
set_option maxHeartbeats 4000000 in
set_option maxRecDepth 100000 in
theorem t_Q_words (l : Launch) (hlT : l.stackTraces = false) (dC : Nat → ClassId) (dI : Nat → Nat → Nat) (kA : Nat → ClassId) (qo : Nat) (qa : Nat → Nat) (qbc : Int) (qll : Int) (qfc : Int) (qfp : Int) (r : Int) (hr : r < 0 ∨ 5 < r) (hrg : -2147483648 ≤ r ∧ r < 2147483648) : MetT l y_Q_words (wsy y_Q_words b_Q_words 2 (some .int)) (rmd 7 1 6) (li_PrT (dC, dI) CL (TY kA) [.ref qo, .int (iI r)] (va_P (dC, dI) CL [(qo, .inr (0, [.ref (qa 0), .int (iI qbc), .ref (qa 1), .int (iI qll), .ref (qa 2), .ref (qa 3), .int (iI qfc), .int (iI qfp), .ref (qa 4), .ref (qa 5), .ref (qa 6), .ref (qa 7), .ref (qa 8), .ref (qa 9)]))])) IAE := by
  refine li_metT hlT (by decide) (Nat.le_of_ble_eq_true rfl) ?_
  intro p e s m below meth c C htr hout hP hK hN hG hT ls hl
  obtain ⟨hx, hb, hr, hml, hown, hts, hlocks, hin⟩ := C
  have hown : s.vm.findClass R_Q = some m.cls := hown
  have hP : va_P (dC, dI) CL [(qo, .inr (0, [.ref (qa 0), .int (iI qbc), .ref (qa 1), .int (iI qll), .ref (qa 2), .ref (qa 3), .int (iI qfc), .int (iI qfp), .ref (qa 4), .ref (qa 5), .ref (qa 6), .ref (qa 7), .ref (qa 8), .ref (qa 9)]))] s.heap := hP
  have hl : lv_has ls 2 [(0, .ref qo), (1, .int (iI r))] := hl
  refine lv_iload_n hx hb d_Q_words_0 rfl (lv_at hl 1 rfl) ?_
  exact li_throwOut (li_runTS (As := [.int (iI r)]) (rest := []) ⟨hx, hb, hml, hown, hts⟩ (t_Q_checkIndex l hlT dC dI kA r (by omega) (by omega)) (cw_Q_187 hts rfl rfl ⟨Nat.le_of_ble_eq_true rfl, Nat.le_of_ble_eq_true rfl⟩) (li_preST va_Pnil hK hN hG.rd hT.rd) rfl rfl hl.1 rfl (lv_room (Nat.le_of_ble_eq_true rfl)) d_Q_words_1 ⟨(by show 0 + 1 ≤ 1; omega), (by show 0 + 6 ≤ 6; omega)⟩) hlocks hout
set_option maxHeartbeats 4000000 in
set_option maxRecDepth 100000 in
theorem t_Q_word (l : Launch) (hlT : l.stackTraces = false) (dC : Nat → ClassId) (dI : Nat → Nat → Nat) (kA : Nat → ClassId) (qo : Nat) (qa : Nat → Nat) (qbc : Int) (qll : Int) (qfc : Int) (qfp : Int) (r : Int) (k : Int) (i : Int) (hr : r < 0 ∨ 5 < r) (hrg : -2147483648 ≤ r ∧ r < 2147483648) : MetT l y_Q_word (wsy y_Q_word b_Q_word 4 (some .char)) (rmd 7 1 6) (li_PrT (dC, dI) CL (TY kA) [.ref qo, .int (iI r), .int (iI k), .int (iI i)] (va_P (dC, dI) CL [(qo, .inr (0, [.ref (qa 0), .int (iI qbc), .ref (qa 1), .int (iI qll), .ref (qa 2), .ref (qa 3), .int (iI qfc), .int (iI qfp), .ref (qa 4), .ref (qa 5), .ref (qa 6), .ref (qa 7), .ref (qa 8), .ref (qa 9)]))])) IAE := by
  refine li_metT hlT (by decide) (Nat.le_of_ble_eq_true rfl) ?_
  intro p e s m below meth c C htr hout hP hK hN hG hT ls hl
  obtain ⟨hx, hb, hr, hml, hown, hts, hlocks, hin⟩ := C
  have hown : s.vm.findClass R_Q = some m.cls := hown
  have hP : va_P (dC, dI) CL [(qo, .inr (0, [.ref (qa 0), .int (iI qbc), .ref (qa 1), .int (iI qll), .ref (qa 2), .ref (qa 3), .int (iI qfc), .int (iI qfp), .ref (qa 4), .ref (qa 5), .ref (qa 6), .ref (qa 7), .ref (qa 8), .ref (qa 9)]))] s.heap := hP
  have hl : lv_has ls 4 [(0, .ref qo), (1, .int (iI r)), (2, .int (iI k)), (3, .int (iI i))] := hl
  refine lv_iload_n hx hb d_Q_word_0 rfl (lv_at hl 1 rfl) ?_
  exact li_throwOut (li_runTS (As := [.int (iI r)]) (rest := []) ⟨hx, hb, hml, hown, hts⟩ (t_Q_checkIndex l hlT dC dI kA r (by omega) (by omega)) (cw_Q_187 hts rfl rfl ⟨Nat.le_of_ble_eq_true rfl, Nat.le_of_ble_eq_true rfl⟩) (li_preST va_Pnil hK hN hG.rd hT.rd) rfl rfl hl.1 rfl (lv_room (Nat.le_of_ble_eq_true rfl)) d_Q_word_1 ⟨(by show 0 + 1 ≤ 1; omega), (by show 0 + 6 ≤ 6; omega)⟩) hlocks hout
set_option maxHeartbeats 4000000 in
set_option maxRecDepth 100000 in
theorem t_Q_hits (l : Launch) (hlT : l.stackTraces = false) (dC : Nat → ClassId) (dI : Nat → Nat → Nat) (kA : Nat → ClassId) (qo : Nat) (qa : Nat → Nat) (qbc : Int) (qll : Int) (qfc : Int) (qfp : Int) (r : Int) (k : Int) (hr : r < 0 ∨ 5 < r) (hrg : -2147483648 ≤ r ∧ r < 2147483648) : MetT l y_Q_hits (wsy y_Q_hits b_Q_hits 3 (some .int)) (rmd 7 1 6) (li_PrT (dC, dI) CL (TY kA) [.ref qo, .int (iI r), .int (iI k)] (va_P (dC, dI) CL [(qo, .inr (0, [.ref (qa 0), .int (iI qbc), .ref (qa 1), .int (iI qll), .ref (qa 2), .ref (qa 3), .int (iI qfc), .int (iI qfp), .ref (qa 4), .ref (qa 5), .ref (qa 6), .ref (qa 7), .ref (qa 8), .ref (qa 9)]))])) IAE := by
  refine li_metT hlT (by decide) (Nat.le_of_ble_eq_true rfl) ?_
  intro p e s m below meth c C htr hout hP hK hN hG hT ls hl
  obtain ⟨hx, hb, hr, hml, hown, hts, hlocks, hin⟩ := C
  have hown : s.vm.findClass R_Q = some m.cls := hown
  have hP : va_P (dC, dI) CL [(qo, .inr (0, [.ref (qa 0), .int (iI qbc), .ref (qa 1), .int (iI qll), .ref (qa 2), .ref (qa 3), .int (iI qfc), .int (iI qfp), .ref (qa 4), .ref (qa 5), .ref (qa 6), .ref (qa 7), .ref (qa 8), .ref (qa 9)]))] s.heap := hP
  have hl : lv_has ls 3 [(0, .ref qo), (1, .int (iI r)), (2, .int (iI k))] := hl
  refine lv_iload_n hx hb d_Q_hits_0 rfl (lv_at hl 1 rfl) ?_
  exact li_throwOut (li_runTS (As := [.int (iI r)]) (rest := []) ⟨hx, hb, hml, hown, hts⟩ (t_Q_checkIndex l hlT dC dI kA r (by omega) (by omega)) (cw_Q_187 hts rfl rfl ⟨Nat.le_of_ble_eq_true rfl, Nat.le_of_ble_eq_true rfl⟩) (li_preST va_Pnil hK hN hG.rd hT.rd) rfl rfl hl.1 rfl (lv_room (Nat.le_of_ble_eq_true rfl)) d_Q_hits_1 ⟨(by show 0 + 1 ≤ 1; omega), (by show 0 + 6 ≤ 6; omega)⟩) hlocks hout
set_option maxHeartbeats 4000000 in
set_option maxRecDepth 100000 in
theorem t_Q_below (l : Launch) (hlT : l.stackTraces = false) (dC : Nat → ClassId) (dI : Nat → Nat → Nat) (kA : Nat → ClassId) (qo : Nat) (qa : Nat → Nat) (qbc : Int) (qll : Int) (qfc : Int) (qfp : Int) (r : Int) (hr : r < 0 ∨ 5 < r) (hrg : -2147483648 ≤ r ∧ r < 2147483648) : MetT l y_Q_below (wsy y_Q_below b_Q_below 3 (some .int)) (rmd 7 1 6) (li_PrT (dC, dI) CL (TY kA) [.ref qo, .int (iI r)] (va_P (dC, dI) CL [(qo, .inr (0, [.ref (qa 0), .int (iI qbc), .ref (qa 1), .int (iI qll), .ref (qa 2), .ref (qa 3), .int (iI qfc), .int (iI qfp), .ref (qa 4), .ref (qa 5), .ref (qa 6), .ref (qa 7), .ref (qa 8), .ref (qa 9)]))])) IAE := by
  refine li_metT hlT (by decide) (Nat.le_of_ble_eq_true rfl) ?_
  intro p e s m below meth c C htr hout hP hK hN hG hT ls hl
  obtain ⟨hx, hb, hr, hml, hown, hts, hlocks, hin⟩ := C
  have hown : s.vm.findClass R_Q = some m.cls := hown
  have hP : va_P (dC, dI) CL [(qo, .inr (0, [.ref (qa 0), .int (iI qbc), .ref (qa 1), .int (iI qll), .ref (qa 2), .ref (qa 3), .int (iI qfc), .int (iI qfp), .ref (qa 4), .ref (qa 5), .ref (qa 6), .ref (qa 7), .ref (qa 8), .ref (qa 9)]))] s.heap := hP
  have hl : lv_has ls 3 [(0, .ref qo), (1, .int (iI r))] := hl
  refine lv_iload_n hx hb d_Q_below_0 rfl (lv_at hl 1 rfl) ?_
  exact li_throwOut (li_runTS (As := [.int (iI r)]) (rest := []) ⟨hx, hb, hml, hown, hts⟩ (t_Q_checkIndex l hlT dC dI kA r (by omega) (by omega)) (cw_Q_187 hts rfl rfl ⟨Nat.le_of_ble_eq_true rfl, Nat.le_of_ble_eq_true rfl⟩) (li_preST va_Pnil hK hN hG.rd hT.rd) rfl rfl hl.1 rfl (lv_room (Nat.le_of_ble_eq_true rfl)) d_Q_below_1 ⟨(by show 0 + 1 ≤ 1; omega), (by show 0 + 6 ≤ 6; omega)⟩) hlocks hout
set_option maxHeartbeats 4000000 in
set_option maxRecDepth 100000 in
theorem t_Q_record2 (l : Launch) (hlT : l.stackTraces = false) (dC : Nat → ClassId) (dI : Nat → Nat → Nat) (kA : Nat → ClassId) (qo : Nat) (qa : Nat → Nat) (qbc : Int) (qll : Int) (qfc : Int) (qfp : Int) (r : Int) (w : Int) (hr : 0 ≤ r ∧ r ≤ 9) (hw : w < 0 ∨ 3 < w) (hrg : -2147483648 ≤ w ∧ w < 2147483648) : MetT l y_Q_record (wsy y_Q_record b_Q_record 4 (some .int)) (rmd 7 1 6) (li_PrT (dC, dI) CL (TY kA) [.ref qo, .int (iI r), .int (iI w)] (va_P (dC, dI) CL [(qo, .inr (0, [.ref (qa 0), .int (iI qbc), .ref (qa 1), .int (iI qll), .ref (qa 2), .ref (qa 3), .int (iI qfc), .int (iI qfp), .ref (qa 4), .ref (qa 5), .ref (qa 6), .ref (qa 7), .ref (qa 8), .ref (qa 9)]))])) IAE := by
  refine li_metT hlT (by decide) (Nat.le_of_ble_eq_true rfl) ?_
  intro p e s m below meth c C htr hout hP hK hN hG hT ls hl
  obtain ⟨hx, hb, hr, hml, hown, hts, hlocks, hin⟩ := C
  have hown : s.vm.findClass R_Q = some m.cls := hown
  have hP : va_P (dC, dI) CL [(qo, .inr (0, [.ref (qa 0), .int (iI qbc), .ref (qa 1), .int (iI qll), .ref (qa 2), .ref (qa 3), .int (iI qfc), .int (iI qfp), .ref (qa 4), .ref (qa 5), .ref (qa 6), .ref (qa 7), .ref (qa 8), .ref (qa 9)]))] s.heap := hP
  have hl : lv_has ls 4 [(0, .ref qo), (1, .int (iI r)), (2, .int (iI w))] := hl
  refine lv_iload_n hx hb d_Q_record_0 rfl (lv_at hl 1 rfl) ?_
  refine li_callrv ((va_runS (As := [.int (iI r)]) (rest := []) ⟨hx, hb, hml, hown, hts⟩ (c_Q_checkRecord l dC dI kA r (by omega)) (cw_Q_120 hts rfl rfl ⟨Nat.le_of_ble_eq_true rfl, Nat.le_of_ble_eq_true rfl⟩) (li_preS va_Pnil hK hN hG.rd) rfl rfl hl.1 rfl (lv_room (Nat.le_of_ble_eq_true rfl)) d_Q_record_1 ⟨(by show 0 + 0 ≤ 1; omega), (by show 0 + 0 ≤ 6; omega)⟩).run) ?_
  refine lv_iload_n hx hb d_Q_record_4 rfl (lv_at hl 2 rfl) ?_
  refine li_if_lt (tgt := 13) hx hb d_Q_record_5 (by decide) (by omega) (fun c1 => ?_) (fun c1 => ?_)
  · have _q := c1
    exact li_throw (X := IAE) (cc := b_Q_record) htr hx hb (hml.trans hl.1.symm) hlocks hout hown (by decide +kernel) (at_IAE hts hG hT) (hts (Cond.classLink R_Q 74 IAE) (tk4 89 rfl rfl)) (hts (Cond.initialized IAE) (tk1 15 rfl rfl)) (hG.2.1 20 (R_Q, 173, "what is not 0 .. 3") rfl) d_Q_record_13 d_Q_record_16 d_Q_record_17 d_Q_record_19 d_Q_record_22 (Nat.le_of_ble_eq_true rfl) (Nat.le_of_ble_eq_true rfl) (Nat.le_of_ble_eq_true rfl) (Nat.le_of_ble_eq_true rfl)
  · have _q := c1
    refine lv_iload_n hx hb d_Q_record_8 rfl (lv_at hl 2 rfl) ?_
    refine lv_iconst (v := iI 3) hx hb d_Q_record_9 rfl ?_
    refine li_icmp_le (tgt := 23) hx hb d_Q_record_10 (by decide) (by omega) (by omega) (fun c2 => ?_) (fun c2 => ?_)
    · have _q := c2
      exact absurd c2 (by omega)
    · have _q := c2
      exact li_throw (X := IAE) (cc := b_Q_record) htr hx hb (hml.trans hl.1.symm) hlocks hout hown (by decide +kernel) (at_IAE hts hG hT) (hts (Cond.classLink R_Q 74 IAE) (tk4 89 rfl rfl)) (hts (Cond.initialized IAE) (tk1 15 rfl rfl)) (hG.2.1 20 (R_Q, 173, "what is not 0 .. 3") rfl) d_Q_record_13 d_Q_record_16 d_Q_record_17 d_Q_record_19 d_Q_record_22 (Nat.le_of_ble_eq_true rfl) (Nat.le_of_ble_eq_true rfl) (Nat.le_of_ble_eq_true rfl) (Nat.le_of_ble_eq_true rfl)

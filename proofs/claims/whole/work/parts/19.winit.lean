theorem df_Q : ∀ j, j < 14 → defaultValue (t_Q j) = vp_V [.null, .int (iI 0), .null, .int (iI 0), .null, .null, .int (iI 0), .int (iI 0), .null, .null, .null, .null, .null, .null] j := by
  intro j hj
  match j, hj with
  | 0, _ => rfl
  | 1, _ => rfl
  | 2, _ => rfl
  | 3, _ => rfl
  | 4, _ => rfl
  | 5, _ => rfl
  | 6, _ => rfl
  | 7, _ => rfl
  | 8, _ => rfl
  | 9, _ => rfl
  | 10, _ => rfl
  | 11, _ => rfl
  | 12, _ => rfl
  | 13, _ => rfl
  | j + 14, h => exact absurd h (by omega)
theorem df_C : ∀ j, j < 5 → defaultValue (t_C j) = vp_V [.int (iI 0), .int (iI 0), .int (iI 0), .int (iI 0), .int (iI 0)] j := by
  intro j hj
  match j, hj with
  | 0, _ => rfl
  | 1, _ => rfl
  | 2, _ => rfl
  | 3, _ => rfl
  | 4, _ => rfl
  | j + 5, h => exact absurd h (by omega)
theorem df_H : ∀ j, j < 7 → defaultValue (t_H j) = vp_V [.null, .int (iI 0), .null, .null, .null, .null, .int (iI 0)] j := by
  intro j hj
  match j, hj with
  | 0, _ => rfl
  | 1, _ => rfl
  | 2, _ => rfl
  | 3, _ => rfl
  | 4, _ => rfl
  | 5, _ => rfl
  | 6, _ => rfl
  | j + 7, h => exact absurd h (by omega)
theorem df_I : ∀ j, j < 7 → defaultValue (t_I j) = vp_V [.null, .int (iI 0), .int (iI 0), .int (iI 0), .int (iI 0), .int (iI 0), .int (iI 0)] j := by
  intro j hj
  match j, hj with
  | 0, _ => rfl
  | 1, _ => rfl
  | 2, _ => rfl
  | 3, _ => rfl
  | 4, _ => rfl
  | 5, _ => rfl
  | 6, _ => rfl
  | j + 7, h => exact absurd h (by omega)
theorem df_J : ∀ j, j < 5 → defaultValue (t_J j) = vp_V [.null, .null, .null, .null, .int (iI 0)] j := by
  intro j hj
  match j, hj with
  | 0, _ => rfl
  | 1, _ => rfl
  | 2, _ => rfl
  | 3, _ => rfl
  | 4, _ => rfl
  | j + 5, h => exact absurd h (by omega)
theorem df_L : ∀ j, j < 7 → defaultValue (t_L j) = vp_V [.null, .int (iI 0), .null, .null, .null, .int (iI 0), .int (iI (bI false))] j := by
  intro j hj
  match j, hj with
  | 0, _ => rfl
  | 1, _ => rfl
  | 2, _ => rfl
  | 3, _ => rfl
  | 4, _ => rfl
  | 5, _ => rfl
  | 6, _ => rfl
  | j + 7, h => exact absurd h (by omega)
theorem df_Y : ∀ j, j < 12 → defaultValue (t_Y j) = vp_V [.null, .int (iI 0), .null, .int (iI 0), .null, .int (iI 0), .int (iI 0), .int (iI (bI false)), .int (iI 0), .int (iI 0), .null, .null] j := by
  intro j hj
  match j, hj with
  | 0, _ => rfl
  | 1, _ => rfl
  | 2, _ => rfl
  | 3, _ => rfl
  | 4, _ => rfl
  | 5, _ => rfl
  | 6, _ => rfl
  | 7, _ => rfl
  | 8, _ => rfl
  | 9, _ => rfl
  | 10, _ => rfl
  | 11, _ => rfl
  | j + 12, h => exact absurd h (by omega)
theorem df_S : ∀ j, j < 2 → defaultValue (t_S j) = vp_V [.null, .null] j := by
  intro j hj
  match j, hj with
  | 0, _ => rfl
  | 1, _ => rfl
  | j + 2, h => exact absurd h (by omega)
theorem df_K : ∀ j, j < 6 → defaultValue (t_K j) = vp_V [.null, .int (iI 0), .null, .null, .null, .int (iI 0)] j := by
  intro j hj
  match j, hj with
  | 0, _ => rfl
  | 1, _ => rfl
  | 2, _ => rfl
  | 3, _ => rfl
  | 4, _ => rfl
  | 5, _ => rfl
  | j + 6, h => exact absurd h (by omega)
theorem df_W : ∀ j, j < 4 → defaultValue (t_W j) = vp_V [.null, .null, .null, .int (iI 0)] j := by
  intro j hj
  match j, hj with
  | 0, _ => rfl
  | 1, _ => rfl
  | 2, _ => rfl
  | 3, _ => rfl
  | j + 4, h => exact absurd h (by omega)
theorem df_M : ∀ j, j < 36 → defaultValue (t_M j) = vp_V [.int (iI 0), .null, .int (iI 0), .null, .null, .int (iI 0), .int (iI 0), .int (iI 0), .null, .int (iI 0), .null, .null, .int (iI 0), .null, .null, .int (iI 0), .null, .null, .int (iI 0), .int (iI 0), .null, .null, .int (iI 0), .int (iI 0), .int (iI 0), .int (iI 0), .int (iI 0), .int (iI 0), .int (iI 0), .int (iI 0), .null, .null, .int (iI 0), .int (iI (bI false)), .int (iI 0), .int (iI 0)] j := by
  intro j hj
  match j, hj with
  | 0, _ => rfl
  | 1, _ => rfl
  | 2, _ => rfl
  | 3, _ => rfl
  | 4, _ => rfl
  | 5, _ => rfl
  | 6, _ => rfl
  | 7, _ => rfl
  | 8, _ => rfl
  | 9, _ => rfl
  | 10, _ => rfl
  | 11, _ => rfl
  | 12, _ => rfl
  | 13, _ => rfl
  | 14, _ => rfl
  | 15, _ => rfl
  | 16, _ => rfl
  | 17, _ => rfl
  | 18, _ => rfl
  | 19, _ => rfl
  | 20, _ => rfl
  | 21, _ => rfl
  | 22, _ => rfl
  | 23, _ => rfl
  | 24, _ => rfl
  | 25, _ => rfl
  | 26, _ => rfl
  | 27, _ => rfl
  | 28, _ => rfl
  | 29, _ => rfl
  | 30, _ => rfl
  | 31, _ => rfl
  | 32, _ => rfl
  | 33, _ => rfl
  | 34, _ => rfl
  | 35, _ => rfl
  | j + 36, h => exact absurd h (by omega)
theorem txSt_r {n mx : Nat} {t ti ts te tl : Nat → Int} {tc i ix : Int} (h : HR n mx t ti ts te tl tc) : 0 ≤ txSt ts te tl tc i ix ∧ txSt ts te tl tc i ix ≤ 1000 := by
  obtain ⟨-, -, -, -, -, hs, he, hl⟩ := h
  have a := hs i.toNat; have b := he i.toNat; have c := hl i.toNat
  unfold txSt; (repeat' split) <;> omega
theorem txEn_r {n mx : Nat} {t ti ts te tl : Nat → Int} {tc i : Int} (h : HR n mx t ti ts te tl tc) : 0 ≤ txEn te tc i ∧ txEn te tc i ≤ 1000 := by
  obtain ⟨-, -, -, -, -, hs, he, hl⟩ := h
  have b := he i.toNat
  unfold txEn; (repeat' split) <;> omega

theorem d_W_readText_0 : decode b_W_readText 0 = .ok (.aload_n 0, 1) := by decide +kernel
theorem d_W_readText_1 : decode b_W_readText 1 = .ok (.aload_n 1, 1) := by decide +kernel
theorem d_W_readText_2 : decode b_W_readText 2 = .ok (.getfield 39, 3) := by decide +kernel
theorem d_W_readText_5 : decode b_W_readText 5 = .ok (.aload_n 1, 1) := by decide +kernel
theorem d_W_readText_6 : decode b_W_readText 6 = .ok (.iload_n 2, 1) := by decide +kernel
theorem d_W_readText_7 : decode b_W_readText 7 = .ok (.iload_n 3, 1) := by decide +kernel
theorem d_W_readText_8 : decode b_W_readText 8 = .ok (.invokevirtual 44, 3) := by decide +kernel
theorem d_W_readText_11 : decode b_W_readText 11 = .ok (.aload_n 1, 1) := by decide +kernel
theorem d_W_readText_12 : decode b_W_readText 12 = .ok (.iload_n 2, 1) := by decide +kernel
theorem d_W_readText_13 : decode b_W_readText 13 = .ok (.invokevirtual 47, 3) := by decide +kernel
theorem d_W_readText_16 : decode b_W_readText 16 = .ok (.iconst 0, 1) := by decide +kernel
theorem d_W_readText_17 : decode b_W_readText 17 = .ok (.invokevirtual 51, 3) := by decide +kernel
theorem d_W_readText_20 : decode b_W_readText 20 = .ok (.return_, 1) := by decide +kernel
set_option maxHeartbeats 4000000 in
set_option maxRecDepth 100000 in
theorem c_W_readText (l : Launch) (dC : Nat → ClassId) (dI : Nat → Nat → Nat) (kA : Nat → ClassId) (sz : Nat) (wo : Nat) (wl : Nat) (wb : Nat) (we : Nat) (wn : Nat) (wk : Nat) (wz : Int) (lt : Nat → Int) (sb : Nat → Int) (se : Nat → Int) (ho : Nat) (oc : Nat) (xi : Nat) (xs : Nat) (xe : Nat) (xl : Nat) (n : Nat) (mx : Nat) (fd : Int) (tc : Int) (t : Nat → Int) (ti : Nat → Int) (ts : Nat → Int) (te : Nat → Int) (tl : Nat → Int) (i : Int) (ix : Int) (hW : WR wn wk wz lt sb se) (hH : HR n mx t ti ts te tl tc) (hi : -2147483648 ≤ i ∧ i < 2147483648) (hix : -2147483648 ≤ ix ∧ ix < 2147483648) : Met l y_W_readText (wsy y_W_readText b_W_readText 4 none) (rmd 3 0 0) (li_Pr (dC, dI) CL (TY kA) [.ref wo, .ref ho, .int (iI i), .int (iI ix)] (fun h => h.size = sz ∧ va_P (dC, dI) CL [(wo, .inr (9, [.ref wl, .ref wb, .ref we, .int (iI wz)])), (wl, .inl (kA 1, wn, .inl (aI lt))), (wb, .inl (kA 0, wk, .inl (aI sb))), (we, .inl (kA 0, wk, .inl (aI se)))] h ∧ va_D (fun q => dI 100 0 ≤ q) [(wo, .inr (9, [.ref wl, .ref wb, .ref we, .int (iI wz)])), (wl, .inl (kA 1, wn, .inl (aI lt))), (wb, .inl (kA 0, wk, .inl (aI sb))), (we, .inl (kA 0, wk, .inl (aI se)))] ∧ (fun h => va_P (dC, dI) CL [(ho, .inr (2, [.ref oc, .int (iI fd), .ref xi, .ref xs, .ref xe, .ref xl, .int (iI tc)])), (oc, .inl (kA 1, n, .inl (aI t))), (xi, .inl (kA 0, mx, .inl (aI ti))), (xs, .inl (kA 0, mx, .inl (aI ts))), (xe, .inl (kA 0, mx, .inl (aI te))), (xl, .inl (kA 0, mx, .inl (aI tl)))] h ∧ Dsj [(ho, .inr (2, [.ref oc, .int (iI fd), .ref xi, .ref xs, .ref xe, .ref xl, .int (iI tc)])), (oc, .inl (kA 1, n, .inl (aI t))), (xi, .inl (kA 0, mx, .inl (aI ti))), (xs, .inl (kA 0, mx, .inl (aI ts))), (xe, .inl (kA 0, mx, .inl (aI te))), (xl, .inl (kA 0, mx, .inl (aI tl)))] [(wo, .inr (9, [.ref wl, .ref wb, .ref we, .int (iI wz)])), (wl, .inl (kA 1, wn, .inl (aI lt))), (wb, .inl (kA 0, wk, .inl (aI sb))), (we, .inl (kA 0, wk, .inl (aI se)))]) h)) (li_Qw (S := Unit) (dC, dI) CL (fun _ => WR wn wk (rdF t n (txSt ts te tl tc i ix) (txEn te tc i) false wn wk lt sb se).2.2.2.1 (rdF t n (txSt ts te tl tc i ix) (txEn te tc i) false wn wk lt sb se).1 (rdF t n (txSt ts te tl tc i ix) (txEn te tc i) false wn wk lt sb se).2.1 (rdF t n (txSt ts te tl tc i ix) (txEn te tc i) false wn wk lt sb se).2.2.1) (fun _ => none) (fun _ => [(wo, .inr (9, [.ref wl, .ref wb, .ref we, .int (iI ((rdF t n (txSt ts te tl tc i ix) (txEn te tc i) false wn wk lt sb se).2.2.2.1))])), (wl, .inl (kA 1, wn, .inl (aI ((rdF t n (txSt ts te tl tc i ix) (txEn te tc i) false wn wk lt sb se).1)))), (wb, .inl (kA 0, wk, .inl (aI ((rdF t n (txSt ts te tl tc i ix) (txEn te tc i) false wn wk lt sb se).2.1)))), (we, .inl (kA 0, wk, .inl (aI ((rdF t n (txSt ts te tl tc i ix) (txEn te tc i) false wn wk lt sb se).2.2.1))))]) (va_A [(wo, .inr (9, [.ref wl, .ref wb, .ref we, .int (iI wz)])), (wl, .inl (kA 1, wn, .inl (aI lt))), (wb, .inl (kA 0, wk, .inl (aI sb))), (we, .inl (kA 0, wk, .inl (aI se)))] sz)) 0 0 (va_A [(wo, .inr (9, [.ref wl, .ref wb, .ref we, .int (iI wz)])), (wl, .inl (kA 1, wn, .inl (aI lt))), (wb, .inl (kA 0, wk, .inl (aI sb))), (we, .inl (kA 0, wk, .inl (aI se)))] sz) := by
  refine li_mwv (by decide) (Nat.le_of_ble_eq_true rfl) ?_
  intro p e s m args below meth c Q A C hP hD hBx hK hN hG hA hAi hAN fin ls hl
  obtain ⟨hx, hb, hr, hml, hown, hts, hlocks, hin⟩ := C
  have hown : s.vm.findClass R_W = some m.cls := hown
  obtain ⟨hRo, hDj⟩ := hBx
  have hRo : va_P (dC, dI) CL [(ho, .inr (2, [.ref oc, .int (iI fd), .ref xi, .ref xs, .ref xe, .ref xl, .int (iI tc)])), (oc, .inl (kA 1, n, .inl (aI t))), (xi, .inl (kA 0, mx, .inl (aI ti))), (xs, .inl (kA 0, mx, .inl (aI ts))), (xe, .inl (kA 0, mx, .inl (aI te))), (xl, .inl (kA 0, mx, .inl (aI tl)))] s.heap := hRo
  have hRoN := li_roN (A := A) hRo hDj hAi
  have hl : lv_has ls 4 [(0, .ref wo), (1, .ref ho), (2, .int (iI i)), (3, .int (iI ix))] := hl
  obtain ⟨hwn, hwk, hwz, hlt, hsb, hse⟩ := id hW
  obtain ⟨hn, hmx, htc, ht, hti, hxs, hxe, hxl⟩ := id hH
  suffices h9 : ∀ (H : Heap) (locs : List Loc), H = s.heap → locs = [] → W p l e (rmd 3 0 0) s m args below meth c H locs 0 0 Q (F0 m 0 ls []) from h9 _ _ rfl rfl
  intro H locs eH eL
  have hP : va_P (dC, dI) CL [(wo, .inr (9, [.ref wl, .ref wb, .ref we, .int (iI wz)])), (wl, .inl (kA 1, wn, .inl (aI lt))), (wb, .inl (kA 0, wk, .inl (aI sb))), (we, .inl (kA 0, wk, .inl (aI se)))] H := by rw [eH]; exact hP
  have hS : va_S A s.heap H locs := by rw [eH, eL]; exact va_S.rf
  refine lv_aload_n hx hb d_W_readText_0 rfl (lv_at hl 0 rfl) ?_
  refine lv_aload_n hx hb d_W_readText_1 rfl (lv_at hl 1 rfl) ?_
  refine gf_W_39 hx hb hts hN hown hK (li_ro hRo hRoN hS) 0 rfl rfl d_W_readText_2 ?_
  refine lv_aload_n hx hb d_W_readText_5 rfl (lv_at hl 1 rfl) ?_
  refine lv_iload_n hx hb d_W_readText_6 rfl (lv_at hl 2 rfl) ?_
  refine lv_iload_n hx hb d_W_readText_7 rfl (lv_at hl 3 rfl) ?_
  refine li_callr ((va_runV (As := [.int (iI i), .int (iI ix)]) (rest := [.ref oc, .ref wo]) ⟨hx, hb, hml, hown, hts⟩ (c_H_textStart l dC dI kA ho oc xi xs xe xl n mx fd tc t ti ts te tl i ix (by exact hH) (by exact hi) (by exact hix)) (cw_W_44 hts rfl rfl ⟨Nat.le_of_ble_eq_true rfl, Nat.le_of_ble_eq_true rfl⟩) (li_preV (va_recv hK (li_ro hRo hRoN hS) (ci := 2) (q0 := 0) rfl rfl) ((li_ro hRo hRoN hS).sub [0, 1, 2, 3, 4, 5] rfl) hK hN (hG.go hS hAN)) rfl rfl hl.1 rfl (lv_room (Nat.le_of_ble_eq_true rfl)) d_W_readText_8 ⟨(by show 0 + 0 ≤ 0; omega), (by show 0 + 0 ≤ 0; omega)⟩).run) ?_
  refine lv_aload_n hx hb d_W_readText_11 rfl (lv_at hl 1 rfl) ?_
  refine lv_iload_n hx hb d_W_readText_12 rfl (lv_at hl 2 rfl) ?_
  refine li_callr ((va_runV (As := [.int (iI i)]) (rest := [.int (iI (txSt ts te tl tc i ix)), .ref oc, .ref wo]) ⟨hx, hb, hml, hown, hts⟩ (c_H_textEnd l dC dI kA ho oc xi xs xe xl n mx fd tc t ti ts te tl i (by exact hH) (by exact hi)) (cw_W_47 hts rfl rfl ⟨Nat.le_of_ble_eq_true rfl, Nat.le_of_ble_eq_true rfl⟩) (li_preV (va_recv hK (li_ro hRo hRoN hS) (ci := 2) (q0 := 0) rfl rfl) ((li_ro hRo hRoN hS).sub [0, 1, 2, 3, 4, 5] rfl) hK hN (hG.go hS hAN)) rfl rfl hl.1 rfl (lv_room (Nat.le_of_ble_eq_true rfl)) d_W_readText_13 ⟨(by show 0 + 0 ≤ 0; omega), (by show 0 + 0 ≤ 0; omega)⟩).run) ?_
  refine lv_iconst (v := iI 0) hx hb d_W_readText_16 rfl ?_
  refine li_callw (wc := [(wo, .inr (9, [.ref wl, .ref wb, .ref we, .int (iI wz)])), (wl, .inl (kA 1, wn, .inl (aI lt))), (wb, .inl (kA 0, wk, .inl (aI sb))), (we, .inl (kA 0, wk, .inl (aI se)))]) (wr := []) (va_runV (As := [.ref oc, .int (iI (txSt ts te tl tc i ix)), .int (iI (txEn te tc i)), .int (iI 0)]) (rest := []) ⟨hx, hb, hml, hown, hts⟩ (c_W_read l dC dI kA H.size wo wl wb we wn wk wz lt sb se oc n t (txSt ts te tl tc i ix) (txEn te tc i) false (by exact hW) (by omega) (by exact ht) (by have a1 := txSt_r (i := i) (ix := ix) hH; have a2 := txEn_r (i := i) hH; omega)) (cw_W_51 hts rfl rfl ⟨Nat.le_of_ble_eq_true rfl, Nat.le_of_ble_eq_true rfl⟩) (li_preV (va_recv hK hP (ci := 9) (q0 := 0) rfl rfl) ⟨rfl, hP.sub [0, 1, 2, 3] rfl, (hD.sub [0, 1, 2, 3] (by decide) rfl).weaken (fun _ _ _ h => hAN _ h), ((li_ro hRo hRoN hS).sub [1] rfl), (dj_cons (dj_r (hRoN 1 _ rfl) hD [0, 1, 2, 3] rfl) dj_nil)⟩ hK hN (hG.go hS hAN)) rfl rfl hl.1 rfl (lv_room (Nat.le_of_ble_eq_true rfl)) d_W_readText_17 ⟨(by show 0 + 0 ≤ 0; omega), (by show 0 + 0 ≤ 0; omega)⟩) hP hD hS hA [0, 1, 2, 3] [] rfl rfl (by decide) (by decide) (fun u1 H locs hu1 hP hD hS _hk => ?_)
  have hP : va_P (dC, dI) CL [(wo, .inr (9, [.ref wl, .ref wb, .ref we, .int (iI ((rdF t n (txSt ts te tl tc i ix) (txEn te tc i) false wn wk lt sb se).2.2.2.1))])), (wl, .inl (kA 1, wn, .inl (aI ((rdF t n (txSt ts te tl tc i ix) (txEn te tc i) false wn wk lt sb se).1)))), (wb, .inl (kA 0, wk, .inl (aI ((rdF t n (txSt ts te tl tc i ix) (txEn te tc i) false wn wk lt sb se).2.1)))), (we, .inl (kA 0, wk, .inl (aI ((rdF t n (txSt ts te tl tc i ix) (txEn te tc i) false wn wk lt sb se).2.2.1))))] H := hP
  have hD : va_D A [(wo, .inr (9, [.ref wl, .ref wb, .ref we, .int (iI ((rdF t n (txSt ts te tl tc i ix) (txEn te tc i) false wn wk lt sb se).2.2.2.1))])), (wl, .inl (kA 1, wn, .inl (aI ((rdF t n (txSt ts te tl tc i ix) (txEn te tc i) false wn wk lt sb se).1)))), (wb, .inl (kA 0, wk, .inl (aI ((rdF t n (txSt ts te tl tc i ix) (txEn te tc i) false wn wk lt sb se).2.1)))), (we, .inl (kA 0, wk, .inl (aI ((rdF t n (txSt ts te tl tc i ix) (txEn te tc i) false wn wk lt sb se).2.2.1))))] := hD
  have hpo := hu1
  exact fin () _ _ _ _ (by exact hpo) (by first | exact hP | (subst_vars; exact hP)) (by first | exact hD | (subst_vars; exact hD)) hS d_W_readText_20
theorem d_W_init_0 : decode b_W_init 0 = .ok (.aload_n 0, 1) := by decide +kernel
theorem d_W_init_1 : decode b_W_init 1 = .ok (.invokespecial 3, 3) := by decide +kernel
theorem d_W_init_4 : decode b_W_init 4 = .ok (.iconst 0, 1) := by decide +kernel
theorem d_W_init_5 : decode b_W_init 5 = .ok (.iload_n 1, 1) := by decide +kernel
theorem d_W_init_6 : decode b_W_init 6 = .ok (.invokestatic 9, 3) := by decide +kernel
theorem d_W_init_9 : decode b_W_init 9 = .ok (.istore_n 2, 1) := by decide +kernel
theorem d_W_init_10 : decode b_W_init 10 = .ok (.aload_n 0, 1) := by decide +kernel
theorem d_W_init_11 : decode b_W_init 11 = .ok (.iload_n 2, 1) := by decide +kernel
theorem d_W_init_12 : decode b_W_init 12 = .ok (.newarray .char, 2) := by decide +kernel
theorem d_W_init_14 : decode b_W_init 14 = .ok (.putfield 15, 3) := by decide +kernel
theorem d_W_init_17 : decode b_W_init 17 = .ok (.aload_n 0, 1) := by decide +kernel
theorem d_W_init_18 : decode b_W_init 18 = .ok (.iload_n 2, 1) := by decide +kernel
theorem d_W_init_19 : decode b_W_init 19 = .ok (.iconst 2, 1) := by decide +kernel
theorem d_W_init_20 : decode b_W_init 20 = .ok (.idiv, 1) := by decide +kernel
theorem d_W_init_21 : decode b_W_init 21 = .ok (.iconst 1, 1) := by decide +kernel
theorem d_W_init_22 : decode b_W_init 22 = .ok (.iadd, 1) := by decide +kernel
theorem d_W_init_23 : decode b_W_init 23 = .ok (.newarray .int, 2) := by decide +kernel
theorem d_W_init_25 : decode b_W_init 25 = .ok (.putfield 21, 3) := by decide +kernel
theorem d_W_init_28 : decode b_W_init 28 = .ok (.aload_n 0, 1) := by decide +kernel
theorem d_W_init_29 : decode b_W_init 29 = .ok (.iload_n 2, 1) := by decide +kernel
theorem d_W_init_30 : decode b_W_init 30 = .ok (.iconst 2, 1) := by decide +kernel
theorem d_W_init_31 : decode b_W_init 31 = .ok (.idiv, 1) := by decide +kernel
theorem d_W_init_32 : decode b_W_init 32 = .ok (.iconst 1, 1) := by decide +kernel
theorem d_W_init_33 : decode b_W_init 33 = .ok (.iadd, 1) := by decide +kernel
theorem d_W_init_34 : decode b_W_init 34 = .ok (.newarray .int, 2) := by decide +kernel
theorem d_W_init_36 : decode b_W_init 36 = .ok (.putfield 25, 3) := by decide +kernel
theorem d_W_init_39 : decode b_W_init 39 = .ok (.return_, 1) := by decide +kernel
set_option maxHeartbeats 4000000 in
set_option maxRecDepth 100000 in
theorem c_W_init (l : Launch) (dC : Nat → ClassId) (dI : Nat → Nat → Nat) (kA : Nat → ClassId) (sz : Nat) (wo : Nat) (k : Nat) (hk : k ≤ 1000) : Met l y_W_init (wsy y_W_init b_W_init 3 none) (rmd 1 3 (k + (k / 2 + 1) + (k / 2 + 1))) (li_Pr (dC, dI) CL (TY kA) [.ref wo, .int (iI (k : Int))] (fun h => h.size = sz ∧ va_P (dC, dI) CL [(wo, .inr (9, [.null, .null, .null, .int (iI 0)]))] h ∧ va_D (fun q => dI 100 0 ≤ q) [(wo, .inr (9, [.null, .null, .null, .int (iI 0)]))] ∧ (fun _ => True) h)) (li_Qw (S := Nat × Nat × Nat) (dC, dI) CL (fun _ => True) (fun _ => none) (fun u => [(wo, .inr (9, [.ref u.1, .ref u.2.1, .ref u.2.2, .int (iI 0)])), (u.1, .inl (kA 1, k, .inl (aI (fun _ => 0)))), (u.2.1, .inl (kA 0, (k / 2 + 1), .inl (aI (fun _ => 0)))), (u.2.2, .inl (kA 0, (k / 2 + 1), .inl (aI (fun _ => 0))))]) (va_A [(wo, .inr (9, [.null, .null, .null, .int (iI 0)]))] sz)) 3 (k + (k / 2 + 1) + (k / 2 + 1)) (va_A [(wo, .inr (9, [.null, .null, .null, .int (iI 0)]))] sz) := by
  refine li_mwv (by decide) (Nat.le_of_ble_eq_true rfl) ?_
  intro p e s m args below meth c Q A C hP hD hBx hK hN hG hA hAi hAN fin ls hl
  obtain ⟨hx, hb, hr, hml, hown, hts, hlocks, hin⟩ := C
  have hown : s.vm.findClass R_W = some m.cls := hown
  have hl : lv_has ls 3 [(0, .ref wo), (1, .int (iI (k : Int)))] := hl
  have hin : meth.name = "<init>" := hin
  suffices h9 : ∀ (H : Heap) (locs : List Loc), H = s.heap → locs = [] → W p l e (rmd 1 3 (k + (k / 2 + 1) + (k / 2 + 1))) s m args below meth c H locs 0 0 Q (F0 m 0 ls []) from h9 _ _ rfl rfl
  intro H locs eH eL
  have hP : va_P (dC, dI) CL [(wo, .inr (9, [.null, .null, .null, .int (iI 0)]))] H := by rw [eH]; exact hP
  have hS : va_S A s.heap H locs := by rw [eH, eL]; exact va_S.rf
  refine lv_aload_n hx hb d_W_init_0 rfl (lv_at hl 0 rfl) ?_
  refine W.objInit hx hb hown (hts (Cond.methodLink R_W 3 Lib.objectInit) (tk1 182 rfl rfl)) (hts (Cond.instanceMethod Lib.objectInit) (tk1 31 rfl rfl)) (hts (Cond.code Lib.objectInit ⟨#[0xb1]⟩ 1 none) (tk1 32 rfl rfl)) rfl (hl.1.trans hml.symm) rfl d_W_init_1 (Nat.le_of_ble_eq_true rfl) (Nat.le_of_ble_eq_true rfl) ?_
  refine W.eq (g2 := F0 m 4 ls []) rfl ?_
  refine lv_iconst (v := iI 0) hx hb d_W_init_4 rfl ?_
  refine lv_iload_n hx hb d_W_init_5 rfl (lv_at hl 1 rfl) ?_
  refine li_mmax hx hb (hml.trans hl.1.symm) hown (hts (Cond.methodLink R_W 9 Lib.Math.max.name) (tk1 183 rfl rfl)) (hts (Cond.static Lib.Math.max.name) (tk1 184 rfl rfl)) (hts (Cond.initialized "java/lang/Math") (tk1 8 rfl rfl)) (hts (Cond.code Lib.Math.max.name Lib.Math.max.code 2 (some .int)) (tk1 185 rfl rfl)) (Nat.le_of_ble_eq_true rfl) (Nat.le_of_ble_eq_true rfl) (by show 0 ≤ 3; omega) (by show 0 ≤ (k + (k / 2 + 1) + (k / 2 + 1)); omega) (by omega) (by omega) d_W_init_6 ?_
  refine li_nm (fun mx emx => ?_)
  refine lv_istore_n (lv' := [(2, .int (iI mx)), (0, .ref wo), (1, .int (iI (k : Int)))]) hx hb d_W_init_9 rfl hl (by decide) rfl (fun ls hl => ?_)
  refine lv_aload_n hx hb d_W_init_10 rfl (lv_at hl 1 rfl) ?_
  refine lv_iload_n hx hb d_W_init_11 rfl (lv_at hl 0 rfl) ?_
  refine li_newC hx hb (hts (Cond.arrayClass .char) (tk1 67 rfl rfl)) hK hP hD hS hA 1 rfl k (by omega) (by omega) (by show 0 + 1 ≤ 3; omega) (by show 0 + k ≤ (k + (k / 2 + 1) + (k / 2 + 1)); omega) d_W_init_12 (fun ql H hP hD hS => ?_)
  have hP : va_P (dC, dI) CL [(wo, .inr (9, [.null, .null, .null, .int (iI 0)])), (ql, .inl (kA 1, k, .inl (aI (fun _ => 0))))] H := hP
  have hD : va_D A [(wo, .inr (9, [.null, .null, .null, .int (iI 0)])), (ql, .inl (kA 1, k, .inl (aI (fun _ => 0))))] := hD
  refine pf_W_15 hx hb hts hin hown hK hP hD hS 0 rfl (Nat.le_of_ble_eq_true rfl) d_W_init_14 (fun H locs hP hD hS => ?_)
  have hP : va_P (dC, dI) CL [(wo, .inr (9, [.ref ql, .null, .null, .int (iI 0)])), (ql, .inl (kA 1, k, .inl (aI (fun _ => 0))))] H := hP
  have hD : va_D A [(wo, .inr (9, [.ref ql, .null, .null, .int (iI 0)])), (ql, .inl (kA 1, k, .inl (aI (fun _ => 0))))] := hD
  refine lv_aload_n hx hb d_W_init_17 rfl (lv_at hl 1 rfl) ?_
  refine lv_iload_n hx hb d_W_init_18 rfl (lv_at hl 0 rfl) ?_
  refine lv_iconst (v := iI 2) hx hb d_W_init_19 rfl ?_
  refine li_idiv hx hb d_W_init_20 (by omega) (by omega) (by omega) (by omega) ?_
  refine lv_iconst (v := iI 1) hx hb d_W_init_21 rfl ?_
  refine li_iadd hx hb d_W_init_22 ?_
  refine li_newI hx hb (hts (Cond.arrayClass .int) (tk1 68 rfl rfl)) hK hP hD hS hA 0 rfl (k / 2 + 1) (by omega) (by omega) (by show 0 + 1 + 1 ≤ 3; omega) (by show 0 + k + (k / 2 + 1) ≤ (k + (k / 2 + 1) + (k / 2 + 1)); omega) d_W_init_23 (fun qb H hP hD hS => ?_)
  have hP : va_P (dC, dI) CL [(wo, .inr (9, [.ref ql, .null, .null, .int (iI 0)])), (ql, .inl (kA 1, k, .inl (aI (fun _ => 0)))), (qb, .inl (kA 0, (k / 2 + 1), .inl (aI (fun _ => 0))))] H := hP
  have hD : va_D A [(wo, .inr (9, [.ref ql, .null, .null, .int (iI 0)])), (ql, .inl (kA 1, k, .inl (aI (fun _ => 0)))), (qb, .inl (kA 0, (k / 2 + 1), .inl (aI (fun _ => 0))))] := hD
  refine pf_W_21 hx hb hts hin hown hK hP hD hS 0 rfl (Nat.le_of_ble_eq_true rfl) d_W_init_25 (fun H locs hP hD hS => ?_)
  have hP : va_P (dC, dI) CL [(wo, .inr (9, [.ref ql, .ref qb, .null, .int (iI 0)])), (ql, .inl (kA 1, k, .inl (aI (fun _ => 0)))), (qb, .inl (kA 0, (k / 2 + 1), .inl (aI (fun _ => 0))))] H := hP
  have hD : va_D A [(wo, .inr (9, [.ref ql, .ref qb, .null, .int (iI 0)])), (ql, .inl (kA 1, k, .inl (aI (fun _ => 0)))), (qb, .inl (kA 0, (k / 2 + 1), .inl (aI (fun _ => 0))))] := hD
  refine lv_aload_n hx hb d_W_init_28 rfl (lv_at hl 1 rfl) ?_
  refine lv_iload_n hx hb d_W_init_29 rfl (lv_at hl 0 rfl) ?_
  refine lv_iconst (v := iI 2) hx hb d_W_init_30 rfl ?_
  refine li_idiv hx hb d_W_init_31 (by omega) (by omega) (by omega) (by omega) ?_
  refine lv_iconst (v := iI 1) hx hb d_W_init_32 rfl ?_
  refine li_iadd hx hb d_W_init_33 ?_
  refine li_newI hx hb (hts (Cond.arrayClass .int) (tk1 68 rfl rfl)) hK hP hD hS hA 0 rfl (k / 2 + 1) (by omega) (by omega) (by show 0 + 1 + 1 + 1 ≤ 3; omega) (by show 0 + k + (k / 2 + 1) + (k / 2 + 1) ≤ (k + (k / 2 + 1) + (k / 2 + 1)); omega) d_W_init_34 (fun qe H hP hD hS => ?_)
  have hP : va_P (dC, dI) CL [(wo, .inr (9, [.ref ql, .ref qb, .null, .int (iI 0)])), (ql, .inl (kA 1, k, .inl (aI (fun _ => 0)))), (qb, .inl (kA 0, (k / 2 + 1), .inl (aI (fun _ => 0)))), (qe, .inl (kA 0, (k / 2 + 1), .inl (aI (fun _ => 0))))] H := hP
  have hD : va_D A [(wo, .inr (9, [.ref ql, .ref qb, .null, .int (iI 0)])), (ql, .inl (kA 1, k, .inl (aI (fun _ => 0)))), (qb, .inl (kA 0, (k / 2 + 1), .inl (aI (fun _ => 0)))), (qe, .inl (kA 0, (k / 2 + 1), .inl (aI (fun _ => 0))))] := hD
  refine pf_W_25 hx hb hts hin hown hK hP hD hS 0 rfl (Nat.le_of_ble_eq_true rfl) d_W_init_36 (fun H locs hP hD hS => ?_)
  have hP : va_P (dC, dI) CL [(wo, .inr (9, [.ref ql, .ref qb, .ref qe, .int (iI 0)])), (ql, .inl (kA 1, k, .inl (aI (fun _ => 0)))), (qb, .inl (kA 0, (k / 2 + 1), .inl (aI (fun _ => 0)))), (qe, .inl (kA 0, (k / 2 + 1), .inl (aI (fun _ => 0))))] H := hP
  have hD : va_D A [(wo, .inr (9, [.ref ql, .ref qb, .ref qe, .int (iI 0)])), (ql, .inl (kA 1, k, .inl (aI (fun _ => 0)))), (qb, .inl (kA 0, (k / 2 + 1), .inl (aI (fun _ => 0)))), (qe, .inl (kA 0, (k / 2 + 1), .inl (aI (fun _ => 0))))] := hD
  refine W.widen (k := 3) (n := (k + (k / 2 + 1) + (k / 2 + 1))) (by omega) (by omega) ?_
  exact fin (ql, qb, qe) _ _ _ _ (by trivial) (by first | exact hP | (subst_vars; exact hP)) (by first | exact hD | (subst_vars; exact hD)) hS d_W_init_39

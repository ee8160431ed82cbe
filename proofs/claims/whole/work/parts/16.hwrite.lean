theorem d_H_addText_0 : decode b_H_addText 0 = .ok (.aload_n 0, 1) := by decide +kernel
theorem d_H_addText_1 : decode b_H_addText 1 = .ok (.getfield 80, 3) := by decide +kernel
theorem d_H_addText_4 : decode b_H_addText 4 = .ok (.aload_n 0, 1) := by decide +kernel
theorem d_H_addText_5 : decode b_H_addText 5 = .ok (.getfield 42, 3) := by decide +kernel
theorem d_H_addText_8 : decode b_H_addText 8 = .ok (.arraylength, 1) := by decide +kernel
theorem d_H_addText_9 : decode b_H_addText 9 = .ok (.if_icmp .ge 43, 3) := by decide +kernel
theorem d_H_addText_12 : decode b_H_addText 12 = .ok (.aload_n 0, 1) := by decide +kernel
theorem d_H_addText_13 : decode b_H_addText 13 = .ok (.getfield 38, 3) := by decide +kernel
theorem d_H_addText_16 : decode b_H_addText 16 = .ok (.aload_n 0, 1) := by decide +kernel
theorem d_H_addText_17 : decode b_H_addText 17 = .ok (.getfield 80, 3) := by decide +kernel
theorem d_H_addText_20 : decode b_H_addText 20 = .ok (.iload_n 1, 1) := by decide +kernel
theorem d_H_addText_21 : decode b_H_addText 21 = .ok (.iastore, 1) := by decide +kernel
theorem d_H_addText_22 : decode b_H_addText 22 = .ok (.aload_n 0, 1) := by decide +kernel
theorem d_H_addText_23 : decode b_H_addText 23 = .ok (.getfield 42, 3) := by decide +kernel
theorem d_H_addText_26 : decode b_H_addText 26 = .ok (.aload_n 0, 1) := by decide +kernel
theorem d_H_addText_27 : decode b_H_addText 27 = .ok (.getfield 80, 3) := by decide +kernel
theorem d_H_addText_30 : decode b_H_addText 30 = .ok (.iload_n 2, 1) := by decide +kernel
theorem d_H_addText_31 : decode b_H_addText 31 = .ok (.iastore, 1) := by decide +kernel
theorem d_H_addText_32 : decode b_H_addText 32 = .ok (.aload_n 0, 1) := by decide +kernel
theorem d_H_addText_33 : decode b_H_addText 33 = .ok (.getfield 45, 3) := by decide +kernel
theorem d_H_addText_36 : decode b_H_addText 36 = .ok (.aload_n 0, 1) := by decide +kernel
theorem d_H_addText_37 : decode b_H_addText 37 = .ok (.getfield 80, 3) := by decide +kernel
theorem d_H_addText_40 : decode b_H_addText 40 = .ok (.iload_n 3, 1) := by decide +kernel
theorem d_H_addText_41 : decode b_H_addText 41 = .ok (.iastore, 1) := by decide +kernel
theorem d_H_addText_42 : decode b_H_addText 42 = .ok (.aload_n 0, 1) := by decide +kernel
theorem d_H_addText_43 : decode b_H_addText 43 = .ok (.dup, 1) := by decide +kernel
theorem d_H_addText_44 : decode b_H_addText 44 = .ok (.getfield 80, 3) := by decide +kernel
theorem d_H_addText_47 : decode b_H_addText 47 = .ok (.iconst 1, 1) := by decide +kernel
theorem d_H_addText_48 : decode b_H_addText 48 = .ok (.iadd, 1) := by decide +kernel
theorem d_H_addText_49 : decode b_H_addText 49 = .ok (.putfield 80, 3) := by decide +kernel
theorem d_H_addText_52 : decode b_H_addText 52 = .ok (.return_, 1) := by decide +kernel
set_option maxHeartbeats 4000000 in
set_option maxRecDepth 100000 in
theorem c_H_addText (l : Launch) (dC : Nat → ClassId) (dI : Nat → Nat → Nat) (kA : Nat → ClassId) (sz : Nat) (ho : Nat) (oc : Nat) (xi : Nat) (xs : Nat) (xe : Nat) (xl : Nat) (n : Nat) (mx : Nat) (fd : Int) (tc : Int) (t : Nat → Int) (ti : Nat → Int) (ts : Nat → Int) (te : Nat → Int) (tl : Nat → Int) (ix : Int) (a1 : Int) (a2 : Int) (hH : HR n mx t ti ts te tl tc) (hix : -2147483648 ≤ ix ∧ ix < 2147483648) (ha1 : -2147483648 ≤ a1 ∧ a1 < 2147483648) (ha2 : -2147483648 ≤ a2 ∧ a2 < 2147483648) (hroom : tc < mx) : Met l y_H_addText (wsy y_H_addText b_H_addText 4 none) (rmd 0 0 0) (li_Pr (dC, dI) CL (TY kA) [.ref ho, .int (iI ix), .int (iI a1), .int (iI a2)] (fun h => h.size = sz ∧ va_P (dC, dI) CL [(ho, .inr (2, [.ref oc, .int (iI fd), .ref xi, .ref xs, .ref xe, .ref xl, .int (iI tc)])), (oc, .inl (kA 1, n, .inl (aI t))), (xi, .inl (kA 0, mx, .inl (aI ti))), (xs, .inl (kA 0, mx, .inl (aI ts))), (xe, .inl (kA 0, mx, .inl (aI te))), (xl, .inl (kA 0, mx, .inl (aI tl)))] h ∧ va_D (fun q => dI 100 0 ≤ q) [(ho, .inr (2, [.ref oc, .int (iI fd), .ref xi, .ref xs, .ref xe, .ref xl, .int (iI tc)])), (oc, .inl (kA 1, n, .inl (aI t))), (xi, .inl (kA 0, mx, .inl (aI ti))), (xs, .inl (kA 0, mx, .inl (aI ts))), (xe, .inl (kA 0, mx, .inl (aI te))), (xl, .inl (kA 0, mx, .inl (aI tl)))] ∧ (fun _ => True) h)) (li_Qw (S := Unit) (dC, dI) CL (fun _ => True) (fun _ => none) (fun _ => [(ho, .inr (2, [.ref oc, .int (iI fd), .ref xi, .ref xs, .ref xe, .ref xl, .int (iI (tc + 1))])), (oc, .inl (kA 1, n, .inl (aI t))), (xi, .inl (kA 0, mx, .inl (aI (va_up ti tc.toNat ix)))), (xs, .inl (kA 0, mx, .inl (aI (va_up ts tc.toNat a1)))), (xe, .inl (kA 0, mx, .inl (aI (va_up te tc.toNat a2)))), (xl, .inl (kA 0, mx, .inl (aI tl)))]) (va_A [(ho, .inr (2, [.ref oc, .int (iI fd), .ref xi, .ref xs, .ref xe, .ref xl, .int (iI tc)])), (oc, .inl (kA 1, n, .inl (aI t))), (xi, .inl (kA 0, mx, .inl (aI ti))), (xs, .inl (kA 0, mx, .inl (aI ts))), (xe, .inl (kA 0, mx, .inl (aI te))), (xl, .inl (kA 0, mx, .inl (aI tl)))] sz)) 0 0 (va_A [(ho, .inr (2, [.ref oc, .int (iI fd), .ref xi, .ref xs, .ref xe, .ref xl, .int (iI tc)])), (oc, .inl (kA 1, n, .inl (aI t))), (xi, .inl (kA 0, mx, .inl (aI ti))), (xs, .inl (kA 0, mx, .inl (aI ts))), (xe, .inl (kA 0, mx, .inl (aI te))), (xl, .inl (kA 0, mx, .inl (aI tl)))] sz) := by
  refine li_mwv (by decide) (Nat.le_of_ble_eq_true rfl) ?_
  intro p e s m args below meth c Q A C hP hD hBx hK hN hG hA hAi hAN fin ls hl
  obtain ⟨hx, hb, hr, hml, hown, hts, hlocks, hin⟩ := C
  have hown : s.vm.findClass R_H = some m.cls := hown
  have hS : va_S A s.heap s.heap [] := va_S.rf
  have hl : lv_has ls 4 [(0, .ref ho), (1, .int (iI ix)), (2, .int (iI a1)), (3, .int (iI a2))] := hl
  obtain ⟨hn, hmx, htc, ht, hti, hxs, hxe, hxl⟩ := id hH
  refine lv_aload_n hx hb d_H_addText_0 rfl (lv_at hl 0 rfl) ?_
  refine gf_H_80 hx hb hts hown hK hP 0 rfl rfl d_H_addText_1 ?_
  refine lv_aload_n hx hb d_H_addText_4 rfl (lv_at hl 0 rfl) ?_
  refine gf_H_42 hx hb hts hown hK hP 0 rfl rfl d_H_addText_5 ?_
  refine li_alen hx hb hK hP 3 0 rfl rfl d_H_addText_8 ?_
  refine li_icmp_ge (tgt := 52) hx hb d_H_addText_9 (by decide) (by omega) (by omega) (fun c1 => ?_) (fun c1 => ?_)
  · have _q := c1
    exact absurd c1 (by omega)
  · have _q := c1
    refine lv_aload_n hx hb d_H_addText_12 rfl (lv_at hl 0 rfl) ?_
    refine gf_H_38 hx hb hts hown hK hP 0 rfl rfl d_H_addText_13 ?_
    refine lv_aload_n hx hb d_H_addText_16 rfl (lv_at hl 0 rfl) ?_
    refine gf_H_80 hx hb hts hown hK hP 0 rfl rfl d_H_addText_17 ?_
    refine lv_iload_n hx hb d_H_addText_20 rfl (lv_at hl 1 rfl) ?_
    refine li_iast hx hb hK hP hD hS 2 0 rfl rfl (by omega) (by omega) (by omega) d_H_addText_21 (fun H locs hP hD hS => ?_)
    have hP : va_P (dC, dI) CL [(ho, .inr (2, [.ref oc, .int (iI fd), .ref xi, .ref xs, .ref xe, .ref xl, .int (iI tc)])), (oc, .inl (kA 1, n, .inl (aI t))), (xi, .inl (kA 0, mx, .inl (aI (va_up ti tc.toNat ix)))), (xs, .inl (kA 0, mx, .inl (aI ts))), (xe, .inl (kA 0, mx, .inl (aI te))), (xl, .inl (kA 0, mx, .inl (aI tl)))] H := hP
    have hD : va_D A [(ho, .inr (2, [.ref oc, .int (iI fd), .ref xi, .ref xs, .ref xe, .ref xl, .int (iI tc)])), (oc, .inl (kA 1, n, .inl (aI t))), (xi, .inl (kA 0, mx, .inl (aI (va_up ti tc.toNat ix)))), (xs, .inl (kA 0, mx, .inl (aI ts))), (xe, .inl (kA 0, mx, .inl (aI te))), (xl, .inl (kA 0, mx, .inl (aI tl)))] := hD
    refine lv_aload_n hx hb d_H_addText_22 rfl (lv_at hl 0 rfl) ?_
    refine gf_H_42 hx hb hts hown hK hP 0 rfl rfl d_H_addText_23 ?_
    refine lv_aload_n hx hb d_H_addText_26 rfl (lv_at hl 0 rfl) ?_
    refine gf_H_80 hx hb hts hown hK hP 0 rfl rfl d_H_addText_27 ?_
    refine lv_iload_n hx hb d_H_addText_30 rfl (lv_at hl 2 rfl) ?_
    refine li_iast hx hb hK hP hD hS 3 0 rfl rfl (by omega) (by omega) (by omega) d_H_addText_31 (fun H locs hP hD hS => ?_)
    have hP : va_P (dC, dI) CL [(ho, .inr (2, [.ref oc, .int (iI fd), .ref xi, .ref xs, .ref xe, .ref xl, .int (iI tc)])), (oc, .inl (kA 1, n, .inl (aI t))), (xi, .inl (kA 0, mx, .inl (aI (va_up ti tc.toNat ix)))), (xs, .inl (kA 0, mx, .inl (aI (va_up ts tc.toNat a1)))), (xe, .inl (kA 0, mx, .inl (aI te))), (xl, .inl (kA 0, mx, .inl (aI tl)))] H := hP
    have hD : va_D A [(ho, .inr (2, [.ref oc, .int (iI fd), .ref xi, .ref xs, .ref xe, .ref xl, .int (iI tc)])), (oc, .inl (kA 1, n, .inl (aI t))), (xi, .inl (kA 0, mx, .inl (aI (va_up ti tc.toNat ix)))), (xs, .inl (kA 0, mx, .inl (aI (va_up ts tc.toNat a1)))), (xe, .inl (kA 0, mx, .inl (aI te))), (xl, .inl (kA 0, mx, .inl (aI tl)))] := hD
    refine lv_aload_n hx hb d_H_addText_32 rfl (lv_at hl 0 rfl) ?_
    refine gf_H_45 hx hb hts hown hK hP 0 rfl rfl d_H_addText_33 ?_
    refine lv_aload_n hx hb d_H_addText_36 rfl (lv_at hl 0 rfl) ?_
    refine gf_H_80 hx hb hts hown hK hP 0 rfl rfl d_H_addText_37 ?_
    refine lv_iload_n hx hb d_H_addText_40 rfl (lv_at hl 3 rfl) ?_
    refine li_iast hx hb hK hP hD hS 4 0 rfl rfl (by omega) (by omega) (by omega) d_H_addText_41 (fun H locs hP hD hS => ?_)
    have hP : va_P (dC, dI) CL [(ho, .inr (2, [.ref oc, .int (iI fd), .ref xi, .ref xs, .ref xe, .ref xl, .int (iI tc)])), (oc, .inl (kA 1, n, .inl (aI t))), (xi, .inl (kA 0, mx, .inl (aI (va_up ti tc.toNat ix)))), (xs, .inl (kA 0, mx, .inl (aI (va_up ts tc.toNat a1)))), (xe, .inl (kA 0, mx, .inl (aI (va_up te tc.toNat a2)))), (xl, .inl (kA 0, mx, .inl (aI tl)))] H := hP
    have hD : va_D A [(ho, .inr (2, [.ref oc, .int (iI fd), .ref xi, .ref xs, .ref xe, .ref xl, .int (iI tc)])), (oc, .inl (kA 1, n, .inl (aI t))), (xi, .inl (kA 0, mx, .inl (aI (va_up ti tc.toNat ix)))), (xs, .inl (kA 0, mx, .inl (aI (va_up ts tc.toNat a1)))), (xe, .inl (kA 0, mx, .inl (aI (va_up te tc.toNat a2)))), (xl, .inl (kA 0, mx, .inl (aI tl)))] := hD
    refine lv_aload_n hx hb d_H_addText_42 rfl (lv_at hl 0 rfl) ?_
    refine lv_dup hx hb d_H_addText_43 rfl ?_
    refine gf_H_80 hx hb hts hown hK hP 0 rfl rfl d_H_addText_44 ?_
    refine lv_iconst (v := iI 1) hx hb d_H_addText_47 rfl ?_
    refine li_iadd hx hb d_H_addText_48 ?_
    refine li_nm (fun x2 ex2 => ?_)
    refine pf_H_80 hx hb hts hown hK hP hD hS 0 rfl (Nat.le_of_ble_eq_true rfl) d_H_addText_49 (fun H locs hP hD hS => ?_)
    have hP : va_P (dC, dI) CL [(ho, .inr (2, [.ref oc, .int (iI fd), .ref xi, .ref xs, .ref xe, .ref xl, .int (iI x2)])), (oc, .inl (kA 1, n, .inl (aI t))), (xi, .inl (kA 0, mx, .inl (aI (va_up ti tc.toNat ix)))), (xs, .inl (kA 0, mx, .inl (aI (va_up ts tc.toNat a1)))), (xe, .inl (kA 0, mx, .inl (aI (va_up te tc.toNat a2)))), (xl, .inl (kA 0, mx, .inl (aI tl)))] H := hP
    have hD : va_D A [(ho, .inr (2, [.ref oc, .int (iI fd), .ref xi, .ref xs, .ref xe, .ref xl, .int (iI x2)])), (oc, .inl (kA 1, n, .inl (aI t))), (xi, .inl (kA 0, mx, .inl (aI (va_up ti tc.toNat ix)))), (xs, .inl (kA 0, mx, .inl (aI (va_up ts tc.toNat a1)))), (xe, .inl (kA 0, mx, .inl (aI (va_up te tc.toNat a2)))), (xl, .inl (kA 0, mx, .inl (aI tl)))] := hD
    exact fin () _ _ _ _ (by trivial) (by first | exact hP | (subst_vars; exact hP)) (by first | exact hD | (subst_vars; exact hD)) hS d_H_addText_52
theorem d_H_leaveOut_0 : decode b_H_leaveOut 0 = .ok (.aload_n 0, 1) := by decide +kernel
theorem d_H_leaveOut_1 : decode b_H_leaveOut 1 = .ok (.getfield 80, 3) := by decide +kernel
theorem d_H_leaveOut_4 : decode b_H_leaveOut 4 = .ok (.ifCond .le 15, 3) := by decide +kernel
theorem d_H_leaveOut_7 : decode b_H_leaveOut 7 = .ok (.aload_n 0, 1) := by decide +kernel
theorem d_H_leaveOut_8 : decode b_H_leaveOut 8 = .ok (.getfield 48, 3) := by decide +kernel
theorem d_H_leaveOut_11 : decode b_H_leaveOut 11 = .ok (.aload_n 0, 1) := by decide +kernel
theorem d_H_leaveOut_12 : decode b_H_leaveOut 12 = .ok (.getfield 80, 3) := by decide +kernel
theorem d_H_leaveOut_15 : decode b_H_leaveOut 15 = .ok (.iconst 1, 1) := by decide +kernel
theorem d_H_leaveOut_16 : decode b_H_leaveOut 16 = .ok (.isub, 1) := by decide +kernel
theorem d_H_leaveOut_17 : decode b_H_leaveOut 17 = .ok (.iload_n 1, 1) := by decide +kernel
theorem d_H_leaveOut_18 : decode b_H_leaveOut 18 = .ok (.iastore, 1) := by decide +kernel
theorem d_H_leaveOut_19 : decode b_H_leaveOut 19 = .ok (.return_, 1) := by decide +kernel
set_option maxHeartbeats 4000000 in
set_option maxRecDepth 100000 in
theorem c_H_leaveOut (l : Launch) (dC : Nat → ClassId) (dI : Nat → Nat → Nat) (kA : Nat → ClassId) (sz : Nat) (ho : Nat) (oc : Nat) (xi : Nat) (xs : Nat) (xe : Nat) (xl : Nat) (n : Nat) (mx : Nat) (fd : Int) (tc : Int) (t : Nat → Int) (ti : Nat → Int) (ts : Nat → Int) (te : Nat → Int) (tl : Nat → Int) (k : Int) (hH : HR n mx t ti ts te tl tc) (hk : -2147483648 ≤ k ∧ k < 2147483648) (hroom : 0 < tc) : Met l y_H_leaveOut (wsy y_H_leaveOut b_H_leaveOut 2 none) (rmd 0 0 0) (li_Pr (dC, dI) CL (TY kA) [.ref ho, .int (iI k)] (fun h => h.size = sz ∧ va_P (dC, dI) CL [(ho, .inr (2, [.ref oc, .int (iI fd), .ref xi, .ref xs, .ref xe, .ref xl, .int (iI tc)])), (oc, .inl (kA 1, n, .inl (aI t))), (xi, .inl (kA 0, mx, .inl (aI ti))), (xs, .inl (kA 0, mx, .inl (aI ts))), (xe, .inl (kA 0, mx, .inl (aI te))), (xl, .inl (kA 0, mx, .inl (aI tl)))] h ∧ va_D (fun q => dI 100 0 ≤ q) [(ho, .inr (2, [.ref oc, .int (iI fd), .ref xi, .ref xs, .ref xe, .ref xl, .int (iI tc)])), (oc, .inl (kA 1, n, .inl (aI t))), (xi, .inl (kA 0, mx, .inl (aI ti))), (xs, .inl (kA 0, mx, .inl (aI ts))), (xe, .inl (kA 0, mx, .inl (aI te))), (xl, .inl (kA 0, mx, .inl (aI tl)))] ∧ (fun _ => True) h)) (li_Qw (S := Unit) (dC, dI) CL (fun _ => True) (fun _ => none) (fun _ => [(ho, .inr (2, [.ref oc, .int (iI fd), .ref xi, .ref xs, .ref xe, .ref xl, .int (iI tc)])), (oc, .inl (kA 1, n, .inl (aI t))), (xi, .inl (kA 0, mx, .inl (aI ti))), (xs, .inl (kA 0, mx, .inl (aI ts))), (xe, .inl (kA 0, mx, .inl (aI te))), (xl, .inl (kA 0, mx, .inl (aI (va_up tl (tc - 1).toNat k))))]) (va_A [(ho, .inr (2, [.ref oc, .int (iI fd), .ref xi, .ref xs, .ref xe, .ref xl, .int (iI tc)])), (oc, .inl (kA 1, n, .inl (aI t))), (xi, .inl (kA 0, mx, .inl (aI ti))), (xs, .inl (kA 0, mx, .inl (aI ts))), (xe, .inl (kA 0, mx, .inl (aI te))), (xl, .inl (kA 0, mx, .inl (aI tl)))] sz)) 0 0 (va_A [(ho, .inr (2, [.ref oc, .int (iI fd), .ref xi, .ref xs, .ref xe, .ref xl, .int (iI tc)])), (oc, .inl (kA 1, n, .inl (aI t))), (xi, .inl (kA 0, mx, .inl (aI ti))), (xs, .inl (kA 0, mx, .inl (aI ts))), (xe, .inl (kA 0, mx, .inl (aI te))), (xl, .inl (kA 0, mx, .inl (aI tl)))] sz) := by
  refine li_mwv (by decide) (Nat.le_of_ble_eq_true rfl) ?_
  intro p e s m args below meth c Q A C hP hD hBx hK hN hG hA hAi hAN fin ls hl
  obtain ⟨hx, hb, hr, hml, hown, hts, hlocks, hin⟩ := C
  have hown : s.vm.findClass R_H = some m.cls := hown
  have hS : va_S A s.heap s.heap [] := va_S.rf
  have hl : lv_has ls 2 [(0, .ref ho), (1, .int (iI k))] := hl
  obtain ⟨hn, hmx, htc, ht, hti, hxs, hxe, hxl⟩ := id hH
  refine lv_aload_n hx hb d_H_leaveOut_0 rfl (lv_at hl 0 rfl) ?_
  refine gf_H_80 hx hb hts hown hK hP 0 rfl rfl d_H_leaveOut_1 ?_
  refine li_if_le (tgt := 19) hx hb d_H_leaveOut_4 (by decide) (by omega) (fun c1 => ?_) (fun c1 => ?_)
  · have _q := c1
    exact absurd c1 (by omega)
  · have _q := c1
    refine lv_aload_n hx hb d_H_leaveOut_7 rfl (lv_at hl 0 rfl) ?_
    refine gf_H_48 hx hb hts hown hK hP 0 rfl rfl d_H_leaveOut_8 ?_
    refine lv_aload_n hx hb d_H_leaveOut_11 rfl (lv_at hl 0 rfl) ?_
    refine gf_H_80 hx hb hts hown hK hP 0 rfl rfl d_H_leaveOut_12 ?_
    refine lv_iconst (v := iI 1) hx hb d_H_leaveOut_15 rfl ?_
    refine li_isub hx hb d_H_leaveOut_16 ?_
    refine lv_iload_n hx hb d_H_leaveOut_17 rfl (lv_at hl 1 rfl) ?_
    refine li_iast hx hb hK hP hD hS 5 0 rfl rfl (by omega) (by omega) (by omega) d_H_leaveOut_18 (fun H locs hP hD hS => ?_)
    have hP : va_P (dC, dI) CL [(ho, .inr (2, [.ref oc, .int (iI fd), .ref xi, .ref xs, .ref xe, .ref xl, .int (iI tc)])), (oc, .inl (kA 1, n, .inl (aI t))), (xi, .inl (kA 0, mx, .inl (aI ti))), (xs, .inl (kA 0, mx, .inl (aI ts))), (xe, .inl (kA 0, mx, .inl (aI te))), (xl, .inl (kA 0, mx, .inl (aI (va_up tl ((tc - 1).toNat) k))))] H := hP
    have hD : va_D A [(ho, .inr (2, [.ref oc, .int (iI fd), .ref xi, .ref xs, .ref xe, .ref xl, .int (iI tc)])), (oc, .inl (kA 1, n, .inl (aI t))), (xi, .inl (kA 0, mx, .inl (aI ti))), (xs, .inl (kA 0, mx, .inl (aI ts))), (xe, .inl (kA 0, mx, .inl (aI te))), (xl, .inl (kA 0, mx, .inl (aI (va_up tl ((tc - 1).toNat) k))))] := hD
    exact fin () _ _ _ _ (by trivial) (by first | exact hP | (subst_vars; exact hP)) (by first | exact hD | (subst_vars; exact hD)) hS d_H_leaveOut_19
theorem d_H_endText_0 : decode b_H_endText 0 = .ok (.aload_n 0, 1) := by decide +kernel
theorem d_H_endText_1 : decode b_H_endText 1 = .ok (.getfield 80, 3) := by decide +kernel
theorem d_H_endText_4 : decode b_H_endText 4 = .ok (.ifCond .le 15, 3) := by decide +kernel
theorem d_H_endText_7 : decode b_H_endText 7 = .ok (.aload_n 0, 1) := by decide +kernel
theorem d_H_endText_8 : decode b_H_endText 8 = .ok (.getfield 45, 3) := by decide +kernel
theorem d_H_endText_11 : decode b_H_endText 11 = .ok (.aload_n 0, 1) := by decide +kernel
theorem d_H_endText_12 : decode b_H_endText 12 = .ok (.getfield 80, 3) := by decide +kernel
theorem d_H_endText_15 : decode b_H_endText 15 = .ok (.iconst 1, 1) := by decide +kernel
theorem d_H_endText_16 : decode b_H_endText 16 = .ok (.isub, 1) := by decide +kernel
theorem d_H_endText_17 : decode b_H_endText 17 = .ok (.iload_n 1, 1) := by decide +kernel
theorem d_H_endText_18 : decode b_H_endText 18 = .ok (.iastore, 1) := by decide +kernel
theorem d_H_endText_19 : decode b_H_endText 19 = .ok (.return_, 1) := by decide +kernel
set_option maxHeartbeats 4000000 in
set_option maxRecDepth 100000 in
theorem c_H_endText (l : Launch) (dC : Nat → ClassId) (dI : Nat → Nat → Nat) (kA : Nat → ClassId) (sz : Nat) (ho : Nat) (oc : Nat) (xi : Nat) (xs : Nat) (xe : Nat) (xl : Nat) (n : Nat) (mx : Nat) (fd : Int) (tc : Int) (t : Nat → Int) (ti : Nat → Int) (ts : Nat → Int) (te : Nat → Int) (tl : Nat → Int) (k : Int) (hH : HR n mx t ti ts te tl tc) (hk : -2147483648 ≤ k ∧ k < 2147483648) (hroom : 0 < tc) : Met l y_H_endText (wsy y_H_endText b_H_endText 2 none) (rmd 0 0 0) (li_Pr (dC, dI) CL (TY kA) [.ref ho, .int (iI k)] (fun h => h.size = sz ∧ va_P (dC, dI) CL [(ho, .inr (2, [.ref oc, .int (iI fd), .ref xi, .ref xs, .ref xe, .ref xl, .int (iI tc)])), (oc, .inl (kA 1, n, .inl (aI t))), (xi, .inl (kA 0, mx, .inl (aI ti))), (xs, .inl (kA 0, mx, .inl (aI ts))), (xe, .inl (kA 0, mx, .inl (aI te))), (xl, .inl (kA 0, mx, .inl (aI tl)))] h ∧ va_D (fun q => dI 100 0 ≤ q) [(ho, .inr (2, [.ref oc, .int (iI fd), .ref xi, .ref xs, .ref xe, .ref xl, .int (iI tc)])), (oc, .inl (kA 1, n, .inl (aI t))), (xi, .inl (kA 0, mx, .inl (aI ti))), (xs, .inl (kA 0, mx, .inl (aI ts))), (xe, .inl (kA 0, mx, .inl (aI te))), (xl, .inl (kA 0, mx, .inl (aI tl)))] ∧ (fun _ => True) h)) (li_Qw (S := Unit) (dC, dI) CL (fun _ => True) (fun _ => none) (fun _ => [(ho, .inr (2, [.ref oc, .int (iI fd), .ref xi, .ref xs, .ref xe, .ref xl, .int (iI tc)])), (oc, .inl (kA 1, n, .inl (aI t))), (xi, .inl (kA 0, mx, .inl (aI ti))), (xs, .inl (kA 0, mx, .inl (aI ts))), (xe, .inl (kA 0, mx, .inl (aI (va_up te (tc - 1).toNat k)))), (xl, .inl (kA 0, mx, .inl (aI tl)))]) (va_A [(ho, .inr (2, [.ref oc, .int (iI fd), .ref xi, .ref xs, .ref xe, .ref xl, .int (iI tc)])), (oc, .inl (kA 1, n, .inl (aI t))), (xi, .inl (kA 0, mx, .inl (aI ti))), (xs, .inl (kA 0, mx, .inl (aI ts))), (xe, .inl (kA 0, mx, .inl (aI te))), (xl, .inl (kA 0, mx, .inl (aI tl)))] sz)) 0 0 (va_A [(ho, .inr (2, [.ref oc, .int (iI fd), .ref xi, .ref xs, .ref xe, .ref xl, .int (iI tc)])), (oc, .inl (kA 1, n, .inl (aI t))), (xi, .inl (kA 0, mx, .inl (aI ti))), (xs, .inl (kA 0, mx, .inl (aI ts))), (xe, .inl (kA 0, mx, .inl (aI te))), (xl, .inl (kA 0, mx, .inl (aI tl)))] sz) := by
  refine li_mwv (by decide) (Nat.le_of_ble_eq_true rfl) ?_
  intro p e s m args below meth c Q A C hP hD hBx hK hN hG hA hAi hAN fin ls hl
  obtain ⟨hx, hb, hr, hml, hown, hts, hlocks, hin⟩ := C
  have hown : s.vm.findClass R_H = some m.cls := hown
  have hS : va_S A s.heap s.heap [] := va_S.rf
  have hl : lv_has ls 2 [(0, .ref ho), (1, .int (iI k))] := hl
  obtain ⟨hn, hmx, htc, ht, hti, hxs, hxe, hxl⟩ := id hH
  refine lv_aload_n hx hb d_H_endText_0 rfl (lv_at hl 0 rfl) ?_
  refine gf_H_80 hx hb hts hown hK hP 0 rfl rfl d_H_endText_1 ?_
  refine li_if_le (tgt := 19) hx hb d_H_endText_4 (by decide) (by omega) (fun c1 => ?_) (fun c1 => ?_)
  · have _q := c1
    exact absurd c1 (by omega)
  · have _q := c1
    refine lv_aload_n hx hb d_H_endText_7 rfl (lv_at hl 0 rfl) ?_
    refine gf_H_45 hx hb hts hown hK hP 0 rfl rfl d_H_endText_8 ?_
    refine lv_aload_n hx hb d_H_endText_11 rfl (lv_at hl 0 rfl) ?_
    refine gf_H_80 hx hb hts hown hK hP 0 rfl rfl d_H_endText_12 ?_
    refine lv_iconst (v := iI 1) hx hb d_H_endText_15 rfl ?_
    refine li_isub hx hb d_H_endText_16 ?_
    refine lv_iload_n hx hb d_H_endText_17 rfl (lv_at hl 1 rfl) ?_
    refine li_iast hx hb hK hP hD hS 4 0 rfl rfl (by omega) (by omega) (by omega) d_H_endText_18 (fun H locs hP hD hS => ?_)
    have hP : va_P (dC, dI) CL [(ho, .inr (2, [.ref oc, .int (iI fd), .ref xi, .ref xs, .ref xe, .ref xl, .int (iI tc)])), (oc, .inl (kA 1, n, .inl (aI t))), (xi, .inl (kA 0, mx, .inl (aI ti))), (xs, .inl (kA 0, mx, .inl (aI ts))), (xe, .inl (kA 0, mx, .inl (aI (va_up te ((tc - 1).toNat) k)))), (xl, .inl (kA 0, mx, .inl (aI tl)))] H := hP
    have hD : va_D A [(ho, .inr (2, [.ref oc, .int (iI fd), .ref xi, .ref xs, .ref xe, .ref xl, .int (iI tc)])), (oc, .inl (kA 1, n, .inl (aI t))), (xi, .inl (kA 0, mx, .inl (aI ti))), (xs, .inl (kA 0, mx, .inl (aI ts))), (xe, .inl (kA 0, mx, .inl (aI (va_up te ((tc - 1).toNat) k)))), (xl, .inl (kA 0, mx, .inl (aI tl)))] := hD
    exact fin () _ _ _ _ (by trivial) (by first | exact hP | (subst_vars; exact hP)) (by first | exact hD | (subst_vars; exact hD)) hS d_H_endText_19

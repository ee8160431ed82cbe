def idD (ub : Nat → Int) (y ye : Int) (d : HD) : Bool := decide (txFst d.ti d.tc 5 d.tc.toNat 0 ≠ -1 ∧ cmpF d.t d.n (d.ts (txFst d.ti d.tc 5 d.tc.toNat 0).toNat) (d.te (txFst d.ti d.tc 5 d.tc.toNat 0).toNat) ub 400 y ye = 0)
def itL (hd : Nat → Option HD) (ub : Nat → Int) (y ye : Int) : Nat → Int → Bool
  | 0, _ => false
  | k + 1, r => (hd r.toNat).any (idD ub y ye) || itL hd ub y ye k (r + 1)
def itM (hd : Nat → Option HD) (ub : Nat → Int) (y ye : Int) : Bool := itL hd ub y ye 10 0

theorem d_Q_isTwice_0 : decode b_Q_isTwice 0 = .ok (.iconst 0, 1) := by decide +kernel
theorem d_Q_isTwice_1 : decode b_Q_isTwice 1 = .ok (.istore_n 1, 1) := by decide +kernel
theorem d_Q_isTwice_2 : decode b_Q_isTwice 2 = .ok (.iload_n 1, 1) := by decide +kernel
theorem d_Q_isTwice_3 : decode b_Q_isTwice 3 = .ok (.aload_n 0, 1) := by decide +kernel
theorem d_Q_isTwice_4 : decode b_Q_isTwice 4 = .ok (.getfield 18, 3) := by decide +kernel
theorem d_Q_isTwice_7 : decode b_Q_isTwice 7 = .ok (.arraylength, 1) := by decide +kernel
theorem d_Q_isTwice_8 : decode b_Q_isTwice 8 = .ok (.if_icmp .ge 47, 3) := by decide +kernel
theorem d_Q_isTwice_11 : decode b_Q_isTwice 11 = .ok (.aload_n 0, 1) := by decide +kernel
theorem d_Q_isTwice_12 : decode b_Q_isTwice 12 = .ok (.getfield 18, 3) := by decide +kernel
theorem d_Q_isTwice_15 : decode b_Q_isTwice 15 = .ok (.iload_n 1, 1) := by decide +kernel
theorem d_Q_isTwice_16 : decode b_Q_isTwice 16 = .ok (.aaload, 1) := by decide +kernel
theorem d_Q_isTwice_17 : decode b_Q_isTwice 17 = .ok (.astore_n 2, 1) := by decide +kernel
theorem d_Q_isTwice_18 : decode b_Q_isTwice 18 = .ok (.aload_n 2, 1) := by decide +kernel
theorem d_Q_isTwice_19 : decode b_Q_isTwice 19 = .ok (.ifnull 30, 3) := by decide +kernel
theorem d_Q_isTwice_22 : decode b_Q_isTwice 22 = .ok (.aload_n 2, 1) := by decide +kernel
theorem d_Q_isTwice_23 : decode b_Q_isTwice 23 = .ok (.aload_n 0, 1) := by decide +kernel
theorem d_Q_isTwice_24 : decode b_Q_isTwice 24 = .ok (.getfield 9, 3) := by decide +kernel
theorem d_Q_isTwice_27 : decode b_Q_isTwice 27 = .ok (.aload_n 0, 1) := by decide +kernel
theorem d_Q_isTwice_28 : decode b_Q_isTwice 28 = .ok (.getfield 33, 3) := by decide +kernel
theorem d_Q_isTwice_31 : decode b_Q_isTwice 31 = .ok (.getfield 104, 3) := by decide +kernel
theorem d_Q_isTwice_34 : decode b_Q_isTwice 34 = .ok (.aload_n 0, 1) := by decide +kernel
theorem d_Q_isTwice_35 : decode b_Q_isTwice 35 = .ok (.getfield 33, 3) := by decide +kernel
theorem d_Q_isTwice_38 : decode b_Q_isTwice 38 = .ok (.getfield 219, 3) := by decide +kernel
theorem d_Q_isTwice_41 : decode b_Q_isTwice 41 = .ok (.invokevirtual 222, 3) := by decide +kernel
theorem d_Q_isTwice_44 : decode b_Q_isTwice 44 = .ok (.ifCond .eq 5, 3) := by decide +kernel
theorem d_Q_isTwice_47 : decode b_Q_isTwice 47 = .ok (.iconst 1, 1) := by decide +kernel
theorem d_Q_isTwice_48 : decode b_Q_isTwice 48 = .ok (.ireturn, 1) := by decide +kernel
theorem d_Q_isTwice_49 : decode b_Q_isTwice 49 = .ok (.iinc 1 1, 3) := by decide +kernel
theorem d_Q_isTwice_52 : decode b_Q_isTwice 52 = .ok (.goto (-50), 3) := by decide +kernel
theorem d_Q_isTwice_55 : decode b_Q_isTwice 55 = .ok (.iconst 0, 1) := by decide +kernel
theorem d_Q_isTwice_56 : decode b_Q_isTwice 56 = .ok (.ireturn, 1) := by decide +kernel
set_option maxHeartbeats 4000000 in
set_option maxRecDepth 100000 in
theorem c_Q_isTwice (l : Launch) (dC : Nat → ClassId) (dI : Nat → Nat → Nat) (kA : Nat → ClassId) (qo : Nat) (qa : Nat → Nat) (qbc : Int) (qll : Int) (qfc : Int) (qfp : Int) (ub : Nat → Int) (hd : Nat → Option HD) (iba : Nat) (icn : Int) (ifp : Int) (ien : Int) (ibs : Int) (iie : Int) (ife : Int) (hub : C2 ub) (hHD : ∀ (r : Nat) (d : HD), hd r = some d → HDok d) (hib : 0 ≤ ibs ∧ ibs ≤ 1000 ∧ 0 ≤ iie ∧ iie ≤ 1000) : Met l y_Q_isTwice (wsy y_Q_isTwice b_Q_isTwice 3 (some .boolean)) (rmd 3 0 0) (li_Pr (dC, dI) CL (TY kA) [.ref qo] (fun h => va_P (dC, dI) CL [(qo, .inr (0, [.ref (qa 0), .int (iI qbc), .ref (qa 1), .int (iI qll), .ref (qa 2), .ref (qa 3), .int (iI qfc), .int (iI qfp), .ref (qa 4), .ref (qa 5), .ref (qa 6), .ref (qa 7), .ref (qa 8), .ref (qa 9)])), (qa 0, .inl (kA 1, 400, .inl (aI ub))), (qa 2, .inl (kA 4, 10, .inr (.inr (.inr (.inr (shO hd)))))), (qa 4, .inr (3, [.ref iba, .int (iI icn), .int (iI ifp), .int (iI ien), .int (iI ibs), .int (iI iie), .int (iI ife)]))] h ∧ ShR (dC, dI) kA hd h)) (k2_QcV (.int (iI (bI (itM hd ub ibs iie))))) 0 0 (fun _ => False) := by
  refine li_mr (by decide) (Nat.le_of_ble_eq_true rfl) (by exact li_narZ2 _) ?_
  intro p e s m args below meth c Q C hP hK hN hG fin ls hl
  obtain ⟨hx, hb, hr, hml, hown, hts, hlocks, hin⟩ := C
  have hown : s.vm.findClass R_Q = some m.cls := hown
  obtain ⟨hP, hSh⟩ := hP
  have hP : va_P (dC, dI) CL [(qo, .inr (0, [.ref (qa 0), .int (iI qbc), .ref (qa 1), .int (iI qll), .ref (qa 2), .ref (qa 3), .int (iI qfc), .int (iI qfp), .ref (qa 4), .ref (qa 5), .ref (qa 6), .ref (qa 7), .ref (qa 8), .ref (qa 9)])), (qa 0, .inl (kA 1, 400, .inl (aI ub))), (qa 2, .inl (kA 4, 10, .inr (.inr (.inr (.inr (shO hd)))))), (qa 4, .inr (3, [.ref iba, .int (iI icn), .int (iI ifp), .int (iI ien), .int (iI ibs), .int (iI iie), .int (iI ife)]))] s.heap := hP
  have hl : lv_has ls 3 [(0, .ref qo)] := hl
  have K_2 : ∀ (nn_2 : Nat) (r : Int), (0 ≤ r ∧ r ≤ 10) → (itL hd ub ibs iie (10 - r).toNat r = itM hd ub ibs iie) → ((10 - (r : Int)).toNat < nn_2) → ∀ ls : Array Slot, lv_has ls 3 [(0, .ref qo), (1, .int (iI r))] → W p l e (rmd 3 0 0) s m args below meth c s.heap [] 0 0 Q (F0 m 2 ls []) := by
    intro nn_2
    induction nn_2 with
    | zero => intro r hr9 hres hm; exact absurd hm (Nat.not_lt_zero _)
    | succ nn_2 ih_2 =>
      intro r hr9 hres hm_2 ls hl
      refine lv_iload_n hx hb d_Q_isTwice_2 rfl (lv_at hl 1 rfl) ?_
      refine lv_aload_n hx hb d_Q_isTwice_3 rfl (lv_at hl 0 rfl) ?_
      refine gf_Q_18 hx hb hts hown hK hP 0 rfl rfl d_Q_isTwice_4 ?_
      refine li_alen hx hb hK hP 2 4 rfl rfl d_Q_isTwice_7 ?_
      refine li_icmp_ge (tgt := 55) hx hb d_Q_isTwice_8 (by decide) (by omega) (by omega) (fun c1 => ?_) (fun c1 => ?_)
      · have _q := c1
        rw [show (10 - r).toNat = 0 by omega] at hres
        simp only [itL] at hres
        refine lv_iconst (v := iI 0) hx hb d_Q_isTwice_55 rfl ?_
        exact fin _ _ _ (by exact bI_f hres.symm) d_Q_isTwice_56
      · have _q := c1
        rw [show (10 - r).toNat = (10 - (r + 1)).toNat + 1 by omega] at hres
        simp only [itL] at hres
        refine lv_aload_n hx hb d_Q_isTwice_11 rfl (lv_at hl 0 rfl) ?_
        refine gf_Q_18 hx hb hts hown hK hP 0 rfl rfl d_Q_isTwice_12 ?_
        refine lv_iload_n hx hb d_Q_isTwice_15 rfl (lv_at hl 1 rfl) ?_
        refine li_ald hx hb hK hP 2 4 rfl rfl (by omega) (by omega) (by omega) d_Q_isTwice_16 ?_
        rcases hd2 : hd r.toNat with _ | dq
        · have _q := hd2
          refine li_rfN (shO_n hd2) ?_
          rw [hd2, show Option.any (idD ub ibs iie) none = false from rfl, Bool.false_or] at hres
          refine lv_astore_nN (lv' := [(2, .null), (0, .ref qo), (1, .int (iI r))]) hx hb d_Q_isTwice_17 rfl hl (by decide) rfl (fun ls hl => ?_)
          refine lv_aload_nN hx hb d_Q_isTwice_18 rfl (lv_at hl 0 rfl) ?_
          refine lv_ifnullN (tgt := 49) hx hb d_Q_isTwice_19 (by decide) ?_
          obtain ⟨r_n, er_n⟩ : ∃ y_9 : Int, y_9 = r + 1 := ⟨_, rfl⟩
          refine lv_iinc (v := iI r_n) (lv' := [(1, .int (iI r_n)), (2, .null), (0, .ref qo)]) hx hb d_Q_isTwice_49 hl (k := 2) rfl (by rw [er_n]; exact iI_add _ _) (by decide) rfl (fun ls hl => ?_)
          refine lv_goto (tgt := 2) hx hb d_Q_isTwice_52 (by decide) ?_
          exact ih_2 r_n (by omega) (by rw [er_n]; exact hres) (by omega) _ (lv_sub hl [2, 0] rfl)
        · have _q := hd2
          refine li_rfS (a := dq.ho) (shO_s hd2) ?_
          have hk_dq := hd2
          obtain ⟨hH_dq, hte_dq⟩ := hHD _ _ hd2
          have hR_dq := hSh r.toNat dq hd2
          refine lv_astore_n (lv' := [(2, .ref dq.ho), (0, .ref qo), (1, .int (iI r))]) hx hb d_Q_isTwice_17 rfl hl (by decide) rfl (fun ls hl => ?_)
          refine lv_aload_n hx hb d_Q_isTwice_18 rfl (lv_at hl 0 rfl) ?_
          refine lv_ifnull hx hb d_Q_isTwice_19 ?_
          refine lv_aload_n hx hb d_Q_isTwice_22 rfl (lv_at hl 0 rfl) ?_
          refine lv_aload_n hx hb d_Q_isTwice_23 rfl (lv_at hl 1 rfl) ?_
          refine gf_Q_9 hx hb hts hown hK hP 0 rfl rfl d_Q_isTwice_24 ?_
          refine lv_aload_n hx hb d_Q_isTwice_27 rfl (lv_at hl 1 rfl) ?_
          refine gf_Q_33 hx hb hts hown hK hP 0 rfl rfl d_Q_isTwice_28 ?_
          refine gf_Q_104 hx hb hts hN hown hK hP 3 rfl rfl d_Q_isTwice_31 ?_
          refine lv_aload_n hx hb d_Q_isTwice_34 rfl (lv_at hl 1 rfl) ?_
          refine gf_Q_33 hx hb hts hown hK hP 0 rfl rfl d_Q_isTwice_35 ?_
          refine gf_Q_219 hx hb hts hN hown hK hP 3 rfl rfl d_Q_isTwice_38 ?_
          refine li_callr ((va_runV (As := [.ref (qa 0), .int (iI ibs), .int (iI iie)]) (rest := []) ⟨hx, hb, hml, hown, hts⟩ (c_H_hasId l dC dI kA dq.ho dq.oc dq.xi dq.xs dq.xe dq.xl dq.n dq.mx dq.fd dq.tc dq.t dq.ti dq.ts dq.te dq.tl (qa 0) 400 ub ibs iie (by exact hH_dq) (by omega) (by exact hub) (by omega)) (cw_Q_222 hts rfl rfl ⟨Nat.le_of_ble_eq_true rfl, Nat.le_of_ble_eq_true rfl⟩) (li_preV (va_recv hK hR_dq (ci := 2) (q0 := 0) rfl rfl) (va_P.app (hR_dq.sub [0] rfl) (va_P.app (hR_dq.sub [1] rfl) (va_P.app (hR_dq.sub [2] rfl) (va_P.app (hR_dq.sub [3] rfl) (va_P.app (hR_dq.sub [4] rfl) (va_P.app (hR_dq.sub [5] rfl) (hP.sub [1] rfl))))))) hK hN hG.rd) rfl rfl hl.1 rfl (lv_room (Nat.le_of_ble_eq_true rfl)) d_Q_isTwice_41 ⟨(by show 0 + 0 ≤ 0; omega), (by show 0 + 0 ≤ 0; omega)⟩).run) ?_
          refine li_bz (tgt := 49) hx hb d_Q_isTwice_44 (by decide) (fun c3 => ?_) (fun c3 => ?_)
          · have _q := c3
            rw [hk_dq, show Option.any (idD ub ibs iie) (some dq) = false from by assumption, Bool.false_or] at hres
            obtain ⟨r_n, er_n⟩ : ∃ y_9 : Int, y_9 = r + 1 := ⟨_, rfl⟩
            refine lv_iinc (v := iI r_n) (lv' := [(1, .int (iI r_n)), (2, .ref dq.ho), (0, .ref qo)]) hx hb d_Q_isTwice_49 hl (k := 2) rfl (by rw [er_n]; exact iI_add _ _) (by decide) rfl (fun ls hl => ?_)
            refine lv_goto (tgt := 2) hx hb d_Q_isTwice_52 (by decide) ?_
            exact ih_2 r_n (by omega) (by rw [er_n]; exact hres) (by omega) _ (lv_sub hl [2, 0] rfl)
          · have _q := c3
            rw [hk_dq, show Option.any (idD ub ibs iie) (some dq) = true from by assumption, Bool.true_or] at hres
            refine lv_iconst (v := iI 1) hx hb d_Q_isTwice_47 rfl ?_
            exact fin _ _ _ (by exact bI_t hres.symm) d_Q_isTwice_48
  refine lv_iconst (v := iI 0) hx hb d_Q_isTwice_0 rfl ?_
  refine lv_istore_n (lv' := [(1, .int (iI 0)), (0, .ref qo)]) hx hb d_Q_isTwice_1 rfl hl (by decide) rfl (fun ls hl => ?_)
  exact K_2 ((10 - (0 : Int)).toNat + 1) 0 (by omega) (by rfl) (Nat.lt_succ_self _) _ (lv_sub hl [1, 0] rfl)
theorem d_Q_makeLexiconsStale_0 : decode b_Q_makeLexiconsStale 0 = .ok (.iconst 0, 1) := by decide +kernel
theorem d_Q_makeLexiconsStale_1 : decode b_Q_makeLexiconsStale 1 = .ok (.istore_n 1, 1) := by decide +kernel
theorem d_Q_makeLexiconsStale_2 : decode b_Q_makeLexiconsStale 2 = .ok (.iload_n 1, 1) := by decide +kernel
theorem d_Q_makeLexiconsStale_3 : decode b_Q_makeLexiconsStale 3 = .ok (.aload_n 0, 1) := by decide +kernel
theorem d_Q_makeLexiconsStale_4 : decode b_Q_makeLexiconsStale 4 = .ok (.getfield 60, 3) := by decide +kernel
theorem d_Q_makeLexiconsStale_7 : decode b_Q_makeLexiconsStale 7 = .ok (.arraylength, 1) := by decide +kernel
theorem d_Q_makeLexiconsStale_8 : decode b_Q_makeLexiconsStale 8 = .ok (.if_icmp .ge 19, 3) := by decide +kernel
theorem d_Q_makeLexiconsStale_11 : decode b_Q_makeLexiconsStale 11 = .ok (.aload_n 0, 1) := by decide +kernel
theorem d_Q_makeLexiconsStale_12 : decode b_Q_makeLexiconsStale 12 = .ok (.getfield 60, 3) := by decide +kernel
theorem d_Q_makeLexiconsStale_15 : decode b_Q_makeLexiconsStale 15 = .ok (.iload_n 1, 1) := by decide +kernel
theorem d_Q_makeLexiconsStale_16 : decode b_Q_makeLexiconsStale 16 = .ok (.aaload, 1) := by decide +kernel
theorem d_Q_makeLexiconsStale_17 : decode b_Q_makeLexiconsStale 17 = .ok (.iconst 1, 1) := by decide +kernel
theorem d_Q_makeLexiconsStale_18 : decode b_Q_makeLexiconsStale 18 = .ok (.putfield 226, 3) := by decide +kernel
theorem d_Q_makeLexiconsStale_21 : decode b_Q_makeLexiconsStale 21 = .ok (.iinc 1 1, 3) := by decide +kernel
theorem d_Q_makeLexiconsStale_24 : decode b_Q_makeLexiconsStale 24 = .ok (.goto (-22), 3) := by decide +kernel
theorem d_Q_makeLexiconsStale_27 : decode b_Q_makeLexiconsStale 27 = .ok (.return_, 1) := by decide +kernel
set_option maxHeartbeats 4000000 in
set_option maxRecDepth 100000 in
theorem c_Q_makeLexiconsStale (l : Launch) (dC : Nat → ClassId) (dI : Nat → Nat → Nat) (kA : Nat → ClassId) (sz : Nat) (qo : Nat) (qa : Nat → Nat) (qbc : Int) (qll : Int) (qfc : Int) (qfp : Int) (xo : Nat → Nat) (xa : Nat → Nat → Nat) (xci : Nat → Int) (xzi : Nat → Int) (xsi : Nat → Bool)  : Met l y_Q_makeLexiconsStale (wsy y_Q_makeLexiconsStale b_Q_makeLexiconsStale 2 none) (rmd 0 0 0) (li_Pr (dC, dI) CL (TY kA) [.ref qo] (fun h => h.size = sz ∧ va_P (dC, dI) CL [(xo 0, .inr (5, [.ref (xa 0 0), .int (iI (xci 0)), .ref (xa 0 1), .ref (xa 0 2), .ref (xa 0 3), .int (iI (xzi 0)), .int (iI (bI (xsi 0)))])), (xo 1, .inr (5, [.ref (xa 1 0), .int (iI (xci 1)), .ref (xa 1 1), .ref (xa 1 2), .ref (xa 1 3), .int (iI (xzi 1)), .int (iI (bI (xsi 1)))])), (xo 2, .inr (5, [.ref (xa 2 0), .int (iI (xci 2)), .ref (xa 2 1), .ref (xa 2 2), .ref (xa 2 3), .int (iI (xzi 2)), .int (iI (bI (xsi 2)))])), (xo 3, .inr (5, [.ref (xa 3 0), .int (iI (xci 3)), .ref (xa 3 1), .ref (xa 3 2), .ref (xa 3 3), .int (iI (xzi 3)), .int (iI (bI (xsi 3)))])), (xo 4, .inr (5, [.ref (xa 4 0), .int (iI (xci 4)), .ref (xa 4 1), .ref (xa 4 2), .ref (xa 4 3), .int (iI (xzi 4)), .int (iI (bI (xsi 4)))])), (xo 5, .inr (5, [.ref (xa 5 0), .int (iI (xci 5)), .ref (xa 5 1), .ref (xa 5 2), .ref (xa 5 3), .int (iI (xzi 5)), .int (iI (bI (xsi 5)))]))] h ∧ va_D (fun q => dI 100 0 ≤ q) [(xo 0, .inr (5, [.ref (xa 0 0), .int (iI (xci 0)), .ref (xa 0 1), .ref (xa 0 2), .ref (xa 0 3), .int (iI (xzi 0)), .int (iI (bI (xsi 0)))])), (xo 1, .inr (5, [.ref (xa 1 0), .int (iI (xci 1)), .ref (xa 1 1), .ref (xa 1 2), .ref (xa 1 3), .int (iI (xzi 1)), .int (iI (bI (xsi 1)))])), (xo 2, .inr (5, [.ref (xa 2 0), .int (iI (xci 2)), .ref (xa 2 1), .ref (xa 2 2), .ref (xa 2 3), .int (iI (xzi 2)), .int (iI (bI (xsi 2)))])), (xo 3, .inr (5, [.ref (xa 3 0), .int (iI (xci 3)), .ref (xa 3 1), .ref (xa 3 2), .ref (xa 3 3), .int (iI (xzi 3)), .int (iI (bI (xsi 3)))])), (xo 4, .inr (5, [.ref (xa 4 0), .int (iI (xci 4)), .ref (xa 4 1), .ref (xa 4 2), .ref (xa 4 3), .int (iI (xzi 4)), .int (iI (bI (xsi 4)))])), (xo 5, .inr (5, [.ref (xa 5 0), .int (iI (xci 5)), .ref (xa 5 1), .ref (xa 5 2), .ref (xa 5 3), .int (iI (xzi 5)), .int (iI (bI (xsi 5)))]))] ∧ (fun h => va_P (dC, dI) CL [(qo, .inr (0, [.ref (qa 0), .int (iI qbc), .ref (qa 1), .int (iI qll), .ref (qa 2), .ref (qa 3), .int (iI qfc), .int (iI qfp), .ref (qa 4), .ref (qa 5), .ref (qa 6), .ref (qa 7), .ref (qa 8), .ref (qa 9)])), (qa 8, .inl (kA 5, 6, .inr (.inr (.inr (.inr (fun i => some (xo i)))))))] h ∧ Dsj [(qo, .inr (0, [.ref (qa 0), .int (iI qbc), .ref (qa 1), .int (iI qll), .ref (qa 2), .ref (qa 3), .int (iI qfc), .int (iI qfp), .ref (qa 4), .ref (qa 5), .ref (qa 6), .ref (qa 7), .ref (qa 8), .ref (qa 9)])), (qa 8, .inl (kA 5, 6, .inr (.inr (.inr (.inr (fun i => some (xo i)))))))] [(xo 0, .inr (5, [.ref (xa 0 0), .int (iI (xci 0)), .ref (xa 0 1), .ref (xa 0 2), .ref (xa 0 3), .int (iI (xzi 0)), .int (iI (bI (xsi 0)))])), (xo 1, .inr (5, [.ref (xa 1 0), .int (iI (xci 1)), .ref (xa 1 1), .ref (xa 1 2), .ref (xa 1 3), .int (iI (xzi 1)), .int (iI (bI (xsi 1)))])), (xo 2, .inr (5, [.ref (xa 2 0), .int (iI (xci 2)), .ref (xa 2 1), .ref (xa 2 2), .ref (xa 2 3), .int (iI (xzi 2)), .int (iI (bI (xsi 2)))])), (xo 3, .inr (5, [.ref (xa 3 0), .int (iI (xci 3)), .ref (xa 3 1), .ref (xa 3 2), .ref (xa 3 3), .int (iI (xzi 3)), .int (iI (bI (xsi 3)))])), (xo 4, .inr (5, [.ref (xa 4 0), .int (iI (xci 4)), .ref (xa 4 1), .ref (xa 4 2), .ref (xa 4 3), .int (iI (xzi 4)), .int (iI (bI (xsi 4)))])), (xo 5, .inr (5, [.ref (xa 5 0), .int (iI (xci 5)), .ref (xa 5 1), .ref (xa 5 2), .ref (xa 5 3), .int (iI (xzi 5)), .int (iI (bI (xsi 5)))]))]) h)) (li_Qw (S := Unit) (dC, dI) CL (fun _ => True) (fun _ => none) (fun _ => [(xo 0, .inr (5, [.ref (xa 0 0), .int (iI (xci 0)), .ref (xa 0 1), .ref (xa 0 2), .ref (xa 0 3), .int (iI (xzi 0)), .int (iI (bI true))])), (xo 1, .inr (5, [.ref (xa 1 0), .int (iI (xci 1)), .ref (xa 1 1), .ref (xa 1 2), .ref (xa 1 3), .int (iI (xzi 1)), .int (iI (bI true))])), (xo 2, .inr (5, [.ref (xa 2 0), .int (iI (xci 2)), .ref (xa 2 1), .ref (xa 2 2), .ref (xa 2 3), .int (iI (xzi 2)), .int (iI (bI true))])), (xo 3, .inr (5, [.ref (xa 3 0), .int (iI (xci 3)), .ref (xa 3 1), .ref (xa 3 2), .ref (xa 3 3), .int (iI (xzi 3)), .int (iI (bI true))])), (xo 4, .inr (5, [.ref (xa 4 0), .int (iI (xci 4)), .ref (xa 4 1), .ref (xa 4 2), .ref (xa 4 3), .int (iI (xzi 4)), .int (iI (bI true))])), (xo 5, .inr (5, [.ref (xa 5 0), .int (iI (xci 5)), .ref (xa 5 1), .ref (xa 5 2), .ref (xa 5 3), .int (iI (xzi 5)), .int (iI (bI true))]))]) (va_A [(xo 0, .inr (5, [.ref (xa 0 0), .int (iI (xci 0)), .ref (xa 0 1), .ref (xa 0 2), .ref (xa 0 3), .int (iI (xzi 0)), .int (iI (bI (xsi 0)))])), (xo 1, .inr (5, [.ref (xa 1 0), .int (iI (xci 1)), .ref (xa 1 1), .ref (xa 1 2), .ref (xa 1 3), .int (iI (xzi 1)), .int (iI (bI (xsi 1)))])), (xo 2, .inr (5, [.ref (xa 2 0), .int (iI (xci 2)), .ref (xa 2 1), .ref (xa 2 2), .ref (xa 2 3), .int (iI (xzi 2)), .int (iI (bI (xsi 2)))])), (xo 3, .inr (5, [.ref (xa 3 0), .int (iI (xci 3)), .ref (xa 3 1), .ref (xa 3 2), .ref (xa 3 3), .int (iI (xzi 3)), .int (iI (bI (xsi 3)))])), (xo 4, .inr (5, [.ref (xa 4 0), .int (iI (xci 4)), .ref (xa 4 1), .ref (xa 4 2), .ref (xa 4 3), .int (iI (xzi 4)), .int (iI (bI (xsi 4)))])), (xo 5, .inr (5, [.ref (xa 5 0), .int (iI (xci 5)), .ref (xa 5 1), .ref (xa 5 2), .ref (xa 5 3), .int (iI (xzi 5)), .int (iI (bI (xsi 5)))]))] sz)) 0 0 (va_A [(xo 0, .inr (5, [.ref (xa 0 0), .int (iI (xci 0)), .ref (xa 0 1), .ref (xa 0 2), .ref (xa 0 3), .int (iI (xzi 0)), .int (iI (bI (xsi 0)))])), (xo 1, .inr (5, [.ref (xa 1 0), .int (iI (xci 1)), .ref (xa 1 1), .ref (xa 1 2), .ref (xa 1 3), .int (iI (xzi 1)), .int (iI (bI (xsi 1)))])), (xo 2, .inr (5, [.ref (xa 2 0), .int (iI (xci 2)), .ref (xa 2 1), .ref (xa 2 2), .ref (xa 2 3), .int (iI (xzi 2)), .int (iI (bI (xsi 2)))])), (xo 3, .inr (5, [.ref (xa 3 0), .int (iI (xci 3)), .ref (xa 3 1), .ref (xa 3 2), .ref (xa 3 3), .int (iI (xzi 3)), .int (iI (bI (xsi 3)))])), (xo 4, .inr (5, [.ref (xa 4 0), .int (iI (xci 4)), .ref (xa 4 1), .ref (xa 4 2), .ref (xa 4 3), .int (iI (xzi 4)), .int (iI (bI (xsi 4)))])), (xo 5, .inr (5, [.ref (xa 5 0), .int (iI (xci 5)), .ref (xa 5 1), .ref (xa 5 2), .ref (xa 5 3), .int (iI (xzi 5)), .int (iI (bI (xsi 5)))]))] sz) := by
  refine li_mwv (by decide) (Nat.le_of_ble_eq_true rfl) ?_
  intro p e s m args below meth c Q A C hP hD hBx hK hN hG hA hAi hAN fin ls hl
  obtain ⟨hx, hb, hr, hml, hown, hts, hlocks, hin⟩ := C
  have hown : s.vm.findClass R_Q = some m.cls := hown
  obtain ⟨hRo, hDj⟩ := hBx
  have hRo : va_P (dC, dI) CL [(qo, .inr (0, [.ref (qa 0), .int (iI qbc), .ref (qa 1), .int (iI qll), .ref (qa 2), .ref (qa 3), .int (iI qfc), .int (iI qfp), .ref (qa 4), .ref (qa 5), .ref (qa 6), .ref (qa 7), .ref (qa 8), .ref (qa 9)])), (qa 8, .inl (kA 5, 6, .inr (.inr (.inr (.inr (fun i => some (xo i)))))))] s.heap := hRo
  have hRoN := li_roN (A := A) hRo hDj hAi
  have hl : lv_has ls 2 [(0, .ref qo)] := hl
  suffices h9 : ∀ (H : Heap) (locs : List Loc), H = s.heap → locs = [] → W p l e (rmd 0 0 0) s m args below meth c H locs 0 0 Q (F0 m 0 ls []) from h9 _ _ rfl rfl
  intro H locs eH eL
  have hP : va_P (dC, dI) CL [(xo 0, .inr (5, [.ref (xa 0 0), .int (iI (xci 0)), .ref (xa 0 1), .ref (xa 0 2), .ref (xa 0 3), .int (iI (xzi 0)), .int (iI (bI (xsi 0)))])), (xo 1, .inr (5, [.ref (xa 1 0), .int (iI (xci 1)), .ref (xa 1 1), .ref (xa 1 2), .ref (xa 1 3), .int (iI (xzi 1)), .int (iI (bI (xsi 1)))])), (xo 2, .inr (5, [.ref (xa 2 0), .int (iI (xci 2)), .ref (xa 2 1), .ref (xa 2 2), .ref (xa 2 3), .int (iI (xzi 2)), .int (iI (bI (xsi 2)))])), (xo 3, .inr (5, [.ref (xa 3 0), .int (iI (xci 3)), .ref (xa 3 1), .ref (xa 3 2), .ref (xa 3 3), .int (iI (xzi 3)), .int (iI (bI (xsi 3)))])), (xo 4, .inr (5, [.ref (xa 4 0), .int (iI (xci 4)), .ref (xa 4 1), .ref (xa 4 2), .ref (xa 4 3), .int (iI (xzi 4)), .int (iI (bI (xsi 4)))])), (xo 5, .inr (5, [.ref (xa 5 0), .int (iI (xci 5)), .ref (xa 5 1), .ref (xa 5 2), .ref (xa 5 3), .int (iI (xzi 5)), .int (iI (bI (xsi 5)))]))] H := by rw [eH]; exact hP
  have hS : va_S A s.heap H locs := by rw [eH, eL]; exact va_S.rf
  refine lv_iconst (v := iI 0) hx hb d_Q_makeLexiconsStale_0 rfl ?_
  refine lv_istore_n (lv' := [(1, .int (iI 0)), (0, .ref qo)]) hx hb d_Q_makeLexiconsStale_1 rfl hl (by decide) rfl (fun ls hl => ?_)
  refine lv_iload_n hx hb d_Q_makeLexiconsStale_2 rfl (lv_at hl 0 rfl) ?_
  refine lv_aload_n hx hb d_Q_makeLexiconsStale_3 rfl (lv_at hl 1 rfl) ?_
  refine gf_Q_60 hx hb hts hown hK (li_ro hRo hRoN hS) 0 rfl rfl d_Q_makeLexiconsStale_4 ?_
  refine li_alen hx hb hK (li_ro hRo hRoN hS) 1 5 rfl rfl d_Q_makeLexiconsStale_7 ?_
  refine li_icmp_ge (tgt := 27) hx hb d_Q_makeLexiconsStale_8 (by decide) (by omega) (by omega) (fun c1 => ?_) (fun c1 => ?_)
  · have _q := c1
    exact absurd c1 (by omega)
  · have _q := c1
    refine lv_aload_n hx hb d_Q_makeLexiconsStale_11 rfl (lv_at hl 1 rfl) ?_
    refine gf_Q_60 hx hb hts hown hK (li_ro hRo hRoN hS) 0 rfl rfl d_Q_makeLexiconsStale_12 ?_
    refine lv_iload_n hx hb d_Q_makeLexiconsStale_15 rfl (lv_at hl 0 rfl) ?_
    refine li_ald hx hb hK (li_ro hRo hRoN hS) 1 5 rfl rfl (by omega) (by omega) (by omega) d_Q_makeLexiconsStale_16 ?_
    refine li_rfS (a := xo 0) (by rfl) ?_
    refine lv_iconst (v := iI 1) hx hb d_Q_makeLexiconsStale_17 rfl ?_
    refine W.eq (g2 := F0 m 18 ls [.int (iI (bI true)), .ref (xo 0)]) rfl ?_
    refine pf_Q_226 hx hb hts hN hown hK hP hD hS 0 rfl (Nat.le_of_ble_eq_true rfl) d_Q_makeLexiconsStale_18 (fun H locs hP hD hS => ?_)
    have hP : va_P (dC, dI) CL [(xo 0, .inr (5, [.ref (xa 0 0), .int (iI (xci 0)), .ref (xa 0 1), .ref (xa 0 2), .ref (xa 0 3), .int (iI (xzi 0)), .int (iI (bI true))])), (xo 1, .inr (5, [.ref (xa 1 0), .int (iI (xci 1)), .ref (xa 1 1), .ref (xa 1 2), .ref (xa 1 3), .int (iI (xzi 1)), .int (iI (bI (xsi 1)))])), (xo 2, .inr (5, [.ref (xa 2 0), .int (iI (xci 2)), .ref (xa 2 1), .ref (xa 2 2), .ref (xa 2 3), .int (iI (xzi 2)), .int (iI (bI (xsi 2)))])), (xo 3, .inr (5, [.ref (xa 3 0), .int (iI (xci 3)), .ref (xa 3 1), .ref (xa 3 2), .ref (xa 3 3), .int (iI (xzi 3)), .int (iI (bI (xsi 3)))])), (xo 4, .inr (5, [.ref (xa 4 0), .int (iI (xci 4)), .ref (xa 4 1), .ref (xa 4 2), .ref (xa 4 3), .int (iI (xzi 4)), .int (iI (bI (xsi 4)))])), (xo 5, .inr (5, [.ref (xa 5 0), .int (iI (xci 5)), .ref (xa 5 1), .ref (xa 5 2), .ref (xa 5 3), .int (iI (xzi 5)), .int (iI (bI (xsi 5)))]))] H := hP
    have hD : va_D A [(xo 0, .inr (5, [.ref (xa 0 0), .int (iI (xci 0)), .ref (xa 0 1), .ref (xa 0 2), .ref (xa 0 3), .int (iI (xzi 0)), .int (iI (bI true))])), (xo 1, .inr (5, [.ref (xa 1 0), .int (iI (xci 1)), .ref (xa 1 1), .ref (xa 1 2), .ref (xa 1 3), .int (iI (xzi 1)), .int (iI (bI (xsi 1)))])), (xo 2, .inr (5, [.ref (xa 2 0), .int (iI (xci 2)), .ref (xa 2 1), .ref (xa 2 2), .ref (xa 2 3), .int (iI (xzi 2)), .int (iI (bI (xsi 2)))])), (xo 3, .inr (5, [.ref (xa 3 0), .int (iI (xci 3)), .ref (xa 3 1), .ref (xa 3 2), .ref (xa 3 3), .int (iI (xzi 3)), .int (iI (bI (xsi 3)))])), (xo 4, .inr (5, [.ref (xa 4 0), .int (iI (xci 4)), .ref (xa 4 1), .ref (xa 4 2), .ref (xa 4 3), .int (iI (xzi 4)), .int (iI (bI (xsi 4)))])), (xo 5, .inr (5, [.ref (xa 5 0), .int (iI (xci 5)), .ref (xa 5 1), .ref (xa 5 2), .ref (xa 5 3), .int (iI (xzi 5)), .int (iI (bI (xsi 5)))]))] := hD
    refine lv_iinc (v := iI 1) (lv' := [(1, .int (iI 1)), (0, .ref qo)]) hx hb d_Q_makeLexiconsStale_21 hl (k := 0) rfl (by decide) (by decide) rfl (fun ls hl => ?_)
    refine lv_goto (tgt := 2) hx hb d_Q_makeLexiconsStale_24 (by decide) ?_
    refine lv_iload_n hx hb d_Q_makeLexiconsStale_2 rfl (lv_at hl 0 rfl) ?_
    refine lv_aload_n hx hb d_Q_makeLexiconsStale_3 rfl (lv_at hl 1 rfl) ?_
    refine gf_Q_60 hx hb hts hown hK (li_ro hRo hRoN hS) 0 rfl rfl d_Q_makeLexiconsStale_4 ?_
    refine li_alen hx hb hK (li_ro hRo hRoN hS) 1 5 rfl rfl d_Q_makeLexiconsStale_7 ?_
    refine li_icmp_ge (tgt := 27) hx hb d_Q_makeLexiconsStale_8 (by decide) (by omega) (by omega) (fun c2 => ?_) (fun c2 => ?_)
    · have _q := c2
      exact absurd c2 (by omega)
    · have _q := c2
      refine lv_aload_n hx hb d_Q_makeLexiconsStale_11 rfl (lv_at hl 1 rfl) ?_
      refine gf_Q_60 hx hb hts hown hK (li_ro hRo hRoN hS) 0 rfl rfl d_Q_makeLexiconsStale_12 ?_
      refine lv_iload_n hx hb d_Q_makeLexiconsStale_15 rfl (lv_at hl 0 rfl) ?_
      refine li_ald hx hb hK (li_ro hRo hRoN hS) 1 5 rfl rfl (by omega) (by omega) (by omega) d_Q_makeLexiconsStale_16 ?_
      refine li_rfS (a := xo 1) (by rfl) ?_
      refine lv_iconst (v := iI 1) hx hb d_Q_makeLexiconsStale_17 rfl ?_
      refine W.eq (g2 := F0 m 18 ls [.int (iI (bI true)), .ref (xo 1)]) rfl ?_
      refine pf_Q_226 hx hb hts hN hown hK hP hD hS 1 rfl (Nat.le_of_ble_eq_true rfl) d_Q_makeLexiconsStale_18 (fun H locs hP hD hS => ?_)
      have hP : va_P (dC, dI) CL [(xo 0, .inr (5, [.ref (xa 0 0), .int (iI (xci 0)), .ref (xa 0 1), .ref (xa 0 2), .ref (xa 0 3), .int (iI (xzi 0)), .int (iI (bI true))])), (xo 1, .inr (5, [.ref (xa 1 0), .int (iI (xci 1)), .ref (xa 1 1), .ref (xa 1 2), .ref (xa 1 3), .int (iI (xzi 1)), .int (iI (bI true))])), (xo 2, .inr (5, [.ref (xa 2 0), .int (iI (xci 2)), .ref (xa 2 1), .ref (xa 2 2), .ref (xa 2 3), .int (iI (xzi 2)), .int (iI (bI (xsi 2)))])), (xo 3, .inr (5, [.ref (xa 3 0), .int (iI (xci 3)), .ref (xa 3 1), .ref (xa 3 2), .ref (xa 3 3), .int (iI (xzi 3)), .int (iI (bI (xsi 3)))])), (xo 4, .inr (5, [.ref (xa 4 0), .int (iI (xci 4)), .ref (xa 4 1), .ref (xa 4 2), .ref (xa 4 3), .int (iI (xzi 4)), .int (iI (bI (xsi 4)))])), (xo 5, .inr (5, [.ref (xa 5 0), .int (iI (xci 5)), .ref (xa 5 1), .ref (xa 5 2), .ref (xa 5 3), .int (iI (xzi 5)), .int (iI (bI (xsi 5)))]))] H := hP
      have hD : va_D A [(xo 0, .inr (5, [.ref (xa 0 0), .int (iI (xci 0)), .ref (xa 0 1), .ref (xa 0 2), .ref (xa 0 3), .int (iI (xzi 0)), .int (iI (bI true))])), (xo 1, .inr (5, [.ref (xa 1 0), .int (iI (xci 1)), .ref (xa 1 1), .ref (xa 1 2), .ref (xa 1 3), .int (iI (xzi 1)), .int (iI (bI true))])), (xo 2, .inr (5, [.ref (xa 2 0), .int (iI (xci 2)), .ref (xa 2 1), .ref (xa 2 2), .ref (xa 2 3), .int (iI (xzi 2)), .int (iI (bI (xsi 2)))])), (xo 3, .inr (5, [.ref (xa 3 0), .int (iI (xci 3)), .ref (xa 3 1), .ref (xa 3 2), .ref (xa 3 3), .int (iI (xzi 3)), .int (iI (bI (xsi 3)))])), (xo 4, .inr (5, [.ref (xa 4 0), .int (iI (xci 4)), .ref (xa 4 1), .ref (xa 4 2), .ref (xa 4 3), .int (iI (xzi 4)), .int (iI (bI (xsi 4)))])), (xo 5, .inr (5, [.ref (xa 5 0), .int (iI (xci 5)), .ref (xa 5 1), .ref (xa 5 2), .ref (xa 5 3), .int (iI (xzi 5)), .int (iI (bI (xsi 5)))]))] := hD
      refine lv_iinc (v := iI 2) (lv' := [(1, .int (iI 2)), (0, .ref qo)]) hx hb d_Q_makeLexiconsStale_21 hl (k := 0) rfl (by decide) (by decide) rfl (fun ls hl => ?_)
      refine lv_goto (tgt := 2) hx hb d_Q_makeLexiconsStale_24 (by decide) ?_
      refine lv_iload_n hx hb d_Q_makeLexiconsStale_2 rfl (lv_at hl 0 rfl) ?_
      refine lv_aload_n hx hb d_Q_makeLexiconsStale_3 rfl (lv_at hl 1 rfl) ?_
      refine gf_Q_60 hx hb hts hown hK (li_ro hRo hRoN hS) 0 rfl rfl d_Q_makeLexiconsStale_4 ?_
      refine li_alen hx hb hK (li_ro hRo hRoN hS) 1 5 rfl rfl d_Q_makeLexiconsStale_7 ?_
      refine li_icmp_ge (tgt := 27) hx hb d_Q_makeLexiconsStale_8 (by decide) (by omega) (by omega) (fun c3 => ?_) (fun c3 => ?_)
      · have _q := c3
        exact absurd c3 (by omega)
      · have _q := c3
        refine lv_aload_n hx hb d_Q_makeLexiconsStale_11 rfl (lv_at hl 1 rfl) ?_
        refine gf_Q_60 hx hb hts hown hK (li_ro hRo hRoN hS) 0 rfl rfl d_Q_makeLexiconsStale_12 ?_
        refine lv_iload_n hx hb d_Q_makeLexiconsStale_15 rfl (lv_at hl 0 rfl) ?_
        refine li_ald hx hb hK (li_ro hRo hRoN hS) 1 5 rfl rfl (by omega) (by omega) (by omega) d_Q_makeLexiconsStale_16 ?_
        refine li_rfS (a := xo 2) (by rfl) ?_
        refine lv_iconst (v := iI 1) hx hb d_Q_makeLexiconsStale_17 rfl ?_
        refine W.eq (g2 := F0 m 18 ls [.int (iI (bI true)), .ref (xo 2)]) rfl ?_
        refine pf_Q_226 hx hb hts hN hown hK hP hD hS 2 rfl (Nat.le_of_ble_eq_true rfl) d_Q_makeLexiconsStale_18 (fun H locs hP hD hS => ?_)
        have hP : va_P (dC, dI) CL [(xo 0, .inr (5, [.ref (xa 0 0), .int (iI (xci 0)), .ref (xa 0 1), .ref (xa 0 2), .ref (xa 0 3), .int (iI (xzi 0)), .int (iI (bI true))])), (xo 1, .inr (5, [.ref (xa 1 0), .int (iI (xci 1)), .ref (xa 1 1), .ref (xa 1 2), .ref (xa 1 3), .int (iI (xzi 1)), .int (iI (bI true))])), (xo 2, .inr (5, [.ref (xa 2 0), .int (iI (xci 2)), .ref (xa 2 1), .ref (xa 2 2), .ref (xa 2 3), .int (iI (xzi 2)), .int (iI (bI true))])), (xo 3, .inr (5, [.ref (xa 3 0), .int (iI (xci 3)), .ref (xa 3 1), .ref (xa 3 2), .ref (xa 3 3), .int (iI (xzi 3)), .int (iI (bI (xsi 3)))])), (xo 4, .inr (5, [.ref (xa 4 0), .int (iI (xci 4)), .ref (xa 4 1), .ref (xa 4 2), .ref (xa 4 3), .int (iI (xzi 4)), .int (iI (bI (xsi 4)))])), (xo 5, .inr (5, [.ref (xa 5 0), .int (iI (xci 5)), .ref (xa 5 1), .ref (xa 5 2), .ref (xa 5 3), .int (iI (xzi 5)), .int (iI (bI (xsi 5)))]))] H := hP
        have hD : va_D A [(xo 0, .inr (5, [.ref (xa 0 0), .int (iI (xci 0)), .ref (xa 0 1), .ref (xa 0 2), .ref (xa 0 3), .int (iI (xzi 0)), .int (iI (bI true))])), (xo 1, .inr (5, [.ref (xa 1 0), .int (iI (xci 1)), .ref (xa 1 1), .ref (xa 1 2), .ref (xa 1 3), .int (iI (xzi 1)), .int (iI (bI true))])), (xo 2, .inr (5, [.ref (xa 2 0), .int (iI (xci 2)), .ref (xa 2 1), .ref (xa 2 2), .ref (xa 2 3), .int (iI (xzi 2)), .int (iI (bI true))])), (xo 3, .inr (5, [.ref (xa 3 0), .int (iI (xci 3)), .ref (xa 3 1), .ref (xa 3 2), .ref (xa 3 3), .int (iI (xzi 3)), .int (iI (bI (xsi 3)))])), (xo 4, .inr (5, [.ref (xa 4 0), .int (iI (xci 4)), .ref (xa 4 1), .ref (xa 4 2), .ref (xa 4 3), .int (iI (xzi 4)), .int (iI (bI (xsi 4)))])), (xo 5, .inr (5, [.ref (xa 5 0), .int (iI (xci 5)), .ref (xa 5 1), .ref (xa 5 2), .ref (xa 5 3), .int (iI (xzi 5)), .int (iI (bI (xsi 5)))]))] := hD
        refine lv_iinc (v := iI 3) (lv' := [(1, .int (iI 3)), (0, .ref qo)]) hx hb d_Q_makeLexiconsStale_21 hl (k := 0) rfl (by decide) (by decide) rfl (fun ls hl => ?_)
        refine lv_goto (tgt := 2) hx hb d_Q_makeLexiconsStale_24 (by decide) ?_
        refine lv_iload_n hx hb d_Q_makeLexiconsStale_2 rfl (lv_at hl 0 rfl) ?_
        refine lv_aload_n hx hb d_Q_makeLexiconsStale_3 rfl (lv_at hl 1 rfl) ?_
        refine gf_Q_60 hx hb hts hown hK (li_ro hRo hRoN hS) 0 rfl rfl d_Q_makeLexiconsStale_4 ?_
        refine li_alen hx hb hK (li_ro hRo hRoN hS) 1 5 rfl rfl d_Q_makeLexiconsStale_7 ?_
        refine li_icmp_ge (tgt := 27) hx hb d_Q_makeLexiconsStale_8 (by decide) (by omega) (by omega) (fun c4 => ?_) (fun c4 => ?_)
        · have _q := c4
          exact absurd c4 (by omega)
        · have _q := c4
          refine lv_aload_n hx hb d_Q_makeLexiconsStale_11 rfl (lv_at hl 1 rfl) ?_
          refine gf_Q_60 hx hb hts hown hK (li_ro hRo hRoN hS) 0 rfl rfl d_Q_makeLexiconsStale_12 ?_
          refine lv_iload_n hx hb d_Q_makeLexiconsStale_15 rfl (lv_at hl 0 rfl) ?_
          refine li_ald hx hb hK (li_ro hRo hRoN hS) 1 5 rfl rfl (by omega) (by omega) (by omega) d_Q_makeLexiconsStale_16 ?_
          refine li_rfS (a := xo 3) (by rfl) ?_
          refine lv_iconst (v := iI 1) hx hb d_Q_makeLexiconsStale_17 rfl ?_
          refine W.eq (g2 := F0 m 18 ls [.int (iI (bI true)), .ref (xo 3)]) rfl ?_
          refine pf_Q_226 hx hb hts hN hown hK hP hD hS 3 rfl (Nat.le_of_ble_eq_true rfl) d_Q_makeLexiconsStale_18 (fun H locs hP hD hS => ?_)
          have hP : va_P (dC, dI) CL [(xo 0, .inr (5, [.ref (xa 0 0), .int (iI (xci 0)), .ref (xa 0 1), .ref (xa 0 2), .ref (xa 0 3), .int (iI (xzi 0)), .int (iI (bI true))])), (xo 1, .inr (5, [.ref (xa 1 0), .int (iI (xci 1)), .ref (xa 1 1), .ref (xa 1 2), .ref (xa 1 3), .int (iI (xzi 1)), .int (iI (bI true))])), (xo 2, .inr (5, [.ref (xa 2 0), .int (iI (xci 2)), .ref (xa 2 1), .ref (xa 2 2), .ref (xa 2 3), .int (iI (xzi 2)), .int (iI (bI true))])), (xo 3, .inr (5, [.ref (xa 3 0), .int (iI (xci 3)), .ref (xa 3 1), .ref (xa 3 2), .ref (xa 3 3), .int (iI (xzi 3)), .int (iI (bI true))])), (xo 4, .inr (5, [.ref (xa 4 0), .int (iI (xci 4)), .ref (xa 4 1), .ref (xa 4 2), .ref (xa 4 3), .int (iI (xzi 4)), .int (iI (bI (xsi 4)))])), (xo 5, .inr (5, [.ref (xa 5 0), .int (iI (xci 5)), .ref (xa 5 1), .ref (xa 5 2), .ref (xa 5 3), .int (iI (xzi 5)), .int (iI (bI (xsi 5)))]))] H := hP
          have hD : va_D A [(xo 0, .inr (5, [.ref (xa 0 0), .int (iI (xci 0)), .ref (xa 0 1), .ref (xa 0 2), .ref (xa 0 3), .int (iI (xzi 0)), .int (iI (bI true))])), (xo 1, .inr (5, [.ref (xa 1 0), .int (iI (xci 1)), .ref (xa 1 1), .ref (xa 1 2), .ref (xa 1 3), .int (iI (xzi 1)), .int (iI (bI true))])), (xo 2, .inr (5, [.ref (xa 2 0), .int (iI (xci 2)), .ref (xa 2 1), .ref (xa 2 2), .ref (xa 2 3), .int (iI (xzi 2)), .int (iI (bI true))])), (xo 3, .inr (5, [.ref (xa 3 0), .int (iI (xci 3)), .ref (xa 3 1), .ref (xa 3 2), .ref (xa 3 3), .int (iI (xzi 3)), .int (iI (bI true))])), (xo 4, .inr (5, [.ref (xa 4 0), .int (iI (xci 4)), .ref (xa 4 1), .ref (xa 4 2), .ref (xa 4 3), .int (iI (xzi 4)), .int (iI (bI (xsi 4)))])), (xo 5, .inr (5, [.ref (xa 5 0), .int (iI (xci 5)), .ref (xa 5 1), .ref (xa 5 2), .ref (xa 5 3), .int (iI (xzi 5)), .int (iI (bI (xsi 5)))]))] := hD
          refine lv_iinc (v := iI 4) (lv' := [(1, .int (iI 4)), (0, .ref qo)]) hx hb d_Q_makeLexiconsStale_21 hl (k := 0) rfl (by decide) (by decide) rfl (fun ls hl => ?_)
          refine lv_goto (tgt := 2) hx hb d_Q_makeLexiconsStale_24 (by decide) ?_
          refine lv_iload_n hx hb d_Q_makeLexiconsStale_2 rfl (lv_at hl 0 rfl) ?_
          refine lv_aload_n hx hb d_Q_makeLexiconsStale_3 rfl (lv_at hl 1 rfl) ?_
          refine gf_Q_60 hx hb hts hown hK (li_ro hRo hRoN hS) 0 rfl rfl d_Q_makeLexiconsStale_4 ?_
          refine li_alen hx hb hK (li_ro hRo hRoN hS) 1 5 rfl rfl d_Q_makeLexiconsStale_7 ?_
          refine li_icmp_ge (tgt := 27) hx hb d_Q_makeLexiconsStale_8 (by decide) (by omega) (by omega) (fun c5 => ?_) (fun c5 => ?_)
          · have _q := c5
            exact absurd c5 (by omega)
          · have _q := c5
            refine lv_aload_n hx hb d_Q_makeLexiconsStale_11 rfl (lv_at hl 1 rfl) ?_
            refine gf_Q_60 hx hb hts hown hK (li_ro hRo hRoN hS) 0 rfl rfl d_Q_makeLexiconsStale_12 ?_
            refine lv_iload_n hx hb d_Q_makeLexiconsStale_15 rfl (lv_at hl 0 rfl) ?_
            refine li_ald hx hb hK (li_ro hRo hRoN hS) 1 5 rfl rfl (by omega) (by omega) (by omega) d_Q_makeLexiconsStale_16 ?_
            refine li_rfS (a := xo 4) (by rfl) ?_
            refine lv_iconst (v := iI 1) hx hb d_Q_makeLexiconsStale_17 rfl ?_
            refine W.eq (g2 := F0 m 18 ls [.int (iI (bI true)), .ref (xo 4)]) rfl ?_
            refine pf_Q_226 hx hb hts hN hown hK hP hD hS 4 rfl (Nat.le_of_ble_eq_true rfl) d_Q_makeLexiconsStale_18 (fun H locs hP hD hS => ?_)
            have hP : va_P (dC, dI) CL [(xo 0, .inr (5, [.ref (xa 0 0), .int (iI (xci 0)), .ref (xa 0 1), .ref (xa 0 2), .ref (xa 0 3), .int (iI (xzi 0)), .int (iI (bI true))])), (xo 1, .inr (5, [.ref (xa 1 0), .int (iI (xci 1)), .ref (xa 1 1), .ref (xa 1 2), .ref (xa 1 3), .int (iI (xzi 1)), .int (iI (bI true))])), (xo 2, .inr (5, [.ref (xa 2 0), .int (iI (xci 2)), .ref (xa 2 1), .ref (xa 2 2), .ref (xa 2 3), .int (iI (xzi 2)), .int (iI (bI true))])), (xo 3, .inr (5, [.ref (xa 3 0), .int (iI (xci 3)), .ref (xa 3 1), .ref (xa 3 2), .ref (xa 3 3), .int (iI (xzi 3)), .int (iI (bI true))])), (xo 4, .inr (5, [.ref (xa 4 0), .int (iI (xci 4)), .ref (xa 4 1), .ref (xa 4 2), .ref (xa 4 3), .int (iI (xzi 4)), .int (iI (bI true))])), (xo 5, .inr (5, [.ref (xa 5 0), .int (iI (xci 5)), .ref (xa 5 1), .ref (xa 5 2), .ref (xa 5 3), .int (iI (xzi 5)), .int (iI (bI (xsi 5)))]))] H := hP
            have hD : va_D A [(xo 0, .inr (5, [.ref (xa 0 0), .int (iI (xci 0)), .ref (xa 0 1), .ref (xa 0 2), .ref (xa 0 3), .int (iI (xzi 0)), .int (iI (bI true))])), (xo 1, .inr (5, [.ref (xa 1 0), .int (iI (xci 1)), .ref (xa 1 1), .ref (xa 1 2), .ref (xa 1 3), .int (iI (xzi 1)), .int (iI (bI true))])), (xo 2, .inr (5, [.ref (xa 2 0), .int (iI (xci 2)), .ref (xa 2 1), .ref (xa 2 2), .ref (xa 2 3), .int (iI (xzi 2)), .int (iI (bI true))])), (xo 3, .inr (5, [.ref (xa 3 0), .int (iI (xci 3)), .ref (xa 3 1), .ref (xa 3 2), .ref (xa 3 3), .int (iI (xzi 3)), .int (iI (bI true))])), (xo 4, .inr (5, [.ref (xa 4 0), .int (iI (xci 4)), .ref (xa 4 1), .ref (xa 4 2), .ref (xa 4 3), .int (iI (xzi 4)), .int (iI (bI true))])), (xo 5, .inr (5, [.ref (xa 5 0), .int (iI (xci 5)), .ref (xa 5 1), .ref (xa 5 2), .ref (xa 5 3), .int (iI (xzi 5)), .int (iI (bI (xsi 5)))]))] := hD
            refine lv_iinc (v := iI 5) (lv' := [(1, .int (iI 5)), (0, .ref qo)]) hx hb d_Q_makeLexiconsStale_21 hl (k := 0) rfl (by decide) (by decide) rfl (fun ls hl => ?_)
            refine lv_goto (tgt := 2) hx hb d_Q_makeLexiconsStale_24 (by decide) ?_
            refine lv_iload_n hx hb d_Q_makeLexiconsStale_2 rfl (lv_at hl 0 rfl) ?_
            refine lv_aload_n hx hb d_Q_makeLexiconsStale_3 rfl (lv_at hl 1 rfl) ?_
            refine gf_Q_60 hx hb hts hown hK (li_ro hRo hRoN hS) 0 rfl rfl d_Q_makeLexiconsStale_4 ?_
            refine li_alen hx hb hK (li_ro hRo hRoN hS) 1 5 rfl rfl d_Q_makeLexiconsStale_7 ?_
            refine li_icmp_ge (tgt := 27) hx hb d_Q_makeLexiconsStale_8 (by decide) (by omega) (by omega) (fun c6 => ?_) (fun c6 => ?_)
            · have _q := c6
              exact absurd c6 (by omega)
            · have _q := c6
              refine lv_aload_n hx hb d_Q_makeLexiconsStale_11 rfl (lv_at hl 1 rfl) ?_
              refine gf_Q_60 hx hb hts hown hK (li_ro hRo hRoN hS) 0 rfl rfl d_Q_makeLexiconsStale_12 ?_
              refine lv_iload_n hx hb d_Q_makeLexiconsStale_15 rfl (lv_at hl 0 rfl) ?_
              refine li_ald hx hb hK (li_ro hRo hRoN hS) 1 5 rfl rfl (by omega) (by omega) (by omega) d_Q_makeLexiconsStale_16 ?_
              refine li_rfS (a := xo 5) (by rfl) ?_
              refine lv_iconst (v := iI 1) hx hb d_Q_makeLexiconsStale_17 rfl ?_
              refine W.eq (g2 := F0 m 18 ls [.int (iI (bI true)), .ref (xo 5)]) rfl ?_
              refine pf_Q_226 hx hb hts hN hown hK hP hD hS 5 rfl (Nat.le_of_ble_eq_true rfl) d_Q_makeLexiconsStale_18 (fun H locs hP hD hS => ?_)
              have hP : va_P (dC, dI) CL [(xo 0, .inr (5, [.ref (xa 0 0), .int (iI (xci 0)), .ref (xa 0 1), .ref (xa 0 2), .ref (xa 0 3), .int (iI (xzi 0)), .int (iI (bI true))])), (xo 1, .inr (5, [.ref (xa 1 0), .int (iI (xci 1)), .ref (xa 1 1), .ref (xa 1 2), .ref (xa 1 3), .int (iI (xzi 1)), .int (iI (bI true))])), (xo 2, .inr (5, [.ref (xa 2 0), .int (iI (xci 2)), .ref (xa 2 1), .ref (xa 2 2), .ref (xa 2 3), .int (iI (xzi 2)), .int (iI (bI true))])), (xo 3, .inr (5, [.ref (xa 3 0), .int (iI (xci 3)), .ref (xa 3 1), .ref (xa 3 2), .ref (xa 3 3), .int (iI (xzi 3)), .int (iI (bI true))])), (xo 4, .inr (5, [.ref (xa 4 0), .int (iI (xci 4)), .ref (xa 4 1), .ref (xa 4 2), .ref (xa 4 3), .int (iI (xzi 4)), .int (iI (bI true))])), (xo 5, .inr (5, [.ref (xa 5 0), .int (iI (xci 5)), .ref (xa 5 1), .ref (xa 5 2), .ref (xa 5 3), .int (iI (xzi 5)), .int (iI (bI true))]))] H := hP
              have hD : va_D A [(xo 0, .inr (5, [.ref (xa 0 0), .int (iI (xci 0)), .ref (xa 0 1), .ref (xa 0 2), .ref (xa 0 3), .int (iI (xzi 0)), .int (iI (bI true))])), (xo 1, .inr (5, [.ref (xa 1 0), .int (iI (xci 1)), .ref (xa 1 1), .ref (xa 1 2), .ref (xa 1 3), .int (iI (xzi 1)), .int (iI (bI true))])), (xo 2, .inr (5, [.ref (xa 2 0), .int (iI (xci 2)), .ref (xa 2 1), .ref (xa 2 2), .ref (xa 2 3), .int (iI (xzi 2)), .int (iI (bI true))])), (xo 3, .inr (5, [.ref (xa 3 0), .int (iI (xci 3)), .ref (xa 3 1), .ref (xa 3 2), .ref (xa 3 3), .int (iI (xzi 3)), .int (iI (bI true))])), (xo 4, .inr (5, [.ref (xa 4 0), .int (iI (xci 4)), .ref (xa 4 1), .ref (xa 4 2), .ref (xa 4 3), .int (iI (xzi 4)), .int (iI (bI true))])), (xo 5, .inr (5, [.ref (xa 5 0), .int (iI (xci 5)), .ref (xa 5 1), .ref (xa 5 2), .ref (xa 5 3), .int (iI (xzi 5)), .int (iI (bI true))]))] := hD
              refine lv_iinc (v := iI 6) (lv' := [(1, .int (iI 6)), (0, .ref qo)]) hx hb d_Q_makeLexiconsStale_21 hl (k := 0) rfl (by decide) (by decide) rfl (fun ls hl => ?_)
              refine lv_goto (tgt := 2) hx hb d_Q_makeLexiconsStale_24 (by decide) ?_
              refine lv_iload_n hx hb d_Q_makeLexiconsStale_2 rfl (lv_at hl 0 rfl) ?_
              refine lv_aload_n hx hb d_Q_makeLexiconsStale_3 rfl (lv_at hl 1 rfl) ?_
              refine gf_Q_60 hx hb hts hown hK (li_ro hRo hRoN hS) 0 rfl rfl d_Q_makeLexiconsStale_4 ?_
              refine li_alen hx hb hK (li_ro hRo hRoN hS) 1 5 rfl rfl d_Q_makeLexiconsStale_7 ?_
              refine li_icmp_ge (tgt := 27) hx hb d_Q_makeLexiconsStale_8 (by decide) (by omega) (by omega) (fun c7 => ?_) (fun c7 => ?_)
              · have _q := c7
                exact fin () _ _ _ _ (by trivial) (by first | exact hP | (subst_vars; exact hP)) (by first | exact hD | (subst_vars; exact hD)) hS d_Q_makeLexiconsStale_27
              · have _q := c7
                exact absurd c7 (by omega)
theorem d_Q_freshLexicon_0 : decode b_Q_freshLexicon 0 = .ok (.aload_n 0, 1) := by decide +kernel
theorem d_Q_freshLexicon_1 : decode b_Q_freshLexicon 1 = .ok (.getfield 60, 3) := by decide +kernel
theorem d_Q_freshLexicon_4 : decode b_Q_freshLexicon 4 = .ok (.iload_n 1, 1) := by decide +kernel
theorem d_Q_freshLexicon_5 : decode b_Q_freshLexicon 5 = .ok (.aaload, 1) := by decide +kernel
theorem d_Q_freshLexicon_6 : decode b_Q_freshLexicon 6 = .ok (.astore_n 2, 1) := by decide +kernel
theorem d_Q_freshLexicon_7 : decode b_Q_freshLexicon 7 = .ok (.aload_n 2, 1) := by decide +kernel
theorem d_Q_freshLexicon_8 : decode b_Q_freshLexicon 8 = .ok (.getfield 226, 3) := by decide +kernel
theorem d_Q_freshLexicon_11 : decode b_Q_freshLexicon 11 = .ok (.ifCond .eq 16, 3) := by decide +kernel
theorem d_Q_freshLexicon_14 : decode b_Q_freshLexicon 14 = .ok (.aload_n 2, 1) := by decide +kernel
theorem d_Q_freshLexicon_15 : decode b_Q_freshLexicon 15 = .ok (.aload_n 0, 1) := by decide +kernel
theorem d_Q_freshLexicon_16 : decode b_Q_freshLexicon 16 = .ok (.getfield 18, 3) := by decide +kernel
theorem d_Q_freshLexicon_19 : decode b_Q_freshLexicon 19 = .ok (.iload_n 1, 1) := by decide +kernel
theorem d_Q_freshLexicon_20 : decode b_Q_freshLexicon 20 = .ok (.aload_n 0, 1) := by decide +kernel
theorem d_Q_freshLexicon_21 : decode b_Q_freshLexicon 21 = .ok (.getfield 69, 3) := by decide +kernel
theorem d_Q_freshLexicon_24 : decode b_Q_freshLexicon 24 = .ok (.invokevirtual 229, 3) := by decide +kernel
theorem d_Q_freshLexicon_27 : decode b_Q_freshLexicon 27 = .ok (.aload_n 2, 1) := by decide +kernel
theorem d_Q_freshLexicon_28 : decode b_Q_freshLexicon 28 = .ok (.areturn, 1) := by decide +kernel
set_option maxHeartbeats 4000000 in
set_option maxRecDepth 100000 in
theorem c_Q_freshLexicon (l : Launch) (dC : Nat → ClassId) (dI : Nat → Nat → Nat) (kA : Nat → ClassId) (sz : Nat) (qo : Nat) (qa : Nat → Nat) (qbc : Int) (qll : Int) (qfc : Int) (qfp : Int) (xo : Nat) (xl : Nat) (xb : Nat) (xe : Nat) (xh : Nat) (xn : Nat) (xk : Nat) (xc : Int) (xz : Int) (xs : Bool) (lx : Nat → Int) (bx : Nat → Int) (ex : Nat → Int) (hd : Nat → Int) (wl : Nat) (wb : Nat) (we : Nat) (wn : Nat) (wk : Nat) (wz : Int) (lt : Nat → Int) (sb : Nat → Int) (se : Nat → Int) (xq : Nat → Option Nat) (sv : Nat → Option HD) (ix : Int) (gc : Nat) (gs : Nat) (hL : LR xn xk xc xz lx bx ex hd) (hW : WR wn wk wz lt sb se) (hw1 : wn = 400 ∧ 401 ≤ 2 * wk) (hHD : ∀ (r : Nat) (d : HD), sv r = some d → HDok d ∧ HDt d) (hcap : 32 ≤ xk ∧ xk ≤ 4000 ∧ 256 ≤ xn ∧ xn ≤ 9500) (hix : 0 ≤ ix ∧ ix ≤ 5) (hxq : xq ix.toNat = some xo) (hg : xs = true → ((rbM sv ix xn xk).xk - xk) + ((rbM sv ix xn xk).xn - xn) ≤ gc ∧ 6 * ((rbM sv ix xn xk).xk - xk) + 2 * ((rbM sv ix xn xk).xn - xn) ≤ gs) : Met l y_Q_freshLexicon (wsy y_Q_freshLexicon b_Q_freshLexicon 3 (some (.object "CatalogQuery$Lexicon"))) (rmd 5 gc gs) (li_Pr (dC, dI) CL (TY kA) [.ref qo, .int (iI ix)] (fun h => h.size = sz ∧ va_P (dC, dI) CL [(xo, .inr (5, [.ref xl, .int (iI xc), .ref xb, .ref xe, .ref xh, .int (iI xz), .int (iI (bI xs))])), (xl, .inl (kA 1, xn, .inl (aI lx))), (xb, .inl (kA 0, xk, .inl (aI bx))), (xe, .inl (kA 0, xk, .inl (aI ex))), (xh, .inl (kA 0, xk, .inl (aI hd))), (qa 9, .inr (9, [.ref wl, .ref wb, .ref we, .int (iI wz)])), (wl, .inl (kA 1, wn, .inl (aI lt))), (wb, .inl (kA 0, wk, .inl (aI sb))), (we, .inl (kA 0, wk, .inl (aI se)))] h ∧ va_D (fun q => dI 100 0 ≤ q) [(xo, .inr (5, [.ref xl, .int (iI xc), .ref xb, .ref xe, .ref xh, .int (iI xz), .int (iI (bI xs))])), (xl, .inl (kA 1, xn, .inl (aI lx))), (xb, .inl (kA 0, xk, .inl (aI bx))), (xe, .inl (kA 0, xk, .inl (aI ex))), (xh, .inl (kA 0, xk, .inl (aI hd))), (qa 9, .inr (9, [.ref wl, .ref wb, .ref we, .int (iI wz)])), (wl, .inl (kA 1, wn, .inl (aI lt))), (wb, .inl (kA 0, wk, .inl (aI sb))), (we, .inl (kA 0, wk, .inl (aI se)))] ∧ (fun h => (va_P (dC, dI) CL [(qo, .inr (0, [.ref (qa 0), .int (iI qbc), .ref (qa 1), .int (iI qll), .ref (qa 2), .ref (qa 3), .int (iI qfc), .int (iI qfp), .ref (qa 4), .ref (qa 5), .ref (qa 6), .ref (qa 7), .ref (qa 8), .ref (qa 9)])), (qa 8, .inl (kA 5, 6, .inr (.inr (.inr (.inr xq))))), (qa 2, .inl (kA 4, 10, .inr (.inr (.inr (.inr (shO sv))))))] h ∧ Dsj [(qo, .inr (0, [.ref (qa 0), .int (iI qbc), .ref (qa 1), .int (iI qll), .ref (qa 2), .ref (qa 3), .int (iI qfc), .int (iI qfp), .ref (qa 4), .ref (qa 5), .ref (qa 6), .ref (qa 7), .ref (qa 8), .ref (qa 9)])), (qa 8, .inl (kA 5, 6, .inr (.inr (.inr (.inr xq))))), (qa 2, .inl (kA 4, 10, .inr (.inr (.inr (.inr (shO sv))))))] [(xo, .inr (5, [.ref xl, .int (iI xc), .ref xb, .ref xe, .ref xh, .int (iI xz), .int (iI (bI xs))])), (xl, .inl (kA 1, xn, .inl (aI lx))), (xb, .inl (kA 0, xk, .inl (aI bx))), (xe, .inl (kA 0, xk, .inl (aI ex))), (xh, .inl (kA 0, xk, .inl (aI hd))), (qa 9, .inr (9, [.ref wl, .ref wb, .ref we, .int (iI wz)])), (wl, .inl (kA 1, wn, .inl (aI lt))), (wb, .inl (kA 0, wk, .inl (aI sb))), (we, .inl (kA 0, wk, .inl (aI se)))]) ∧ ShB (dC, dI) kA sv [(xo, .inr (5, [.ref xl, .int (iI xc), .ref xb, .ref xe, .ref xh, .int (iI xz), .int (iI (bI xs))])), (xl, .inl (kA 1, xn, .inl (aI lx))), (xb, .inl (kA 0, xk, .inl (aI bx))), (xe, .inl (kA 0, xk, .inl (aI ex))), (xh, .inl (kA 0, xk, .inl (aI hd))), (qa 9, .inr (9, [.ref wl, .ref wb, .ref we, .int (iI wz)])), (wl, .inl (kA 1, wn, .inl (aI lt))), (wb, .inl (kA 0, wk, .inl (aI sb))), (we, .inl (kA 0, wk, .inl (aI se)))] h) h)) (li_Qw (S := (Nat) × (Nat) × (Nat) × (Nat) × (Nat) × (Nat) × (Nat → Int) × (Nat → Int) × (Nat → Int) × (Nat → Int) × (Int) × (Int) × (Int) × (Nat → Int) × (Nat → Int) × (Nat → Int) × (Bool)) (dC, dI) CL (fun u => ((xs = false ∧ u.2.2.2.2.1 = xn ∧ u.2.2.2.2.2.1 = xk ∧ u.2.2.2.2.2.2.2.2.2.2.1 = xc ∧ u.2.2.2.2.2.2.2.2.2.2.2.1 = xz ∧ u.2.2.2.2.2.2.1 = lx ∧ u.2.2.2.2.2.2.2.1 = bx ∧ u.2.2.2.2.2.2.2.2.1 = ex ∧ u.2.2.2.2.2.2.2.2.2.1 = hd) ∨ (xs = true ∧ LR u.2.2.2.2.1 u.2.2.2.2.2.1 u.2.2.2.2.2.2.2.2.2.2.1 u.2.2.2.2.2.2.2.2.2.2.2.1 u.2.2.2.2.2.2.1 u.2.2.2.2.2.2.2.1 u.2.2.2.2.2.2.2.2.1 u.2.2.2.2.2.2.2.2.2.1 ∧ LX (rbM sv ix xn xk).ws (rbM sv ix xn xk).hs u.2.2.2.2.2.2.2.2.2.2.1 u.2.2.2.2.2.2.2.2.2.2.2.1 u.2.2.2.2.2.2.1 u.2.2.2.2.2.2.2.1 u.2.2.2.2.2.2.2.2.1 u.2.2.2.2.2.2.2.2.2.1 ∧ (rbM sv ix xn xk).xn = u.2.2.2.2.1 ∧ (rbM sv ix xn xk).xk = u.2.2.2.2.2.1 ∧ xk ≤ u.2.2.2.2.2.1 ∧ u.2.2.2.2.2.1 ≤ 4000 ∧ xn ≤ u.2.2.2.2.1 ∧ u.2.2.2.2.1 ≤ 9500)) ∧ WR wn wk u.2.2.2.2.2.2.2.2.2.2.2.2.1 u.2.2.2.2.2.2.2.2.2.2.2.2.2.1 u.2.2.2.2.2.2.2.2.2.2.2.2.2.2.1 u.2.2.2.2.2.2.2.2.2.2.2.2.2.2.2.1 ∧ u.2.2.2.2.2.2.2.2.2.2.2.2.2.2.2.2 = false) (fun u => some (.ref xo)) (fun u => [(xo, .inr (5, [.ref u.1, .int (iI u.2.2.2.2.2.2.2.2.2.2.1), .ref u.2.1, .ref u.2.2.1, .ref u.2.2.2.1, .int (iI u.2.2.2.2.2.2.2.2.2.2.2.1), .int (iI (bI u.2.2.2.2.2.2.2.2.2.2.2.2.2.2.2.2))])), (u.1, .inl (kA 1, u.2.2.2.2.1, .inl (aI u.2.2.2.2.2.2.1))), (u.2.1, .inl (kA 0, u.2.2.2.2.2.1, .inl (aI u.2.2.2.2.2.2.2.1))), (u.2.2.1, .inl (kA 0, u.2.2.2.2.2.1, .inl (aI u.2.2.2.2.2.2.2.2.1))), (u.2.2.2.1, .inl (kA 0, u.2.2.2.2.2.1, .inl (aI u.2.2.2.2.2.2.2.2.2.1))), (qa 9, .inr (9, [.ref wl, .ref wb, .ref we, .int (iI u.2.2.2.2.2.2.2.2.2.2.2.2.1)])), (wl, .inl (kA 1, wn, .inl (aI u.2.2.2.2.2.2.2.2.2.2.2.2.2.1))), (wb, .inl (kA 0, wk, .inl (aI u.2.2.2.2.2.2.2.2.2.2.2.2.2.2.1))), (we, .inl (kA 0, wk, .inl (aI u.2.2.2.2.2.2.2.2.2.2.2.2.2.2.2.1)))]) (va_A [(xo, .inr (5, [.ref xl, .int (iI xc), .ref xb, .ref xe, .ref xh, .int (iI xz), .int (iI (bI xs))])), (xl, .inl (kA 1, xn, .inl (aI lx))), (xb, .inl (kA 0, xk, .inl (aI bx))), (xe, .inl (kA 0, xk, .inl (aI ex))), (xh, .inl (kA 0, xk, .inl (aI hd))), (qa 9, .inr (9, [.ref wl, .ref wb, .ref we, .int (iI wz)])), (wl, .inl (kA 1, wn, .inl (aI lt))), (wb, .inl (kA 0, wk, .inl (aI sb))), (we, .inl (kA 0, wk, .inl (aI se)))] sz)) gc gs (va_A [(xo, .inr (5, [.ref xl, .int (iI xc), .ref xb, .ref xe, .ref xh, .int (iI xz), .int (iI (bI xs))])), (xl, .inl (kA 1, xn, .inl (aI lx))), (xb, .inl (kA 0, xk, .inl (aI bx))), (xe, .inl (kA 0, xk, .inl (aI ex))), (xh, .inl (kA 0, xk, .inl (aI hd))), (qa 9, .inr (9, [.ref wl, .ref wb, .ref we, .int (iI wz)])), (wl, .inl (kA 1, wn, .inl (aI lt))), (wb, .inl (kA 0, wk, .inl (aI sb))), (we, .inl (kA 0, wk, .inl (aI se)))] sz) := by
  refine li_mwa (r := fun (u : (Nat) × (Nat) × (Nat) × (Nat) × (Nat) × (Nat) × (Nat → Int) × (Nat → Int) × (Nat → Int) × (Nat → Int) × (Int) × (Int) × (Int) × (Nat → Int) × (Nat → Int) × (Nat → Int) × (Bool)) => xo) (by decide) (Nat.le_of_ble_eq_true rfl) (by first | exact Or.inl ⟨_, rfl⟩ | exact Or.inr ⟨_, rfl⟩) ?_
  intro p e s m args below meth c Q A C hP hD hBx hK hN hG hA hAi hAN fin ls hl
  obtain ⟨hx, hb, hr, hml, hown, hts, hlocks, hin⟩ := C
  have hown : s.vm.findClass R_Q = some m.cls := hown
  obtain ⟨hBx, hSh⟩ := hBx
  obtain ⟨hRo, hDj⟩ := hBx
  have hRo : va_P (dC, dI) CL [(qo, .inr (0, [.ref (qa 0), .int (iI qbc), .ref (qa 1), .int (iI qll), .ref (qa 2), .ref (qa 3), .int (iI qfc), .int (iI qfp), .ref (qa 4), .ref (qa 5), .ref (qa 6), .ref (qa 7), .ref (qa 8), .ref (qa 9)])), (qa 8, .inl (kA 5, 6, .inr (.inr (.inr (.inr xq))))), (qa 2, .inl (kA 4, 10, .inr (.inr (.inr (.inr (shO sv))))))] s.heap := hRo
  have hRoN := li_roN (A := A) hRo hDj hAi
  have hl : lv_has ls 3 [(0, .ref qo), (1, .int (iI ix))] := hl
  suffices h9 : ∀ (H : Heap) (locs : List Loc), H = s.heap → locs = [] → W p l e (rmd 5 gc gs) s m args below meth c H locs 0 0 Q (F0 m 0 ls []) from h9 _ _ rfl rfl
  intro H locs eH eL
  have hP : va_P (dC, dI) CL [(xo, .inr (5, [.ref xl, .int (iI xc), .ref xb, .ref xe, .ref xh, .int (iI xz), .int (iI (bI xs))])), (xl, .inl (kA 1, xn, .inl (aI lx))), (xb, .inl (kA 0, xk, .inl (aI bx))), (xe, .inl (kA 0, xk, .inl (aI ex))), (xh, .inl (kA 0, xk, .inl (aI hd))), (qa 9, .inr (9, [.ref wl, .ref wb, .ref we, .int (iI wz)])), (wl, .inl (kA 1, wn, .inl (aI lt))), (wb, .inl (kA 0, wk, .inl (aI sb))), (we, .inl (kA 0, wk, .inl (aI se)))] H := by rw [eH]; exact hP
  have hS : va_S A s.heap H locs := by rw [eH, eL]; exact va_S.rf
  refine lv_aload_n hx hb d_Q_freshLexicon_0 rfl (lv_at hl 0 rfl) ?_
  refine gf_Q_60 hx hb hts hown hK (li_ro hRo hRoN hS) 0 rfl rfl d_Q_freshLexicon_1 ?_
  refine lv_iload_n hx hb d_Q_freshLexicon_4 rfl (lv_at hl 1 rfl) ?_
  refine li_ald hx hb hK (li_ro hRo hRoN hS) 1 5 rfl rfl (by omega) (by omega) (by omega) d_Q_freshLexicon_5 ?_
  refine li_rfS (a := xo) (by exact hxq) ?_
  refine lv_astore_n (lv' := [(2, .ref xo), (0, .ref qo), (1, .int (iI ix))]) hx hb d_Q_freshLexicon_6 rfl hl (by decide) rfl (fun ls hl => ?_)
  refine lv_aload_n hx hb d_Q_freshLexicon_7 rfl (lv_at hl 0 rfl) ?_
  refine gf_Q_226 hx hb hts hN hown hK hP 0 rfl rfl d_Q_freshLexicon_8 ?_
  refine li_bz (tgt := 27) hx hb d_Q_freshLexicon_11 (by decide) (fun c1 => ?_) (fun c1 => ?_)
  · have _q := c1
    refine lv_aload_n hx hb d_Q_freshLexicon_27 rfl (lv_at hl 0 rfl) ?_
    refine W.widen (k := gc) (n := gs) (by omega) (by omega) ?_
    exact fin (xl, xb, xe, xh, xn, xk, lx, bx, ex, hd, xc, xz, wz, lt, sb, se, xs) _ _ _ _ _ (by rfl) (by show ((xs = false ∧ xn = xn ∧ xk = xk ∧ xc = xc ∧ xz = xz ∧ lx = lx ∧ bx = bx ∧ ex = ex ∧ hd = hd) ∨ (xs = true ∧ LR xn xk xc xz lx bx ex hd ∧ LX (rbM sv ix xn xk).ws (rbM sv ix xn xk).hs xc xz lx bx ex hd ∧ (rbM sv ix xn xk).xn = xn ∧ (rbM sv ix xn xk).xk = xk ∧ xk ≤ xk ∧ xk ≤ 4000 ∧ xn ≤ xn ∧ xn ≤ 9500)) ∧ WR wn wk wz lt sb se ∧ xs = false; first | exact ⟨Or.inr ⟨by assumption, hp24.1⟩, hp24.2, rfl⟩ | exact ⟨Or.inl ⟨by assumption, rfl, rfl, rfl, rfl, rfl, rfl, rfl, rfl⟩, hW, by assumption⟩) (by first | exact hP | (subst_vars; exact hP)) (by first | exact hD | (subst_vars; exact hD)) hS d_Q_freshLexicon_28
  · have _q := c1
    have hg9 := hg (by assumption)
    refine lv_aload_n hx hb d_Q_freshLexicon_14 rfl (lv_at hl 0 rfl) ?_
    refine lv_aload_n hx hb d_Q_freshLexicon_15 rfl (lv_at hl 1 rfl) ?_
    refine gf_Q_18 hx hb hts hown hK (li_ro hRo hRoN hS) 0 rfl rfl d_Q_freshLexicon_16 ?_
    refine lv_iload_n hx hb d_Q_freshLexicon_19 rfl (lv_at hl 2 rfl) ?_
    refine lv_aload_n hx hb d_Q_freshLexicon_20 rfl (lv_at hl 1 rfl) ?_
    refine gf_Q_69 hx hb hts hown hK (li_ro hRo hRoN hS) 0 rfl rfl d_Q_freshLexicon_21 ?_
    refine li_callw (wc := [(xo, .inr (5, [.ref xl, .int (iI xc), .ref xb, .ref xe, .ref xh, .int (iI xz), .int (iI (bI xs))])), (xl, .inl (kA 1, xn, .inl (aI lx))), (xb, .inl (kA 0, xk, .inl (aI bx))), (xe, .inl (kA 0, xk, .inl (aI ex))), (xh, .inl (kA 0, xk, .inl (aI hd))), (qa 9, .inr (9, [.ref wl, .ref wb, .ref we, .int (iI wz)])), (wl, .inl (kA 1, wn, .inl (aI lt))), (wb, .inl (kA 0, wk, .inl (aI sb))), (we, .inl (kA 0, wk, .inl (aI se)))]) (wr := []) (va_runV (As := [.ref (qa 2), .int (iI ix), .ref (qa 9)]) (rest := []) ⟨hx, hb, hml, hown, hts⟩ (c_L_rebuild l dC dI kA H.size xo xl xb xe xh xn xk xc xz xs lx bx ex hd (qa 9) wl wb we wn wk wz lt sb se (qa 2) sv ix (by exact hL) (by exact hW) (by exact hw1) (by exact hHD) (by exact hcap) (by exact hix)) (cw_Q_229 hts rfl rfl ⟨Nat.le_of_ble_eq_true rfl, Nat.le_of_ble_eq_true rfl⟩) (li_preV (va_recv hK hP (ci := 5) (q0 := 0) rfl rfl) ⟨rfl, hP.sub [0, 1, 2, 3, 4, 5, 6, 7, 8] rfl, (hD.sub [0, 1, 2, 3, 4, 5, 6, 7, 8] (by decide) rfl).weaken (fun _ _ _ h => hAN _ h), ⟨((li_ro hRo hRoN hS).sub [2] rfl), (dj_cons (dj_r (hRoN 2 _ rfl) hD [0, 1, 2, 3, 4, 5, 6, 7, 8] rfl) dj_nil)⟩, fun r d h => ⟨li_ro (hSh r d h).1 (li_roN (A := A) (hSh r d h).1 (hSh r d h).2 hAi) hS, dj_all (li_roN (A := A) (hSh r d h).1 (hSh r d h).2 hAi) hD [0, 1, 2, 3, 4, 5, 6, 7, 8] rfl⟩⟩ hK hN (hG.go hS hAN)) rfl rfl hl.1 rfl (lv_room (Nat.le_of_ble_eq_true rfl)) d_Q_freshLexicon_24 ⟨(by show 0 + (((rbM sv ix xn xk).xk - xk) + ((rbM sv ix xn xk).xn - xn)) ≤ gc; omega), (by show 0 + (6 * ((rbM sv ix xn xk).xk - xk) + 2 * ((rbM sv ix xn xk).xn - xn)) ≤ gs; omega)⟩) hP hD hS hA [0, 1, 2, 3, 4, 5, 6, 7, 8] [] rfl rfl (by decide) (by decide) (fun u2 H locs hu2 hP hD hS _hk => ?_)
    obtain ⟨a13, a24, a35, a46, n97, k98, f19, f210, f311, f412, c913, z914, n115, g116, g217, g318⟩ := u2
    have hP : va_P (dC, dI) CL [(xo, .inr (5, [.ref a13, .int (iI c913), .ref a24, .ref a35, .ref a46, .int (iI z914), .int (iI (bI false))])), (a13, .inl (kA 1, n97, .inl (aI f19))), (a24, .inl (kA 0, k98, .inl (aI f210))), (a35, .inl (kA 0, k98, .inl (aI f311))), (a46, .inl (kA 0, k98, .inl (aI f412))), ((qa 9), .inr (9, [.ref wl, .ref wb, .ref we, .int (iI n115)])), (wl, .inl (kA 1, wn, .inl (aI g116))), (wb, .inl (kA 0, wk, .inl (aI g217))), (we, .inl (kA 0, wk, .inl (aI g318)))] H := hP
    have hD : va_D A [(xo, .inr (5, [.ref a13, .int (iI c913), .ref a24, .ref a35, .ref a46, .int (iI z914), .int (iI (bI false))])), (a13, .inl (kA 1, n97, .inl (aI f19))), (a24, .inl (kA 0, k98, .inl (aI f210))), (a35, .inl (kA 0, k98, .inl (aI f311))), (a46, .inl (kA 0, k98, .inl (aI f412))), ((qa 9), .inr (9, [.ref wl, .ref wb, .ref we, .int (iI n115)])), (wl, .inl (kA 1, wn, .inl (aI g116))), (wb, .inl (kA 0, wk, .inl (aI g217))), (we, .inl (kA 0, wk, .inl (aI g318)))] := hD
    have hp24 : (LR n97 k98 c913 z914 f19 f210 f311 f412 ∧ LX (rbM sv ix xn xk).ws (rbM sv ix xn xk).hs c913 z914 f19 f210 f311 f412 ∧ (rbM sv ix xn xk).xn = n97 ∧ (rbM sv ix xn xk).xk = k98 ∧ xk ≤ k98 ∧ k98 ≤ 4000 ∧ xn ≤ n97 ∧ n97 ≤ 9500) ∧ WR wn wk n115 g116 g217 g318 := hu2
    refine lv_aload_n hx hb d_Q_freshLexicon_27 rfl (lv_at hl 0 rfl) ?_
    refine W.widen (k := gc) (n := gs) (by omega) (by omega) ?_
    exact fin (a13, a24, a35, a46, n97, k98, f19, f210, f311, f412, c913, z914, n115, g116, g217, g318, false) _ _ _ _ _ (by rfl) (by show ((xs = false ∧ n97 = xn ∧ k98 = xk ∧ c913 = xc ∧ z914 = xz ∧ f19 = lx ∧ f210 = bx ∧ f311 = ex ∧ f412 = hd) ∨ (xs = true ∧ LR n97 k98 c913 z914 f19 f210 f311 f412 ∧ LX (rbM sv ix xn xk).ws (rbM sv ix xn xk).hs c913 z914 f19 f210 f311 f412 ∧ (rbM sv ix xn xk).xn = n97 ∧ (rbM sv ix xn xk).xk = k98 ∧ xk ≤ k98 ∧ k98 ≤ 4000 ∧ xn ≤ n97 ∧ n97 ≤ 9500)) ∧ WR wn wk n115 g116 g217 g318 ∧ false = false; first | exact ⟨Or.inr ⟨by assumption, hp24.1⟩, hp24.2, rfl⟩ | exact ⟨Or.inl ⟨by assumption, rfl, rfl, rfl, rfl, rfl, rfl, rfl, rfl⟩, hW, by assumption⟩) (by first | exact hP | (subst_vars; exact hP)) (by first | exact hD | (subst_vars; exact hD)) hS d_Q_freshLexicon_28

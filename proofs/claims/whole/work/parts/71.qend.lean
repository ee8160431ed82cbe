def rdX (lc : Nat → Int) (kn : Int) (gs ge : Nat → Int) (kz x ft fp : Int) : Int × Int := if ixA lc kn gs ge kz x = -1 then ynS ft (-3) (seF gs kz kn x) fp else (ft, fp)
def reE (lc : Nat → Int) (kn : Int) (gk gs ge : Nat → Int) (kz x si : Int) (dn : Bool) (ft fp : Int) : Bool × Int × Int × Bool × Int × Int :=
  if kdF gk kz x = 7 then
    (if kdF gk kz (x + 1) = 1 then
      (if kdF gk kz (x + 1 + 1) = 5 then
        (if kdF gk kz (x + 1 + 1 + 1) = 8 then (decide (kdF gk kz (x + 1 + 1 + 1 + 1) = 6), x + 1 + 1 + 1 + 1, ixA lc kn gs ge kz (x + 1), true, (rdX lc kn gs ge kz (x + 1) ft fp).1, (rdX lc kn gs ge kz (x + 1) ft fp).2)
         else (false, x + 1 + 1 + 1, ixA lc kn gs ge kz (x + 1), false, (rdX lc kn gs ge kz (x + 1) ft fp).1, (rdX lc kn gs ge kz (x + 1) ft fp).2))
       else (decide (kdF gk kz (x + 1 + 1) = 6), x + 1 + 1, ixA lc kn gs ge kz (x + 1), dn, (rdX lc kn gs ge kz (x + 1) ft fp).1, (rdX lc kn gs ge kz (x + 1) ft fp).2))
     else (false, x + 1, si, dn, ft, fp))
  else (decide (kdF gk kz x = 6), x, si, dn, ft, fp)
theorem kd_w {v : Int} (h : 0 ≤ v ∧ v ≤ 20) : -2147483648 ≤ v ∧ v < 2147483648 := by omega

theorem d_Y_readsEnd_0 : decode b_Y_readsEnd 0 = .ok (.aload_n 0, 1) := by decide +kernel
theorem d_Y_readsEnd_1 : decode b_Y_readsEnd 1 = .ok (.getfield 12, 3) := by decide +kernel
theorem d_Y_readsEnd_4 : decode b_Y_readsEnd 4 = .ok (.aload_n 0, 1) := by decide +kernel
theorem d_Y_readsEnd_5 : decode b_Y_readsEnd 5 = .ok (.getfield 39, 3) := by decide +kernel
theorem d_Y_readsEnd_8 : decode b_Y_readsEnd 8 = .ok (.invokevirtual 73, 3) := by decide +kernel
theorem d_Y_readsEnd_11 : decode b_Y_readsEnd 11 = .ok (.bipush 7, 2) := by decide +kernel
theorem d_Y_readsEnd_13 : decode b_Y_readsEnd 13 = .ok (.if_icmp .ne 107, 3) := by decide +kernel
theorem d_Y_readsEnd_16 : decode b_Y_readsEnd 16 = .ok (.aload_n 0, 1) := by decide +kernel
theorem d_Y_readsEnd_17 : decode b_Y_readsEnd 17 = .ok (.dup, 1) := by decide +kernel
theorem d_Y_readsEnd_18 : decode b_Y_readsEnd 18 = .ok (.getfield 39, 3) := by decide +kernel
theorem d_Y_readsEnd_21 : decode b_Y_readsEnd 21 = .ok (.iconst 1, 1) := by decide +kernel
theorem d_Y_readsEnd_22 : decode b_Y_readsEnd 22 = .ok (.iadd, 1) := by decide +kernel
theorem d_Y_readsEnd_23 : decode b_Y_readsEnd 23 = .ok (.putfield 39, 3) := by decide +kernel
theorem d_Y_readsEnd_26 : decode b_Y_readsEnd 26 = .ok (.aload_n 0, 1) := by decide +kernel
theorem d_Y_readsEnd_27 : decode b_Y_readsEnd 27 = .ok (.getfield 12, 3) := by decide +kernel
theorem d_Y_readsEnd_30 : decode b_Y_readsEnd 30 = .ok (.aload_n 0, 1) := by decide +kernel
theorem d_Y_readsEnd_31 : decode b_Y_readsEnd 31 = .ok (.getfield 39, 3) := by decide +kernel
theorem d_Y_readsEnd_34 : decode b_Y_readsEnd 34 = .ok (.invokevirtual 73, 3) := by decide +kernel
theorem d_Y_readsEnd_37 : decode b_Y_readsEnd 37 = .ok (.iconst 1, 1) := by decide +kernel
theorem d_Y_readsEnd_38 : decode b_Y_readsEnd 38 = .ok (.if_icmp .eq 5, 3) := by decide +kernel
theorem d_Y_readsEnd_41 : decode b_Y_readsEnd 41 = .ok (.iconst 0, 1) := by decide +kernel
theorem d_Y_readsEnd_42 : decode b_Y_readsEnd 42 = .ok (.ireturn, 1) := by decide +kernel
theorem d_Y_readsEnd_43 : decode b_Y_readsEnd 43 = .ok (.aload_n 0, 1) := by decide +kernel
theorem d_Y_readsEnd_44 : decode b_Y_readsEnd 44 = .ok (.aload_n 0, 1) := by decide +kernel
theorem d_Y_readsEnd_45 : decode b_Y_readsEnd 45 = .ok (.invokevirtual 97, 3) := by decide +kernel
theorem d_Y_readsEnd_48 : decode b_Y_readsEnd 48 = .ok (.putfield 49, 3) := by decide +kernel
theorem d_Y_readsEnd_51 : decode b_Y_readsEnd 51 = .ok (.aload_n 0, 1) := by decide +kernel
theorem d_Y_readsEnd_52 : decode b_Y_readsEnd 52 = .ok (.getfield 12, 3) := by decide +kernel
theorem d_Y_readsEnd_55 : decode b_Y_readsEnd 55 = .ok (.aload_n 0, 1) := by decide +kernel
theorem d_Y_readsEnd_56 : decode b_Y_readsEnd 56 = .ok (.getfield 39, 3) := by decide +kernel
theorem d_Y_readsEnd_59 : decode b_Y_readsEnd 59 = .ok (.invokevirtual 73, 3) := by decide +kernel
theorem d_Y_readsEnd_62 : decode b_Y_readsEnd 62 = .ok (.iconst 5, 1) := by decide +kernel
theorem d_Y_readsEnd_63 : decode b_Y_readsEnd 63 = .ok (.if_icmp .ne 57, 3) := by decide +kernel
theorem d_Y_readsEnd_66 : decode b_Y_readsEnd 66 = .ok (.aload_n 0, 1) := by decide +kernel
theorem d_Y_readsEnd_67 : decode b_Y_readsEnd 67 = .ok (.dup, 1) := by decide +kernel
theorem d_Y_readsEnd_68 : decode b_Y_readsEnd 68 = .ok (.getfield 39, 3) := by decide +kernel
theorem d_Y_readsEnd_71 : decode b_Y_readsEnd 71 = .ok (.iconst 1, 1) := by decide +kernel
theorem d_Y_readsEnd_72 : decode b_Y_readsEnd 72 = .ok (.iadd, 1) := by decide +kernel
theorem d_Y_readsEnd_73 : decode b_Y_readsEnd 73 = .ok (.putfield 39, 3) := by decide +kernel
theorem d_Y_readsEnd_76 : decode b_Y_readsEnd 76 = .ok (.aload_n 0, 1) := by decide +kernel
theorem d_Y_readsEnd_77 : decode b_Y_readsEnd 77 = .ok (.aload_n 0, 1) := by decide +kernel
theorem d_Y_readsEnd_78 : decode b_Y_readsEnd 78 = .ok (.getfield 12, 3) := by decide +kernel
theorem d_Y_readsEnd_81 : decode b_Y_readsEnd 81 = .ok (.aload_n 0, 1) := by decide +kernel
theorem d_Y_readsEnd_82 : decode b_Y_readsEnd 82 = .ok (.getfield 39, 3) := by decide +kernel
theorem d_Y_readsEnd_85 : decode b_Y_readsEnd 85 = .ok (.invokevirtual 73, 3) := by decide +kernel
theorem d_Y_readsEnd_88 : decode b_Y_readsEnd 88 = .ok (.bipush 8, 2) := by decide +kernel
theorem d_Y_readsEnd_90 : decode b_Y_readsEnd 90 = .ok (.if_icmp .ne 7, 3) := by decide +kernel
theorem d_Y_readsEnd_93 : decode b_Y_readsEnd 93 = .ok (.iconst 1, 1) := by decide +kernel
theorem d_Y_readsEnd_94 : decode b_Y_readsEnd 94 = .ok (.goto 4, 3) := by decide +kernel
theorem d_Y_readsEnd_97 : decode b_Y_readsEnd 97 = .ok (.iconst 0, 1) := by decide +kernel
theorem d_Y_readsEnd_98 : decode b_Y_readsEnd 98 = .ok (.putfield 52, 3) := by decide +kernel
theorem d_Y_readsEnd_101 : decode b_Y_readsEnd 101 = .ok (.aload_n 0, 1) := by decide +kernel
theorem d_Y_readsEnd_102 : decode b_Y_readsEnd 102 = .ok (.getfield 52, 3) := by decide +kernel
theorem d_Y_readsEnd_105 : decode b_Y_readsEnd 105 = .ok (.ifCond .ne 5, 3) := by decide +kernel
theorem d_Y_readsEnd_108 : decode b_Y_readsEnd 108 = .ok (.iconst 0, 1) := by decide +kernel
theorem d_Y_readsEnd_109 : decode b_Y_readsEnd 109 = .ok (.ireturn, 1) := by decide +kernel
theorem d_Y_readsEnd_110 : decode b_Y_readsEnd 110 = .ok (.aload_n 0, 1) := by decide +kernel
theorem d_Y_readsEnd_111 : decode b_Y_readsEnd 111 = .ok (.dup, 1) := by decide +kernel
theorem d_Y_readsEnd_112 : decode b_Y_readsEnd 112 = .ok (.getfield 39, 3) := by decide +kernel
theorem d_Y_readsEnd_115 : decode b_Y_readsEnd 115 = .ok (.iconst 1, 1) := by decide +kernel
theorem d_Y_readsEnd_116 : decode b_Y_readsEnd 116 = .ok (.iadd, 1) := by decide +kernel
theorem d_Y_readsEnd_117 : decode b_Y_readsEnd 117 = .ok (.putfield 39, 3) := by decide +kernel
theorem d_Y_readsEnd_120 : decode b_Y_readsEnd 120 = .ok (.aload_n 0, 1) := by decide +kernel
theorem d_Y_readsEnd_121 : decode b_Y_readsEnd 121 = .ok (.getfield 12, 3) := by decide +kernel
theorem d_Y_readsEnd_124 : decode b_Y_readsEnd 124 = .ok (.aload_n 0, 1) := by decide +kernel
theorem d_Y_readsEnd_125 : decode b_Y_readsEnd 125 = .ok (.getfield 39, 3) := by decide +kernel
theorem d_Y_readsEnd_128 : decode b_Y_readsEnd 128 = .ok (.invokevirtual 73, 3) := by decide +kernel
theorem d_Y_readsEnd_131 : decode b_Y_readsEnd 131 = .ok (.bipush 6, 2) := by decide +kernel
theorem d_Y_readsEnd_133 : decode b_Y_readsEnd 133 = .ok (.if_icmp .ne 7, 3) := by decide +kernel
theorem d_Y_readsEnd_136 : decode b_Y_readsEnd 136 = .ok (.iconst 1, 1) := by decide +kernel
theorem d_Y_readsEnd_137 : decode b_Y_readsEnd 137 = .ok (.goto 4, 3) := by decide +kernel
theorem d_Y_readsEnd_140 : decode b_Y_readsEnd 140 = .ok (.iconst 0, 1) := by decide +kernel
theorem d_Y_readsEnd_141 : decode b_Y_readsEnd 141 = .ok (.ireturn, 1) := by decide +kernel
set_option maxHeartbeats 4000000 in
set_option maxRecDepth 100000 in
theorem c_Y_readsEnd (l : Launch) (dC : Nat → ClassId) (dI : Nat → Nat → Nat) (kA : Nat → ClassId) (sz : Nat) (yo : Nat) (ya : Nat → Nat) (yn : Int) (ysc : Int) (ycc : Int) (ysi : Int) (yft : Int) (yfp : Int) (ydn : Bool) (la : Nat) (nl : Nat) (lc : Nat → Int) (kn : Int) (ga : Nat) (gb : Nat) (gc : Nat) (kz : Int) (gk : Nat → Int) (gs : Nat → Int) (ge : Nat → Int) (hKR : KR nl lc kn kz gk gs ge) (hyn : 0 ≤ yn ∧ yn ≤ 900) (hft : -2147483648 ≤ yft ∧ yft < 2147483648) : Met l y_Y_readsEnd (wsy y_Y_readsEnd b_Y_readsEnd 1 (some .boolean)) (rmd 7 0 0) (li_Pr (dC, dI) CL (TY kA) [.ref yo] (fun h => h.size = sz ∧ va_P (dC, dI) CL [(yo, .inr (6, [.ref (ya 0), .int (iI yn), .ref (ya 1), .int (iI ysc), .ref (ya 2), .int (iI ycc), .int (iI ysi), .int (iI (bI ydn)), .int (iI yft), .int (iI yfp), .ref (ya 3), .ref (ya 4)])), (ya 0, .inr (8, [.ref la, .int (iI kn), .ref ga, .ref gb, .ref gc, .int (iI kz)])), (ga, .inl (kA 0, 100, .inl (aI gk))), (gb, .inl (kA 0, 100, .inl (aI gs))), (gc, .inl (kA 0, 100, .inl (aI ge)))] h ∧ va_D (fun q => dI 100 0 ≤ q) [(yo, .inr (6, [.ref (ya 0), .int (iI yn), .ref (ya 1), .int (iI ysc), .ref (ya 2), .int (iI ycc), .int (iI ysi), .int (iI (bI ydn)), .int (iI yft), .int (iI yfp), .ref (ya 3), .ref (ya 4)])), (ya 0, .inr (8, [.ref la, .int (iI kn), .ref ga, .ref gb, .ref gc, .int (iI kz)])), (ga, .inl (kA 0, 100, .inl (aI gk))), (gb, .inl (kA 0, 100, .inl (aI gs))), (gc, .inl (kA 0, 100, .inl (aI ge)))] ∧ (fun h => va_P (dC, dI) CL [(la, .inl (kA 1, nl, .inl (aI lc)))] h ∧ Dsj [(la, .inl (kA 1, nl, .inl (aI lc)))] [(yo, .inr (6, [.ref (ya 0), .int (iI yn), .ref (ya 1), .int (iI ysc), .ref (ya 2), .int (iI ycc), .int (iI ysi), .int (iI (bI ydn)), .int (iI yft), .int (iI yfp), .ref (ya 3), .ref (ya 4)])), (ya 0, .inr (8, [.ref la, .int (iI kn), .ref ga, .ref gb, .ref gc, .int (iI kz)])), (ga, .inl (kA 0, 100, .inl (aI gk))), (gb, .inl (kA 0, 100, .inl (aI gs))), (gc, .inl (kA 0, 100, .inl (aI ge)))]) h)) (li_Qw (S := (Bool) × (Int) × (Int) × (Bool) × (Int) × (Int)) (dC, dI) CL (fun u => (u.1, u.2.1, u.2.2.1, u.2.2.2.1, u.2.2.2.2.1, u.2.2.2.2.2) = reE lc kn gk gs ge kz yn ysi ydn yft yfp) (fun u => some (.int (iI (bI u.1)))) (fun u => [(yo, .inr (6, [.ref (ya 0), .int (iI u.2.1), .ref (ya 1), .int (iI ysc), .ref (ya 2), .int (iI ycc), .int (iI u.2.2.1), .int (iI (bI u.2.2.2.1)), .int (iI u.2.2.2.2.1), .int (iI u.2.2.2.2.2), .ref (ya 3), .ref (ya 4)])), (ya 0, .inr (8, [.ref la, .int (iI kn), .ref ga, .ref gb, .ref gc, .int (iI kz)])), (ga, .inl (kA 0, 100, .inl (aI gk))), (gb, .inl (kA 0, 100, .inl (aI gs))), (gc, .inl (kA 0, 100, .inl (aI ge)))]) (va_A [(yo, .inr (6, [.ref (ya 0), .int (iI yn), .ref (ya 1), .int (iI ysc), .ref (ya 2), .int (iI ycc), .int (iI ysi), .int (iI (bI ydn)), .int (iI yft), .int (iI yfp), .ref (ya 3), .ref (ya 4)])), (ya 0, .inr (8, [.ref la, .int (iI kn), .ref ga, .ref gb, .ref gc, .int (iI kz)])), (ga, .inl (kA 0, 100, .inl (aI gk))), (gb, .inl (kA 0, 100, .inl (aI gs))), (gc, .inl (kA 0, 100, .inl (aI ge)))] sz)) 0 0 (va_A [(yo, .inr (6, [.ref (ya 0), .int (iI yn), .ref (ya 1), .int (iI ysc), .ref (ya 2), .int (iI ycc), .int (iI ysi), .int (iI (bI ydn)), .int (iI yft), .int (iI yfp), .ref (ya 3), .ref (ya 4)])), (ya 0, .inr (8, [.ref la, .int (iI kn), .ref ga, .ref gb, .ref gc, .int (iI kz)])), (ga, .inl (kA 0, 100, .inl (aI gk))), (gb, .inl (kA 0, 100, .inl (aI gs))), (gc, .inl (kA 0, 100, .inl (aI ge)))] sz) := by
  refine li_mwi (r := fun (u : (Bool) × (Int) × (Int) × (Bool) × (Int) × (Int)) => bI u.1) (by decide) (Nat.le_of_ble_eq_true rfl) (fun u _ => by exact li_narZ2 _) ?_
  intro p e s m args below meth c Q A C hP hD hBx hK hN hG hA hAi hAN fin ls hl
  obtain ⟨hx, hb, hr, hml, hown, hts, hlocks, hin⟩ := C
  have hown : s.vm.findClass R_Y = some m.cls := hown
  obtain ⟨hRo, hDj⟩ := hBx
  have hRo : va_P (dC, dI) CL [(la, .inl (kA 1, nl, .inl (aI lc)))] s.heap := hRo
  have hRoN := li_roN (A := A) hRo hDj hAi
  have hl : lv_has ls 1 [(0, .ref yo)] := hl
  obtain ⟨hnl, hkn, hkz, hlc, hgk, hgs, hge⟩ := id hKR
  suffices h9 : ∀ (H : Heap) (locs : List Loc), H = s.heap → locs = [] → W p l e (rmd 7 0 0) s m args below meth c H locs 0 0 Q (F0 m 0 ls []) from h9 _ _ rfl rfl
  intro H locs eH eL
  have hP : va_P (dC, dI) CL [(yo, .inr (6, [.ref (ya 0), .int (iI yn), .ref (ya 1), .int (iI ysc), .ref (ya 2), .int (iI ycc), .int (iI ysi), .int (iI (bI ydn)), .int (iI yft), .int (iI yfp), .ref (ya 3), .ref (ya 4)])), (ya 0, .inr (8, [.ref la, .int (iI kn), .ref ga, .ref gb, .ref gc, .int (iI kz)])), (ga, .inl (kA 0, 100, .inl (aI gk))), (gb, .inl (kA 0, 100, .inl (aI gs))), (gc, .inl (kA 0, 100, .inl (aI ge)))] H := by rw [eH]; exact hP
  have hS : va_S A s.heap H locs := by rw [eH, eL]; exact va_S.rf
  refine lv_aload_n hx hb d_Y_readsEnd_0 rfl (lv_at hl 0 rfl) ?_
  refine gf_Y_12 hx hb hts hown hK hP 0 rfl rfl d_Y_readsEnd_1 ?_
  refine lv_aload_n hx hb d_Y_readsEnd_4 rfl (lv_at hl 0 rfl) ?_
  refine gf_Y_39 hx hb hts hown hK hP 0 rfl rfl d_Y_readsEnd_5 ?_
  refine li_callr ((va_runV (As := [.int (iI yn)]) (rest := []) ⟨hx, hb, hml, hown, hts⟩ (c_K_kindAt l dC dI kA (ya 0) la nl lc kn ga gb gc kz gk gs ge yn (by exact hKR) (by first | omega | (have h8 := hn2; omega))) (cw_Y_73 hts rfl rfl ⟨Nat.le_of_ble_eq_true rfl, Nat.le_of_ble_eq_true rfl⟩) (li_preV (va_recv hK hP (ci := 8) (q0 := 1) rfl rfl) (va_P.app (hP.sub [1] rfl) (va_P.app (hP.sub [2] rfl) (va_P.app (hP.sub [3] rfl) (va_P.app (hP.sub [4] rfl) ((li_ro hRo hRoN hS).sub [0] rfl))))) hK hN (hG.go hS hAN)) rfl rfl hl.1 rfl (lv_room (Nat.le_of_ble_eq_true rfl)) d_Y_readsEnd_8 ⟨(by show 0 + 0 ≤ 0; omega), (by show 0 + 0 ≤ 0; omega)⟩).run) ?_
  refine lv_bipush (v := iI 7) hx hb d_Y_readsEnd_11 (by decide) ?_
  refine li_icmp_ne (tgt := 120) hx hb d_Y_readsEnd_13 (by decide) (by first | omega | exact kd_w (kdF_r hgk)) (by first | omega | exact kd_w (kdF_r hgk)) (fun c1 => ?_) (fun c1 => ?_)
  · have _q := c1
    refine lv_aload_n hx hb d_Y_readsEnd_120 rfl (lv_at hl 0 rfl) ?_
    refine gf_Y_12 hx hb hts hown hK hP 0 rfl rfl d_Y_readsEnd_121 ?_
    refine lv_aload_n hx hb d_Y_readsEnd_124 rfl (lv_at hl 0 rfl) ?_
    refine gf_Y_39 hx hb hts hown hK hP 0 rfl rfl d_Y_readsEnd_125 ?_
    refine li_callr ((va_runV (As := [.int (iI yn)]) (rest := []) ⟨hx, hb, hml, hown, hts⟩ (c_K_kindAt l dC dI kA (ya 0) la nl lc kn ga gb gc kz gk gs ge yn (by exact hKR) (by first | omega | (have h8 := hn2; omega))) (cw_Y_73 hts rfl rfl ⟨Nat.le_of_ble_eq_true rfl, Nat.le_of_ble_eq_true rfl⟩) (li_preV (va_recv hK hP (ci := 8) (q0 := 1) rfl rfl) (va_P.app (hP.sub [1] rfl) (va_P.app (hP.sub [2] rfl) (va_P.app (hP.sub [3] rfl) (va_P.app (hP.sub [4] rfl) ((li_ro hRo hRoN hS).sub [0] rfl))))) hK hN (hG.go hS hAN)) rfl rfl hl.1 rfl (lv_room (Nat.le_of_ble_eq_true rfl)) d_Y_readsEnd_128 ⟨(by show 0 + 0 ≤ 0; omega), (by show 0 + 0 ≤ 0; omega)⟩).run) ?_
    refine lv_bipush (v := iI 6) hx hb d_Y_readsEnd_131 (by decide) ?_
    refine li_icmp_ne (tgt := 140) hx hb d_Y_readsEnd_133 (by decide) (by first | omega | exact kd_w (kdF_r hgk)) (by first | omega | exact kd_w (kdF_r hgk)) (fun c2 => ?_) (fun c2 => ?_)
    · have _q := c2
      refine lv_iconst (v := iI 0) hx hb d_Y_readsEnd_140 rfl ?_
      exact fin (false, yn, ysi, ydn, yft, yfp) _ _ _ _ _ (by rfl) (by show (false, yn, ysi, ydn, yft, yfp) = reE lc kn gk gs ge kz yn ysi ydn yft yfp; subst_vars; unfold reE; (repeat (first | rw [if_pos (by assumption)] | rw [if_neg (by assumption)])); first | done | rfl | (rw [decide_eq_true (by assumption)]; done) | (rw [decide_eq_false (by assumption)]; done) | (rw [show rdX lc kn gs ge kz (yn + 1) yft yfp = (t_n, p_n) from hq2.symm]; first | done | rfl | (rw [decide_eq_true (by assumption)]; done) | (rw [decide_eq_false (by assumption)]; done))) (by first | exact hP | (subst_vars; exact hP)) (by first | exact hD | (subst_vars; exact hD)) hS d_Y_readsEnd_141
    · have _q := c2
      refine lv_iconst (v := iI 1) hx hb d_Y_readsEnd_136 rfl ?_
      refine lv_goto (tgt := 141) hx hb d_Y_readsEnd_137 (by decide) ?_
      exact fin (true, yn, ysi, ydn, yft, yfp) _ _ _ _ _ (by rfl) (by show (true, yn, ysi, ydn, yft, yfp) = reE lc kn gk gs ge kz yn ysi ydn yft yfp; subst_vars; unfold reE; (repeat (first | rw [if_pos (by assumption)] | rw [if_neg (by assumption)])); first | done | rfl | (rw [decide_eq_true (by assumption)]; done) | (rw [decide_eq_false (by assumption)]; done) | (rw [show rdX lc kn gs ge kz (yn + 1) yft yfp = (t_n, p_n) from hq2.symm]; first | done | rfl | (rw [decide_eq_true (by assumption)]; done) | (rw [decide_eq_false (by assumption)]; done))) (by first | exact hP | (subst_vars; exact hP)) (by first | exact hD | (subst_vars; exact hD)) hS d_Y_readsEnd_141
  · have _q := c1
    refine lv_aload_n hx hb d_Y_readsEnd_16 rfl (lv_at hl 0 rfl) ?_
    refine lv_dup hx hb d_Y_readsEnd_17 rfl ?_
    refine gf_Y_39 hx hb hts hown hK hP 0 rfl rfl d_Y_readsEnd_18 ?_
    refine lv_iconst (v := iI 1) hx hb d_Y_readsEnd_21 rfl ?_
    refine li_iadd hx hb d_Y_readsEnd_22 ?_
    refine li_nm (fun n_1 en_1 => ?_)
    refine pf_Y_39 hx hb hts hown hK hP hD hS 0 rfl (Nat.le_of_ble_eq_true rfl) d_Y_readsEnd_23 (fun H locs hP hD hS => ?_)
    have hP : va_P (dC, dI) CL [(yo, .inr (6, [.ref (ya 0), .int (iI n_1), .ref (ya 1), .int (iI ysc), .ref (ya 2), .int (iI ycc), .int (iI ysi), .int (iI (bI ydn)), .int (iI yft), .int (iI yfp), .ref (ya 3), .ref (ya 4)])), (ya 0, .inr (8, [.ref la, .int (iI kn), .ref ga, .ref gb, .ref gc, .int (iI kz)])), (ga, .inl (kA 0, 100, .inl (aI gk))), (gb, .inl (kA 0, 100, .inl (aI gs))), (gc, .inl (kA 0, 100, .inl (aI ge)))] H := hP
    have hD : va_D A [(yo, .inr (6, [.ref (ya 0), .int (iI n_1), .ref (ya 1), .int (iI ysc), .ref (ya 2), .int (iI ycc), .int (iI ysi), .int (iI (bI ydn)), .int (iI yft), .int (iI yfp), .ref (ya 3), .ref (ya 4)])), (ya 0, .inr (8, [.ref la, .int (iI kn), .ref ga, .ref gb, .ref gc, .int (iI kz)])), (ga, .inl (kA 0, 100, .inl (aI gk))), (gb, .inl (kA 0, 100, .inl (aI gs))), (gc, .inl (kA 0, 100, .inl (aI ge)))] := hD
    refine lv_aload_n hx hb d_Y_readsEnd_26 rfl (lv_at hl 0 rfl) ?_
    refine gf_Y_12 hx hb hts hown hK hP 0 rfl rfl d_Y_readsEnd_27 ?_
    refine lv_aload_n hx hb d_Y_readsEnd_30 rfl (lv_at hl 0 rfl) ?_
    refine gf_Y_39 hx hb hts hown hK hP 0 rfl rfl d_Y_readsEnd_31 ?_
    refine li_callr ((va_runV (As := [.int (iI n_1)]) (rest := []) ⟨hx, hb, hml, hown, hts⟩ (c_K_kindAt l dC dI kA (ya 0) la nl lc kn ga gb gc kz gk gs ge n_1 (by exact hKR) (by first | omega | (have h8 := hn2; omega))) (cw_Y_73 hts rfl rfl ⟨Nat.le_of_ble_eq_true rfl, Nat.le_of_ble_eq_true rfl⟩) (li_preV (va_recv hK hP (ci := 8) (q0 := 1) rfl rfl) (va_P.app (hP.sub [1] rfl) (va_P.app (hP.sub [2] rfl) (va_P.app (hP.sub [3] rfl) (va_P.app (hP.sub [4] rfl) ((li_ro hRo hRoN hS).sub [0] rfl))))) hK hN (hG.go hS hAN)) rfl rfl hl.1 rfl (lv_room (Nat.le_of_ble_eq_true rfl)) d_Y_readsEnd_34 ⟨(by show 0 + 0 ≤ 0; omega), (by show 0 + 0 ≤ 0; omega)⟩).run) ?_
    refine lv_iconst (v := iI 1) hx hb d_Y_readsEnd_37 rfl ?_
    refine li_icmp_eq (tgt := 43) hx hb d_Y_readsEnd_38 (by decide) (by first | omega | exact kd_w (kdF_r hgk)) (by first | omega | exact kd_w (kdF_r hgk)) (fun c3 => ?_) (fun c3 => ?_)
    · have _q := c3
      refine lv_aload_n hx hb d_Y_readsEnd_43 rfl (lv_at hl 0 rfl) ?_
      refine lv_aload_n hx hb d_Y_readsEnd_44 rfl (lv_at hl 0 rfl) ?_
      refine li_callw (wc := [(yo, .inr (6, [.ref (ya 0), .int (iI n_1), .ref (ya 1), .int (iI ysc), .ref (ya 2), .int (iI ycc), .int (iI ysi), .int (iI (bI ydn)), .int (iI yft), .int (iI yfp), .ref (ya 3), .ref (ya 4)])), (ya 0, .inr (8, [.ref la, .int (iI kn), .ref ga, .ref gb, .ref gc, .int (iI kz)])), (ga, .inl (kA 0, 100, .inl (aI gk))), (gb, .inl (kA 0, 100, .inl (aI gs))), (gc, .inl (kA 0, 100, .inl (aI ge)))]) (wr := []) (va_runV (As := []) (rest := [.ref yo]) ⟨hx, hb, hml, hown, hts⟩ (c_Y_readIndex l dC dI kA H.size yo ya n_1 ysc ycc ysi yft yfp ydn la nl lc kn ga gb gc kz gk gs ge (by exact hKR) (by omega) (by exact hft)) (cw_Y_97 hts rfl rfl ⟨Nat.le_of_ble_eq_true rfl, Nat.le_of_ble_eq_true rfl⟩) (li_preV (va_recv hK hP (ci := 6) (q0 := 0) rfl rfl) ⟨rfl, hP.sub [0, 1, 2, 3, 4] rfl, (hD.sub [0, 1, 2, 3, 4] (by decide) rfl).weaken (fun _ _ _ h => hAN _ h), ((li_ro hRo hRoN hS).sub [0] rfl), (dj_cons (dj_r (hRoN 0 _ rfl) hD [0, 1, 2, 3, 4] rfl) dj_nil)⟩ hK hN (hG.go hS hAN)) rfl rfl hl.1 rfl (lv_room (Nat.le_of_ble_eq_true rfl)) d_Y_readsEnd_45 ⟨(by show 0 + 0 ≤ 0; omega), (by show 0 + 0 ≤ 0; omega)⟩) hP hD hS hA [0, 1, 2, 3, 4] [] rfl rfl (by decide) (by decide) (fun u4 H locs hu4 hP hD hS _hk => ?_)
      obtain ⟨t_n, p_n, n_2⟩ := u4
      have hP : va_P (dC, dI) CL [(yo, .inr (6, [.ref (ya 0), .int (iI n_2), .ref (ya 1), .int (iI ysc), .ref (ya 2), .int (iI ycc), .int (iI ysi), .int (iI (bI ydn)), .int (iI t_n), .int (iI p_n), .ref (ya 3), .ref (ya 4)])), (ya 0, .inr (8, [.ref la, .int (iI kn), .ref ga, .ref gb, .ref gc, .int (iI kz)])), (ga, .inl (kA 0, 100, .inl (aI gk))), (gb, .inl (kA 0, 100, .inl (aI gs))), (gc, .inl (kA 0, 100, .inl (aI ge)))] H := hP
      have hD : va_D A [(yo, .inr (6, [.ref (ya 0), .int (iI n_2), .ref (ya 1), .int (iI ysc), .ref (ya 2), .int (iI ycc), .int (iI ysi), .int (iI (bI ydn)), .int (iI t_n), .int (iI p_n), .ref (ya 3), .ref (ya 4)])), (ya 0, .inr (8, [.ref la, .int (iI kn), .ref ga, .ref gb, .ref gc, .int (iI kz)])), (ga, .inl (kA 0, 100, .inl (aI gk))), (gb, .inl (kA 0, 100, .inl (aI gs))), (gc, .inl (kA 0, 100, .inl (aI ge)))] := hD
      have hp45 : n_2 = n_1 + 1 ∧ (t_n, p_n) = (if ixA lc kn gs ge kz n_1 = -1 then ynS yft (-3) (seF gs kz kn n_1) yfp else (yft, yfp)) := hu4
      obtain ⟨hn2, hq2⟩ := hp45
      refine W.eq (g2 := F0 m 48 ls [.int (iI (ixA lc kn gs ge kz n_1)), .ref yo]) rfl ?_
      refine li_nm (fun i_x ei_x => ?_)
      refine pf_Y_49 hx hb hts hown hK hP hD hS 0 rfl (Nat.le_of_ble_eq_true rfl) d_Y_readsEnd_48 (fun H locs hP hD hS => ?_)
      have hP : va_P (dC, dI) CL [(yo, .inr (6, [.ref (ya 0), .int (iI n_2), .ref (ya 1), .int (iI ysc), .ref (ya 2), .int (iI ycc), .int (iI i_x), .int (iI (bI ydn)), .int (iI t_n), .int (iI p_n), .ref (ya 3), .ref (ya 4)])), (ya 0, .inr (8, [.ref la, .int (iI kn), .ref ga, .ref gb, .ref gc, .int (iI kz)])), (ga, .inl (kA 0, 100, .inl (aI gk))), (gb, .inl (kA 0, 100, .inl (aI gs))), (gc, .inl (kA 0, 100, .inl (aI ge)))] H := hP
      have hD : va_D A [(yo, .inr (6, [.ref (ya 0), .int (iI n_2), .ref (ya 1), .int (iI ysc), .ref (ya 2), .int (iI ycc), .int (iI i_x), .int (iI (bI ydn)), .int (iI t_n), .int (iI p_n), .ref (ya 3), .ref (ya 4)])), (ya 0, .inr (8, [.ref la, .int (iI kn), .ref ga, .ref gb, .ref gc, .int (iI kz)])), (ga, .inl (kA 0, 100, .inl (aI gk))), (gb, .inl (kA 0, 100, .inl (aI gs))), (gc, .inl (kA 0, 100, .inl (aI ge)))] := hD
      refine lv_aload_n hx hb d_Y_readsEnd_51 rfl (lv_at hl 0 rfl) ?_
      refine gf_Y_12 hx hb hts hown hK hP 0 rfl rfl d_Y_readsEnd_52 ?_
      refine lv_aload_n hx hb d_Y_readsEnd_55 rfl (lv_at hl 0 rfl) ?_
      refine gf_Y_39 hx hb hts hown hK hP 0 rfl rfl d_Y_readsEnd_56 ?_
      refine li_callr ((va_runV (As := [.int (iI n_2)]) (rest := []) ⟨hx, hb, hml, hown, hts⟩ (c_K_kindAt l dC dI kA (ya 0) la nl lc kn ga gb gc kz gk gs ge n_2 (by exact hKR) (by first | omega | (have h8 := hn2; omega))) (cw_Y_73 hts rfl rfl ⟨Nat.le_of_ble_eq_true rfl, Nat.le_of_ble_eq_true rfl⟩) (li_preV (va_recv hK hP (ci := 8) (q0 := 1) rfl rfl) (va_P.app (hP.sub [1] rfl) (va_P.app (hP.sub [2] rfl) (va_P.app (hP.sub [3] rfl) (va_P.app (hP.sub [4] rfl) ((li_ro hRo hRoN hS).sub [0] rfl))))) hK hN (hG.go hS hAN)) rfl rfl hl.1 rfl (lv_room (Nat.le_of_ble_eq_true rfl)) d_Y_readsEnd_59 ⟨(by show 0 + 0 ≤ 0; omega), (by show 0 + 0 ≤ 0; omega)⟩).run) ?_
      refine lv_iconst (v := iI 5) hx hb d_Y_readsEnd_62 rfl ?_
      refine li_icmp_ne (tgt := 120) hx hb d_Y_readsEnd_63 (by decide) (by first | omega | exact kd_w (kdF_r hgk)) (by first | omega | exact kd_w (kdF_r hgk)) (fun c5 => ?_) (fun c5 => ?_)
      · have _q := c5
        refine lv_aload_n hx hb d_Y_readsEnd_120 rfl (lv_at hl 0 rfl) ?_
        refine gf_Y_12 hx hb hts hown hK hP 0 rfl rfl d_Y_readsEnd_121 ?_
        refine lv_aload_n hx hb d_Y_readsEnd_124 rfl (lv_at hl 0 rfl) ?_
        refine gf_Y_39 hx hb hts hown hK hP 0 rfl rfl d_Y_readsEnd_125 ?_
        refine li_callr ((va_runV (As := [.int (iI n_2)]) (rest := []) ⟨hx, hb, hml, hown, hts⟩ (c_K_kindAt l dC dI kA (ya 0) la nl lc kn ga gb gc kz gk gs ge n_2 (by exact hKR) (by first | omega | (have h8 := hn2; omega))) (cw_Y_73 hts rfl rfl ⟨Nat.le_of_ble_eq_true rfl, Nat.le_of_ble_eq_true rfl⟩) (li_preV (va_recv hK hP (ci := 8) (q0 := 1) rfl rfl) (va_P.app (hP.sub [1] rfl) (va_P.app (hP.sub [2] rfl) (va_P.app (hP.sub [3] rfl) (va_P.app (hP.sub [4] rfl) ((li_ro hRo hRoN hS).sub [0] rfl))))) hK hN (hG.go hS hAN)) rfl rfl hl.1 rfl (lv_room (Nat.le_of_ble_eq_true rfl)) d_Y_readsEnd_128 ⟨(by show 0 + 0 ≤ 0; omega), (by show 0 + 0 ≤ 0; omega)⟩).run) ?_
        refine lv_bipush (v := iI 6) hx hb d_Y_readsEnd_131 (by decide) ?_
        refine li_icmp_ne (tgt := 140) hx hb d_Y_readsEnd_133 (by decide) (by first | omega | exact kd_w (kdF_r hgk)) (by first | omega | exact kd_w (kdF_r hgk)) (fun c6 => ?_) (fun c6 => ?_)
        · have _q := c6
          refine lv_iconst (v := iI 0) hx hb d_Y_readsEnd_140 rfl ?_
          exact fin (false, n_2, i_x, ydn, t_n, p_n) _ _ _ _ _ (by rfl) (by show (false, n_2, i_x, ydn, t_n, p_n) = reE lc kn gk gs ge kz yn ysi ydn yft yfp; subst_vars; unfold reE; (repeat (first | rw [if_pos (by assumption)] | rw [if_neg (by assumption)])); first | done | rfl | (rw [decide_eq_true (by assumption)]; done) | (rw [decide_eq_false (by assumption)]; done) | (rw [show rdX lc kn gs ge kz (yn + 1) yft yfp = (t_n, p_n) from hq2.symm]; first | done | rfl | (rw [decide_eq_true (by assumption)]; done) | (rw [decide_eq_false (by assumption)]; done))) (by first | exact hP | (subst_vars; exact hP)) (by first | exact hD | (subst_vars; exact hD)) hS d_Y_readsEnd_141
        · have _q := c6
          refine lv_iconst (v := iI 1) hx hb d_Y_readsEnd_136 rfl ?_
          refine lv_goto (tgt := 141) hx hb d_Y_readsEnd_137 (by decide) ?_
          exact fin (true, n_2, i_x, ydn, t_n, p_n) _ _ _ _ _ (by rfl) (by show (true, n_2, i_x, ydn, t_n, p_n) = reE lc kn gk gs ge kz yn ysi ydn yft yfp; subst_vars; unfold reE; (repeat (first | rw [if_pos (by assumption)] | rw [if_neg (by assumption)])); first | done | rfl | (rw [decide_eq_true (by assumption)]; done) | (rw [decide_eq_false (by assumption)]; done) | (rw [show rdX lc kn gs ge kz (yn + 1) yft yfp = (t_n, p_n) from hq2.symm]; first | done | rfl | (rw [decide_eq_true (by assumption)]; done) | (rw [decide_eq_false (by assumption)]; done))) (by first | exact hP | (subst_vars; exact hP)) (by first | exact hD | (subst_vars; exact hD)) hS d_Y_readsEnd_141
      · have _q := c5
        refine lv_aload_n hx hb d_Y_readsEnd_66 rfl (lv_at hl 0 rfl) ?_
        refine lv_dup hx hb d_Y_readsEnd_67 rfl ?_
        refine gf_Y_39 hx hb hts hown hK hP 0 rfl rfl d_Y_readsEnd_68 ?_
        refine lv_iconst (v := iI 1) hx hb d_Y_readsEnd_71 rfl ?_
        refine li_iadd hx hb d_Y_readsEnd_72 ?_
        refine li_nm (fun n_3 en_3 => ?_)
        refine pf_Y_39 hx hb hts hown hK hP hD hS 0 rfl (Nat.le_of_ble_eq_true rfl) d_Y_readsEnd_73 (fun H locs hP hD hS => ?_)
        have hP : va_P (dC, dI) CL [(yo, .inr (6, [.ref (ya 0), .int (iI n_3), .ref (ya 1), .int (iI ysc), .ref (ya 2), .int (iI ycc), .int (iI i_x), .int (iI (bI ydn)), .int (iI t_n), .int (iI p_n), .ref (ya 3), .ref (ya 4)])), (ya 0, .inr (8, [.ref la, .int (iI kn), .ref ga, .ref gb, .ref gc, .int (iI kz)])), (ga, .inl (kA 0, 100, .inl (aI gk))), (gb, .inl (kA 0, 100, .inl (aI gs))), (gc, .inl (kA 0, 100, .inl (aI ge)))] H := hP
        have hD : va_D A [(yo, .inr (6, [.ref (ya 0), .int (iI n_3), .ref (ya 1), .int (iI ysc), .ref (ya 2), .int (iI ycc), .int (iI i_x), .int (iI (bI ydn)), .int (iI t_n), .int (iI p_n), .ref (ya 3), .ref (ya 4)])), (ya 0, .inr (8, [.ref la, .int (iI kn), .ref ga, .ref gb, .ref gc, .int (iI kz)])), (ga, .inl (kA 0, 100, .inl (aI gk))), (gb, .inl (kA 0, 100, .inl (aI gs))), (gc, .inl (kA 0, 100, .inl (aI ge)))] := hD
        refine lv_aload_n hx hb d_Y_readsEnd_76 rfl (lv_at hl 0 rfl) ?_
        refine lv_aload_n hx hb d_Y_readsEnd_77 rfl (lv_at hl 0 rfl) ?_
        refine gf_Y_12 hx hb hts hown hK hP 0 rfl rfl d_Y_readsEnd_78 ?_
        refine lv_aload_n hx hb d_Y_readsEnd_81 rfl (lv_at hl 0 rfl) ?_
        refine gf_Y_39 hx hb hts hown hK hP 0 rfl rfl d_Y_readsEnd_82 ?_
        refine li_callr ((va_runV (As := [.int (iI n_3)]) (rest := [.ref yo]) ⟨hx, hb, hml, hown, hts⟩ (c_K_kindAt l dC dI kA (ya 0) la nl lc kn ga gb gc kz gk gs ge n_3 (by exact hKR) (by first | omega | (have h8 := hn2; omega))) (cw_Y_73 hts rfl rfl ⟨Nat.le_of_ble_eq_true rfl, Nat.le_of_ble_eq_true rfl⟩) (li_preV (va_recv hK hP (ci := 8) (q0 := 1) rfl rfl) (va_P.app (hP.sub [1] rfl) (va_P.app (hP.sub [2] rfl) (va_P.app (hP.sub [3] rfl) (va_P.app (hP.sub [4] rfl) ((li_ro hRo hRoN hS).sub [0] rfl))))) hK hN (hG.go hS hAN)) rfl rfl hl.1 rfl (lv_room (Nat.le_of_ble_eq_true rfl)) d_Y_readsEnd_85 ⟨(by show 0 + 0 ≤ 0; omega), (by show 0 + 0 ≤ 0; omega)⟩).run) ?_
        refine lv_bipush (v := iI 8) hx hb d_Y_readsEnd_88 (by decide) ?_
        refine li_icmp_ne (tgt := 97) hx hb d_Y_readsEnd_90 (by decide) (by first | omega | exact kd_w (kdF_r hgk)) (by first | omega | exact kd_w (kdF_r hgk)) (fun c7 => ?_) (fun c7 => ?_)
        · have _q := c7
          refine lv_iconst (v := iI 0) hx hb d_Y_readsEnd_97 rfl ?_
          refine W.eq (g2 := F0 m 98 ls [.int (iI (bI false)), .ref yo]) rfl ?_
          refine pf_Y_52 hx hb hts hown hK hP hD hS 0 rfl (Nat.le_of_ble_eq_true rfl) d_Y_readsEnd_98 (fun H locs hP hD hS => ?_)
          have hP : va_P (dC, dI) CL [(yo, .inr (6, [.ref (ya 0), .int (iI n_3), .ref (ya 1), .int (iI ysc), .ref (ya 2), .int (iI ycc), .int (iI i_x), .int (iI (bI false)), .int (iI t_n), .int (iI p_n), .ref (ya 3), .ref (ya 4)])), (ya 0, .inr (8, [.ref la, .int (iI kn), .ref ga, .ref gb, .ref gc, .int (iI kz)])), (ga, .inl (kA 0, 100, .inl (aI gk))), (gb, .inl (kA 0, 100, .inl (aI gs))), (gc, .inl (kA 0, 100, .inl (aI ge)))] H := hP
          have hD : va_D A [(yo, .inr (6, [.ref (ya 0), .int (iI n_3), .ref (ya 1), .int (iI ysc), .ref (ya 2), .int (iI ycc), .int (iI i_x), .int (iI (bI false)), .int (iI t_n), .int (iI p_n), .ref (ya 3), .ref (ya 4)])), (ya 0, .inr (8, [.ref la, .int (iI kn), .ref ga, .ref gb, .ref gc, .int (iI kz)])), (ga, .inl (kA 0, 100, .inl (aI gk))), (gb, .inl (kA 0, 100, .inl (aI gs))), (gc, .inl (kA 0, 100, .inl (aI ge)))] := hD
          refine lv_aload_n hx hb d_Y_readsEnd_101 rfl (lv_at hl 0 rfl) ?_
          refine gf_Y_52 hx hb hts hown hK hP 0 rfl rfl d_Y_readsEnd_102 ?_
          refine li_bnz (tgt := 110) hx hb d_Y_readsEnd_105 (by decide) (fun c8 => ?_) (fun c8 => ?_)
          · have _q := c8
            exact absurd c8 (by decide)
          · have _q := c8
            refine lv_iconst (v := iI 0) hx hb d_Y_readsEnd_108 rfl ?_
            exact fin (false, n_3, i_x, false, t_n, p_n) _ _ _ _ _ (by rfl) (by show (false, n_3, i_x, false, t_n, p_n) = reE lc kn gk gs ge kz yn ysi ydn yft yfp; subst_vars; unfold reE; (repeat (first | rw [if_pos (by assumption)] | rw [if_neg (by assumption)])); first | done | rfl | (rw [decide_eq_true (by assumption)]; done) | (rw [decide_eq_false (by assumption)]; done) | (rw [show rdX lc kn gs ge kz (yn + 1) yft yfp = (t_n, p_n) from hq2.symm]; first | done | rfl | (rw [decide_eq_true (by assumption)]; done) | (rw [decide_eq_false (by assumption)]; done))) (by first | exact hP | (subst_vars; exact hP)) (by first | exact hD | (subst_vars; exact hD)) hS d_Y_readsEnd_109
        · have _q := c7
          refine lv_iconst (v := iI 1) hx hb d_Y_readsEnd_93 rfl ?_
          refine lv_goto (tgt := 98) hx hb d_Y_readsEnd_94 (by decide) ?_
          refine W.eq (g2 := F0 m 98 ls [.int (iI (bI true)), .ref yo]) rfl ?_
          refine pf_Y_52 hx hb hts hown hK hP hD hS 0 rfl (Nat.le_of_ble_eq_true rfl) d_Y_readsEnd_98 (fun H locs hP hD hS => ?_)
          have hP : va_P (dC, dI) CL [(yo, .inr (6, [.ref (ya 0), .int (iI n_3), .ref (ya 1), .int (iI ysc), .ref (ya 2), .int (iI ycc), .int (iI i_x), .int (iI (bI true)), .int (iI t_n), .int (iI p_n), .ref (ya 3), .ref (ya 4)])), (ya 0, .inr (8, [.ref la, .int (iI kn), .ref ga, .ref gb, .ref gc, .int (iI kz)])), (ga, .inl (kA 0, 100, .inl (aI gk))), (gb, .inl (kA 0, 100, .inl (aI gs))), (gc, .inl (kA 0, 100, .inl (aI ge)))] H := hP
          have hD : va_D A [(yo, .inr (6, [.ref (ya 0), .int (iI n_3), .ref (ya 1), .int (iI ysc), .ref (ya 2), .int (iI ycc), .int (iI i_x), .int (iI (bI true)), .int (iI t_n), .int (iI p_n), .ref (ya 3), .ref (ya 4)])), (ya 0, .inr (8, [.ref la, .int (iI kn), .ref ga, .ref gb, .ref gc, .int (iI kz)])), (ga, .inl (kA 0, 100, .inl (aI gk))), (gb, .inl (kA 0, 100, .inl (aI gs))), (gc, .inl (kA 0, 100, .inl (aI ge)))] := hD
          refine lv_aload_n hx hb d_Y_readsEnd_101 rfl (lv_at hl 0 rfl) ?_
          refine gf_Y_52 hx hb hts hown hK hP 0 rfl rfl d_Y_readsEnd_102 ?_
          refine li_bnz (tgt := 110) hx hb d_Y_readsEnd_105 (by decide) (fun c9 => ?_) (fun c9 => ?_)
          · have _q := c9
            refine lv_aload_n hx hb d_Y_readsEnd_110 rfl (lv_at hl 0 rfl) ?_
            refine lv_dup hx hb d_Y_readsEnd_111 rfl ?_
            refine gf_Y_39 hx hb hts hown hK hP 0 rfl rfl d_Y_readsEnd_112 ?_
            refine lv_iconst (v := iI 1) hx hb d_Y_readsEnd_115 rfl ?_
            refine li_iadd hx hb d_Y_readsEnd_116 ?_
            refine li_nm (fun n_4 en_4 => ?_)
            refine pf_Y_39 hx hb hts hown hK hP hD hS 0 rfl (Nat.le_of_ble_eq_true rfl) d_Y_readsEnd_117 (fun H locs hP hD hS => ?_)
            have hP : va_P (dC, dI) CL [(yo, .inr (6, [.ref (ya 0), .int (iI n_4), .ref (ya 1), .int (iI ysc), .ref (ya 2), .int (iI ycc), .int (iI i_x), .int (iI (bI true)), .int (iI t_n), .int (iI p_n), .ref (ya 3), .ref (ya 4)])), (ya 0, .inr (8, [.ref la, .int (iI kn), .ref ga, .ref gb, .ref gc, .int (iI kz)])), (ga, .inl (kA 0, 100, .inl (aI gk))), (gb, .inl (kA 0, 100, .inl (aI gs))), (gc, .inl (kA 0, 100, .inl (aI ge)))] H := hP
            have hD : va_D A [(yo, .inr (6, [.ref (ya 0), .int (iI n_4), .ref (ya 1), .int (iI ysc), .ref (ya 2), .int (iI ycc), .int (iI i_x), .int (iI (bI true)), .int (iI t_n), .int (iI p_n), .ref (ya 3), .ref (ya 4)])), (ya 0, .inr (8, [.ref la, .int (iI kn), .ref ga, .ref gb, .ref gc, .int (iI kz)])), (ga, .inl (kA 0, 100, .inl (aI gk))), (gb, .inl (kA 0, 100, .inl (aI gs))), (gc, .inl (kA 0, 100, .inl (aI ge)))] := hD
            refine lv_aload_n hx hb d_Y_readsEnd_120 rfl (lv_at hl 0 rfl) ?_
            refine gf_Y_12 hx hb hts hown hK hP 0 rfl rfl d_Y_readsEnd_121 ?_
            refine lv_aload_n hx hb d_Y_readsEnd_124 rfl (lv_at hl 0 rfl) ?_
            refine gf_Y_39 hx hb hts hown hK hP 0 rfl rfl d_Y_readsEnd_125 ?_
            refine li_callr ((va_runV (As := [.int (iI n_4)]) (rest := []) ⟨hx, hb, hml, hown, hts⟩ (c_K_kindAt l dC dI kA (ya 0) la nl lc kn ga gb gc kz gk gs ge n_4 (by exact hKR) (by first | omega | (have h8 := hn2; omega))) (cw_Y_73 hts rfl rfl ⟨Nat.le_of_ble_eq_true rfl, Nat.le_of_ble_eq_true rfl⟩) (li_preV (va_recv hK hP (ci := 8) (q0 := 1) rfl rfl) (va_P.app (hP.sub [1] rfl) (va_P.app (hP.sub [2] rfl) (va_P.app (hP.sub [3] rfl) (va_P.app (hP.sub [4] rfl) ((li_ro hRo hRoN hS).sub [0] rfl))))) hK hN (hG.go hS hAN)) rfl rfl hl.1 rfl (lv_room (Nat.le_of_ble_eq_true rfl)) d_Y_readsEnd_128 ⟨(by show 0 + 0 ≤ 0; omega), (by show 0 + 0 ≤ 0; omega)⟩).run) ?_
            refine lv_bipush (v := iI 6) hx hb d_Y_readsEnd_131 (by decide) ?_
            refine li_icmp_ne (tgt := 140) hx hb d_Y_readsEnd_133 (by decide) (by first | omega | exact kd_w (kdF_r hgk)) (by first | omega | exact kd_w (kdF_r hgk)) (fun c10 => ?_) (fun c10 => ?_)
            · have _q := c10
              refine lv_iconst (v := iI 0) hx hb d_Y_readsEnd_140 rfl ?_
              exact fin (false, n_4, i_x, true, t_n, p_n) _ _ _ _ _ (by rfl) (by show (false, n_4, i_x, true, t_n, p_n) = reE lc kn gk gs ge kz yn ysi ydn yft yfp; subst_vars; unfold reE; (repeat (first | rw [if_pos (by assumption)] | rw [if_neg (by assumption)])); first | done | rfl | (rw [decide_eq_true (by assumption)]; done) | (rw [decide_eq_false (by assumption)]; done) | (rw [show rdX lc kn gs ge kz (yn + 1) yft yfp = (t_n, p_n) from hq2.symm]; first | done | rfl | (rw [decide_eq_true (by assumption)]; done) | (rw [decide_eq_false (by assumption)]; done))) (by first | exact hP | (subst_vars; exact hP)) (by first | exact hD | (subst_vars; exact hD)) hS d_Y_readsEnd_141
            · have _q := c10
              refine lv_iconst (v := iI 1) hx hb d_Y_readsEnd_136 rfl ?_
              refine lv_goto (tgt := 141) hx hb d_Y_readsEnd_137 (by decide) ?_
              exact fin (true, n_4, i_x, true, t_n, p_n) _ _ _ _ _ (by rfl) (by show (true, n_4, i_x, true, t_n, p_n) = reE lc kn gk gs ge kz yn ysi ydn yft yfp; subst_vars; unfold reE; (repeat (first | rw [if_pos (by assumption)] | rw [if_neg (by assumption)])); first | done | rfl | (rw [decide_eq_true (by assumption)]; done) | (rw [decide_eq_false (by assumption)]; done) | (rw [show rdX lc kn gs ge kz (yn + 1) yft yfp = (t_n, p_n) from hq2.symm]; first | done | rfl | (rw [decide_eq_true (by assumption)]; done) | (rw [decide_eq_false (by assumption)]; done))) (by first | exact hP | (subst_vars; exact hP)) (by first | exact hD | (subst_vars; exact hD)) hS d_Y_readsEnd_141
          · have _q := c9
            exact absurd c9 (by decide)
    · have _q := c3
      refine lv_iconst (v := iI 0) hx hb d_Y_readsEnd_41 rfl ?_
      exact fin (false, n_1, ysi, ydn, yft, yfp) _ _ _ _ _ (by rfl) (by show (false, n_1, ysi, ydn, yft, yfp) = reE lc kn gk gs ge kz yn ysi ydn yft yfp; subst_vars; unfold reE; (repeat (first | rw [if_pos (by assumption)] | rw [if_neg (by assumption)])); first | done | rfl | (rw [decide_eq_true (by assumption)]; done) | (rw [decide_eq_false (by assumption)]; done) | (rw [show rdX lc kn gs ge kz (yn + 1) yft yfp = (t_n, p_n) from hq2.symm]; first | done | rfl | (rw [decide_eq_true (by assumption)]; done) | (rw [decide_eq_false (by assumption)]; done))) (by first | exact hP | (subst_vars; exact hP)) (by first | exact hD | (subst_vars; exact hD)) hS d_Y_readsEnd_42

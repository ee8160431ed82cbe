def HDok (d : HD) : Prop := HR d.n d.mx d.t d.ti d.ts d.te d.tl d.tc ∧ ∀ j, d.te j ≤ d.n

theorem d_J_answer_0 : decode b_J_answer 0 = .ok (.aload_n 0, 1) := by decide +kernel
theorem d_J_answer_1 : decode b_J_answer 1 = .ok (.getfield 14, 3) := by decide +kernel
theorem d_J_answer_4 : decode b_J_answer 4 = .ok (.aload_n 2, 1) := by decide +kernel
theorem d_J_answer_5 : decode b_J_answer 5 = .ok (.aload_n 1, 1) := by decide +kernel
theorem d_J_answer_6 : decode b_J_answer 6 = .ok (.getfield 30, 3) := by decide +kernel
theorem d_J_answer_9 : decode b_J_answer 9 = .ok (.aload_n 1, 1) := by decide +kernel
theorem d_J_answer_10 : decode b_J_answer 10 = .ok (.getfield 36, 3) := by decide +kernel
theorem d_J_answer_13 : decode b_J_answer 13 = .ok (.iconst 1, 1) := by decide +kernel
theorem d_J_answer_14 : decode b_J_answer 14 = .ok (.invokevirtual 39, 3) := by decide +kernel
theorem d_J_answer_17 : decode b_J_answer 17 = .ok (.aload_n 0, 1) := by decide +kernel
theorem d_J_answer_18 : decode b_J_answer 18 = .ok (.aload_n 2, 1) := by decide +kernel
theorem d_J_answer_19 : decode b_J_answer 19 = .ok (.aload_n 1, 1) := by decide +kernel
theorem d_J_answer_20 : decode b_J_answer 20 = .ok (.getfield 30, 3) := by decide +kernel
theorem d_J_answer_23 : decode b_J_answer 23 = .ok (.aload_n 1, 1) := by decide +kernel
theorem d_J_answer_24 : decode b_J_answer 24 = .ok (.getfield 36, 3) := by decide +kernel
theorem d_J_answer_27 : decode b_J_answer 27 = .ok (.invokestatic 43, 3) := by decide +kernel
theorem d_J_answer_30 : decode b_J_answer 30 = .ok (.putfield 47, 3) := by decide +kernel
theorem d_J_answer_33 : decode b_J_answer 33 = .ok (.aload_n 1, 1) := by decide +kernel
theorem d_J_answer_34 : decode b_J_answer 34 = .ok (.iconst 0, 1) := by decide +kernel
theorem d_J_answer_35 : decode b_J_answer 35 = .ok (.putfield 50, 3) := by decide +kernel
theorem d_J_answer_38 : decode b_J_answer 38 = .ok (.iconst 0, 1) := by decide +kernel
theorem d_J_answer_39 : decode b_J_answer 39 = .ok (.istore 4, 2) := by decide +kernel
theorem d_J_answer_41 : decode b_J_answer 41 = .ok (.iload 4, 2) := by decide +kernel
theorem d_J_answer_43 : decode b_J_answer 43 = .ok (.aload_n 3, 1) := by decide +kernel
theorem d_J_answer_44 : decode b_J_answer 44 = .ok (.arraylength, 1) := by decide +kernel
theorem d_J_answer_45 : decode b_J_answer 45 = .ok (.if_icmp .ge 48, 3) := by decide +kernel
theorem d_J_answer_48 : decode b_J_answer 48 = .ok (.aload_n 3, 1) := by decide +kernel
theorem d_J_answer_49 : decode b_J_answer 49 = .ok (.iload 4, 2) := by decide +kernel
theorem d_J_answer_51 : decode b_J_answer 51 = .ok (.aaload, 1) := by decide +kernel
theorem d_J_answer_52 : decode b_J_answer 52 = .ok (.ifnull 35, 3) := by decide +kernel
theorem d_J_answer_55 : decode b_J_answer 55 = .ok (.aload_n 0, 1) := by decide +kernel
theorem d_J_answer_56 : decode b_J_answer 56 = .ok (.aload_n 3, 1) := by decide +kernel
theorem d_J_answer_57 : decode b_J_answer 57 = .ok (.iload 4, 2) := by decide +kernel
theorem d_J_answer_59 : decode b_J_answer 59 = .ok (.aaload, 1) := by decide +kernel
theorem d_J_answer_60 : decode b_J_answer 60 = .ok (.aload_n 1, 1) := by decide +kernel
theorem d_J_answer_61 : decode b_J_answer 61 = .ok (.getfield 53, 3) := by decide +kernel
theorem d_J_answer_64 : decode b_J_answer 64 = .ok (.aload_n 1, 1) := by decide +kernel
theorem d_J_answer_65 : decode b_J_answer 65 = .ok (.getfield 56, 3) := by decide +kernel
theorem d_J_answer_68 : decode b_J_answer 68 = .ok (.invokevirtual 59, 3) := by decide +kernel
theorem d_J_answer_71 : decode b_J_answer 71 = .ok (.ifCond .eq 16, 3) := by decide +kernel
theorem d_J_answer_74 : decode b_J_answer 74 = .ok (.aload_n 1, 1) := by decide +kernel
theorem d_J_answer_75 : decode b_J_answer 75 = .ok (.dup, 1) := by decide +kernel
theorem d_J_answer_76 : decode b_J_answer 76 = .ok (.getfield 50, 3) := by decide +kernel
theorem d_J_answer_79 : decode b_J_answer 79 = .ok (.iconst 1, 1) := by decide +kernel
theorem d_J_answer_80 : decode b_J_answer 80 = .ok (.iload 4, 2) := by decide +kernel
theorem d_J_answer_82 : decode b_J_answer 82 = .ok (.ishl, 1) := by decide +kernel
theorem d_J_answer_83 : decode b_J_answer 83 = .ok (.ior, 1) := by decide +kernel
theorem d_J_answer_84 : decode b_J_answer 84 = .ok (.putfield 50, 3) := by decide +kernel
theorem d_J_answer_87 : decode b_J_answer 87 = .ok (.iinc 4 1, 3) := by decide +kernel
theorem d_J_answer_90 : decode b_J_answer 90 = .ok (.goto (-49), 3) := by decide +kernel
theorem d_J_answer_93 : decode b_J_answer 93 = .ok (.return_, 1) := by decide +kernel
set_option maxHeartbeats 4000000 in
set_option maxRecDepth 100000 in
theorem c_J_answer (l : Launch) (dC : Nat → ClassId) (dI : Nat → Nat → Nat) (kA : Nat → ClassId) (sz : Nat) (jo : Nat) (wo : Nat) (wl : Nat) (wb : Nat) (we : Nat) (wn : Nat) (wk : Nat) (wz : Int) (lt : Nat → Int) (sb : Nat → Int) (se : Nat → Int) (wo2 : Nat) (wl2 : Nat) (wb2 : Nat) (we2 : Nat) (wn2 : Nat) (wk2 : Nat) (wz2 : Int) (lt2 : Nat → Int) (sb2 : Nat → Int) (se2 : Nat → Int) (jm : Nat) (jr : Nat) (jy : Int) (rc : Nat → Bool) (mt : Nat → Bool) (co : Nat) (ci : Int) (cr : Int) (cs : Int) (ce : Int) (cc : Int) (la : Nat) (ul : Nat → Int) (sa : Nat) (hd : Nat → Option HD) (hW : WR wn wk wz lt sb se) (hW2 : WR wn2 wk2 wz2 lt2 sb2 se2) (hw1 : wn = 100 ∧ 101 ≤ 2 * wk ∧ wk ≤ 100) (hw2 : wn2 = 400 ∧ 401 ≤ 2 * wk2) (hul : C2 ul) (hct : 0 ≤ cs ∧ cs ≤ ce ∧ ce ≤ 100) (hrel : 0 ≤ cr ∧ cr ≤ 7) (hix : -2147483648 ≤ ci ∧ ci < 2147483648) (hHD : ∀ (r : Nat) (d : HD), hd r = some d → HDok d) : Met l y_J_answer (wsy y_J_answer b_J_answer 5 none) (rmd 6 0 0) (li_Pr (dC, dI) CL (TY kA) [.ref jo, .ref co, .ref la, .ref sa] (fun h => h.size = sz ∧ va_P (dC, dI) CL [(jo, .inr (4, [.ref wo, .ref wo2, .ref jm, .ref jr, .int (iI jy)])), (jr, .inl (kA 2, 101, .inl (zI rc))), (wo, .inr (9, [.ref wl, .ref wb, .ref we, .int (iI wz)])), (wl, .inl (kA 1, wn, .inl (aI lt))), (wb, .inl (kA 0, wk, .inl (aI sb))), (we, .inl (kA 0, wk, .inl (aI se))), (wo2, .inr (9, [.ref wl2, .ref wb2, .ref we2, .int (iI wz2)])), (wl2, .inl (kA 1, wn2, .inl (aI lt2))), (wb2, .inl (kA 0, wk2, .inl (aI sb2))), (we2, .inl (kA 0, wk2, .inl (aI se2))), (jm, .inl (kA 2, 100, .inl (zI mt))), (co, .inr (1, [.int (iI ci), .int (iI cr), .int (iI cs), .int (iI ce), .int (iI cc)]))] h ∧ va_D (fun q => dI 100 0 ≤ q) [(jo, .inr (4, [.ref wo, .ref wo2, .ref jm, .ref jr, .int (iI jy)])), (jr, .inl (kA 2, 101, .inl (zI rc))), (wo, .inr (9, [.ref wl, .ref wb, .ref we, .int (iI wz)])), (wl, .inl (kA 1, wn, .inl (aI lt))), (wb, .inl (kA 0, wk, .inl (aI sb))), (we, .inl (kA 0, wk, .inl (aI se))), (wo2, .inr (9, [.ref wl2, .ref wb2, .ref we2, .int (iI wz2)])), (wl2, .inl (kA 1, wn2, .inl (aI lt2))), (wb2, .inl (kA 0, wk2, .inl (aI sb2))), (we2, .inl (kA 0, wk2, .inl (aI se2))), (jm, .inl (kA 2, 100, .inl (zI mt))), (co, .inr (1, [.int (iI ci), .int (iI cr), .int (iI cs), .int (iI ce), .int (iI cc)]))] ∧ (fun h => (va_P (dC, dI) CL [(la, .inl (kA 1, 100, .inl (aI ul))), (sa, .inl (kA 4, 10, .inr (.inr (.inr (.inr (shO hd))))))] h ∧ Dsj [(la, .inl (kA 1, 100, .inl (aI ul))), (sa, .inl (kA 4, 10, .inr (.inr (.inr (.inr (shO hd))))))] [(jo, .inr (4, [.ref wo, .ref wo2, .ref jm, .ref jr, .int (iI jy)])), (jr, .inl (kA 2, 101, .inl (zI rc))), (wo, .inr (9, [.ref wl, .ref wb, .ref we, .int (iI wz)])), (wl, .inl (kA 1, wn, .inl (aI lt))), (wb, .inl (kA 0, wk, .inl (aI sb))), (we, .inl (kA 0, wk, .inl (aI se))), (wo2, .inr (9, [.ref wl2, .ref wb2, .ref we2, .int (iI wz2)])), (wl2, .inl (kA 1, wn2, .inl (aI lt2))), (wb2, .inl (kA 0, wk2, .inl (aI sb2))), (we2, .inl (kA 0, wk2, .inl (aI se2))), (jm, .inl (kA 2, 100, .inl (zI mt))), (co, .inr (1, [.int (iI ci), .int (iI cr), .int (iI cs), .int (iI ce), .int (iI cc)]))]) ∧ ShB (dC, dI) kA hd [(jo, .inr (4, [.ref wo, .ref wo2, .ref jm, .ref jr, .int (iI jy)])), (jr, .inl (kA 2, 101, .inl (zI rc))), (wo, .inr (9, [.ref wl, .ref wb, .ref we, .int (iI wz)])), (wl, .inl (kA 1, wn, .inl (aI lt))), (wb, .inl (kA 0, wk, .inl (aI sb))), (we, .inl (kA 0, wk, .inl (aI se))), (wo2, .inr (9, [.ref wl2, .ref wb2, .ref we2, .int (iI wz2)])), (wl2, .inl (kA 1, wn2, .inl (aI lt2))), (wb2, .inl (kA 0, wk2, .inl (aI sb2))), (we2, .inl (kA 0, wk2, .inl (aI se2))), (jm, .inl (kA 2, 100, .inl (zI mt))), (co, .inr (1, [.int (iI ci), .int (iI cr), .int (iI cs), .int (iI ce), .int (iI cc)]))] h) h)) (li_Qw (S := (Nat → Bool) × (Nat → Bool) × (Int) × (Nat → Int) × (Nat → Int) × (Nat → Int) × (Int) × (Nat → Int) × (Nat → Int) × (Nat → Int) × (Int) × (Int)) (dC, dI) CL (fun u => WR wn2 wk2 u.2.2.1 u.2.2.2.1 u.2.2.2.2.1 u.2.2.2.2.2.1 ∧ WR wn wk u.2.2.2.2.2.2.1 u.2.2.2.2.2.2.2.1 u.2.2.2.2.2.2.2.2.1 u.2.2.2.2.2.2.2.2.2.1 ∧ -1 ≤ u.2.2.2.2.2.2.2.2.2.2.1 ∧ u.2.2.2.2.2.2.2.2.2.2.1 ≤ 9999 ∧ u.2.2.2.2.2.2.2.2.2.2.2 = anM hd cr ci (yearF ul 100 cs ce) (wsF ul true cs ce)) (fun _ => none) (fun u => [(jo, .inr (4, [.ref wo, .ref wo2, .ref jm, .ref jr, .int (iI u.2.2.2.2.2.2.2.2.2.2.1)])), (jr, .inl (kA 2, 101, .inl (zI u.2.1))), (wo, .inr (9, [.ref wl, .ref wb, .ref we, .int (iI u.2.2.2.2.2.2.1)])), (wl, .inl (kA 1, wn, .inl (aI u.2.2.2.2.2.2.2.1))), (wb, .inl (kA 0, wk, .inl (aI u.2.2.2.2.2.2.2.2.1))), (we, .inl (kA 0, wk, .inl (aI u.2.2.2.2.2.2.2.2.2.1))), (wo2, .inr (9, [.ref wl2, .ref wb2, .ref we2, .int (iI u.2.2.1)])), (wl2, .inl (kA 1, wn2, .inl (aI u.2.2.2.1))), (wb2, .inl (kA 0, wk2, .inl (aI u.2.2.2.2.1))), (we2, .inl (kA 0, wk2, .inl (aI u.2.2.2.2.2.1))), (jm, .inl (kA 2, 100, .inl (zI u.1))), (co, .inr (1, [.int (iI ci), .int (iI cr), .int (iI cs), .int (iI ce), .int (iI u.2.2.2.2.2.2.2.2.2.2.2)]))]) (va_A [(jo, .inr (4, [.ref wo, .ref wo2, .ref jm, .ref jr, .int (iI jy)])), (jr, .inl (kA 2, 101, .inl (zI rc))), (wo, .inr (9, [.ref wl, .ref wb, .ref we, .int (iI wz)])), (wl, .inl (kA 1, wn, .inl (aI lt))), (wb, .inl (kA 0, wk, .inl (aI sb))), (we, .inl (kA 0, wk, .inl (aI se))), (wo2, .inr (9, [.ref wl2, .ref wb2, .ref we2, .int (iI wz2)])), (wl2, .inl (kA 1, wn2, .inl (aI lt2))), (wb2, .inl (kA 0, wk2, .inl (aI sb2))), (we2, .inl (kA 0, wk2, .inl (aI se2))), (jm, .inl (kA 2, 100, .inl (zI mt))), (co, .inr (1, [.int (iI ci), .int (iI cr), .int (iI cs), .int (iI ce), .int (iI cc)]))] sz)) 0 0 (va_A [(jo, .inr (4, [.ref wo, .ref wo2, .ref jm, .ref jr, .int (iI jy)])), (jr, .inl (kA 2, 101, .inl (zI rc))), (wo, .inr (9, [.ref wl, .ref wb, .ref we, .int (iI wz)])), (wl, .inl (kA 1, wn, .inl (aI lt))), (wb, .inl (kA 0, wk, .inl (aI sb))), (we, .inl (kA 0, wk, .inl (aI se))), (wo2, .inr (9, [.ref wl2, .ref wb2, .ref we2, .int (iI wz2)])), (wl2, .inl (kA 1, wn2, .inl (aI lt2))), (wb2, .inl (kA 0, wk2, .inl (aI sb2))), (we2, .inl (kA 0, wk2, .inl (aI se2))), (jm, .inl (kA 2, 100, .inl (zI mt))), (co, .inr (1, [.int (iI ci), .int (iI cr), .int (iI cs), .int (iI ce), .int (iI cc)]))] sz) := by
  refine li_mwv (by decide) (Nat.le_of_ble_eq_true rfl) ?_
  intro p e s m args below meth c Q A C hP hD hBx hK hN hG hA hAi hAN fin ls hl
  obtain ⟨hx, hb, hr, hml, hown, hts, hlocks, hin⟩ := C
  have hown : s.vm.findClass R_J = some m.cls := hown
  obtain ⟨hBx, hSh⟩ := hBx
  obtain ⟨hRo, hDj⟩ := hBx
  have hRo : va_P (dC, dI) CL [(la, .inl (kA 1, 100, .inl (aI ul))), (sa, .inl (kA 4, 10, .inr (.inr (.inr (.inr (shO hd))))))] s.heap := hRo
  have hRoN := li_roN (A := A) hRo hDj hAi
  have hl : lv_has ls 5 [(0, .ref jo), (1, .ref co), (2, .ref la), (3, .ref sa)] := hl
  obtain ⟨hwn, hwk, hwz, hlt, hsb, hse⟩ := id hW
  obtain ⟨hwn2, hwk2, hwz2, hlt2, hsb2, hse2⟩ := id hW2
  suffices h9 : ∀ (H : Heap) (locs : List Loc), H = s.heap → locs = [] → W p l e (rmd 6 0 0) s m args below meth c H locs 0 0 Q (F0 m 0 ls []) from h9 _ _ rfl rfl
  intro H locs eH eL
  have hP : va_P (dC, dI) CL [(jo, .inr (4, [.ref wo, .ref wo2, .ref jm, .ref jr, .int (iI jy)])), (jr, .inl (kA 2, 101, .inl (zI rc))), (wo, .inr (9, [.ref wl, .ref wb, .ref we, .int (iI wz)])), (wl, .inl (kA 1, wn, .inl (aI lt))), (wb, .inl (kA 0, wk, .inl (aI sb))), (we, .inl (kA 0, wk, .inl (aI se))), (wo2, .inr (9, [.ref wl2, .ref wb2, .ref we2, .int (iI wz2)])), (wl2, .inl (kA 1, wn2, .inl (aI lt2))), (wb2, .inl (kA 0, wk2, .inl (aI sb2))), (we2, .inl (kA 0, wk2, .inl (aI se2))), (jm, .inl (kA 2, 100, .inl (zI mt))), (co, .inr (1, [.int (iI ci), .int (iI cr), .int (iI cs), .int (iI ce), .int (iI cc)]))] H := by rw [eH]; exact hP
  have hS : va_S A s.heap H locs := by rw [eH, eL]; exact va_S.rf
  refine lv_aload_n hx hb d_J_answer_0 rfl (lv_at hl 0 rfl) ?_
  refine gf_J_14 hx hb hts hown hK hP 0 rfl rfl d_J_answer_1 ?_
  refine lv_aload_n hx hb d_J_answer_4 rfl (lv_at hl 2 rfl) ?_
  refine lv_aload_n hx hb d_J_answer_5 rfl (lv_at hl 1 rfl) ?_
  refine gf_J_30 hx hb hts hN hown hK hP 11 rfl rfl d_J_answer_6 ?_
  refine lv_aload_n hx hb d_J_answer_9 rfl (lv_at hl 1 rfl) ?_
  refine gf_J_36 hx hb hts hN hown hK hP 11 rfl rfl d_J_answer_10 ?_
  refine lv_iconst (v := iI 1) hx hb d_J_answer_13 rfl ?_
  refine li_callw (wc := [(wo, .inr (9, [.ref wl, .ref wb, .ref we, .int (iI wz)])), (wl, .inl (kA 1, wn, .inl (aI lt))), (wb, .inl (kA 0, wk, .inl (aI sb))), (we, .inl (kA 0, wk, .inl (aI se)))]) (wr := [(jo, .inr (4, [.ref wo, .ref wo2, .ref jm, .ref jr, .int (iI jy)])), (jr, .inl (kA 2, 101, .inl (zI rc))), (wo2, .inr (9, [.ref wl2, .ref wb2, .ref we2, .int (iI wz2)])), (wl2, .inl (kA 1, wn2, .inl (aI lt2))), (wb2, .inl (kA 0, wk2, .inl (aI sb2))), (we2, .inl (kA 0, wk2, .inl (aI se2))), (jm, .inl (kA 2, 100, .inl (zI mt))), (co, .inr (1, [.int (iI ci), .int (iI cr), .int (iI cs), .int (iI ce), .int (iI cc)]))]) (va_runV (As := [.ref la, .int (iI cs), .int (iI ce), .int (iI 1)]) (rest := []) ⟨hx, hb, hml, hown, hts⟩ (c_W_read2 l dC dI kA H.size wo wl wb we wn wk wz lt sb se la 100 ul cs ce true (by exact hW) (by omega) (by exact hul) (by omega) (by omega)) (cw_J_39 hts rfl rfl ⟨Nat.le_of_ble_eq_true rfl, Nat.le_of_ble_eq_true rfl⟩) (li_preV (va_recv hK hP (ci := 9) (q0 := 2) rfl rfl) ⟨rfl, hP.sub [2, 3, 4, 5] rfl, (hD.sub [2, 3, 4, 5] (by decide) rfl).weaken (fun _ _ _ h => hAN _ h), ((li_ro hRo hRoN hS).sub [0] rfl), (dj_cons (dj_r (hRoN 0 _ rfl) hD [2, 3, 4, 5] rfl) dj_nil)⟩ hK hN (hG.go hS hAN)) rfl rfl hl.1 rfl (lv_room (Nat.le_of_ble_eq_true rfl)) d_J_answer_14 ⟨(by show 0 + 0 ≤ 0; omega), (by show 0 + 0 ≤ 0; omega)⟩) hP hD hS hA [2, 3, 4, 5] [0, 1, 6, 7, 8, 9, 10, 11] rfl rfl (by decide) (by decide) (fun u1 H locs hu1 hP hD hS _hk => ?_)
  obtain ⟨a_z, a_l, a_b, a_e⟩ := u1
  have hP : va_P (dC, dI) CL [(jo, .inr (4, [.ref wo, .ref wo2, .ref jm, .ref jr, .int (iI jy)])), (jr, .inl (kA 2, 101, .inl (zI rc))), (wo2, .inr (9, [.ref wl2, .ref wb2, .ref we2, .int (iI wz2)])), (wl2, .inl (kA 1, wn2, .inl (aI lt2))), (wb2, .inl (kA 0, wk2, .inl (aI sb2))), (we2, .inl (kA 0, wk2, .inl (aI se2))), (jm, .inl (kA 2, 100, .inl (zI mt))), (co, .inr (1, [.int (iI ci), .int (iI cr), .int (iI cs), .int (iI ce), .int (iI cc)])), (wo, .inr (9, [.ref wl, .ref wb, .ref we, .int (iI a_z)])), (wl, .inl (kA 1, wn, .inl (aI a_l))), (wb, .inl (kA 0, wk, .inl (aI a_b))), (we, .inl (kA 0, wk, .inl (aI a_e)))] H := hP
  have hD : va_D A [(jo, .inr (4, [.ref wo, .ref wo2, .ref jm, .ref jr, .int (iI jy)])), (jr, .inl (kA 2, 101, .inl (zI rc))), (wo2, .inr (9, [.ref wl2, .ref wb2, .ref we2, .int (iI wz2)])), (wl2, .inl (kA 1, wn2, .inl (aI lt2))), (wb2, .inl (kA 0, wk2, .inl (aI sb2))), (we2, .inl (kA 0, wk2, .inl (aI se2))), (jm, .inl (kA 2, 100, .inl (zI mt))), (co, .inr (1, [.int (iI ci), .int (iI cr), .int (iI cs), .int (iI ce), .int (iI cc)])), (wo, .inr (9, [.ref wl, .ref wb, .ref we, .int (iI a_z)])), (wl, .inl (kA 1, wn, .inl (aI a_l))), (wb, .inl (kA 0, wk, .inl (aI a_b))), (we, .inl (kA 0, wk, .inl (aI a_e)))] := hD
  have hp14 : WR wn wk a_z a_l a_b a_e ∧ WL (wsF ul true cs ce) a_z a_l a_b a_e := hu1
  refine lv_aload_n hx hb d_J_answer_17 rfl (lv_at hl 0 rfl) ?_
  refine lv_aload_n hx hb d_J_answer_18 rfl (lv_at hl 2 rfl) ?_
  refine lv_aload_n hx hb d_J_answer_19 rfl (lv_at hl 1 rfl) ?_
  refine gf_J_30 hx hb hts hN hown hK hP 7 rfl rfl d_J_answer_20 ?_
  refine lv_aload_n hx hb d_J_answer_23 rfl (lv_at hl 1 rfl) ?_
  refine gf_J_36 hx hb hts hN hown hK hP 7 rfl rfl d_J_answer_24 ?_
  refine li_callr ((va_runSN (As := [.ref la, .int (iI cs), .int (iI ce)]) (rest := [.ref jo]) ⟨hx, hb, hml, hown, hts⟩ (c_Q_yearIn l dC dI kA la 100 ul cs ce (by omega) (by intro j; have h8 := hul j; omega) (by omega) (by omega)) (cw_J_43 hts hN rfl rfl ⟨Nat.le_of_ble_eq_true rfl, Nat.le_of_ble_eq_true rfl⟩) (li_preS ((li_ro hRo hRoN hS).sub [0] rfl) hK hN (hG.go hS hAN)) rfl rfl hl.1 rfl (lv_room (Nat.le_of_ble_eq_true rfl)) d_J_answer_27 ⟨(by show 0 + 0 ≤ 0; omega), (by show 0 + 0 ≤ 0; omega)⟩).run) ?_
  refine li_nm (fun yr eyr => ?_)
  refine pf_J_47 hx hb hts hown hK hP hD hS 0 rfl (Nat.le_of_ble_eq_true rfl) d_J_answer_30 (fun H locs hP hD hS => ?_)
  have hP : va_P (dC, dI) CL [(jo, .inr (4, [.ref wo, .ref wo2, .ref jm, .ref jr, .int (iI yr)])), (jr, .inl (kA 2, 101, .inl (zI rc))), (wo2, .inr (9, [.ref wl2, .ref wb2, .ref we2, .int (iI wz2)])), (wl2, .inl (kA 1, wn2, .inl (aI lt2))), (wb2, .inl (kA 0, wk2, .inl (aI sb2))), (we2, .inl (kA 0, wk2, .inl (aI se2))), (jm, .inl (kA 2, 100, .inl (zI mt))), (co, .inr (1, [.int (iI ci), .int (iI cr), .int (iI cs), .int (iI ce), .int (iI cc)])), (wo, .inr (9, [.ref wl, .ref wb, .ref we, .int (iI a_z)])), (wl, .inl (kA 1, wn, .inl (aI a_l))), (wb, .inl (kA 0, wk, .inl (aI a_b))), (we, .inl (kA 0, wk, .inl (aI a_e)))] H := hP
  have hD : va_D A [(jo, .inr (4, [.ref wo, .ref wo2, .ref jm, .ref jr, .int (iI yr)])), (jr, .inl (kA 2, 101, .inl (zI rc))), (wo2, .inr (9, [.ref wl2, .ref wb2, .ref we2, .int (iI wz2)])), (wl2, .inl (kA 1, wn2, .inl (aI lt2))), (wb2, .inl (kA 0, wk2, .inl (aI sb2))), (we2, .inl (kA 0, wk2, .inl (aI se2))), (jm, .inl (kA 2, 100, .inl (zI mt))), (co, .inr (1, [.int (iI ci), .int (iI cr), .int (iI cs), .int (iI ce), .int (iI cc)])), (wo, .inr (9, [.ref wl, .ref wb, .ref we, .int (iI a_z)])), (wl, .inl (kA 1, wn, .inl (aI a_l))), (wb, .inl (kA 0, wk, .inl (aI a_b))), (we, .inl (kA 0, wk, .inl (aI a_e)))] := hD
  have hyr : -1 ≤ yr ∧ yr ≤ 9999 := by rw [eyr]; exact yearF_r (fun j => by have := hul j; omega) _ _
  have eyr2 : yr = yearF ul 100 cs ce := eyr
  refine lv_aload_n hx hb d_J_answer_33 rfl (lv_at hl 1 rfl) ?_
  refine lv_iconst (v := iI 0) hx hb d_J_answer_34 rfl ?_
  refine pf_J_50 hx hb hts hN hown hK hP hD hS 7 rfl (Nat.le_of_ble_eq_true rfl) d_J_answer_35 (fun H locs hP hD hS => ?_)
  have hP : va_P (dC, dI) CL [(jo, .inr (4, [.ref wo, .ref wo2, .ref jm, .ref jr, .int (iI yr)])), (jr, .inl (kA 2, 101, .inl (zI rc))), (wo2, .inr (9, [.ref wl2, .ref wb2, .ref we2, .int (iI wz2)])), (wl2, .inl (kA 1, wn2, .inl (aI lt2))), (wb2, .inl (kA 0, wk2, .inl (aI sb2))), (we2, .inl (kA 0, wk2, .inl (aI se2))), (jm, .inl (kA 2, 100, .inl (zI mt))), (co, .inr (1, [.int (iI ci), .int (iI cr), .int (iI cs), .int (iI ce), .int (iI 0)])), (wo, .inr (9, [.ref wl, .ref wb, .ref we, .int (iI a_z)])), (wl, .inl (kA 1, wn, .inl (aI a_l))), (wb, .inl (kA 0, wk, .inl (aI a_b))), (we, .inl (kA 0, wk, .inl (aI a_e)))] H := hP
  have hD : va_D A [(jo, .inr (4, [.ref wo, .ref wo2, .ref jm, .ref jr, .int (iI yr)])), (jr, .inl (kA 2, 101, .inl (zI rc))), (wo2, .inr (9, [.ref wl2, .ref wb2, .ref we2, .int (iI wz2)])), (wl2, .inl (kA 1, wn2, .inl (aI lt2))), (wb2, .inl (kA 0, wk2, .inl (aI sb2))), (we2, .inl (kA 0, wk2, .inl (aI se2))), (jm, .inl (kA 2, 100, .inl (zI mt))), (co, .inr (1, [.int (iI ci), .int (iI cr), .int (iI cs), .int (iI ce), .int (iI 0)])), (wo, .inr (9, [.ref wl, .ref wb, .ref we, .int (iI a_z)])), (wl, .inl (kA 1, wn, .inl (aI a_l))), (wb, .inl (kA 0, wk, .inl (aI a_b))), (we, .inl (kA 0, wk, .inl (aI a_e)))] := hD
  refine lv_iconst (v := iI 0) hx hb d_J_answer_38 rfl ?_
  refine lv_istore (lv' := [(4, .int (iI 0)), (0, .ref jo), (1, .ref co), (2, .ref la), (3, .ref sa)]) hx hb d_J_answer_39 hl (by decide) rfl (fun ls hl => ?_)
  have K_41 : ∀ (nn_41 : Nat) (r : Int) (v : Int) (vm : Nat → Bool) (vr : Nat → Bool) (vz : Int) (vl : Nat → Int) (vb : Nat → Int) (ve : Nat → Int), (0 ≤ r ∧ r ≤ 10) → (WR wn2 wk2 vz vl vb ve) → (anL hd cr ci (yearF ul 100 cs ce) (wsF ul true cs ce) (10 - r).toNat r v = anM hd cr ci (yearF ul 100 cs ce) (wsF ul true cs ce)) → ((10 - (r : Int)).toNat < nn_41) → ∀ (H : Heap) (locs : List Loc), va_P (dC, dI) CL [(jo, .inr (4, [.ref wo, .ref wo2, .ref jm, .ref jr, .int (iI yr)])), (jr, .inl (kA 2, 101, .inl (zI vr))), (wo2, .inr (9, [.ref wl2, .ref wb2, .ref we2, .int (iI vz)])), (wl2, .inl (kA 1, wn2, .inl (aI vl))), (wb2, .inl (kA 0, wk2, .inl (aI vb))), (we2, .inl (kA 0, wk2, .inl (aI ve))), (jm, .inl (kA 2, 100, .inl (zI vm))), (co, .inr (1, [.int (iI ci), .int (iI cr), .int (iI cs), .int (iI ce), .int (iI v)])), (wo, .inr (9, [.ref wl, .ref wb, .ref we, .int (iI a_z)])), (wl, .inl (kA 1, wn, .inl (aI a_l))), (wb, .inl (kA 0, wk, .inl (aI a_b))), (we, .inl (kA 0, wk, .inl (aI a_e)))] H → va_D A [(jo, .inr (4, [.ref wo, .ref wo2, .ref jm, .ref jr, .int (iI yr)])), (jr, .inl (kA 2, 101, .inl (zI vr))), (wo2, .inr (9, [.ref wl2, .ref wb2, .ref we2, .int (iI vz)])), (wl2, .inl (kA 1, wn2, .inl (aI vl))), (wb2, .inl (kA 0, wk2, .inl (aI vb))), (we2, .inl (kA 0, wk2, .inl (aI ve))), (jm, .inl (kA 2, 100, .inl (zI vm))), (co, .inr (1, [.int (iI ci), .int (iI cr), .int (iI cs), .int (iI ce), .int (iI v)])), (wo, .inr (9, [.ref wl, .ref wb, .ref we, .int (iI a_z)])), (wl, .inl (kA 1, wn, .inl (aI a_l))), (wb, .inl (kA 0, wk, .inl (aI a_b))), (we, .inl (kA 0, wk, .inl (aI a_e)))] → va_S A s.heap H locs → ∀ ls : Array Slot, lv_has ls 5 [(4, .int (iI r)), (0, .ref jo), (1, .ref co), (2, .ref la), (3, .ref sa)] → W p l e (rmd 6 0 0) s m args below meth c H locs 0 0 Q (F0 m 41 ls []) := by
    intro nn_41
    induction nn_41 with
    | zero => intro r v vm vr vz vl vb ve hr9 hWv hres hm; exact absurd hm (Nat.not_lt_zero _)
    | succ nn_41 ih_41 =>
      intro r v vm vr vz vl vb ve hr9 hWv hres hm_41 H locs hP hD hS ls hl
      refine lv_iload hx hb d_J_answer_41 (lv_at hl 0 rfl) ?_
      refine lv_aload_n hx hb d_J_answer_43 rfl (lv_at hl 4 rfl) ?_
      refine li_alen hx hb hK (li_ro hRo hRoN hS) 1 4 rfl rfl d_J_answer_44 ?_
      refine li_icmp_ge (tgt := 93) hx hb d_J_answer_45 (by decide) (by omega) (by omega) (fun c2 => ?_) (fun c2 => ?_)
      · have _q := c2
        rw [show (10 - r).toNat = 0 by omega] at hres
        simp only [anL] at hres
        exact fin (vm, vr, vz, vl, vb, ve, a_z, a_l, a_b, a_e, yr, v) _ _ _ _ (by show WR wn2 wk2 vz vl vb ve ∧ WR wn wk a_z a_l a_b a_e ∧ -1 ≤ yr ∧ yr ≤ 9999 ∧ v = anM hd cr ci (yearF ul 100 cs ce) (wsF ul true cs ce); exact ⟨hWv, hp14.1, by omega, by omega, hres⟩) (by first | exact hP.sub [0, 1, 8, 9, 10, 11, 2, 3, 4, 5, 6, 7] rfl | (subst_vars; exact hP.sub [0, 1, 8, 9, 10, 11, 2, 3, 4, 5, 6, 7] rfl)) (by first | exact hD.sub [0, 1, 8, 9, 10, 11, 2, 3, 4, 5, 6, 7] (by decide) rfl | (subst_vars; exact hD.sub [0, 1, 8, 9, 10, 11, 2, 3, 4, 5, 6, 7] (by decide) rfl)) hS d_J_answer_93
      · have _q := c2
        rw [show (10 - r).toNat = (10 - (r + 1)).toNat + 1 by omega] at hres
        simp only [anL] at hres
        refine lv_aload_n hx hb d_J_answer_48 rfl (lv_at hl 4 rfl) ?_
        refine lv_iload hx hb d_J_answer_49 (lv_at hl 0 rfl) ?_
        refine li_ald hx hb hK (li_ro hRo hRoN hS) 1 4 rfl rfl (by omega) (by omega) (by omega) d_J_answer_51 ?_
        rcases hd3 : hd r.toNat with _ | dq
        · have _q := hd3
          refine li_rfN (shO_n hd3) ?_
          rw [hd3, show Option.any (saD cr ci (yearF ul 100 cs ce) (wsF ul true cs ce)) none = false from rfl, if_neg (by decide)] at hres
          refine lv_ifnullN (tgt := 87) hx hb d_J_answer_52 (by decide) ?_
          obtain ⟨r_n, er_n⟩ : ∃ y_9 : Int, y_9 = r + 1 := ⟨_, rfl⟩
          refine lv_iinc (v := iI r_n) (lv' := [(4, .int (iI r_n)), (0, .ref jo), (1, .ref co), (2, .ref la), (3, .ref sa)]) hx hb d_J_answer_87 hl (k := 0) rfl (by rw [er_n]; exact iI_add _ _) (by decide) rfl (fun ls hl => ?_)
          refine lv_goto (tgt := 41) hx hb d_J_answer_90 (by decide) ?_
          exact ih_41 r_n v vm vr vz vl vb ve (by omega) (by first | exact hWv | exact hp68) (by first | (rw [er_n, ev_n]; exact hres) | (rw [er_n]; exact hres)) (by omega) _ _ hP hD hS _ (lv_sub hl [0, 1, 2, 3, 4] rfl)
        · have _q := hd3
          refine li_rfS (a := dq.ho) (shO_s hd3) ?_
          have hk_dq := hd3
          obtain ⟨hH_dq, hte_dq⟩ := hHD _ _ hd3
          obtain ⟨hR_dq, hJ_dq⟩ := hSh r.toNat dq hd3
          have hN_dq := li_roN (A := A) hR_dq hJ_dq hAi
          refine lv_ifnull hx hb d_J_answer_52 ?_
          refine lv_aload_n hx hb d_J_answer_55 rfl (lv_at hl 1 rfl) ?_
          refine lv_aload_n hx hb d_J_answer_56 rfl (lv_at hl 4 rfl) ?_
          refine lv_iload hx hb d_J_answer_57 (lv_at hl 0 rfl) ?_
          refine li_ald hx hb hK (li_ro hRo hRoN hS) 1 4 rfl rfl (by omega) (by omega) (by omega) d_J_answer_59 ?_
          refine li_rfS (a := dq.ho) (by exact shO_s hd3) ?_
          refine lv_aload_n hx hb d_J_answer_60 rfl (lv_at hl 2 rfl) ?_
          refine gf_J_53 hx hb hts hN hown hK hP 7 rfl rfl d_J_answer_61 ?_
          refine lv_aload_n hx hb d_J_answer_64 rfl (lv_at hl 2 rfl) ?_
          refine gf_J_56 hx hb hts hN hown hK hP 7 rfl rfl d_J_answer_65 ?_
          refine li_callw (wc := [(jo, .inr (4, [.ref wo, .ref wo2, .ref jm, .ref jr, .int (iI yr)])), (jr, .inl (kA 2, 101, .inl (zI vr))), (wo, .inr (9, [.ref wl, .ref wb, .ref we, .int (iI a_z)])), (wl, .inl (kA 1, wn, .inl (aI a_l))), (wb, .inl (kA 0, wk, .inl (aI a_b))), (we, .inl (kA 0, wk, .inl (aI a_e))), (wo2, .inr (9, [.ref wl2, .ref wb2, .ref we2, .int (iI vz)])), (wl2, .inl (kA 1, wn2, .inl (aI vl))), (wb2, .inl (kA 0, wk2, .inl (aI vb))), (we2, .inl (kA 0, wk2, .inl (aI ve))), (jm, .inl (kA 2, 100, .inl (zI vm)))]) (wr := [(co, .inr (1, [.int (iI ci), .int (iI cr), .int (iI cs), .int (iI ce), .int (iI v)]))]) (va_runV (As := [.ref dq.ho, .int (iI ci), .int (iI cr)]) (rest := []) ⟨hx, hb, hml, hown, hts⟩ (c_J_satisfies l dC dI kA H.size jo wo wl wb we wn wk a_z a_l a_b a_e wo2 wl2 wb2 we2 wn2 wk2 vz vl vb ve jm jr yr vr vm (wsF ul true cs ce) dq.ho dq.oc dq.xi dq.xs dq.xe dq.xl dq.n dq.mx dq.fd dq.tc dq.t dq.ti dq.ts dq.te dq.tl ci cr (by exact hp14.1) (by exact hWv) (by exact hp14.2) (by omega) (by omega) (by exact hH_dq) (by exact hte_dq) (by omega) (by have h8 := hp14.1.2.2.1; omega) (by omega) (by exact hyr)) (cw_J_59 hts rfl rfl ⟨Nat.le_of_ble_eq_true rfl, Nat.le_of_ble_eq_true rfl⟩) (li_preV (va_recv hK hP (ci := 4) (q0 := 0) rfl rfl) ⟨rfl, hP.sub [0, 1, 8, 9, 10, 11, 2, 3, 4, 5, 6] rfl, (hD.sub [0, 1, 8, 9, 10, 11, 2, 3, 4, 5, 6] (by decide) rfl).weaken (fun _ _ _ h => hAN _ h), (va_P.app ((li_ro hR_dq hN_dq hS).sub [0] rfl) (va_P.app ((li_ro hR_dq hN_dq hS).sub [1] rfl) (va_P.app ((li_ro hR_dq hN_dq hS).sub [2] rfl) (va_P.app ((li_ro hR_dq hN_dq hS).sub [3] rfl) (va_P.app ((li_ro hR_dq hN_dq hS).sub [4] rfl) ((li_ro hR_dq hN_dq hS).sub [5] rfl)))))), (dj_cons (dj_r (hN_dq 0 _ rfl) hD [0, 1, 8, 9, 10, 11, 2, 3, 4, 5, 6] rfl) (dj_cons (dj_r (hN_dq 1 _ rfl) hD [0, 1, 8, 9, 10, 11, 2, 3, 4, 5, 6] rfl) (dj_cons (dj_r (hN_dq 2 _ rfl) hD [0, 1, 8, 9, 10, 11, 2, 3, 4, 5, 6] rfl) (dj_cons (dj_r (hN_dq 3 _ rfl) hD [0, 1, 8, 9, 10, 11, 2, 3, 4, 5, 6] rfl) (dj_cons (dj_r (hN_dq 4 _ rfl) hD [0, 1, 8, 9, 10, 11, 2, 3, 4, 5, 6] rfl) (dj_cons (dj_r (hN_dq 5 _ rfl) hD [0, 1, 8, 9, 10, 11, 2, 3, 4, 5, 6] rfl) dj_nil))))))⟩ hK hN (hG.go hS hAN)) rfl rfl hl.1 rfl (lv_room (Nat.le_of_ble_eq_true rfl)) d_J_answer_68 ⟨(by show 0 + 0 ≤ 0; omega), (by show 0 + 0 ≤ 0; omega)⟩) hP hD hS hA [0, 1, 8, 9, 10, 11, 2, 3, 4, 5, 6] [7] rfl rfl (by decide) (by decide) (fun u4 H locs hu4 hP hD hS _hk => ?_)
          obtain ⟨m_f, m_g, m_z, m_l, m_b, m_e⟩ := u4
          have hP : va_P (dC, dI) CL [(co, .inr (1, [.int (iI ci), .int (iI cr), .int (iI cs), .int (iI ce), .int (iI v)])), (jo, .inr (4, [.ref wo, .ref wo2, .ref jm, .ref jr, .int (iI yr)])), (jr, .inl (kA 2, 101, .inl (zI m_g))), (wo, .inr (9, [.ref wl, .ref wb, .ref we, .int (iI a_z)])), (wl, .inl (kA 1, wn, .inl (aI a_l))), (wb, .inl (kA 0, wk, .inl (aI a_b))), (we, .inl (kA 0, wk, .inl (aI a_e))), (wo2, .inr (9, [.ref wl2, .ref wb2, .ref we2, .int (iI m_z)])), (wl2, .inl (kA 1, wn2, .inl (aI m_l))), (wb2, .inl (kA 0, wk2, .inl (aI m_b))), (we2, .inl (kA 0, wk2, .inl (aI m_e))), (jm, .inl (kA 2, 100, .inl (zI m_f)))] H := hP
          have hD : va_D A [(co, .inr (1, [.int (iI ci), .int (iI cr), .int (iI cs), .int (iI ce), .int (iI v)])), (jo, .inr (4, [.ref wo, .ref wo2, .ref jm, .ref jr, .int (iI yr)])), (jr, .inl (kA 2, 101, .inl (zI m_g))), (wo, .inr (9, [.ref wl, .ref wb, .ref we, .int (iI a_z)])), (wl, .inl (kA 1, wn, .inl (aI a_l))), (wb, .inl (kA 0, wk, .inl (aI a_b))), (we, .inl (kA 0, wk, .inl (aI a_e))), (wo2, .inr (9, [.ref wl2, .ref wb2, .ref we2, .int (iI m_z)])), (wl2, .inl (kA 1, wn2, .inl (aI m_l))), (wb2, .inl (kA 0, wk2, .inl (aI m_b))), (we2, .inl (kA 0, wk2, .inl (aI m_e))), (jm, .inl (kA 2, 100, .inl (zI m_f)))] := hD
          have hp68 : WR wn2 wk2 m_z m_l m_b m_e := hu4
          refine W.eq (g2 := F0 m 71 ls [.int (iI (bI (saW dq.t (txL dq.ti dq.ts dq.te dq.tl dq.tc ci dq.tc.toNat 0) (dateF dq.t dq.n dq.ti dq.ts dq.te dq.tc) cr yr (wsF ul true cs ce))))]) rfl ?_
          refine li_bz (tgt := 87) hx hb d_J_answer_71 (by decide) (fun c5 => ?_) (fun c5 => ?_)
          · have _q := c5
            have hsv : saD cr ci (yearF ul 100 cs ce) (wsF ul true cs ce) dq = false := by (rw [← eyr2]; assumption)
            rw [hk_dq, show Option.any (saD cr ci (yearF ul 100 cs ce) (wsF ul true cs ce)) (some dq) = saD cr ci (yearF ul 100 cs ce) (wsF ul true cs ce) dq from rfl, hsv, if_neg (by decide)] at hres
            obtain ⟨r_n, er_n⟩ : ∃ y_9 : Int, y_9 = r + 1 := ⟨_, rfl⟩
            refine lv_iinc (v := iI r_n) (lv' := [(4, .int (iI r_n)), (0, .ref jo), (1, .ref co), (2, .ref la), (3, .ref sa)]) hx hb d_J_answer_87 hl (k := 0) rfl (by rw [er_n]; exact iI_add _ _) (by decide) rfl (fun ls hl => ?_)
            refine lv_goto (tgt := 41) hx hb d_J_answer_90 (by decide) ?_
            exact ih_41 r_n v m_f m_g m_z m_l m_b m_e (by omega) (by first | exact hWv | exact hp68) (by first | (rw [er_n, ev_n]; exact hres) | (rw [er_n]; exact hres)) (by omega) _ _ (hP.sub [1, 2, 7, 8, 9, 10, 11, 0, 3, 4, 5, 6] rfl) (hD.sub [1, 2, 7, 8, 9, 10, 11, 0, 3, 4, 5, 6] (by decide) rfl) hS _ (lv_sub hl [0, 1, 2, 3, 4] rfl)
          · have _q := c5
            have hsv : saD cr ci (yearF ul 100 cs ce) (wsF ul true cs ce) dq = true := by (rw [← eyr2]; assumption)
            rw [hk_dq, show Option.any (saD cr ci (yearF ul 100 cs ce) (wsF ul true cs ce)) (some dq) = saD cr ci (yearF ul 100 cs ce) (wsF ul true cs ce) dq from rfl, hsv, if_pos rfl] at hres
            refine lv_aload_n hx hb d_J_answer_74 rfl (lv_at hl 2 rfl) ?_
            refine lv_dup hx hb d_J_answer_75 rfl ?_
            refine gf_J_50 hx hb hts hN hown hK hP 0 rfl rfl d_J_answer_76 ?_
            refine lv_iconst (v := iI 1) hx hb d_J_answer_79 rfl ?_
            refine lv_iload hx hb d_J_answer_80 (lv_at hl 0 rfl) ?_
            refine li_ishlI hx hb d_J_answer_82 ?_
            refine li_iorI hx hb d_J_answer_83 ?_
            refine li_nm (fun v_n ev_n => ?_)
            refine pf_J_50 hx hb hts hN hown hK hP hD hS 0 rfl (Nat.le_of_ble_eq_true rfl) d_J_answer_84 (fun H locs hP hD hS => ?_)
            have hP : va_P (dC, dI) CL [(co, .inr (1, [.int (iI ci), .int (iI cr), .int (iI cs), .int (iI ce), .int (iI v_n)])), (jo, .inr (4, [.ref wo, .ref wo2, .ref jm, .ref jr, .int (iI yr)])), (jr, .inl (kA 2, 101, .inl (zI m_g))), (wo, .inr (9, [.ref wl, .ref wb, .ref we, .int (iI a_z)])), (wl, .inl (kA 1, wn, .inl (aI a_l))), (wb, .inl (kA 0, wk, .inl (aI a_b))), (we, .inl (kA 0, wk, .inl (aI a_e))), (wo2, .inr (9, [.ref wl2, .ref wb2, .ref we2, .int (iI m_z)])), (wl2, .inl (kA 1, wn2, .inl (aI m_l))), (wb2, .inl (kA 0, wk2, .inl (aI m_b))), (we2, .inl (kA 0, wk2, .inl (aI m_e))), (jm, .inl (kA 2, 100, .inl (zI m_f)))] H := hP
            have hD : va_D A [(co, .inr (1, [.int (iI ci), .int (iI cr), .int (iI cs), .int (iI ce), .int (iI v_n)])), (jo, .inr (4, [.ref wo, .ref wo2, .ref jm, .ref jr, .int (iI yr)])), (jr, .inl (kA 2, 101, .inl (zI m_g))), (wo, .inr (9, [.ref wl, .ref wb, .ref we, .int (iI a_z)])), (wl, .inl (kA 1, wn, .inl (aI a_l))), (wb, .inl (kA 0, wk, .inl (aI a_b))), (we, .inl (kA 0, wk, .inl (aI a_e))), (wo2, .inr (9, [.ref wl2, .ref wb2, .ref we2, .int (iI m_z)])), (wl2, .inl (kA 1, wn2, .inl (aI m_l))), (wb2, .inl (kA 0, wk2, .inl (aI m_b))), (we2, .inl (kA 0, wk2, .inl (aI m_e))), (jm, .inl (kA 2, 100, .inl (zI m_f)))] := hD
            obtain ⟨r_n, er_n⟩ : ∃ y_9 : Int, y_9 = r + 1 := ⟨_, rfl⟩
            refine lv_iinc (v := iI r_n) (lv' := [(4, .int (iI r_n)), (0, .ref jo), (1, .ref co), (2, .ref la), (3, .ref sa)]) hx hb d_J_answer_87 hl (k := 0) rfl (by rw [er_n]; exact iI_add _ _) (by decide) rfl (fun ls hl => ?_)
            refine lv_goto (tgt := 41) hx hb d_J_answer_90 (by decide) ?_
            exact ih_41 r_n v_n m_f m_g m_z m_l m_b m_e (by omega) (by first | exact hWv | exact hp68) (by first | (rw [er_n, ev_n]; exact hres) | (rw [er_n]; exact hres)) (by omega) _ _ (hP.sub [1, 2, 7, 8, 9, 10, 11, 0, 3, 4, 5, 6] rfl) (hD.sub [1, 2, 7, 8, 9, 10, 11, 0, 3, 4, 5, 6] (by decide) rfl) hS _ (lv_sub hl [0, 1, 2, 3, 4] rfl)
  exact K_41 ((10 - (0 : Int)).toNat + 1) 0 0 mt rc wz2 lt2 sb2 se2 (by omega) (by exact hW2) (by rfl) (Nat.lt_succ_self _) _ _ hP hD hS _ (lv_sub hl [0, 1, 2, 3, 4] rfl)

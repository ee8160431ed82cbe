abbrev In6 : Type := Int × Int × Int × Int × Int × Int
def ldV (hd : Nat → Option HD) (ub : Nat → Int) (u : In6) : Int × Int := if ¬ u.1 = 0 then (u.1, u.2.1) else if itM hd ub u.2.2.2.1 u.2.2.2.2.1 = true then (-8, u.2.2.2.1) else (-9, 0)
theorem ldV_f {hd : Nat → Option HD} {ub : Nat → Int} {u : In6} (h : ¬ u.1 = 0) : ldV hd ub u = (u.1, u.2.1) := by unfold ldV; rw [if_pos h]
theorem ldV_t {hd : Nat → Option HD} {ub : Nat → Int} {u : In6} (h : u.1 = 0) (h2 : itM hd ub u.2.2.2.1 u.2.2.2.2.1 = true) : ldV hd ub u = (-8, u.2.2.2.1) := by unfold ldV; rw [if_neg (fun q => q h), if_pos h2]
theorem ldV_n {hd : Nat → Option HD} {ub : Nat → Int} {u : In6} (h : u.1 = 0) (h2 : itM hd ub u.2.2.2.1 u.2.2.2.2.1 = false) : ldV hd ub u = (-9, 0) := by unfold ldV; rw [if_neg (fun q => q h), if_neg (by rw [h2]; decide)]

theorem d_Q_drop_0 : decode b_Q_drop 0 = .ok (.iload_n 1, 1) := by decide +kernel
theorem d_Q_drop_1 : decode b_Q_drop 1 = .ok (.invokestatic 120, 3) := by decide +kernel
theorem d_Q_drop_4 : decode b_Q_drop 4 = .ok (.aload_n 0, 1) := by decide +kernel
theorem d_Q_drop_5 : decode b_Q_drop 5 = .ok (.getfield 18, 3) := by decide +kernel
theorem d_Q_drop_8 : decode b_Q_drop 8 = .ok (.iload_n 1, 1) := by decide +kernel
theorem d_Q_drop_9 : decode b_Q_drop 9 = .ok (.aaload, 1) := by decide +kernel
theorem d_Q_drop_10 : decode b_Q_drop 10 = .ok (.ifnonnull 5, 3) := by decide +kernel
theorem d_Q_drop_13 : decode b_Q_drop 13 = .ok (.iconst 0, 1) := by decide +kernel
theorem d_Q_drop_14 : decode b_Q_drop 14 = .ok (.ireturn, 1) := by decide +kernel
theorem d_Q_drop_15 : decode b_Q_drop 15 = .ok (.aload_n 0, 1) := by decide +kernel
theorem d_Q_drop_16 : decode b_Q_drop 16 = .ok (.getfield 18, 3) := by decide +kernel
theorem d_Q_drop_19 : decode b_Q_drop 19 = .ok (.iload_n 1, 1) := by decide +kernel
theorem d_Q_drop_20 : decode b_Q_drop 20 = .ok (.aconst_null, 1) := by decide +kernel
theorem d_Q_drop_21 : decode b_Q_drop 21 = .ok (.aastore, 1) := by decide +kernel
theorem d_Q_drop_22 : decode b_Q_drop 22 = .ok (.aload_n 0, 1) := by decide +kernel
theorem d_Q_drop_23 : decode b_Q_drop 23 = .ok (.invokevirtual 117, 3) := by decide +kernel
theorem d_Q_drop_26 : decode b_Q_drop 26 = .ok (.aload_n 0, 1) := by decide +kernel
theorem d_Q_drop_27 : decode b_Q_drop 27 = .ok (.iload_n 1, 1) := by decide +kernel
theorem d_Q_drop_28 : decode b_Q_drop 28 = .ok (.invokevirtual 123, 3) := by decide +kernel
theorem d_Q_drop_31 : decode b_Q_drop 31 = .ok (.iconst 1, 1) := by decide +kernel
theorem d_Q_drop_32 : decode b_Q_drop 32 = .ok (.ireturn, 1) := by decide +kernel
set_option maxHeartbeats 4000000 in
set_option maxRecDepth 100000 in
theorem c_Q_drop (l : Launch) (dC : Nat → ClassId) (dI : Nat → Nat → Nat) (kA : Nat → ClassId) (qo : Nat) (qa : Nat → Nat) (qbc : Int) (qll : Int) (qfc : Int) (qfp : Int) (hd : Nat → Option HD) (r : Int) (hr : 0 ≤ r ∧ r ≤ 9) (hdr : hd r.toNat = none) : Met l y_Q_drop (wsy y_Q_drop b_Q_drop 2 (some .boolean)) (rmd 2 0 0) (li_Pr (dC, dI) CL (TY kA) [.ref qo, .int (iI r)] (va_P (dC, dI) CL [(qo, .inr (0, [.ref (qa 0), .int (iI qbc), .ref (qa 1), .int (iI qll), .ref (qa 2), .ref (qa 3), .int (iI qfc), .int (iI qfp), .ref (qa 4), .ref (qa 5), .ref (qa 6), .ref (qa 7), .ref (qa 8), .ref (qa 9)])), (qa 2, .inl (kA 4, 10, .inr (.inr (.inr (.inr (shO hd))))))])) (k2_QcV (.int (iI (bI false)))) 0 0 (fun _ => False) := by
  refine li_mr (by decide) (Nat.le_of_ble_eq_true rfl) (by exact li_narZ2 _) ?_
  intro p e s m args below meth c Q C hP hK hN hG fin ls hl
  obtain ⟨hx, hb, hr, hml, hown, hts, hlocks, hin⟩ := C
  have hown : s.vm.findClass R_Q = some m.cls := hown
  have hP : va_P (dC, dI) CL [(qo, .inr (0, [.ref (qa 0), .int (iI qbc), .ref (qa 1), .int (iI qll), .ref (qa 2), .ref (qa 3), .int (iI qfc), .int (iI qfp), .ref (qa 4), .ref (qa 5), .ref (qa 6), .ref (qa 7), .ref (qa 8), .ref (qa 9)])), (qa 2, .inl (kA 4, 10, .inr (.inr (.inr (.inr (shO hd))))))] s.heap := hP
  have hl : lv_has ls 2 [(0, .ref qo), (1, .int (iI r))] := hl
  refine lv_iload_n hx hb d_Q_drop_0 rfl (lv_at hl 1 rfl) ?_
  refine li_callrv ((va_runS (As := [.int (iI r)]) (rest := []) ⟨hx, hb, hml, hown, hts⟩ (c_Q_checkRecord l dC dI kA r (by omega)) (cw_Q_120 hts rfl rfl ⟨Nat.le_of_ble_eq_true rfl, Nat.le_of_ble_eq_true rfl⟩) (li_preS va_Pnil hK hN hG.rd) rfl rfl hl.1 rfl (lv_room (Nat.le_of_ble_eq_true rfl)) d_Q_drop_1 ⟨(by show 0 + 0 ≤ 0; omega), (by show 0 + 0 ≤ 0; omega)⟩).run) ?_
  refine lv_aload_n hx hb d_Q_drop_4 rfl (lv_at hl 0 rfl) ?_
  refine gf_Q_18 hx hb hts hown hK hP 0 rfl rfl d_Q_drop_5 ?_
  refine lv_iload_n hx hb d_Q_drop_8 rfl (lv_at hl 1 rfl) ?_
  refine li_ald hx hb hK hP 1 4 rfl rfl (by omega) (by omega) (by omega) d_Q_drop_9 ?_
  refine li_rfN (by exact shO_n hdr) ?_
  refine lv_ifnonnullN hx hb d_Q_drop_10 ?_
  refine lv_iconst (v := iI 0) hx hb d_Q_drop_13 rfl ?_
  exact fin _ _ _ (by rfl) d_Q_drop_14
theorem d_Q_load_0 : decode b_Q_load 0 = .ok (.aload_n 0, 1) := by decide +kernel
theorem d_Q_load_1 : decode b_Q_load 1 = .ok (.getfield 33, 3) := by decide +kernel
theorem d_Q_load_4 : decode b_Q_load 4 = .ok (.aload_n 0, 1) := by decide +kernel
theorem d_Q_load_5 : decode b_Q_load 5 = .ok (.getfield 9, 3) := by decide +kernel
theorem d_Q_load_8 : decode b_Q_load 8 = .ok (.aload_n 0, 1) := by decide +kernel
theorem d_Q_load_9 : decode b_Q_load 9 = .ok (.getfield 81, 3) := by decide +kernel
theorem d_Q_load_12 : decode b_Q_load 12 = .ok (.invokevirtual 95, 3) := by decide +kernel
theorem d_Q_load_15 : decode b_Q_load 15 = .ok (.istore_n 1, 1) := by decide +kernel
theorem d_Q_load_16 : decode b_Q_load 16 = .ok (.iload_n 1, 1) := by decide +kernel
theorem d_Q_load_17 : decode b_Q_load 17 = .ok (.ifCond .eq 16, 3) := by decide +kernel
theorem d_Q_load_20 : decode b_Q_load 20 = .ok (.aload_n 0, 1) := by decide +kernel
theorem d_Q_load_21 : decode b_Q_load 21 = .ok (.aload_n 0, 1) := by decide +kernel
theorem d_Q_load_22 : decode b_Q_load 22 = .ok (.getfield 33, 3) := by decide +kernel
theorem d_Q_load_25 : decode b_Q_load 25 = .ok (.getfield 99, 3) := by decide +kernel
theorem d_Q_load_28 : decode b_Q_load 28 = .ok (.putfield 26, 3) := by decide +kernel
theorem d_Q_load_31 : decode b_Q_load 31 = .ok (.iload_n 1, 1) := by decide +kernel
theorem d_Q_load_32 : decode b_Q_load 32 = .ok (.ireturn, 1) := by decide +kernel
theorem d_Q_load_33 : decode b_Q_load 33 = .ok (.aload_n 0, 1) := by decide +kernel
theorem d_Q_load_34 : decode b_Q_load 34 = .ok (.invokevirtual 100, 3) := by decide +kernel
theorem d_Q_load_37 : decode b_Q_load 37 = .ok (.ifCond .eq 17, 3) := by decide +kernel
theorem d_Q_load_40 : decode b_Q_load 40 = .ok (.aload_n 0, 1) := by decide +kernel
theorem d_Q_load_41 : decode b_Q_load 41 = .ok (.aload_n 0, 1) := by decide +kernel
theorem d_Q_load_42 : decode b_Q_load 42 = .ok (.getfield 33, 3) := by decide +kernel
theorem d_Q_load_45 : decode b_Q_load 45 = .ok (.getfield 104, 3) := by decide +kernel
theorem d_Q_load_48 : decode b_Q_load 48 = .ok (.putfield 26, 3) := by decide +kernel
theorem d_Q_load_51 : decode b_Q_load 51 = .ok (.bipush (-8), 2) := by decide +kernel
theorem d_Q_load_53 : decode b_Q_load 53 = .ok (.ireturn, 1) := by decide +kernel
theorem d_Q_load_54 : decode b_Q_load 54 = .ok (.aload_n 0, 1) := by decide +kernel
theorem d_Q_load_55 : decode b_Q_load 55 = .ok (.invokevirtual 107, 3) := by decide +kernel
theorem d_Q_load_58 : decode b_Q_load 58 = .ok (.istore_n 2, 1) := by decide +kernel
theorem d_Q_load_59 : decode b_Q_load 59 = .ok (.iload_n 2, 1) := by decide +kernel
theorem d_Q_load_60 : decode b_Q_load 60 = .ok (.iconst (-1), 1) := by decide +kernel
theorem d_Q_load_61 : decode b_Q_load 61 = .ok (.if_icmp .ne 11, 3) := by decide +kernel
theorem d_Q_load_64 : decode b_Q_load 64 = .ok (.aload_n 0, 1) := by decide +kernel
theorem d_Q_load_65 : decode b_Q_load 65 = .ok (.iconst 0, 1) := by decide +kernel
theorem d_Q_load_66 : decode b_Q_load 66 = .ok (.putfield 26, 3) := by decide +kernel
theorem d_Q_load_69 : decode b_Q_load 69 = .ok (.bipush (-9), 2) := by decide +kernel
theorem d_Q_load_71 : decode b_Q_load 71 = .ok (.ireturn, 1) := by decide +kernel
theorem d_Q_load_72 : decode b_Q_load 72 = .ok (.aload_n 0, 1) := by decide +kernel
theorem d_Q_load_73 : decode b_Q_load 73 = .ok (.iconst (-1), 1) := by decide +kernel
theorem d_Q_load_74 : decode b_Q_load 74 = .ok (.putfield 26, 3) := by decide +kernel
theorem d_Q_load_77 : decode b_Q_load 77 = .ok (.aload_n 0, 1) := by decide +kernel
theorem d_Q_load_78 : decode b_Q_load 78 = .ok (.getfield 18, 3) := by decide +kernel
theorem d_Q_load_81 : decode b_Q_load 81 = .ok (.iload_n 2, 1) := by decide +kernel
theorem d_Q_load_82 : decode b_Q_load 82 = .ok (.new 16, 3) := by decide +kernel
theorem d_Q_load_85 : decode b_Q_load 85 = .ok (.dup, 1) := by decide +kernel
theorem d_Q_load_86 : decode b_Q_load 86 = .ok (.aload_n 0, 1) := by decide +kernel
theorem d_Q_load_87 : decode b_Q_load 87 = .ok (.getfield 9, 3) := by decide +kernel
theorem d_Q_load_90 : decode b_Q_load 90 = .ok (.aload_n 0, 1) := by decide +kernel
theorem d_Q_load_91 : decode b_Q_load 91 = .ok (.getfield 81, 3) := by decide +kernel
theorem d_Q_load_94 : decode b_Q_load 94 = .ok (.aload_n 0, 1) := by decide +kernel
theorem d_Q_load_95 : decode b_Q_load 95 = .ok (.getfield 33, 3) := by decide +kernel
theorem d_Q_load_98 : decode b_Q_load 98 = .ok (.getfield 111, 3) := by decide +kernel
theorem d_Q_load_101 : decode b_Q_load 101 = .ok (.aload_n 0, 1) := by decide +kernel
theorem d_Q_load_102 : decode b_Q_load 102 = .ok (.getfield 33, 3) := by decide +kernel
theorem d_Q_load_105 : decode b_Q_load 105 = .ok (.getfield 104, 3) := by decide +kernel
theorem d_Q_load_108 : decode b_Q_load 108 = .ok (.invokespecial 114, 3) := by decide +kernel
theorem d_Q_load_111 : decode b_Q_load 111 = .ok (.aastore, 1) := by decide +kernel
theorem d_Q_load_112 : decode b_Q_load 112 = .ok (.aload_n 0, 1) := by decide +kernel
theorem d_Q_load_113 : decode b_Q_load 113 = .ok (.invokevirtual 117, 3) := by decide +kernel
theorem d_Q_load_116 : decode b_Q_load 116 = .ok (.iload_n 2, 1) := by decide +kernel
theorem d_Q_load_117 : decode b_Q_load 117 = .ok (.ireturn, 1) := by decide +kernel
set_option maxHeartbeats 4000000 in
set_option maxRecDepth 100000 in
theorem c_Q_load (l : Launch) (dC : Nat → ClassId) (dI : Nat → Nat → Nat) (kA : Nat → ClassId) (sz : Nat) (qo : Nat) (qa : Nat → Nat) (qbc : Int) (qll : Int) (qfc : Int) (qfp : Int) (ub : Nat → Int) (hd : Nat → Option HD) (iba : Nat) (icn : Int) (ifp : Int) (ien : Int) (ibs : Int) (iie : Int) (ife : Int) (hI : IR 400 ub qbc) (hub : C2 ub) (hHD : ∀ (r : Nat) (d : HD), hd r = some d → HDok d) (hib9 : (inR ub 400 qbc ifp ien ibs iie ife).1 = 0 → 0 ≤ (inR ub 400 qbc ifp ien ibs iie ife).2.2.2.1 ∧ (inR ub 400 qbc ifp ien ibs iie ife).2.2.2.1 ≤ 1000 ∧ 0 ≤ (inR ub 400 qbc ifp ien ibs iie ife).2.2.2.2.1 ∧ (inR ub 400 qbc ifp ien ibs iie ife).2.2.2.2.1 ≤ 1000) (hin9 : -10 ≤ (inR ub 400 qbc ifp ien ibs iie ife).1 ∧ (inR ub 400 qbc ifp ien ibs iie ife).1 ≤ 0) (hcs : (inR ub 400 qbc ifp ien ibs iie ife).1 = 0 → itM hd ub (inR ub 400 qbc ifp ien ibs iie ife).2.2.2.1 (inR ub 400 qbc ifp ien ibs iie ife).2.2.2.2.1 = false → lfM hd = -1) : Met l y_Q_load (wsy y_Q_load b_Q_load 3 (some .int)) (rmd 8 0 0) (li_Pr (dC, dI) CL (TY kA) [.ref qo] (fun h => h.size = sz ∧ va_P (dC, dI) CL [(qo, .inr (0, [.ref (qa 0), .int (iI qbc), .ref (qa 1), .int (iI qll), .ref (qa 2), .ref (qa 3), .int (iI qfc), .int (iI qfp), .ref (qa 4), .ref (qa 5), .ref (qa 6), .ref (qa 7), .ref (qa 8), .ref (qa 9)])), (qa 4, .inr (3, [.ref iba, .int (iI icn), .int (iI ifp), .int (iI ien), .int (iI ibs), .int (iI iie), .int (iI ife)]))] h ∧ va_D (fun q => dI 100 0 ≤ q) [(qo, .inr (0, [.ref (qa 0), .int (iI qbc), .ref (qa 1), .int (iI qll), .ref (qa 2), .ref (qa 3), .int (iI qfc), .int (iI qfp), .ref (qa 4), .ref (qa 5), .ref (qa 6), .ref (qa 7), .ref (qa 8), .ref (qa 9)])), (qa 4, .inr (3, [.ref iba, .int (iI icn), .int (iI ifp), .int (iI ien), .int (iI ibs), .int (iI iie), .int (iI ife)]))] ∧ (fun h => (va_P (dC, dI) CL [(qa 0, .inl (kA 1, 400, .inl (aI ub))), (qa 2, .inl (kA 4, 10, .inr (.inr (.inr (.inr (shO hd))))))] h ∧ Dsj [(qa 0, .inl (kA 1, 400, .inl (aI ub))), (qa 2, .inl (kA 4, 10, .inr (.inr (.inr (.inr (shO hd))))))] [(qo, .inr (0, [.ref (qa 0), .int (iI qbc), .ref (qa 1), .int (iI qll), .ref (qa 2), .ref (qa 3), .int (iI qfc), .int (iI qfp), .ref (qa 4), .ref (qa 5), .ref (qa 6), .ref (qa 7), .ref (qa 8), .ref (qa 9)])), (qa 4, .inr (3, [.ref iba, .int (iI icn), .int (iI ifp), .int (iI ien), .int (iI ibs), .int (iI iie), .int (iI ife)]))]) ∧ ShB (dC, dI) kA hd [(qo, .inr (0, [.ref (qa 0), .int (iI qbc), .ref (qa 1), .int (iI qll), .ref (qa 2), .ref (qa 3), .int (iI qfc), .int (iI qfp), .ref (qa 4), .ref (qa 5), .ref (qa 6), .ref (qa 7), .ref (qa 8), .ref (qa 9)])), (qa 4, .inr (3, [.ref iba, .int (iI icn), .int (iI ifp), .int (iI ien), .int (iI ibs), .int (iI iie), .int (iI ife)]))] h) h)) (li_Qw (S := (Int)) (dC, dI) CL (fun u => u = (ldV hd ub (inR ub 400 qbc ifp ien ibs iie ife)).2) (fun u => some (.int (iI ((ldV hd ub (inR ub 400 qbc ifp ien ibs iie ife)).1)))) (fun u => [(qo, .inr (0, [.ref (qa 0), .int (iI qbc), .ref (qa 1), .int (iI qll), .ref (qa 2), .ref (qa 3), .int (iI qfc), .int (iI u), .ref (qa 4), .ref (qa 5), .ref (qa 6), .ref (qa 7), .ref (qa 8), .ref (qa 9)])), (qa 4, .inr (3, [.ref (qa 0), .int (iI qbc), .int (iI ((inR ub 400 qbc ifp ien ibs iie ife).2.1)), .int (iI ((inR ub 400 qbc ifp ien ibs iie ife).2.2.1)), .int (iI ((inR ub 400 qbc ifp ien ibs iie ife).2.2.2.1)), .int (iI ((inR ub 400 qbc ifp ien ibs iie ife).2.2.2.2.1)), .int (iI ((inR ub 400 qbc ifp ien ibs iie ife).2.2.2.2.2))]))]) (va_A [(qo, .inr (0, [.ref (qa 0), .int (iI qbc), .ref (qa 1), .int (iI qll), .ref (qa 2), .ref (qa 3), .int (iI qfc), .int (iI qfp), .ref (qa 4), .ref (qa 5), .ref (qa 6), .ref (qa 7), .ref (qa 8), .ref (qa 9)])), (qa 4, .inr (3, [.ref iba, .int (iI icn), .int (iI ifp), .int (iI ien), .int (iI ibs), .int (iI iie), .int (iI ife)]))] sz)) 0 0 (va_A [(qo, .inr (0, [.ref (qa 0), .int (iI qbc), .ref (qa 1), .int (iI qll), .ref (qa 2), .ref (qa 3), .int (iI qfc), .int (iI qfp), .ref (qa 4), .ref (qa 5), .ref (qa 6), .ref (qa 7), .ref (qa 8), .ref (qa 9)])), (qa 4, .inr (3, [.ref iba, .int (iI icn), .int (iI ifp), .int (iI ien), .int (iI ibs), .int (iI iie), .int (iI ife)]))] sz) := by
  refine li_mwi (r := fun (u : (Int)) => (ldV hd ub (inR ub 400 qbc ifp ien ibs iie ife)).1) (by decide) (Nat.le_of_ble_eq_true rfl) (fun u _ => by rfl) ?_
  intro p e s m args below meth c Q A C hP hD hBx hK hN hG hA hAi hAN fin ls hl
  obtain ⟨hx, hb, hr, hml, hown, hts, hlocks, hin⟩ := C
  have hown : s.vm.findClass R_Q = some m.cls := hown
  obtain ⟨hBx, hSh⟩ := hBx
  obtain ⟨hRo, hDj⟩ := hBx
  have hRo : va_P (dC, dI) CL [(qa 0, .inl (kA 1, 400, .inl (aI ub))), (qa 2, .inl (kA 4, 10, .inr (.inr (.inr (.inr (shO hd))))))] s.heap := hRo
  have hRoN := li_roN (A := A) hRo hDj hAi
  have hl : lv_has ls 3 [(0, .ref qo)] := hl
  suffices h9 : ∀ (H : Heap) (locs : List Loc), H = s.heap → locs = [] → W p l e (rmd 8 0 0) s m args below meth c H locs 0 0 Q (F0 m 0 ls []) from h9 _ _ rfl rfl
  intro H locs eH eL
  have hP : va_P (dC, dI) CL [(qo, .inr (0, [.ref (qa 0), .int (iI qbc), .ref (qa 1), .int (iI qll), .ref (qa 2), .ref (qa 3), .int (iI qfc), .int (iI qfp), .ref (qa 4), .ref (qa 5), .ref (qa 6), .ref (qa 7), .ref (qa 8), .ref (qa 9)])), (qa 4, .inr (3, [.ref iba, .int (iI icn), .int (iI ifp), .int (iI ien), .int (iI ibs), .int (iI iie), .int (iI ife)]))] H := by rw [eH]; exact hP
  have hS : va_S A s.heap H locs := by rw [eH, eL]; exact va_S.rf
  refine lv_aload_n hx hb d_Q_load_0 rfl (lv_at hl 0 rfl) ?_
  refine gf_Q_33 hx hb hts hown hK hP 0 rfl rfl d_Q_load_1 ?_
  refine lv_aload_n hx hb d_Q_load_4 rfl (lv_at hl 0 rfl) ?_
  refine gf_Q_9 hx hb hts hown hK hP 0 rfl rfl d_Q_load_5 ?_
  refine lv_aload_n hx hb d_Q_load_8 rfl (lv_at hl 0 rfl) ?_
  refine gf_Q_81 hx hb hts hown hK hP 0 rfl rfl d_Q_load_9 ?_
  refine li_callw (wc := [(qa 4, .inr (3, [.ref iba, .int (iI icn), .int (iI ifp), .int (iI ien), .int (iI ibs), .int (iI iie), .int (iI ife)]))]) (wr := [(qo, .inr (0, [.ref (qa 0), .int (iI qbc), .ref (qa 1), .int (iI qll), .ref (qa 2), .ref (qa 3), .int (iI qfc), .int (iI qfp), .ref (qa 4), .ref (qa 5), .ref (qa 6), .ref (qa 7), .ref (qa 8), .ref (qa 9)]))]) (va_runV (As := [.ref (qa 0), .int (iI qbc)]) (rest := []) ⟨hx, hb, hml, hown, hts⟩ (c_I_inspect l dC dI kA H.size (qa 4) (qa 0) 400 ub qbc ifp ien ibs iie ife iba icn (by exact hI)) (cw_Q_95 hts rfl rfl ⟨Nat.le_of_ble_eq_true rfl, Nat.le_of_ble_eq_true rfl⟩) (li_preV (va_recv hK hP (ci := 3) (q0 := 1) rfl rfl) ⟨rfl, hP.sub [1] rfl, (hD.sub [1] (by decide) rfl).weaken (fun _ _ _ h => hAN _ h), ((li_ro hRo hRoN hS).sub [0] rfl), (dj_cons (dj_r (hRoN 0 _ rfl) hD [1] rfl) dj_nil)⟩ hK hN (hG.go hS hAN)) rfl rfl hl.1 rfl (lv_room (Nat.le_of_ble_eq_true rfl)) d_Q_load_12 ⟨(by show 0 + 0 ≤ 0; omega), (by show 0 + 0 ≤ 0; omega)⟩) hP hD hS hA [1] [0] rfl rfl (by decide) (by decide) (fun u1 H locs hu1 hP hD hS _hk => ?_)
  have hP : va_P (dC, dI) CL [(qo, .inr (0, [.ref (qa 0), .int (iI qbc), .ref (qa 1), .int (iI qll), .ref (qa 2), .ref (qa 3), .int (iI qfc), .int (iI qfp), .ref (qa 4), .ref (qa 5), .ref (qa 6), .ref (qa 7), .ref (qa 8), .ref (qa 9)])), ((qa 4), .inr (3, [.ref (qa 0), .int (iI qbc), .int (iI ((inR ub 400 qbc ifp ien ibs iie ife).2.1)), .int (iI ((inR ub 400 qbc ifp ien ibs iie ife).2.2.1)), .int (iI ((inR ub 400 qbc ifp ien ibs iie ife).2.2.2.1)), .int (iI ((inR ub 400 qbc ifp ien ibs iie ife).2.2.2.2.1)), .int (iI ((inR ub 400 qbc ifp ien ibs iie ife).2.2.2.2.2))]))] H := hP
  have hD : va_D A [(qo, .inr (0, [.ref (qa 0), .int (iI qbc), .ref (qa 1), .int (iI qll), .ref (qa 2), .ref (qa 3), .int (iI qfc), .int (iI qfp), .ref (qa 4), .ref (qa 5), .ref (qa 6), .ref (qa 7), .ref (qa 8), .ref (qa 9)])), ((qa 4), .inr (3, [.ref (qa 0), .int (iI qbc), .int (iI ((inR ub 400 qbc ifp ien ibs iie ife).2.1)), .int (iI ((inR ub 400 qbc ifp ien ibs iie ife).2.2.1)), .int (iI ((inR ub 400 qbc ifp ien ibs iie ife).2.2.2.1)), .int (iI ((inR ub 400 qbc ifp ien ibs iie ife).2.2.2.2.1)), .int (iI ((inR ub 400 qbc ifp ien ibs iie ife).2.2.2.2.2))]))] := hD
  refine li_nm (fun fl efl => ?_)
  refine lv_istore_n (lv' := [(1, .int (iI fl)), (0, .ref qo)]) hx hb d_Q_load_15 rfl hl (by decide) rfl (fun ls hl => ?_)
  have hfl : -10 ≤ fl ∧ fl ≤ 0 := by (rw [efl]; exact hin9)
  refine lv_iload_n hx hb d_Q_load_16 rfl (lv_at hl 0 rfl) ?_
  refine li_if_eq (tgt := 33) hx hb d_Q_load_17 (by decide) (by first | omega | (rw [enr]; omega)) (fun c2 => ?_) (fun c2 => ?_)
  · have _q := c2
    have g0 : (inR ub 400 qbc ifp ien ibs iie ife).1 = 0 := by (rw [← efl]; omega)
    have hib := hib9 g0
    refine lv_aload_n hx hb d_Q_load_33 rfl (lv_at hl 1 rfl) ?_
    refine li_callr ((va_runV (As := []) (rest := []) ⟨hx, hb, hml, hown, hts⟩ (c_Q_isTwice l dC dI kA qo qa qbc qll qfc qfp ub hd (qa 0) qbc ((inR ub 400 qbc ifp ien ibs iie ife).2.1) ((inR ub 400 qbc ifp ien ibs iie ife).2.2.1) ((inR ub 400 qbc ifp ien ibs iie ife).2.2.2.1) ((inR ub 400 qbc ifp ien ibs iie ife).2.2.2.2.1) ((inR ub 400 qbc ifp ien ibs iie ife).2.2.2.2.2) (by exact hub) (by exact hHD) (by exact hib)) (cw_Q_100 hts rfl rfl ⟨Nat.le_of_ble_eq_true rfl, Nat.le_of_ble_eq_true rfl⟩) (li_preV (va_recv hK hP (ci := 0) (q0 := 0) rfl rfl) ⟨(va_P.app (hP.sub [0] rfl) (va_P.app ((li_ro hRo hRoN hS).sub [0] rfl) (va_P.app ((li_ro hRo hRoN hS).sub [1] rfl) (hP.sub [1] rfl)))), fun r d h => li_ro (hSh r d h).1 (li_roN (A := A) (hSh r d h).1 (hSh r d h).2 hAi) hS⟩ hK hN (hG.go hS hAN)) rfl rfl hl.1 rfl (lv_room (Nat.le_of_ble_eq_true rfl)) d_Q_load_34 ⟨(by show 0 + 0 ≤ 0; omega), (by show 0 + 0 ≤ 0; omega)⟩).run) ?_
    refine li_bz (tgt := 54) hx hb d_Q_load_37 (by decide) (fun c3 => ?_) (fun c3 => ?_)
    · have _q := c3
      have gt : itM hd ub (inR ub 400 qbc ifp ien ibs iie ife).2.2.2.1 (inR ub 400 qbc ifp ien ibs iie ife).2.2.2.2.1 = false := by assumption
      have gl := hcs g0 gt
      refine lv_aload_n hx hb d_Q_load_54 rfl (lv_at hl 1 rfl) ?_
      refine li_callr ((va_runV (As := []) (rest := []) ⟨hx, hb, hml, hown, hts⟩ (c_Q_leastFreeNumber l dC dI kA qo qa qbc qll qfc qfp hd ) (cw_Q_107 hts rfl rfl ⟨Nat.le_of_ble_eq_true rfl, Nat.le_of_ble_eq_true rfl⟩) (li_preV (va_recv hK hP (ci := 0) (q0 := 0) rfl rfl) ⟨(va_P.app (hP.sub [0] rfl) ((li_ro hRo hRoN hS).sub [1] rfl)), fun r d h => li_ro (hSh r d h).1 (li_roN (A := A) (hSh r d h).1 (hSh r d h).2 hAi) hS⟩ hK hN (hG.go hS hAN)) rfl rfl hl.1 rfl (lv_room (Nat.le_of_ble_eq_true rfl)) d_Q_load_55 ⟨(by show 0 + 0 ≤ 0; omega), (by show 0 + 0 ≤ 0; omega)⟩).run) ?_
      refine li_nm (fun nr enr => ?_)
      refine lv_istore_n (lv' := [(2, .int (iI nr)), (1, .int (iI fl)), (0, .ref qo)]) hx hb d_Q_load_58 rfl hl (by decide) rfl (fun ls hl => ?_)
      refine lv_iload_n hx hb d_Q_load_59 rfl (lv_at hl 0 rfl) ?_
      refine lv_iconst (v := iI (-1)) hx hb d_Q_load_60 rfl ?_
      refine li_icmp_ne (tgt := 72) hx hb d_Q_load_61 (by decide) (by first | omega | (rw [enr]; omega)) (by first | omega | (rw [enr]; omega)) (fun c4 => ?_) (fun c4 => ?_)
      · have _q := c4
        exact absurd c4 (by omega)
      · have _q := c4
        refine lv_aload_n hx hb d_Q_load_64 rfl (lv_at hl 2 rfl) ?_
        refine lv_iconst (v := iI 0) hx hb d_Q_load_65 rfl ?_
        refine pf_Q_26 hx hb hts hown hK hP hD hS 0 rfl (Nat.le_of_ble_eq_true rfl) d_Q_load_66 (fun H locs hP hD hS => ?_)
        have hP : va_P (dC, dI) CL [(qo, .inr (0, [.ref (qa 0), .int (iI qbc), .ref (qa 1), .int (iI qll), .ref (qa 2), .ref (qa 3), .int (iI qfc), .int (iI 0), .ref (qa 4), .ref (qa 5), .ref (qa 6), .ref (qa 7), .ref (qa 8), .ref (qa 9)])), ((qa 4), .inr (3, [.ref (qa 0), .int (iI qbc), .int (iI ((inR ub 400 qbc ifp ien ibs iie ife).2.1)), .int (iI ((inR ub 400 qbc ifp ien ibs iie ife).2.2.1)), .int (iI ((inR ub 400 qbc ifp ien ibs iie ife).2.2.2.1)), .int (iI ((inR ub 400 qbc ifp ien ibs iie ife).2.2.2.2.1)), .int (iI ((inR ub 400 qbc ifp ien ibs iie ife).2.2.2.2.2))]))] H := hP
        have hD : va_D A [(qo, .inr (0, [.ref (qa 0), .int (iI qbc), .ref (qa 1), .int (iI qll), .ref (qa 2), .ref (qa 3), .int (iI qfc), .int (iI 0), .ref (qa 4), .ref (qa 5), .ref (qa 6), .ref (qa 7), .ref (qa 8), .ref (qa 9)])), ((qa 4), .inr (3, [.ref (qa 0), .int (iI qbc), .int (iI ((inR ub 400 qbc ifp ien ibs iie ife).2.1)), .int (iI ((inR ub 400 qbc ifp ien ibs iie ife).2.2.1)), .int (iI ((inR ub 400 qbc ifp ien ibs iie ife).2.2.2.1)), .int (iI ((inR ub 400 qbc ifp ien ibs iie ife).2.2.2.2.1)), .int (iI ((inR ub 400 qbc ifp ien ibs iie ife).2.2.2.2.2))]))] := hD
        refine lv_bipush (v := iI (-9)) hx hb d_Q_load_69 (by decide) ?_
        exact fin (0) _ _ _ _ _ (by first | (rw [ldV_f g0]; exact efl) | (rw [ldV_t g0 gt]; done) | (rw [ldV_n g0 gt]; done)) (by show 0 = (ldV hd ub (inR ub 400 qbc ifp ien ibs iie ife)).2; first | (rw [ldV_f g0]; exact ew_a) | (rw [ldV_t g0 gt]; exact ew_b) | (rw [ldV_n g0 gt]; done)) (by first | exact hP | (subst_vars; exact hP)) (by first | exact hD | (subst_vars; exact hD)) hS d_Q_load_71
    · have _q := c3
      have gt : itM hd ub (inR ub 400 qbc ifp ien ibs iie ife).2.2.2.1 (inR ub 400 qbc ifp ien ibs iie ife).2.2.2.2.1 = true := by assumption
      refine lv_aload_n hx hb d_Q_load_40 rfl (lv_at hl 1 rfl) ?_
      refine lv_aload_n hx hb d_Q_load_41 rfl (lv_at hl 1 rfl) ?_
      refine gf_Q_33 hx hb hts hown hK hP 0 rfl rfl d_Q_load_42 ?_
      refine gf_Q_104 hx hb hts hN hown hK hP 1 rfl rfl d_Q_load_45 ?_
      refine li_nm (fun w_b ew_b => ?_)
      refine pf_Q_26 hx hb hts hown hK hP hD hS 0 rfl (Nat.le_of_ble_eq_true rfl) d_Q_load_48 (fun H locs hP hD hS => ?_)
      have hP : va_P (dC, dI) CL [(qo, .inr (0, [.ref (qa 0), .int (iI qbc), .ref (qa 1), .int (iI qll), .ref (qa 2), .ref (qa 3), .int (iI qfc), .int (iI w_b), .ref (qa 4), .ref (qa 5), .ref (qa 6), .ref (qa 7), .ref (qa 8), .ref (qa 9)])), ((qa 4), .inr (3, [.ref (qa 0), .int (iI qbc), .int (iI ((inR ub 400 qbc ifp ien ibs iie ife).2.1)), .int (iI ((inR ub 400 qbc ifp ien ibs iie ife).2.2.1)), .int (iI ((inR ub 400 qbc ifp ien ibs iie ife).2.2.2.1)), .int (iI ((inR ub 400 qbc ifp ien ibs iie ife).2.2.2.2.1)), .int (iI ((inR ub 400 qbc ifp ien ibs iie ife).2.2.2.2.2))]))] H := hP
      have hD : va_D A [(qo, .inr (0, [.ref (qa 0), .int (iI qbc), .ref (qa 1), .int (iI qll), .ref (qa 2), .ref (qa 3), .int (iI qfc), .int (iI w_b), .ref (qa 4), .ref (qa 5), .ref (qa 6), .ref (qa 7), .ref (qa 8), .ref (qa 9)])), ((qa 4), .inr (3, [.ref (qa 0), .int (iI qbc), .int (iI ((inR ub 400 qbc ifp ien ibs iie ife).2.1)), .int (iI ((inR ub 400 qbc ifp ien ibs iie ife).2.2.1)), .int (iI ((inR ub 400 qbc ifp ien ibs iie ife).2.2.2.1)), .int (iI ((inR ub 400 qbc ifp ien ibs iie ife).2.2.2.2.1)), .int (iI ((inR ub 400 qbc ifp ien ibs iie ife).2.2.2.2.2))]))] := hD
      refine lv_bipush (v := iI (-8)) hx hb d_Q_load_51 (by decide) ?_
      exact fin (w_b) _ _ _ _ _ (by first | (rw [ldV_f g0]; exact efl) | (rw [ldV_t g0 gt]; done) | (rw [ldV_n g0 gt]; done)) (by show w_b = (ldV hd ub (inR ub 400 qbc ifp ien ibs iie ife)).2; first | (rw [ldV_f g0]; exact ew_a) | (rw [ldV_t g0 gt]; exact ew_b) | (rw [ldV_n g0 gt]; done)) (by first | exact hP | (subst_vars; exact hP)) (by first | exact hD | (subst_vars; exact hD)) hS d_Q_load_53
  · have _q := c2
    have g0 : ¬ (inR ub 400 qbc ifp ien ibs iie ife).1 = 0 := by (rw [← efl]; omega)
    refine lv_aload_n hx hb d_Q_load_20 rfl (lv_at hl 1 rfl) ?_
    refine lv_aload_n hx hb d_Q_load_21 rfl (lv_at hl 1 rfl) ?_
    refine gf_Q_33 hx hb hts hown hK hP 0 rfl rfl d_Q_load_22 ?_
    refine gf_Q_99 hx hb hts hN hown hK hP 1 rfl rfl d_Q_load_25 ?_
    refine li_nm (fun w_a ew_a => ?_)
    refine pf_Q_26 hx hb hts hown hK hP hD hS 0 rfl (Nat.le_of_ble_eq_true rfl) d_Q_load_28 (fun H locs hP hD hS => ?_)
    have hP : va_P (dC, dI) CL [(qo, .inr (0, [.ref (qa 0), .int (iI qbc), .ref (qa 1), .int (iI qll), .ref (qa 2), .ref (qa 3), .int (iI qfc), .int (iI w_a), .ref (qa 4), .ref (qa 5), .ref (qa 6), .ref (qa 7), .ref (qa 8), .ref (qa 9)])), ((qa 4), .inr (3, [.ref (qa 0), .int (iI qbc), .int (iI ((inR ub 400 qbc ifp ien ibs iie ife).2.1)), .int (iI ((inR ub 400 qbc ifp ien ibs iie ife).2.2.1)), .int (iI ((inR ub 400 qbc ifp ien ibs iie ife).2.2.2.1)), .int (iI ((inR ub 400 qbc ifp ien ibs iie ife).2.2.2.2.1)), .int (iI ((inR ub 400 qbc ifp ien ibs iie ife).2.2.2.2.2))]))] H := hP
    have hD : va_D A [(qo, .inr (0, [.ref (qa 0), .int (iI qbc), .ref (qa 1), .int (iI qll), .ref (qa 2), .ref (qa 3), .int (iI qfc), .int (iI w_a), .ref (qa 4), .ref (qa 5), .ref (qa 6), .ref (qa 7), .ref (qa 8), .ref (qa 9)])), ((qa 4), .inr (3, [.ref (qa 0), .int (iI qbc), .int (iI ((inR ub 400 qbc ifp ien ibs iie ife).2.1)), .int (iI ((inR ub 400 qbc ifp ien ibs iie ife).2.2.1)), .int (iI ((inR ub 400 qbc ifp ien ibs iie ife).2.2.2.1)), .int (iI ((inR ub 400 qbc ifp ien ibs iie ife).2.2.2.2.1)), .int (iI ((inR ub 400 qbc ifp ien ibs iie ife).2.2.2.2.2))]))] := hD
    refine lv_iload_n hx hb d_Q_load_31 rfl (lv_at hl 0 rfl) ?_
    exact fin (w_a) _ _ _ _ _ (by first | (rw [ldV_f g0]; exact efl) | (rw [ldV_t g0 gt]; done) | (rw [ldV_n g0 gt]; done)) (by show w_a = (ldV hd ub (inR ub 400 qbc ifp ien ibs iie ife)).2; first | (rw [ldV_f g0]; exact ew_a) | (rw [ldV_t g0 gt]; exact ew_b) | (rw [ldV_n g0 gt]; done)) (by first | exact hP | (subst_vars; exact hP)) (by first | exact hD | (subst_vars; exact hD)) hS d_Q_load_32

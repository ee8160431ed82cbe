theorem d_H_init_0 : decode b_H_init 0 = .ok (.aload_n 0, 1) := by decide +kernel
theorem d_H_init_1 : decode b_H_init 1 = .ok (.invokespecial 3, 3) := by decide +kernel
theorem d_H_init_4 : decode b_H_init 4 = .ok (.iconst 0, 1) := by decide +kernel
theorem d_H_init_5 : decode b_H_init 5 = .ok (.iload_n 2, 1) := by decide +kernel
theorem d_H_init_6 : decode b_H_init 6 = .ok (.aload_n 1, 1) := by decide +kernel
theorem d_H_init_7 : decode b_H_init 7 = .ok (.arraylength, 1) := by decide +kernel
theorem d_H_init_8 : decode b_H_init 8 = .ok (.invokestatic 9, 3) := by decide +kernel
theorem d_H_init_11 : decode b_H_init 11 = .ok (.invokestatic 15, 3) := by decide +kernel
theorem d_H_init_14 : decode b_H_init 14 = .ok (.istore 5, 2) := by decide +kernel
theorem d_H_init_16 : decode b_H_init 16 = .ok (.aload_n 0, 1) := by decide +kernel
theorem d_H_init_17 : decode b_H_init 17 = .ok (.iload 5, 2) := by decide +kernel
theorem d_H_init_19 : decode b_H_init 19 = .ok (.newarray .char, 2) := by decide +kernel
theorem d_H_init_21 : decode b_H_init 21 = .ok (.putfield 18, 3) := by decide +kernel
theorem d_H_init_24 : decode b_H_init 24 = .ok (.aload_n 1, 1) := by decide +kernel
theorem d_H_init_25 : decode b_H_init 25 = .ok (.iconst 0, 1) := by decide +kernel
theorem d_H_init_26 : decode b_H_init 26 = .ok (.aload_n 0, 1) := by decide +kernel
theorem d_H_init_27 : decode b_H_init 27 = .ok (.getfield 18, 3) := by decide +kernel
theorem d_H_init_30 : decode b_H_init 30 = .ok (.iconst 0, 1) := by decide +kernel
theorem d_H_init_31 : decode b_H_init 31 = .ok (.iload 5, 2) := by decide +kernel
theorem d_H_init_33 : decode b_H_init 33 = .ok (.invokestatic 24, 3) := by decide +kernel
theorem d_H_init_36 : decode b_H_init 36 = .ok (.aload_n 0, 1) := by decide +kernel
theorem d_H_init_37 : decode b_H_init 37 = .ok (.iload_n 3, 1) := by decide +kernel
theorem d_H_init_38 : decode b_H_init 38 = .ok (.putfield 30, 3) := by decide +kernel
theorem d_H_init_41 : decode b_H_init 41 = .ok (.iconst 1, 1) := by decide +kernel
theorem d_H_init_42 : decode b_H_init 42 = .ok (.aload_n 0, 1) := by decide +kernel
theorem d_H_init_43 : decode b_H_init 43 = .ok (.getfield 18, 3) := by decide +kernel
theorem d_H_init_46 : decode b_H_init 46 = .ok (.invokestatic 34, 3) := by decide +kernel
theorem d_H_init_49 : decode b_H_init 49 = .ok (.iadd, 1) := by decide +kernel
theorem d_H_init_50 : decode b_H_init 50 = .ok (.istore 6, 2) := by decide +kernel
theorem d_H_init_52 : decode b_H_init 52 = .ok (.aload_n 0, 1) := by decide +kernel
theorem d_H_init_53 : decode b_H_init 53 = .ok (.iload 6, 2) := by decide +kernel
theorem d_H_init_55 : decode b_H_init 55 = .ok (.newarray .int, 2) := by decide +kernel
theorem d_H_init_57 : decode b_H_init 57 = .ok (.putfield 38, 3) := by decide +kernel
theorem d_H_init_60 : decode b_H_init 60 = .ok (.aload_n 0, 1) := by decide +kernel
theorem d_H_init_61 : decode b_H_init 61 = .ok (.iload 6, 2) := by decide +kernel
theorem d_H_init_63 : decode b_H_init 63 = .ok (.newarray .int, 2) := by decide +kernel
theorem d_H_init_65 : decode b_H_init 65 = .ok (.putfield 42, 3) := by decide +kernel
theorem d_H_init_68 : decode b_H_init 68 = .ok (.aload_n 0, 1) := by decide +kernel
theorem d_H_init_69 : decode b_H_init 69 = .ok (.iload 6, 2) := by decide +kernel
theorem d_H_init_71 : decode b_H_init 71 = .ok (.newarray .int, 2) := by decide +kernel
theorem d_H_init_73 : decode b_H_init 73 = .ok (.putfield 45, 3) := by decide +kernel
theorem d_H_init_76 : decode b_H_init 76 = .ok (.aload_n 0, 1) := by decide +kernel
theorem d_H_init_77 : decode b_H_init 77 = .ok (.iload 6, 2) := by decide +kernel
theorem d_H_init_79 : decode b_H_init 79 = .ok (.newarray .int, 2) := by decide +kernel
theorem d_H_init_81 : decode b_H_init 81 = .ok (.putfield 48, 3) := by decide +kernel
theorem d_H_init_84 : decode b_H_init 84 = .ok (.aload_n 0, 1) := by decide +kernel
theorem d_H_init_85 : decode b_H_init 85 = .ok (.iload 4, 2) := by decide +kernel
theorem d_H_init_87 : decode b_H_init 87 = .ok (.invokevirtual 51, 3) := by decide +kernel
theorem d_H_init_90 : decode b_H_init 90 = .ok (.return_, 1) := by decide +kernel
set_option maxHeartbeats 4000000 in
set_option maxRecDepth 100000 in
theorem c_H_init (l : Launch) (dC : Nat → ClassId) (dI : Nat → Nat → Nat) (kA : Nat → ClassId) (sz : Nat) (ho : Nat) (ba : Nat) (nb : Nat) (n : Nat) (mx : Nat) (tb : Nat → Int) (t : Nat → Int) (fd : Int) (base : Int) (sf : Int → Int) (hn : n ≤ nb ∧ nb ≤ 400) (htb : ∀ j, 0 ≤ tb j ∧ tb j < 256) (htt : va_cpy tb (fun _ => 0) 0 0 n = t) (hmx : (mx : Int) = 1 + mkL t n 0 0 ∧ mx ≤ 1000) (hR : RecOK t n base fd sf) (hcap : mkC t (n - base.toNat) base.toNat + 1 ≤ mx) : Met l y_H_init (wsy y_H_init b_H_init 7 none) (rmd 4 5 (n + mx + mx + mx + mx)) (li_Pr (dC, dI) CL (TY kA) [.ref ho, .ref ba, .int (iI (n : Int)), .int (iI fd), .int (iI base)] (fun h => h.size = sz ∧ va_P (dC, dI) CL [(ho, .inr (2, [.null, .int (iI 0), .null, .null, .null, .null, .int (iI 0)])), (ba, .inl (kA 1, nb, .inl (aI tb)))] h ∧ va_D (fun q => dI 100 0 ≤ q) [(ho, .inr (2, [.null, .int (iI 0), .null, .null, .null, .null, .int (iI 0)])), (ba, .inl (kA 1, nb, .inl (aI tb)))] ∧ (fun _ => True) h)) (li_Qw (S := Nat × Nat × Nat × Nat × Nat) (dC, dI) CL (fun _ => HRu n mx t (rtL t n sf fd.toNat 0 (fun _ => 0, fun _ => 0, fun _ => 0, fun _ => 0, 0))) (fun _ => none) (fun u => [(ho, .inr (2, [.ref u.1, .int (iI fd), .ref u.2.1, .ref u.2.2.1, .ref u.2.2.2.1, .ref u.2.2.2.2, .int (iI ((rtL t n sf fd.toNat 0 (fun _ => 0, fun _ => 0, fun _ => 0, fun _ => 0, 0)).2.2.2.2))])), (u.1, .inl (kA 1, n, .inl (aI t))), (u.2.1, .inl (kA 0, mx, .inl (aI ((rtL t n sf fd.toNat 0 (fun _ => 0, fun _ => 0, fun _ => 0, fun _ => 0, 0)).1)))), (u.2.2.1, .inl (kA 0, mx, .inl (aI ((rtL t n sf fd.toNat 0 (fun _ => 0, fun _ => 0, fun _ => 0, fun _ => 0, 0)).2.1)))), (u.2.2.2.1, .inl (kA 0, mx, .inl (aI ((rtL t n sf fd.toNat 0 (fun _ => 0, fun _ => 0, fun _ => 0, fun _ => 0, 0)).2.2.1)))), (u.2.2.2.2, .inl (kA 0, mx, .inl (aI ((rtL t n sf fd.toNat 0 (fun _ => 0, fun _ => 0, fun _ => 0, fun _ => 0, 0)).2.2.2.1)))), (ba, .inl (kA 1, nb, .inl (aI tb)))]) (va_A [(ho, .inr (2, [.null, .int (iI 0), .null, .null, .null, .null, .int (iI 0)])), (ba, .inl (kA 1, nb, .inl (aI tb)))] sz)) 5 (n + mx + mx + mx + mx) (va_A [(ho, .inr (2, [.null, .int (iI 0), .null, .null, .null, .null, .int (iI 0)])), (ba, .inl (kA 1, nb, .inl (aI tb)))] sz) := by
  refine li_mwv (by decide) (Nat.le_of_ble_eq_true rfl) ?_
  intro p e s m args below meth c Q A C hP hD hBx hK hN hG hA hAi hAN fin ls hl
  obtain ⟨hx, hb, hr, hml, hown, hts, hlocks, hin⟩ := C
  have hown : s.vm.findClass R_H = some m.cls := hown
  have hl : lv_has ls 7 [(0, .ref ho), (1, .ref ba), (2, .int (iI (n : Int))), (3, .int (iI fd)), (4, .int (iI base))] := hl
  have hin : meth.name = "<init>" := hin
  have ht : ∀ j, 0 ≤ t j ∧ t j < 256 := by intro j; rw [← htt]; unfold va_cpy; split; (exact htb _); (simp)
  have hH0 : HR n mx t (fun _ => 0) (fun _ => 0) (fun _ => 0) (fun _ => 0) 0 := ⟨by omega, by omega, by omega, ht, fun _ => by simp, fun _ => by simp, fun _ => by simp, fun _ => by simp⟩
  suffices h9 : ∀ (H : Heap) (locs : List Loc), H = s.heap → locs = [] → W p l e (rmd 4 5 (n + mx + mx + mx + mx)) s m args below meth c H locs 0 0 Q (F0 m 0 ls []) from h9 _ _ rfl rfl
  intro H locs eH eL
  have hP : va_P (dC, dI) CL [(ho, .inr (2, [.null, .int (iI 0), .null, .null, .null, .null, .int (iI 0)])), (ba, .inl (kA 1, nb, .inl (aI tb)))] H := by rw [eH]; exact hP
  have hS : va_S A s.heap H locs := by rw [eH, eL]; exact va_S.rf
  refine lv_aload_n hx hb d_H_init_0 rfl (lv_at hl 0 rfl) ?_
  refine W.objInit hx hb hown (hts (Cond.methodLink R_H 3 Lib.objectInit) (tk2 221 rfl rfl)) (hts (Cond.instanceMethod Lib.objectInit) (tk1 31 rfl rfl)) (hts (Cond.code Lib.objectInit ⟨#[0xb1]⟩ 1 none) (tk1 32 rfl rfl)) rfl (hl.1.trans hml.symm) rfl d_H_init_1 (Nat.le_of_ble_eq_true rfl) (Nat.le_of_ble_eq_true rfl) ?_
  refine W.eq (g2 := F0 m 4 ls []) rfl ?_
  refine lv_iconst (v := iI 0) hx hb d_H_init_4 rfl ?_
  refine lv_iload_n hx hb d_H_init_5 rfl (lv_at hl 2 rfl) ?_
  refine lv_aload_n hx hb d_H_init_6 rfl (lv_at hl 1 rfl) ?_
  refine li_alen hx hb hK hP 1 1 rfl rfl d_H_init_7 ?_
  refine li_mmin hx hb (hml.trans hl.1.symm) hown (hts (Cond.methodLink R_H 9 Lib.Math.min.name) (tk2 222 rfl rfl)) (hts (Cond.static Lib.Math.min.name) (tk2 85 rfl rfl)) (hts (Cond.initialized "java/lang/Math") (tk1 8 rfl rfl)) (hts (Cond.code Lib.Math.min.name Lib.Math.min.code 2 (some .int)) (tk2 86 rfl rfl)) (Nat.le_of_ble_eq_true rfl) (Nat.le_of_ble_eq_true rfl) (by show 0 ≤ 5; omega) (by show 0 ≤ (n + mx + mx + mx + mx); omega) (by omega) (by omega) d_H_init_8 ?_
  refine li_mmax hx hb (hml.trans hl.1.symm) hown (hts (Cond.methodLink R_H 15 Lib.Math.max.name) (tk2 223 rfl rfl)) (hts (Cond.static Lib.Math.max.name) (tk1 184 rfl rfl)) (hts (Cond.initialized "java/lang/Math") (tk1 8 rfl rfl)) (hts (Cond.code Lib.Math.max.name Lib.Math.max.code 2 (some .int)) (tk1 185 rfl rfl)) (Nat.le_of_ble_eq_true rfl) (Nat.le_of_ble_eq_true rfl) (by show 0 ≤ 5; omega) (by show 0 ≤ (n + mx + mx + mx + mx); omega) (by omega) (by omega) d_H_init_11 ?_
  refine li_nm (fun ln eln => ?_)
  refine lv_istore (lv' := [(5, .int (iI ln)), (0, .ref ho), (1, .ref ba), (2, .int (iI (n : Int))), (3, .int (iI fd)), (4, .int (iI base))]) hx hb d_H_init_14 hl (by decide) rfl (fun ls hl => ?_)
  refine lv_aload_n hx hb d_H_init_16 rfl (lv_at hl 1 rfl) ?_
  refine lv_iload hx hb d_H_init_17 (lv_at hl 0 rfl) ?_
  refine li_newC hx hb (hts (Cond.arrayClass .char) (tk1 67 rfl rfl)) hK hP hD hS hA 1 rfl n (by omega) (by omega) (by show 0 + 1 ≤ 5; omega) (by show 0 + n ≤ (n + mx + mx + mx + mx); omega) d_H_init_19 (fun qo H hP hD hS => ?_)
  have hP : va_P (dC, dI) CL [(ho, .inr (2, [.null, .int (iI 0), .null, .null, .null, .null, .int (iI 0)])), (ba, .inl (kA 1, nb, .inl (aI tb))), (qo, .inl (kA 1, n, .inl (aI (fun _ => 0))))] H := hP
  have hD : va_D A [(ho, .inr (2, [.null, .int (iI 0), .null, .null, .null, .null, .int (iI 0)])), (ba, .inl (kA 1, nb, .inl (aI tb))), (qo, .inl (kA 1, n, .inl (aI (fun _ => 0))))] := hD
  refine pf_H_18 hx hb hts hin hown hK hP hD hS 0 rfl (Nat.le_of_ble_eq_true rfl) d_H_init_21 (fun H locs hP hD hS => ?_)
  have hP : va_P (dC, dI) CL [(ho, .inr (2, [.ref qo, .int (iI 0), .null, .null, .null, .null, .int (iI 0)])), (ba, .inl (kA 1, nb, .inl (aI tb))), (qo, .inl (kA 1, n, .inl (aI (fun _ => 0))))] H := hP
  have hD : va_D A [(ho, .inr (2, [.ref qo, .int (iI 0), .null, .null, .null, .null, .int (iI 0)])), (ba, .inl (kA 1, nb, .inl (aI tb))), (qo, .inl (kA 1, n, .inl (aI (fun _ => 0))))] := hD
  refine lv_aload_n hx hb d_H_init_24 rfl (lv_at hl 2 rfl) ?_
  refine lv_iconst (v := iI 0) hx hb d_H_init_25 rfl ?_
  refine lv_aload_n hx hb d_H_init_26 rfl (lv_at hl 1 rfl) ?_
  refine gf_H_18 hx hb hts hown hK hP 0 rfl rfl d_H_init_27 ?_
  refine lv_iconst (v := iI 0) hx hb d_H_init_30 rfl ?_
  refine lv_iload hx hb d_H_init_31 (lv_at hl 0 rfl) ?_
  refine li_copy hx hb (hml.trans hl.1.symm) hown (hts (Cond.methodLink R_H 24 arraycopyName) (tk2 224 rfl rfl)) (hts (Cond.native arraycopyName) (tk2 226 rfl rfl)) (hts (Cond.static arraycopyName) (tk2 225 rfl rfl)) (hts (Cond.initialized "java/lang/System") (tk1 22 rfl rfl)) hK hP hD hS 1 2 1 rfl rfl rfl rfl (by omega) (by omega) (by omega) (by omega) (by omega) (by omega) (fun i => fitC (htb i).1 (by have := htb i; omega)) (Nat.le_of_ble_eq_true rfl) (Nat.le_of_ble_eq_true rfl) d_H_init_33 (fun H locs hP hD hS => ?_)
  have hP : va_P (dC, dI) CL [(ho, .inr (2, [.ref qo, .int (iI 0), .null, .null, .null, .null, .int (iI 0)])), (ba, .inl (kA 1, nb, .inl (aI tb))), (qo, .inl (kA 1, n, .inl (aI (va_cpy tb (fun _ => 0) (((0) : Int).toNat) (((0) : Int).toNat) ln.toNat))))] H := hP
  have hD : va_D A [(ho, .inr (2, [.ref qo, .int (iI 0), .null, .null, .null, .null, .int (iI 0)])), (ba, .inl (kA 1, nb, .inl (aI tb))), (qo, .inl (kA 1, n, .inl (aI (va_cpy tb (fun _ => 0) (((0) : Int).toNat) (((0) : Int).toNat) ln.toNat))))] := hD
  have e33 : va_cpy tb (fun _ => 0) ((0) : Int).toNat ((0) : Int).toNat ln.toNat = t := by rw [show ln.toNat = n by omega]; exact htt
  rw [e33] at hP hD
  have hP : va_P (dC, dI) CL [(ho, .inr (2, [.ref qo, .int (iI 0), .null, .null, .null, .null, .int (iI 0)])), (ba, .inl (kA 1, nb, .inl (aI tb))), (qo, .inl (kA 1, n, .inl (aI t)))] H := hP
  have hD : va_D A [(ho, .inr (2, [.ref qo, .int (iI 0), .null, .null, .null, .null, .int (iI 0)])), (ba, .inl (kA 1, nb, .inl (aI tb))), (qo, .inl (kA 1, n, .inl (aI t)))] := hD
  refine lv_aload_n hx hb d_H_init_36 rfl (lv_at hl 1 rfl) ?_
  refine lv_iload_n hx hb d_H_init_37 rfl (lv_at hl 4 rfl) ?_
  refine pf_H_30 hx hb hts hin hown hK hP hD hS 0 rfl (Nat.le_of_ble_eq_true rfl) d_H_init_38 (fun H locs hP hD hS => ?_)
  have hP : va_P (dC, dI) CL [(ho, .inr (2, [.ref qo, .int (iI fd), .null, .null, .null, .null, .int (iI 0)])), (ba, .inl (kA 1, nb, .inl (aI tb))), (qo, .inl (kA 1, n, .inl (aI t)))] H := hP
  have hD : va_D A [(ho, .inr (2, [.ref qo, .int (iI fd), .null, .null, .null, .null, .int (iI 0)])), (ba, .inl (kA 1, nb, .inl (aI tb))), (qo, .inl (kA 1, n, .inl (aI t)))] := hD
  refine lv_iconst (v := iI 1) hx hb d_H_init_41 rfl ?_
  refine lv_aload_n hx hb d_H_init_42 rfl (lv_at hl 1 rfl) ?_
  refine gf_H_18 hx hb hts hown hK hP 0 rfl rfl d_H_init_43 ?_
  refine li_callr ((va_runS (As := [.ref qo]) (rest := [.int (iI 1)]) ⟨hx, hb, hml, hown, hts⟩ (c_H_marksIn l dC dI kA qo n t (by omega) (by intro j; have := ht j; omega)) (cw_H_34 hts rfl rfl ⟨Nat.le_of_ble_eq_true rfl, Nat.le_of_ble_eq_true rfl⟩) (li_preS (hP.sub [2] rfl) hK hN (hG.go hS hAN)) rfl rfl hl.1 rfl (lv_room (Nat.le_of_ble_eq_true rfl)) d_H_init_46 ⟨(by show 0 + 1 + 0 ≤ 5; omega), (by show 0 + n + 0 ≤ (n + mx + mx + mx + mx); omega)⟩).run) ?_
  refine li_iadd hx hb d_H_init_49 ?_
  refine li_nm (fun mm emm => ?_)
  refine lv_istore (lv' := [(6, .int (iI mm)), (5, .int (iI ln)), (0, .ref ho), (1, .ref ba), (2, .int (iI (n : Int))), (3, .int (iI fd)), (4, .int (iI base))]) hx hb d_H_init_50 hl (by decide) rfl (fun ls hl => ?_)
  refine lv_aload_n hx hb d_H_init_52 rfl (lv_at hl 2 rfl) ?_
  refine lv_iload hx hb d_H_init_53 (lv_at hl 0 rfl) ?_
  refine li_newI hx hb (hts (Cond.arrayClass .int) (tk1 68 rfl rfl)) hK hP hD hS hA 0 rfl mx (by omega) (by omega) (by show 0 + 1 + 1 ≤ 5; omega) (by show 0 + n + mx ≤ (n + mx + mx + mx + mx); omega) d_H_init_55 (fun qi H hP hD hS => ?_)
  have hP : va_P (dC, dI) CL [(ho, .inr (2, [.ref qo, .int (iI fd), .null, .null, .null, .null, .int (iI 0)])), (ba, .inl (kA 1, nb, .inl (aI tb))), (qo, .inl (kA 1, n, .inl (aI t))), (qi, .inl (kA 0, mx, .inl (aI (fun _ => 0))))] H := hP
  have hD : va_D A [(ho, .inr (2, [.ref qo, .int (iI fd), .null, .null, .null, .null, .int (iI 0)])), (ba, .inl (kA 1, nb, .inl (aI tb))), (qo, .inl (kA 1, n, .inl (aI t))), (qi, .inl (kA 0, mx, .inl (aI (fun _ => 0))))] := hD
  refine pf_H_38 hx hb hts hin hown hK hP hD hS 0 rfl (Nat.le_of_ble_eq_true rfl) d_H_init_57 (fun H locs hP hD hS => ?_)
  have hP : va_P (dC, dI) CL [(ho, .inr (2, [.ref qo, .int (iI fd), .ref qi, .null, .null, .null, .int (iI 0)])), (ba, .inl (kA 1, nb, .inl (aI tb))), (qo, .inl (kA 1, n, .inl (aI t))), (qi, .inl (kA 0, mx, .inl (aI (fun _ => 0))))] H := hP
  have hD : va_D A [(ho, .inr (2, [.ref qo, .int (iI fd), .ref qi, .null, .null, .null, .int (iI 0)])), (ba, .inl (kA 1, nb, .inl (aI tb))), (qo, .inl (kA 1, n, .inl (aI t))), (qi, .inl (kA 0, mx, .inl (aI (fun _ => 0))))] := hD
  refine lv_aload_n hx hb d_H_init_60 rfl (lv_at hl 2 rfl) ?_
  refine lv_iload hx hb d_H_init_61 (lv_at hl 0 rfl) ?_
  refine li_newI hx hb (hts (Cond.arrayClass .int) (tk1 68 rfl rfl)) hK hP hD hS hA 0 rfl mx (by omega) (by omega) (by show 0 + 1 + 1 + 1 ≤ 5; omega) (by show 0 + n + mx + mx ≤ (n + mx + mx + mx + mx); omega) d_H_init_63 (fun qs H hP hD hS => ?_)
  have hP : va_P (dC, dI) CL [(ho, .inr (2, [.ref qo, .int (iI fd), .ref qi, .null, .null, .null, .int (iI 0)])), (ba, .inl (kA 1, nb, .inl (aI tb))), (qo, .inl (kA 1, n, .inl (aI t))), (qi, .inl (kA 0, mx, .inl (aI (fun _ => 0)))), (qs, .inl (kA 0, mx, .inl (aI (fun _ => 0))))] H := hP
  have hD : va_D A [(ho, .inr (2, [.ref qo, .int (iI fd), .ref qi, .null, .null, .null, .int (iI 0)])), (ba, .inl (kA 1, nb, .inl (aI tb))), (qo, .inl (kA 1, n, .inl (aI t))), (qi, .inl (kA 0, mx, .inl (aI (fun _ => 0)))), (qs, .inl (kA 0, mx, .inl (aI (fun _ => 0))))] := hD
  refine pf_H_42 hx hb hts hin hown hK hP hD hS 0 rfl (Nat.le_of_ble_eq_true rfl) d_H_init_65 (fun H locs hP hD hS => ?_)
  have hP : va_P (dC, dI) CL [(ho, .inr (2, [.ref qo, .int (iI fd), .ref qi, .ref qs, .null, .null, .int (iI 0)])), (ba, .inl (kA 1, nb, .inl (aI tb))), (qo, .inl (kA 1, n, .inl (aI t))), (qi, .inl (kA 0, mx, .inl (aI (fun _ => 0)))), (qs, .inl (kA 0, mx, .inl (aI (fun _ => 0))))] H := hP
  have hD : va_D A [(ho, .inr (2, [.ref qo, .int (iI fd), .ref qi, .ref qs, .null, .null, .int (iI 0)])), (ba, .inl (kA 1, nb, .inl (aI tb))), (qo, .inl (kA 1, n, .inl (aI t))), (qi, .inl (kA 0, mx, .inl (aI (fun _ => 0)))), (qs, .inl (kA 0, mx, .inl (aI (fun _ => 0))))] := hD
  refine lv_aload_n hx hb d_H_init_68 rfl (lv_at hl 2 rfl) ?_
  refine lv_iload hx hb d_H_init_69 (lv_at hl 0 rfl) ?_
  refine li_newI hx hb (hts (Cond.arrayClass .int) (tk1 68 rfl rfl)) hK hP hD hS hA 0 rfl mx (by omega) (by omega) (by show 0 + 1 + 1 + 1 + 1 ≤ 5; omega) (by show 0 + n + mx + mx + mx ≤ (n + mx + mx + mx + mx); omega) d_H_init_71 (fun qe H hP hD hS => ?_)
  have hP : va_P (dC, dI) CL [(ho, .inr (2, [.ref qo, .int (iI fd), .ref qi, .ref qs, .null, .null, .int (iI 0)])), (ba, .inl (kA 1, nb, .inl (aI tb))), (qo, .inl (kA 1, n, .inl (aI t))), (qi, .inl (kA 0, mx, .inl (aI (fun _ => 0)))), (qs, .inl (kA 0, mx, .inl (aI (fun _ => 0)))), (qe, .inl (kA 0, mx, .inl (aI (fun _ => 0))))] H := hP
  have hD : va_D A [(ho, .inr (2, [.ref qo, .int (iI fd), .ref qi, .ref qs, .null, .null, .int (iI 0)])), (ba, .inl (kA 1, nb, .inl (aI tb))), (qo, .inl (kA 1, n, .inl (aI t))), (qi, .inl (kA 0, mx, .inl (aI (fun _ => 0)))), (qs, .inl (kA 0, mx, .inl (aI (fun _ => 0)))), (qe, .inl (kA 0, mx, .inl (aI (fun _ => 0))))] := hD
  refine pf_H_45 hx hb hts hin hown hK hP hD hS 0 rfl (Nat.le_of_ble_eq_true rfl) d_H_init_73 (fun H locs hP hD hS => ?_)
  have hP : va_P (dC, dI) CL [(ho, .inr (2, [.ref qo, .int (iI fd), .ref qi, .ref qs, .ref qe, .null, .int (iI 0)])), (ba, .inl (kA 1, nb, .inl (aI tb))), (qo, .inl (kA 1, n, .inl (aI t))), (qi, .inl (kA 0, mx, .inl (aI (fun _ => 0)))), (qs, .inl (kA 0, mx, .inl (aI (fun _ => 0)))), (qe, .inl (kA 0, mx, .inl (aI (fun _ => 0))))] H := hP
  have hD : va_D A [(ho, .inr (2, [.ref qo, .int (iI fd), .ref qi, .ref qs, .ref qe, .null, .int (iI 0)])), (ba, .inl (kA 1, nb, .inl (aI tb))), (qo, .inl (kA 1, n, .inl (aI t))), (qi, .inl (kA 0, mx, .inl (aI (fun _ => 0)))), (qs, .inl (kA 0, mx, .inl (aI (fun _ => 0)))), (qe, .inl (kA 0, mx, .inl (aI (fun _ => 0))))] := hD
  refine lv_aload_n hx hb d_H_init_76 rfl (lv_at hl 2 rfl) ?_
  refine lv_iload hx hb d_H_init_77 (lv_at hl 0 rfl) ?_
  refine li_newI hx hb (hts (Cond.arrayClass .int) (tk1 68 rfl rfl)) hK hP hD hS hA 0 rfl mx (by omega) (by omega) (by show 0 + 1 + 1 + 1 + 1 + 1 ≤ 5; omega) (by show 0 + n + mx + mx + mx + mx ≤ (n + mx + mx + mx + mx); omega) d_H_init_79 (fun ql H hP hD hS => ?_)
  have hP : va_P (dC, dI) CL [(ho, .inr (2, [.ref qo, .int (iI fd), .ref qi, .ref qs, .ref qe, .null, .int (iI 0)])), (ba, .inl (kA 1, nb, .inl (aI tb))), (qo, .inl (kA 1, n, .inl (aI t))), (qi, .inl (kA 0, mx, .inl (aI (fun _ => 0)))), (qs, .inl (kA 0, mx, .inl (aI (fun _ => 0)))), (qe, .inl (kA 0, mx, .inl (aI (fun _ => 0)))), (ql, .inl (kA 0, mx, .inl (aI (fun _ => 0))))] H := hP
  have hD : va_D A [(ho, .inr (2, [.ref qo, .int (iI fd), .ref qi, .ref qs, .ref qe, .null, .int (iI 0)])), (ba, .inl (kA 1, nb, .inl (aI tb))), (qo, .inl (kA 1, n, .inl (aI t))), (qi, .inl (kA 0, mx, .inl (aI (fun _ => 0)))), (qs, .inl (kA 0, mx, .inl (aI (fun _ => 0)))), (qe, .inl (kA 0, mx, .inl (aI (fun _ => 0)))), (ql, .inl (kA 0, mx, .inl (aI (fun _ => 0))))] := hD
  refine pf_H_48 hx hb hts hin hown hK hP hD hS 0 rfl (Nat.le_of_ble_eq_true rfl) d_H_init_81 (fun H locs hP hD hS => ?_)
  have hP : va_P (dC, dI) CL [(ho, .inr (2, [.ref qo, .int (iI fd), .ref qi, .ref qs, .ref qe, .ref ql, .int (iI 0)])), (ba, .inl (kA 1, nb, .inl (aI tb))), (qo, .inl (kA 1, n, .inl (aI t))), (qi, .inl (kA 0, mx, .inl (aI (fun _ => 0)))), (qs, .inl (kA 0, mx, .inl (aI (fun _ => 0)))), (qe, .inl (kA 0, mx, .inl (aI (fun _ => 0)))), (ql, .inl (kA 0, mx, .inl (aI (fun _ => 0))))] H := hP
  have hD : va_D A [(ho, .inr (2, [.ref qo, .int (iI fd), .ref qi, .ref qs, .ref qe, .ref ql, .int (iI 0)])), (ba, .inl (kA 1, nb, .inl (aI tb))), (qo, .inl (kA 1, n, .inl (aI t))), (qi, .inl (kA 0, mx, .inl (aI (fun _ => 0)))), (qs, .inl (kA 0, mx, .inl (aI (fun _ => 0)))), (qe, .inl (kA 0, mx, .inl (aI (fun _ => 0)))), (ql, .inl (kA 0, mx, .inl (aI (fun _ => 0))))] := hD
  refine lv_aload_n hx hb d_H_init_84 rfl (lv_at hl 2 rfl) ?_
  refine lv_iload hx hb d_H_init_85 (lv_at hl 6 rfl) ?_
  refine li_callw (wc := [(ho, .inr (2, [.ref qo, .int (iI fd), .ref qi, .ref qs, .ref qe, .ref ql, .int (iI 0)])), (qo, .inl (kA 1, n, .inl (aI t))), (qi, .inl (kA 0, mx, .inl (aI (fun _ => 0)))), (qs, .inl (kA 0, mx, .inl (aI (fun _ => 0)))), (qe, .inl (kA 0, mx, .inl (aI (fun _ => 0)))), (ql, .inl (kA 0, mx, .inl (aI (fun _ => 0))))]) (wr := [(ba, .inl (kA 1, nb, .inl (aI tb)))]) (va_runV (As := [.int (iI base)]) (rest := []) ⟨hx, hb, hml, hown, hts⟩ (c_H_readTexts l dC dI kA H.size ho qo qi qs qe ql n mx fd 0 t (fun _ => 0) (fun _ => 0) (fun _ => 0) (fun _ => 0) base sf (by exact hH0) (by exact hR) (by omega)) (cw_H_51 hts rfl rfl ⟨Nat.le_of_ble_eq_true rfl, Nat.le_of_ble_eq_true rfl⟩) (li_preV (va_recv hK hP (ci := 2) (q0 := 0) rfl rfl) ⟨rfl, hP.sub [0, 2, 3, 4, 5, 6] rfl, (hD.sub [0, 2, 3, 4, 5, 6] (by decide) rfl).weaken (fun _ _ _ h => hAN _ h), trivial⟩ hK hN (hG.go hS hAN)) rfl rfl hl.1 rfl (lv_room (Nat.le_of_ble_eq_true rfl)) d_H_init_87 ⟨(by show 0 + 1 + 1 + 1 + 1 + 1 + 0 ≤ 5; omega), (by show 0 + n + mx + mx + mx + mx + 0 ≤ (n + mx + mx + mx + mx); omega)⟩) hP hD hS hA [0, 2, 3, 4, 5, 6] [1] rfl rfl (by decide) (by decide) (fun u1 H locs hu1 hP hD hS _hk => ?_)
  have hP : va_P (dC, dI) CL [(ba, .inl (kA 1, nb, .inl (aI tb))), (ho, .inr (2, [.ref qo, .int (iI fd), .ref qi, .ref qs, .ref qe, .ref ql, .int (iI ((rtL t n sf fd.toNat 0 ((fun _ => 0), (fun _ => 0), (fun _ => 0), (fun _ => 0), 0)).2.2.2.2))])), (qo, .inl (kA 1, n, .inl (aI t))), (qi, .inl (kA 0, mx, .inl (aI ((rtL t n sf fd.toNat 0 ((fun _ => 0), (fun _ => 0), (fun _ => 0), (fun _ => 0), 0)).1)))), (qs, .inl (kA 0, mx, .inl (aI ((rtL t n sf fd.toNat 0 ((fun _ => 0), (fun _ => 0), (fun _ => 0), (fun _ => 0), 0)).2.1)))), (qe, .inl (kA 0, mx, .inl (aI ((rtL t n sf fd.toNat 0 ((fun _ => 0), (fun _ => 0), (fun _ => 0), (fun _ => 0), 0)).2.2.1)))), (ql, .inl (kA 0, mx, .inl (aI ((rtL t n sf fd.toNat 0 ((fun _ => 0), (fun _ => 0), (fun _ => 0), (fun _ => 0), 0)).2.2.2.1))))] H := hP
  have hD : va_D A [(ba, .inl (kA 1, nb, .inl (aI tb))), (ho, .inr (2, [.ref qo, .int (iI fd), .ref qi, .ref qs, .ref qe, .ref ql, .int (iI ((rtL t n sf fd.toNat 0 ((fun _ => 0), (fun _ => 0), (fun _ => 0), (fun _ => 0), 0)).2.2.2.2))])), (qo, .inl (kA 1, n, .inl (aI t))), (qi, .inl (kA 0, mx, .inl (aI ((rtL t n sf fd.toNat 0 ((fun _ => 0), (fun _ => 0), (fun _ => 0), (fun _ => 0), 0)).1)))), (qs, .inl (kA 0, mx, .inl (aI ((rtL t n sf fd.toNat 0 ((fun _ => 0), (fun _ => 0), (fun _ => 0), (fun _ => 0), 0)).2.1)))), (qe, .inl (kA 0, mx, .inl (aI ((rtL t n sf fd.toNat 0 ((fun _ => 0), (fun _ => 0), (fun _ => 0), (fun _ => 0), 0)).2.2.1)))), (ql, .inl (kA 0, mx, .inl (aI ((rtL t n sf fd.toNat 0 ((fun _ => 0), (fun _ => 0), (fun _ => 0), (fun _ => 0), 0)).2.2.2.1))))] := hD
  have hpo := hu1
  refine W.widen (k := 5) (n := (n + mx + mx + mx + mx)) (by omega) (by omega) ?_
  exact fin (qo, qi, qs, qe, ql) _ _ _ _ (by exact hpo) (by first | exact hP.sub [1, 2, 3, 4, 5, 6, 0] rfl | (subst_vars; exact hP.sub [1, 2, 3, 4, 5, 6, 0] rfl)) (by first | exact hD.sub [1, 2, 3, 4, 5, 6, 0] (by decide) rfl | (subst_vars; exact hD.sub [1, 2, 3, 4, 5, 6, 0] (by decide) rfl)) hS d_H_init_90

theorem d_M_isThere_0 : decode b_M_isThere 0 = .ok (.iconst 0, 1) := by decide +kernel
theorem d_M_isThere_1 : decode b_M_isThere 1 = .ok (.istore_n 2, 1) := by decide +kernel
theorem d_M_isThere_2 : decode b_M_isThere 2 = .ok (.iload_n 2, 1) := by decide +kernel
theorem d_M_isThere_3 : decode b_M_isThere 3 = .ok (.aload_n 0, 1) := by decide +kernel
theorem d_M_isThere_4 : decode b_M_isThere 4 = .ok (.getfield 113, 3) := by decide +kernel
theorem d_M_isThere_7 : decode b_M_isThere 7 = .ok (.if_icmp .ge 74, 3) := by decide +kernel
theorem d_M_isThere_10 : decode b_M_isThere 10 = .ok (.aload_n 0, 1) := by decide +kernel
theorem d_M_isThere_11 : decode b_M_isThere 11 = .ok (.aload_n 0, 1) := by decide +kernel
theorem d_M_isThere_12 : decode b_M_isThere 12 = .ok (.getfield 26, 3) := by decide +kernel
theorem d_M_isThere_15 : decode b_M_isThere 15 = .ok (.iload_n 2, 1) := by decide +kernel
theorem d_M_isThere_16 : decode b_M_isThere 16 = .ok (.iaload, 1) := by decide +kernel
theorem d_M_isThere_17 : decode b_M_isThere 17 = .ok (.aload_n 0, 1) := by decide +kernel
theorem d_M_isThere_18 : decode b_M_isThere 18 = .ok (.getfield 29, 3) := by decide +kernel
theorem d_M_isThere_21 : decode b_M_isThere 21 = .ok (.iload_n 2, 1) := by decide +kernel
theorem d_M_isThere_22 : decode b_M_isThere 22 = .ok (.iaload, 1) := by decide +kernel
theorem d_M_isThere_23 : decode b_M_isThere 23 = .ok (.invokevirtual 159, 3) := by decide +kernel
theorem d_M_isThere_26 : decode b_M_isThere 26 = .ok (.iconst 0, 1) := by decide +kernel
theorem d_M_isThere_27 : decode b_M_isThere 27 = .ok (.istore_n 3, 1) := by decide +kernel
theorem d_M_isThere_28 : decode b_M_isThere 28 = .ok (.iload_n 3, 1) := by decide +kernel
theorem d_M_isThere_29 : decode b_M_isThere 29 = .ok (.aload_n 0, 1) := by decide +kernel
theorem d_M_isThere_30 : decode b_M_isThere 30 = .ok (.getfield 142, 3) := by decide +kernel
theorem d_M_isThere_33 : decode b_M_isThere 33 = .ok (.if_icmp .ge 42, 3) := by decide +kernel
theorem d_M_isThere_36 : decode b_M_isThere 36 = .ok (.aload_n 0, 1) := by decide +kernel
theorem d_M_isThere_37 : decode b_M_isThere 37 = .ok (.aload_n 0, 1) := by decide +kernel
theorem d_M_isThere_38 : decode b_M_isThere 38 = .ok (.getfield 38, 3) := by decide +kernel
theorem d_M_isThere_41 : decode b_M_isThere 41 = .ok (.iload_n 1, 1) := by decide +kernel
theorem d_M_isThere_42 : decode b_M_isThere 42 = .ok (.iaload, 1) := by decide +kernel
theorem d_M_isThere_43 : decode b_M_isThere 43 = .ok (.aload_n 0, 1) := by decide +kernel
theorem d_M_isThere_44 : decode b_M_isThere 44 = .ok (.getfield 41, 3) := by decide +kernel
theorem d_M_isThere_47 : decode b_M_isThere 47 = .ok (.iload_n 1, 1) := by decide +kernel
theorem d_M_isThere_48 : decode b_M_isThere 48 = .ok (.iaload, 1) := by decide +kernel
theorem d_M_isThere_49 : decode b_M_isThere 49 = .ok (.aload_n 0, 1) := by decide +kernel
theorem d_M_isThere_50 : decode b_M_isThere 50 = .ok (.getfield 32, 3) := by decide +kernel
theorem d_M_isThere_53 : decode b_M_isThere 53 = .ok (.iload_n 3, 1) := by decide +kernel
theorem d_M_isThere_54 : decode b_M_isThere 54 = .ok (.iaload, 1) := by decide +kernel
theorem d_M_isThere_55 : decode b_M_isThere 55 = .ok (.aload_n 0, 1) := by decide +kernel
theorem d_M_isThere_56 : decode b_M_isThere 56 = .ok (.getfield 35, 3) := by decide +kernel
theorem d_M_isThere_59 : decode b_M_isThere 59 = .ok (.iload_n 3, 1) := by decide +kernel
theorem d_M_isThere_60 : decode b_M_isThere 60 = .ok (.iaload, 1) := by decide +kernel
theorem d_M_isThere_61 : decode b_M_isThere 61 = .ok (.invokevirtual 155, 3) := by decide +kernel
theorem d_M_isThere_64 : decode b_M_isThere 64 = .ok (.ifCond .eq 5, 3) := by decide +kernel
theorem d_M_isThere_67 : decode b_M_isThere 67 = .ok (.iconst 1, 1) := by decide +kernel
theorem d_M_isThere_68 : decode b_M_isThere 68 = .ok (.ireturn, 1) := by decide +kernel
theorem d_M_isThere_69 : decode b_M_isThere 69 = .ok (.iinc 3 1, 3) := by decide +kernel
theorem d_M_isThere_72 : decode b_M_isThere 72 = .ok (.goto (-44), 3) := by decide +kernel
theorem d_M_isThere_75 : decode b_M_isThere 75 = .ok (.iinc 2 1, 3) := by decide +kernel
theorem d_M_isThere_78 : decode b_M_isThere 78 = .ok (.goto (-76), 3) := by decide +kernel
theorem d_M_isThere_81 : decode b_M_isThere 81 = .ok (.iconst 0, 1) := by decide +kernel
theorem d_M_isThere_82 : decode b_M_isThere 82 = .ok (.ireturn, 1) := by decide +kernel
set_option maxHeartbeats 4000000 in
set_option maxRecDepth 100000 in
theorem c_M_isThere (l : Launch) (dC : Nat → ClassId) (dI : Nat → Nat → Nat) (kA : Nat → ClassId) (sz : Nat) (mo : Nat) (ma : Nat → Nat) (mrf : Int) (mz : Int) (mls : Int) (mfp : Int) (mfm : Int) (mtx : Int) (mwd : Int) (mak : Int) (mli : Int) (mlx : Int) (mat : Int) (mtk : Int) (mtf : Int) (mtt : Int) (mfa : Int) (mla : Int) (mlp : Int) (mdp : Int) (msi : Int) (mpf : Int) (mpt : Int) (mdn : Bool) (ca : Nat → Int) (ctf : Nat → Int) (ctt : Nat → Int) (cwf : Nat → Int) (cwt : Nat → Int) (caf : Nat → Int) (cat : Nat → Int) (k : Int) (ts : List (Int × Int)) (as : List (Int × Int)) (lo : Int) (hi : Int) (hca : C2 ca) (hHt : HL ts mtx ctf ctt) (hLt : LB ts lo hi) (hlh : 0 ≤ lo ∧ hi ≤ 4120 ∧ hi ≤ lo + 400) (hHa : HL as mak caf cat) (hLa : LB as 4000 4100) (hbn : mtx ≤ 400 ∧ mak ≤ 110) (hk0 : 0 ≤ k ∧ k < mak) : Met l y_M_isThere (wsy y_M_isThere b_M_isThere 4 (some .boolean)) (rmd 4 0 0) (li_Pr (dC, dI) CL (TY kA) [.ref mo, .int (iI k)] (fun h => h.size = sz ∧ va_P (dC, dI) CL [(mo, .inr (10, [.int (iI mrf), .ref (ma 0), .int (iI mz), .ref (ma 1), .ref (ma 2), .int (iI mls), .int (iI mfp), .int (iI mfm), .ref (ma 3), .int (iI mtx), .ref (ma 4), .ref (ma 5), .int (iI mwd), .ref (ma 6), .ref (ma 7), .int (iI mak), .ref (ma 8), .ref (ma 9), .int (iI mli), .int (iI mlx), .ref (ma 10), .ref (ma 11), .int (iI mat), .int (iI mtk), .int (iI mtf), .int (iI mtt), .int (iI mfa), .int (iI mla), .int (iI mlp), .int (iI mdp), .ref (ma 12), .ref (ma 13), .int (iI msi), .int (iI (bI mdn)), .int (iI mpf), .int (iI mpt)])), (ma 1, .inl (kA 0, 4120, .inl (aI ca))), (ma 4, .inl (kA 0, 400, .inl (aI ctf))), (ma 5, .inl (kA 0, 400, .inl (aI ctt))), (ma 6, .inl (kA 0, 400, .inl (aI cwf))), (ma 7, .inl (kA 0, 400, .inl (aI cwt))), (ma 8, .inl (kA 0, 110, .inl (aI caf))), (ma 9, .inl (kA 0, 110, .inl (aI cat)))] h ∧ va_D (fun q => dI 100 0 ≤ q) [(mo, .inr (10, [.int (iI mrf), .ref (ma 0), .int (iI mz), .ref (ma 1), .ref (ma 2), .int (iI mls), .int (iI mfp), .int (iI mfm), .ref (ma 3), .int (iI mtx), .ref (ma 4), .ref (ma 5), .int (iI mwd), .ref (ma 6), .ref (ma 7), .int (iI mak), .ref (ma 8), .ref (ma 9), .int (iI mli), .int (iI mlx), .ref (ma 10), .ref (ma 11), .int (iI mat), .int (iI mtk), .int (iI mtf), .int (iI mtt), .int (iI mfa), .int (iI mla), .int (iI mlp), .int (iI mdp), .ref (ma 12), .ref (ma 13), .int (iI msi), .int (iI (bI mdn)), .int (iI mpf), .int (iI mpt)])), (ma 1, .inl (kA 0, 4120, .inl (aI ca))), (ma 4, .inl (kA 0, 400, .inl (aI ctf))), (ma 5, .inl (kA 0, 400, .inl (aI ctt))), (ma 6, .inl (kA 0, 400, .inl (aI cwf))), (ma 7, .inl (kA 0, 400, .inl (aI cwt))), (ma 8, .inl (kA 0, 110, .inl (aI caf))), (ma 9, .inl (kA 0, 110, .inl (aI cat)))] ∧ (fun _ => True) h)) (li_Qw (S := (Int) × (Nat → Int) × (Nat → Int)) (dC, dI) CL (fun _ => True) (fun u => some (.int (iI (bI (thM ca ts (caf k.toNat, cat k.toNat)))))) (fun u => [(mo, .inr (10, [.int (iI mrf), .ref (ma 0), .int (iI mz), .ref (ma 1), .ref (ma 2), .int (iI mls), .int (iI mfp), .int (iI mfm), .ref (ma 3), .int (iI mtx), .ref (ma 4), .ref (ma 5), .int (iI u.1), .ref (ma 6), .ref (ma 7), .int (iI mak), .ref (ma 8), .ref (ma 9), .int (iI mli), .int (iI mlx), .ref (ma 10), .ref (ma 11), .int (iI mat), .int (iI mtk), .int (iI mtf), .int (iI mtt), .int (iI mfa), .int (iI mla), .int (iI mlp), .int (iI mdp), .ref (ma 12), .ref (ma 13), .int (iI msi), .int (iI (bI mdn)), .int (iI mpf), .int (iI mpt)])), (ma 1, .inl (kA 0, 4120, .inl (aI ca))), (ma 4, .inl (kA 0, 400, .inl (aI ctf))), (ma 5, .inl (kA 0, 400, .inl (aI ctt))), (ma 6, .inl (kA 0, 400, .inl (aI u.2.1))), (ma 7, .inl (kA 0, 400, .inl (aI u.2.2))), (ma 8, .inl (kA 0, 110, .inl (aI caf))), (ma 9, .inl (kA 0, 110, .inl (aI cat)))]) (va_A [(mo, .inr (10, [.int (iI mrf), .ref (ma 0), .int (iI mz), .ref (ma 1), .ref (ma 2), .int (iI mls), .int (iI mfp), .int (iI mfm), .ref (ma 3), .int (iI mtx), .ref (ma 4), .ref (ma 5), .int (iI mwd), .ref (ma 6), .ref (ma 7), .int (iI mak), .ref (ma 8), .ref (ma 9), .int (iI mli), .int (iI mlx), .ref (ma 10), .ref (ma 11), .int (iI mat), .int (iI mtk), .int (iI mtf), .int (iI mtt), .int (iI mfa), .int (iI mla), .int (iI mlp), .int (iI mdp), .ref (ma 12), .ref (ma 13), .int (iI msi), .int (iI (bI mdn)), .int (iI mpf), .int (iI mpt)])), (ma 1, .inl (kA 0, 4120, .inl (aI ca))), (ma 4, .inl (kA 0, 400, .inl (aI ctf))), (ma 5, .inl (kA 0, 400, .inl (aI ctt))), (ma 6, .inl (kA 0, 400, .inl (aI cwf))), (ma 7, .inl (kA 0, 400, .inl (aI cwt))), (ma 8, .inl (kA 0, 110, .inl (aI caf))), (ma 9, .inl (kA 0, 110, .inl (aI cat)))] sz)) 0 0 (va_A [(mo, .inr (10, [.int (iI mrf), .ref (ma 0), .int (iI mz), .ref (ma 1), .ref (ma 2), .int (iI mls), .int (iI mfp), .int (iI mfm), .ref (ma 3), .int (iI mtx), .ref (ma 4), .ref (ma 5), .int (iI mwd), .ref (ma 6), .ref (ma 7), .int (iI mak), .ref (ma 8), .ref (ma 9), .int (iI mli), .int (iI mlx), .ref (ma 10), .ref (ma 11), .int (iI mat), .int (iI mtk), .int (iI mtf), .int (iI mtt), .int (iI mfa), .int (iI mla), .int (iI mlp), .int (iI mdp), .ref (ma 12), .ref (ma 13), .int (iI msi), .int (iI (bI mdn)), .int (iI mpf), .int (iI mpt)])), (ma 1, .inl (kA 0, 4120, .inl (aI ca))), (ma 4, .inl (kA 0, 400, .inl (aI ctf))), (ma 5, .inl (kA 0, 400, .inl (aI ctt))), (ma 6, .inl (kA 0, 400, .inl (aI cwf))), (ma 7, .inl (kA 0, 400, .inl (aI cwt))), (ma 8, .inl (kA 0, 110, .inl (aI caf))), (ma 9, .inl (kA 0, 110, .inl (aI cat)))] sz) := by
  refine li_mwi (r := fun u => bI (thM ca ts (caf k.toNat, cat k.toNat))) (by decide) (Nat.le_of_ble_eq_true rfl) (fun u _ => by exact li_narZ2 _) ?_
  intro p e s m args below meth c Q A C hP hD hBx hK hN hG hA hAi hAN fin ls hl
  obtain ⟨hx, hb, hr, hml, hown, hts, hlocks, hin⟩ := C
  have hown : s.vm.findClass R_M = some m.cls := hown
  have hl : lv_has ls 4 [(0, .ref mo), (1, .int (iI k))] := hl
  have hnt := hHt.nn
  have hna := hHa.nn
  have hma := hLa _ (hHa.mem (k := k) (by omega) (by omega))
  simp only at hma
  suffices h9 : ∀ (H : Heap) (locs : List Loc), H = s.heap → locs = [] → W p l e (rmd 4 0 0) s m args below meth c H locs 0 0 Q (F0 m 0 ls []) from h9 _ _ rfl rfl
  intro H locs eH eL
  have hP : va_P (dC, dI) CL [(mo, .inr (10, [.int (iI mrf), .ref (ma 0), .int (iI mz), .ref (ma 1), .ref (ma 2), .int (iI mls), .int (iI mfp), .int (iI mfm), .ref (ma 3), .int (iI mtx), .ref (ma 4), .ref (ma 5), .int (iI mwd), .ref (ma 6), .ref (ma 7), .int (iI mak), .ref (ma 8), .ref (ma 9), .int (iI mli), .int (iI mlx), .ref (ma 10), .ref (ma 11), .int (iI mat), .int (iI mtk), .int (iI mtf), .int (iI mtt), .int (iI mfa), .int (iI mla), .int (iI mlp), .int (iI mdp), .ref (ma 12), .ref (ma 13), .int (iI msi), .int (iI (bI mdn)), .int (iI mpf), .int (iI mpt)])), (ma 1, .inl (kA 0, 4120, .inl (aI ca))), (ma 4, .inl (kA 0, 400, .inl (aI ctf))), (ma 5, .inl (kA 0, 400, .inl (aI ctt))), (ma 6, .inl (kA 0, 400, .inl (aI cwf))), (ma 7, .inl (kA 0, 400, .inl (aI cwt))), (ma 8, .inl (kA 0, 110, .inl (aI caf))), (ma 9, .inl (kA 0, 110, .inl (aI cat)))] H := by rw [eH]; exact hP
  have hS : va_S A s.heap H locs := by rw [eH, eL]; exact va_S.rf
  refine lv_iconst (v := iI 0) hx hb d_M_isThere_0 rfl ?_
  refine lv_istore_n (lv' := [(2, .int (iI 0)), (0, .ref mo), (1, .int (iI k))]) hx hb d_M_isThere_1 rfl hl (by decide) rfl (fun ls hl => ?_)
  have K_2 : ∀ (nn_2 : Nat) (t9 : Int) (vn : Int) (vf : Nat → Int) (vt : Nat → Int), (0 ≤ t9 ∧ t9 ≤ mtx) → ((ts.drop t9.toNat).any (thT ca (caf k.toNat, cat k.toNat)) = thM ca ts (caf k.toNat, cat k.toNat)) → ((mtx - t9).toNat < nn_2) → ∀ (H : Heap) (locs : List Loc), va_P (dC, dI) CL [(mo, .inr (10, [.int (iI mrf), .ref (ma 0), .int (iI mz), .ref (ma 1), .ref (ma 2), .int (iI mls), .int (iI mfp), .int (iI mfm), .ref (ma 3), .int (iI mtx), .ref (ma 4), .ref (ma 5), .int (iI vn), .ref (ma 6), .ref (ma 7), .int (iI mak), .ref (ma 8), .ref (ma 9), .int (iI mli), .int (iI mlx), .ref (ma 10), .ref (ma 11), .int (iI mat), .int (iI mtk), .int (iI mtf), .int (iI mtt), .int (iI mfa), .int (iI mla), .int (iI mlp), .int (iI mdp), .ref (ma 12), .ref (ma 13), .int (iI msi), .int (iI (bI mdn)), .int (iI mpf), .int (iI mpt)])), (ma 1, .inl (kA 0, 4120, .inl (aI ca))), (ma 4, .inl (kA 0, 400, .inl (aI ctf))), (ma 5, .inl (kA 0, 400, .inl (aI ctt))), (ma 6, .inl (kA 0, 400, .inl (aI vf))), (ma 7, .inl (kA 0, 400, .inl (aI vt))), (ma 8, .inl (kA 0, 110, .inl (aI caf))), (ma 9, .inl (kA 0, 110, .inl (aI cat)))] H → va_D A [(mo, .inr (10, [.int (iI mrf), .ref (ma 0), .int (iI mz), .ref (ma 1), .ref (ma 2), .int (iI mls), .int (iI mfp), .int (iI mfm), .ref (ma 3), .int (iI mtx), .ref (ma 4), .ref (ma 5), .int (iI vn), .ref (ma 6), .ref (ma 7), .int (iI mak), .ref (ma 8), .ref (ma 9), .int (iI mli), .int (iI mlx), .ref (ma 10), .ref (ma 11), .int (iI mat), .int (iI mtk), .int (iI mtf), .int (iI mtt), .int (iI mfa), .int (iI mla), .int (iI mlp), .int (iI mdp), .ref (ma 12), .ref (ma 13), .int (iI msi), .int (iI (bI mdn)), .int (iI mpf), .int (iI mpt)])), (ma 1, .inl (kA 0, 4120, .inl (aI ca))), (ma 4, .inl (kA 0, 400, .inl (aI ctf))), (ma 5, .inl (kA 0, 400, .inl (aI ctt))), (ma 6, .inl (kA 0, 400, .inl (aI vf))), (ma 7, .inl (kA 0, 400, .inl (aI vt))), (ma 8, .inl (kA 0, 110, .inl (aI caf))), (ma 9, .inl (kA 0, 110, .inl (aI cat)))] → va_S A s.heap H locs → ∀ ls : Array Slot, lv_has ls 4 [(2, .int (iI t9)), (0, .ref mo), (1, .int (iI k))] → W p l e (rmd 4 0 0) s m args below meth c H locs 0 0 Q (F0 m 2 ls []) := by
    intro nn_2
    induction nn_2 with
    | zero => intro t9 vn vf vt ht9 hres hm; exact absurd hm (Nat.not_lt_zero _)
    | succ nn_2 ih_2 =>
      intro t9 vn vf vt ht9 hres hm_2 H locs hP hD hS ls hl
      refine lv_iload_n hx hb d_M_isThere_2 rfl (lv_at hl 0 rfl) ?_
      refine lv_aload_n hx hb d_M_isThere_3 rfl (lv_at hl 1 rfl) ?_
      refine gf_M_113 hx hb hts hown hK hP 0 rfl rfl d_M_isThere_4 ?_
      refine li_icmp_ge (tgt := 81) hx hb d_M_isThere_7 (by decide) (by omega) (by omega) (fun c1 => ?_) (fun c1 => ?_)
      · have _q := c1
        rw [hHt.dropE (k := t9) (by omega)] at hres
        refine lv_iconst (v := iI 0) hx hb d_M_isThere_81 rfl ?_
        exact fin (vn, vf, vt) _ _ _ _ _ (by exact bI_f hres.symm) (by trivial) (by first | exact hP | (subst_vars; exact hP)) (by first | exact hD | (subst_vars; exact hD)) hS d_M_isThere_82
      · have _q := c1
        have hdr := hHt.drop (k := t9) (by omega) (by omega)
        have hmb := hLt _ (hHt.mem (k := t9) (by omega) (by omega))
        simp only at hmb
        rw [hdr, List.any_cons] at hres
        refine lv_aload_n hx hb d_M_isThere_10 rfl (lv_at hl 1 rfl) ?_
        refine lv_aload_n hx hb d_M_isThere_11 rfl (lv_at hl 1 rfl) ?_
        refine gf_M_26 hx hb hts hown hK hP 0 rfl rfl d_M_isThere_12 ?_
        refine lv_iload_n hx hb d_M_isThere_15 rfl (lv_at hl 0 rfl) ?_
        refine li_iald hx hb hK hP 2 0 rfl rfl (by omega) (by omega) (by omega) d_M_isThere_16 ?_
        refine lv_aload_n hx hb d_M_isThere_17 rfl (lv_at hl 1 rfl) ?_
        refine gf_M_29 hx hb hts hown hK hP 0 rfl rfl d_M_isThere_18 ?_
        refine lv_iload_n hx hb d_M_isThere_21 rfl (lv_at hl 0 rfl) ?_
        refine li_iald hx hb hK hP 3 0 rfl rfl (by omega) (by omega) (by omega) d_M_isThere_22 ?_
        refine li_callw (wc := [(mo, .inr (10, [.int (iI mrf), .ref (ma 0), .int (iI mz), .ref (ma 1), .ref (ma 2), .int (iI mls), .int (iI mfp), .int (iI mfm), .ref (ma 3), .int (iI mtx), .ref (ma 4), .ref (ma 5), .int (iI vn), .ref (ma 6), .ref (ma 7), .int (iI mak), .ref (ma 8), .ref (ma 9), .int (iI mli), .int (iI mlx), .ref (ma 10), .ref (ma 11), .int (iI mat), .int (iI mtk), .int (iI mtf), .int (iI mtt), .int (iI mfa), .int (iI mla), .int (iI mlp), .int (iI mdp), .ref (ma 12), .ref (ma 13), .int (iI msi), .int (iI (bI mdn)), .int (iI mpf), .int (iI mpt)])), (ma 1, .inl (kA 0, 4120, .inl (aI ca))), (ma 6, .inl (kA 0, 400, .inl (aI vf))), (ma 7, .inl (kA 0, 400, .inl (aI vt)))]) (wr := [(ma 4, .inl (kA 0, 400, .inl (aI ctf))), (ma 5, .inl (kA 0, 400, .inl (aI ctt))), (ma 8, .inl (kA 0, 110, .inl (aI caf))), (ma 9, .inl (kA 0, 110, .inl (aI cat)))]) (va_runV (As := [.int (iI (ctf t9.toNat)), .int (iI (ctt t9.toNat))]) (rest := []) ⟨hx, hb, hml, hown, hts⟩ (c_M_split l dC dI kA H.size mo ma mrf mz mls mfp mfm mtx vn mak mli mlx mat mtk mtf mtt mfa mla mlp mdp msi mpf mpt mdn ca vf vt (ctf t9.toNat) (ctt t9.toNat) (by exact hca) (by omega)) (cw_M_159 hts rfl rfl ⟨Nat.le_of_ble_eq_true rfl, Nat.le_of_ble_eq_true rfl⟩) (li_preV (va_recv hK hP (ci := 10) (q0 := 0) rfl rfl) ⟨rfl, hP.sub [0, 1, 4, 5] rfl, (hD.sub [0, 1, 4, 5] (by decide) rfl).weaken (fun _ _ _ h => hAN _ h), trivial⟩ hK hN (hG.go hS hAN)) rfl rfl hl.1 rfl (lv_room (Nat.le_of_ble_eq_true rfl)) d_M_isThere_23 ⟨(by show 0 + 0 ≤ 0; omega), (by show 0 + 0 ≤ 0; omega)⟩) hP hD hS hA [0, 1, 4, 5] [2, 3, 6, 7] rfl rfl (by decide) (by decide) (fun u2 H locs hu2 hP hD hS _hk => ?_)
        obtain ⟨n_w, f_w, g_w⟩ := u2
        have hP : va_P (dC, dI) CL [(ma 4, .inl (kA 0, 400, .inl (aI ctf))), (ma 5, .inl (kA 0, 400, .inl (aI ctt))), (ma 8, .inl (kA 0, 110, .inl (aI caf))), (ma 9, .inl (kA 0, 110, .inl (aI cat))), (mo, .inr (10, [.int (iI mrf), .ref (ma 0), .int (iI mz), .ref (ma 1), .ref (ma 2), .int (iI mls), .int (iI mfp), .int (iI mfm), .ref (ma 3), .int (iI mtx), .ref (ma 4), .ref (ma 5), .int (iI n_w), .ref (ma 6), .ref (ma 7), .int (iI mak), .ref (ma 8), .ref (ma 9), .int (iI mli), .int (iI mlx), .ref (ma 10), .ref (ma 11), .int (iI mat), .int (iI mtk), .int (iI mtf), .int (iI mtt), .int (iI mfa), .int (iI mla), .int (iI mlp), .int (iI mdp), .ref (ma 12), .ref (ma 13), .int (iI msi), .int (iI (bI mdn)), .int (iI mpf), .int (iI mpt)])), (ma 1, .inl (kA 0, 4120, .inl (aI ca))), (ma 6, .inl (kA 0, 400, .inl (aI f_w))), (ma 7, .inl (kA 0, 400, .inl (aI g_w)))] H := hP
        have hD : va_D A [(ma 4, .inl (kA 0, 400, .inl (aI ctf))), (ma 5, .inl (kA 0, 400, .inl (aI ctt))), (ma 8, .inl (kA 0, 110, .inl (aI caf))), (ma 9, .inl (kA 0, 110, .inl (aI cat))), (mo, .inr (10, [.int (iI mrf), .ref (ma 0), .int (iI mz), .ref (ma 1), .ref (ma 2), .int (iI mls), .int (iI mfp), .int (iI mfm), .ref (ma 3), .int (iI mtx), .ref (ma 4), .ref (ma 5), .int (iI n_w), .ref (ma 6), .ref (ma 7), .int (iI mak), .ref (ma 8), .ref (ma 9), .int (iI mli), .int (iI mlx), .ref (ma 10), .ref (ma 11), .int (iI mat), .int (iI mtk), .int (iI mtf), .int (iI mtt), .int (iI mfa), .int (iI mla), .int (iI mlp), .int (iI mdp), .ref (ma 12), .ref (ma 13), .int (iI msi), .int (iI (bI mdn)), .int (iI mpf), .int (iI mpt)])), (ma 1, .inl (kA 0, 4120, .inl (aI ca))), (ma 6, .inl (kA 0, 400, .inl (aI f_w))), (ma 7, .inl (kA 0, 400, .inl (aI g_w)))] := hD
        have hp23 : HL (spW ca false (ctf t9.toNat) (ctt t9.toNat)) n_w f_w g_w ∧ LB (spW ca false (ctf t9.toNat) (ctt t9.toNat)) (ctf t9.toNat) (ctt t9.toNat) ∧ n_w ≤ 400 := hu2
        have hnw := hp23.1.nn
        refine lv_iconst (v := iI 0) hx hb d_M_isThere_26 rfl ?_
        refine lv_istore_n (lv' := [(3, .int (iI 0)), (2, .int (iI t9)), (0, .ref mo), (1, .int (iI k))]) hx hb d_M_isThere_27 rfl hl (by decide) rfl (fun ls hl => ?_)
        have K_28 : ∀ (nn_28 : Nat) (w9 : Int), (0 ≤ w9 ∧ w9 ≤ n_w) → ((((spW ca false (ctf t9.toNat) (ctt t9.toNat)).drop w9.toNat).any (mtA ca (caf k.toNat, cat k.toNat)) || (ts.drop (t9 + 1).toNat).any (thT ca (caf k.toNat, cat k.toNat))) = thM ca ts (caf k.toNat, cat k.toNat)) → ((n_w - w9).toNat < nn_28) → ∀ (H : Heap) (locs : List Loc), va_P (dC, dI) CL [(ma 4, .inl (kA 0, 400, .inl (aI ctf))), (ma 5, .inl (kA 0, 400, .inl (aI ctt))), (ma 8, .inl (kA 0, 110, .inl (aI caf))), (ma 9, .inl (kA 0, 110, .inl (aI cat))), (mo, .inr (10, [.int (iI mrf), .ref (ma 0), .int (iI mz), .ref (ma 1), .ref (ma 2), .int (iI mls), .int (iI mfp), .int (iI mfm), .ref (ma 3), .int (iI mtx), .ref (ma 4), .ref (ma 5), .int (iI n_w), .ref (ma 6), .ref (ma 7), .int (iI mak), .ref (ma 8), .ref (ma 9), .int (iI mli), .int (iI mlx), .ref (ma 10), .ref (ma 11), .int (iI mat), .int (iI mtk), .int (iI mtf), .int (iI mtt), .int (iI mfa), .int (iI mla), .int (iI mlp), .int (iI mdp), .ref (ma 12), .ref (ma 13), .int (iI msi), .int (iI (bI mdn)), .int (iI mpf), .int (iI mpt)])), (ma 1, .inl (kA 0, 4120, .inl (aI ca))), (ma 6, .inl (kA 0, 400, .inl (aI f_w))), (ma 7, .inl (kA 0, 400, .inl (aI g_w)))] H → va_D A [(ma 4, .inl (kA 0, 400, .inl (aI ctf))), (ma 5, .inl (kA 0, 400, .inl (aI ctt))), (ma 8, .inl (kA 0, 110, .inl (aI caf))), (ma 9, .inl (kA 0, 110, .inl (aI cat))), (mo, .inr (10, [.int (iI mrf), .ref (ma 0), .int (iI mz), .ref (ma 1), .ref (ma 2), .int (iI mls), .int (iI mfp), .int (iI mfm), .ref (ma 3), .int (iI mtx), .ref (ma 4), .ref (ma 5), .int (iI n_w), .ref (ma 6), .ref (ma 7), .int (iI mak), .ref (ma 8), .ref (ma 9), .int (iI mli), .int (iI mlx), .ref (ma 10), .ref (ma 11), .int (iI mat), .int (iI mtk), .int (iI mtf), .int (iI mtt), .int (iI mfa), .int (iI mla), .int (iI mlp), .int (iI mdp), .ref (ma 12), .ref (ma 13), .int (iI msi), .int (iI (bI mdn)), .int (iI mpf), .int (iI mpt)])), (ma 1, .inl (kA 0, 4120, .inl (aI ca))), (ma 6, .inl (kA 0, 400, .inl (aI f_w))), (ma 7, .inl (kA 0, 400, .inl (aI g_w)))] → va_S A s.heap H locs → ∀ ls : Array Slot, lv_has ls 4 [(3, .int (iI w9)), (2, .int (iI t9)), (0, .ref mo), (1, .int (iI k))] → W p l e (rmd 4 0 0) s m args below meth c H locs 0 0 Q (F0 m 28 ls []) := by
          intro nn_28
          induction nn_28 with
          | zero => intro w9 hw9 hin hm; exact absurd hm (Nat.not_lt_zero _)
          | succ nn_28 ih_28 =>
            intro w9 hw9 hin hm_28 H locs hP hD hS ls hl
            refine lv_iload_n hx hb d_M_isThere_28 rfl (lv_at hl 0 rfl) ?_
            refine lv_aload_n hx hb d_M_isThere_29 rfl (lv_at hl 2 rfl) ?_
            refine gf_M_142 hx hb hts hown hK hP 4 rfl rfl d_M_isThere_30 ?_
            refine li_icmp_ge (tgt := 75) hx hb d_M_isThere_33 (by decide) (by omega) (by omega) (fun c3 => ?_) (fun c3 => ?_)
            · have _q := c3
              rw [hp23.1.dropE (k := w9) (by omega)] at hin
              simp only [List.any_nil, Bool.false_or] at hin
              obtain ⟨t_n, et_n⟩ : ∃ y_9 : Int, y_9 = t9 + 1 := ⟨_, rfl⟩
              refine lv_iinc (v := iI t_n) (lv' := [(2, .int (iI t_n)), (3, .int (iI w9)), (0, .ref mo), (1, .int (iI k))]) hx hb d_M_isThere_75 hl (k := 1) rfl (by rw [et_n]; exact iI_add _ _) (by decide) rfl (fun ls hl => ?_)
              refine lv_goto (tgt := 2) hx hb d_M_isThere_78 (by decide) ?_
              exact ih_2 t_n n_w f_w g_w (by omega) (by rw [et_n]; exact hin) (by omega) _ _ (hP.sub [4, 5, 0, 1, 6, 7, 2, 3] rfl) (hD.sub [4, 5, 0, 1, 6, 7, 2, 3] (by decide) rfl) hS _ (lv_sub hl [0, 2, 3] rfl)
            · have _q := c3
              have hdw := hp23.1.drop (k := w9) (by omega) (by omega)
              have hmw := hp23.2.1 _ (hp23.1.mem (k := w9) (by omega) (by omega))
              simp only at hmw
              rw [hdw, List.any_cons] at hin
              simp only [mtA] at hin
              refine lv_aload_n hx hb d_M_isThere_36 rfl (lv_at hl 2 rfl) ?_
              refine lv_aload_n hx hb d_M_isThere_37 rfl (lv_at hl 2 rfl) ?_
              refine gf_M_38 hx hb hts hown hK hP 4 rfl rfl d_M_isThere_38 ?_
              refine lv_iload_n hx hb d_M_isThere_41 rfl (lv_at hl 3 rfl) ?_
              refine li_iald hx hb hK hP 2 0 rfl rfl (by omega) (by omega) (by omega) d_M_isThere_42 ?_
              refine lv_aload_n hx hb d_M_isThere_43 rfl (lv_at hl 2 rfl) ?_
              refine gf_M_41 hx hb hts hown hK hP 4 rfl rfl d_M_isThere_44 ?_
              refine lv_iload_n hx hb d_M_isThere_47 rfl (lv_at hl 3 rfl) ?_
              refine li_iald hx hb hK hP 3 0 rfl rfl (by omega) (by omega) (by omega) d_M_isThere_48 ?_
              refine lv_aload_n hx hb d_M_isThere_49 rfl (lv_at hl 2 rfl) ?_
              refine gf_M_32 hx hb hts hown hK hP 4 rfl rfl d_M_isThere_50 ?_
              refine lv_iload_n hx hb d_M_isThere_53 rfl (lv_at hl 0 rfl) ?_
              refine li_iald hx hb hK hP 6 0 rfl rfl (by omega) (by omega) (by omega) d_M_isThere_54 ?_
              refine lv_aload_n hx hb d_M_isThere_55 rfl (lv_at hl 2 rfl) ?_
              refine gf_M_35 hx hb hts hown hK hP 4 rfl rfl d_M_isThere_56 ?_
              refine lv_iload_n hx hb d_M_isThere_59 rfl (lv_at hl 0 rfl) ?_
              refine li_iald hx hb hK hP 7 0 rfl rfl (by omega) (by omega) (by omega) d_M_isThere_60 ?_
              refine li_callr ((va_runV (As := [.int (iI (caf k.toNat)), .int (iI (cat k.toNat)), .int (iI (f_w w9.toNat)), .int (iI (g_w w9.toNat))]) (rest := []) ⟨hx, hb, hml, hown, hts⟩ (c_M_matches l dC dI kA mo ma mrf mz mls mfp mfm mtx n_w mak mli mlx mat mtk mtf mtt mfa mla mlp mdp msi mpf mpt mdn ca (caf k.toNat) (cat k.toNat) (f_w w9.toNat) (g_w w9.toNat) (by exact hca) (by omega)) (cw_M_155 hts rfl rfl ⟨Nat.le_of_ble_eq_true rfl, Nat.le_of_ble_eq_true rfl⟩) (li_preV (va_recv hK hP (ci := 10) (q0 := 4) rfl rfl) (hP.sub [4, 5] rfl) hK hN (hG.go hS hAN)) rfl rfl hl.1 rfl (lv_room (Nat.le_of_ble_eq_true rfl)) d_M_isThere_61 ⟨(by show 0 + 0 ≤ 0; omega), (by show 0 + 0 ≤ 0; omega)⟩).run) ?_
              refine li_bz (tgt := 69) hx hb d_M_isThere_64 (by decide) (fun c4 => ?_) (fun c4 => ?_)
              · have _q := c4
                rw [show mtM ca (caf k.toNat) (cat k.toNat) (f_w w9.toNat) (g_w w9.toNat) = false by assumption, Bool.false_or] at hin
                obtain ⟨w_n, ew_n⟩ : ∃ y_9 : Int, y_9 = w9 + 1 := ⟨_, rfl⟩
                refine lv_iinc (v := iI w_n) (lv' := [(3, .int (iI w_n)), (2, .int (iI t9)), (0, .ref mo), (1, .int (iI k))]) hx hb d_M_isThere_69 hl (k := 0) rfl (by rw [ew_n]; exact iI_add _ _) (by decide) rfl (fun ls hl => ?_)
                refine lv_goto (tgt := 28) hx hb d_M_isThere_72 (by decide) ?_
                exact ih_28 w_n (by omega) (by rw [ew_n]; exact hin) (by omega) _ _ hP hD hS _ (lv_sub hl [0, 1, 2, 3] rfl)
              · have _q := c4
                rw [show mtM ca (caf k.toNat) (cat k.toNat) (f_w w9.toNat) (g_w w9.toNat) = true by assumption, Bool.true_or, Bool.true_or] at hin
                refine lv_iconst (v := iI 1) hx hb d_M_isThere_67 rfl ?_
                exact fin (n_w, f_w, g_w) _ _ _ _ _ (by exact bI_t hin.symm) (by trivial) (by first | exact hP.sub [4, 5, 0, 1, 6, 7, 2, 3] rfl | (subst_vars; exact hP.sub [4, 5, 0, 1, 6, 7, 2, 3] rfl)) (by first | exact hD.sub [4, 5, 0, 1, 6, 7, 2, 3] (by decide) rfl | (subst_vars; exact hD.sub [4, 5, 0, 1, 6, 7, 2, 3] (by decide) rfl)) hS d_M_isThere_68
        exact K_28 ((n_w - 0).toNat + 1) 0 (by omega) (by exact hres) (Nat.lt_succ_self _) _ _ hP hD hS _ (lv_sub hl [0, 1, 2, 3] rfl)
  exact K_2 ((mtx - 0).toNat + 1) 0 mwd cwf cwt (by omega) (by rfl) (Nat.lt_succ_self _) _ _ hP hD hS _ (lv_sub hl [0, 1, 2] rfl)

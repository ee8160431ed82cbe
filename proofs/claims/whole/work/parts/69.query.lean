abbrev TokF : Type := (Nat → Int) × Int × (Nat → Int) × Int × (Nat → Int) × (Nat → Int)
def ynS (ft a b fp : Int) : Int × Int := if ft = 0 then (a, b) else (ft, fp)
def jnC (op v a : Int) : Int := if op = 11 then andI v a else if op = 13 then andI v (xorI a (-1)) else orI v a
def ixA (lc : Nat → Int) (kn : Int) (gs ge : Nat → Int) (kz x : Int) : Int := ixL lc kn (seF gs kz kn x) (seF ge kz kn x) 6 0
theorem ixL_r {lc : Nat → Int} {kn x y : Int} : ∀ (k : Nat) (i : Int), 0 ≤ i → ixL lc kn x y k i = -1 ∨ (i ≤ ixL lc kn x y k i ∧ ixL lc kn x y k i < i + k) := by
  intro k
  induction k with
  | zero => intro i _; exact Or.inl rfl
  | succ k ih =>
    intro i hi
    simp only [ixL]
    split
    · exact Or.inr (by omega)
    · rcases ih (i + 1) (by omega) with h | h
      · exact Or.inl h
      · exact Or.inr (by omega)

theorem d_Y_takeStep_0 : decode b_Y_takeStep 0 = .ok (.aload_n 0, 1) := by decide +kernel
theorem d_Y_takeStep_1 : decode b_Y_takeStep 1 = .ok (.getfield 43, 3) := by decide +kernel
theorem d_Y_takeStep_4 : decode b_Y_takeStep 4 = .ok (.aload_n 0, 1) := by decide +kernel
theorem d_Y_takeStep_5 : decode b_Y_takeStep 5 = .ok (.getfield 18, 3) := by decide +kernel
theorem d_Y_takeStep_8 : decode b_Y_takeStep 8 = .ok (.arraylength, 1) := by decide +kernel
theorem d_Y_takeStep_9 : decode b_Y_takeStep 9 = .ok (.if_icmp .ge 23, 3) := by decide +kernel
theorem d_Y_takeStep_12 : decode b_Y_takeStep 12 = .ok (.aload_n 0, 1) := by decide +kernel
theorem d_Y_takeStep_13 : decode b_Y_takeStep 13 = .ok (.getfield 18, 3) := by decide +kernel
theorem d_Y_takeStep_16 : decode b_Y_takeStep 16 = .ok (.aload_n 0, 1) := by decide +kernel
theorem d_Y_takeStep_17 : decode b_Y_takeStep 17 = .ok (.getfield 43, 3) := by decide +kernel
theorem d_Y_takeStep_20 : decode b_Y_takeStep 20 = .ok (.iload_n 1, 1) := by decide +kernel
theorem d_Y_takeStep_21 : decode b_Y_takeStep 21 = .ok (.iastore, 1) := by decide +kernel
theorem d_Y_takeStep_22 : decode b_Y_takeStep 22 = .ok (.aload_n 0, 1) := by decide +kernel
theorem d_Y_takeStep_23 : decode b_Y_takeStep 23 = .ok (.dup, 1) := by decide +kernel
theorem d_Y_takeStep_24 : decode b_Y_takeStep 24 = .ok (.getfield 43, 3) := by decide +kernel
theorem d_Y_takeStep_27 : decode b_Y_takeStep 27 = .ok (.iconst 1, 1) := by decide +kernel
theorem d_Y_takeStep_28 : decode b_Y_takeStep 28 = .ok (.iadd, 1) := by decide +kernel
theorem d_Y_takeStep_29 : decode b_Y_takeStep 29 = .ok (.putfield 43, 3) := by decide +kernel
theorem d_Y_takeStep_32 : decode b_Y_takeStep 32 = .ok (.aload_n 0, 1) := by decide +kernel
theorem d_Y_takeStep_33 : decode b_Y_takeStep 33 = .ok (.dup, 1) := by decide +kernel
theorem d_Y_takeStep_34 : decode b_Y_takeStep 34 = .ok (.getfield 39, 3) := by decide +kernel
theorem d_Y_takeStep_37 : decode b_Y_takeStep 37 = .ok (.iconst 1, 1) := by decide +kernel
theorem d_Y_takeStep_38 : decode b_Y_takeStep 38 = .ok (.iadd, 1) := by decide +kernel
theorem d_Y_takeStep_39 : decode b_Y_takeStep 39 = .ok (.putfield 39, 3) := by decide +kernel
theorem d_Y_takeStep_42 : decode b_Y_takeStep 42 = .ok (.return_, 1) := by decide +kernel
set_option maxHeartbeats 4000000 in
set_option maxRecDepth 100000 in
theorem c_Y_takeStep (l : Launch) (dC : Nat → ClassId) (dI : Nat → Nat → Nat) (kA : Nat → ClassId) (sz : Nat) (yo : Nat) (ya : Nat → Nat) (yn : Int) (ysc : Int) (ycc : Int) (ysi : Int) (yft : Int) (yfp : Int) (ydn : Bool) (ys : Nat → Int) (k : Int) (hsc : 0 ≤ ysc ∧ ysc < 100) (hyn : 0 ≤ yn ∧ yn ≤ 1000) : Met l y_Y_takeStep (wsy y_Y_takeStep b_Y_takeStep 2 none) (rmd 0 0 0) (li_Pr (dC, dI) CL (TY kA) [.ref yo, .int (iI k)] (fun h => h.size = sz ∧ va_P (dC, dI) CL [(yo, .inr (6, [.ref (ya 0), .int (iI yn), .ref (ya 1), .int (iI ysc), .ref (ya 2), .int (iI ycc), .int (iI ysi), .int (iI (bI ydn)), .int (iI yft), .int (iI yfp), .ref (ya 3), .ref (ya 4)])), (ya 1, .inl (kA 0, 100, .inl (aI ys)))] h ∧ va_D (fun q => dI 100 0 ≤ q) [(yo, .inr (6, [.ref (ya 0), .int (iI yn), .ref (ya 1), .int (iI ysc), .ref (ya 2), .int (iI ycc), .int (iI ysi), .int (iI (bI ydn)), .int (iI yft), .int (iI yfp), .ref (ya 3), .ref (ya 4)])), (ya 1, .inl (kA 0, 100, .inl (aI ys)))] ∧ (fun _ => True) h)) (li_Qw (S := (Int) × (Int)) (dC, dI) CL (fun u => u.1 = yn + 1 ∧ u.2 = ysc + 1) (fun _ => none) (fun u => [(yo, .inr (6, [.ref (ya 0), .int (iI u.1), .ref (ya 1), .int (iI u.2), .ref (ya 2), .int (iI ycc), .int (iI ysi), .int (iI (bI ydn)), .int (iI yft), .int (iI yfp), .ref (ya 3), .ref (ya 4)])), (ya 1, .inl (kA 0, 100, .inl (aI (va_up ys ysc.toNat k))))]) (va_A [(yo, .inr (6, [.ref (ya 0), .int (iI yn), .ref (ya 1), .int (iI ysc), .ref (ya 2), .int (iI ycc), .int (iI ysi), .int (iI (bI ydn)), .int (iI yft), .int (iI yfp), .ref (ya 3), .ref (ya 4)])), (ya 1, .inl (kA 0, 100, .inl (aI ys)))] sz)) 0 0 (va_A [(yo, .inr (6, [.ref (ya 0), .int (iI yn), .ref (ya 1), .int (iI ysc), .ref (ya 2), .int (iI ycc), .int (iI ysi), .int (iI (bI ydn)), .int (iI yft), .int (iI yfp), .ref (ya 3), .ref (ya 4)])), (ya 1, .inl (kA 0, 100, .inl (aI ys)))] sz) := by
  refine li_mwv (by decide) (Nat.le_of_ble_eq_true rfl) ?_
  intro p e s m args below meth c Q A C hP hD hBx hK hN hG hA hAi hAN fin ls hl
  obtain ⟨hx, hb, hr, hml, hown, hts, hlocks, hin⟩ := C
  have hown : s.vm.findClass R_Y = some m.cls := hown
  have hl : lv_has ls 2 [(0, .ref yo), (1, .int (iI k))] := hl
  suffices h9 : ∀ (H : Heap) (locs : List Loc), H = s.heap → locs = [] → W p l e (rmd 0 0 0) s m args below meth c H locs 0 0 Q (F0 m 0 ls []) from h9 _ _ rfl rfl
  intro H locs eH eL
  have hP : va_P (dC, dI) CL [(yo, .inr (6, [.ref (ya 0), .int (iI yn), .ref (ya 1), .int (iI ysc), .ref (ya 2), .int (iI ycc), .int (iI ysi), .int (iI (bI ydn)), .int (iI yft), .int (iI yfp), .ref (ya 3), .ref (ya 4)])), (ya 1, .inl (kA 0, 100, .inl (aI ys)))] H := by rw [eH]; exact hP
  have hS : va_S A s.heap H locs := by rw [eH, eL]; exact va_S.rf
  refine lv_aload_n hx hb d_Y_takeStep_0 rfl (lv_at hl 0 rfl) ?_
  refine gf_Y_43 hx hb hts hown hK hP 0 rfl rfl d_Y_takeStep_1 ?_
  refine lv_aload_n hx hb d_Y_takeStep_4 rfl (lv_at hl 0 rfl) ?_
  refine gf_Y_18 hx hb hts hown hK hP 0 rfl rfl d_Y_takeStep_5 ?_
  refine li_alen hx hb hK hP 1 0 rfl rfl d_Y_takeStep_8 ?_
  refine li_icmp_ge (tgt := 32) hx hb d_Y_takeStep_9 (by decide) (by omega) (by omega) (fun c1 => ?_) (fun c1 => ?_)
  · have _q := c1
    exact absurd c1 (by omega)
  · have _q := c1
    refine lv_aload_n hx hb d_Y_takeStep_12 rfl (lv_at hl 0 rfl) ?_
    refine gf_Y_18 hx hb hts hown hK hP 0 rfl rfl d_Y_takeStep_13 ?_
    refine lv_aload_n hx hb d_Y_takeStep_16 rfl (lv_at hl 0 rfl) ?_
    refine gf_Y_43 hx hb hts hown hK hP 0 rfl rfl d_Y_takeStep_17 ?_
    refine lv_iload_n hx hb d_Y_takeStep_20 rfl (lv_at hl 1 rfl) ?_
    refine li_iast hx hb hK hP hD hS 1 0 rfl rfl (by omega) (by omega) (by omega) d_Y_takeStep_21 (fun H locs hP hD hS => ?_)
    have hP : va_P (dC, dI) CL [(yo, .inr (6, [.ref (ya 0), .int (iI yn), .ref (ya 1), .int (iI ysc), .ref (ya 2), .int (iI ycc), .int (iI ysi), .int (iI (bI ydn)), .int (iI yft), .int (iI yfp), .ref (ya 3), .ref (ya 4)])), (ya 1, .inl (kA 0, 100, .inl (aI (va_up ys ysc.toNat k))))] H := hP
    have hD : va_D A [(yo, .inr (6, [.ref (ya 0), .int (iI yn), .ref (ya 1), .int (iI ysc), .ref (ya 2), .int (iI ycc), .int (iI ysi), .int (iI (bI ydn)), .int (iI yft), .int (iI yfp), .ref (ya 3), .ref (ya 4)])), (ya 1, .inl (kA 0, 100, .inl (aI (va_up ys ysc.toNat k))))] := hD
    refine lv_aload_n hx hb d_Y_takeStep_22 rfl (lv_at hl 0 rfl) ?_
    refine lv_dup hx hb d_Y_takeStep_23 rfl ?_
    refine gf_Y_43 hx hb hts hown hK hP 0 rfl rfl d_Y_takeStep_24 ?_
    refine lv_iconst (v := iI 1) hx hb d_Y_takeStep_27 rfl ?_
    refine li_iadd hx hb d_Y_takeStep_28 ?_
    refine li_nm (fun z_n ez_n => ?_)
    refine pf_Y_43 hx hb hts hown hK hP hD hS 0 rfl (Nat.le_of_ble_eq_true rfl) d_Y_takeStep_29 (fun H locs hP hD hS => ?_)
    have hP : va_P (dC, dI) CL [(yo, .inr (6, [.ref (ya 0), .int (iI yn), .ref (ya 1), .int (iI z_n), .ref (ya 2), .int (iI ycc), .int (iI ysi), .int (iI (bI ydn)), .int (iI yft), .int (iI yfp), .ref (ya 3), .ref (ya 4)])), (ya 1, .inl (kA 0, 100, .inl (aI (va_up ys ysc.toNat k))))] H := hP
    have hD : va_D A [(yo, .inr (6, [.ref (ya 0), .int (iI yn), .ref (ya 1), .int (iI z_n), .ref (ya 2), .int (iI ycc), .int (iI ysi), .int (iI (bI ydn)), .int (iI yft), .int (iI yfp), .ref (ya 3), .ref (ya 4)])), (ya 1, .inl (kA 0, 100, .inl (aI (va_up ys ysc.toNat k))))] := hD
    refine lv_aload_n hx hb d_Y_takeStep_32 rfl (lv_at hl 0 rfl) ?_
    refine lv_dup hx hb d_Y_takeStep_33 rfl ?_
    refine gf_Y_39 hx hb hts hown hK hP 0 rfl rfl d_Y_takeStep_34 ?_
    refine lv_iconst (v := iI 1) hx hb d_Y_takeStep_37 rfl ?_
    refine li_iadd hx hb d_Y_takeStep_38 ?_
    refine li_nm (fun n_n en_n => ?_)
    refine pf_Y_39 hx hb hts hown hK hP hD hS 0 rfl (Nat.le_of_ble_eq_true rfl) d_Y_takeStep_39 (fun H locs hP hD hS => ?_)
    have hP : va_P (dC, dI) CL [(yo, .inr (6, [.ref (ya 0), .int (iI n_n), .ref (ya 1), .int (iI z_n), .ref (ya 2), .int (iI ycc), .int (iI ysi), .int (iI (bI ydn)), .int (iI yft), .int (iI yfp), .ref (ya 3), .ref (ya 4)])), (ya 1, .inl (kA 0, 100, .inl (aI (va_up ys ysc.toNat k))))] H := hP
    have hD : va_D A [(yo, .inr (6, [.ref (ya 0), .int (iI n_n), .ref (ya 1), .int (iI z_n), .ref (ya 2), .int (iI ycc), .int (iI ysi), .int (iI (bI ydn)), .int (iI yft), .int (iI yfp), .ref (ya 3), .ref (ya 4)])), (ya 1, .inl (kA 0, 100, .inl (aI (va_up ys ysc.toNat k))))] := hD
    exact fin (n_n, z_n) _ _ _ _ (by show n_n = yn + 1 ∧ z_n = ysc + 1; exact ⟨by omega, by omega⟩) (by first | exact hP | (subst_vars; exact hP)) (by first | exact hD | (subst_vars; exact hD)) hS d_Y_takeStep_42
theorem d_Y_note_0 : decode b_Y_note 0 = .ok (.aload_n 0, 1) := by decide +kernel
theorem d_Y_note_1 : decode b_Y_note 1 = .ok (.getfield 56, 3) := by decide +kernel
theorem d_Y_note_4 : decode b_Y_note 4 = .ok (.ifCond .ne 23, 3) := by decide +kernel
theorem d_Y_note_7 : decode b_Y_note 7 = .ok (.aload_n 0, 1) := by decide +kernel
theorem d_Y_note_8 : decode b_Y_note 8 = .ok (.iload_n 1, 1) := by decide +kernel
theorem d_Y_note_9 : decode b_Y_note 9 = .ok (.putfield 56, 3) := by decide +kernel
theorem d_Y_note_12 : decode b_Y_note 12 = .ok (.aload_n 0, 1) := by decide +kernel
theorem d_Y_note_13 : decode b_Y_note 13 = .ok (.aload_n 0, 1) := by decide +kernel
theorem d_Y_note_14 : decode b_Y_note 14 = .ok (.getfield 12, 3) := by decide +kernel
theorem d_Y_note_17 : decode b_Y_note 17 = .ok (.aload_n 0, 1) := by decide +kernel
theorem d_Y_note_18 : decode b_Y_note 18 = .ok (.getfield 39, 3) := by decide +kernel
theorem d_Y_note_21 : decode b_Y_note 21 = .ok (.invokevirtual 63, 3) := by decide +kernel
theorem d_Y_note_24 : decode b_Y_note 24 = .ok (.putfield 67, 3) := by decide +kernel
theorem d_Y_note_27 : decode b_Y_note 27 = .ok (.return_, 1) := by decide +kernel
set_option maxHeartbeats 4000000 in
set_option maxRecDepth 100000 in
theorem c_Y_note (l : Launch) (dC : Nat → ClassId) (dI : Nat → Nat → Nat) (kA : Nat → ClassId) (sz : Nat) (yo : Nat) (ya : Nat → Nat) (yn : Int) (ysc : Int) (ycc : Int) (ysi : Int) (yft : Int) (yfp : Int) (ydn : Bool) (la : Nat) (nl : Nat) (lc : Nat → Int) (kn : Int) (ga : Nat) (gb : Nat) (gc : Nat) (kz : Int) (gk : Nat → Int) (gs : Nat → Int) (ge : Nat → Int) (k : Int) (hKR : KR nl lc kn kz gk gs ge) (hyn : 0 ≤ yn ∧ yn ≤ 1000) (hft : -2147483648 ≤ yft ∧ yft < 2147483648) : Met l y_Y_note (wsy y_Y_note b_Y_note 2 none) (rmd 1 0 0) (li_Pr (dC, dI) CL (TY kA) [.ref yo, .int (iI k)] (fun h => h.size = sz ∧ va_P (dC, dI) CL [(yo, .inr (6, [.ref (ya 0), .int (iI yn), .ref (ya 1), .int (iI ysc), .ref (ya 2), .int (iI ycc), .int (iI ysi), .int (iI (bI ydn)), .int (iI yft), .int (iI yfp), .ref (ya 3), .ref (ya 4)])), (ya 0, .inr (8, [.ref la, .int (iI kn), .ref ga, .ref gb, .ref gc, .int (iI kz)])), (ga, .inl (kA 0, 100, .inl (aI gk))), (gb, .inl (kA 0, 100, .inl (aI gs))), (gc, .inl (kA 0, 100, .inl (aI ge)))] h ∧ va_D (fun q => dI 100 0 ≤ q) [(yo, .inr (6, [.ref (ya 0), .int (iI yn), .ref (ya 1), .int (iI ysc), .ref (ya 2), .int (iI ycc), .int (iI ysi), .int (iI (bI ydn)), .int (iI yft), .int (iI yfp), .ref (ya 3), .ref (ya 4)])), (ya 0, .inr (8, [.ref la, .int (iI kn), .ref ga, .ref gb, .ref gc, .int (iI kz)])), (ga, .inl (kA 0, 100, .inl (aI gk))), (gb, .inl (kA 0, 100, .inl (aI gs))), (gc, .inl (kA 0, 100, .inl (aI ge)))] ∧ (fun h => va_P (dC, dI) CL [(la, .inl (kA 1, nl, .inl (aI lc)))] h ∧ Dsj [(la, .inl (kA 1, nl, .inl (aI lc)))] [(yo, .inr (6, [.ref (ya 0), .int (iI yn), .ref (ya 1), .int (iI ysc), .ref (ya 2), .int (iI ycc), .int (iI ysi), .int (iI (bI ydn)), .int (iI yft), .int (iI yfp), .ref (ya 3), .ref (ya 4)])), (ya 0, .inr (8, [.ref la, .int (iI kn), .ref ga, .ref gb, .ref gc, .int (iI kz)])), (ga, .inl (kA 0, 100, .inl (aI gk))), (gb, .inl (kA 0, 100, .inl (aI gs))), (gc, .inl (kA 0, 100, .inl (aI ge)))]) h)) (li_Qw (S := (Int) × (Int)) (dC, dI) CL (fun u => (u.1, u.2) = ynS yft k (seF gs kz kn yn) yfp) (fun _ => none) (fun u => [(yo, .inr (6, [.ref (ya 0), .int (iI yn), .ref (ya 1), .int (iI ysc), .ref (ya 2), .int (iI ycc), .int (iI ysi), .int (iI (bI ydn)), .int (iI u.1), .int (iI u.2), .ref (ya 3), .ref (ya 4)])), (ya 0, .inr (8, [.ref la, .int (iI kn), .ref ga, .ref gb, .ref gc, .int (iI kz)])), (ga, .inl (kA 0, 100, .inl (aI gk))), (gb, .inl (kA 0, 100, .inl (aI gs))), (gc, .inl (kA 0, 100, .inl (aI ge)))]) (va_A [(yo, .inr (6, [.ref (ya 0), .int (iI yn), .ref (ya 1), .int (iI ysc), .ref (ya 2), .int (iI ycc), .int (iI ysi), .int (iI (bI ydn)), .int (iI yft), .int (iI yfp), .ref (ya 3), .ref (ya 4)])), (ya 0, .inr (8, [.ref la, .int (iI kn), .ref ga, .ref gb, .ref gc, .int (iI kz)])), (ga, .inl (kA 0, 100, .inl (aI gk))), (gb, .inl (kA 0, 100, .inl (aI gs))), (gc, .inl (kA 0, 100, .inl (aI ge)))] sz)) 0 0 (va_A [(yo, .inr (6, [.ref (ya 0), .int (iI yn), .ref (ya 1), .int (iI ysc), .ref (ya 2), .int (iI ycc), .int (iI ysi), .int (iI (bI ydn)), .int (iI yft), .int (iI yfp), .ref (ya 3), .ref (ya 4)])), (ya 0, .inr (8, [.ref la, .int (iI kn), .ref ga, .ref gb, .ref gc, .int (iI kz)])), (ga, .inl (kA 0, 100, .inl (aI gk))), (gb, .inl (kA 0, 100, .inl (aI gs))), (gc, .inl (kA 0, 100, .inl (aI ge)))] sz) := by
  refine li_mwv (by decide) (Nat.le_of_ble_eq_true rfl) ?_
  intro p e s m args below meth c Q A C hP hD hBx hK hN hG hA hAi hAN fin ls hl
  obtain ⟨hx, hb, hr, hml, hown, hts, hlocks, hin⟩ := C
  have hown : s.vm.findClass R_Y = some m.cls := hown
  obtain ⟨hRo, hDj⟩ := hBx
  have hRo : va_P (dC, dI) CL [(la, .inl (kA 1, nl, .inl (aI lc)))] s.heap := hRo
  have hRoN := li_roN (A := A) hRo hDj hAi
  have hl : lv_has ls 2 [(0, .ref yo), (1, .int (iI k))] := hl
  obtain ⟨hnl, hkn, hkz, hlc, hgk, hgs, hge⟩ := id hKR
  suffices h9 : ∀ (H : Heap) (locs : List Loc), H = s.heap → locs = [] → W p l e (rmd 1 0 0) s m args below meth c H locs 0 0 Q (F0 m 0 ls []) from h9 _ _ rfl rfl
  intro H locs eH eL
  have hP : va_P (dC, dI) CL [(yo, .inr (6, [.ref (ya 0), .int (iI yn), .ref (ya 1), .int (iI ysc), .ref (ya 2), .int (iI ycc), .int (iI ysi), .int (iI (bI ydn)), .int (iI yft), .int (iI yfp), .ref (ya 3), .ref (ya 4)])), (ya 0, .inr (8, [.ref la, .int (iI kn), .ref ga, .ref gb, .ref gc, .int (iI kz)])), (ga, .inl (kA 0, 100, .inl (aI gk))), (gb, .inl (kA 0, 100, .inl (aI gs))), (gc, .inl (kA 0, 100, .inl (aI ge)))] H := by rw [eH]; exact hP
  have hS : va_S A s.heap H locs := by rw [eH, eL]; exact va_S.rf
  refine lv_aload_n hx hb d_Y_note_0 rfl (lv_at hl 0 rfl) ?_
  refine gf_Y_56 hx hb hts hown hK hP 0 rfl rfl d_Y_note_1 ?_
  refine li_if_ne (tgt := 27) hx hb d_Y_note_4 (by decide) (by omega) (fun c1 => ?_) (fun c1 => ?_)
  · have _q := c1
    exact fin (yft, yfp) _ _ _ _ (by show (yft, yfp) = ynS yft k (seF gs kz kn yn) yfp; unfold ynS; first | (rw [if_neg (by omega)]; done) | (rw [if_pos (by omega), ← ep_n]; done)) (by first | exact hP | (subst_vars; exact hP)) (by first | exact hD | (subst_vars; exact hD)) hS d_Y_note_27
  · have _q := c1
    refine lv_aload_n hx hb d_Y_note_7 rfl (lv_at hl 0 rfl) ?_
    refine lv_iload_n hx hb d_Y_note_8 rfl (lv_at hl 1 rfl) ?_
    refine pf_Y_56 hx hb hts hown hK hP hD hS 0 rfl (Nat.le_of_ble_eq_true rfl) d_Y_note_9 (fun H locs hP hD hS => ?_)
    have hP : va_P (dC, dI) CL [(yo, .inr (6, [.ref (ya 0), .int (iI yn), .ref (ya 1), .int (iI ysc), .ref (ya 2), .int (iI ycc), .int (iI ysi), .int (iI (bI ydn)), .int (iI k), .int (iI yfp), .ref (ya 3), .ref (ya 4)])), (ya 0, .inr (8, [.ref la, .int (iI kn), .ref ga, .ref gb, .ref gc, .int (iI kz)])), (ga, .inl (kA 0, 100, .inl (aI gk))), (gb, .inl (kA 0, 100, .inl (aI gs))), (gc, .inl (kA 0, 100, .inl (aI ge)))] H := hP
    have hD : va_D A [(yo, .inr (6, [.ref (ya 0), .int (iI yn), .ref (ya 1), .int (iI ysc), .ref (ya 2), .int (iI ycc), .int (iI ysi), .int (iI (bI ydn)), .int (iI k), .int (iI yfp), .ref (ya 3), .ref (ya 4)])), (ya 0, .inr (8, [.ref la, .int (iI kn), .ref ga, .ref gb, .ref gc, .int (iI kz)])), (ga, .inl (kA 0, 100, .inl (aI gk))), (gb, .inl (kA 0, 100, .inl (aI gs))), (gc, .inl (kA 0, 100, .inl (aI ge)))] := hD
    refine lv_aload_n hx hb d_Y_note_12 rfl (lv_at hl 0 rfl) ?_
    refine lv_aload_n hx hb d_Y_note_13 rfl (lv_at hl 0 rfl) ?_
    refine gf_Y_12 hx hb hts hown hK hP 0 rfl rfl d_Y_note_14 ?_
    refine lv_aload_n hx hb d_Y_note_17 rfl (lv_at hl 0 rfl) ?_
    refine gf_Y_39 hx hb hts hown hK hP 0 rfl rfl d_Y_note_18 ?_
    refine li_callr ((va_runV (As := [.int (iI yn)]) (rest := [.ref yo]) ⟨hx, hb, hml, hown, hts⟩ (c_K_startAt l dC dI kA (ya 0) la nl lc kn ga gb gc kz gk gs ge yn (by exact hKR) (by omega)) (cw_Y_63 hts rfl rfl ⟨Nat.le_of_ble_eq_true rfl, Nat.le_of_ble_eq_true rfl⟩) (li_preV (va_recv hK hP (ci := 8) (q0 := 1) rfl rfl) (va_P.app (hP.sub [1] rfl) (va_P.app (hP.sub [2] rfl) (va_P.app (hP.sub [3] rfl) (va_P.app (hP.sub [4] rfl) ((li_ro hRo hRoN hS).sub [0] rfl))))) hK hN (hG.go hS hAN)) rfl rfl hl.1 rfl (lv_room (Nat.le_of_ble_eq_true rfl)) d_Y_note_21 ⟨(by show 0 + 0 ≤ 0; omega), (by show 0 + 0 ≤ 0; omega)⟩).run) ?_
    refine li_nm (fun p_n ep_n => ?_)
    refine pf_Y_67 hx hb hts hown hK hP hD hS 0 rfl (Nat.le_of_ble_eq_true rfl) d_Y_note_24 (fun H locs hP hD hS => ?_)
    have hP : va_P (dC, dI) CL [(yo, .inr (6, [.ref (ya 0), .int (iI yn), .ref (ya 1), .int (iI ysc), .ref (ya 2), .int (iI ycc), .int (iI ysi), .int (iI (bI ydn)), .int (iI k), .int (iI p_n), .ref (ya 3), .ref (ya 4)])), (ya 0, .inr (8, [.ref la, .int (iI kn), .ref ga, .ref gb, .ref gc, .int (iI kz)])), (ga, .inl (kA 0, 100, .inl (aI gk))), (gb, .inl (kA 0, 100, .inl (aI gs))), (gc, .inl (kA 0, 100, .inl (aI ge)))] H := hP
    have hD : va_D A [(yo, .inr (6, [.ref (ya 0), .int (iI yn), .ref (ya 1), .int (iI ysc), .ref (ya 2), .int (iI ycc), .int (iI ysi), .int (iI (bI ydn)), .int (iI k), .int (iI p_n), .ref (ya 3), .ref (ya 4)])), (ya 0, .inr (8, [.ref la, .int (iI kn), .ref ga, .ref gb, .ref gc, .int (iI kz)])), (ga, .inl (kA 0, 100, .inl (aI gk))), (gb, .inl (kA 0, 100, .inl (aI gs))), (gc, .inl (kA 0, 100, .inl (aI ge)))] := hD
    exact fin (k, p_n) _ _ _ _ (by show (k, p_n) = ynS yft k (seF gs kz kn yn) yfp; unfold ynS; first | (rw [if_neg (by omega)]; done) | (rw [if_pos (by omega), ← ep_n]; done)) (by first | exact hP | (subst_vars; exact hP)) (by first | exact hD | (subst_vars; exact hD)) hS d_Y_note_27
theorem d_Y_hold_0 : decode b_Y_hold 0 = .ok (.iload_n 1, 1) := by decide +kernel
theorem d_Y_hold_1 : decode b_Y_hold 1 = .ok (.ifCond .lt 26, 3) := by decide +kernel
theorem d_Y_hold_4 : decode b_Y_hold 4 = .ok (.iload_n 1, 1) := by decide +kernel
theorem d_Y_hold_5 : decode b_Y_hold 5 = .ok (.aload_n 0, 1) := by decide +kernel
theorem d_Y_hold_6 : decode b_Y_hold 6 = .ok (.getfield 28, 3) := by decide +kernel
theorem d_Y_hold_9 : decode b_Y_hold 9 = .ok (.arraylength, 1) := by decide +kernel
theorem d_Y_hold_10 : decode b_Y_hold 10 = .ok (.if_icmp .ge 17, 3) := by decide +kernel
theorem d_Y_hold_13 : decode b_Y_hold 13 = .ok (.aload_n 0, 1) := by decide +kernel
theorem d_Y_hold_14 : decode b_Y_hold 14 = .ok (.getfield 28, 3) := by decide +kernel
theorem d_Y_hold_17 : decode b_Y_hold 17 = .ok (.iload_n 1, 1) := by decide +kernel
theorem d_Y_hold_18 : decode b_Y_hold 18 = .ok (.iload_n 2, 1) := by decide +kernel
theorem d_Y_hold_19 : decode b_Y_hold 19 = .ok (.iastore, 1) := by decide +kernel
theorem d_Y_hold_20 : decode b_Y_hold 20 = .ok (.aload_n 0, 1) := by decide +kernel
theorem d_Y_hold_21 : decode b_Y_hold 21 = .ok (.getfield 31, 3) := by decide +kernel
theorem d_Y_hold_24 : decode b_Y_hold 24 = .ok (.iload_n 1, 1) := by decide +kernel
theorem d_Y_hold_25 : decode b_Y_hold 25 = .ok (.iload_n 3, 1) := by decide +kernel
theorem d_Y_hold_26 : decode b_Y_hold 26 = .ok (.iastore, 1) := by decide +kernel
theorem d_Y_hold_27 : decode b_Y_hold 27 = .ok (.return_, 1) := by decide +kernel
set_option maxHeartbeats 4000000 in
set_option maxRecDepth 100000 in
theorem c_Y_hold (l : Launch) (dC : Nat → ClassId) (dI : Nat → Nat → Nat) (kA : Nat → ClassId) (sz : Nat) (yo : Nat) (ya : Nat → Nat) (yn : Int) (ysc : Int) (ycc : Int) (ysi : Int) (yft : Int) (yfp : Int) (ydn : Bool) (yr : Nat → Int) (yj : Nat → Int) (k : Int) (a : Int) (b : Int) (hk : 0 ≤ k ∧ k ≤ 6) : Met l y_Y_hold (wsy y_Y_hold b_Y_hold 4 none) (rmd 0 0 0) (li_Pr (dC, dI) CL (TY kA) [.ref yo, .int (iI k), .int (iI a), .int (iI b)] (fun h => h.size = sz ∧ va_P (dC, dI) CL [(yo, .inr (6, [.ref (ya 0), .int (iI yn), .ref (ya 1), .int (iI ysc), .ref (ya 2), .int (iI ycc), .int (iI ysi), .int (iI (bI ydn)), .int (iI yft), .int (iI yfp), .ref (ya 3), .ref (ya 4)])), (ya 3, .inl (kA 0, 7, .inl (aI yr))), (ya 4, .inl (kA 0, 7, .inl (aI yj)))] h ∧ va_D (fun q => dI 100 0 ≤ q) [(yo, .inr (6, [.ref (ya 0), .int (iI yn), .ref (ya 1), .int (iI ysc), .ref (ya 2), .int (iI ycc), .int (iI ysi), .int (iI (bI ydn)), .int (iI yft), .int (iI yfp), .ref (ya 3), .ref (ya 4)])), (ya 3, .inl (kA 0, 7, .inl (aI yr))), (ya 4, .inl (kA 0, 7, .inl (aI yj)))] ∧ (fun _ => True) h)) (li_Qw (S := Unit) (dC, dI) CL (fun _ => True) (fun _ => none) (fun _ => [(yo, .inr (6, [.ref (ya 0), .int (iI yn), .ref (ya 1), .int (iI ysc), .ref (ya 2), .int (iI ycc), .int (iI ysi), .int (iI (bI ydn)), .int (iI yft), .int (iI yfp), .ref (ya 3), .ref (ya 4)])), (ya 3, .inl (kA 0, 7, .inl (aI (va_up yr k.toNat a)))), (ya 4, .inl (kA 0, 7, .inl (aI (va_up yj k.toNat b))))]) (va_A [(yo, .inr (6, [.ref (ya 0), .int (iI yn), .ref (ya 1), .int (iI ysc), .ref (ya 2), .int (iI ycc), .int (iI ysi), .int (iI (bI ydn)), .int (iI yft), .int (iI yfp), .ref (ya 3), .ref (ya 4)])), (ya 3, .inl (kA 0, 7, .inl (aI yr))), (ya 4, .inl (kA 0, 7, .inl (aI yj)))] sz)) 0 0 (va_A [(yo, .inr (6, [.ref (ya 0), .int (iI yn), .ref (ya 1), .int (iI ysc), .ref (ya 2), .int (iI ycc), .int (iI ysi), .int (iI (bI ydn)), .int (iI yft), .int (iI yfp), .ref (ya 3), .ref (ya 4)])), (ya 3, .inl (kA 0, 7, .inl (aI yr))), (ya 4, .inl (kA 0, 7, .inl (aI yj)))] sz) := by
  refine li_mwv (by decide) (Nat.le_of_ble_eq_true rfl) ?_
  intro p e s m args below meth c Q A C hP hD hBx hK hN hG hA hAi hAN fin ls hl
  obtain ⟨hx, hb, hr, hml, hown, hts, hlocks, hin⟩ := C
  have hown : s.vm.findClass R_Y = some m.cls := hown
  have hl : lv_has ls 4 [(0, .ref yo), (1, .int (iI k)), (2, .int (iI a)), (3, .int (iI b))] := hl
  suffices h9 : ∀ (H : Heap) (locs : List Loc), H = s.heap → locs = [] → W p l e (rmd 0 0 0) s m args below meth c H locs 0 0 Q (F0 m 0 ls []) from h9 _ _ rfl rfl
  intro H locs eH eL
  have hP : va_P (dC, dI) CL [(yo, .inr (6, [.ref (ya 0), .int (iI yn), .ref (ya 1), .int (iI ysc), .ref (ya 2), .int (iI ycc), .int (iI ysi), .int (iI (bI ydn)), .int (iI yft), .int (iI yfp), .ref (ya 3), .ref (ya 4)])), (ya 3, .inl (kA 0, 7, .inl (aI yr))), (ya 4, .inl (kA 0, 7, .inl (aI yj)))] H := by rw [eH]; exact hP
  have hS : va_S A s.heap H locs := by rw [eH, eL]; exact va_S.rf
  refine lv_iload_n hx hb d_Y_hold_0 rfl (lv_at hl 1 rfl) ?_
  refine li_if_lt (tgt := 27) hx hb d_Y_hold_1 (by decide) (by omega) (fun c1 => ?_) (fun c1 => ?_)
  · have _q := c1
    exact absurd c1 (by omega)
  · have _q := c1
    refine lv_iload_n hx hb d_Y_hold_4 rfl (lv_at hl 1 rfl) ?_
    refine lv_aload_n hx hb d_Y_hold_5 rfl (lv_at hl 0 rfl) ?_
    refine gf_Y_28 hx hb hts hown hK hP 0 rfl rfl d_Y_hold_6 ?_
    refine li_alen hx hb hK hP 1 0 rfl rfl d_Y_hold_9 ?_
    refine li_icmp_ge (tgt := 27) hx hb d_Y_hold_10 (by decide) (by omega) (by omega) (fun c2 => ?_) (fun c2 => ?_)
    · have _q := c2
      exact absurd c2 (by omega)
    · have _q := c2
      refine lv_aload_n hx hb d_Y_hold_13 rfl (lv_at hl 0 rfl) ?_
      refine gf_Y_28 hx hb hts hown hK hP 0 rfl rfl d_Y_hold_14 ?_
      refine lv_iload_n hx hb d_Y_hold_17 rfl (lv_at hl 1 rfl) ?_
      refine lv_iload_n hx hb d_Y_hold_18 rfl (lv_at hl 2 rfl) ?_
      refine li_iast hx hb hK hP hD hS 1 0 rfl rfl (by omega) (by omega) (by omega) d_Y_hold_19 (fun H locs hP hD hS => ?_)
      have hP : va_P (dC, dI) CL [(yo, .inr (6, [.ref (ya 0), .int (iI yn), .ref (ya 1), .int (iI ysc), .ref (ya 2), .int (iI ycc), .int (iI ysi), .int (iI (bI ydn)), .int (iI yft), .int (iI yfp), .ref (ya 3), .ref (ya 4)])), (ya 3, .inl (kA 0, 7, .inl (aI (va_up yr k.toNat a)))), (ya 4, .inl (kA 0, 7, .inl (aI yj)))] H := hP
      have hD : va_D A [(yo, .inr (6, [.ref (ya 0), .int (iI yn), .ref (ya 1), .int (iI ysc), .ref (ya 2), .int (iI ycc), .int (iI ysi), .int (iI (bI ydn)), .int (iI yft), .int (iI yfp), .ref (ya 3), .ref (ya 4)])), (ya 3, .inl (kA 0, 7, .inl (aI (va_up yr k.toNat a)))), (ya 4, .inl (kA 0, 7, .inl (aI yj)))] := hD
      refine lv_aload_n hx hb d_Y_hold_20 rfl (lv_at hl 0 rfl) ?_
      refine gf_Y_31 hx hb hts hown hK hP 0 rfl rfl d_Y_hold_21 ?_
      refine lv_iload_n hx hb d_Y_hold_24 rfl (lv_at hl 1 rfl) ?_
      refine lv_iload_n hx hb d_Y_hold_25 rfl (lv_at hl 3 rfl) ?_
      refine li_iast hx hb hK hP hD hS 2 0 rfl rfl (by omega) (by omega) (by omega) d_Y_hold_26 (fun H locs hP hD hS => ?_)
      have hP : va_P (dC, dI) CL [(yo, .inr (6, [.ref (ya 0), .int (iI yn), .ref (ya 1), .int (iI ysc), .ref (ya 2), .int (iI ycc), .int (iI ysi), .int (iI (bI ydn)), .int (iI yft), .int (iI yfp), .ref (ya 3), .ref (ya 4)])), (ya 3, .inl (kA 0, 7, .inl (aI (va_up yr k.toNat a)))), (ya 4, .inl (kA 0, 7, .inl (aI (va_up yj k.toNat b))))] H := hP
      have hD : va_D A [(yo, .inr (6, [.ref (ya 0), .int (iI yn), .ref (ya 1), .int (iI ysc), .ref (ya 2), .int (iI ycc), .int (iI ysi), .int (iI (bI ydn)), .int (iI yft), .int (iI yfp), .ref (ya 3), .ref (ya 4)])), (ya 3, .inl (kA 0, 7, .inl (aI (va_up yr k.toNat a)))), (ya 4, .inl (kA 0, 7, .inl (aI (va_up yj k.toNat b))))] := hD
      exact fin () _ _ _ _ (by trivial) (by first | exact hP | (subst_vars; exact hP)) (by first | exact hD | (subst_vars; exact hD)) hS d_Y_hold_27
theorem d_Y_heldAt_0 : decode b_Y_heldAt 0 = .ok (.iload_n 1, 1) := by decide +kernel
theorem d_Y_heldAt_1 : decode b_Y_heldAt 1 = .ok (.ifCond .lt 21, 3) := by decide +kernel
theorem d_Y_heldAt_4 : decode b_Y_heldAt 4 = .ok (.iload_n 1, 1) := by decide +kernel
theorem d_Y_heldAt_5 : decode b_Y_heldAt 5 = .ok (.aload_n 0, 1) := by decide +kernel
theorem d_Y_heldAt_6 : decode b_Y_heldAt 6 = .ok (.getfield 28, 3) := by decide +kernel
theorem d_Y_heldAt_9 : decode b_Y_heldAt 9 = .ok (.arraylength, 1) := by decide +kernel
theorem d_Y_heldAt_10 : decode b_Y_heldAt 10 = .ok (.if_icmp .ge 12, 3) := by decide +kernel
theorem d_Y_heldAt_13 : decode b_Y_heldAt 13 = .ok (.aload_n 0, 1) := by decide +kernel
theorem d_Y_heldAt_14 : decode b_Y_heldAt 14 = .ok (.getfield 28, 3) := by decide +kernel
theorem d_Y_heldAt_17 : decode b_Y_heldAt 17 = .ok (.iload_n 1, 1) := by decide +kernel
theorem d_Y_heldAt_18 : decode b_Y_heldAt 18 = .ok (.iaload, 1) := by decide +kernel
theorem d_Y_heldAt_19 : decode b_Y_heldAt 19 = .ok (.goto 4, 3) := by decide +kernel
theorem d_Y_heldAt_22 : decode b_Y_heldAt 22 = .ok (.iconst 0, 1) := by decide +kernel
theorem d_Y_heldAt_23 : decode b_Y_heldAt 23 = .ok (.ireturn, 1) := by decide +kernel
set_option maxHeartbeats 4000000 in
set_option maxRecDepth 100000 in
theorem c_Y_heldAt (l : Launch) (dC : Nat → ClassId) (dI : Nat → Nat → Nat) (kA : Nat → ClassId) (yo : Nat) (ya : Nat → Nat) (yn : Int) (ysc : Int) (ycc : Int) (ysi : Int) (yft : Int) (yfp : Int) (ydn : Bool) (yr : Nat → Int) (k : Int) (hk : 0 ≤ k ∧ k ≤ 6) : Met l y_Y_heldAt (wsy y_Y_heldAt b_Y_heldAt 2 (some .int)) (rmd 0 0 0) (li_Pr (dC, dI) CL (TY kA) [.ref yo, .int (iI k)] (va_P (dC, dI) CL [(yo, .inr (6, [.ref (ya 0), .int (iI yn), .ref (ya 1), .int (iI ysc), .ref (ya 2), .int (iI ycc), .int (iI ysi), .int (iI (bI ydn)), .int (iI yft), .int (iI yfp), .ref (ya 3), .ref (ya 4)])), (ya 3, .inl (kA 0, 7, .inl (aI yr)))])) (k2_QcV (.int (iI (yr k.toNat)))) 0 0 (fun _ => False) := by
  refine li_mr (by decide) (Nat.le_of_ble_eq_true rfl) (by rfl) ?_
  intro p e s m args below meth c Q C hP hK hN hG fin ls hl
  obtain ⟨hx, hb, hr, hml, hown, hts, hlocks, hin⟩ := C
  have hown : s.vm.findClass R_Y = some m.cls := hown
  have hP : va_P (dC, dI) CL [(yo, .inr (6, [.ref (ya 0), .int (iI yn), .ref (ya 1), .int (iI ysc), .ref (ya 2), .int (iI ycc), .int (iI ysi), .int (iI (bI ydn)), .int (iI yft), .int (iI yfp), .ref (ya 3), .ref (ya 4)])), (ya 3, .inl (kA 0, 7, .inl (aI yr)))] s.heap := hP
  have hl : lv_has ls 2 [(0, .ref yo), (1, .int (iI k))] := hl
  refine lv_iload_n hx hb d_Y_heldAt_0 rfl (lv_at hl 1 rfl) ?_
  refine li_if_lt (tgt := 22) hx hb d_Y_heldAt_1 (by decide) (by omega) (fun c1 => ?_) (fun c1 => ?_)
  · have _q := c1
    exact absurd c1 (by omega)
  · have _q := c1
    refine lv_iload_n hx hb d_Y_heldAt_4 rfl (lv_at hl 1 rfl) ?_
    refine lv_aload_n hx hb d_Y_heldAt_5 rfl (lv_at hl 0 rfl) ?_
    refine gf_Y_28 hx hb hts hown hK hP 0 rfl rfl d_Y_heldAt_6 ?_
    refine li_alen hx hb hK hP 1 0 rfl rfl d_Y_heldAt_9 ?_
    refine li_icmp_ge (tgt := 22) hx hb d_Y_heldAt_10 (by decide) (by omega) (by omega) (fun c2 => ?_) (fun c2 => ?_)
    · have _q := c2
      exact absurd c2 (by omega)
    · have _q := c2
      refine lv_aload_n hx hb d_Y_heldAt_13 rfl (lv_at hl 0 rfl) ?_
      refine gf_Y_28 hx hb hts hown hK hP 0 rfl rfl d_Y_heldAt_14 ?_
      refine lv_iload_n hx hb d_Y_heldAt_17 rfl (lv_at hl 1 rfl) ?_
      refine li_iald hx hb hK hP 1 0 rfl rfl (by omega) (by omega) (by omega) d_Y_heldAt_18 ?_
      refine lv_goto (tgt := 23) hx hb d_Y_heldAt_19 (by decide) ?_
      exact fin _ _ _ (by rfl) d_Y_heldAt_23
theorem d_Y_join_0 : decode b_Y_join 0 = .ok (.iload_n 1, 1) := by decide +kernel
theorem d_Y_join_1 : decode b_Y_join 1 = .ok (.ifCond .lt 12, 3) := by decide +kernel
theorem d_Y_join_4 : decode b_Y_join 4 = .ok (.iload_n 1, 1) := by decide +kernel
theorem d_Y_join_5 : decode b_Y_join 5 = .ok (.aload_n 0, 1) := by decide +kernel
theorem d_Y_join_6 : decode b_Y_join 6 = .ok (.getfield 28, 3) := by decide +kernel
theorem d_Y_join_9 : decode b_Y_join 9 = .ok (.arraylength, 1) := by decide +kernel
theorem d_Y_join_10 : decode b_Y_join 10 = .ok (.if_icmp .lt 4, 3) := by decide +kernel
theorem d_Y_join_13 : decode b_Y_join 13 = .ok (.return_, 1) := by decide +kernel
theorem d_Y_join_14 : decode b_Y_join 14 = .ok (.aload_n 0, 1) := by decide +kernel
theorem d_Y_join_15 : decode b_Y_join 15 = .ok (.getfield 31, 3) := by decide +kernel
theorem d_Y_join_18 : decode b_Y_join 18 = .ok (.iload_n 1, 1) := by decide +kernel
theorem d_Y_join_19 : decode b_Y_join 19 = .ok (.iaload, 1) := by decide +kernel
theorem d_Y_join_20 : decode b_Y_join 20 = .ok (.bipush 11, 2) := by decide +kernel
theorem d_Y_join_22 : decode b_Y_join 22 = .ok (.if_icmp .ne 16, 3) := by decide +kernel
theorem d_Y_join_25 : decode b_Y_join 25 = .ok (.aload_n 0, 1) := by decide +kernel
theorem d_Y_join_26 : decode b_Y_join 26 = .ok (.getfield 28, 3) := by decide +kernel
theorem d_Y_join_29 : decode b_Y_join 29 = .ok (.iload_n 1, 1) := by decide +kernel
theorem d_Y_join_30 : decode b_Y_join 30 = .ok (.dup2, 1) := by decide +kernel
theorem d_Y_join_31 : decode b_Y_join 31 = .ok (.iaload, 1) := by decide +kernel
theorem d_Y_join_32 : decode b_Y_join 32 = .ok (.iload_n 2, 1) := by decide +kernel
theorem d_Y_join_33 : decode b_Y_join 33 = .ok (.iand, 1) := by decide +kernel
theorem d_Y_join_34 : decode b_Y_join 34 = .ok (.iastore, 1) := by decide +kernel
theorem d_Y_join_35 : decode b_Y_join 35 = .ok (.goto 39, 3) := by decide +kernel
theorem d_Y_join_38 : decode b_Y_join 38 = .ok (.aload_n 0, 1) := by decide +kernel
theorem d_Y_join_39 : decode b_Y_join 39 = .ok (.getfield 31, 3) := by decide +kernel
theorem d_Y_join_42 : decode b_Y_join 42 = .ok (.iload_n 1, 1) := by decide +kernel
theorem d_Y_join_43 : decode b_Y_join 43 = .ok (.iaload, 1) := by decide +kernel
theorem d_Y_join_44 : decode b_Y_join 44 = .ok (.bipush 13, 2) := by decide +kernel
theorem d_Y_join_46 : decode b_Y_join 46 = .ok (.if_icmp .ne 18, 3) := by decide +kernel
theorem d_Y_join_49 : decode b_Y_join 49 = .ok (.aload_n 0, 1) := by decide +kernel
theorem d_Y_join_50 : decode b_Y_join 50 = .ok (.getfield 28, 3) := by decide +kernel
theorem d_Y_join_53 : decode b_Y_join 53 = .ok (.iload_n 1, 1) := by decide +kernel
theorem d_Y_join_54 : decode b_Y_join 54 = .ok (.dup2, 1) := by decide +kernel
theorem d_Y_join_55 : decode b_Y_join 55 = .ok (.iaload, 1) := by decide +kernel
theorem d_Y_join_56 : decode b_Y_join 56 = .ok (.iload_n 2, 1) := by decide +kernel
theorem d_Y_join_57 : decode b_Y_join 57 = .ok (.iconst (-1), 1) := by decide +kernel
theorem d_Y_join_58 : decode b_Y_join 58 = .ok (.ixor, 1) := by decide +kernel
theorem d_Y_join_59 : decode b_Y_join 59 = .ok (.iand, 1) := by decide +kernel
theorem d_Y_join_60 : decode b_Y_join 60 = .ok (.iastore, 1) := by decide +kernel
theorem d_Y_join_61 : decode b_Y_join 61 = .ok (.goto 13, 3) := by decide +kernel
theorem d_Y_join_64 : decode b_Y_join 64 = .ok (.aload_n 0, 1) := by decide +kernel
theorem d_Y_join_65 : decode b_Y_join 65 = .ok (.getfield 28, 3) := by decide +kernel
theorem d_Y_join_68 : decode b_Y_join 68 = .ok (.iload_n 1, 1) := by decide +kernel
theorem d_Y_join_69 : decode b_Y_join 69 = .ok (.dup2, 1) := by decide +kernel
theorem d_Y_join_70 : decode b_Y_join 70 = .ok (.iaload, 1) := by decide +kernel
theorem d_Y_join_71 : decode b_Y_join 71 = .ok (.iload_n 2, 1) := by decide +kernel
theorem d_Y_join_72 : decode b_Y_join 72 = .ok (.ior, 1) := by decide +kernel
theorem d_Y_join_73 : decode b_Y_join 73 = .ok (.iastore, 1) := by decide +kernel
theorem d_Y_join_74 : decode b_Y_join 74 = .ok (.return_, 1) := by decide +kernel
set_option maxHeartbeats 4000000 in
set_option maxRecDepth 100000 in
theorem c_Y_join (l : Launch) (dC : Nat → ClassId) (dI : Nat → Nat → Nat) (kA : Nat → ClassId) (sz : Nat) (yo : Nat) (ya : Nat → Nat) (yn : Int) (ysc : Int) (ycc : Int) (ysi : Int) (yft : Int) (yfp : Int) (ydn : Bool) (yr : Nat → Int) (yj : Nat → Int) (k : Int) (a : Int) (hk : 0 ≤ k ∧ k ≤ 6) (hyj : ∀ j, 0 ≤ yj j ∧ yj j ≤ 20) : Met l y_Y_join (wsy y_Y_join b_Y_join 3 none) (rmd 0 0 0) (li_Pr (dC, dI) CL (TY kA) [.ref yo, .int (iI k), .int (iI a)] (fun h => h.size = sz ∧ va_P (dC, dI) CL [(yo, .inr (6, [.ref (ya 0), .int (iI yn), .ref (ya 1), .int (iI ysc), .ref (ya 2), .int (iI ycc), .int (iI ysi), .int (iI (bI ydn)), .int (iI yft), .int (iI yfp), .ref (ya 3), .ref (ya 4)])), (ya 3, .inl (kA 0, 7, .inl (aI yr))), (ya 4, .inl (kA 0, 7, .inl (aI yj)))] h ∧ va_D (fun q => dI 100 0 ≤ q) [(yo, .inr (6, [.ref (ya 0), .int (iI yn), .ref (ya 1), .int (iI ysc), .ref (ya 2), .int (iI ycc), .int (iI ysi), .int (iI (bI ydn)), .int (iI yft), .int (iI yfp), .ref (ya 3), .ref (ya 4)])), (ya 3, .inl (kA 0, 7, .inl (aI yr))), (ya 4, .inl (kA 0, 7, .inl (aI yj)))] ∧ (fun _ => True) h)) (li_Qw (S := Unit) (dC, dI) CL (fun _ => True) (fun _ => none) (fun _ => [(yo, .inr (6, [.ref (ya 0), .int (iI yn), .ref (ya 1), .int (iI ysc), .ref (ya 2), .int (iI ycc), .int (iI ysi), .int (iI (bI ydn)), .int (iI yft), .int (iI yfp), .ref (ya 3), .ref (ya 4)])), (ya 3, .inl (kA 0, 7, .inl (aI (va_up yr k.toNat (jnC (yj k.toNat) (yr k.toNat) a))))), (ya 4, .inl (kA 0, 7, .inl (aI yj)))]) (va_A [(yo, .inr (6, [.ref (ya 0), .int (iI yn), .ref (ya 1), .int (iI ysc), .ref (ya 2), .int (iI ycc), .int (iI ysi), .int (iI (bI ydn)), .int (iI yft), .int (iI yfp), .ref (ya 3), .ref (ya 4)])), (ya 3, .inl (kA 0, 7, .inl (aI yr))), (ya 4, .inl (kA 0, 7, .inl (aI yj)))] sz)) 0 0 (va_A [(yo, .inr (6, [.ref (ya 0), .int (iI yn), .ref (ya 1), .int (iI ysc), .ref (ya 2), .int (iI ycc), .int (iI ysi), .int (iI (bI ydn)), .int (iI yft), .int (iI yfp), .ref (ya 3), .ref (ya 4)])), (ya 3, .inl (kA 0, 7, .inl (aI yr))), (ya 4, .inl (kA 0, 7, .inl (aI yj)))] sz) := by
  refine li_mwv (by decide) (Nat.le_of_ble_eq_true rfl) ?_
  intro p e s m args below meth c Q A C hP hD hBx hK hN hG hA hAi hAN fin ls hl
  obtain ⟨hx, hb, hr, hml, hown, hts, hlocks, hin⟩ := C
  have hown : s.vm.findClass R_Y = some m.cls := hown
  have hl : lv_has ls 3 [(0, .ref yo), (1, .int (iI k)), (2, .int (iI a))] := hl
  suffices h9 : ∀ (H : Heap) (locs : List Loc), H = s.heap → locs = [] → W p l e (rmd 0 0 0) s m args below meth c H locs 0 0 Q (F0 m 0 ls []) from h9 _ _ rfl rfl
  intro H locs eH eL
  have hP : va_P (dC, dI) CL [(yo, .inr (6, [.ref (ya 0), .int (iI yn), .ref (ya 1), .int (iI ysc), .ref (ya 2), .int (iI ycc), .int (iI ysi), .int (iI (bI ydn)), .int (iI yft), .int (iI yfp), .ref (ya 3), .ref (ya 4)])), (ya 3, .inl (kA 0, 7, .inl (aI yr))), (ya 4, .inl (kA 0, 7, .inl (aI yj)))] H := by rw [eH]; exact hP
  have hS : va_S A s.heap H locs := by rw [eH, eL]; exact va_S.rf
  refine lv_iload_n hx hb d_Y_join_0 rfl (lv_at hl 1 rfl) ?_
  refine li_if_lt (tgt := 13) hx hb d_Y_join_1 (by decide) (by omega) (fun c1 => ?_) (fun c1 => ?_)
  · have _q := c1
    exact absurd c1 (by omega)
  · have _q := c1
    refine lv_iload_n hx hb d_Y_join_4 rfl (lv_at hl 1 rfl) ?_
    refine lv_aload_n hx hb d_Y_join_5 rfl (lv_at hl 0 rfl) ?_
    refine gf_Y_28 hx hb hts hown hK hP 0 rfl rfl d_Y_join_6 ?_
    refine li_alen hx hb hK hP 1 0 rfl rfl d_Y_join_9 ?_
    refine li_icmp_lt (tgt := 14) hx hb d_Y_join_10 (by decide) (by omega) (by omega) (fun c2 => ?_) (fun c2 => ?_)
    · have _q := c2
      refine lv_aload_n hx hb d_Y_join_14 rfl (lv_at hl 0 rfl) ?_
      refine gf_Y_31 hx hb hts hown hK hP 0 rfl rfl d_Y_join_15 ?_
      refine lv_iload_n hx hb d_Y_join_18 rfl (lv_at hl 1 rfl) ?_
      refine li_iald hx hb hK hP 2 0 rfl rfl (by omega) (by omega) (by omega) d_Y_join_19 ?_
      have f3 := hyj k.toNat
      refine lv_bipush (v := iI 11) hx hb d_Y_join_20 (by decide) ?_
      refine li_icmp_ne (tgt := 38) hx hb d_Y_join_22 (by decide) (by omega) (by omega) (fun c4 => ?_) (fun c4 => ?_)
      · have _q := c4
        refine lv_aload_n hx hb d_Y_join_38 rfl (lv_at hl 0 rfl) ?_
        refine gf_Y_31 hx hb hts hown hK hP 0 rfl rfl d_Y_join_39 ?_
        refine lv_iload_n hx hb d_Y_join_42 rfl (lv_at hl 1 rfl) ?_
        refine li_iald hx hb hK hP 2 0 rfl rfl (by omega) (by omega) (by omega) d_Y_join_43 ?_
        have f5 := hyj k.toNat
        refine lv_bipush (v := iI 13) hx hb d_Y_join_44 (by decide) ?_
        refine li_icmp_ne (tgt := 64) hx hb d_Y_join_46 (by decide) (by omega) (by omega) (fun c6 => ?_) (fun c6 => ?_)
        · have _q := c6
          refine lv_aload_n hx hb d_Y_join_64 rfl (lv_at hl 0 rfl) ?_
          refine gf_Y_28 hx hb hts hown hK hP 0 rfl rfl d_Y_join_65 ?_
          refine lv_iload_n hx hb d_Y_join_68 rfl (lv_at hl 1 rfl) ?_
          refine lv_dup2_11 hx hb d_Y_join_69 rfl rfl ?_
          refine li_iald hx hb hK hP 1 0 rfl rfl (by omega) (by omega) (by omega) d_Y_join_70 ?_
          refine lv_iload_n hx hb d_Y_join_71 rfl (lv_at hl 2 rfl) ?_
          refine li_iorI hx hb d_Y_join_72 ?_
          refine li_iast hx hb hK hP hD hS 1 0 rfl rfl (by omega) (by omega) (by omega) d_Y_join_73 (fun H locs hP hD hS => ?_)
          have hP : va_P (dC, dI) CL [(yo, .inr (6, [.ref (ya 0), .int (iI yn), .ref (ya 1), .int (iI ysc), .ref (ya 2), .int (iI ycc), .int (iI ysi), .int (iI (bI ydn)), .int (iI yft), .int (iI yfp), .ref (ya 3), .ref (ya 4)])), (ya 3, .inl (kA 0, 7, .inl (aI (va_up yr k.toNat (orI (yr k.toNat) a))))), (ya 4, .inl (kA 0, 7, .inl (aI yj)))] H := hP
          have hD : va_D A [(yo, .inr (6, [.ref (ya 0), .int (iI yn), .ref (ya 1), .int (iI ysc), .ref (ya 2), .int (iI ycc), .int (iI ysi), .int (iI (bI ydn)), .int (iI yft), .int (iI yfp), .ref (ya 3), .ref (ya 4)])), (ya 3, .inl (kA 0, 7, .inl (aI (va_up yr k.toNat (orI (yr k.toNat) a))))), (ya 4, .inl (kA 0, 7, .inl (aI yj)))] := hD
          exact fin () _ _ _ _ (by trivial) (by unfold jnC; (repeat (first | rw [if_pos (by omega)] | rw [if_neg (by omega)])); exact hP) (by unfold jnC; (repeat (first | rw [if_pos (by omega)] | rw [if_neg (by omega)])); exact hD) hS d_Y_join_74
        · have _q := c6
          refine lv_aload_n hx hb d_Y_join_49 rfl (lv_at hl 0 rfl) ?_
          refine gf_Y_28 hx hb hts hown hK hP 0 rfl rfl d_Y_join_50 ?_
          refine lv_iload_n hx hb d_Y_join_53 rfl (lv_at hl 1 rfl) ?_
          refine lv_dup2_11 hx hb d_Y_join_54 rfl rfl ?_
          refine li_iald hx hb hK hP 1 0 rfl rfl (by omega) (by omega) (by omega) d_Y_join_55 ?_
          refine lv_iload_n hx hb d_Y_join_56 rfl (lv_at hl 2 rfl) ?_
          refine lv_iconst (v := iI (-1)) hx hb d_Y_join_57 rfl ?_
          refine li_ixorI hx hb d_Y_join_58 ?_
          refine li_iandI hx hb d_Y_join_59 ?_
          refine li_iast hx hb hK hP hD hS 1 0 rfl rfl (by omega) (by omega) (by omega) d_Y_join_60 (fun H locs hP hD hS => ?_)
          have hP : va_P (dC, dI) CL [(yo, .inr (6, [.ref (ya 0), .int (iI yn), .ref (ya 1), .int (iI ysc), .ref (ya 2), .int (iI ycc), .int (iI ysi), .int (iI (bI ydn)), .int (iI yft), .int (iI yfp), .ref (ya 3), .ref (ya 4)])), (ya 3, .inl (kA 0, 7, .inl (aI (va_up yr k.toNat (andI (yr k.toNat) (xorI a (-1))))))), (ya 4, .inl (kA 0, 7, .inl (aI yj)))] H := hP
          have hD : va_D A [(yo, .inr (6, [.ref (ya 0), .int (iI yn), .ref (ya 1), .int (iI ysc), .ref (ya 2), .int (iI ycc), .int (iI ysi), .int (iI (bI ydn)), .int (iI yft), .int (iI yfp), .ref (ya 3), .ref (ya 4)])), (ya 3, .inl (kA 0, 7, .inl (aI (va_up yr k.toNat (andI (yr k.toNat) (xorI a (-1))))))), (ya 4, .inl (kA 0, 7, .inl (aI yj)))] := hD
          refine lv_goto (tgt := 74) hx hb d_Y_join_61 (by decide) ?_
          exact fin () _ _ _ _ (by trivial) (by unfold jnC; (repeat (first | rw [if_pos (by omega)] | rw [if_neg (by omega)])); exact hP) (by unfold jnC; (repeat (first | rw [if_pos (by omega)] | rw [if_neg (by omega)])); exact hD) hS d_Y_join_74
      · have _q := c4
        refine lv_aload_n hx hb d_Y_join_25 rfl (lv_at hl 0 rfl) ?_
        refine gf_Y_28 hx hb hts hown hK hP 0 rfl rfl d_Y_join_26 ?_
        refine lv_iload_n hx hb d_Y_join_29 rfl (lv_at hl 1 rfl) ?_
        refine lv_dup2_11 hx hb d_Y_join_30 rfl rfl ?_
        refine li_iald hx hb hK hP 1 0 rfl rfl (by omega) (by omega) (by omega) d_Y_join_31 ?_
        refine lv_iload_n hx hb d_Y_join_32 rfl (lv_at hl 2 rfl) ?_
        refine li_iandI hx hb d_Y_join_33 ?_
        refine li_iast hx hb hK hP hD hS 1 0 rfl rfl (by omega) (by omega) (by omega) d_Y_join_34 (fun H locs hP hD hS => ?_)
        have hP : va_P (dC, dI) CL [(yo, .inr (6, [.ref (ya 0), .int (iI yn), .ref (ya 1), .int (iI ysc), .ref (ya 2), .int (iI ycc), .int (iI ysi), .int (iI (bI ydn)), .int (iI yft), .int (iI yfp), .ref (ya 3), .ref (ya 4)])), (ya 3, .inl (kA 0, 7, .inl (aI (va_up yr k.toNat (andI (yr k.toNat) a))))), (ya 4, .inl (kA 0, 7, .inl (aI yj)))] H := hP
        have hD : va_D A [(yo, .inr (6, [.ref (ya 0), .int (iI yn), .ref (ya 1), .int (iI ysc), .ref (ya 2), .int (iI ycc), .int (iI ysi), .int (iI (bI ydn)), .int (iI yft), .int (iI yfp), .ref (ya 3), .ref (ya 4)])), (ya 3, .inl (kA 0, 7, .inl (aI (va_up yr k.toNat (andI (yr k.toNat) a))))), (ya 4, .inl (kA 0, 7, .inl (aI yj)))] := hD
        refine lv_goto (tgt := 74) hx hb d_Y_join_35 (by decide) ?_
        exact fin () _ _ _ _ (by trivial) (by unfold jnC; (repeat (first | rw [if_pos (by omega)] | rw [if_neg (by omega)])); exact hP) (by unfold jnC; (repeat (first | rw [if_pos (by omega)] | rw [if_neg (by omega)])); exact hD) hS d_Y_join_74
    · have _q := c2
      exact absurd c2 (by omega)
theorem d_Y_readIndex_0 : decode b_Y_readIndex 0 = .ok (.aload_n 0, 1) := by decide +kernel
theorem d_Y_readIndex_1 : decode b_Y_readIndex 1 = .ok (.getfield 12, 3) := by decide +kernel
theorem d_Y_readIndex_4 : decode b_Y_readIndex 4 = .ok (.aload_n 0, 1) := by decide +kernel
theorem d_Y_readIndex_5 : decode b_Y_readIndex 5 = .ok (.getfield 39, 3) := by decide +kernel
theorem d_Y_readIndex_8 : decode b_Y_readIndex 8 = .ok (.invokevirtual 104, 3) := by decide +kernel
theorem d_Y_readIndex_11 : decode b_Y_readIndex 11 = .ok (.istore_n 1, 1) := by decide +kernel
theorem d_Y_readIndex_12 : decode b_Y_readIndex 12 = .ok (.iload_n 1, 1) := by decide +kernel
theorem d_Y_readIndex_13 : decode b_Y_readIndex 13 = .ok (.iconst (-1), 1) := by decide +kernel
theorem d_Y_readIndex_14 : decode b_Y_readIndex 14 = .ok (.if_icmp .ne 9, 3) := by decide +kernel
theorem d_Y_readIndex_17 : decode b_Y_readIndex 17 = .ok (.aload_n 0, 1) := by decide +kernel
theorem d_Y_readIndex_18 : decode b_Y_readIndex 18 = .ok (.bipush (-3), 2) := by decide +kernel
theorem d_Y_readIndex_20 : decode b_Y_readIndex 20 = .ok (.invokevirtual 101, 3) := by decide +kernel
theorem d_Y_readIndex_23 : decode b_Y_readIndex 23 = .ok (.aload_n 0, 1) := by decide +kernel
theorem d_Y_readIndex_24 : decode b_Y_readIndex 24 = .ok (.dup, 1) := by decide +kernel
theorem d_Y_readIndex_25 : decode b_Y_readIndex 25 = .ok (.getfield 39, 3) := by decide +kernel
theorem d_Y_readIndex_28 : decode b_Y_readIndex 28 = .ok (.iconst 1, 1) := by decide +kernel
theorem d_Y_readIndex_29 : decode b_Y_readIndex 29 = .ok (.iadd, 1) := by decide +kernel
theorem d_Y_readIndex_30 : decode b_Y_readIndex 30 = .ok (.putfield 39, 3) := by decide +kernel
theorem d_Y_readIndex_33 : decode b_Y_readIndex 33 = .ok (.iload_n 1, 1) := by decide +kernel
theorem d_Y_readIndex_34 : decode b_Y_readIndex 34 = .ok (.ireturn, 1) := by decide +kernel
set_option maxHeartbeats 4000000 in
set_option maxRecDepth 100000 in
theorem c_Y_readIndex (l : Launch) (dC : Nat → ClassId) (dI : Nat → Nat → Nat) (kA : Nat → ClassId) (sz : Nat) (yo : Nat) (ya : Nat → Nat) (yn : Int) (ysc : Int) (ycc : Int) (ysi : Int) (yft : Int) (yfp : Int) (ydn : Bool) (la : Nat) (nl : Nat) (lc : Nat → Int) (kn : Int) (ga : Nat) (gb : Nat) (gc : Nat) (kz : Int) (gk : Nat → Int) (gs : Nat → Int) (ge : Nat → Int) (hKR : KR nl lc kn kz gk gs ge) (hyn : 0 ≤ yn ∧ yn ≤ 1000) (hft : -2147483648 ≤ yft ∧ yft < 2147483648) : Met l y_Y_readIndex (wsy y_Y_readIndex b_Y_readIndex 2 (some .int)) (rmd 6 0 0) (li_Pr (dC, dI) CL (TY kA) [.ref yo] (fun h => h.size = sz ∧ va_P (dC, dI) CL [(yo, .inr (6, [.ref (ya 0), .int (iI yn), .ref (ya 1), .int (iI ysc), .ref (ya 2), .int (iI ycc), .int (iI ysi), .int (iI (bI ydn)), .int (iI yft), .int (iI yfp), .ref (ya 3), .ref (ya 4)])), (ya 0, .inr (8, [.ref la, .int (iI kn), .ref ga, .ref gb, .ref gc, .int (iI kz)])), (ga, .inl (kA 0, 100, .inl (aI gk))), (gb, .inl (kA 0, 100, .inl (aI gs))), (gc, .inl (kA 0, 100, .inl (aI ge)))] h ∧ va_D (fun q => dI 100 0 ≤ q) [(yo, .inr (6, [.ref (ya 0), .int (iI yn), .ref (ya 1), .int (iI ysc), .ref (ya 2), .int (iI ycc), .int (iI ysi), .int (iI (bI ydn)), .int (iI yft), .int (iI yfp), .ref (ya 3), .ref (ya 4)])), (ya 0, .inr (8, [.ref la, .int (iI kn), .ref ga, .ref gb, .ref gc, .int (iI kz)])), (ga, .inl (kA 0, 100, .inl (aI gk))), (gb, .inl (kA 0, 100, .inl (aI gs))), (gc, .inl (kA 0, 100, .inl (aI ge)))] ∧ (fun h => va_P (dC, dI) CL [(la, .inl (kA 1, nl, .inl (aI lc)))] h ∧ Dsj [(la, .inl (kA 1, nl, .inl (aI lc)))] [(yo, .inr (6, [.ref (ya 0), .int (iI yn), .ref (ya 1), .int (iI ysc), .ref (ya 2), .int (iI ycc), .int (iI ysi), .int (iI (bI ydn)), .int (iI yft), .int (iI yfp), .ref (ya 3), .ref (ya 4)])), (ya 0, .inr (8, [.ref la, .int (iI kn), .ref ga, .ref gb, .ref gc, .int (iI kz)])), (ga, .inl (kA 0, 100, .inl (aI gk))), (gb, .inl (kA 0, 100, .inl (aI gs))), (gc, .inl (kA 0, 100, .inl (aI ge)))]) h)) (li_Qw (S := (Int) × (Int) × (Int)) (dC, dI) CL (fun u => u.2.2 = yn + 1 ∧ (u.1, u.2.1) = (if ixA lc kn gs ge kz yn = -1 then ynS yft (-3) (seF gs kz kn yn) yfp else (yft, yfp))) (fun u => some (.int (iI (ixA lc kn gs ge kz yn)))) (fun u => [(yo, .inr (6, [.ref (ya 0), .int (iI u.2.2), .ref (ya 1), .int (iI ysc), .ref (ya 2), .int (iI ycc), .int (iI ysi), .int (iI (bI ydn)), .int (iI u.1), .int (iI u.2.1), .ref (ya 3), .ref (ya 4)])), (ya 0, .inr (8, [.ref la, .int (iI kn), .ref ga, .ref gb, .ref gc, .int (iI kz)])), (ga, .inl (kA 0, 100, .inl (aI gk))), (gb, .inl (kA 0, 100, .inl (aI gs))), (gc, .inl (kA 0, 100, .inl (aI ge)))]) (va_A [(yo, .inr (6, [.ref (ya 0), .int (iI yn), .ref (ya 1), .int (iI ysc), .ref (ya 2), .int (iI ycc), .int (iI ysi), .int (iI (bI ydn)), .int (iI yft), .int (iI yfp), .ref (ya 3), .ref (ya 4)])), (ya 0, .inr (8, [.ref la, .int (iI kn), .ref ga, .ref gb, .ref gc, .int (iI kz)])), (ga, .inl (kA 0, 100, .inl (aI gk))), (gb, .inl (kA 0, 100, .inl (aI gs))), (gc, .inl (kA 0, 100, .inl (aI ge)))] sz)) 0 0 (va_A [(yo, .inr (6, [.ref (ya 0), .int (iI yn), .ref (ya 1), .int (iI ysc), .ref (ya 2), .int (iI ycc), .int (iI ysi), .int (iI (bI ydn)), .int (iI yft), .int (iI yfp), .ref (ya 3), .ref (ya 4)])), (ya 0, .inr (8, [.ref la, .int (iI kn), .ref ga, .ref gb, .ref gc, .int (iI kz)])), (ga, .inl (kA 0, 100, .inl (aI gk))), (gb, .inl (kA 0, 100, .inl (aI gs))), (gc, .inl (kA 0, 100, .inl (aI ge)))] sz) := by
  refine li_mwi (r := fun (u : (Int) × (Int) × (Int)) => ixA lc kn gs ge kz yn) (by decide) (Nat.le_of_ble_eq_true rfl) (fun u _ => by rfl) ?_
  intro p e s m args below meth c Q A C hP hD hBx hK hN hG hA hAi hAN fin ls hl
  obtain ⟨hx, hb, hr, hml, hown, hts, hlocks, hin⟩ := C
  have hown : s.vm.findClass R_Y = some m.cls := hown
  obtain ⟨hRo, hDj⟩ := hBx
  have hRo : va_P (dC, dI) CL [(la, .inl (kA 1, nl, .inl (aI lc)))] s.heap := hRo
  have hRoN := li_roN (A := A) hRo hDj hAi
  have hl : lv_has ls 2 [(0, .ref yo)] := hl
  obtain ⟨hnl, hkn, hkz, hlc, hgk, hgs, hge⟩ := id hKR
  suffices h9 : ∀ (H : Heap) (locs : List Loc), H = s.heap → locs = [] → W p l e (rmd 6 0 0) s m args below meth c H locs 0 0 Q (F0 m 0 ls []) from h9 _ _ rfl rfl
  intro H locs eH eL
  have hP : va_P (dC, dI) CL [(yo, .inr (6, [.ref (ya 0), .int (iI yn), .ref (ya 1), .int (iI ysc), .ref (ya 2), .int (iI ycc), .int (iI ysi), .int (iI (bI ydn)), .int (iI yft), .int (iI yfp), .ref (ya 3), .ref (ya 4)])), (ya 0, .inr (8, [.ref la, .int (iI kn), .ref ga, .ref gb, .ref gc, .int (iI kz)])), (ga, .inl (kA 0, 100, .inl (aI gk))), (gb, .inl (kA 0, 100, .inl (aI gs))), (gc, .inl (kA 0, 100, .inl (aI ge)))] H := by rw [eH]; exact hP
  have hS : va_S A s.heap H locs := by rw [eH, eL]; exact va_S.rf
  refine lv_aload_n hx hb d_Y_readIndex_0 rfl (lv_at hl 0 rfl) ?_
  refine gf_Y_12 hx hb hts hown hK hP 0 rfl rfl d_Y_readIndex_1 ?_
  refine lv_aload_n hx hb d_Y_readIndex_4 rfl (lv_at hl 0 rfl) ?_
  refine gf_Y_39 hx hb hts hown hK hP 0 rfl rfl d_Y_readIndex_5 ?_
  refine li_callr ((va_runV (As := [.int (iI yn)]) (rest := []) ⟨hx, hb, hml, hown, hts⟩ (c_K_indexAt l dC dI kA (ya 0) la nl lc kn ga gb gc kz gk gs ge yn (by exact hKR) (by omega)) (cw_Y_104 hts rfl rfl ⟨Nat.le_of_ble_eq_true rfl, Nat.le_of_ble_eq_true rfl⟩) (li_preV (va_recv hK hP (ci := 8) (q0 := 1) rfl rfl) (va_P.app (hP.sub [1] rfl) (va_P.app (hP.sub [2] rfl) (va_P.app (hP.sub [3] rfl) (va_P.app (hP.sub [4] rfl) ((li_ro hRo hRoN hS).sub [0] rfl))))) hK hN (hG.go hS hAN)) rfl rfl hl.1 rfl (lv_room (Nat.le_of_ble_eq_true rfl)) d_Y_readIndex_8 ⟨(by show 0 + 0 ≤ 0; omega), (by show 0 + 0 ≤ 0; omega)⟩).run) ?_
  refine li_nm (fun ix eix => ?_)
  refine lv_istore_n (lv' := [(1, .int (iI ix)), (0, .ref yo)]) hx hb d_Y_readIndex_11 rfl hl (by decide) rfl (fun ls hl => ?_)
  have eix2 : ixA lc kn gs ge kz yn = ix := eix.symm
  have hixr := ixL_r (lc := lc) (kn := kn) (x := seF gs kz kn yn) (y := seF ge kz kn yn) 6 0 (by omega)
  rw [show ixL lc kn (seF gs kz kn yn) (seF ge kz kn yn) 6 0 = ix from eix.symm] at hixr
  refine lv_iload_n hx hb d_Y_readIndex_12 rfl (lv_at hl 0 rfl) ?_
  refine lv_iconst (v := iI (-1)) hx hb d_Y_readIndex_13 rfl ?_
  refine li_icmp_ne (tgt := 23) hx hb d_Y_readIndex_14 (by decide) (by omega) (by omega) (fun c1 => ?_) (fun c1 => ?_)
  · have _q := c1
    refine lv_aload_n hx hb d_Y_readIndex_23 rfl (lv_at hl 1 rfl) ?_
    refine lv_dup hx hb d_Y_readIndex_24 rfl ?_
    refine gf_Y_39 hx hb hts hown hK hP 0 rfl rfl d_Y_readIndex_25 ?_
    refine lv_iconst (v := iI 1) hx hb d_Y_readIndex_28 rfl ?_
    refine li_iadd hx hb d_Y_readIndex_29 ?_
    refine li_nm (fun n_n en_n => ?_)
    refine pf_Y_39 hx hb hts hown hK hP hD hS 0 rfl (Nat.le_of_ble_eq_true rfl) d_Y_readIndex_30 (fun H locs hP hD hS => ?_)
    have hP : va_P (dC, dI) CL [(yo, .inr (6, [.ref (ya 0), .int (iI n_n), .ref (ya 1), .int (iI ysc), .ref (ya 2), .int (iI ycc), .int (iI ysi), .int (iI (bI ydn)), .int (iI yft), .int (iI yfp), .ref (ya 3), .ref (ya 4)])), (ya 0, .inr (8, [.ref la, .int (iI kn), .ref ga, .ref gb, .ref gc, .int (iI kz)])), (ga, .inl (kA 0, 100, .inl (aI gk))), (gb, .inl (kA 0, 100, .inl (aI gs))), (gc, .inl (kA 0, 100, .inl (aI ge)))] H := hP
    have hD : va_D A [(yo, .inr (6, [.ref (ya 0), .int (iI n_n), .ref (ya 1), .int (iI ysc), .ref (ya 2), .int (iI ycc), .int (iI ysi), .int (iI (bI ydn)), .int (iI yft), .int (iI yfp), .ref (ya 3), .ref (ya 4)])), (ya 0, .inr (8, [.ref la, .int (iI kn), .ref ga, .ref gb, .ref gc, .int (iI kz)])), (ga, .inl (kA 0, 100, .inl (aI gk))), (gb, .inl (kA 0, 100, .inl (aI gs))), (gc, .inl (kA 0, 100, .inl (aI ge)))] := hD
    refine lv_iload_n hx hb d_Y_readIndex_33 rfl (lv_at hl 0 rfl) ?_
    exact fin (yft, yfp, n_n) _ _ _ _ _ (by exact eix) (by show n_n = yn + 1 ∧ (yft, yfp) = (if ixA lc kn gs ge kz yn = -1 then ynS yft (-3) (seF gs kz kn yn) yfp else (yft, yfp)); rw [eix2]; first | (rw [if_pos (by omega)]; exact ⟨by omega, hp20⟩) | (rw [if_neg (by omega)]; exact ⟨by omega, rfl⟩)) (by first | exact hP | (subst_vars; exact hP)) (by first | exact hD | (subst_vars; exact hD)) hS d_Y_readIndex_34
  · have _q := c1
    refine lv_aload_n hx hb d_Y_readIndex_17 rfl (lv_at hl 1 rfl) ?_
    refine lv_bipush (v := iI (-3)) hx hb d_Y_readIndex_18 (by decide) ?_
    refine li_callw (wc := [(yo, .inr (6, [.ref (ya 0), .int (iI yn), .ref (ya 1), .int (iI ysc), .ref (ya 2), .int (iI ycc), .int (iI ysi), .int (iI (bI ydn)), .int (iI yft), .int (iI yfp), .ref (ya 3), .ref (ya 4)])), (ya 0, .inr (8, [.ref la, .int (iI kn), .ref ga, .ref gb, .ref gc, .int (iI kz)])), (ga, .inl (kA 0, 100, .inl (aI gk))), (gb, .inl (kA 0, 100, .inl (aI gs))), (gc, .inl (kA 0, 100, .inl (aI ge)))]) (wr := []) (va_runV (As := [.int (iI (-3))]) (rest := []) ⟨hx, hb, hml, hown, hts⟩ (c_Y_note l dC dI kA H.size yo ya yn ysc ycc ysi yft yfp ydn la nl lc kn ga gb gc kz gk gs ge (-3) (by exact hKR) (by omega) (by exact hft)) (cw_Y_101 hts rfl rfl ⟨Nat.le_of_ble_eq_true rfl, Nat.le_of_ble_eq_true rfl⟩) (li_preV (va_recv hK hP (ci := 6) (q0 := 0) rfl rfl) ⟨rfl, hP.sub [0, 1, 2, 3, 4] rfl, (hD.sub [0, 1, 2, 3, 4] (by decide) rfl).weaken (fun _ _ _ h => hAN _ h), ((li_ro hRo hRoN hS).sub [0] rfl), (dj_cons (dj_r (hRoN 0 _ rfl) hD [0, 1, 2, 3, 4] rfl) dj_nil)⟩ hK hN (hG.go hS hAN)) rfl rfl hl.1 rfl (lv_room (Nat.le_of_ble_eq_true rfl)) d_Y_readIndex_20 ⟨(by show 0 + 0 ≤ 0; omega), (by show 0 + 0 ≤ 0; omega)⟩) hP hD hS hA [0, 1, 2, 3, 4] [] rfl rfl (by decide) (by decide) (fun u2 H locs hu2 hP hD hS _hk => ?_)
    obtain ⟨t_n, p_n⟩ := u2
    have hP : va_P (dC, dI) CL [(yo, .inr (6, [.ref (ya 0), .int (iI yn), .ref (ya 1), .int (iI ysc), .ref (ya 2), .int (iI ycc), .int (iI ysi), .int (iI (bI ydn)), .int (iI t_n), .int (iI p_n), .ref (ya 3), .ref (ya 4)])), (ya 0, .inr (8, [.ref la, .int (iI kn), .ref ga, .ref gb, .ref gc, .int (iI kz)])), (ga, .inl (kA 0, 100, .inl (aI gk))), (gb, .inl (kA 0, 100, .inl (aI gs))), (gc, .inl (kA 0, 100, .inl (aI ge)))] H := hP
    have hD : va_D A [(yo, .inr (6, [.ref (ya 0), .int (iI yn), .ref (ya 1), .int (iI ysc), .ref (ya 2), .int (iI ycc), .int (iI ysi), .int (iI (bI ydn)), .int (iI t_n), .int (iI p_n), .ref (ya 3), .ref (ya 4)])), (ya 0, .inr (8, [.ref la, .int (iI kn), .ref ga, .ref gb, .ref gc, .int (iI kz)])), (ga, .inl (kA 0, 100, .inl (aI gk))), (gb, .inl (kA 0, 100, .inl (aI gs))), (gc, .inl (kA 0, 100, .inl (aI ge)))] := hD
    have hp20 : (t_n, p_n) = ynS yft (-3) (seF gs kz kn yn) yfp := hu2
    refine lv_aload_n hx hb d_Y_readIndex_23 rfl (lv_at hl 1 rfl) ?_
    refine lv_dup hx hb d_Y_readIndex_24 rfl ?_
    refine gf_Y_39 hx hb hts hown hK hP 0 rfl rfl d_Y_readIndex_25 ?_
    refine lv_iconst (v := iI 1) hx hb d_Y_readIndex_28 rfl ?_
    refine li_iadd hx hb d_Y_readIndex_29 ?_
    refine li_nm (fun n_n en_n => ?_)
    refine pf_Y_39 hx hb hts hown hK hP hD hS 0 rfl (Nat.le_of_ble_eq_true rfl) d_Y_readIndex_30 (fun H locs hP hD hS => ?_)
    have hP : va_P (dC, dI) CL [(yo, .inr (6, [.ref (ya 0), .int (iI n_n), .ref (ya 1), .int (iI ysc), .ref (ya 2), .int (iI ycc), .int (iI ysi), .int (iI (bI ydn)), .int (iI t_n), .int (iI p_n), .ref (ya 3), .ref (ya 4)])), (ya 0, .inr (8, [.ref la, .int (iI kn), .ref ga, .ref gb, .ref gc, .int (iI kz)])), (ga, .inl (kA 0, 100, .inl (aI gk))), (gb, .inl (kA 0, 100, .inl (aI gs))), (gc, .inl (kA 0, 100, .inl (aI ge)))] H := hP
    have hD : va_D A [(yo, .inr (6, [.ref (ya 0), .int (iI n_n), .ref (ya 1), .int (iI ysc), .ref (ya 2), .int (iI ycc), .int (iI ysi), .int (iI (bI ydn)), .int (iI t_n), .int (iI p_n), .ref (ya 3), .ref (ya 4)])), (ya 0, .inr (8, [.ref la, .int (iI kn), .ref ga, .ref gb, .ref gc, .int (iI kz)])), (ga, .inl (kA 0, 100, .inl (aI gk))), (gb, .inl (kA 0, 100, .inl (aI gs))), (gc, .inl (kA 0, 100, .inl (aI ge)))] := hD
    refine lv_iload_n hx hb d_Y_readIndex_33 rfl (lv_at hl 0 rfl) ?_
    exact fin (t_n, p_n, n_n) _ _ _ _ _ (by exact eix) (by show n_n = yn + 1 ∧ (t_n, p_n) = (if ixA lc kn gs ge kz yn = -1 then ynS yft (-3) (seF gs kz kn yn) yfp else (yft, yfp)); rw [eix2]; first | (rw [if_pos (by omega)]; exact ⟨by omega, hp20⟩) | (rw [if_neg (by omega)]; exact ⟨by omega, rfl⟩)) (by first | exact hP | (subst_vars; exact hP)) (by first | exact hD | (subst_vars; exact hD)) hS d_Y_readIndex_34

def fnF (k fc : Int) (uf : Nat → Int) : Int := if 0 ≤ k ∧ k < fc ∧ k < 10 then uf k.toNat else -1
def rcD (hd : Nat → Option HD) (r w : Int) : Int := match hd r.toNat with
  | none => -1
  | some d => if w = 0 then d.fd else if w = 1 then d.n else if w = 2 then dateF d.t d.n d.ti d.ts d.te d.tc else txCnt d.ti d.tc 0 d.tc.toNat 0 0
def ocD (hd : Nat → Option HD) (r k : Int) : Int := match hd r.toNat with
  | none => -1
  | some d => if 0 ≤ k ∧ k < d.n then d.t k.toNat else -1
theorem rcD_n {hd : Nat → Option HD} {r w : Int} (h : hd r.toNat = none) : rcD hd r w = -1 := by unfold rcD; rw [h]
theorem rcD_s {hd : Nat → Option HD} {r w : Int} {d : HD} (h : hd r.toNat = some d) : rcD hd r w = if w = 0 then d.fd else if w = 1 then d.n else if w = 2 then dateF d.t d.n d.ti d.ts d.te d.tc else txCnt d.ti d.tc 0 d.tc.toNat 0 0 := by unfold rcD; rw [h]
theorem ocD_n {hd : Nat → Option HD} {r k : Int} (h : hd r.toNat = none) : ocD hd r k = -1 := by unfold ocD; rw [h]
theorem ocD_s {hd : Nat → Option HD} {r k : Int} {d : HD} (h : hd r.toNat = some d) : ocD hd r k = if 0 ≤ k ∧ k < d.n then d.t k.toNat else -1 := by unfold ocD; rw [h]
theorem ciL_r {x : Int} : ∀ (j : Nat) (i v : Int), v ≤ ciL x j i v ∧ ciL x j i v ≤ v + j := by
  intro j
  induction j with
  | zero => intro i v; simp only [ciL]; omega
  | succ j ih => intro i v; simp only [ciL]; have := ih (i + 1) (if bytF x i = 0 then v else v + 1); split at this <;> (split <;> omega)
theorem ciM_r (x : Int) : 0 ≤ ciM x ∧ ciM x ≤ 4 := by have := ciL_r (x := x) 4 0 0; unfold ciM; omega
def fd4 (n a b c d : Int) (u : (Nat → Int) × Int) : (Nat → Int) × Int := abM d (n - 12) (abM c (n - 8) (abM b (n - 4) (abM a n u)))
def ty5 (a b c d e : Int) (u : (Nat → Int) × Int) : (Nat → Int) × Int := acM e (acM d (acM c (acM b (acM a u))))

theorem d_Q_checkRecord_0 : decode b_Q_checkRecord 0 = .ok (.iload_n 0, 1) := by decide +kernel
theorem d_Q_checkRecord_1 : decode b_Q_checkRecord 1 = .ok (.ifCond .lt 9, 3) := by decide +kernel
theorem d_Q_checkRecord_4 : decode b_Q_checkRecord 4 = .ok (.iload_n 0, 1) := by decide +kernel
theorem d_Q_checkRecord_5 : decode b_Q_checkRecord 5 = .ok (.bipush 10, 2) := by decide +kernel
theorem d_Q_checkRecord_7 : decode b_Q_checkRecord 7 = .ok (.if_icmp .lt 13, 3) := by decide +kernel
theorem d_Q_checkRecord_10 : decode b_Q_checkRecord 10 = .ok (.new 74, 3) := by decide +kernel
theorem d_Q_checkRecord_13 : decode b_Q_checkRecord 13 = .ok (.dup, 1) := by decide +kernel
theorem d_Q_checkRecord_14 : decode b_Q_checkRecord 14 = .ok (.ldc 212, 2) := by decide +kernel
theorem d_Q_checkRecord_16 : decode b_Q_checkRecord 16 = .ok (.invokespecial 78, 3) := by decide +kernel
theorem d_Q_checkRecord_19 : decode b_Q_checkRecord 19 = .ok (.athrow, 1) := by decide +kernel
theorem d_Q_checkRecord_20 : decode b_Q_checkRecord 20 = .ok (.return_, 1) := by decide +kernel
set_option maxHeartbeats 4000000 in
set_option maxRecDepth 100000 in
theorem c_Q_checkRecord (l : Launch) (dC : Nat → ClassId) (dI : Nat → Nat → Nat) (kA : Nat → ClassId) (r : Int) (hr : 0 ≤ r ∧ r ≤ 9) : Met l y_Q_checkRecord (wsy y_Q_checkRecord b_Q_checkRecord 1 none) (rmd 0 0 0) (li_Pr (dC, dI) CL (TY kA) [.int (iI r)] (va_P (dC, dI) CL [])) k0_Qc 0 0 (fun _ => False) := by
  refine li_mrv (by decide) (Nat.le_of_ble_eq_true rfl) ?_
  intro p e s m args below meth c Q C hP hK hN hG fin ls hl
  obtain ⟨hx, hb, hr, hml, hown, hts, hlocks, hin⟩ := C
  have hown : s.vm.findClass R_Q = some m.cls := hown
  have hP : va_P (dC, dI) CL [] s.heap := hP
  have hl : lv_has ls 1 [(0, .int (iI r))] := hl
  refine lv_iload_n hx hb d_Q_checkRecord_0 rfl (lv_at hl 0 rfl) ?_
  refine li_if_lt (tgt := 10) hx hb d_Q_checkRecord_1 (by decide) (by omega) (fun c1 => ?_) (fun c1 => ?_)
  · have _q := c1
    exact absurd c1 (by omega)
  · have _q := c1
    refine lv_iload_n hx hb d_Q_checkRecord_4 rfl (lv_at hl 0 rfl) ?_
    refine lv_bipush (v := iI 10) hx hb d_Q_checkRecord_5 (by decide) ?_
    refine li_icmp_lt (tgt := 20) hx hb d_Q_checkRecord_7 (by decide) (by omega) (by omega) (fun c2 => ?_) (fun c2 => ?_)
    · have _q := c2
      exact fin _ _ d_Q_checkRecord_20
    · have _q := c2
      exact absurd c2 (by omega)
theorem d_Q_checkIndex_0 : decode b_Q_checkIndex 0 = .ok (.iload_n 0, 1) := by decide +kernel
theorem d_Q_checkIndex_1 : decode b_Q_checkIndex 1 = .ok (.ifCond .lt 9, 3) := by decide +kernel
theorem d_Q_checkIndex_4 : decode b_Q_checkIndex 4 = .ok (.iload_n 0, 1) := by decide +kernel
theorem d_Q_checkIndex_5 : decode b_Q_checkIndex 5 = .ok (.bipush 6, 2) := by decide +kernel
theorem d_Q_checkIndex_7 : decode b_Q_checkIndex 7 = .ok (.if_icmp .lt 13, 3) := by decide +kernel
theorem d_Q_checkIndex_10 : decode b_Q_checkIndex 10 = .ok (.new 74, 3) := by decide +kernel
theorem d_Q_checkIndex_13 : decode b_Q_checkIndex 13 = .ok (.dup, 1) := by decide +kernel
theorem d_Q_checkIndex_14 : decode b_Q_checkIndex 14 = .ok (.ldc 214, 2) := by decide +kernel
theorem d_Q_checkIndex_16 : decode b_Q_checkIndex 16 = .ok (.invokespecial 78, 3) := by decide +kernel
theorem d_Q_checkIndex_19 : decode b_Q_checkIndex 19 = .ok (.athrow, 1) := by decide +kernel
theorem d_Q_checkIndex_20 : decode b_Q_checkIndex 20 = .ok (.return_, 1) := by decide +kernel
set_option maxHeartbeats 4000000 in
set_option maxRecDepth 100000 in
theorem c_Q_checkIndex (l : Launch) (dC : Nat → ClassId) (dI : Nat → Nat → Nat) (kA : Nat → ClassId) (r : Int) (hr : 0 ≤ r ∧ r ≤ 5) : Met l y_Q_checkIndex (wsy y_Q_checkIndex b_Q_checkIndex 1 none) (rmd 0 0 0) (li_Pr (dC, dI) CL (TY kA) [.int (iI r)] (va_P (dC, dI) CL [])) k0_Qc 0 0 (fun _ => False) := by
  refine li_mrv (by decide) (Nat.le_of_ble_eq_true rfl) ?_
  intro p e s m args below meth c Q C hP hK hN hG fin ls hl
  obtain ⟨hx, hb, hr, hml, hown, hts, hlocks, hin⟩ := C
  have hown : s.vm.findClass R_Q = some m.cls := hown
  have hP : va_P (dC, dI) CL [] s.heap := hP
  have hl : lv_has ls 1 [(0, .int (iI r))] := hl
  refine lv_iload_n hx hb d_Q_checkIndex_0 rfl (lv_at hl 0 rfl) ?_
  refine li_if_lt (tgt := 10) hx hb d_Q_checkIndex_1 (by decide) (by omega) (fun c1 => ?_) (fun c1 => ?_)
  · have _q := c1
    exact absurd c1 (by omega)
  · have _q := c1
    refine lv_iload_n hx hb d_Q_checkIndex_4 rfl (lv_at hl 0 rfl) ?_
    refine lv_bipush (v := iI 6) hx hb d_Q_checkIndex_5 (by decide) ?_
    refine li_icmp_lt (tgt := 20) hx hb d_Q_checkIndex_7 (by decide) (by omega) (by omega) (fun c2 => ?_) (fun c2 => ?_)
    · have _q := c2
      exact fin _ _ d_Q_checkIndex_20
    · have _q := c2
      exact absurd c2 (by omega)
theorem d_Q_cut_0 : decode b_Q_cut 0 = .ok (.iload_n 1, 1) := by decide +kernel
theorem d_Q_cut_1 : decode b_Q_cut 1 = .ok (.ifCond .lt 11, 3) := by decide +kernel
theorem d_Q_cut_4 : decode b_Q_cut 4 = .ok (.iload_n 1, 1) := by decide +kernel
theorem d_Q_cut_5 : decode b_Q_cut 5 = .ok (.aload_n 0, 1) := by decide +kernel
theorem d_Q_cut_6 : decode b_Q_cut 6 = .ok (.getfield 81, 3) := by decide +kernel
theorem d_Q_cut_9 : decode b_Q_cut 9 = .ok (.if_icmp .le 13, 3) := by decide +kernel
theorem d_Q_cut_12 : decode b_Q_cut 12 = .ok (.new 74, 3) := by decide +kernel
theorem d_Q_cut_15 : decode b_Q_cut 15 = .ok (.dup, 1) := by decide +kernel
theorem d_Q_cut_16 : decode b_Q_cut 16 = .ok (.ldc 93, 2) := by decide +kernel
theorem d_Q_cut_18 : decode b_Q_cut 18 = .ok (.invokespecial 78, 3) := by decide +kernel
theorem d_Q_cut_21 : decode b_Q_cut 21 = .ok (.athrow, 1) := by decide +kernel
theorem d_Q_cut_22 : decode b_Q_cut 22 = .ok (.aload_n 0, 1) := by decide +kernel
theorem d_Q_cut_23 : decode b_Q_cut 23 = .ok (.getfield 81, 3) := by decide +kernel
theorem d_Q_cut_26 : decode b_Q_cut 26 = .ok (.iload_n 1, 1) := by decide +kernel
theorem d_Q_cut_27 : decode b_Q_cut 27 = .ok (.isub, 1) := by decide +kernel
theorem d_Q_cut_28 : decode b_Q_cut 28 = .ok (.istore_n 2, 1) := by decide +kernel
theorem d_Q_cut_29 : decode b_Q_cut 29 = .ok (.aload_n 0, 1) := by decide +kernel
theorem d_Q_cut_30 : decode b_Q_cut 30 = .ok (.iload_n 1, 1) := by decide +kernel
theorem d_Q_cut_31 : decode b_Q_cut 31 = .ok (.putfield 81, 3) := by decide +kernel
theorem d_Q_cut_34 : decode b_Q_cut 34 = .ok (.iload_n 2, 1) := by decide +kernel
theorem d_Q_cut_35 : decode b_Q_cut 35 = .ok (.ireturn, 1) := by decide +kernel
set_option maxHeartbeats 4000000 in
set_option maxRecDepth 100000 in
theorem c_Q_cut (l : Launch) (dC : Nat → ClassId) (dI : Nat → Nat → Nat) (kA : Nat → ClassId) (sz : Nat) (qo : Nat) (qa : Nat → Nat) (qbc : Int) (qll : Int) (qfc : Int) (qfp : Int) (n : Int) (hbc : 0 ≤ qbc ∧ qbc ≤ 400) (hn : 0 ≤ n ∧ n ≤ qbc) : Met l y_Q_cut (wsy y_Q_cut b_Q_cut 3 (some .int)) (rmd 0 0 0) (li_Pr (dC, dI) CL (TY kA) [.ref qo, .int (iI n)] (fun h => h.size = sz ∧ va_P (dC, dI) CL [(qo, .inr (0, [.ref (qa 0), .int (iI qbc), .ref (qa 1), .int (iI qll), .ref (qa 2), .ref (qa 3), .int (iI qfc), .int (iI qfp), .ref (qa 4), .ref (qa 5), .ref (qa 6), .ref (qa 7), .ref (qa 8), .ref (qa 9)]))] h ∧ va_D (fun q => dI 100 0 ≤ q) [(qo, .inr (0, [.ref (qa 0), .int (iI qbc), .ref (qa 1), .int (iI qll), .ref (qa 2), .ref (qa 3), .int (iI qfc), .int (iI qfp), .ref (qa 4), .ref (qa 5), .ref (qa 6), .ref (qa 7), .ref (qa 8), .ref (qa 9)]))] ∧ (fun _ => True) h)) (li_Qw (S := Unit) (dC, dI) CL (fun _ => True) (fun _ => some (.int (iI ((qbc - n))))) (fun _ => [(qo, .inr (0, [.ref (qa 0), .int (iI n), .ref (qa 1), .int (iI qll), .ref (qa 2), .ref (qa 3), .int (iI qfc), .int (iI qfp), .ref (qa 4), .ref (qa 5), .ref (qa 6), .ref (qa 7), .ref (qa 8), .ref (qa 9)]))]) (va_A [(qo, .inr (0, [.ref (qa 0), .int (iI qbc), .ref (qa 1), .int (iI qll), .ref (qa 2), .ref (qa 3), .int (iI qfc), .int (iI qfp), .ref (qa 4), .ref (qa 5), .ref (qa 6), .ref (qa 7), .ref (qa 8), .ref (qa 9)]))] sz)) 0 0 (va_A [(qo, .inr (0, [.ref (qa 0), .int (iI qbc), .ref (qa 1), .int (iI qll), .ref (qa 2), .ref (qa 3), .int (iI qfc), .int (iI qfp), .ref (qa 4), .ref (qa 5), .ref (qa 6), .ref (qa 7), .ref (qa 8), .ref (qa 9)]))] sz) := by
  refine li_mwi (r := fun (_ : Unit) => (qbc - n)) (by decide) (Nat.le_of_ble_eq_true rfl) (fun _ _ => by rfl) ?_
  intro p e s m args below meth c Q A C hP hD hBx hK hN hG hA hAi hAN fin ls hl
  obtain ⟨hx, hb, hr, hml, hown, hts, hlocks, hin⟩ := C
  have hown : s.vm.findClass R_Q = some m.cls := hown
  have hl : lv_has ls 3 [(0, .ref qo), (1, .int (iI n))] := hl
  suffices h9 : ∀ (H : Heap) (locs : List Loc), H = s.heap → locs = [] → W p l e (rmd 0 0 0) s m args below meth c H locs 0 0 Q (F0 m 0 ls []) from h9 _ _ rfl rfl
  intro H locs eH eL
  have hP : va_P (dC, dI) CL [(qo, .inr (0, [.ref (qa 0), .int (iI qbc), .ref (qa 1), .int (iI qll), .ref (qa 2), .ref (qa 3), .int (iI qfc), .int (iI qfp), .ref (qa 4), .ref (qa 5), .ref (qa 6), .ref (qa 7), .ref (qa 8), .ref (qa 9)]))] H := by rw [eH]; exact hP
  have hS : va_S A s.heap H locs := by rw [eH, eL]; exact va_S.rf
  refine lv_iload_n hx hb d_Q_cut_0 rfl (lv_at hl 1 rfl) ?_
  refine li_if_lt (tgt := 12) hx hb d_Q_cut_1 (by decide) (by omega) (fun c1 => ?_) (fun c1 => ?_)
  · have _q := c1
    exact absurd c1 (by omega)
  · have _q := c1
    refine lv_iload_n hx hb d_Q_cut_4 rfl (lv_at hl 1 rfl) ?_
    refine lv_aload_n hx hb d_Q_cut_5 rfl (lv_at hl 0 rfl) ?_
    refine gf_Q_81 hx hb hts hown hK hP 0 rfl rfl d_Q_cut_6 ?_
    refine li_icmp_le (tgt := 22) hx hb d_Q_cut_9 (by decide) (by omega) (by omega) (fun c2 => ?_) (fun c2 => ?_)
    · have _q := c2
      refine lv_aload_n hx hb d_Q_cut_22 rfl (lv_at hl 0 rfl) ?_
      refine gf_Q_81 hx hb hts hown hK hP 0 rfl rfl d_Q_cut_23 ?_
      refine lv_iload_n hx hb d_Q_cut_26 rfl (lv_at hl 1 rfl) ?_
      refine li_isub hx hb d_Q_cut_27 ?_
      refine li_nm (fun g_n eg_n => ?_)
      refine lv_istore_n (lv' := [(2, .int (iI g_n)), (0, .ref qo), (1, .int (iI n))]) hx hb d_Q_cut_28 rfl hl (by decide) rfl (fun ls hl => ?_)
      refine lv_aload_n hx hb d_Q_cut_29 rfl (lv_at hl 1 rfl) ?_
      refine lv_iload_n hx hb d_Q_cut_30 rfl (lv_at hl 2 rfl) ?_
      refine pf_Q_81 hx hb hts hown hK hP hD hS 0 rfl (Nat.le_of_ble_eq_true rfl) d_Q_cut_31 (fun H locs hP hD hS => ?_)
      have hP : va_P (dC, dI) CL [(qo, .inr (0, [.ref (qa 0), .int (iI n), .ref (qa 1), .int (iI qll), .ref (qa 2), .ref (qa 3), .int (iI qfc), .int (iI qfp), .ref (qa 4), .ref (qa 5), .ref (qa 6), .ref (qa 7), .ref (qa 8), .ref (qa 9)]))] H := hP
      have hD : va_D A [(qo, .inr (0, [.ref (qa 0), .int (iI n), .ref (qa 1), .int (iI qll), .ref (qa 2), .ref (qa 3), .int (iI qfc), .int (iI qfp), .ref (qa 4), .ref (qa 5), .ref (qa 6), .ref (qa 7), .ref (qa 8), .ref (qa 9)]))] := hD
      refine lv_iload_n hx hb d_Q_cut_34 rfl (lv_at hl 0 rfl) ?_
      exact fin () _ _ _ _ _ (by exact eg_n) (by trivial) (by first | exact hP | (subst_vars; exact hP)) (by first | exact hD | (subst_vars; exact hD)) hS d_Q_cut_35
    · have _q := c2
      exact absurd c2 (by omega)
theorem d_Q_erase_0 : decode b_Q_erase 0 = .ok (.aload_n 0, 1) := by decide +kernel
theorem d_Q_erase_1 : decode b_Q_erase 1 = .ok (.getfield 130, 3) := by decide +kernel
theorem d_Q_erase_4 : decode b_Q_erase 4 = .ok (.istore_n 1, 1) := by decide +kernel
theorem d_Q_erase_5 : decode b_Q_erase 5 = .ok (.aload_n 0, 1) := by decide +kernel
theorem d_Q_erase_6 : decode b_Q_erase 6 = .ok (.iconst 0, 1) := by decide +kernel
theorem d_Q_erase_7 : decode b_Q_erase 7 = .ok (.putfield 130, 3) := by decide +kernel
theorem d_Q_erase_10 : decode b_Q_erase 10 = .ok (.iload_n 1, 1) := by decide +kernel
theorem d_Q_erase_11 : decode b_Q_erase 11 = .ok (.ireturn, 1) := by decide +kernel
set_option maxHeartbeats 4000000 in
set_option maxRecDepth 100000 in
theorem c_Q_erase (l : Launch) (dC : Nat → ClassId) (dI : Nat → Nat → Nat) (kA : Nat → ClassId) (sz : Nat) (qo : Nat) (qa : Nat → Nat) (qbc : Int) (qll : Int) (qfc : Int) (qfp : Int)  : Met l y_Q_erase (wsy y_Q_erase b_Q_erase 2 (some .int)) (rmd 0 0 0) (li_Pr (dC, dI) CL (TY kA) [.ref qo] (fun h => h.size = sz ∧ va_P (dC, dI) CL [(qo, .inr (0, [.ref (qa 0), .int (iI qbc), .ref (qa 1), .int (iI qll), .ref (qa 2), .ref (qa 3), .int (iI qfc), .int (iI qfp), .ref (qa 4), .ref (qa 5), .ref (qa 6), .ref (qa 7), .ref (qa 8), .ref (qa 9)]))] h ∧ va_D (fun q => dI 100 0 ≤ q) [(qo, .inr (0, [.ref (qa 0), .int (iI qbc), .ref (qa 1), .int (iI qll), .ref (qa 2), .ref (qa 3), .int (iI qfc), .int (iI qfp), .ref (qa 4), .ref (qa 5), .ref (qa 6), .ref (qa 7), .ref (qa 8), .ref (qa 9)]))] ∧ (fun _ => True) h)) (li_Qw (S := Unit) (dC, dI) CL (fun _ => True) (fun _ => some (.int (iI (qll)))) (fun _ => [(qo, .inr (0, [.ref (qa 0), .int (iI qbc), .ref (qa 1), .int (iI 0), .ref (qa 2), .ref (qa 3), .int (iI qfc), .int (iI qfp), .ref (qa 4), .ref (qa 5), .ref (qa 6), .ref (qa 7), .ref (qa 8), .ref (qa 9)]))]) (va_A [(qo, .inr (0, [.ref (qa 0), .int (iI qbc), .ref (qa 1), .int (iI qll), .ref (qa 2), .ref (qa 3), .int (iI qfc), .int (iI qfp), .ref (qa 4), .ref (qa 5), .ref (qa 6), .ref (qa 7), .ref (qa 8), .ref (qa 9)]))] sz)) 0 0 (va_A [(qo, .inr (0, [.ref (qa 0), .int (iI qbc), .ref (qa 1), .int (iI qll), .ref (qa 2), .ref (qa 3), .int (iI qfc), .int (iI qfp), .ref (qa 4), .ref (qa 5), .ref (qa 6), .ref (qa 7), .ref (qa 8), .ref (qa 9)]))] sz) := by
  refine li_mwi (r := fun (_ : Unit) => qll) (by decide) (Nat.le_of_ble_eq_true rfl) (fun _ _ => by rfl) ?_
  intro p e s m args below meth c Q A C hP hD hBx hK hN hG hA hAi hAN fin ls hl
  obtain ⟨hx, hb, hr, hml, hown, hts, hlocks, hin⟩ := C
  have hown : s.vm.findClass R_Q = some m.cls := hown
  have hl : lv_has ls 2 [(0, .ref qo)] := hl
  suffices h9 : ∀ (H : Heap) (locs : List Loc), H = s.heap → locs = [] → W p l e (rmd 0 0 0) s m args below meth c H locs 0 0 Q (F0 m 0 ls []) from h9 _ _ rfl rfl
  intro H locs eH eL
  have hP : va_P (dC, dI) CL [(qo, .inr (0, [.ref (qa 0), .int (iI qbc), .ref (qa 1), .int (iI qll), .ref (qa 2), .ref (qa 3), .int (iI qfc), .int (iI qfp), .ref (qa 4), .ref (qa 5), .ref (qa 6), .ref (qa 7), .ref (qa 8), .ref (qa 9)]))] H := by rw [eH]; exact hP
  have hS : va_S A s.heap H locs := by rw [eH, eL]; exact va_S.rf
  refine lv_aload_n hx hb d_Q_erase_0 rfl (lv_at hl 0 rfl) ?_
  refine gf_Q_130 hx hb hts hown hK hP 0 rfl rfl d_Q_erase_1 ?_
  refine lv_istore_n (lv' := [(1, .int (iI qll)), (0, .ref qo)]) hx hb d_Q_erase_4 rfl hl (by decide) rfl (fun ls hl => ?_)
  refine lv_aload_n hx hb d_Q_erase_5 rfl (lv_at hl 1 rfl) ?_
  refine lv_iconst (v := iI 0) hx hb d_Q_erase_6 rfl ?_
  refine pf_Q_130 hx hb hts hown hK hP hD hS 0 rfl (Nat.le_of_ble_eq_true rfl) d_Q_erase_7 (fun H locs hP hD hS => ?_)
  have hP : va_P (dC, dI) CL [(qo, .inr (0, [.ref (qa 0), .int (iI qbc), .ref (qa 1), .int (iI 0), .ref (qa 2), .ref (qa 3), .int (iI qfc), .int (iI qfp), .ref (qa 4), .ref (qa 5), .ref (qa 6), .ref (qa 7), .ref (qa 8), .ref (qa 9)]))] H := hP
  have hD : va_D A [(qo, .inr (0, [.ref (qa 0), .int (iI qbc), .ref (qa 1), .int (iI 0), .ref (qa 2), .ref (qa 3), .int (iI qfc), .int (iI qfp), .ref (qa 4), .ref (qa 5), .ref (qa 6), .ref (qa 7), .ref (qa 8), .ref (qa 9)]))] := hD
  refine lv_iload_n hx hb d_Q_erase_10 rfl (lv_at hl 0 rfl) ?_
  exact fin () _ _ _ _ _ (by rfl) (by trivial) (by first | exact hP | (subst_vars; exact hP)) (by first | exact hD | (subst_vars; exact hD)) hS d_Q_erase_11
theorem d_Q_place_0 : decode b_Q_place 0 = .ok (.aload_n 0, 1) := by decide +kernel
theorem d_Q_place_1 : decode b_Q_place 1 = .ok (.getfield 26, 3) := by decide +kernel
theorem d_Q_place_4 : decode b_Q_place 4 = .ok (.ireturn, 1) := by decide +kernel
set_option maxHeartbeats 4000000 in
set_option maxRecDepth 100000 in
theorem c_Q_place (l : Launch) (dC : Nat → ClassId) (dI : Nat → Nat → Nat) (kA : Nat → ClassId) (qo : Nat) (qa : Nat → Nat) (qbc : Int) (qll : Int) (qfc : Int) (qfp : Int)  : Met l y_Q_place (wsy y_Q_place b_Q_place 1 (some .int)) (rmd 0 0 0) (li_Pr (dC, dI) CL (TY kA) [.ref qo] (va_P (dC, dI) CL [(qo, .inr (0, [.ref (qa 0), .int (iI qbc), .ref (qa 1), .int (iI qll), .ref (qa 2), .ref (qa 3), .int (iI qfc), .int (iI qfp), .ref (qa 4), .ref (qa 5), .ref (qa 6), .ref (qa 7), .ref (qa 8), .ref (qa 9)]))])) (k2_QcV (.int (iI (qfp)))) 0 0 (fun _ => False) := by
  refine li_mr (by decide) (Nat.le_of_ble_eq_true rfl) (by rfl) ?_
  intro p e s m args below meth c Q C hP hK hN hG fin ls hl
  obtain ⟨hx, hb, hr, hml, hown, hts, hlocks, hin⟩ := C
  have hown : s.vm.findClass R_Q = some m.cls := hown
  have hP : va_P (dC, dI) CL [(qo, .inr (0, [.ref (qa 0), .int (iI qbc), .ref (qa 1), .int (iI qll), .ref (qa 2), .ref (qa 3), .int (iI qfc), .int (iI qfp), .ref (qa 4), .ref (qa 5), .ref (qa 6), .ref (qa 7), .ref (qa 8), .ref (qa 9)]))] s.heap := hP
  have hl : lv_has ls 1 [(0, .ref qo)] := hl
  refine lv_aload_n hx hb d_Q_place_0 rfl (lv_at hl 0 rfl) ?_
  refine gf_Q_26 hx hb hts hown hK hP 0 rfl rfl d_Q_place_1 ?_
  exact fin _ _ _ (by rfl) d_Q_place_4
theorem d_Q_found_0 : decode b_Q_found 0 = .ok (.iload_n 1, 1) := by decide +kernel
theorem d_Q_found_1 : decode b_Q_found 1 = .ok (.ifCond .lt 29, 3) := by decide +kernel
theorem d_Q_found_4 : decode b_Q_found 4 = .ok (.iload_n 1, 1) := by decide +kernel
theorem d_Q_found_5 : decode b_Q_found 5 = .ok (.aload_n 0, 1) := by decide +kernel
theorem d_Q_found_6 : decode b_Q_found 6 = .ok (.getfield 162, 3) := by decide +kernel
theorem d_Q_found_9 : decode b_Q_found 9 = .ok (.if_icmp .ge 21, 3) := by decide +kernel
theorem d_Q_found_12 : decode b_Q_found 12 = .ok (.iload_n 1, 1) := by decide +kernel
theorem d_Q_found_13 : decode b_Q_found 13 = .ok (.aload_n 0, 1) := by decide +kernel
theorem d_Q_found_14 : decode b_Q_found 14 = .ok (.getfield 22, 3) := by decide +kernel
theorem d_Q_found_17 : decode b_Q_found 17 = .ok (.arraylength, 1) := by decide +kernel
theorem d_Q_found_18 : decode b_Q_found 18 = .ok (.if_icmp .ge 12, 3) := by decide +kernel
theorem d_Q_found_21 : decode b_Q_found 21 = .ok (.aload_n 0, 1) := by decide +kernel
theorem d_Q_found_22 : decode b_Q_found 22 = .ok (.getfield 22, 3) := by decide +kernel
theorem d_Q_found_25 : decode b_Q_found 25 = .ok (.iload_n 1, 1) := by decide +kernel
theorem d_Q_found_26 : decode b_Q_found 26 = .ok (.iaload, 1) := by decide +kernel
theorem d_Q_found_27 : decode b_Q_found 27 = .ok (.goto 4, 3) := by decide +kernel
theorem d_Q_found_30 : decode b_Q_found 30 = .ok (.iconst (-1), 1) := by decide +kernel
theorem d_Q_found_31 : decode b_Q_found 31 = .ok (.ireturn, 1) := by decide +kernel
set_option maxHeartbeats 4000000 in
set_option maxRecDepth 100000 in
theorem c_Q_found (l : Launch) (dC : Nat → ClassId) (dI : Nat → Nat → Nat) (kA : Nat → ClassId) (qo : Nat) (qa : Nat → Nat) (qbc : Int) (qll : Int) (qfc : Int) (qfp : Int) (uf : Nat → Int) (k : Int) (hfc : 0 ≤ qfc ∧ qfc ≤ 10) (hk : -2147483648 ≤ k ∧ k < 2147483648) : Met l y_Q_found (wsy y_Q_found b_Q_found 2 (some .int)) (rmd 0 0 0) (li_Pr (dC, dI) CL (TY kA) [.ref qo, .int (iI k)] (va_P (dC, dI) CL [(qo, .inr (0, [.ref (qa 0), .int (iI qbc), .ref (qa 1), .int (iI qll), .ref (qa 2), .ref (qa 3), .int (iI qfc), .int (iI qfp), .ref (qa 4), .ref (qa 5), .ref (qa 6), .ref (qa 7), .ref (qa 8), .ref (qa 9)])), (qa 3, .inl (kA 0, 10, .inl (aI uf)))])) (k2_QcV (.int (iI (fnF k qfc uf)))) 0 0 (fun _ => False) := by
  refine li_mr (by decide) (Nat.le_of_ble_eq_true rfl) (by rfl) ?_
  intro p e s m args below meth c Q C hP hK hN hG fin ls hl
  obtain ⟨hx, hb, hr, hml, hown, hts, hlocks, hin⟩ := C
  have hown : s.vm.findClass R_Q = some m.cls := hown
  have hP : va_P (dC, dI) CL [(qo, .inr (0, [.ref (qa 0), .int (iI qbc), .ref (qa 1), .int (iI qll), .ref (qa 2), .ref (qa 3), .int (iI qfc), .int (iI qfp), .ref (qa 4), .ref (qa 5), .ref (qa 6), .ref (qa 7), .ref (qa 8), .ref (qa 9)])), (qa 3, .inl (kA 0, 10, .inl (aI uf)))] s.heap := hP
  have hl : lv_has ls 2 [(0, .ref qo), (1, .int (iI k))] := hl
  refine lv_iload_n hx hb d_Q_found_0 rfl (lv_at hl 1 rfl) ?_
  refine li_if_lt (tgt := 30) hx hb d_Q_found_1 (by decide) (by omega) (fun c1 => ?_) (fun c1 => ?_)
  · have _q := c1
    refine lv_iconst (v := iI (-1)) hx hb d_Q_found_30 rfl ?_
    exact fin _ _ _ (by unfold fnF; first | (rw [if_pos (by omega)]; done) | (rw [if_neg (by omega)]; done)) d_Q_found_31
  · have _q := c1
    refine lv_iload_n hx hb d_Q_found_4 rfl (lv_at hl 1 rfl) ?_
    refine lv_aload_n hx hb d_Q_found_5 rfl (lv_at hl 0 rfl) ?_
    refine gf_Q_162 hx hb hts hown hK hP 0 rfl rfl d_Q_found_6 ?_
    refine li_icmp_ge (tgt := 30) hx hb d_Q_found_9 (by decide) (by omega) (by omega) (fun c2 => ?_) (fun c2 => ?_)
    · have _q := c2
      refine lv_iconst (v := iI (-1)) hx hb d_Q_found_30 rfl ?_
      exact fin _ _ _ (by unfold fnF; first | (rw [if_pos (by omega)]; done) | (rw [if_neg (by omega)]; done)) d_Q_found_31
    · have _q := c2
      refine lv_iload_n hx hb d_Q_found_12 rfl (lv_at hl 1 rfl) ?_
      refine lv_aload_n hx hb d_Q_found_13 rfl (lv_at hl 0 rfl) ?_
      refine gf_Q_22 hx hb hts hown hK hP 0 rfl rfl d_Q_found_14 ?_
      refine li_alen hx hb hK hP 1 0 rfl rfl d_Q_found_17 ?_
      refine li_icmp_ge (tgt := 30) hx hb d_Q_found_18 (by decide) (by omega) (by omega) (fun c3 => ?_) (fun c3 => ?_)
      · have _q := c3
        refine lv_iconst (v := iI (-1)) hx hb d_Q_found_30 rfl ?_
        exact fin _ _ _ (by unfold fnF; first | (rw [if_pos (by omega)]; done) | (rw [if_neg (by omega)]; done)) d_Q_found_31
      · have _q := c3
        refine lv_aload_n hx hb d_Q_found_21 rfl (lv_at hl 0 rfl) ?_
        refine gf_Q_22 hx hb hts hown hK hP 0 rfl rfl d_Q_found_22 ?_
        refine lv_iload_n hx hb d_Q_found_25 rfl (lv_at hl 1 rfl) ?_
        refine li_iald hx hb hK hP 1 0 rfl rfl (by omega) (by omega) (by omega) d_Q_found_26 ?_
        refine lv_goto (tgt := 31) hx hb d_Q_found_27 (by decide) ?_
        exact fin _ _ _ (by unfold fnF; first | (rw [if_pos (by omega)]; done) | (rw [if_neg (by omega)]; done)) d_Q_found_31
theorem d_Q_feed_0 : decode b_Q_feed 0 = .ok (.iload_n 1, 1) := by decide +kernel
theorem d_Q_feed_1 : decode b_Q_feed 1 = .ok (.ifCond .lt 9, 3) := by decide +kernel
theorem d_Q_feed_4 : decode b_Q_feed 4 = .ok (.iload_n 1, 1) := by decide +kernel
theorem d_Q_feed_5 : decode b_Q_feed 5 = .ok (.bipush 16, 2) := by decide +kernel
theorem d_Q_feed_7 : decode b_Q_feed 7 = .ok (.if_icmp .le 13, 3) := by decide +kernel
theorem d_Q_feed_10 : decode b_Q_feed 10 = .ok (.new 74, 3) := by decide +kernel
theorem d_Q_feed_13 : decode b_Q_feed 13 = .ok (.dup, 1) := by decide +kernel
theorem d_Q_feed_14 : decode b_Q_feed 14 = .ok (.ldc 76, 2) := by decide +kernel
theorem d_Q_feed_16 : decode b_Q_feed 16 = .ok (.invokespecial 78, 3) := by decide +kernel
theorem d_Q_feed_19 : decode b_Q_feed 19 = .ok (.athrow, 1) := by decide +kernel
theorem d_Q_feed_20 : decode b_Q_feed 20 = .ok (.aload_n 0, 1) := by decide +kernel
theorem d_Q_feed_21 : decode b_Q_feed 21 = .ok (.getfield 81, 3) := by decide +kernel
theorem d_Q_feed_24 : decode b_Q_feed 24 = .ok (.iload_n 1, 1) := by decide +kernel
theorem d_Q_feed_25 : decode b_Q_feed 25 = .ok (.iadd, 1) := by decide +kernel
theorem d_Q_feed_26 : decode b_Q_feed 26 = .ok (.sipush 400, 3) := by decide +kernel
theorem d_Q_feed_29 : decode b_Q_feed 29 = .ok (.if_icmp .le 13, 3) := by decide +kernel
theorem d_Q_feed_32 : decode b_Q_feed 32 = .ok (.new 84, 3) := by decide +kernel
theorem d_Q_feed_35 : decode b_Q_feed 35 = .ok (.dup, 1) := by decide +kernel
theorem d_Q_feed_36 : decode b_Q_feed 36 = .ok (.ldc 86, 2) := by decide +kernel
theorem d_Q_feed_38 : decode b_Q_feed 38 = .ok (.invokespecial 88, 3) := by decide +kernel
theorem d_Q_feed_41 : decode b_Q_feed 41 = .ok (.athrow, 1) := by decide +kernel
theorem d_Q_feed_42 : decode b_Q_feed 42 = .ok (.aload_n 0, 1) := by decide +kernel
theorem d_Q_feed_43 : decode b_Q_feed 43 = .ok (.iload_n 2, 1) := by decide +kernel
theorem d_Q_feed_44 : decode b_Q_feed 44 = .ok (.iload_n 1, 1) := by decide +kernel
theorem d_Q_feed_45 : decode b_Q_feed 45 = .ok (.invokevirtual 89, 3) := by decide +kernel
theorem d_Q_feed_48 : decode b_Q_feed 48 = .ok (.aload_n 0, 1) := by decide +kernel
theorem d_Q_feed_49 : decode b_Q_feed 49 = .ok (.iload_n 3, 1) := by decide +kernel
theorem d_Q_feed_50 : decode b_Q_feed 50 = .ok (.iload_n 1, 1) := by decide +kernel
theorem d_Q_feed_51 : decode b_Q_feed 51 = .ok (.iconst 4, 1) := by decide +kernel
theorem d_Q_feed_52 : decode b_Q_feed 52 = .ok (.isub, 1) := by decide +kernel
theorem d_Q_feed_53 : decode b_Q_feed 53 = .ok (.invokevirtual 89, 3) := by decide +kernel
theorem d_Q_feed_56 : decode b_Q_feed 56 = .ok (.aload_n 0, 1) := by decide +kernel
theorem d_Q_feed_57 : decode b_Q_feed 57 = .ok (.iload 4, 2) := by decide +kernel
theorem d_Q_feed_59 : decode b_Q_feed 59 = .ok (.iload_n 1, 1) := by decide +kernel
theorem d_Q_feed_60 : decode b_Q_feed 60 = .ok (.bipush 8, 2) := by decide +kernel
theorem d_Q_feed_62 : decode b_Q_feed 62 = .ok (.isub, 1) := by decide +kernel
theorem d_Q_feed_63 : decode b_Q_feed 63 = .ok (.invokevirtual 89, 3) := by decide +kernel
theorem d_Q_feed_66 : decode b_Q_feed 66 = .ok (.aload_n 0, 1) := by decide +kernel
theorem d_Q_feed_67 : decode b_Q_feed 67 = .ok (.iload 5, 2) := by decide +kernel
theorem d_Q_feed_69 : decode b_Q_feed 69 = .ok (.iload_n 1, 1) := by decide +kernel
theorem d_Q_feed_70 : decode b_Q_feed 70 = .ok (.bipush 12, 2) := by decide +kernel
theorem d_Q_feed_72 : decode b_Q_feed 72 = .ok (.isub, 1) := by decide +kernel
theorem d_Q_feed_73 : decode b_Q_feed 73 = .ok (.invokevirtual 89, 3) := by decide +kernel
theorem d_Q_feed_76 : decode b_Q_feed 76 = .ok (.aload_n 0, 1) := by decide +kernel
theorem d_Q_feed_77 : decode b_Q_feed 77 = .ok (.getfield 81, 3) := by decide +kernel
theorem d_Q_feed_80 : decode b_Q_feed 80 = .ok (.ireturn, 1) := by decide +kernel
set_option maxHeartbeats 4000000 in
set_option maxRecDepth 100000 in
theorem c_Q_feed (l : Launch) (dC : Nat → ClassId) (dI : Nat → Nat → Nat) (kA : Nat → ClassId) (sz : Nat) (qo : Nat) (qa : Nat → Nat) (qbc : Int) (qll : Int) (qfc : Int) (qfp : Int) (ub : Nat → Int) (n : Int) (pa : Int) (pb : Int) (pc : Int) (pd : Int) (hbc : 0 ≤ qbc ∧ qbc ≤ 400) (hub : C2 ub) (hn : 0 ≤ n ∧ n ≤ 16 ∧ qbc + n ≤ 400) : Met l y_Q_feed (wsy y_Q_feed b_Q_feed 6 (some .int)) (rmd 3 0 0) (li_Pr (dC, dI) CL (TY kA) [.ref qo, .int (iI n), .int (iI pa), .int (iI pb), .int (iI pc), .int (iI pd)] (fun h => h.size = sz ∧ va_P (dC, dI) CL [(qo, .inr (0, [.ref (qa 0), .int (iI qbc), .ref (qa 1), .int (iI qll), .ref (qa 2), .ref (qa 3), .int (iI qfc), .int (iI qfp), .ref (qa 4), .ref (qa 5), .ref (qa 6), .ref (qa 7), .ref (qa 8), .ref (qa 9)])), (qa 0, .inl (kA 1, 400, .inl (aI ub)))] h ∧ va_D (fun q => dI 100 0 ≤ q) [(qo, .inr (0, [.ref (qa 0), .int (iI qbc), .ref (qa 1), .int (iI qll), .ref (qa 2), .ref (qa 3), .int (iI qfc), .int (iI qfp), .ref (qa 4), .ref (qa 5), .ref (qa 6), .ref (qa 7), .ref (qa 8), .ref (qa 9)])), (qa 0, .inl (kA 1, 400, .inl (aI ub)))] ∧ (fun _ => True) h)) (li_Qw (S := (Int) × (Nat → Int)) (dC, dI) CL (fun u => (u.2, u.1) = fd4 n pa pb pc pd (ub, qbc) ∧ C2 u.2 ∧ u.1 = qbc + n) (fun u => some (.int (iI (u.1)))) (fun u => [(qo, .inr (0, [.ref (qa 0), .int (iI u.1), .ref (qa 1), .int (iI qll), .ref (qa 2), .ref (qa 3), .int (iI qfc), .int (iI qfp), .ref (qa 4), .ref (qa 5), .ref (qa 6), .ref (qa 7), .ref (qa 8), .ref (qa 9)])), (qa 0, .inl (kA 1, 400, .inl (aI u.2)))]) (va_A [(qo, .inr (0, [.ref (qa 0), .int (iI qbc), .ref (qa 1), .int (iI qll), .ref (qa 2), .ref (qa 3), .int (iI qfc), .int (iI qfp), .ref (qa 4), .ref (qa 5), .ref (qa 6), .ref (qa 7), .ref (qa 8), .ref (qa 9)])), (qa 0, .inl (kA 1, 400, .inl (aI ub)))] sz)) 0 0 (va_A [(qo, .inr (0, [.ref (qa 0), .int (iI qbc), .ref (qa 1), .int (iI qll), .ref (qa 2), .ref (qa 3), .int (iI qfc), .int (iI qfp), .ref (qa 4), .ref (qa 5), .ref (qa 6), .ref (qa 7), .ref (qa 8), .ref (qa 9)])), (qa 0, .inl (kA 1, 400, .inl (aI ub)))] sz) := by
  refine li_mwi (r := fun (u : (Int) × (Nat → Int)) => u.1) (by decide) (Nat.le_of_ble_eq_true rfl) (fun u _ => by rfl) ?_
  intro p e s m args below meth c Q A C hP hD hBx hK hN hG hA hAi hAN fin ls hl
  obtain ⟨hx, hb, hr, hml, hown, hts, hlocks, hin⟩ := C
  have hown : s.vm.findClass R_Q = some m.cls := hown
  have hl : lv_has ls 6 [(0, .ref qo), (1, .int (iI n)), (2, .int (iI pa)), (3, .int (iI pb)), (4, .int (iI pc)), (5, .int (iI pd))] := hl
  suffices h9 : ∀ (H : Heap) (locs : List Loc), H = s.heap → locs = [] → W p l e (rmd 3 0 0) s m args below meth c H locs 0 0 Q (F0 m 0 ls []) from h9 _ _ rfl rfl
  intro H locs eH eL
  have hP : va_P (dC, dI) CL [(qo, .inr (0, [.ref (qa 0), .int (iI qbc), .ref (qa 1), .int (iI qll), .ref (qa 2), .ref (qa 3), .int (iI qfc), .int (iI qfp), .ref (qa 4), .ref (qa 5), .ref (qa 6), .ref (qa 7), .ref (qa 8), .ref (qa 9)])), (qa 0, .inl (kA 1, 400, .inl (aI ub)))] H := by rw [eH]; exact hP
  have hS : va_S A s.heap H locs := by rw [eH, eL]; exact va_S.rf
  refine lv_iload_n hx hb d_Q_feed_0 rfl (lv_at hl 1 rfl) ?_
  refine li_if_lt (tgt := 10) hx hb d_Q_feed_1 (by decide) (by omega) (fun c1 => ?_) (fun c1 => ?_)
  · have _q := c1
    exact absurd c1 (by omega)
  · have _q := c1
    refine lv_iload_n hx hb d_Q_feed_4 rfl (lv_at hl 1 rfl) ?_
    refine lv_bipush (v := iI 16) hx hb d_Q_feed_5 (by decide) ?_
    refine li_icmp_le (tgt := 20) hx hb d_Q_feed_7 (by decide) (by omega) (by omega) (fun c2 => ?_) (fun c2 => ?_)
    · have _q := c2
      refine lv_aload_n hx hb d_Q_feed_20 rfl (lv_at hl 0 rfl) ?_
      refine gf_Q_81 hx hb hts hown hK hP 0 rfl rfl d_Q_feed_21 ?_
      refine lv_iload_n hx hb d_Q_feed_24 rfl (lv_at hl 1 rfl) ?_
      refine li_iadd hx hb d_Q_feed_25 ?_
      refine lv_sipush (v := iI 400) hx hb d_Q_feed_26 (by decide) ?_
      refine li_icmp_le (tgt := 42) hx hb d_Q_feed_29 (by decide) (by omega) (by omega) (fun c3 => ?_) (fun c3 => ?_)
      · have _q := c3
        refine lv_aload_n hx hb d_Q_feed_42 rfl (lv_at hl 0 rfl) ?_
        refine lv_iload_n hx hb d_Q_feed_43 rfl (lv_at hl 2 rfl) ?_
        refine lv_iload_n hx hb d_Q_feed_44 rfl (lv_at hl 1 rfl) ?_
        refine li_callw (wc := [(qo, .inr (0, [.ref (qa 0), .int (iI qbc), .ref (qa 1), .int (iI qll), .ref (qa 2), .ref (qa 3), .int (iI qfc), .int (iI qfp), .ref (qa 4), .ref (qa 5), .ref (qa 6), .ref (qa 7), .ref (qa 8), .ref (qa 9)])), (qa 0, .inl (kA 1, 400, .inl (aI ub)))]) (wr := []) (va_runV (As := [.int (iI pa), .int (iI n)]) (rest := []) ⟨hx, hb, hml, hown, hts⟩ (c_Q_addBytes l dC dI kA H.size qo qa qbc qll qfc qfp ub pa n (by omega) (by first | exact hc2 | exact hb2 | exact ha2 | exact hub) (by omega) (by omega)) (cw_Q_89 hts rfl rfl ⟨Nat.le_of_ble_eq_true rfl, Nat.le_of_ble_eq_true rfl⟩) (li_preV (va_recv hK hP (ci := 0) (q0 := 0) rfl rfl) ⟨rfl, hP.sub [0, 1] rfl, (hD.sub [0, 1] (by decide) rfl).weaken (fun _ _ _ h => hAN _ h), trivial⟩ hK hN (hG.go hS hAN)) rfl rfl hl.1 rfl (lv_room (Nat.le_of_ble_eq_true rfl)) d_Q_feed_45 ⟨(by show 0 + 0 ≤ 0; omega), (by show 0 + 0 ≤ 0; omega)⟩) hP hD hS hA [0, 1] [] rfl rfl (by decide) (by decide) (fun u4 H locs hu4 hP hD hS _hk => ?_)
        obtain ⟨n_a, f_a⟩ := u4
        have hP : va_P (dC, dI) CL [(qo, .inr (0, [.ref (qa 0), .int (iI n_a), .ref (qa 1), .int (iI qll), .ref (qa 2), .ref (qa 3), .int (iI qfc), .int (iI qfp), .ref (qa 4), .ref (qa 5), .ref (qa 6), .ref (qa 7), .ref (qa 8), .ref (qa 9)])), (qa 0, .inl (kA 1, 400, .inl (aI f_a)))] H := hP
        have hD : va_D A [(qo, .inr (0, [.ref (qa 0), .int (iI n_a), .ref (qa 1), .int (iI qll), .ref (qa 2), .ref (qa 3), .int (iI qfc), .int (iI qfp), .ref (qa 4), .ref (qa 5), .ref (qa 6), .ref (qa 7), .ref (qa 8), .ref (qa 9)])), (qa 0, .inl (kA 1, 400, .inl (aI f_a)))] := hD
        have hp45 : (f_a, n_a) = abM pa n (ub, qbc) ∧ C2 f_a ∧ n_a = qbc + max 0 (min 4 n) := hu4
        obtain ⟨ha1, ha2, ha3⟩ := hp45
        refine lv_aload_n hx hb d_Q_feed_48 rfl (lv_at hl 0 rfl) ?_
        refine lv_iload_n hx hb d_Q_feed_49 rfl (lv_at hl 3 rfl) ?_
        refine lv_iload_n hx hb d_Q_feed_50 rfl (lv_at hl 1 rfl) ?_
        refine lv_iconst (v := iI 4) hx hb d_Q_feed_51 rfl ?_
        refine li_isub hx hb d_Q_feed_52 ?_
        refine li_callw (wc := [(qo, .inr (0, [.ref (qa 0), .int (iI n_a), .ref (qa 1), .int (iI qll), .ref (qa 2), .ref (qa 3), .int (iI qfc), .int (iI qfp), .ref (qa 4), .ref (qa 5), .ref (qa 6), .ref (qa 7), .ref (qa 8), .ref (qa 9)])), (qa 0, .inl (kA 1, 400, .inl (aI f_a)))]) (wr := []) (va_runV (As := [.int (iI pb), .int (iI (n - 4))]) (rest := []) ⟨hx, hb, hml, hown, hts⟩ (c_Q_addBytes l dC dI kA H.size qo qa n_a qll qfc qfp f_a pb (n - 4) (by omega) (by first | exact hc2 | exact hb2 | exact ha2 | exact hub) (by omega) (by omega)) (cw_Q_89 hts rfl rfl ⟨Nat.le_of_ble_eq_true rfl, Nat.le_of_ble_eq_true rfl⟩) (li_preV (va_recv hK hP (ci := 0) (q0 := 0) rfl rfl) ⟨rfl, hP.sub [0, 1] rfl, (hD.sub [0, 1] (by decide) rfl).weaken (fun _ _ _ h => hAN _ h), trivial⟩ hK hN (hG.go hS hAN)) rfl rfl hl.1 rfl (lv_room (Nat.le_of_ble_eq_true rfl)) d_Q_feed_53 ⟨(by show 0 + 0 ≤ 0; omega), (by show 0 + 0 ≤ 0; omega)⟩) hP hD hS hA [0, 1] [] rfl rfl (by decide) (by decide) (fun u5 H locs hu5 hP hD hS _hk => ?_)
        obtain ⟨n_b, f_b⟩ := u5
        have hP : va_P (dC, dI) CL [(qo, .inr (0, [.ref (qa 0), .int (iI n_b), .ref (qa 1), .int (iI qll), .ref (qa 2), .ref (qa 3), .int (iI qfc), .int (iI qfp), .ref (qa 4), .ref (qa 5), .ref (qa 6), .ref (qa 7), .ref (qa 8), .ref (qa 9)])), (qa 0, .inl (kA 1, 400, .inl (aI f_b)))] H := hP
        have hD : va_D A [(qo, .inr (0, [.ref (qa 0), .int (iI n_b), .ref (qa 1), .int (iI qll), .ref (qa 2), .ref (qa 3), .int (iI qfc), .int (iI qfp), .ref (qa 4), .ref (qa 5), .ref (qa 6), .ref (qa 7), .ref (qa 8), .ref (qa 9)])), (qa 0, .inl (kA 1, 400, .inl (aI f_b)))] := hD
        have hp53 : (f_b, n_b) = abM pb (n - 4) (f_a, n_a) ∧ C2 f_b ∧ n_b = n_a + max 0 (min 4 (n - 4)) := hu5
        obtain ⟨hb1, hb2, hb3⟩ := hp53
        refine lv_aload_n hx hb d_Q_feed_56 rfl (lv_at hl 0 rfl) ?_
        refine lv_iload hx hb d_Q_feed_57 (lv_at hl 4 rfl) ?_
        refine lv_iload_n hx hb d_Q_feed_59 rfl (lv_at hl 1 rfl) ?_
        refine lv_bipush (v := iI 8) hx hb d_Q_feed_60 (by decide) ?_
        refine li_isub hx hb d_Q_feed_62 ?_
        refine li_callw (wc := [(qo, .inr (0, [.ref (qa 0), .int (iI n_b), .ref (qa 1), .int (iI qll), .ref (qa 2), .ref (qa 3), .int (iI qfc), .int (iI qfp), .ref (qa 4), .ref (qa 5), .ref (qa 6), .ref (qa 7), .ref (qa 8), .ref (qa 9)])), (qa 0, .inl (kA 1, 400, .inl (aI f_b)))]) (wr := []) (va_runV (As := [.int (iI pc), .int (iI (n - 8))]) (rest := []) ⟨hx, hb, hml, hown, hts⟩ (c_Q_addBytes l dC dI kA H.size qo qa n_b qll qfc qfp f_b pc (n - 8) (by omega) (by first | exact hc2 | exact hb2 | exact ha2 | exact hub) (by omega) (by omega)) (cw_Q_89 hts rfl rfl ⟨Nat.le_of_ble_eq_true rfl, Nat.le_of_ble_eq_true rfl⟩) (li_preV (va_recv hK hP (ci := 0) (q0 := 0) rfl rfl) ⟨rfl, hP.sub [0, 1] rfl, (hD.sub [0, 1] (by decide) rfl).weaken (fun _ _ _ h => hAN _ h), trivial⟩ hK hN (hG.go hS hAN)) rfl rfl hl.1 rfl (lv_room (Nat.le_of_ble_eq_true rfl)) d_Q_feed_63 ⟨(by show 0 + 0 ≤ 0; omega), (by show 0 + 0 ≤ 0; omega)⟩) hP hD hS hA [0, 1] [] rfl rfl (by decide) (by decide) (fun u6 H locs hu6 hP hD hS _hk => ?_)
        obtain ⟨n_c, f_c⟩ := u6
        have hP : va_P (dC, dI) CL [(qo, .inr (0, [.ref (qa 0), .int (iI n_c), .ref (qa 1), .int (iI qll), .ref (qa 2), .ref (qa 3), .int (iI qfc), .int (iI qfp), .ref (qa 4), .ref (qa 5), .ref (qa 6), .ref (qa 7), .ref (qa 8), .ref (qa 9)])), (qa 0, .inl (kA 1, 400, .inl (aI f_c)))] H := hP
        have hD : va_D A [(qo, .inr (0, [.ref (qa 0), .int (iI n_c), .ref (qa 1), .int (iI qll), .ref (qa 2), .ref (qa 3), .int (iI qfc), .int (iI qfp), .ref (qa 4), .ref (qa 5), .ref (qa 6), .ref (qa 7), .ref (qa 8), .ref (qa 9)])), (qa 0, .inl (kA 1, 400, .inl (aI f_c)))] := hD
        have hp63 : (f_c, n_c) = abM pc (n - 8) (f_b, n_b) ∧ C2 f_c ∧ n_c = n_b + max 0 (min 4 (n - 8)) := hu6
        obtain ⟨hc1, hc2, hc3⟩ := hp63
        refine lv_aload_n hx hb d_Q_feed_66 rfl (lv_at hl 0 rfl) ?_
        refine lv_iload hx hb d_Q_feed_67 (lv_at hl 5 rfl) ?_
        refine lv_iload_n hx hb d_Q_feed_69 rfl (lv_at hl 1 rfl) ?_
        refine lv_bipush (v := iI 12) hx hb d_Q_feed_70 (by decide) ?_
        refine li_isub hx hb d_Q_feed_72 ?_
        refine li_callw (wc := [(qo, .inr (0, [.ref (qa 0), .int (iI n_c), .ref (qa 1), .int (iI qll), .ref (qa 2), .ref (qa 3), .int (iI qfc), .int (iI qfp), .ref (qa 4), .ref (qa 5), .ref (qa 6), .ref (qa 7), .ref (qa 8), .ref (qa 9)])), (qa 0, .inl (kA 1, 400, .inl (aI f_c)))]) (wr := []) (va_runV (As := [.int (iI pd), .int (iI (n - 12))]) (rest := []) ⟨hx, hb, hml, hown, hts⟩ (c_Q_addBytes l dC dI kA H.size qo qa n_c qll qfc qfp f_c pd (n - 12) (by omega) (by first | exact hc2 | exact hb2 | exact ha2 | exact hub) (by omega) (by omega)) (cw_Q_89 hts rfl rfl ⟨Nat.le_of_ble_eq_true rfl, Nat.le_of_ble_eq_true rfl⟩) (li_preV (va_recv hK hP (ci := 0) (q0 := 0) rfl rfl) ⟨rfl, hP.sub [0, 1] rfl, (hD.sub [0, 1] (by decide) rfl).weaken (fun _ _ _ h => hAN _ h), trivial⟩ hK hN (hG.go hS hAN)) rfl rfl hl.1 rfl (lv_room (Nat.le_of_ble_eq_true rfl)) d_Q_feed_73 ⟨(by show 0 + 0 ≤ 0; omega), (by show 0 + 0 ≤ 0; omega)⟩) hP hD hS hA [0, 1] [] rfl rfl (by decide) (by decide) (fun u7 H locs hu7 hP hD hS _hk => ?_)
        obtain ⟨n_d, f_d⟩ := u7
        have hP : va_P (dC, dI) CL [(qo, .inr (0, [.ref (qa 0), .int (iI n_d), .ref (qa 1), .int (iI qll), .ref (qa 2), .ref (qa 3), .int (iI qfc), .int (iI qfp), .ref (qa 4), .ref (qa 5), .ref (qa 6), .ref (qa 7), .ref (qa 8), .ref (qa 9)])), (qa 0, .inl (kA 1, 400, .inl (aI f_d)))] H := hP
        have hD : va_D A [(qo, .inr (0, [.ref (qa 0), .int (iI n_d), .ref (qa 1), .int (iI qll), .ref (qa 2), .ref (qa 3), .int (iI qfc), .int (iI qfp), .ref (qa 4), .ref (qa 5), .ref (qa 6), .ref (qa 7), .ref (qa 8), .ref (qa 9)])), (qa 0, .inl (kA 1, 400, .inl (aI f_d)))] := hD
        have hp73 : (f_d, n_d) = abM pd (n - 12) (f_c, n_c) ∧ C2 f_d ∧ n_d = n_c + max 0 (min 4 (n - 12)) := hu7
        obtain ⟨hd1, hd2, hd3⟩ := hp73
        refine lv_aload_n hx hb d_Q_feed_76 rfl (lv_at hl 0 rfl) ?_
        refine gf_Q_81 hx hb hts hown hK hP 0 rfl rfl d_Q_feed_77 ?_
        exact fin (n_d, f_d) _ _ _ _ _ (by rfl) (by show (f_d, n_d) = fd4 n pa pb pc pd (ub, qbc) ∧ C2 f_d ∧ n_d = qbc + n; exact ⟨by unfold fd4; rw [← ha1, ← hb1, ← hc1]; exact hd1, hd2, by omega⟩) (by first | exact hP | (subst_vars; exact hP)) (by first | exact hD | (subst_vars; exact hD)) hS d_Q_feed_80
      · have _q := c3
        exact absurd c3 (by omega)
    · have _q := c2
      exact absurd c2 (by omega)
theorem d_Q_type_0 : decode b_Q_type 0 = .ok (.iload_n 1, 1) := by decide +kernel
theorem d_Q_type_1 : decode b_Q_type 1 = .ok (.invokestatic 126, 3) := by decide +kernel
theorem d_Q_type_4 : decode b_Q_type 4 = .ok (.iload_n 2, 1) := by decide +kernel
theorem d_Q_type_5 : decode b_Q_type 5 = .ok (.invokestatic 126, 3) := by decide +kernel
theorem d_Q_type_8 : decode b_Q_type 8 = .ok (.iadd, 1) := by decide +kernel
theorem d_Q_type_9 : decode b_Q_type 9 = .ok (.iload_n 3, 1) := by decide +kernel
theorem d_Q_type_10 : decode b_Q_type 10 = .ok (.invokestatic 126, 3) := by decide +kernel
theorem d_Q_type_13 : decode b_Q_type 13 = .ok (.iadd, 1) := by decide +kernel
theorem d_Q_type_14 : decode b_Q_type 14 = .ok (.iload 4, 2) := by decide +kernel
theorem d_Q_type_16 : decode b_Q_type 16 = .ok (.invokestatic 126, 3) := by decide +kernel
theorem d_Q_type_19 : decode b_Q_type 19 = .ok (.iadd, 1) := by decide +kernel
theorem d_Q_type_20 : decode b_Q_type 20 = .ok (.iload 5, 2) := by decide +kernel
theorem d_Q_type_22 : decode b_Q_type 22 = .ok (.invokestatic 126, 3) := by decide +kernel
theorem d_Q_type_25 : decode b_Q_type 25 = .ok (.iadd, 1) := by decide +kernel
theorem d_Q_type_26 : decode b_Q_type 26 = .ok (.istore 6, 2) := by decide +kernel
theorem d_Q_type_28 : decode b_Q_type 28 = .ok (.aload_n 0, 1) := by decide +kernel
theorem d_Q_type_29 : decode b_Q_type 29 = .ok (.getfield 130, 3) := by decide +kernel
theorem d_Q_type_32 : decode b_Q_type 32 = .ok (.iload 6, 2) := by decide +kernel
theorem d_Q_type_34 : decode b_Q_type 34 = .ok (.iadd, 1) := by decide +kernel
theorem d_Q_type_35 : decode b_Q_type 35 = .ok (.bipush 100, 2) := by decide +kernel
theorem d_Q_type_37 : decode b_Q_type 37 = .ok (.if_icmp .le 13, 3) := by decide +kernel
theorem d_Q_type_40 : decode b_Q_type 40 = .ok (.new 84, 3) := by decide +kernel
theorem d_Q_type_43 : decode b_Q_type 43 = .ok (.dup, 1) := by decide +kernel
theorem d_Q_type_44 : decode b_Q_type 44 = .ok (.ldc 133, 2) := by decide +kernel
theorem d_Q_type_46 : decode b_Q_type 46 = .ok (.invokespecial 88, 3) := by decide +kernel
theorem d_Q_type_49 : decode b_Q_type 49 = .ok (.athrow, 1) := by decide +kernel
theorem d_Q_type_50 : decode b_Q_type 50 = .ok (.aload_n 0, 1) := by decide +kernel
theorem d_Q_type_51 : decode b_Q_type 51 = .ok (.iload_n 1, 1) := by decide +kernel
theorem d_Q_type_52 : decode b_Q_type 52 = .ok (.invokevirtual 135, 3) := by decide +kernel
theorem d_Q_type_55 : decode b_Q_type 55 = .ok (.aload_n 0, 1) := by decide +kernel
theorem d_Q_type_56 : decode b_Q_type 56 = .ok (.iload_n 2, 1) := by decide +kernel
theorem d_Q_type_57 : decode b_Q_type 57 = .ok (.invokevirtual 135, 3) := by decide +kernel
theorem d_Q_type_60 : decode b_Q_type 60 = .ok (.aload_n 0, 1) := by decide +kernel
theorem d_Q_type_61 : decode b_Q_type 61 = .ok (.iload_n 3, 1) := by decide +kernel
theorem d_Q_type_62 : decode b_Q_type 62 = .ok (.invokevirtual 135, 3) := by decide +kernel
theorem d_Q_type_65 : decode b_Q_type 65 = .ok (.aload_n 0, 1) := by decide +kernel
theorem d_Q_type_66 : decode b_Q_type 66 = .ok (.iload 4, 2) := by decide +kernel
theorem d_Q_type_68 : decode b_Q_type 68 = .ok (.invokevirtual 135, 3) := by decide +kernel
theorem d_Q_type_71 : decode b_Q_type 71 = .ok (.aload_n 0, 1) := by decide +kernel
theorem d_Q_type_72 : decode b_Q_type 72 = .ok (.iload 5, 2) := by decide +kernel
theorem d_Q_type_74 : decode b_Q_type 74 = .ok (.invokevirtual 135, 3) := by decide +kernel
theorem d_Q_type_77 : decode b_Q_type 77 = .ok (.aload_n 0, 1) := by decide +kernel
theorem d_Q_type_78 : decode b_Q_type 78 = .ok (.getfield 130, 3) := by decide +kernel
theorem d_Q_type_81 : decode b_Q_type 81 = .ok (.ireturn, 1) := by decide +kernel
set_option maxHeartbeats 4000000 in
set_option maxRecDepth 100000 in
theorem c_Q_type (l : Launch) (dC : Nat → ClassId) (dI : Nat → Nat → Nat) (kA : Nat → ClassId) (sz : Nat) (qo : Nat) (qa : Nat → Nat) (qbc : Int) (qll : Int) (qfc : Int) (qfp : Int) (ul : Nat → Int) (pa : Int) (pb : Int) (pc : Int) (pd : Int) (pe : Int) (hll : 0 ≤ qll ∧ qll ≤ 100) (hul : C2 ul) (hfit : qll + (ciM pa + ciM pb + ciM pc + ciM pd + ciM pe) ≤ 100) : Met l y_Q_type (wsy y_Q_type b_Q_type 7 (some .int)) (rmd 3 0 0) (li_Pr (dC, dI) CL (TY kA) [.ref qo, .int (iI pa), .int (iI pb), .int (iI pc), .int (iI pd), .int (iI pe)] (fun h => h.size = sz ∧ va_P (dC, dI) CL [(qo, .inr (0, [.ref (qa 0), .int (iI qbc), .ref (qa 1), .int (iI qll), .ref (qa 2), .ref (qa 3), .int (iI qfc), .int (iI qfp), .ref (qa 4), .ref (qa 5), .ref (qa 6), .ref (qa 7), .ref (qa 8), .ref (qa 9)])), (qa 1, .inl (kA 1, 100, .inl (aI ul)))] h ∧ va_D (fun q => dI 100 0 ≤ q) [(qo, .inr (0, [.ref (qa 0), .int (iI qbc), .ref (qa 1), .int (iI qll), .ref (qa 2), .ref (qa 3), .int (iI qfc), .int (iI qfp), .ref (qa 4), .ref (qa 5), .ref (qa 6), .ref (qa 7), .ref (qa 8), .ref (qa 9)])), (qa 1, .inl (kA 1, 100, .inl (aI ul)))] ∧ (fun _ => True) h)) (li_Qw (S := (Int) × (Nat → Int)) (dC, dI) CL (fun u => (u.2, u.1) = ty5 pa pb pc pd pe (ul, qll) ∧ C2 u.2 ∧ qll ≤ u.1 ∧ u.1 ≤ 100) (fun u => some (.int (iI (u.1)))) (fun u => [(qo, .inr (0, [.ref (qa 0), .int (iI qbc), .ref (qa 1), .int (iI u.1), .ref (qa 2), .ref (qa 3), .int (iI qfc), .int (iI qfp), .ref (qa 4), .ref (qa 5), .ref (qa 6), .ref (qa 7), .ref (qa 8), .ref (qa 9)])), (qa 1, .inl (kA 1, 100, .inl (aI u.2)))]) (va_A [(qo, .inr (0, [.ref (qa 0), .int (iI qbc), .ref (qa 1), .int (iI qll), .ref (qa 2), .ref (qa 3), .int (iI qfc), .int (iI qfp), .ref (qa 4), .ref (qa 5), .ref (qa 6), .ref (qa 7), .ref (qa 8), .ref (qa 9)])), (qa 1, .inl (kA 1, 100, .inl (aI ul)))] sz)) 0 0 (va_A [(qo, .inr (0, [.ref (qa 0), .int (iI qbc), .ref (qa 1), .int (iI qll), .ref (qa 2), .ref (qa 3), .int (iI qfc), .int (iI qfp), .ref (qa 4), .ref (qa 5), .ref (qa 6), .ref (qa 7), .ref (qa 8), .ref (qa 9)])), (qa 1, .inl (kA 1, 100, .inl (aI ul)))] sz) := by
  refine li_mwi (r := fun (u : (Int) × (Nat → Int)) => u.1) (by decide) (Nat.le_of_ble_eq_true rfl) (fun u _ => by rfl) ?_
  intro p e s m args below meth c Q A C hP hD hBx hK hN hG hA hAi hAN fin ls hl
  obtain ⟨hx, hb, hr, hml, hown, hts, hlocks, hin⟩ := C
  have hown : s.vm.findClass R_Q = some m.cls := hown
  have hl : lv_has ls 7 [(0, .ref qo), (1, .int (iI pa)), (2, .int (iI pb)), (3, .int (iI pc)), (4, .int (iI pd)), (5, .int (iI pe))] := hl
  have hr_a := ciM_r pa
  have hr_b := ciM_r pb
  have hr_c := ciM_r pc
  have hr_d := ciM_r pd
  have hr_e := ciM_r pe
  suffices h9 : ∀ (H : Heap) (locs : List Loc), H = s.heap → locs = [] → W p l e (rmd 3 0 0) s m args below meth c H locs 0 0 Q (F0 m 0 ls []) from h9 _ _ rfl rfl
  intro H locs eH eL
  have hP : va_P (dC, dI) CL [(qo, .inr (0, [.ref (qa 0), .int (iI qbc), .ref (qa 1), .int (iI qll), .ref (qa 2), .ref (qa 3), .int (iI qfc), .int (iI qfp), .ref (qa 4), .ref (qa 5), .ref (qa 6), .ref (qa 7), .ref (qa 8), .ref (qa 9)])), (qa 1, .inl (kA 1, 100, .inl (aI ul)))] H := by rw [eH]; exact hP
  have hS : va_S A s.heap H locs := by rw [eH, eL]; exact va_S.rf
  refine lv_iload_n hx hb d_Q_type_0 rfl (lv_at hl 1 rfl) ?_
  refine li_callr ((va_runS (As := [.int (iI pa)]) (rest := []) ⟨hx, hb, hml, hown, hts⟩ (c_Q_charactersIn l dC dI kA pa ) (cw_Q_126 hts rfl rfl ⟨Nat.le_of_ble_eq_true rfl, Nat.le_of_ble_eq_true rfl⟩) (li_preS va_Pnil hK hN (hG.go hS hAN)) rfl rfl hl.1 rfl (lv_room (Nat.le_of_ble_eq_true rfl)) d_Q_type_1 ⟨(by show 0 + 0 ≤ 0; omega), (by show 0 + 0 ≤ 0; omega)⟩).run) ?_
  refine lv_iload_n hx hb d_Q_type_4 rfl (lv_at hl 2 rfl) ?_
  refine li_callr ((va_runS (As := [.int (iI pb)]) (rest := [.int (iI (ciM pa))]) ⟨hx, hb, hml, hown, hts⟩ (c_Q_charactersIn l dC dI kA pb ) (cw_Q_126 hts rfl rfl ⟨Nat.le_of_ble_eq_true rfl, Nat.le_of_ble_eq_true rfl⟩) (li_preS va_Pnil hK hN (hG.go hS hAN)) rfl rfl hl.1 rfl (lv_room (Nat.le_of_ble_eq_true rfl)) d_Q_type_5 ⟨(by show 0 + 0 ≤ 0; omega), (by show 0 + 0 ≤ 0; omega)⟩).run) ?_
  refine li_iadd hx hb d_Q_type_8 ?_
  refine lv_iload_n hx hb d_Q_type_9 rfl (lv_at hl 3 rfl) ?_
  refine li_callr ((va_runS (As := [.int (iI pc)]) (rest := [.int (iI ((ciM pa) + (ciM pb)))]) ⟨hx, hb, hml, hown, hts⟩ (c_Q_charactersIn l dC dI kA pc ) (cw_Q_126 hts rfl rfl ⟨Nat.le_of_ble_eq_true rfl, Nat.le_of_ble_eq_true rfl⟩) (li_preS va_Pnil hK hN (hG.go hS hAN)) rfl rfl hl.1 rfl (lv_room (Nat.le_of_ble_eq_true rfl)) d_Q_type_10 ⟨(by show 0 + 0 ≤ 0; omega), (by show 0 + 0 ≤ 0; omega)⟩).run) ?_
  refine li_iadd hx hb d_Q_type_13 ?_
  refine lv_iload hx hb d_Q_type_14 (lv_at hl 4 rfl) ?_
  refine li_callr ((va_runS (As := [.int (iI pd)]) (rest := [.int (iI (((ciM pa) + (ciM pb)) + (ciM pc)))]) ⟨hx, hb, hml, hown, hts⟩ (c_Q_charactersIn l dC dI kA pd ) (cw_Q_126 hts rfl rfl ⟨Nat.le_of_ble_eq_true rfl, Nat.le_of_ble_eq_true rfl⟩) (li_preS va_Pnil hK hN (hG.go hS hAN)) rfl rfl hl.1 rfl (lv_room (Nat.le_of_ble_eq_true rfl)) d_Q_type_16 ⟨(by show 0 + 0 ≤ 0; omega), (by show 0 + 0 ≤ 0; omega)⟩).run) ?_
  refine li_iadd hx hb d_Q_type_19 ?_
  refine lv_iload hx hb d_Q_type_20 (lv_at hl 5 rfl) ?_
  refine li_callr ((va_runS (As := [.int (iI pe)]) (rest := [.int (iI ((((ciM pa) + (ciM pb)) + (ciM pc)) + (ciM pd)))]) ⟨hx, hb, hml, hown, hts⟩ (c_Q_charactersIn l dC dI kA pe ) (cw_Q_126 hts rfl rfl ⟨Nat.le_of_ble_eq_true rfl, Nat.le_of_ble_eq_true rfl⟩) (li_preS va_Pnil hK hN (hG.go hS hAN)) rfl rfl hl.1 rfl (lv_room (Nat.le_of_ble_eq_true rfl)) d_Q_type_22 ⟨(by show 0 + 0 ≤ 0; omega), (by show 0 + 0 ≤ 0; omega)⟩).run) ?_
  refine li_iadd hx hb d_Q_type_25 ?_
  refine li_nm (fun x1 ex1 => ?_)
  refine lv_istore (lv' := [(6, .int (iI x1)), (0, .ref qo), (1, .int (iI pa)), (2, .int (iI pb)), (3, .int (iI pc)), (4, .int (iI pd)), (5, .int (iI pe))]) hx hb d_Q_type_26 hl (by decide) rfl (fun ls hl => ?_)
  refine lv_aload_n hx hb d_Q_type_28 rfl (lv_at hl 1 rfl) ?_
  refine gf_Q_130 hx hb hts hown hK hP 0 rfl rfl d_Q_type_29 ?_
  refine lv_iload hx hb d_Q_type_32 (lv_at hl 0 rfl) ?_
  refine li_iadd hx hb d_Q_type_34 ?_
  refine lv_bipush (v := iI 100) hx hb d_Q_type_35 (by decide) ?_
  refine li_icmp_le (tgt := 50) hx hb d_Q_type_37 (by decide) (by omega) (by omega) (fun c2 => ?_) (fun c2 => ?_)
  · have _q := c2
    refine lv_aload_n hx hb d_Q_type_50 rfl (lv_at hl 1 rfl) ?_
    refine lv_iload_n hx hb d_Q_type_51 rfl (lv_at hl 2 rfl) ?_
    refine li_callw (wc := [(qo, .inr (0, [.ref (qa 0), .int (iI qbc), .ref (qa 1), .int (iI qll), .ref (qa 2), .ref (qa 3), .int (iI qfc), .int (iI qfp), .ref (qa 4), .ref (qa 5), .ref (qa 6), .ref (qa 7), .ref (qa 8), .ref (qa 9)])), (qa 1, .inl (kA 1, 100, .inl (aI ul)))]) (wr := []) (va_runV (As := [.int (iI pa)]) (rest := []) ⟨hx, hb, hml, hown, hts⟩ (c_Q_addCharacters l dC dI kA H.size qo qa qbc qll qfc qfp ul pa (by omega) (by first | exact hd2 | exact hc2 | exact hb2 | exact ha2 | exact hul)) (cw_Q_135 hts rfl rfl ⟨Nat.le_of_ble_eq_true rfl, Nat.le_of_ble_eq_true rfl⟩) (li_preV (va_recv hK hP (ci := 0) (q0 := 0) rfl rfl) ⟨rfl, hP.sub [0, 1] rfl, (hD.sub [0, 1] (by decide) rfl).weaken (fun _ _ _ h => hAN _ h), trivial⟩ hK hN (hG.go hS hAN)) rfl rfl hl.1 rfl (lv_room (Nat.le_of_ble_eq_true rfl)) d_Q_type_52 ⟨(by show 0 + 0 ≤ 0; omega), (by show 0 + 0 ≤ 0; omega)⟩) hP hD hS hA [0, 1] [] rfl rfl (by decide) (by decide) (fun u3 H locs hu3 hP hD hS _hk => ?_)
    obtain ⟨n_a, f_a⟩ := u3
    have hP : va_P (dC, dI) CL [(qo, .inr (0, [.ref (qa 0), .int (iI qbc), .ref (qa 1), .int (iI n_a), .ref (qa 2), .ref (qa 3), .int (iI qfc), .int (iI qfp), .ref (qa 4), .ref (qa 5), .ref (qa 6), .ref (qa 7), .ref (qa 8), .ref (qa 9)])), (qa 1, .inl (kA 1, 100, .inl (aI f_a)))] H := hP
    have hD : va_D A [(qo, .inr (0, [.ref (qa 0), .int (iI qbc), .ref (qa 1), .int (iI n_a), .ref (qa 2), .ref (qa 3), .int (iI qfc), .int (iI qfp), .ref (qa 4), .ref (qa 5), .ref (qa 6), .ref (qa 7), .ref (qa 8), .ref (qa 9)])), (qa 1, .inl (kA 1, 100, .inl (aI f_a)))] := hD
    have hp52 : (f_a, n_a) = acM pa (ul, qll) ∧ C2 f_a ∧ qll ≤ n_a ∧ n_a ≤ 100 := hu3
    obtain ⟨ha1, ha2, ha3⟩ := hp52
    refine lv_aload_n hx hb d_Q_type_55 rfl (lv_at hl 1 rfl) ?_
    refine lv_iload_n hx hb d_Q_type_56 rfl (lv_at hl 3 rfl) ?_
    refine li_callw (wc := [(qo, .inr (0, [.ref (qa 0), .int (iI qbc), .ref (qa 1), .int (iI n_a), .ref (qa 2), .ref (qa 3), .int (iI qfc), .int (iI qfp), .ref (qa 4), .ref (qa 5), .ref (qa 6), .ref (qa 7), .ref (qa 8), .ref (qa 9)])), (qa 1, .inl (kA 1, 100, .inl (aI f_a)))]) (wr := []) (va_runV (As := [.int (iI pb)]) (rest := []) ⟨hx, hb, hml, hown, hts⟩ (c_Q_addCharacters l dC dI kA H.size qo qa qbc n_a qfc qfp f_a pb (by omega) (by first | exact hd2 | exact hc2 | exact hb2 | exact ha2 | exact hul)) (cw_Q_135 hts rfl rfl ⟨Nat.le_of_ble_eq_true rfl, Nat.le_of_ble_eq_true rfl⟩) (li_preV (va_recv hK hP (ci := 0) (q0 := 0) rfl rfl) ⟨rfl, hP.sub [0, 1] rfl, (hD.sub [0, 1] (by decide) rfl).weaken (fun _ _ _ h => hAN _ h), trivial⟩ hK hN (hG.go hS hAN)) rfl rfl hl.1 rfl (lv_room (Nat.le_of_ble_eq_true rfl)) d_Q_type_57 ⟨(by show 0 + 0 ≤ 0; omega), (by show 0 + 0 ≤ 0; omega)⟩) hP hD hS hA [0, 1] [] rfl rfl (by decide) (by decide) (fun u4 H locs hu4 hP hD hS _hk => ?_)
    obtain ⟨n_b, f_b⟩ := u4
    have hP : va_P (dC, dI) CL [(qo, .inr (0, [.ref (qa 0), .int (iI qbc), .ref (qa 1), .int (iI n_b), .ref (qa 2), .ref (qa 3), .int (iI qfc), .int (iI qfp), .ref (qa 4), .ref (qa 5), .ref (qa 6), .ref (qa 7), .ref (qa 8), .ref (qa 9)])), (qa 1, .inl (kA 1, 100, .inl (aI f_b)))] H := hP
    have hD : va_D A [(qo, .inr (0, [.ref (qa 0), .int (iI qbc), .ref (qa 1), .int (iI n_b), .ref (qa 2), .ref (qa 3), .int (iI qfc), .int (iI qfp), .ref (qa 4), .ref (qa 5), .ref (qa 6), .ref (qa 7), .ref (qa 8), .ref (qa 9)])), (qa 1, .inl (kA 1, 100, .inl (aI f_b)))] := hD
    have hp57 : (f_b, n_b) = acM pb (f_a, n_a) ∧ C2 f_b ∧ n_a ≤ n_b ∧ n_b ≤ 100 := hu4
    obtain ⟨hb1, hb2, hb3⟩ := hp57
    refine lv_aload_n hx hb d_Q_type_60 rfl (lv_at hl 1 rfl) ?_
    refine lv_iload_n hx hb d_Q_type_61 rfl (lv_at hl 4 rfl) ?_
    refine li_callw (wc := [(qo, .inr (0, [.ref (qa 0), .int (iI qbc), .ref (qa 1), .int (iI n_b), .ref (qa 2), .ref (qa 3), .int (iI qfc), .int (iI qfp), .ref (qa 4), .ref (qa 5), .ref (qa 6), .ref (qa 7), .ref (qa 8), .ref (qa 9)])), (qa 1, .inl (kA 1, 100, .inl (aI f_b)))]) (wr := []) (va_runV (As := [.int (iI pc)]) (rest := []) ⟨hx, hb, hml, hown, hts⟩ (c_Q_addCharacters l dC dI kA H.size qo qa qbc n_b qfc qfp f_b pc (by omega) (by first | exact hd2 | exact hc2 | exact hb2 | exact ha2 | exact hul)) (cw_Q_135 hts rfl rfl ⟨Nat.le_of_ble_eq_true rfl, Nat.le_of_ble_eq_true rfl⟩) (li_preV (va_recv hK hP (ci := 0) (q0 := 0) rfl rfl) ⟨rfl, hP.sub [0, 1] rfl, (hD.sub [0, 1] (by decide) rfl).weaken (fun _ _ _ h => hAN _ h), trivial⟩ hK hN (hG.go hS hAN)) rfl rfl hl.1 rfl (lv_room (Nat.le_of_ble_eq_true rfl)) d_Q_type_62 ⟨(by show 0 + 0 ≤ 0; omega), (by show 0 + 0 ≤ 0; omega)⟩) hP hD hS hA [0, 1] [] rfl rfl (by decide) (by decide) (fun u5 H locs hu5 hP hD hS _hk => ?_)
    obtain ⟨n_c, f_c⟩ := u5
    have hP : va_P (dC, dI) CL [(qo, .inr (0, [.ref (qa 0), .int (iI qbc), .ref (qa 1), .int (iI n_c), .ref (qa 2), .ref (qa 3), .int (iI qfc), .int (iI qfp), .ref (qa 4), .ref (qa 5), .ref (qa 6), .ref (qa 7), .ref (qa 8), .ref (qa 9)])), (qa 1, .inl (kA 1, 100, .inl (aI f_c)))] H := hP
    have hD : va_D A [(qo, .inr (0, [.ref (qa 0), .int (iI qbc), .ref (qa 1), .int (iI n_c), .ref (qa 2), .ref (qa 3), .int (iI qfc), .int (iI qfp), .ref (qa 4), .ref (qa 5), .ref (qa 6), .ref (qa 7), .ref (qa 8), .ref (qa 9)])), (qa 1, .inl (kA 1, 100, .inl (aI f_c)))] := hD
    have hp62 : (f_c, n_c) = acM pc (f_b, n_b) ∧ C2 f_c ∧ n_b ≤ n_c ∧ n_c ≤ 100 := hu5
    obtain ⟨hc1, hc2, hc3⟩ := hp62
    refine lv_aload_n hx hb d_Q_type_65 rfl (lv_at hl 1 rfl) ?_
    refine lv_iload hx hb d_Q_type_66 (lv_at hl 5 rfl) ?_
    refine li_callw (wc := [(qo, .inr (0, [.ref (qa 0), .int (iI qbc), .ref (qa 1), .int (iI n_c), .ref (qa 2), .ref (qa 3), .int (iI qfc), .int (iI qfp), .ref (qa 4), .ref (qa 5), .ref (qa 6), .ref (qa 7), .ref (qa 8), .ref (qa 9)])), (qa 1, .inl (kA 1, 100, .inl (aI f_c)))]) (wr := []) (va_runV (As := [.int (iI pd)]) (rest := []) ⟨hx, hb, hml, hown, hts⟩ (c_Q_addCharacters l dC dI kA H.size qo qa qbc n_c qfc qfp f_c pd (by omega) (by first | exact hd2 | exact hc2 | exact hb2 | exact ha2 | exact hul)) (cw_Q_135 hts rfl rfl ⟨Nat.le_of_ble_eq_true rfl, Nat.le_of_ble_eq_true rfl⟩) (li_preV (va_recv hK hP (ci := 0) (q0 := 0) rfl rfl) ⟨rfl, hP.sub [0, 1] rfl, (hD.sub [0, 1] (by decide) rfl).weaken (fun _ _ _ h => hAN _ h), trivial⟩ hK hN (hG.go hS hAN)) rfl rfl hl.1 rfl (lv_room (Nat.le_of_ble_eq_true rfl)) d_Q_type_68 ⟨(by show 0 + 0 ≤ 0; omega), (by show 0 + 0 ≤ 0; omega)⟩) hP hD hS hA [0, 1] [] rfl rfl (by decide) (by decide) (fun u6 H locs hu6 hP hD hS _hk => ?_)
    obtain ⟨n_d, f_d⟩ := u6
    have hP : va_P (dC, dI) CL [(qo, .inr (0, [.ref (qa 0), .int (iI qbc), .ref (qa 1), .int (iI n_d), .ref (qa 2), .ref (qa 3), .int (iI qfc), .int (iI qfp), .ref (qa 4), .ref (qa 5), .ref (qa 6), .ref (qa 7), .ref (qa 8), .ref (qa 9)])), (qa 1, .inl (kA 1, 100, .inl (aI f_d)))] H := hP
    have hD : va_D A [(qo, .inr (0, [.ref (qa 0), .int (iI qbc), .ref (qa 1), .int (iI n_d), .ref (qa 2), .ref (qa 3), .int (iI qfc), .int (iI qfp), .ref (qa 4), .ref (qa 5), .ref (qa 6), .ref (qa 7), .ref (qa 8), .ref (qa 9)])), (qa 1, .inl (kA 1, 100, .inl (aI f_d)))] := hD
    have hp68 : (f_d, n_d) = acM pd (f_c, n_c) ∧ C2 f_d ∧ n_c ≤ n_d ∧ n_d ≤ 100 := hu6
    obtain ⟨hd1, hd2, hd3⟩ := hp68
    refine lv_aload_n hx hb d_Q_type_71 rfl (lv_at hl 1 rfl) ?_
    refine lv_iload hx hb d_Q_type_72 (lv_at hl 6 rfl) ?_
    refine li_callw (wc := [(qo, .inr (0, [.ref (qa 0), .int (iI qbc), .ref (qa 1), .int (iI n_d), .ref (qa 2), .ref (qa 3), .int (iI qfc), .int (iI qfp), .ref (qa 4), .ref (qa 5), .ref (qa 6), .ref (qa 7), .ref (qa 8), .ref (qa 9)])), (qa 1, .inl (kA 1, 100, .inl (aI f_d)))]) (wr := []) (va_runV (As := [.int (iI pe)]) (rest := []) ⟨hx, hb, hml, hown, hts⟩ (c_Q_addCharacters l dC dI kA H.size qo qa qbc n_d qfc qfp f_d pe (by omega) (by first | exact hd2 | exact hc2 | exact hb2 | exact ha2 | exact hul)) (cw_Q_135 hts rfl rfl ⟨Nat.le_of_ble_eq_true rfl, Nat.le_of_ble_eq_true rfl⟩) (li_preV (va_recv hK hP (ci := 0) (q0 := 0) rfl rfl) ⟨rfl, hP.sub [0, 1] rfl, (hD.sub [0, 1] (by decide) rfl).weaken (fun _ _ _ h => hAN _ h), trivial⟩ hK hN (hG.go hS hAN)) rfl rfl hl.1 rfl (lv_room (Nat.le_of_ble_eq_true rfl)) d_Q_type_74 ⟨(by show 0 + 0 ≤ 0; omega), (by show 0 + 0 ≤ 0; omega)⟩) hP hD hS hA [0, 1] [] rfl rfl (by decide) (by decide) (fun u7 H locs hu7 hP hD hS _hk => ?_)
    obtain ⟨n_e, f_e⟩ := u7
    have hP : va_P (dC, dI) CL [(qo, .inr (0, [.ref (qa 0), .int (iI qbc), .ref (qa 1), .int (iI n_e), .ref (qa 2), .ref (qa 3), .int (iI qfc), .int (iI qfp), .ref (qa 4), .ref (qa 5), .ref (qa 6), .ref (qa 7), .ref (qa 8), .ref (qa 9)])), (qa 1, .inl (kA 1, 100, .inl (aI f_e)))] H := hP
    have hD : va_D A [(qo, .inr (0, [.ref (qa 0), .int (iI qbc), .ref (qa 1), .int (iI n_e), .ref (qa 2), .ref (qa 3), .int (iI qfc), .int (iI qfp), .ref (qa 4), .ref (qa 5), .ref (qa 6), .ref (qa 7), .ref (qa 8), .ref (qa 9)])), (qa 1, .inl (kA 1, 100, .inl (aI f_e)))] := hD
    have hp74 : (f_e, n_e) = acM pe (f_d, n_d) ∧ C2 f_e ∧ n_d ≤ n_e ∧ n_e ≤ 100 := hu7
    obtain ⟨he1, he2, he3⟩ := hp74
    refine lv_aload_n hx hb d_Q_type_77 rfl (lv_at hl 1 rfl) ?_
    refine gf_Q_130 hx hb hts hown hK hP 0 rfl rfl d_Q_type_78 ?_
    exact fin (n_e, f_e) _ _ _ _ _ (by rfl) (by show (f_e, n_e) = ty5 pa pb pc pd pe (ul, qll) ∧ C2 f_e ∧ qll ≤ n_e ∧ n_e ≤ 100; exact ⟨by unfold ty5; rw [← ha1, ← hb1, ← hc1, ← hd1]; exact he1, he2, by omega, by omega⟩) (by first | exact hP | (subst_vars; exact hP)) (by first | exact hD | (subst_vars; exact hD)) hS d_Q_type_81
  · have _q := c2
    exact absurd c2 (by omega)
theorem d_Q_record_0 : decode b_Q_record 0 = .ok (.iload_n 1, 1) := by decide +kernel
theorem d_Q_record_1 : decode b_Q_record 1 = .ok (.invokestatic 120, 3) := by decide +kernel
theorem d_Q_record_4 : decode b_Q_record 4 = .ok (.iload_n 2, 1) := by decide +kernel
theorem d_Q_record_5 : decode b_Q_record 5 = .ok (.ifCond .lt 8, 3) := by decide +kernel
theorem d_Q_record_8 : decode b_Q_record 8 = .ok (.iload_n 2, 1) := by decide +kernel
theorem d_Q_record_9 : decode b_Q_record 9 = .ok (.iconst 3, 1) := by decide +kernel
theorem d_Q_record_10 : decode b_Q_record 10 = .ok (.if_icmp .le 13, 3) := by decide +kernel
theorem d_Q_record_13 : decode b_Q_record 13 = .ok (.new 74, 3) := by decide +kernel
theorem d_Q_record_16 : decode b_Q_record 16 = .ok (.dup, 1) := by decide +kernel
theorem d_Q_record_17 : decode b_Q_record 17 = .ok (.ldc 173, 2) := by decide +kernel
theorem d_Q_record_19 : decode b_Q_record 19 = .ok (.invokespecial 78, 3) := by decide +kernel
theorem d_Q_record_22 : decode b_Q_record 22 = .ok (.athrow, 1) := by decide +kernel
theorem d_Q_record_23 : decode b_Q_record 23 = .ok (.aload_n 0, 1) := by decide +kernel
theorem d_Q_record_24 : decode b_Q_record 24 = .ok (.getfield 18, 3) := by decide +kernel
theorem d_Q_record_27 : decode b_Q_record 27 = .ok (.iload_n 1, 1) := by decide +kernel
theorem d_Q_record_28 : decode b_Q_record 28 = .ok (.aaload, 1) := by decide +kernel
theorem d_Q_record_29 : decode b_Q_record 29 = .ok (.astore_n 3, 1) := by decide +kernel
theorem d_Q_record_30 : decode b_Q_record 30 = .ok (.aload_n 3, 1) := by decide +kernel
theorem d_Q_record_31 : decode b_Q_record 31 = .ok (.ifnonnull 5, 3) := by decide +kernel
theorem d_Q_record_34 : decode b_Q_record 34 = .ok (.iconst (-1), 1) := by decide +kernel
theorem d_Q_record_35 : decode b_Q_record 35 = .ok (.ireturn, 1) := by decide +kernel
theorem d_Q_record_36 : decode b_Q_record 36 = .ok (.iload_n 2, 1) := by decide +kernel
theorem d_Q_record_37 : decode b_Q_record 37 = .ok (.ifCond .ne 8, 3) := by decide +kernel
theorem d_Q_record_40 : decode b_Q_record 40 = .ok (.aload_n 3, 1) := by decide +kernel
theorem d_Q_record_41 : decode b_Q_record 41 = .ok (.getfield 175, 3) := by decide +kernel
theorem d_Q_record_44 : decode b_Q_record 44 = .ok (.ireturn, 1) := by decide +kernel
theorem d_Q_record_45 : decode b_Q_record 45 = .ok (.iload_n 2, 1) := by decide +kernel
theorem d_Q_record_46 : decode b_Q_record 46 = .ok (.iconst 1, 1) := by decide +kernel
theorem d_Q_record_47 : decode b_Q_record 47 = .ok (.if_icmp .ne 9, 3) := by decide +kernel
theorem d_Q_record_50 : decode b_Q_record 50 = .ok (.aload_n 3, 1) := by decide +kernel
theorem d_Q_record_51 : decode b_Q_record 51 = .ok (.getfield 178, 3) := by decide +kernel
theorem d_Q_record_54 : decode b_Q_record 54 = .ok (.arraylength, 1) := by decide +kernel
theorem d_Q_record_55 : decode b_Q_record 55 = .ok (.ireturn, 1) := by decide +kernel
theorem d_Q_record_56 : decode b_Q_record 56 = .ok (.iload_n 2, 1) := by decide +kernel
theorem d_Q_record_57 : decode b_Q_record 57 = .ok (.iconst 2, 1) := by decide +kernel
theorem d_Q_record_58 : decode b_Q_record 58 = .ok (.if_icmp .ne 10, 3) := by decide +kernel
theorem d_Q_record_61 : decode b_Q_record 61 = .ok (.aload_n 3, 1) := by decide +kernel
theorem d_Q_record_62 : decode b_Q_record 62 = .ok (.invokevirtual 181, 3) := by decide +kernel
theorem d_Q_record_65 : decode b_Q_record 65 = .ok (.goto 8, 3) := by decide +kernel
theorem d_Q_record_68 : decode b_Q_record 68 = .ok (.aload_n 3, 1) := by decide +kernel
theorem d_Q_record_69 : decode b_Q_record 69 = .ok (.iconst 0, 1) := by decide +kernel
theorem d_Q_record_70 : decode b_Q_record 70 = .ok (.invokevirtual 184, 3) := by decide +kernel
theorem d_Q_record_73 : decode b_Q_record 73 = .ok (.ireturn, 1) := by decide +kernel
set_option maxHeartbeats 4000000 in
set_option maxRecDepth 100000 in
theorem c_Q_record (l : Launch) (dC : Nat → ClassId) (dI : Nat → Nat → Nat) (kA : Nat → ClassId) (qo : Nat) (qa : Nat → Nat) (qbc : Int) (qll : Int) (qfc : Int) (qfp : Int) (hd : Nat → Option HD) (r : Int) (w : Int) (hHD : ∀ (r : Nat) (d : HD), hd r = some d → HDok d) (hr : 0 ≤ r ∧ r ≤ 9) (hw : 0 ≤ w ∧ w ≤ 3) : Met l y_Q_record (wsy y_Q_record b_Q_record 4 (some .int)) (rmd 3 0 0) (li_Pr (dC, dI) CL (TY kA) [.ref qo, .int (iI r), .int (iI w)] (fun h => va_P (dC, dI) CL [(qo, .inr (0, [.ref (qa 0), .int (iI qbc), .ref (qa 1), .int (iI qll), .ref (qa 2), .ref (qa 3), .int (iI qfc), .int (iI qfp), .ref (qa 4), .ref (qa 5), .ref (qa 6), .ref (qa 7), .ref (qa 8), .ref (qa 9)])), (qa 2, .inl (kA 4, 10, .inr (.inr (.inr (.inr (shO hd))))))] h ∧ ShR (dC, dI) kA hd h)) (k2_QcV (.int (iI (rcD hd r w)))) 0 0 (fun _ => False) := by
  refine li_mr (by decide) (Nat.le_of_ble_eq_true rfl) (by rfl) ?_
  intro p e s m args below meth c Q C hP hK hN hG fin ls hl
  obtain ⟨hx, hb, hr, hml, hown, hts, hlocks, hin⟩ := C
  have hown : s.vm.findClass R_Q = some m.cls := hown
  obtain ⟨hP, hSh⟩ := hP
  have hP : va_P (dC, dI) CL [(qo, .inr (0, [.ref (qa 0), .int (iI qbc), .ref (qa 1), .int (iI qll), .ref (qa 2), .ref (qa 3), .int (iI qfc), .int (iI qfp), .ref (qa 4), .ref (qa 5), .ref (qa 6), .ref (qa 7), .ref (qa 8), .ref (qa 9)])), (qa 2, .inl (kA 4, 10, .inr (.inr (.inr (.inr (shO hd))))))] s.heap := hP
  have hl : lv_has ls 4 [(0, .ref qo), (1, .int (iI r)), (2, .int (iI w))] := hl
  refine lv_iload_n hx hb d_Q_record_0 rfl (lv_at hl 1 rfl) ?_
  refine li_callrv ((va_runS (As := [.int (iI r)]) (rest := []) ⟨hx, hb, hml, hown, hts⟩ (c_Q_checkRecord l dC dI kA r (by omega)) (cw_Q_120 hts rfl rfl ⟨Nat.le_of_ble_eq_true rfl, Nat.le_of_ble_eq_true rfl⟩) (li_preS va_Pnil hK hN hG.rd) rfl rfl hl.1 rfl (lv_room (Nat.le_of_ble_eq_true rfl)) d_Q_record_1 ⟨(by show 0 + 0 ≤ 0; omega), (by show 0 + 0 ≤ 0; omega)⟩).run) ?_
  refine lv_iload_n hx hb d_Q_record_4 rfl (lv_at hl 2 rfl) ?_
  refine li_if_lt (tgt := 13) hx hb d_Q_record_5 (by decide) (by omega) (fun c1 => ?_) (fun c1 => ?_)
  · have _q := c1
    exact absurd c1 (by omega)
  · have _q := c1
    refine lv_iload_n hx hb d_Q_record_8 rfl (lv_at hl 2 rfl) ?_
    refine lv_iconst (v := iI 3) hx hb d_Q_record_9 rfl ?_
    refine li_icmp_le (tgt := 23) hx hb d_Q_record_10 (by decide) (by omega) (by omega) (fun c2 => ?_) (fun c2 => ?_)
    · have _q := c2
      refine lv_aload_n hx hb d_Q_record_23 rfl (lv_at hl 0 rfl) ?_
      refine gf_Q_18 hx hb hts hown hK hP 0 rfl rfl d_Q_record_24 ?_
      refine lv_iload_n hx hb d_Q_record_27 rfl (lv_at hl 1 rfl) ?_
      refine li_ald hx hb hK hP 1 4 rfl rfl (by omega) (by omega) (by omega) d_Q_record_28 ?_
      rcases hd3 : hd r.toNat with _ | dq
      · have _q := hd3
        refine li_rfN (shO_n hd3) ?_
        have hkn := hd3
        refine lv_astore_nN (lv' := [(3, .null), (0, .ref qo), (1, .int (iI r)), (2, .int (iI w))]) hx hb d_Q_record_29 rfl hl (by decide) rfl (fun ls hl => ?_)
        refine lv_aload_nN hx hb d_Q_record_30 rfl (lv_at hl 0 rfl) ?_
        refine lv_ifnonnullN hx hb d_Q_record_31 ?_
        refine lv_iconst (v := iI (-1)) hx hb d_Q_record_34 rfl ?_
        exact fin _ _ _ (by first | (rw [rcD_n hkn]; done) | (rw [rcD_s hk_dq]; first | (rw [if_pos (by omega)]; done) | (rw [if_neg (by omega), if_pos (by omega)]; done) | (rw [if_neg (by omega), if_neg (by omega), if_pos (by omega)]; done) | (rw [if_neg (by omega), if_neg (by omega), if_neg (by omega)]; done))) d_Q_record_35
      · have _q := hd3
        refine li_rfS (a := dq.ho) (shO_s hd3) ?_
        have hk_dq := hd3
        obtain ⟨hH_dq, hte_dq⟩ := hHD _ _ hd3
        have hR_dq := hSh r.toNat dq hd3
        refine lv_astore_n (lv' := [(3, .ref dq.ho), (0, .ref qo), (1, .int (iI r)), (2, .int (iI w))]) hx hb d_Q_record_29 rfl hl (by decide) rfl (fun ls hl => ?_)
        refine lv_aload_n hx hb d_Q_record_30 rfl (lv_at hl 0 rfl) ?_
        refine lv_ifnonnull (tgt := 36) hx hb d_Q_record_31 (by decide) ?_
        refine lv_iload_n hx hb d_Q_record_36 rfl (lv_at hl 3 rfl) ?_
        refine li_if_ne (tgt := 45) hx hb d_Q_record_37 (by decide) (by omega) (fun c4 => ?_) (fun c4 => ?_)
        · have _q := c4
          refine lv_iload_n hx hb d_Q_record_45 rfl (lv_at hl 3 rfl) ?_
          refine lv_iconst (v := iI 1) hx hb d_Q_record_46 rfl ?_
          refine li_icmp_ne (tgt := 56) hx hb d_Q_record_47 (by decide) (by omega) (by omega) (fun c5 => ?_) (fun c5 => ?_)
          · have _q := c5
            refine lv_iload_n hx hb d_Q_record_56 rfl (lv_at hl 3 rfl) ?_
            refine lv_iconst (v := iI 2) hx hb d_Q_record_57 rfl ?_
            refine li_icmp_ne (tgt := 68) hx hb d_Q_record_58 (by decide) (by omega) (by omega) (fun c6 => ?_) (fun c6 => ?_)
            · have _q := c6
              refine lv_aload_n hx hb d_Q_record_68 rfl (lv_at hl 0 rfl) ?_
              refine lv_iconst (v := iI 0) hx hb d_Q_record_69 rfl ?_
              refine li_callr ((va_runV (As := [.int (iI 0)]) (rest := []) ⟨hx, hb, hml, hown, hts⟩ (c_H_textsIn l dC dI kA dq.ho dq.oc dq.xi dq.xs dq.xe dq.xl dq.n dq.mx dq.fd dq.tc dq.t dq.ti dq.ts dq.te dq.tl 0 (by exact hH_dq) (by omega)) (cw_Q_184 hts rfl rfl ⟨Nat.le_of_ble_eq_true rfl, Nat.le_of_ble_eq_true rfl⟩) (li_preV (va_recv hK hR_dq (ci := 2) (q0 := 0) rfl rfl) (hR_dq.sub [0, 1, 2, 3, 4, 5] rfl) hK hN hG.rd) rfl rfl hl.1 rfl (lv_room (Nat.le_of_ble_eq_true rfl)) d_Q_record_70 ⟨(by show 0 + 0 ≤ 0; omega), (by show 0 + 0 ≤ 0; omega)⟩).run) ?_
              exact fin _ _ _ (by first | (rw [rcD_n hkn]; done) | (rw [rcD_s hk_dq]; first | (rw [if_pos (by omega)]; done) | (rw [if_neg (by omega), if_pos (by omega)]; done) | (rw [if_neg (by omega), if_neg (by omega), if_pos (by omega)]; done) | (rw [if_neg (by omega), if_neg (by omega), if_neg (by omega)]; done))) d_Q_record_73
            · have _q := c6
              refine lv_aload_n hx hb d_Q_record_61 rfl (lv_at hl 0 rfl) ?_
              refine li_callr ((va_runV (As := []) (rest := []) ⟨hx, hb, hml, hown, hts⟩ (c_H_date l dC dI kA dq.ho dq.oc dq.xi dq.xs dq.xe dq.xl dq.n dq.mx dq.fd dq.tc dq.t dq.ti dq.ts dq.te dq.tl (by exact hH_dq)) (cw_Q_181 hts rfl rfl ⟨Nat.le_of_ble_eq_true rfl, Nat.le_of_ble_eq_true rfl⟩) (li_preV (va_recv hK hR_dq (ci := 2) (q0 := 0) rfl rfl) (hR_dq.sub [0, 1, 2, 3, 4, 5] rfl) hK hN hG.rd) rfl rfl hl.1 rfl (lv_room (Nat.le_of_ble_eq_true rfl)) d_Q_record_62 ⟨(by show 0 + 0 ≤ 0; omega), (by show 0 + 0 ≤ 0; omega)⟩).run) ?_
              refine lv_goto (tgt := 73) hx hb d_Q_record_65 (by decide) ?_
              exact fin _ _ _ (by first | (rw [rcD_n hkn]; done) | (rw [rcD_s hk_dq]; first | (rw [if_pos (by omega)]; done) | (rw [if_neg (by omega), if_pos (by omega)]; done) | (rw [if_neg (by omega), if_neg (by omega), if_pos (by omega)]; done) | (rw [if_neg (by omega), if_neg (by omega), if_neg (by omega)]; done))) d_Q_record_73
          · have _q := c5
            refine lv_aload_n hx hb d_Q_record_50 rfl (lv_at hl 0 rfl) ?_
            refine gf_Q_178 hx hb hts hN hown hK hR_dq 0 rfl rfl d_Q_record_51 ?_
            refine li_alen hx hb hK hR_dq 1 1 rfl rfl d_Q_record_54 ?_
            exact fin _ _ _ (by first | (rw [rcD_n hkn]; done) | (rw [rcD_s hk_dq]; first | (rw [if_pos (by omega)]; done) | (rw [if_neg (by omega), if_pos (by omega)]; done) | (rw [if_neg (by omega), if_neg (by omega), if_pos (by omega)]; done) | (rw [if_neg (by omega), if_neg (by omega), if_neg (by omega)]; done))) d_Q_record_55
        · have _q := c4
          refine lv_aload_n hx hb d_Q_record_40 rfl (lv_at hl 0 rfl) ?_
          refine gf_Q_175 hx hb hts hN hown hK hR_dq 0 rfl rfl d_Q_record_41 ?_
          exact fin _ _ _ (by first | (rw [rcD_n hkn]; done) | (rw [rcD_s hk_dq]; first | (rw [if_pos (by omega)]; done) | (rw [if_neg (by omega), if_pos (by omega)]; done) | (rw [if_neg (by omega), if_neg (by omega), if_pos (by omega)]; done) | (rw [if_neg (by omega), if_neg (by omega), if_neg (by omega)]; done))) d_Q_record_44
    · have _q := c2
      exact absurd c2 (by omega)
theorem d_Q_octet_0 : decode b_Q_octet 0 = .ok (.iload_n 1, 1) := by decide +kernel
theorem d_Q_octet_1 : decode b_Q_octet 1 = .ok (.invokestatic 120, 3) := by decide +kernel
theorem d_Q_octet_4 : decode b_Q_octet 4 = .ok (.aload_n 0, 1) := by decide +kernel
theorem d_Q_octet_5 : decode b_Q_octet 5 = .ok (.getfield 18, 3) := by decide +kernel
theorem d_Q_octet_8 : decode b_Q_octet 8 = .ok (.iload_n 1, 1) := by decide +kernel
theorem d_Q_octet_9 : decode b_Q_octet 9 = .ok (.aaload, 1) := by decide +kernel
theorem d_Q_octet_10 : decode b_Q_octet 10 = .ok (.astore_n 3, 1) := by decide +kernel
theorem d_Q_octet_11 : decode b_Q_octet 11 = .ok (.aload_n 3, 1) := by decide +kernel
theorem d_Q_octet_12 : decode b_Q_octet 12 = .ok (.ifnull 16, 3) := by decide +kernel
theorem d_Q_octet_15 : decode b_Q_octet 15 = .ok (.iload_n 2, 1) := by decide +kernel
theorem d_Q_octet_16 : decode b_Q_octet 16 = .ok (.ifCond .lt 12, 3) := by decide +kernel
theorem d_Q_octet_19 : decode b_Q_octet 19 = .ok (.iload_n 2, 1) := by decide +kernel
theorem d_Q_octet_20 : decode b_Q_octet 20 = .ok (.aload_n 3, 1) := by decide +kernel
theorem d_Q_octet_21 : decode b_Q_octet 21 = .ok (.getfield 178, 3) := by decide +kernel
theorem d_Q_octet_24 : decode b_Q_octet 24 = .ok (.arraylength, 1) := by decide +kernel
theorem d_Q_octet_25 : decode b_Q_octet 25 = .ok (.if_icmp .lt 5, 3) := by decide +kernel
theorem d_Q_octet_28 : decode b_Q_octet 28 = .ok (.iconst (-1), 1) := by decide +kernel
theorem d_Q_octet_29 : decode b_Q_octet 29 = .ok (.ireturn, 1) := by decide +kernel
theorem d_Q_octet_30 : decode b_Q_octet 30 = .ok (.aload_n 3, 1) := by decide +kernel
theorem d_Q_octet_31 : decode b_Q_octet 31 = .ok (.getfield 178, 3) := by decide +kernel
theorem d_Q_octet_34 : decode b_Q_octet 34 = .ok (.iload_n 2, 1) := by decide +kernel
theorem d_Q_octet_35 : decode b_Q_octet 35 = .ok (.caload, 1) := by decide +kernel
theorem d_Q_octet_36 : decode b_Q_octet 36 = .ok (.ireturn, 1) := by decide +kernel
set_option maxHeartbeats 4000000 in
set_option maxRecDepth 100000 in
theorem c_Q_octet (l : Launch) (dC : Nat → ClassId) (dI : Nat → Nat → Nat) (kA : Nat → ClassId) (qo : Nat) (qa : Nat → Nat) (qbc : Int) (qll : Int) (qfc : Int) (qfp : Int) (hd : Nat → Option HD) (r : Int) (k : Int) (hHD : ∀ (r : Nat) (d : HD), hd r = some d → HDok d) (hr : 0 ≤ r ∧ r ≤ 9) (hk : -2147483648 ≤ k ∧ k < 2147483648) : Met l y_Q_octet (wsy y_Q_octet b_Q_octet 4 (some .int)) (rmd 3 0 0) (li_Pr (dC, dI) CL (TY kA) [.ref qo, .int (iI r), .int (iI k)] (fun h => va_P (dC, dI) CL [(qo, .inr (0, [.ref (qa 0), .int (iI qbc), .ref (qa 1), .int (iI qll), .ref (qa 2), .ref (qa 3), .int (iI qfc), .int (iI qfp), .ref (qa 4), .ref (qa 5), .ref (qa 6), .ref (qa 7), .ref (qa 8), .ref (qa 9)])), (qa 2, .inl (kA 4, 10, .inr (.inr (.inr (.inr (shO hd))))))] h ∧ ShR (dC, dI) kA hd h)) (k2_QcV (.int (iI (ocD hd r k)))) 0 0 (fun _ => False) := by
  refine li_mr (by decide) (Nat.le_of_ble_eq_true rfl) (by rfl) ?_
  intro p e s m args below meth c Q C hP hK hN hG fin ls hl
  obtain ⟨hx, hb, hr, hml, hown, hts, hlocks, hin⟩ := C
  have hown : s.vm.findClass R_Q = some m.cls := hown
  obtain ⟨hP, hSh⟩ := hP
  have hP : va_P (dC, dI) CL [(qo, .inr (0, [.ref (qa 0), .int (iI qbc), .ref (qa 1), .int (iI qll), .ref (qa 2), .ref (qa 3), .int (iI qfc), .int (iI qfp), .ref (qa 4), .ref (qa 5), .ref (qa 6), .ref (qa 7), .ref (qa 8), .ref (qa 9)])), (qa 2, .inl (kA 4, 10, .inr (.inr (.inr (.inr (shO hd))))))] s.heap := hP
  have hl : lv_has ls 4 [(0, .ref qo), (1, .int (iI r)), (2, .int (iI k))] := hl
  refine lv_iload_n hx hb d_Q_octet_0 rfl (lv_at hl 1 rfl) ?_
  refine li_callrv ((va_runS (As := [.int (iI r)]) (rest := []) ⟨hx, hb, hml, hown, hts⟩ (c_Q_checkRecord l dC dI kA r (by omega)) (cw_Q_120 hts rfl rfl ⟨Nat.le_of_ble_eq_true rfl, Nat.le_of_ble_eq_true rfl⟩) (li_preS va_Pnil hK hN hG.rd) rfl rfl hl.1 rfl (lv_room (Nat.le_of_ble_eq_true rfl)) d_Q_octet_1 ⟨(by show 0 + 0 ≤ 0; omega), (by show 0 + 0 ≤ 0; omega)⟩).run) ?_
  refine lv_aload_n hx hb d_Q_octet_4 rfl (lv_at hl 0 rfl) ?_
  refine gf_Q_18 hx hb hts hown hK hP 0 rfl rfl d_Q_octet_5 ?_
  refine lv_iload_n hx hb d_Q_octet_8 rfl (lv_at hl 1 rfl) ?_
  refine li_ald hx hb hK hP 1 4 rfl rfl (by omega) (by omega) (by omega) d_Q_octet_9 ?_
  rcases hd1 : hd r.toNat with _ | dq
  · have _q := hd1
    refine li_rfN (shO_n hd1) ?_
    have hkn := hd1
    refine lv_astore_nN (lv' := [(3, .null), (0, .ref qo), (1, .int (iI r)), (2, .int (iI k))]) hx hb d_Q_octet_10 rfl hl (by decide) rfl (fun ls hl => ?_)
    refine lv_aload_nN hx hb d_Q_octet_11 rfl (lv_at hl 0 rfl) ?_
    refine lv_ifnullN (tgt := 28) hx hb d_Q_octet_12 (by decide) ?_
    refine lv_iconst (v := iI (-1)) hx hb d_Q_octet_28 rfl ?_
    exact fin _ _ _ (by first | (rw [ocD_n hkn]; done) | (rw [ocD_s hk_dq]; first | (rw [if_pos (by omega)]; done) | (rw [if_neg (by omega)]; done))) d_Q_octet_29
  · have _q := hd1
    refine li_rfS (a := dq.ho) (shO_s hd1) ?_
    have hk_dq := hd1
    obtain ⟨hH_dq, hte_dq⟩ := hHD _ _ hd1
    obtain ⟨hn_dq, hm_dq, ht_dq, hb_dq, hi_dq⟩ := id hH_dq
    have hR_dq := hSh r.toNat dq hd1
    refine lv_astore_n (lv' := [(3, .ref dq.ho), (0, .ref qo), (1, .int (iI r)), (2, .int (iI k))]) hx hb d_Q_octet_10 rfl hl (by decide) rfl (fun ls hl => ?_)
    refine lv_aload_n hx hb d_Q_octet_11 rfl (lv_at hl 0 rfl) ?_
    refine lv_ifnull hx hb d_Q_octet_12 ?_
    refine lv_iload_n hx hb d_Q_octet_15 rfl (lv_at hl 3 rfl) ?_
    refine li_if_lt (tgt := 28) hx hb d_Q_octet_16 (by decide) (by omega) (fun c2 => ?_) (fun c2 => ?_)
    · have _q := c2
      refine lv_iconst (v := iI (-1)) hx hb d_Q_octet_28 rfl ?_
      exact fin _ _ _ (by first | (rw [ocD_n hkn]; done) | (rw [ocD_s hk_dq]; first | (rw [if_pos (by omega)]; done) | (rw [if_neg (by omega)]; done))) d_Q_octet_29
    · have _q := c2
      refine lv_iload_n hx hb d_Q_octet_19 rfl (lv_at hl 3 rfl) ?_
      refine lv_aload_n hx hb d_Q_octet_20 rfl (lv_at hl 0 rfl) ?_
      refine gf_Q_178 hx hb hts hN hown hK hR_dq 0 rfl rfl d_Q_octet_21 ?_
      refine li_alen hx hb hK hR_dq 1 1 rfl rfl d_Q_octet_24 ?_
      refine li_icmp_lt (tgt := 30) hx hb d_Q_octet_25 (by decide) (by omega) (by omega) (fun c3 => ?_) (fun c3 => ?_)
      · have _q := c3
        refine lv_aload_n hx hb d_Q_octet_30 rfl (lv_at hl 0 rfl) ?_
        refine gf_Q_178 hx hb hts hN hown hK hR_dq 0 rfl rfl d_Q_octet_31 ?_
        refine lv_iload_n hx hb d_Q_octet_34 rfl (lv_at hl 3 rfl) ?_
        refine li_cald hx hb hK hR_dq 1 1 rfl rfl (by omega) (by omega) (by omega) d_Q_octet_35 ?_
        exact fin _ _ _ (by first | (rw [ocD_n hkn]; done) | (rw [ocD_s hk_dq]; first | (rw [if_pos (by omega)]; done) | (rw [if_neg (by omega)]; done))) d_Q_octet_36
      · have _q := c3
        refine lv_iconst (v := iI (-1)) hx hb d_Q_octet_28 rfl ?_
        exact fin _ _ _ (by first | (rw [ocD_n hkn]; done) | (rw [ocD_s hk_dq]; first | (rw [if_pos (by omega)]; done) | (rw [if_neg (by omega)]; done))) d_Q_octet_29

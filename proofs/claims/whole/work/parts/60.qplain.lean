/-! the class: what stands on the shelf -/
abbrev HD : Type := Nat × Nat × Nat × Nat × Nat × Nat × Nat × Nat × Int × Int × (Nat → Int) × (Nat → Int) × (Nat → Int) × (Nat → Int) × (Nat → Int)
abbrev HD.mk (ho : Nat) (oc : Nat) (xi : Nat) (xs : Nat) (xe : Nat) (xl : Nat) (n : Nat) (mx : Nat) (fd : Int) (tc : Int) (t : Nat → Int) (ti : Nat → Int) (ts : Nat → Int) (te : Nat → Int) (tl : Nat → Int) : HD := (ho, oc, xi, xs, xe, xl, n, mx, fd, tc, t, ti, ts, te, tl)
abbrev HD.ho (u : HD) : Nat := u.1
abbrev HD.oc (u : HD) : Nat := u.2.1
abbrev HD.xi (u : HD) : Nat := u.2.2.1
abbrev HD.xs (u : HD) : Nat := u.2.2.2.1
abbrev HD.xe (u : HD) : Nat := u.2.2.2.2.1
abbrev HD.xl (u : HD) : Nat := u.2.2.2.2.2.1
abbrev HD.n (u : HD) : Nat := u.2.2.2.2.2.2.1
abbrev HD.mx (u : HD) : Nat := u.2.2.2.2.2.2.2.1
abbrev HD.fd (u : HD) : Int := u.2.2.2.2.2.2.2.2.1
abbrev HD.tc (u : HD) : Int := u.2.2.2.2.2.2.2.2.2.1
abbrev HD.t (u : HD) : Nat → Int := u.2.2.2.2.2.2.2.2.2.2.1
abbrev HD.ti (u : HD) : Nat → Int := u.2.2.2.2.2.2.2.2.2.2.2.1
abbrev HD.ts (u : HD) : Nat → Int := u.2.2.2.2.2.2.2.2.2.2.2.2.1
abbrev HD.te (u : HD) : Nat → Int := u.2.2.2.2.2.2.2.2.2.2.2.2.2.1
abbrev HD.tl (u : HD) : Nat → Int := u.2.2.2.2.2.2.2.2.2.2.2.2.2.2
def shO (hd : Nat → Option HD) (r : Nat) : Option Nat := (hd r).map HD.ho
theorem shO_n {hd : Nat → Option HD} {r : Nat} (h : hd r = none) : shO hd r = none := by unfold shO; rw [h]; rfl
theorem shO_s {hd : Nat → Option HD} {r : Nat} {d : HD} (h : hd r = some d) : shO hd r = some d.ho := by unfold shO; rw [h]; rfl
abbrev hcl (kA : Nat → ClassId) (d : HD) : va_W := [(d.ho, .inr (2, [.ref d.oc, .int (iI d.fd), .ref d.xi, .ref d.xs, .ref d.xe, .ref d.xl, .int (iI d.tc)])), (d.oc, .inl (kA 1, d.n, .inl (aI d.t))), (d.xi, .inl (kA 0, d.mx, .inl (aI d.ti))), (d.xs, .inl (kA 0, d.mx, .inl (aI d.ts))), (d.xe, .inl (kA 0, d.mx, .inl (aI d.te))), (d.xl, .inl (kA 0, d.mx, .inl (aI d.tl)))]
def ShR (D : va_G) (kA : Nat → ClassId) (hd : Nat → Option HD) (h : Heap) : Prop := ∀ (r : Nat) (d : HD), hd r = some d → va_P D CL (hcl kA d) h
def ShB (D : va_G) (kA : Nat → ClassId) (hd : Nat → Option HD) (ws : va_W) (h : Heap) : Prop := ∀ (r : Nat) (d : HD), hd r = some d → va_P D CL (hcl kA d) h ∧ Dsj (hcl kA d) ws
theorem dj_all {A : Nat → Prop} {ro ws wc : va_W} (hN : ∀ (k : Nat) (q : Nat × va_E), ro[k]? = some q → ¬ A q.1) (hD : va_D A ws) (isC : List Nat) (hC : isC.map (fun i => ws[i]?) = wc.map some) : Dsj ro wc := by
  intro q hq x hx
  obtain ⟨k, hk⟩ := List.getElem?_of_mem hq
  exact dj_r (hN k q hk) hD isC hC x hx
def HRd (d : HD) : Prop := HR d.n d.mx d.t d.ti d.ts d.te d.tl d.tc
/-- a byte of a number -/
def bytF (x i : Int) : Int := andI (ushI x (24 - 8 * i)) 255
theorem bytF_r (x i : Int) : 0 ≤ bytF x i ∧ bytF x i < 256 := and255_r _
def abL (x k : Int) : Nat → Int → (Nat → Int) × Int → (Nat → Int) × Int
  | 0, _, u => u
  | j + 1, i, u => if i < k then abL x k j (i + 1) (va_up u.1 u.2.toNat (bytF x i), u.2 + 1) else u
def abM (x k : Int) (u : (Nat → Int) × Int) : (Nat → Int) × Int := abL x k 4 0 u
def ciL (x : Int) : Nat → Int → Int → Int
  | 0, _, v => v
  | j + 1, i, v => ciL x j (i + 1) (if bytF x i = 0 then v else v + 1)
def ciM (x : Int) : Int := ciL x 4 0 0
def acL (x : Int) : Nat → Int → (Nat → Int) × Int → (Nat → Int) × Int
  | 0, _, u => u
  | j + 1, i, u => if u.2 < 100 then acL x j (i + 1) (if bytF x i = 0 then u else (va_up u.1 u.2.toNat (bytF x i), u.2 + 1)) else u
def acM (x : Int) (u : (Nat → Int) × Int) : (Nat → Int) × Int := acL x 4 0 u
def kpL (v : Int) : Nat → Int → Int × (Nat → Int) → Int × (Nat → Int)
  | 0, _, u => u
  | j + 1, r, u => kpL v j (r + 1) (if andI (shrI v r) 1 = 1 then (u.1 + 1, va_up u.2 u.1.toNat r) else u)
def kpM (v : Int) (f : Nat → Int) : Int × (Nat → Int) := kpL v 10 0 (0, f)
def lfL (hd : Nat → Option HD) : Nat → Int → Int
  | 0, _ => -1
  | k + 1, r => if (hd r.toNat).isNone = true then r else lfL hd k (r + 1)
def lfM (hd : Nat → Option HD) : Int := lfL hd 10 0

theorem d_Q_byteOf_0 : decode b_Q_byteOf 0 = .ok (.iload_n 0, 1) := by decide +kernel
theorem d_Q_byteOf_1 : decode b_Q_byteOf 1 = .ok (.bipush 24, 2) := by decide +kernel
theorem d_Q_byteOf_3 : decode b_Q_byteOf 3 = .ok (.bipush 8, 2) := by decide +kernel
theorem d_Q_byteOf_5 : decode b_Q_byteOf 5 = .ok (.iload_n 1, 1) := by decide +kernel
theorem d_Q_byteOf_6 : decode b_Q_byteOf 6 = .ok (.imul, 1) := by decide +kernel
theorem d_Q_byteOf_7 : decode b_Q_byteOf 7 = .ok (.isub, 1) := by decide +kernel
theorem d_Q_byteOf_8 : decode b_Q_byteOf 8 = .ok (.iushr, 1) := by decide +kernel
theorem d_Q_byteOf_9 : decode b_Q_byteOf 9 = .ok (.sipush 255, 3) := by decide +kernel
theorem d_Q_byteOf_12 : decode b_Q_byteOf 12 = .ok (.iand, 1) := by decide +kernel
theorem d_Q_byteOf_13 : decode b_Q_byteOf 13 = .ok (.i2c, 1) := by decide +kernel
theorem d_Q_byteOf_14 : decode b_Q_byteOf 14 = .ok (.ireturn, 1) := by decide +kernel
set_option maxHeartbeats 4000000 in
set_option maxRecDepth 100000 in
theorem c_Q_byteOf (l : Launch) (dC : Nat → ClassId) (dI : Nat → Nat → Nat) (kA : Nat → ClassId) (x : Int) (i : Int) (hi : 0 ≤ i ∧ i ≤ 3) : Met l y_Q_byteOf (wsy y_Q_byteOf b_Q_byteOf 2 (some .char)) (rmd 0 0 0) (li_Pr (dC, dI) CL (TY kA) [.int (iI x), .int (iI i)] (va_P (dC, dI) CL [])) (k2_QcV (.int (iI (bytF x i)))) 0 0 (fun _ => False) := by
  refine li_mr (by decide) (Nat.le_of_ble_eq_true rfl) (by have h9 := bytF_r x i; exact li_narC2 h9.1 (by omega)) ?_
  intro p e s m args below meth c Q C hP hK hN hG fin ls hl
  obtain ⟨hx, hb, hr, hml, hown, hts, hlocks, hin⟩ := C
  have hown : s.vm.findClass R_Q = some m.cls := hown
  have hP : va_P (dC, dI) CL [] s.heap := hP
  have hl : lv_has ls 2 [(0, .int (iI x)), (1, .int (iI i))] := hl
  refine lv_iload_n hx hb d_Q_byteOf_0 rfl (lv_at hl 0 rfl) ?_
  refine lv_bipush (v := iI 24) hx hb d_Q_byteOf_1 (by decide) ?_
  refine lv_bipush (v := iI 8) hx hb d_Q_byteOf_3 (by decide) ?_
  refine lv_iload_n hx hb d_Q_byteOf_5 rfl (lv_at hl 1 rfl) ?_
  refine li_imul hx hb d_Q_byteOf_6 ?_
  refine li_isub hx hb d_Q_byteOf_7 ?_
  refine li_iushrI hx hb d_Q_byteOf_8 ?_
  refine lv_sipush (v := iI 255) hx hb d_Q_byteOf_9 (by decide) ?_
  refine li_iandI hx hb d_Q_byteOf_12 ?_
  refine li_i2c hx hb d_Q_byteOf_13 (by have h9 := and255_r (ushI x (24 - 8 * i)); omega) (by have h9 := and255_r (ushI x (24 - 8 * i)); omega) ?_
  exact fin _ _ _ (by rfl) d_Q_byteOf_14
theorem d_Q_addBytes_0 : decode b_Q_addBytes 0 = .ok (.iconst 0, 1) := by decide +kernel
theorem d_Q_addBytes_1 : decode b_Q_addBytes 1 = .ok (.istore_n 3, 1) := by decide +kernel
theorem d_Q_addBytes_2 : decode b_Q_addBytes 2 = .ok (.iload_n 3, 1) := by decide +kernel
theorem d_Q_addBytes_3 : decode b_Q_addBytes 3 = .ok (.iconst 4, 1) := by decide +kernel
theorem d_Q_addBytes_4 : decode b_Q_addBytes 4 = .ok (.if_icmp .ge 50, 3) := by decide +kernel
theorem d_Q_addBytes_7 : decode b_Q_addBytes 7 = .ok (.iload_n 3, 1) := by decide +kernel
theorem d_Q_addBytes_8 : decode b_Q_addBytes 8 = .ok (.iload_n 2, 1) := by decide +kernel
theorem d_Q_addBytes_9 : decode b_Q_addBytes 9 = .ok (.if_icmp .ge 45, 3) := by decide +kernel
theorem d_Q_addBytes_12 : decode b_Q_addBytes 12 = .ok (.aload_n 0, 1) := by decide +kernel
theorem d_Q_addBytes_13 : decode b_Q_addBytes 13 = .ok (.getfield 81, 3) := by decide +kernel
theorem d_Q_addBytes_16 : decode b_Q_addBytes 16 = .ok (.aload_n 0, 1) := by decide +kernel
theorem d_Q_addBytes_17 : decode b_Q_addBytes 17 = .ok (.getfield 9, 3) := by decide +kernel
theorem d_Q_addBytes_20 : decode b_Q_addBytes 20 = .ok (.arraylength, 1) := by decide +kernel
theorem d_Q_addBytes_21 : decode b_Q_addBytes 21 = .ok (.if_icmp .ge 33, 3) := by decide +kernel
theorem d_Q_addBytes_24 : decode b_Q_addBytes 24 = .ok (.aload_n 0, 1) := by decide +kernel
theorem d_Q_addBytes_25 : decode b_Q_addBytes 25 = .ok (.getfield 9, 3) := by decide +kernel
theorem d_Q_addBytes_28 : decode b_Q_addBytes 28 = .ok (.aload_n 0, 1) := by decide +kernel
theorem d_Q_addBytes_29 : decode b_Q_addBytes 29 = .ok (.getfield 81, 3) := by decide +kernel
theorem d_Q_addBytes_32 : decode b_Q_addBytes 32 = .ok (.iload_n 1, 1) := by decide +kernel
theorem d_Q_addBytes_33 : decode b_Q_addBytes 33 = .ok (.iload_n 3, 1) := by decide +kernel
theorem d_Q_addBytes_34 : decode b_Q_addBytes 34 = .ok (.invokestatic 216, 3) := by decide +kernel
theorem d_Q_addBytes_37 : decode b_Q_addBytes 37 = .ok (.castore, 1) := by decide +kernel
theorem d_Q_addBytes_38 : decode b_Q_addBytes 38 = .ok (.aload_n 0, 1) := by decide +kernel
theorem d_Q_addBytes_39 : decode b_Q_addBytes 39 = .ok (.dup, 1) := by decide +kernel
theorem d_Q_addBytes_40 : decode b_Q_addBytes 40 = .ok (.getfield 81, 3) := by decide +kernel
theorem d_Q_addBytes_43 : decode b_Q_addBytes 43 = .ok (.iconst 1, 1) := by decide +kernel
theorem d_Q_addBytes_44 : decode b_Q_addBytes 44 = .ok (.iadd, 1) := by decide +kernel
theorem d_Q_addBytes_45 : decode b_Q_addBytes 45 = .ok (.putfield 81, 3) := by decide +kernel
theorem d_Q_addBytes_48 : decode b_Q_addBytes 48 = .ok (.iinc 3 1, 3) := by decide +kernel
theorem d_Q_addBytes_51 : decode b_Q_addBytes 51 = .ok (.goto (-49), 3) := by decide +kernel
theorem d_Q_addBytes_54 : decode b_Q_addBytes 54 = .ok (.return_, 1) := by decide +kernel
set_option maxHeartbeats 4000000 in
set_option maxRecDepth 100000 in
theorem c_Q_addBytes (l : Launch) (dC : Nat → ClassId) (dI : Nat → Nat → Nat) (kA : Nat → ClassId) (sz : Nat) (qo : Nat) (qa : Nat → Nat) (qbc : Int) (qll : Int) (qfc : Int) (qfp : Int) (ub : Nat → Int) (x : Int) (k : Int) (hbc : 0 ≤ qbc ∧ qbc ≤ 400) (hub : C2 ub) (hk : -100 ≤ k ∧ k ≤ 100) (hfit : qbc + min 4 k ≤ 400) : Met l y_Q_addBytes (wsy y_Q_addBytes b_Q_addBytes 4 none) (rmd 1 0 0) (li_Pr (dC, dI) CL (TY kA) [.ref qo, .int (iI x), .int (iI k)] (fun h => h.size = sz ∧ va_P (dC, dI) CL [(qo, .inr (0, [.ref (qa 0), .int (iI qbc), .ref (qa 1), .int (iI qll), .ref (qa 2), .ref (qa 3), .int (iI qfc), .int (iI qfp), .ref (qa 4), .ref (qa 5), .ref (qa 6), .ref (qa 7), .ref (qa 8), .ref (qa 9)])), (qa 0, .inl (kA 1, 400, .inl (aI ub)))] h ∧ va_D (fun q => dI 100 0 ≤ q) [(qo, .inr (0, [.ref (qa 0), .int (iI qbc), .ref (qa 1), .int (iI qll), .ref (qa 2), .ref (qa 3), .int (iI qfc), .int (iI qfp), .ref (qa 4), .ref (qa 5), .ref (qa 6), .ref (qa 7), .ref (qa 8), .ref (qa 9)])), (qa 0, .inl (kA 1, 400, .inl (aI ub)))] ∧ (fun _ => True) h)) (li_Qw (S := (Int) × (Nat → Int)) (dC, dI) CL (fun u => (u.2, u.1) = abM x k (ub, qbc) ∧ C2 u.2 ∧ u.1 = qbc + max 0 (min 4 k)) (fun _ => none) (fun u => [(qo, .inr (0, [.ref (qa 0), .int (iI u.1), .ref (qa 1), .int (iI qll), .ref (qa 2), .ref (qa 3), .int (iI qfc), .int (iI qfp), .ref (qa 4), .ref (qa 5), .ref (qa 6), .ref (qa 7), .ref (qa 8), .ref (qa 9)])), (qa 0, .inl (kA 1, 400, .inl (aI u.2)))]) (va_A [(qo, .inr (0, [.ref (qa 0), .int (iI qbc), .ref (qa 1), .int (iI qll), .ref (qa 2), .ref (qa 3), .int (iI qfc), .int (iI qfp), .ref (qa 4), .ref (qa 5), .ref (qa 6), .ref (qa 7), .ref (qa 8), .ref (qa 9)])), (qa 0, .inl (kA 1, 400, .inl (aI ub)))] sz)) 0 0 (va_A [(qo, .inr (0, [.ref (qa 0), .int (iI qbc), .ref (qa 1), .int (iI qll), .ref (qa 2), .ref (qa 3), .int (iI qfc), .int (iI qfp), .ref (qa 4), .ref (qa 5), .ref (qa 6), .ref (qa 7), .ref (qa 8), .ref (qa 9)])), (qa 0, .inl (kA 1, 400, .inl (aI ub)))] sz) := by
  refine li_mwv (by decide) (Nat.le_of_ble_eq_true rfl) ?_
  intro p e s m args below meth c Q A C hP hD hBx hK hN hG hA hAi hAN fin ls hl
  obtain ⟨hx, hb, hr, hml, hown, hts, hlocks, hin⟩ := C
  have hown : s.vm.findClass R_Q = some m.cls := hown
  have hl : lv_has ls 4 [(0, .ref qo), (1, .int (iI x)), (2, .int (iI k))] := hl
  suffices h9 : ∀ (H : Heap) (locs : List Loc), H = s.heap → locs = [] → W p l e (rmd 1 0 0) s m args below meth c H locs 0 0 Q (F0 m 0 ls []) from h9 _ _ rfl rfl
  intro H locs eH eL
  have hP : va_P (dC, dI) CL [(qo, .inr (0, [.ref (qa 0), .int (iI qbc), .ref (qa 1), .int (iI qll), .ref (qa 2), .ref (qa 3), .int (iI qfc), .int (iI qfp), .ref (qa 4), .ref (qa 5), .ref (qa 6), .ref (qa 7), .ref (qa 8), .ref (qa 9)])), (qa 0, .inl (kA 1, 400, .inl (aI ub)))] H := by rw [eH]; exact hP
  have hS : va_S A s.heap H locs := by rw [eH, eL]; exact va_S.rf
  refine lv_iconst (v := iI 0) hx hb d_Q_addBytes_0 rfl ?_
  refine lv_istore_n (lv' := [(3, .int (iI 0)), (0, .ref qo), (1, .int (iI x)), (2, .int (iI k))]) hx hb d_Q_addBytes_1 rfl hl (by decide) rfl (fun ls hl => ?_)
  have K_2 : ∀ (nn_2 : Nat) (i : Int) (vf : Nat → Int) (vz : Int), (0 ≤ i ∧ i ≤ 4 ∧ (i = 0 ∨ i ≤ k) ∧ vz = qbc + i) → (C2 vf) → (abL x k (4 - i).toNat i (vf, vz) = abM x k (ub, qbc)) → ((4 - (i : Int)).toNat < nn_2) → ∀ (H : Heap) (locs : List Loc), va_P (dC, dI) CL [(qo, .inr (0, [.ref (qa 0), .int (iI vz), .ref (qa 1), .int (iI qll), .ref (qa 2), .ref (qa 3), .int (iI qfc), .int (iI qfp), .ref (qa 4), .ref (qa 5), .ref (qa 6), .ref (qa 7), .ref (qa 8), .ref (qa 9)])), (qa 0, .inl (kA 1, 400, .inl (aI vf)))] H → va_D A [(qo, .inr (0, [.ref (qa 0), .int (iI vz), .ref (qa 1), .int (iI qll), .ref (qa 2), .ref (qa 3), .int (iI qfc), .int (iI qfp), .ref (qa 4), .ref (qa 5), .ref (qa 6), .ref (qa 7), .ref (qa 8), .ref (qa 9)])), (qa 0, .inl (kA 1, 400, .inl (aI vf)))] → va_S A s.heap H locs → ∀ ls : Array Slot, lv_has ls 4 [(3, .int (iI i)), (0, .ref qo), (1, .int (iI x)), (2, .int (iI k))] → W p l e (rmd 1 0 0) s m args below meth c H locs 0 0 Q (F0 m 2 ls []) := by
    intro nn_2
    induction nn_2 with
    | zero => intro i vf vz hi9 hvf hres hm; exact absurd hm (Nat.not_lt_zero _)
    | succ nn_2 ih_2 =>
      intro i vf vz hi9 hvf hres hm_2 H locs hP hD hS ls hl
      refine lv_iload_n hx hb d_Q_addBytes_2 rfl (lv_at hl 0 rfl) ?_
      refine lv_iconst (v := iI 4) hx hb d_Q_addBytes_3 rfl ?_
      refine li_icmp_ge (tgt := 54) hx hb d_Q_addBytes_4 (by decide) (by omega) (by omega) (fun c1 => ?_) (fun c1 => ?_)
      · have _q := c1
        rw [show (4 - i).toNat = 0 by omega] at hres
        simp only [abL] at hres
        exact fin (vz, vf) _ _ _ _ (by show (vf, vz) = abM x k (ub, qbc) ∧ C2 vf ∧ vz = qbc + max 0 (min 4 k); exact ⟨hres, hvf, by omega⟩) (by first | exact hP | (subst_vars; exact hP)) (by first | exact hD | (subst_vars; exact hD)) hS d_Q_addBytes_54
      · have _q := c1
        rw [show (4 - i).toNat = (4 - (i + 1)).toNat + 1 by omega] at hres
        simp only [abL] at hres
        refine lv_iload_n hx hb d_Q_addBytes_7 rfl (lv_at hl 0 rfl) ?_
        refine lv_iload_n hx hb d_Q_addBytes_8 rfl (lv_at hl 3 rfl) ?_
        refine li_icmp_ge (tgt := 54) hx hb d_Q_addBytes_9 (by decide) (by omega) (by omega) (fun c2 => ?_) (fun c2 => ?_)
        · have _q := c2
          rw [if_neg (by omega)] at hres
          exact fin (vz, vf) _ _ _ _ (by show (vf, vz) = abM x k (ub, qbc) ∧ C2 vf ∧ vz = qbc + max 0 (min 4 k); exact ⟨hres, hvf, by omega⟩) (by first | exact hP | (subst_vars; exact hP)) (by first | exact hD | (subst_vars; exact hD)) hS d_Q_addBytes_54
        · have _q := c2
          rw [if_pos (by omega)] at hres
          have hbr := bytF_r x i
          refine lv_aload_n hx hb d_Q_addBytes_12 rfl (lv_at hl 1 rfl) ?_
          refine gf_Q_81 hx hb hts hown hK hP 0 rfl rfl d_Q_addBytes_13 ?_
          refine lv_aload_n hx hb d_Q_addBytes_16 rfl (lv_at hl 1 rfl) ?_
          refine gf_Q_9 hx hb hts hown hK hP 0 rfl rfl d_Q_addBytes_17 ?_
          refine li_alen hx hb hK hP 1 1 rfl rfl d_Q_addBytes_20 ?_
          refine li_icmp_ge (tgt := 54) hx hb d_Q_addBytes_21 (by decide) (by omega) (by omega) (fun c3 => ?_) (fun c3 => ?_)
          · have _q := c3
            exact absurd c3 (by omega)
          · have _q := c3
            refine lv_aload_n hx hb d_Q_addBytes_24 rfl (lv_at hl 1 rfl) ?_
            refine gf_Q_9 hx hb hts hown hK hP 0 rfl rfl d_Q_addBytes_25 ?_
            refine lv_aload_n hx hb d_Q_addBytes_28 rfl (lv_at hl 1 rfl) ?_
            refine gf_Q_81 hx hb hts hown hK hP 0 rfl rfl d_Q_addBytes_29 ?_
            refine lv_iload_n hx hb d_Q_addBytes_32 rfl (lv_at hl 2 rfl) ?_
            refine lv_iload_n hx hb d_Q_addBytes_33 rfl (lv_at hl 0 rfl) ?_
            refine li_callr ((va_runS (As := [.int (iI x), .int (iI i)]) (rest := [.int (iI vz), .ref (qa 0)]) ⟨hx, hb, hml, hown, hts⟩ (c_Q_byteOf l dC dI kA x i (by omega)) (cw_Q_216 hts rfl rfl ⟨Nat.le_of_ble_eq_true rfl, Nat.le_of_ble_eq_true rfl⟩) (li_preS va_Pnil hK hN (hG.go hS hAN)) rfl rfl hl.1 rfl (lv_room (Nat.le_of_ble_eq_true rfl)) d_Q_addBytes_34 ⟨(by show 0 + 0 ≤ 0; omega), (by show 0 + 0 ≤ 0; omega)⟩).run) ?_
            refine li_cast hx hb hK hP hD hS 1 1 rfl rfl (by omega) (by omega) (by omega) (by omega) (by omega) d_Q_addBytes_37 (fun H locs hP hD hS => ?_)
            have hP : va_P (dC, dI) CL [(qo, .inr (0, [.ref (qa 0), .int (iI vz), .ref (qa 1), .int (iI qll), .ref (qa 2), .ref (qa 3), .int (iI qfc), .int (iI qfp), .ref (qa 4), .ref (qa 5), .ref (qa 6), .ref (qa 7), .ref (qa 8), .ref (qa 9)])), (qa 0, .inl (kA 1, 400, .inl (aI (va_up vf vz.toNat (bytF x i)))))] H := hP
            have hD : va_D A [(qo, .inr (0, [.ref (qa 0), .int (iI vz), .ref (qa 1), .int (iI qll), .ref (qa 2), .ref (qa 3), .int (iI qfc), .int (iI qfp), .ref (qa 4), .ref (qa 5), .ref (qa 6), .ref (qa 7), .ref (qa 8), .ref (qa 9)])), (qa 0, .inl (kA 1, 400, .inl (aI (va_up vf vz.toNat (bytF x i)))))] := hD
            refine lv_aload_n hx hb d_Q_addBytes_38 rfl (lv_at hl 1 rfl) ?_
            refine lv_dup hx hb d_Q_addBytes_39 rfl ?_
            refine gf_Q_81 hx hb hts hown hK hP 0 rfl rfl d_Q_addBytes_40 ?_
            refine lv_iconst (v := iI 1) hx hb d_Q_addBytes_43 rfl ?_
            refine li_iadd hx hb d_Q_addBytes_44 ?_
            refine li_nm (fun z_n ez_n => ?_)
            refine pf_Q_81 hx hb hts hown hK hP hD hS 0 rfl (Nat.le_of_ble_eq_true rfl) d_Q_addBytes_45 (fun H locs hP hD hS => ?_)
            have hP : va_P (dC, dI) CL [(qo, .inr (0, [.ref (qa 0), .int (iI z_n), .ref (qa 1), .int (iI qll), .ref (qa 2), .ref (qa 3), .int (iI qfc), .int (iI qfp), .ref (qa 4), .ref (qa 5), .ref (qa 6), .ref (qa 7), .ref (qa 8), .ref (qa 9)])), (qa 0, .inl (kA 1, 400, .inl (aI (va_up vf vz.toNat (bytF x i)))))] H := hP
            have hD : va_D A [(qo, .inr (0, [.ref (qa 0), .int (iI z_n), .ref (qa 1), .int (iI qll), .ref (qa 2), .ref (qa 3), .int (iI qfc), .int (iI qfp), .ref (qa 4), .ref (qa 5), .ref (qa 6), .ref (qa 7), .ref (qa 8), .ref (qa 9)])), (qa 0, .inl (kA 1, 400, .inl (aI (va_up vf vz.toNat (bytF x i)))))] := hD
            obtain ⟨i_n, ei_n⟩ : ∃ y_9 : Int, y_9 = i + 1 := ⟨_, rfl⟩
            refine lv_iinc (v := iI i_n) (lv' := [(3, .int (iI i_n)), (0, .ref qo), (1, .int (iI x)), (2, .int (iI k))]) hx hb d_Q_addBytes_48 hl (k := 0) rfl (by rw [ei_n]; exact iI_add _ _) (by decide) rfl (fun ls hl => ?_)
            refine lv_goto (tgt := 2) hx hb d_Q_addBytes_51 (by decide) ?_
            exact ih_2 i_n (va_up vf vz.toNat (bytF x i)) z_n (by omega) (by exact C2_up hbr hvf) (by rw [ei_n, ez_n]; exact hres) (by omega) _ _ hP hD hS _ (lv_sub hl [0, 1, 2, 3] rfl)
  exact K_2 ((4 - (0 : Int)).toNat + 1) 0 ub qbc (by omega) (by exact hub) (by rfl) (Nat.lt_succ_self _) _ _ hP hD hS _ (lv_sub hl [0, 1, 2, 3] rfl)
theorem d_Q_charactersIn_0 : decode b_Q_charactersIn 0 = .ok (.iconst 0, 1) := by decide +kernel
theorem d_Q_charactersIn_1 : decode b_Q_charactersIn 1 = .ok (.istore_n 1, 1) := by decide +kernel
theorem d_Q_charactersIn_2 : decode b_Q_charactersIn 2 = .ok (.iconst 0, 1) := by decide +kernel
theorem d_Q_charactersIn_3 : decode b_Q_charactersIn 3 = .ok (.istore_n 2, 1) := by decide +kernel
theorem d_Q_charactersIn_4 : decode b_Q_charactersIn 4 = .ok (.iload_n 2, 1) := by decide +kernel
theorem d_Q_charactersIn_5 : decode b_Q_charactersIn 5 = .ok (.iconst 4, 1) := by decide +kernel
theorem d_Q_charactersIn_6 : decode b_Q_charactersIn 6 = .ok (.if_icmp .ge 20, 3) := by decide +kernel
theorem d_Q_charactersIn_9 : decode b_Q_charactersIn 9 = .ok (.iload_n 0, 1) := by decide +kernel
theorem d_Q_charactersIn_10 : decode b_Q_charactersIn 10 = .ok (.iload_n 2, 1) := by decide +kernel
theorem d_Q_charactersIn_11 : decode b_Q_charactersIn 11 = .ok (.invokestatic 216, 3) := by decide +kernel
theorem d_Q_charactersIn_14 : decode b_Q_charactersIn 14 = .ok (.ifCond .eq 6, 3) := by decide +kernel
theorem d_Q_charactersIn_17 : decode b_Q_charactersIn 17 = .ok (.iinc 1 1, 3) := by decide +kernel
theorem d_Q_charactersIn_20 : decode b_Q_charactersIn 20 = .ok (.iinc 2 1, 3) := by decide +kernel
theorem d_Q_charactersIn_23 : decode b_Q_charactersIn 23 = .ok (.goto (-19), 3) := by decide +kernel
theorem d_Q_charactersIn_26 : decode b_Q_charactersIn 26 = .ok (.iload_n 1, 1) := by decide +kernel
theorem d_Q_charactersIn_27 : decode b_Q_charactersIn 27 = .ok (.ireturn, 1) := by decide +kernel
set_option maxHeartbeats 4000000 in
set_option maxRecDepth 100000 in
theorem c_Q_charactersIn (l : Launch) (dC : Nat → ClassId) (dI : Nat → Nat → Nat) (kA : Nat → ClassId) (x : Int)  : Met l y_Q_charactersIn (wsy y_Q_charactersIn b_Q_charactersIn 3 (some .int)) (rmd 1 0 0) (li_Pr (dC, dI) CL (TY kA) [.int (iI x)] (va_P (dC, dI) CL [])) (k2_QcV (.int (iI (ciM x)))) 0 0 (fun _ => False) := by
  refine li_mr (by decide) (Nat.le_of_ble_eq_true rfl) (by rfl) ?_
  intro p e s m args below meth c Q C hP hK hN hG fin ls hl
  obtain ⟨hx, hb, hr, hml, hown, hts, hlocks, hin⟩ := C
  have hown : s.vm.findClass R_Q = some m.cls := hown
  have hP : va_P (dC, dI) CL [] s.heap := hP
  have hl : lv_has ls 3 [(0, .int (iI x))] := hl
  have K_4 : ∀ (nn_4 : Nat) (i : Int) (v : Int), (0 ≤ i ∧ i ≤ 4 ∧ 0 ≤ v ∧ v ≤ i) → (ciL x (4 - i).toNat i v = ciM x) → ((4 - (i : Int)).toNat < nn_4) → ∀ ls : Array Slot, lv_has ls 3 [(0, .int (iI x)), (1, .int (iI v)), (2, .int (iI i))] → W p l e (rmd 1 0 0) s m args below meth c s.heap [] 0 0 Q (F0 m 4 ls []) := by
    intro nn_4
    induction nn_4 with
    | zero => intro i v hi9 hres hm; exact absurd hm (Nat.not_lt_zero _)
    | succ nn_4 ih_4 =>
      intro i v hi9 hres hm_4 ls hl
      refine lv_iload_n hx hb d_Q_charactersIn_4 rfl (lv_at hl 2 rfl) ?_
      refine lv_iconst (v := iI 4) hx hb d_Q_charactersIn_5 rfl ?_
      refine li_icmp_ge (tgt := 26) hx hb d_Q_charactersIn_6 (by decide) (by omega) (by omega) (fun c1 => ?_) (fun c1 => ?_)
      · have _q := c1
        rw [show (4 - i).toNat = 0 by omega] at hres
        simp only [ciL] at hres
        refine lv_iload_n hx hb d_Q_charactersIn_26 rfl (lv_at hl 1 rfl) ?_
        exact fin _ _ _ (by exact hres) d_Q_charactersIn_27
      · have _q := c1
        rw [show (4 - i).toNat = (4 - (i + 1)).toNat + 1 by omega] at hres
        simp only [ciL] at hres
        have hbr := bytF_r x i
        refine lv_iload_n hx hb d_Q_charactersIn_9 rfl (lv_at hl 0 rfl) ?_
        refine lv_iload_n hx hb d_Q_charactersIn_10 rfl (lv_at hl 2 rfl) ?_
        refine li_callr ((va_runS (As := [.int (iI x), .int (iI i)]) (rest := []) ⟨hx, hb, hml, hown, hts⟩ (c_Q_byteOf l dC dI kA x i (by omega)) (cw_Q_216 hts rfl rfl ⟨Nat.le_of_ble_eq_true rfl, Nat.le_of_ble_eq_true rfl⟩) (li_preS va_Pnil hK hN hG.rd) rfl rfl hl.1 rfl (lv_room (Nat.le_of_ble_eq_true rfl)) d_Q_charactersIn_11 ⟨(by show 0 + 0 ≤ 0; omega), (by show 0 + 0 ≤ 0; omega)⟩).run) ?_
        refine li_if_eq (tgt := 20) hx hb d_Q_charactersIn_14 (by decide) (by omega) (fun c2 => ?_) (fun c2 => ?_)
        · have _q := c2
          rw [if_pos (by assumption)] at hres
          obtain ⟨i_n, ei_n⟩ : ∃ y_9 : Int, y_9 = i + 1 := ⟨_, rfl⟩
          refine lv_iinc (v := iI i_n) (lv' := [(2, .int (iI i_n)), (0, .int (iI x)), (1, .int (iI v))]) hx hb d_Q_charactersIn_20 hl (k := 2) rfl (by rw [ei_n]; exact iI_add _ _) (by decide) rfl (fun ls hl => ?_)
          refine lv_goto (tgt := 4) hx hb d_Q_charactersIn_23 (by decide) ?_
          exact ih_4 i_n v (by omega) (by first | (rw [ei_n, ev_n]; exact hres) | (rw [ei_n]; exact hres)) (by omega) _ (lv_sub hl [1, 2, 0] rfl)
        · have _q := c2
          rw [if_neg (by assumption)] at hres
          obtain ⟨v_n, ev_n⟩ : ∃ y_9 : Int, y_9 = v + 1 := ⟨_, rfl⟩
          refine lv_iinc (v := iI v_n) (lv' := [(1, .int (iI v_n)), (0, .int (iI x)), (2, .int (iI i))]) hx hb d_Q_charactersIn_17 hl (k := 1) rfl (by rw [ev_n]; exact iI_add _ _) (by decide) rfl (fun ls hl => ?_)
          obtain ⟨i_n, ei_n⟩ : ∃ y_9 : Int, y_9 = i + 1 := ⟨_, rfl⟩
          refine lv_iinc (v := iI i_n) (lv' := [(2, .int (iI i_n)), (1, .int (iI v_n)), (0, .int (iI x))]) hx hb d_Q_charactersIn_20 hl (k := 2) rfl (by rw [ei_n]; exact iI_add _ _) (by decide) rfl (fun ls hl => ?_)
          refine lv_goto (tgt := 4) hx hb d_Q_charactersIn_23 (by decide) ?_
          exact ih_4 i_n v_n (by omega) (by first | (rw [ei_n, ev_n]; exact hres) | (rw [ei_n]; exact hres)) (by omega) _ (lv_sub hl [2, 1, 0] rfl)
  refine lv_iconst (v := iI 0) hx hb d_Q_charactersIn_0 rfl ?_
  refine lv_istore_n (lv' := [(1, .int (iI 0)), (0, .int (iI x))]) hx hb d_Q_charactersIn_1 rfl hl (by decide) rfl (fun ls hl => ?_)
  refine lv_iconst (v := iI 0) hx hb d_Q_charactersIn_2 rfl ?_
  refine lv_istore_n (lv' := [(2, .int (iI 0)), (1, .int (iI 0)), (0, .int (iI x))]) hx hb d_Q_charactersIn_3 rfl hl (by decide) rfl (fun ls hl => ?_)
  exact K_4 ((4 - (0 : Int)).toNat + 1) 0 0 (by omega) (by rfl) (Nat.lt_succ_self _) _ (lv_sub hl [2, 1, 0] rfl)
theorem d_Q_addCharacters_0 : decode b_Q_addCharacters 0 = .ok (.iconst 0, 1) := by decide +kernel
theorem d_Q_addCharacters_1 : decode b_Q_addCharacters 1 = .ok (.istore_n 2, 1) := by decide +kernel
theorem d_Q_addCharacters_2 : decode b_Q_addCharacters 2 = .ok (.iload_n 2, 1) := by decide +kernel
theorem d_Q_addCharacters_3 : decode b_Q_addCharacters 3 = .ok (.iconst 4, 1) := by decide +kernel
theorem d_Q_addCharacters_4 : decode b_Q_addCharacters 4 = .ok (.if_icmp .ge 51, 3) := by decide +kernel
theorem d_Q_addCharacters_7 : decode b_Q_addCharacters 7 = .ok (.aload_n 0, 1) := by decide +kernel
theorem d_Q_addCharacters_8 : decode b_Q_addCharacters 8 = .ok (.getfield 130, 3) := by decide +kernel
theorem d_Q_addCharacters_11 : decode b_Q_addCharacters 11 = .ok (.aload_n 0, 1) := by decide +kernel
theorem d_Q_addCharacters_12 : decode b_Q_addCharacters 12 = .ok (.getfield 13, 3) := by decide +kernel
theorem d_Q_addCharacters_15 : decode b_Q_addCharacters 15 = .ok (.arraylength, 1) := by decide +kernel
theorem d_Q_addCharacters_16 : decode b_Q_addCharacters 16 = .ok (.if_icmp .ge 39, 3) := by decide +kernel
theorem d_Q_addCharacters_19 : decode b_Q_addCharacters 19 = .ok (.iload_n 1, 1) := by decide +kernel
theorem d_Q_addCharacters_20 : decode b_Q_addCharacters 20 = .ok (.iload_n 2, 1) := by decide +kernel
theorem d_Q_addCharacters_21 : decode b_Q_addCharacters 21 = .ok (.invokestatic 216, 3) := by decide +kernel
theorem d_Q_addCharacters_24 : decode b_Q_addCharacters 24 = .ok (.istore_n 3, 1) := by decide +kernel
theorem d_Q_addCharacters_25 : decode b_Q_addCharacters 25 = .ok (.iload_n 3, 1) := by decide +kernel
theorem d_Q_addCharacters_26 : decode b_Q_addCharacters 26 = .ok (.ifCond .eq 23, 3) := by decide +kernel
theorem d_Q_addCharacters_29 : decode b_Q_addCharacters 29 = .ok (.aload_n 0, 1) := by decide +kernel
theorem d_Q_addCharacters_30 : decode b_Q_addCharacters 30 = .ok (.getfield 13, 3) := by decide +kernel
theorem d_Q_addCharacters_33 : decode b_Q_addCharacters 33 = .ok (.aload_n 0, 1) := by decide +kernel
theorem d_Q_addCharacters_34 : decode b_Q_addCharacters 34 = .ok (.getfield 130, 3) := by decide +kernel
theorem d_Q_addCharacters_37 : decode b_Q_addCharacters 37 = .ok (.iload_n 3, 1) := by decide +kernel
theorem d_Q_addCharacters_38 : decode b_Q_addCharacters 38 = .ok (.castore, 1) := by decide +kernel
theorem d_Q_addCharacters_39 : decode b_Q_addCharacters 39 = .ok (.aload_n 0, 1) := by decide +kernel
theorem d_Q_addCharacters_40 : decode b_Q_addCharacters 40 = .ok (.dup, 1) := by decide +kernel
theorem d_Q_addCharacters_41 : decode b_Q_addCharacters 41 = .ok (.getfield 130, 3) := by decide +kernel
theorem d_Q_addCharacters_44 : decode b_Q_addCharacters 44 = .ok (.iconst 1, 1) := by decide +kernel
theorem d_Q_addCharacters_45 : decode b_Q_addCharacters 45 = .ok (.iadd, 1) := by decide +kernel
theorem d_Q_addCharacters_46 : decode b_Q_addCharacters 46 = .ok (.putfield 130, 3) := by decide +kernel
theorem d_Q_addCharacters_49 : decode b_Q_addCharacters 49 = .ok (.iinc 2 1, 3) := by decide +kernel
theorem d_Q_addCharacters_52 : decode b_Q_addCharacters 52 = .ok (.goto (-50), 3) := by decide +kernel
theorem d_Q_addCharacters_55 : decode b_Q_addCharacters 55 = .ok (.return_, 1) := by decide +kernel
set_option maxHeartbeats 4000000 in
set_option maxRecDepth 100000 in
theorem c_Q_addCharacters (l : Launch) (dC : Nat → ClassId) (dI : Nat → Nat → Nat) (kA : Nat → ClassId) (sz : Nat) (qo : Nat) (qa : Nat → Nat) (qbc : Int) (qll : Int) (qfc : Int) (qfp : Int) (ul : Nat → Int) (x : Int) (hll : 0 ≤ qll ∧ qll ≤ 100) (hul : C2 ul) : Met l y_Q_addCharacters (wsy y_Q_addCharacters b_Q_addCharacters 4 none) (rmd 1 0 0) (li_Pr (dC, dI) CL (TY kA) [.ref qo, .int (iI x)] (fun h => h.size = sz ∧ va_P (dC, dI) CL [(qo, .inr (0, [.ref (qa 0), .int (iI qbc), .ref (qa 1), .int (iI qll), .ref (qa 2), .ref (qa 3), .int (iI qfc), .int (iI qfp), .ref (qa 4), .ref (qa 5), .ref (qa 6), .ref (qa 7), .ref (qa 8), .ref (qa 9)])), (qa 1, .inl (kA 1, 100, .inl (aI ul)))] h ∧ va_D (fun q => dI 100 0 ≤ q) [(qo, .inr (0, [.ref (qa 0), .int (iI qbc), .ref (qa 1), .int (iI qll), .ref (qa 2), .ref (qa 3), .int (iI qfc), .int (iI qfp), .ref (qa 4), .ref (qa 5), .ref (qa 6), .ref (qa 7), .ref (qa 8), .ref (qa 9)])), (qa 1, .inl (kA 1, 100, .inl (aI ul)))] ∧ (fun _ => True) h)) (li_Qw (S := (Int) × (Nat → Int)) (dC, dI) CL (fun u => (u.2, u.1) = acM x (ul, qll) ∧ C2 u.2 ∧ qll ≤ u.1 ∧ u.1 ≤ 100) (fun _ => none) (fun u => [(qo, .inr (0, [.ref (qa 0), .int (iI qbc), .ref (qa 1), .int (iI u.1), .ref (qa 2), .ref (qa 3), .int (iI qfc), .int (iI qfp), .ref (qa 4), .ref (qa 5), .ref (qa 6), .ref (qa 7), .ref (qa 8), .ref (qa 9)])), (qa 1, .inl (kA 1, 100, .inl (aI u.2)))]) (va_A [(qo, .inr (0, [.ref (qa 0), .int (iI qbc), .ref (qa 1), .int (iI qll), .ref (qa 2), .ref (qa 3), .int (iI qfc), .int (iI qfp), .ref (qa 4), .ref (qa 5), .ref (qa 6), .ref (qa 7), .ref (qa 8), .ref (qa 9)])), (qa 1, .inl (kA 1, 100, .inl (aI ul)))] sz)) 0 0 (va_A [(qo, .inr (0, [.ref (qa 0), .int (iI qbc), .ref (qa 1), .int (iI qll), .ref (qa 2), .ref (qa 3), .int (iI qfc), .int (iI qfp), .ref (qa 4), .ref (qa 5), .ref (qa 6), .ref (qa 7), .ref (qa 8), .ref (qa 9)])), (qa 1, .inl (kA 1, 100, .inl (aI ul)))] sz) := by
  refine li_mwv (by decide) (Nat.le_of_ble_eq_true rfl) ?_
  intro p e s m args below meth c Q A C hP hD hBx hK hN hG hA hAi hAN fin ls hl
  obtain ⟨hx, hb, hr, hml, hown, hts, hlocks, hin⟩ := C
  have hown : s.vm.findClass R_Q = some m.cls := hown
  have hl : lv_has ls 4 [(0, .ref qo), (1, .int (iI x))] := hl
  suffices h9 : ∀ (H : Heap) (locs : List Loc), H = s.heap → locs = [] → W p l e (rmd 1 0 0) s m args below meth c H locs 0 0 Q (F0 m 0 ls []) from h9 _ _ rfl rfl
  intro H locs eH eL
  have hP : va_P (dC, dI) CL [(qo, .inr (0, [.ref (qa 0), .int (iI qbc), .ref (qa 1), .int (iI qll), .ref (qa 2), .ref (qa 3), .int (iI qfc), .int (iI qfp), .ref (qa 4), .ref (qa 5), .ref (qa 6), .ref (qa 7), .ref (qa 8), .ref (qa 9)])), (qa 1, .inl (kA 1, 100, .inl (aI ul)))] H := by rw [eH]; exact hP
  have hS : va_S A s.heap H locs := by rw [eH, eL]; exact va_S.rf
  refine lv_iconst (v := iI 0) hx hb d_Q_addCharacters_0 rfl ?_
  refine lv_istore_n (lv' := [(2, .int (iI 0)), (0, .ref qo), (1, .int (iI x))]) hx hb d_Q_addCharacters_1 rfl hl (by decide) rfl (fun ls hl => ?_)
  have K_2 : ∀ (nn_2 : Nat) (i : Int) (vf : Nat → Int) (vz : Int), (0 ≤ i ∧ i ≤ 4 ∧ qll ≤ vz ∧ vz ≤ 100) → (C2 vf) → (acL x (4 - i).toNat i (vf, vz) = acM x (ul, qll)) → ((4 - (i : Int)).toNat < nn_2) → ∀ (H : Heap) (locs : List Loc), va_P (dC, dI) CL [(qo, .inr (0, [.ref (qa 0), .int (iI qbc), .ref (qa 1), .int (iI vz), .ref (qa 2), .ref (qa 3), .int (iI qfc), .int (iI qfp), .ref (qa 4), .ref (qa 5), .ref (qa 6), .ref (qa 7), .ref (qa 8), .ref (qa 9)])), (qa 1, .inl (kA 1, 100, .inl (aI vf)))] H → va_D A [(qo, .inr (0, [.ref (qa 0), .int (iI qbc), .ref (qa 1), .int (iI vz), .ref (qa 2), .ref (qa 3), .int (iI qfc), .int (iI qfp), .ref (qa 4), .ref (qa 5), .ref (qa 6), .ref (qa 7), .ref (qa 8), .ref (qa 9)])), (qa 1, .inl (kA 1, 100, .inl (aI vf)))] → va_S A s.heap H locs → ∀ ls : Array Slot, lv_has ls 4 [(2, .int (iI i)), (0, .ref qo), (1, .int (iI x))] → W p l e (rmd 1 0 0) s m args below meth c H locs 0 0 Q (F0 m 2 ls []) := by
    intro nn_2
    induction nn_2 with
    | zero => intro i vf vz hi9 hvf hres hm; exact absurd hm (Nat.not_lt_zero _)
    | succ nn_2 ih_2 =>
      intro i vf vz hi9 hvf hres hm_2 H locs hP hD hS ls hl
      refine lv_iload_n hx hb d_Q_addCharacters_2 rfl (lv_at hl 0 rfl) ?_
      refine lv_iconst (v := iI 4) hx hb d_Q_addCharacters_3 rfl ?_
      refine li_icmp_ge (tgt := 55) hx hb d_Q_addCharacters_4 (by decide) (by omega) (by omega) (fun c1 => ?_) (fun c1 => ?_)
      · have _q := c1
        rw [show (4 - i).toNat = 0 by omega] at hres
        simp only [acL] at hres
        exact fin (vz, vf) _ _ _ _ (by show (vf, vz) = acM x (ul, qll) ∧ C2 vf ∧ qll ≤ vz ∧ vz ≤ 100; exact ⟨hres, hvf, by omega, by omega⟩) (by first | exact hP | (subst_vars; exact hP)) (by first | exact hD | (subst_vars; exact hD)) hS d_Q_addCharacters_55
      · have _q := c1
        rw [show (4 - i).toNat = (4 - (i + 1)).toNat + 1 by omega] at hres
        simp only [acL] at hres
        refine lv_aload_n hx hb d_Q_addCharacters_7 rfl (lv_at hl 1 rfl) ?_
        refine gf_Q_130 hx hb hts hown hK hP 0 rfl rfl d_Q_addCharacters_8 ?_
        refine lv_aload_n hx hb d_Q_addCharacters_11 rfl (lv_at hl 1 rfl) ?_
        refine gf_Q_13 hx hb hts hown hK hP 0 rfl rfl d_Q_addCharacters_12 ?_
        refine li_alen hx hb hK hP 1 1 rfl rfl d_Q_addCharacters_15 ?_
        refine li_icmp_ge (tgt := 55) hx hb d_Q_addCharacters_16 (by decide) (by omega) (by omega) (fun c2 => ?_) (fun c2 => ?_)
        · have _q := c2
          rw [if_neg (by omega)] at hres
          exact fin (vz, vf) _ _ _ _ (by show (vf, vz) = acM x (ul, qll) ∧ C2 vf ∧ qll ≤ vz ∧ vz ≤ 100; exact ⟨hres, hvf, by omega, by omega⟩) (by first | exact hP | (subst_vars; exact hP)) (by first | exact hD | (subst_vars; exact hD)) hS d_Q_addCharacters_55
        · have _q := c2
          rw [if_pos (by omega)] at hres
          refine lv_iload_n hx hb d_Q_addCharacters_19 rfl (lv_at hl 2 rfl) ?_
          refine lv_iload_n hx hb d_Q_addCharacters_20 rfl (lv_at hl 0 rfl) ?_
          refine li_callr ((va_runS (As := [.int (iI x), .int (iI i)]) (rest := []) ⟨hx, hb, hml, hown, hts⟩ (c_Q_byteOf l dC dI kA x i (by omega)) (cw_Q_216 hts rfl rfl ⟨Nat.le_of_ble_eq_true rfl, Nat.le_of_ble_eq_true rfl⟩) (li_preS va_Pnil hK hN (hG.go hS hAN)) rfl rfl hl.1 rfl (lv_room (Nat.le_of_ble_eq_true rfl)) d_Q_addCharacters_21 ⟨(by show 0 + 0 ≤ 0; omega), (by show 0 + 0 ≤ 0; omega)⟩).run) ?_
          refine li_nm (fun cx ecx => ?_)
          refine lv_istore_n (lv' := [(3, .int (iI cx)), (2, .int (iI i)), (0, .ref qo), (1, .int (iI x))]) hx hb d_Q_addCharacters_24 rfl hl (by decide) rfl (fun ls hl => ?_)
          have hbr := bytF_r x i
          rw [← ecx] at hbr hres
          refine lv_iload_n hx hb d_Q_addCharacters_25 rfl (lv_at hl 0 rfl) ?_
          refine li_if_eq (tgt := 49) hx hb d_Q_addCharacters_26 (by decide) (by omega) (fun c3 => ?_) (fun c3 => ?_)
          · have _q := c3
            rw [if_pos (by assumption)] at hres
            obtain ⟨i_n, ei_n⟩ : ∃ y_9 : Int, y_9 = i + 1 := ⟨_, rfl⟩
            refine lv_iinc (v := iI i_n) (lv' := [(2, .int (iI i_n)), (3, .int (iI cx)), (0, .ref qo), (1, .int (iI x))]) hx hb d_Q_addCharacters_49 hl (k := 1) rfl (by rw [ei_n]; exact iI_add _ _) (by decide) rfl (fun ls hl => ?_)
            refine lv_goto (tgt := 2) hx hb d_Q_addCharacters_52 (by decide) ?_
            exact ih_2 i_n vf vz (by omega) (by first | exact hvf | exact C2_up hbr hvf) (by first | (rw [ei_n, ez_n]; exact hres) | (rw [ei_n]; exact hres)) (by omega) _ _ hP hD hS _ (lv_sub hl [0, 2, 3] rfl)
          · have _q := c3
            rw [if_neg (by assumption)] at hres
            refine lv_aload_n hx hb d_Q_addCharacters_29 rfl (lv_at hl 2 rfl) ?_
            refine gf_Q_13 hx hb hts hown hK hP 0 rfl rfl d_Q_addCharacters_30 ?_
            refine lv_aload_n hx hb d_Q_addCharacters_33 rfl (lv_at hl 2 rfl) ?_
            refine gf_Q_130 hx hb hts hown hK hP 0 rfl rfl d_Q_addCharacters_34 ?_
            refine lv_iload_n hx hb d_Q_addCharacters_37 rfl (lv_at hl 0 rfl) ?_
            refine li_cast hx hb hK hP hD hS 1 1 rfl rfl (by omega) (by omega) (by omega) (by omega) (by omega) d_Q_addCharacters_38 (fun H locs hP hD hS => ?_)
            have hP : va_P (dC, dI) CL [(qo, .inr (0, [.ref (qa 0), .int (iI qbc), .ref (qa 1), .int (iI vz), .ref (qa 2), .ref (qa 3), .int (iI qfc), .int (iI qfp), .ref (qa 4), .ref (qa 5), .ref (qa 6), .ref (qa 7), .ref (qa 8), .ref (qa 9)])), (qa 1, .inl (kA 1, 100, .inl (aI (va_up vf vz.toNat cx))))] H := hP
            have hD : va_D A [(qo, .inr (0, [.ref (qa 0), .int (iI qbc), .ref (qa 1), .int (iI vz), .ref (qa 2), .ref (qa 3), .int (iI qfc), .int (iI qfp), .ref (qa 4), .ref (qa 5), .ref (qa 6), .ref (qa 7), .ref (qa 8), .ref (qa 9)])), (qa 1, .inl (kA 1, 100, .inl (aI (va_up vf vz.toNat cx))))] := hD
            refine lv_aload_n hx hb d_Q_addCharacters_39 rfl (lv_at hl 2 rfl) ?_
            refine lv_dup hx hb d_Q_addCharacters_40 rfl ?_
            refine gf_Q_130 hx hb hts hown hK hP 0 rfl rfl d_Q_addCharacters_41 ?_
            refine lv_iconst (v := iI 1) hx hb d_Q_addCharacters_44 rfl ?_
            refine li_iadd hx hb d_Q_addCharacters_45 ?_
            refine li_nm (fun z_n ez_n => ?_)
            refine pf_Q_130 hx hb hts hown hK hP hD hS 0 rfl (Nat.le_of_ble_eq_true rfl) d_Q_addCharacters_46 (fun H locs hP hD hS => ?_)
            have hP : va_P (dC, dI) CL [(qo, .inr (0, [.ref (qa 0), .int (iI qbc), .ref (qa 1), .int (iI z_n), .ref (qa 2), .ref (qa 3), .int (iI qfc), .int (iI qfp), .ref (qa 4), .ref (qa 5), .ref (qa 6), .ref (qa 7), .ref (qa 8), .ref (qa 9)])), (qa 1, .inl (kA 1, 100, .inl (aI (va_up vf vz.toNat cx))))] H := hP
            have hD : va_D A [(qo, .inr (0, [.ref (qa 0), .int (iI qbc), .ref (qa 1), .int (iI z_n), .ref (qa 2), .ref (qa 3), .int (iI qfc), .int (iI qfp), .ref (qa 4), .ref (qa 5), .ref (qa 6), .ref (qa 7), .ref (qa 8), .ref (qa 9)])), (qa 1, .inl (kA 1, 100, .inl (aI (va_up vf vz.toNat cx))))] := hD
            obtain ⟨i_n, ei_n⟩ : ∃ y_9 : Int, y_9 = i + 1 := ⟨_, rfl⟩
            refine lv_iinc (v := iI i_n) (lv' := [(2, .int (iI i_n)), (3, .int (iI cx)), (0, .ref qo), (1, .int (iI x))]) hx hb d_Q_addCharacters_49 hl (k := 1) rfl (by rw [ei_n]; exact iI_add _ _) (by decide) rfl (fun ls hl => ?_)
            refine lv_goto (tgt := 2) hx hb d_Q_addCharacters_52 (by decide) ?_
            exact ih_2 i_n (va_up vf vz.toNat cx) z_n (by omega) (by first | exact hvf | exact C2_up hbr hvf) (by first | (rw [ei_n, ez_n]; exact hres) | (rw [ei_n]; exact hres)) (by omega) _ _ hP hD hS _ (lv_sub hl [0, 2, 3] rfl)
  exact K_2 ((4 - (0 : Int)).toNat + 1) 0 ul qll (by omega) (by exact hul) (by rfl) (Nat.lt_succ_self _) _ _ hP hD hS _ (lv_sub hl [0, 1, 2] rfl)
theorem d_Q_forgetFound_0 : decode b_Q_forgetFound 0 = .ok (.iconst 0, 1) := by decide +kernel
theorem d_Q_forgetFound_1 : decode b_Q_forgetFound 1 = .ok (.istore_n 2, 1) := by decide +kernel
theorem d_Q_forgetFound_2 : decode b_Q_forgetFound 2 = .ok (.iconst 0, 1) := by decide +kernel
theorem d_Q_forgetFound_3 : decode b_Q_forgetFound 3 = .ok (.istore_n 3, 1) := by decide +kernel
theorem d_Q_forgetFound_4 : decode b_Q_forgetFound 4 = .ok (.iload_n 3, 1) := by decide +kernel
theorem d_Q_forgetFound_5 : decode b_Q_forgetFound 5 = .ok (.aload_n 0, 1) := by decide +kernel
theorem d_Q_forgetFound_6 : decode b_Q_forgetFound 6 = .ok (.getfield 162, 3) := by decide +kernel
theorem d_Q_forgetFound_9 : decode b_Q_forgetFound 9 = .ok (.if_icmp .ge 43, 3) := by decide +kernel
theorem d_Q_forgetFound_12 : decode b_Q_forgetFound 12 = .ok (.iload_n 3, 1) := by decide +kernel
theorem d_Q_forgetFound_13 : decode b_Q_forgetFound 13 = .ok (.aload_n 0, 1) := by decide +kernel
theorem d_Q_forgetFound_14 : decode b_Q_forgetFound 14 = .ok (.getfield 22, 3) := by decide +kernel
theorem d_Q_forgetFound_17 : decode b_Q_forgetFound 17 = .ok (.arraylength, 1) := by decide +kernel
theorem d_Q_forgetFound_18 : decode b_Q_forgetFound 18 = .ok (.if_icmp .ge 34, 3) := by decide +kernel
theorem d_Q_forgetFound_21 : decode b_Q_forgetFound 21 = .ok (.aload_n 0, 1) := by decide +kernel
theorem d_Q_forgetFound_22 : decode b_Q_forgetFound 22 = .ok (.getfield 22, 3) := by decide +kernel
theorem d_Q_forgetFound_25 : decode b_Q_forgetFound 25 = .ok (.iload_n 3, 1) := by decide +kernel
theorem d_Q_forgetFound_26 : decode b_Q_forgetFound 26 = .ok (.iaload, 1) := by decide +kernel
theorem d_Q_forgetFound_27 : decode b_Q_forgetFound 27 = .ok (.iload_n 1, 1) := by decide +kernel
theorem d_Q_forgetFound_28 : decode b_Q_forgetFound 28 = .ok (.if_icmp .eq 18, 3) := by decide +kernel
theorem d_Q_forgetFound_31 : decode b_Q_forgetFound 31 = .ok (.aload_n 0, 1) := by decide +kernel
theorem d_Q_forgetFound_32 : decode b_Q_forgetFound 32 = .ok (.getfield 22, 3) := by decide +kernel
theorem d_Q_forgetFound_35 : decode b_Q_forgetFound 35 = .ok (.iload_n 2, 1) := by decide +kernel
theorem d_Q_forgetFound_36 : decode b_Q_forgetFound 36 = .ok (.aload_n 0, 1) := by decide +kernel
theorem d_Q_forgetFound_37 : decode b_Q_forgetFound 37 = .ok (.getfield 22, 3) := by decide +kernel
theorem d_Q_forgetFound_40 : decode b_Q_forgetFound 40 = .ok (.iload_n 3, 1) := by decide +kernel
theorem d_Q_forgetFound_41 : decode b_Q_forgetFound 41 = .ok (.iaload, 1) := by decide +kernel
theorem d_Q_forgetFound_42 : decode b_Q_forgetFound 42 = .ok (.iastore, 1) := by decide +kernel
theorem d_Q_forgetFound_43 : decode b_Q_forgetFound 43 = .ok (.iinc 2 1, 3) := by decide +kernel
theorem d_Q_forgetFound_46 : decode b_Q_forgetFound 46 = .ok (.iinc 3 1, 3) := by decide +kernel
theorem d_Q_forgetFound_49 : decode b_Q_forgetFound 49 = .ok (.goto (-45), 3) := by decide +kernel
theorem d_Q_forgetFound_52 : decode b_Q_forgetFound 52 = .ok (.aload_n 0, 1) := by decide +kernel
theorem d_Q_forgetFound_53 : decode b_Q_forgetFound 53 = .ok (.iload_n 2, 1) := by decide +kernel
theorem d_Q_forgetFound_54 : decode b_Q_forgetFound 54 = .ok (.putfield 162, 3) := by decide +kernel
theorem d_Q_forgetFound_57 : decode b_Q_forgetFound 57 = .ok (.return_, 1) := by decide +kernel
set_option maxHeartbeats 4000000 in
set_option maxRecDepth 100000 in
theorem c_Q_forgetFound (l : Launch) (dC : Nat → ClassId) (dI : Nat → Nat → Nat) (kA : Nat → ClassId) (sz : Nat) (qo : Nat) (qa : Nat → Nat) (qbc : Int) (qll : Int) (qfc : Int) (qfp : Int) (uf : Nat → Int) (r : Int) (hfc : 0 ≤ qfc ∧ qfc ≤ 10) (huf : ∀ j, 0 ≤ uf j ∧ uf j ≤ 100) (hr : 0 ≤ r ∧ r ≤ 9) : Met l y_Q_forgetFound (wsy y_Q_forgetFound b_Q_forgetFound 4 none) (rmd 0 0 0) (li_Pr (dC, dI) CL (TY kA) [.ref qo, .int (iI r)] (fun h => h.size = sz ∧ va_P (dC, dI) CL [(qo, .inr (0, [.ref (qa 0), .int (iI qbc), .ref (qa 1), .int (iI qll), .ref (qa 2), .ref (qa 3), .int (iI qfc), .int (iI qfp), .ref (qa 4), .ref (qa 5), .ref (qa 6), .ref (qa 7), .ref (qa 8), .ref (qa 9)])), (qa 3, .inl (kA 0, 10, .inl (aI uf)))] h ∧ va_D (fun q => dI 100 0 ≤ q) [(qo, .inr (0, [.ref (qa 0), .int (iI qbc), .ref (qa 1), .int (iI qll), .ref (qa 2), .ref (qa 3), .int (iI qfc), .int (iI qfp), .ref (qa 4), .ref (qa 5), .ref (qa 6), .ref (qa 7), .ref (qa 8), .ref (qa 9)])), (qa 3, .inl (kA 0, 10, .inl (aI uf)))] ∧ (fun _ => True) h)) (li_Qw (S := (Int) × (Nat → Int)) (dC, dI) CL (fun u => (u.1, u.2) = kfM r qfc uf ∧ 0 ≤ u.1 ∧ u.1 ≤ qfc ∧ (∀ j, 0 ≤ u.2 j ∧ u.2 j ≤ 100)) (fun _ => none) (fun u => [(qo, .inr (0, [.ref (qa 0), .int (iI qbc), .ref (qa 1), .int (iI qll), .ref (qa 2), .ref (qa 3), .int (iI u.1), .int (iI qfp), .ref (qa 4), .ref (qa 5), .ref (qa 6), .ref (qa 7), .ref (qa 8), .ref (qa 9)])), (qa 3, .inl (kA 0, 10, .inl (aI u.2)))]) (va_A [(qo, .inr (0, [.ref (qa 0), .int (iI qbc), .ref (qa 1), .int (iI qll), .ref (qa 2), .ref (qa 3), .int (iI qfc), .int (iI qfp), .ref (qa 4), .ref (qa 5), .ref (qa 6), .ref (qa 7), .ref (qa 8), .ref (qa 9)])), (qa 3, .inl (kA 0, 10, .inl (aI uf)))] sz)) 0 0 (va_A [(qo, .inr (0, [.ref (qa 0), .int (iI qbc), .ref (qa 1), .int (iI qll), .ref (qa 2), .ref (qa 3), .int (iI qfc), .int (iI qfp), .ref (qa 4), .ref (qa 5), .ref (qa 6), .ref (qa 7), .ref (qa 8), .ref (qa 9)])), (qa 3, .inl (kA 0, 10, .inl (aI uf)))] sz) := by
  refine li_mwv (by decide) (Nat.le_of_ble_eq_true rfl) ?_
  intro p e s m args below meth c Q A C hP hD hBx hK hN hG hA hAi hAN fin ls hl
  obtain ⟨hx, hb, hr, hml, hown, hts, hlocks, hin⟩ := C
  have hown : s.vm.findClass R_Q = some m.cls := hown
  have hl : lv_has ls 4 [(0, .ref qo), (1, .int (iI r))] := hl
  suffices h9 : ∀ (H : Heap) (locs : List Loc), H = s.heap → locs = [] → W p l e (rmd 0 0 0) s m args below meth c H locs 0 0 Q (F0 m 0 ls []) from h9 _ _ rfl rfl
  intro H locs eH eL
  have hP : va_P (dC, dI) CL [(qo, .inr (0, [.ref (qa 0), .int (iI qbc), .ref (qa 1), .int (iI qll), .ref (qa 2), .ref (qa 3), .int (iI qfc), .int (iI qfp), .ref (qa 4), .ref (qa 5), .ref (qa 6), .ref (qa 7), .ref (qa 8), .ref (qa 9)])), (qa 3, .inl (kA 0, 10, .inl (aI uf)))] H := by rw [eH]; exact hP
  have hS : va_S A s.heap H locs := by rw [eH, eL]; exact va_S.rf
  refine lv_iconst (v := iI 0) hx hb d_Q_forgetFound_0 rfl ?_
  refine lv_istore_n (lv' := [(2, .int (iI 0)), (0, .ref qo), (1, .int (iI r))]) hx hb d_Q_forgetFound_1 rfl hl (by decide) rfl (fun ls hl => ?_)
  refine lv_iconst (v := iI 0) hx hb d_Q_forgetFound_2 rfl ?_
  refine lv_istore_n (lv' := [(3, .int (iI 0)), (2, .int (iI 0)), (0, .ref qo), (1, .int (iI r))]) hx hb d_Q_forgetFound_3 rfl hl (by decide) rfl (fun ls hl => ?_)
  have K_4 : ∀ (nn_4 : Nat) (k : Int) (n : Int) (vf : Nat → Int), (0 ≤ n ∧ n ≤ k ∧ k ≤ qfc) → (∀ j, 0 ≤ vf j ∧ vf j ≤ 100) → (kfL r (qfc - k).toNat k (n, vf) = kfM r qfc uf) → ((qfc - k).toNat < nn_4) → ∀ (H : Heap) (locs : List Loc), va_P (dC, dI) CL [(qo, .inr (0, [.ref (qa 0), .int (iI qbc), .ref (qa 1), .int (iI qll), .ref (qa 2), .ref (qa 3), .int (iI qfc), .int (iI qfp), .ref (qa 4), .ref (qa 5), .ref (qa 6), .ref (qa 7), .ref (qa 8), .ref (qa 9)])), (qa 3, .inl (kA 0, 10, .inl (aI vf)))] H → va_D A [(qo, .inr (0, [.ref (qa 0), .int (iI qbc), .ref (qa 1), .int (iI qll), .ref (qa 2), .ref (qa 3), .int (iI qfc), .int (iI qfp), .ref (qa 4), .ref (qa 5), .ref (qa 6), .ref (qa 7), .ref (qa 8), .ref (qa 9)])), (qa 3, .inl (kA 0, 10, .inl (aI vf)))] → va_S A s.heap H locs → ∀ ls : Array Slot, lv_has ls 4 [(3, .int (iI k)), (2, .int (iI n)), (0, .ref qo), (1, .int (iI r))] → W p l e (rmd 0 0 0) s m args below meth c H locs 0 0 Q (F0 m 4 ls []) := by
    intro nn_4
    induction nn_4 with
    | zero => intro k n vf hk9 hvf hres hm; exact absurd hm (Nat.not_lt_zero _)
    | succ nn_4 ih_4 =>
      intro k n vf hk9 hvf hres hm_4 H locs hP hD hS ls hl
      refine lv_iload_n hx hb d_Q_forgetFound_4 rfl (lv_at hl 0 rfl) ?_
      refine lv_aload_n hx hb d_Q_forgetFound_5 rfl (lv_at hl 2 rfl) ?_
      refine gf_Q_162 hx hb hts hown hK hP 0 rfl rfl d_Q_forgetFound_6 ?_
      refine li_icmp_ge (tgt := 52) hx hb d_Q_forgetFound_9 (by decide) (by omega) (by omega) (fun c1 => ?_) (fun c1 => ?_)
      · have _q := c1
        rw [show (qfc - k).toNat = 0 by omega] at hres
        simp only [kfL] at hres
        refine lv_aload_n hx hb d_Q_forgetFound_52 rfl (lv_at hl 2 rfl) ?_
        refine lv_iload_n hx hb d_Q_forgetFound_53 rfl (lv_at hl 1 rfl) ?_
        refine pf_Q_162 hx hb hts hown hK hP hD hS 0 rfl (Nat.le_of_ble_eq_true rfl) d_Q_forgetFound_54 (fun H locs hP hD hS => ?_)
        have hP : va_P (dC, dI) CL [(qo, .inr (0, [.ref (qa 0), .int (iI qbc), .ref (qa 1), .int (iI qll), .ref (qa 2), .ref (qa 3), .int (iI n), .int (iI qfp), .ref (qa 4), .ref (qa 5), .ref (qa 6), .ref (qa 7), .ref (qa 8), .ref (qa 9)])), (qa 3, .inl (kA 0, 10, .inl (aI vf)))] H := hP
        have hD : va_D A [(qo, .inr (0, [.ref (qa 0), .int (iI qbc), .ref (qa 1), .int (iI qll), .ref (qa 2), .ref (qa 3), .int (iI n), .int (iI qfp), .ref (qa 4), .ref (qa 5), .ref (qa 6), .ref (qa 7), .ref (qa 8), .ref (qa 9)])), (qa 3, .inl (kA 0, 10, .inl (aI vf)))] := hD
        exact fin (n, vf) _ _ _ _ (by show (n, vf) = kfM r qfc uf ∧ 0 ≤ n ∧ n ≤ qfc ∧ (∀ j, 0 ≤ vf j ∧ vf j ≤ 100); exact ⟨hres, by omega, by omega, hvf⟩) (by first | exact hP | (subst_vars; exact hP)) (by first | exact hD | (subst_vars; exact hD)) hS d_Q_forgetFound_57
      · have _q := c1
        rw [show (qfc - k).toNat = (qfc - (k + 1)).toNat + 1 by omega] at hres
        simp only [kfL] at hres
        refine lv_iload_n hx hb d_Q_forgetFound_12 rfl (lv_at hl 0 rfl) ?_
        refine lv_aload_n hx hb d_Q_forgetFound_13 rfl (lv_at hl 2 rfl) ?_
        refine gf_Q_22 hx hb hts hown hK hP 0 rfl rfl d_Q_forgetFound_14 ?_
        refine li_alen hx hb hK hP 1 0 rfl rfl d_Q_forgetFound_17 ?_
        refine li_icmp_ge (tgt := 52) hx hb d_Q_forgetFound_18 (by decide) (by omega) (by omega) (fun c2 => ?_) (fun c2 => ?_)
        · have _q := c2
          exact absurd c2 (by omega)
        · have _q := c2
          refine lv_aload_n hx hb d_Q_forgetFound_21 rfl (lv_at hl 2 rfl) ?_
          refine gf_Q_22 hx hb hts hown hK hP 0 rfl rfl d_Q_forgetFound_22 ?_
          refine lv_iload_n hx hb d_Q_forgetFound_25 rfl (lv_at hl 0 rfl) ?_
          refine li_iald hx hb hK hP 1 0 rfl rfl (by omega) (by omega) (by omega) d_Q_forgetFound_26 ?_
          have f3 := hvf k.toNat
          refine lv_iload_n hx hb d_Q_forgetFound_27 rfl (lv_at hl 3 rfl) ?_
          refine li_icmp_eq (tgt := 46) hx hb d_Q_forgetFound_28 (by decide) (by omega) (by omega) (fun c4 => ?_) (fun c4 => ?_)
          · have _q := c4
            rw [if_pos (by assumption)] at hres
            obtain ⟨k_n, ek_n⟩ : ∃ y_9 : Int, y_9 = k + 1 := ⟨_, rfl⟩
            refine lv_iinc (v := iI k_n) (lv' := [(3, .int (iI k_n)), (2, .int (iI n)), (0, .ref qo), (1, .int (iI r))]) hx hb d_Q_forgetFound_46 hl (k := 0) rfl (by rw [ek_n]; exact iI_add _ _) (by decide) rfl (fun ls hl => ?_)
            refine lv_goto (tgt := 4) hx hb d_Q_forgetFound_49 (by decide) ?_
            exact ih_4 k_n n vf (by omega) (by first | exact huf | exact hvf | exact (fun j => by unfold va_up; split; (exact hvf _); exact hvf j)) (by first | (rw [ek_n, en_n]; exact hres) | (rw [ek_n]; exact hres)) (by omega) _ _ hP hD hS _ (lv_sub hl [0, 1, 2, 3] rfl)
          · have _q := c4
            rw [if_neg (by assumption)] at hres
            refine lv_aload_n hx hb d_Q_forgetFound_31 rfl (lv_at hl 2 rfl) ?_
            refine gf_Q_22 hx hb hts hown hK hP 0 rfl rfl d_Q_forgetFound_32 ?_
            refine lv_iload_n hx hb d_Q_forgetFound_35 rfl (lv_at hl 1 rfl) ?_
            refine lv_aload_n hx hb d_Q_forgetFound_36 rfl (lv_at hl 2 rfl) ?_
            refine gf_Q_22 hx hb hts hown hK hP 0 rfl rfl d_Q_forgetFound_37 ?_
            refine lv_iload_n hx hb d_Q_forgetFound_40 rfl (lv_at hl 0 rfl) ?_
            refine li_iald hx hb hK hP 1 0 rfl rfl (by omega) (by omega) (by omega) d_Q_forgetFound_41 ?_
            have f5 := hvf k.toNat
            refine li_iast hx hb hK hP hD hS 1 0 rfl rfl (by omega) (by omega) (by omega) d_Q_forgetFound_42 (fun H locs hP hD hS => ?_)
            have hP : va_P (dC, dI) CL [(qo, .inr (0, [.ref (qa 0), .int (iI qbc), .ref (qa 1), .int (iI qll), .ref (qa 2), .ref (qa 3), .int (iI qfc), .int (iI qfp), .ref (qa 4), .ref (qa 5), .ref (qa 6), .ref (qa 7), .ref (qa 8), .ref (qa 9)])), (qa 3, .inl (kA 0, 10, .inl (aI (va_up vf n.toNat (vf k.toNat)))))] H := hP
            have hD : va_D A [(qo, .inr (0, [.ref (qa 0), .int (iI qbc), .ref (qa 1), .int (iI qll), .ref (qa 2), .ref (qa 3), .int (iI qfc), .int (iI qfp), .ref (qa 4), .ref (qa 5), .ref (qa 6), .ref (qa 7), .ref (qa 8), .ref (qa 9)])), (qa 3, .inl (kA 0, 10, .inl (aI (va_up vf n.toNat (vf k.toNat)))))] := hD
            obtain ⟨n_n, en_n⟩ : ∃ y_9 : Int, y_9 = n + 1 := ⟨_, rfl⟩
            refine lv_iinc (v := iI n_n) (lv' := [(2, .int (iI n_n)), (3, .int (iI k)), (0, .ref qo), (1, .int (iI r))]) hx hb d_Q_forgetFound_43 hl (k := 1) rfl (by rw [en_n]; exact iI_add _ _) (by decide) rfl (fun ls hl => ?_)
            obtain ⟨k_n, ek_n⟩ : ∃ y_9 : Int, y_9 = k + 1 := ⟨_, rfl⟩
            refine lv_iinc (v := iI k_n) (lv' := [(3, .int (iI k_n)), (2, .int (iI n_n)), (0, .ref qo), (1, .int (iI r))]) hx hb d_Q_forgetFound_46 hl (k := 1) rfl (by rw [ek_n]; exact iI_add _ _) (by decide) rfl (fun ls hl => ?_)
            refine lv_goto (tgt := 4) hx hb d_Q_forgetFound_49 (by decide) ?_
            exact ih_4 k_n n_n (va_up vf n.toNat (vf k.toNat)) (by omega) (by first | exact huf | exact hvf | exact (fun j => by unfold va_up; split; (exact hvf _); exact hvf j)) (by first | (rw [ek_n, en_n]; exact hres) | (rw [ek_n]; exact hres)) (by omega) _ _ hP hD hS _ (lv_sub hl [0, 1, 2, 3] rfl)
  exact K_4 ((qfc - 0).toNat + 1) 0 0 uf (by omega) (by first | exact huf | exact hvf | exact (fun j => by unfold va_up; split; (exact hvf _); exact hvf j)) (by rw [Int.sub_zero]; rfl) (Nat.lt_succ_self _) _ _ hP hD hS _ (lv_sub hl [0, 1, 2, 3] rfl)
theorem d_Q_keepFound_0 : decode b_Q_keepFound 0 = .ok (.aload_n 0, 1) := by decide +kernel
theorem d_Q_keepFound_1 : decode b_Q_keepFound 1 = .ok (.iconst 0, 1) := by decide +kernel
theorem d_Q_keepFound_2 : decode b_Q_keepFound 2 = .ok (.putfield 162, 3) := by decide +kernel
theorem d_Q_keepFound_5 : decode b_Q_keepFound 5 = .ok (.iconst 0, 1) := by decide +kernel
theorem d_Q_keepFound_6 : decode b_Q_keepFound 6 = .ok (.istore_n 2, 1) := by decide +kernel
theorem d_Q_keepFound_7 : decode b_Q_keepFound 7 = .ok (.iload_n 2, 1) := by decide +kernel
theorem d_Q_keepFound_8 : decode b_Q_keepFound 8 = .ok (.aload_n 0, 1) := by decide +kernel
theorem d_Q_keepFound_9 : decode b_Q_keepFound 9 = .ok (.getfield 22, 3) := by decide +kernel
theorem d_Q_keepFound_12 : decode b_Q_keepFound 12 = .ok (.arraylength, 1) := by decide +kernel
theorem d_Q_keepFound_13 : decode b_Q_keepFound 13 = .ok (.if_icmp .ge 38, 3) := by decide +kernel
theorem d_Q_keepFound_16 : decode b_Q_keepFound 16 = .ok (.iload_n 1, 1) := by decide +kernel
theorem d_Q_keepFound_17 : decode b_Q_keepFound 17 = .ok (.iload_n 2, 1) := by decide +kernel
theorem d_Q_keepFound_18 : decode b_Q_keepFound 18 = .ok (.ishr, 1) := by decide +kernel
theorem d_Q_keepFound_19 : decode b_Q_keepFound 19 = .ok (.iconst 1, 1) := by decide +kernel
theorem d_Q_keepFound_20 : decode b_Q_keepFound 20 = .ok (.iand, 1) := by decide +kernel
theorem d_Q_keepFound_21 : decode b_Q_keepFound 21 = .ok (.iconst 1, 1) := by decide +kernel
theorem d_Q_keepFound_22 : decode b_Q_keepFound 22 = .ok (.if_icmp .ne 23, 3) := by decide +kernel
theorem d_Q_keepFound_25 : decode b_Q_keepFound 25 = .ok (.aload_n 0, 1) := by decide +kernel
theorem d_Q_keepFound_26 : decode b_Q_keepFound 26 = .ok (.getfield 22, 3) := by decide +kernel
theorem d_Q_keepFound_29 : decode b_Q_keepFound 29 = .ok (.aload_n 0, 1) := by decide +kernel
theorem d_Q_keepFound_30 : decode b_Q_keepFound 30 = .ok (.getfield 162, 3) := by decide +kernel
theorem d_Q_keepFound_33 : decode b_Q_keepFound 33 = .ok (.iload_n 2, 1) := by decide +kernel
theorem d_Q_keepFound_34 : decode b_Q_keepFound 34 = .ok (.iastore, 1) := by decide +kernel
theorem d_Q_keepFound_35 : decode b_Q_keepFound 35 = .ok (.aload_n 0, 1) := by decide +kernel
theorem d_Q_keepFound_36 : decode b_Q_keepFound 36 = .ok (.dup, 1) := by decide +kernel
theorem d_Q_keepFound_37 : decode b_Q_keepFound 37 = .ok (.getfield 162, 3) := by decide +kernel
theorem d_Q_keepFound_40 : decode b_Q_keepFound 40 = .ok (.iconst 1, 1) := by decide +kernel
theorem d_Q_keepFound_41 : decode b_Q_keepFound 41 = .ok (.iadd, 1) := by decide +kernel
theorem d_Q_keepFound_42 : decode b_Q_keepFound 42 = .ok (.putfield 162, 3) := by decide +kernel
theorem d_Q_keepFound_45 : decode b_Q_keepFound 45 = .ok (.iinc 2 1, 3) := by decide +kernel
theorem d_Q_keepFound_48 : decode b_Q_keepFound 48 = .ok (.goto (-41), 3) := by decide +kernel
theorem d_Q_keepFound_51 : decode b_Q_keepFound 51 = .ok (.return_, 1) := by decide +kernel
set_option maxHeartbeats 4000000 in
set_option maxRecDepth 100000 in
theorem c_Q_keepFound (l : Launch) (dC : Nat → ClassId) (dI : Nat → Nat → Nat) (kA : Nat → ClassId) (sz : Nat) (qo : Nat) (qa : Nat → Nat) (qbc : Int) (qll : Int) (qfc : Int) (qfp : Int) (uf : Nat → Int) (v : Int)  : Met l y_Q_keepFound (wsy y_Q_keepFound b_Q_keepFound 3 none) (rmd 0 0 0) (li_Pr (dC, dI) CL (TY kA) [.ref qo, .int (iI v)] (fun h => h.size = sz ∧ va_P (dC, dI) CL [(qo, .inr (0, [.ref (qa 0), .int (iI qbc), .ref (qa 1), .int (iI qll), .ref (qa 2), .ref (qa 3), .int (iI qfc), .int (iI qfp), .ref (qa 4), .ref (qa 5), .ref (qa 6), .ref (qa 7), .ref (qa 8), .ref (qa 9)])), (qa 3, .inl (kA 0, 10, .inl (aI uf)))] h ∧ va_D (fun q => dI 100 0 ≤ q) [(qo, .inr (0, [.ref (qa 0), .int (iI qbc), .ref (qa 1), .int (iI qll), .ref (qa 2), .ref (qa 3), .int (iI qfc), .int (iI qfp), .ref (qa 4), .ref (qa 5), .ref (qa 6), .ref (qa 7), .ref (qa 8), .ref (qa 9)])), (qa 3, .inl (kA 0, 10, .inl (aI uf)))] ∧ (fun _ => True) h)) (li_Qw (S := (Int) × (Nat → Int)) (dC, dI) CL (fun u => (u.1, u.2) = kpM v uf ∧ 0 ≤ u.1 ∧ u.1 ≤ 10) (fun _ => none) (fun u => [(qo, .inr (0, [.ref (qa 0), .int (iI qbc), .ref (qa 1), .int (iI qll), .ref (qa 2), .ref (qa 3), .int (iI u.1), .int (iI qfp), .ref (qa 4), .ref (qa 5), .ref (qa 6), .ref (qa 7), .ref (qa 8), .ref (qa 9)])), (qa 3, .inl (kA 0, 10, .inl (aI u.2)))]) (va_A [(qo, .inr (0, [.ref (qa 0), .int (iI qbc), .ref (qa 1), .int (iI qll), .ref (qa 2), .ref (qa 3), .int (iI qfc), .int (iI qfp), .ref (qa 4), .ref (qa 5), .ref (qa 6), .ref (qa 7), .ref (qa 8), .ref (qa 9)])), (qa 3, .inl (kA 0, 10, .inl (aI uf)))] sz)) 0 0 (va_A [(qo, .inr (0, [.ref (qa 0), .int (iI qbc), .ref (qa 1), .int (iI qll), .ref (qa 2), .ref (qa 3), .int (iI qfc), .int (iI qfp), .ref (qa 4), .ref (qa 5), .ref (qa 6), .ref (qa 7), .ref (qa 8), .ref (qa 9)])), (qa 3, .inl (kA 0, 10, .inl (aI uf)))] sz) := by
  refine li_mwv (by decide) (Nat.le_of_ble_eq_true rfl) ?_
  intro p e s m args below meth c Q A C hP hD hBx hK hN hG hA hAi hAN fin ls hl
  obtain ⟨hx, hb, hr, hml, hown, hts, hlocks, hin⟩ := C
  have hown : s.vm.findClass R_Q = some m.cls := hown
  have hl : lv_has ls 3 [(0, .ref qo), (1, .int (iI v))] := hl
  suffices h9 : ∀ (H : Heap) (locs : List Loc), H = s.heap → locs = [] → W p l e (rmd 0 0 0) s m args below meth c H locs 0 0 Q (F0 m 0 ls []) from h9 _ _ rfl rfl
  intro H locs eH eL
  have hP : va_P (dC, dI) CL [(qo, .inr (0, [.ref (qa 0), .int (iI qbc), .ref (qa 1), .int (iI qll), .ref (qa 2), .ref (qa 3), .int (iI qfc), .int (iI qfp), .ref (qa 4), .ref (qa 5), .ref (qa 6), .ref (qa 7), .ref (qa 8), .ref (qa 9)])), (qa 3, .inl (kA 0, 10, .inl (aI uf)))] H := by rw [eH]; exact hP
  have hS : va_S A s.heap H locs := by rw [eH, eL]; exact va_S.rf
  refine lv_aload_n hx hb d_Q_keepFound_0 rfl (lv_at hl 0 rfl) ?_
  refine lv_iconst (v := iI 0) hx hb d_Q_keepFound_1 rfl ?_
  refine pf_Q_162 hx hb hts hown hK hP hD hS 0 rfl (Nat.le_of_ble_eq_true rfl) d_Q_keepFound_2 (fun H locs hP hD hS => ?_)
  have hP : va_P (dC, dI) CL [(qo, .inr (0, [.ref (qa 0), .int (iI qbc), .ref (qa 1), .int (iI qll), .ref (qa 2), .ref (qa 3), .int (iI 0), .int (iI qfp), .ref (qa 4), .ref (qa 5), .ref (qa 6), .ref (qa 7), .ref (qa 8), .ref (qa 9)])), (qa 3, .inl (kA 0, 10, .inl (aI uf)))] H := hP
  have hD : va_D A [(qo, .inr (0, [.ref (qa 0), .int (iI qbc), .ref (qa 1), .int (iI qll), .ref (qa 2), .ref (qa 3), .int (iI 0), .int (iI qfp), .ref (qa 4), .ref (qa 5), .ref (qa 6), .ref (qa 7), .ref (qa 8), .ref (qa 9)])), (qa 3, .inl (kA 0, 10, .inl (aI uf)))] := hD
  refine lv_iconst (v := iI 0) hx hb d_Q_keepFound_5 rfl ?_
  refine lv_istore_n (lv' := [(2, .int (iI 0)), (0, .ref qo), (1, .int (iI v))]) hx hb d_Q_keepFound_6 rfl hl (by decide) rfl (fun ls hl => ?_)
  have K_7 : ∀ (nn_7 : Nat) (r : Int) (n : Int) (vf : Nat → Int), (0 ≤ n ∧ n ≤ r ∧ r ≤ 10) → (kpL v (10 - r).toNat r (n, vf) = kpM v uf) → ((10 - (r : Int)).toNat < nn_7) → ∀ (H : Heap) (locs : List Loc), va_P (dC, dI) CL [(qo, .inr (0, [.ref (qa 0), .int (iI qbc), .ref (qa 1), .int (iI qll), .ref (qa 2), .ref (qa 3), .int (iI n), .int (iI qfp), .ref (qa 4), .ref (qa 5), .ref (qa 6), .ref (qa 7), .ref (qa 8), .ref (qa 9)])), (qa 3, .inl (kA 0, 10, .inl (aI vf)))] H → va_D A [(qo, .inr (0, [.ref (qa 0), .int (iI qbc), .ref (qa 1), .int (iI qll), .ref (qa 2), .ref (qa 3), .int (iI n), .int (iI qfp), .ref (qa 4), .ref (qa 5), .ref (qa 6), .ref (qa 7), .ref (qa 8), .ref (qa 9)])), (qa 3, .inl (kA 0, 10, .inl (aI vf)))] → va_S A s.heap H locs → ∀ ls : Array Slot, lv_has ls 3 [(2, .int (iI r)), (0, .ref qo), (1, .int (iI v))] → W p l e (rmd 0 0 0) s m args below meth c H locs 0 0 Q (F0 m 7 ls []) := by
    intro nn_7
    induction nn_7 with
    | zero => intro r n vf hr9 hres hm; exact absurd hm (Nat.not_lt_zero _)
    | succ nn_7 ih_7 =>
      intro r n vf hr9 hres hm_7 H locs hP hD hS ls hl
      refine lv_iload_n hx hb d_Q_keepFound_7 rfl (lv_at hl 0 rfl) ?_
      refine lv_aload_n hx hb d_Q_keepFound_8 rfl (lv_at hl 1 rfl) ?_
      refine gf_Q_22 hx hb hts hown hK hP 0 rfl rfl d_Q_keepFound_9 ?_
      refine li_alen hx hb hK hP 1 0 rfl rfl d_Q_keepFound_12 ?_
      refine li_icmp_ge (tgt := 51) hx hb d_Q_keepFound_13 (by decide) (by first | omega | exact toInt_rr _) (by first | omega | exact toInt_rr _) (fun c1 => ?_) (fun c1 => ?_)
      · have _q := c1
        rw [show (10 - r).toNat = 0 by omega] at hres
        simp only [kpL] at hres
        exact fin (n, vf) _ _ _ _ (by show (n, vf) = kpM v uf ∧ 0 ≤ n ∧ n ≤ 10; exact ⟨hres, by omega, by omega⟩) (by first | exact hP | (subst_vars; exact hP)) (by first | exact hD | (subst_vars; exact hD)) hS d_Q_keepFound_51
      · have _q := c1
        rw [show (10 - r).toNat = (10 - (r + 1)).toNat + 1 by omega] at hres
        simp only [kpL] at hres
        refine lv_iload_n hx hb d_Q_keepFound_16 rfl (lv_at hl 2 rfl) ?_
        refine lv_iload_n hx hb d_Q_keepFound_17 rfl (lv_at hl 0 rfl) ?_
        refine li_ishrI hx hb d_Q_keepFound_18 ?_
        refine lv_iconst (v := iI 1) hx hb d_Q_keepFound_19 rfl ?_
        refine li_iandI hx hb d_Q_keepFound_20 ?_
        refine lv_iconst (v := iI 1) hx hb d_Q_keepFound_21 rfl ?_
        refine li_icmp_ne (tgt := 45) hx hb d_Q_keepFound_22 (by decide) (by first | omega | exact toInt_rr _) (by first | omega | exact toInt_rr _) (fun c2 => ?_) (fun c2 => ?_)
        · have _q := c2
          rw [if_neg (by assumption)] at hres
          obtain ⟨r_n, er_n⟩ : ∃ y_9 : Int, y_9 = r + 1 := ⟨_, rfl⟩
          refine lv_iinc (v := iI r_n) (lv' := [(2, .int (iI r_n)), (0, .ref qo), (1, .int (iI v))]) hx hb d_Q_keepFound_45 hl (k := 0) rfl (by rw [er_n]; exact iI_add _ _) (by decide) rfl (fun ls hl => ?_)
          refine lv_goto (tgt := 7) hx hb d_Q_keepFound_48 (by decide) ?_
          exact ih_7 r_n n vf (by omega) (by first | (rw [er_n, en_n]; exact hres) | (rw [er_n]; exact hres)) (by omega) _ _ hP hD hS _ (lv_sub hl [0, 1, 2] rfl)
        · have _q := c2
          rw [if_pos (by assumption)] at hres
          refine lv_aload_n hx hb d_Q_keepFound_25 rfl (lv_at hl 1 rfl) ?_
          refine gf_Q_22 hx hb hts hown hK hP 0 rfl rfl d_Q_keepFound_26 ?_
          refine lv_aload_n hx hb d_Q_keepFound_29 rfl (lv_at hl 1 rfl) ?_
          refine gf_Q_162 hx hb hts hown hK hP 0 rfl rfl d_Q_keepFound_30 ?_
          refine lv_iload_n hx hb d_Q_keepFound_33 rfl (lv_at hl 0 rfl) ?_
          refine li_iast hx hb hK hP hD hS 1 0 rfl rfl (by omega) (by omega) (by omega) d_Q_keepFound_34 (fun H locs hP hD hS => ?_)
          have hP : va_P (dC, dI) CL [(qo, .inr (0, [.ref (qa 0), .int (iI qbc), .ref (qa 1), .int (iI qll), .ref (qa 2), .ref (qa 3), .int (iI n), .int (iI qfp), .ref (qa 4), .ref (qa 5), .ref (qa 6), .ref (qa 7), .ref (qa 8), .ref (qa 9)])), (qa 3, .inl (kA 0, 10, .inl (aI (va_up vf n.toNat r))))] H := hP
          have hD : va_D A [(qo, .inr (0, [.ref (qa 0), .int (iI qbc), .ref (qa 1), .int (iI qll), .ref (qa 2), .ref (qa 3), .int (iI n), .int (iI qfp), .ref (qa 4), .ref (qa 5), .ref (qa 6), .ref (qa 7), .ref (qa 8), .ref (qa 9)])), (qa 3, .inl (kA 0, 10, .inl (aI (va_up vf n.toNat r))))] := hD
          refine lv_aload_n hx hb d_Q_keepFound_35 rfl (lv_at hl 1 rfl) ?_
          refine lv_dup hx hb d_Q_keepFound_36 rfl ?_
          refine gf_Q_162 hx hb hts hown hK hP 0 rfl rfl d_Q_keepFound_37 ?_
          refine lv_iconst (v := iI 1) hx hb d_Q_keepFound_40 rfl ?_
          refine li_iadd hx hb d_Q_keepFound_41 ?_
          refine li_nm (fun n_n en_n => ?_)
          refine pf_Q_162 hx hb hts hown hK hP hD hS 0 rfl (Nat.le_of_ble_eq_true rfl) d_Q_keepFound_42 (fun H locs hP hD hS => ?_)
          have hP : va_P (dC, dI) CL [(qo, .inr (0, [.ref (qa 0), .int (iI qbc), .ref (qa 1), .int (iI qll), .ref (qa 2), .ref (qa 3), .int (iI n_n), .int (iI qfp), .ref (qa 4), .ref (qa 5), .ref (qa 6), .ref (qa 7), .ref (qa 8), .ref (qa 9)])), (qa 3, .inl (kA 0, 10, .inl (aI (va_up vf n.toNat r))))] H := hP
          have hD : va_D A [(qo, .inr (0, [.ref (qa 0), .int (iI qbc), .ref (qa 1), .int (iI qll), .ref (qa 2), .ref (qa 3), .int (iI n_n), .int (iI qfp), .ref (qa 4), .ref (qa 5), .ref (qa 6), .ref (qa 7), .ref (qa 8), .ref (qa 9)])), (qa 3, .inl (kA 0, 10, .inl (aI (va_up vf n.toNat r))))] := hD
          obtain ⟨r_n, er_n⟩ : ∃ y_9 : Int, y_9 = r + 1 := ⟨_, rfl⟩
          refine lv_iinc (v := iI r_n) (lv' := [(2, .int (iI r_n)), (0, .ref qo), (1, .int (iI v))]) hx hb d_Q_keepFound_45 hl (k := 0) rfl (by rw [er_n]; exact iI_add _ _) (by decide) rfl (fun ls hl => ?_)
          refine lv_goto (tgt := 7) hx hb d_Q_keepFound_48 (by decide) ?_
          exact ih_7 r_n n_n (va_up vf n.toNat r) (by omega) (by first | (rw [er_n, en_n]; exact hres) | (rw [er_n]; exact hres)) (by omega) _ _ hP hD hS _ (lv_sub hl [0, 1, 2] rfl)
  exact K_7 ((10 - (0 : Int)).toNat + 1) 0 0 uf (by omega) (by rfl) (Nat.lt_succ_self _) _ _ hP hD hS _ (lv_sub hl [0, 1, 2] rfl)
theorem d_Q_leastFreeNumber_0 : decode b_Q_leastFreeNumber 0 = .ok (.iconst 0, 1) := by decide +kernel
theorem d_Q_leastFreeNumber_1 : decode b_Q_leastFreeNumber 1 = .ok (.istore_n 1, 1) := by decide +kernel
theorem d_Q_leastFreeNumber_2 : decode b_Q_leastFreeNumber 2 = .ok (.iload_n 1, 1) := by decide +kernel
theorem d_Q_leastFreeNumber_3 : decode b_Q_leastFreeNumber 3 = .ok (.aload_n 0, 1) := by decide +kernel
theorem d_Q_leastFreeNumber_4 : decode b_Q_leastFreeNumber 4 = .ok (.getfield 18, 3) := by decide +kernel
theorem d_Q_leastFreeNumber_7 : decode b_Q_leastFreeNumber 7 = .ok (.arraylength, 1) := by decide +kernel
theorem d_Q_leastFreeNumber_8 : decode b_Q_leastFreeNumber 8 = .ok (.if_icmp .ge 20, 3) := by decide +kernel
theorem d_Q_leastFreeNumber_11 : decode b_Q_leastFreeNumber 11 = .ok (.aload_n 0, 1) := by decide +kernel
theorem d_Q_leastFreeNumber_12 : decode b_Q_leastFreeNumber 12 = .ok (.getfield 18, 3) := by decide +kernel
theorem d_Q_leastFreeNumber_15 : decode b_Q_leastFreeNumber 15 = .ok (.iload_n 1, 1) := by decide +kernel
theorem d_Q_leastFreeNumber_16 : decode b_Q_leastFreeNumber 16 = .ok (.aaload, 1) := by decide +kernel
theorem d_Q_leastFreeNumber_17 : decode b_Q_leastFreeNumber 17 = .ok (.ifnonnull 5, 3) := by decide +kernel
theorem d_Q_leastFreeNumber_20 : decode b_Q_leastFreeNumber 20 = .ok (.iload_n 1, 1) := by decide +kernel
theorem d_Q_leastFreeNumber_21 : decode b_Q_leastFreeNumber 21 = .ok (.ireturn, 1) := by decide +kernel
theorem d_Q_leastFreeNumber_22 : decode b_Q_leastFreeNumber 22 = .ok (.iinc 1 1, 3) := by decide +kernel
theorem d_Q_leastFreeNumber_25 : decode b_Q_leastFreeNumber 25 = .ok (.goto (-23), 3) := by decide +kernel
theorem d_Q_leastFreeNumber_28 : decode b_Q_leastFreeNumber 28 = .ok (.iconst (-1), 1) := by decide +kernel
theorem d_Q_leastFreeNumber_29 : decode b_Q_leastFreeNumber 29 = .ok (.ireturn, 1) := by decide +kernel
set_option maxHeartbeats 4000000 in
set_option maxRecDepth 100000 in
theorem c_Q_leastFreeNumber (l : Launch) (dC : Nat → ClassId) (dI : Nat → Nat → Nat) (kA : Nat → ClassId) (qo : Nat) (qa : Nat → Nat) (qbc : Int) (qll : Int) (qfc : Int) (qfp : Int) (hd : Nat → Option HD)  : Met l y_Q_leastFreeNumber (wsy y_Q_leastFreeNumber b_Q_leastFreeNumber 2 (some .int)) (rmd 0 0 0) (li_Pr (dC, dI) CL (TY kA) [.ref qo] (fun h => va_P (dC, dI) CL [(qo, .inr (0, [.ref (qa 0), .int (iI qbc), .ref (qa 1), .int (iI qll), .ref (qa 2), .ref (qa 3), .int (iI qfc), .int (iI qfp), .ref (qa 4), .ref (qa 5), .ref (qa 6), .ref (qa 7), .ref (qa 8), .ref (qa 9)])), (qa 2, .inl (kA 4, 10, .inr (.inr (.inr (.inr (shO hd))))))] h ∧ ShR (dC, dI) kA hd h)) (k2_QcV (.int (iI (lfM hd)))) 0 0 (fun _ => False) := by
  refine li_mr (by decide) (Nat.le_of_ble_eq_true rfl) (by rfl) ?_
  intro p e s m args below meth c Q C hP hK hN hG fin ls hl
  obtain ⟨hx, hb, hr, hml, hown, hts, hlocks, hin⟩ := C
  have hown : s.vm.findClass R_Q = some m.cls := hown
  obtain ⟨hP, hSh⟩ := hP
  have hP : va_P (dC, dI) CL [(qo, .inr (0, [.ref (qa 0), .int (iI qbc), .ref (qa 1), .int (iI qll), .ref (qa 2), .ref (qa 3), .int (iI qfc), .int (iI qfp), .ref (qa 4), .ref (qa 5), .ref (qa 6), .ref (qa 7), .ref (qa 8), .ref (qa 9)])), (qa 2, .inl (kA 4, 10, .inr (.inr (.inr (.inr (shO hd))))))] s.heap := hP
  have hl : lv_has ls 2 [(0, .ref qo)] := hl
  have K_2 : ∀ (nn_2 : Nat) (r : Int), (0 ≤ r ∧ r ≤ 10) → (lfL hd (10 - r).toNat r = lfM hd) → ((10 - (r : Int)).toNat < nn_2) → ∀ ls : Array Slot, lv_has ls 2 [(0, .ref qo), (1, .int (iI r))] → W p l e (rmd 0 0 0) s m args below meth c s.heap [] 0 0 Q (F0 m 2 ls []) := by
    intro nn_2
    induction nn_2 with
    | zero => intro r hr9 hres hm; exact absurd hm (Nat.not_lt_zero _)
    | succ nn_2 ih_2 =>
      intro r hr9 hres hm_2 ls hl
      refine lv_iload_n hx hb d_Q_leastFreeNumber_2 rfl (lv_at hl 1 rfl) ?_
      refine lv_aload_n hx hb d_Q_leastFreeNumber_3 rfl (lv_at hl 0 rfl) ?_
      refine gf_Q_18 hx hb hts hown hK hP 0 rfl rfl d_Q_leastFreeNumber_4 ?_
      refine li_alen hx hb hK hP 1 4 rfl rfl d_Q_leastFreeNumber_7 ?_
      refine li_icmp_ge (tgt := 28) hx hb d_Q_leastFreeNumber_8 (by decide) (by omega) (by omega) (fun c1 => ?_) (fun c1 => ?_)
      · have _q := c1
        rw [show (10 - r).toNat = 0 by omega] at hres
        simp only [lfL] at hres
        refine lv_iconst (v := iI (-1)) hx hb d_Q_leastFreeNumber_28 rfl ?_
        exact fin _ _ _ (by first | exact hres | (rw [_q] at hres; exact hres)) d_Q_leastFreeNumber_29
      · have _q := c1
        rw [show (10 - r).toNat = (10 - (r + 1)).toNat + 1 by omega] at hres
        simp only [lfL] at hres
        refine lv_aload_n hx hb d_Q_leastFreeNumber_11 rfl (lv_at hl 0 rfl) ?_
        refine gf_Q_18 hx hb hts hown hK hP 0 rfl rfl d_Q_leastFreeNumber_12 ?_
        refine lv_iload_n hx hb d_Q_leastFreeNumber_15 rfl (lv_at hl 1 rfl) ?_
        refine li_ald hx hb hK hP 1 4 rfl rfl (by omega) (by omega) (by omega) d_Q_leastFreeNumber_16 ?_
        rcases hd2 : hd r.toNat with _ | dq
        · have _q := hd2
          refine li_rfN (shO_n hd2) ?_
          refine lv_ifnonnullN hx hb d_Q_leastFreeNumber_17 ?_
          refine lv_iload_n hx hb d_Q_leastFreeNumber_20 rfl (lv_at hl 1 rfl) ?_
          exact fin _ _ _ (by first | exact hres | (rw [_q] at hres; exact hres)) d_Q_leastFreeNumber_21
        · have _q := hd2
          refine li_rfS (a := dq.ho) (shO_s hd2) ?_
          have hR_dq := hSh r.toNat dq hd2
          refine lv_ifnonnull (tgt := 22) hx hb d_Q_leastFreeNumber_17 (by decide) ?_
          obtain ⟨r_n, er_n⟩ : ∃ y_9 : Int, y_9 = r + 1 := ⟨_, rfl⟩
          refine lv_iinc (v := iI r_n) (lv' := [(1, .int (iI r_n)), (0, .ref qo)]) hx hb d_Q_leastFreeNumber_22 hl (k := 1) rfl (by rw [er_n]; exact iI_add _ _) (by decide) rfl (fun ls hl => ?_)
          refine lv_goto (tgt := 2) hx hb d_Q_leastFreeNumber_25 (by decide) ?_
          exact ih_2 r_n (by omega) (by rw [er_n]; rw [_q] at hres; exact hres) (by omega) _ (lv_sub hl [1, 0] rfl)
  refine lv_iconst (v := iI 0) hx hb d_Q_leastFreeNumber_0 rfl ?_
  refine lv_istore_n (lv' := [(1, .int (iI 0)), (0, .ref qo)]) hx hb d_Q_leastFreeNumber_1 rfl hl (by decide) rfl (fun ls hl => ?_)
  exact K_2 ((10 - (0 : Int)).toNat + 1) 0 (by omega) (by rfl) (Nat.lt_succ_self _) _ (lv_sub hl [1, 0] rfl)

/-- kind, place, entries, base, id's end, field's end -/
def inR (tb : Nat → Int) (nb : Nat) (cn fp en bs ie fe : Int) : Int × Int × Int × Int × Int × Int :=
  if (ldR tb nb cn fp).1 = 0 then
    (if (enR tb nb cn (ldR tb nb cn fp).2 en bs).1 = 0 then
      (if (fdR tb nb cn (enR tb nb cn (ldR tb nb cn fp).2 en bs).2.1 (enR tb nb cn (ldR tb nb cn fp).2 en bs).2.2.1 (enR tb nb cn (ldR tb nb cn fp).2 en bs).2.2.2 ie).1 = 0 then
        ((ndR tb cn (fdR tb nb cn (enR tb nb cn (ldR tb nb cn fp).2 en bs).2.1 (enR tb nb cn (ldR tb nb cn fp).2 en bs).2.2.1 (enR tb nb cn (ldR tb nb cn fp).2 en bs).2.2.2 ie).2.1 (fdR tb nb cn (enR tb nb cn (ldR tb nb cn fp).2 en bs).2.1 (enR tb nb cn (ldR tb nb cn fp).2 en bs).2.2.1 (enR tb nb cn (ldR tb nb cn fp).2 en bs).2.2.2 ie).2.2.2).1,
         (ndR tb cn (fdR tb nb cn (enR tb nb cn (ldR tb nb cn fp).2 en bs).2.1 (enR tb nb cn (ldR tb nb cn fp).2 en bs).2.2.1 (enR tb nb cn (ldR tb nb cn fp).2 en bs).2.2.2 ie).2.1 (fdR tb nb cn (enR tb nb cn (ldR tb nb cn fp).2 en bs).2.1 (enR tb nb cn (ldR tb nb cn fp).2 en bs).2.2.1 (enR tb nb cn (ldR tb nb cn fp).2 en bs).2.2.2 ie).2.2.2).2,
         (enR tb nb cn (ldR tb nb cn fp).2 en bs).2.2.1, (enR tb nb cn (ldR tb nb cn fp).2 en bs).2.2.2, (fdR tb nb cn (enR tb nb cn (ldR tb nb cn fp).2 en bs).2.1 (enR tb nb cn (ldR tb nb cn fp).2 en bs).2.2.1 (enR tb nb cn (ldR tb nb cn fp).2 en bs).2.2.2 ie).2.2.1, (fdR tb nb cn (enR tb nb cn (ldR tb nb cn fp).2 en bs).2.1 (enR tb nb cn (ldR tb nb cn fp).2 en bs).2.2.1 (enR tb nb cn (ldR tb nb cn fp).2 en bs).2.2.2 ie).2.2.2)
       else ((fdR tb nb cn (enR tb nb cn (ldR tb nb cn fp).2 en bs).2.1 (enR tb nb cn (ldR tb nb cn fp).2 en bs).2.2.1 (enR tb nb cn (ldR tb nb cn fp).2 en bs).2.2.2 ie).1, (fdR tb nb cn (enR tb nb cn (ldR tb nb cn fp).2 en bs).2.1 (enR tb nb cn (ldR tb nb cn fp).2 en bs).2.2.1 (enR tb nb cn (ldR tb nb cn fp).2 en bs).2.2.2 ie).2.1, (enR tb nb cn (ldR tb nb cn fp).2 en bs).2.2.1, (enR tb nb cn (ldR tb nb cn fp).2 en bs).2.2.2, (fdR tb nb cn (enR tb nb cn (ldR tb nb cn fp).2 en bs).2.1 (enR tb nb cn (ldR tb nb cn fp).2 en bs).2.2.1 (enR tb nb cn (ldR tb nb cn fp).2 en bs).2.2.2 ie).2.2.1, (fdR tb nb cn (enR tb nb cn (ldR tb nb cn fp).2 en bs).2.1 (enR tb nb cn (ldR tb nb cn fp).2 en bs).2.2.1 (enR tb nb cn (ldR tb nb cn fp).2 en bs).2.2.2 ie).2.2.2))
    else ((enR tb nb cn (ldR tb nb cn fp).2 en bs).1, (enR tb nb cn (ldR tb nb cn fp).2 en bs).2.1, (enR tb nb cn (ldR tb nb cn fp).2 en bs).2.2.1, (enR tb nb cn (ldR tb nb cn fp).2 en bs).2.2.2, ie, fe))
  else ((ldR tb nb cn fp).1, (ldR tb nb cn fp).2, en, bs, ie, fe)
theorem ldR_ok {nb : Nat} {tb : Nat → Int} {cn fp : Int} (h : (ldR tb nb cn fp).1 = 0) : 24 ≤ cn := by
  unfold ldR at h
  split at h
  · simp at h
  · have h1 := ldL_r tb cn 24 0
    rcases ldL_cn (nb := nb) (tb := tb) (cn := cn) 24 0 (by omega) (by omega) with h2 | h2 <;> omega
theorem enR_ok {nb : Nat} {tb : Nat → Int} {cn fp en bs : Int} (hc : 24 ≤ cn ∧ cn ≤ 1000) (h : (enR tb nb cn fp en bs).1 = 0) : (1 ≤ (enR tb nb cn fp en bs).2.2.2 ∧ (enR tb nb cn fp en bs).2.2.2 ≤ cn) ∧ 0 ≤ (enR tb nb cn fp en bs).2.2.1 ∧ (enR tb nb cn fp en bs).2.2.1 ≤ 81 := by
  have hr := enL_r (tb := tb) (cn := cn) (cn - 24).toNat 24 (by omega) (by omega)
  unfold enR enT at *
  rcases hr with h1 | ⟨h1, h2, h3, h4⟩
  · rw [if_pos h1] at h; simp at h
  · rw [if_neg (by rw [h1]; decide)] at h ⊢
    split
    · simp only; omega
    · simp only; omega

theorem d_I_inspect_0 : decode b_I_inspect 0 = .ok (.aload_n 0, 1) := by decide +kernel
theorem d_I_inspect_1 : decode b_I_inspect 1 = .ok (.aload_n 1, 1) := by decide +kernel
theorem d_I_inspect_2 : decode b_I_inspect 2 = .ok (.putfield 9, 3) := by decide +kernel
theorem d_I_inspect_5 : decode b_I_inspect 5 = .ok (.aload_n 0, 1) := by decide +kernel
theorem d_I_inspect_6 : decode b_I_inspect 6 = .ok (.iload_n 2, 1) := by decide +kernel
theorem d_I_inspect_7 : decode b_I_inspect 7 = .ok (.aload_n 1, 1) := by decide +kernel
theorem d_I_inspect_8 : decode b_I_inspect 8 = .ok (.arraylength, 1) := by decide +kernel
theorem d_I_inspect_9 : decode b_I_inspect 9 = .ok (.invokestatic 15, 3) := by decide +kernel
theorem d_I_inspect_12 : decode b_I_inspect 12 = .ok (.putfield 21, 3) := by decide +kernel
theorem d_I_inspect_15 : decode b_I_inspect 15 = .ok (.aload_n 0, 1) := by decide +kernel
theorem d_I_inspect_16 : decode b_I_inspect 16 = .ok (.invokevirtual 25, 3) := by decide +kernel
theorem d_I_inspect_19 : decode b_I_inspect 19 = .ok (.istore_n 3, 1) := by decide +kernel
theorem d_I_inspect_20 : decode b_I_inspect 20 = .ok (.iload_n 3, 1) := by decide +kernel
theorem d_I_inspect_21 : decode b_I_inspect 21 = .ok (.ifCond .ne 8, 3) := by decide +kernel
theorem d_I_inspect_24 : decode b_I_inspect 24 = .ok (.aload_n 0, 1) := by decide +kernel
theorem d_I_inspect_25 : decode b_I_inspect 25 = .ok (.invokevirtual 29, 3) := by decide +kernel
theorem d_I_inspect_28 : decode b_I_inspect 28 = .ok (.istore_n 3, 1) := by decide +kernel
theorem d_I_inspect_29 : decode b_I_inspect 29 = .ok (.iload_n 3, 1) := by decide +kernel
theorem d_I_inspect_30 : decode b_I_inspect 30 = .ok (.ifCond .ne 8, 3) := by decide +kernel
theorem d_I_inspect_33 : decode b_I_inspect 33 = .ok (.aload_n 0, 1) := by decide +kernel
theorem d_I_inspect_34 : decode b_I_inspect 34 = .ok (.invokevirtual 32, 3) := by decide +kernel
theorem d_I_inspect_37 : decode b_I_inspect 37 = .ok (.istore_n 3, 1) := by decide +kernel
theorem d_I_inspect_38 : decode b_I_inspect 38 = .ok (.iload_n 3, 1) := by decide +kernel
theorem d_I_inspect_39 : decode b_I_inspect 39 = .ok (.ifCond .ne 10, 3) := by decide +kernel
theorem d_I_inspect_42 : decode b_I_inspect 42 = .ok (.aload_n 0, 1) := by decide +kernel
theorem d_I_inspect_43 : decode b_I_inspect 43 = .ok (.invokevirtual 35, 3) := by decide +kernel
theorem d_I_inspect_46 : decode b_I_inspect 46 = .ok (.goto 4, 3) := by decide +kernel
theorem d_I_inspect_49 : decode b_I_inspect 49 = .ok (.iload_n 3, 1) := by decide +kernel
theorem d_I_inspect_50 : decode b_I_inspect 50 = .ok (.ireturn, 1) := by decide +kernel
set_option maxHeartbeats 4000000 in
set_option maxRecDepth 100000 in
theorem c_I_inspect (l : Launch) (dC : Nat → ClassId) (dI : Nat → Nat → Nat) (kA : Nat → ClassId) (sz : Nat) (io : Nat) (ba : Nat) (nb : Nat) (tb : Nat → Int) (cn : Int) (fp : Int) (en : Int) (bs : Int) (ie : Int) (fe : Int) (b0 : Nat) (c0 : Int) (hI : IR nb tb cn) : Met l y_I_inspect (wsy y_I_inspect b_I_inspect 4 (some .int)) (rmd 6 0 0) (li_Pr (dC, dI) CL (TY kA) [.ref io, .ref ba, .int (iI cn)] (fun h => h.size = sz ∧ va_P (dC, dI) CL [(io, .inr (3, [.ref b0, .int (iI c0), .int (iI fp), .int (iI en), .int (iI bs), .int (iI ie), .int (iI fe)]))] h ∧ va_D (fun q => dI 100 0 ≤ q) [(io, .inr (3, [.ref b0, .int (iI c0), .int (iI fp), .int (iI en), .int (iI bs), .int (iI ie), .int (iI fe)]))] ∧ (fun h => va_P (dC, dI) CL [(ba, .inl (kA 1, nb, .inl (aI tb)))] h ∧ Dsj [(ba, .inl (kA 1, nb, .inl (aI tb)))] [(io, .inr (3, [.ref b0, .int (iI c0), .int (iI fp), .int (iI en), .int (iI bs), .int (iI ie), .int (iI fe)]))]) h)) (li_Qw (S := Unit) (dC, dI) CL (fun _ => True) (fun _ => some (.int (iI ((inR tb nb cn fp en bs ie fe).1)))) (fun _ => [(io, .inr (3, [.ref ba, .int (iI cn), .int (iI ((inR tb nb cn fp en bs ie fe).2.1)), .int (iI ((inR tb nb cn fp en bs ie fe).2.2.1)), .int (iI ((inR tb nb cn fp en bs ie fe).2.2.2.1)), .int (iI ((inR tb nb cn fp en bs ie fe).2.2.2.2.1)), .int (iI ((inR tb nb cn fp en bs ie fe).2.2.2.2.2))]))]) (va_A [(io, .inr (3, [.ref b0, .int (iI c0), .int (iI fp), .int (iI en), .int (iI bs), .int (iI ie), .int (iI fe)]))] sz)) 0 0 (va_A [(io, .inr (3, [.ref b0, .int (iI c0), .int (iI fp), .int (iI en), .int (iI bs), .int (iI ie), .int (iI fe)]))] sz) := by
  refine li_mwi (r := fun _ => (inR tb nb cn fp en bs ie fe).1) (by decide) (Nat.le_of_ble_eq_true rfl) (fun _ _ => by rfl) ?_
  intro p e s m args below meth c Q A C hP hD hBx hK hN hG hA hAi hAN fin ls hl
  obtain ⟨hx, hb, hr, hml, hown, hts, hlocks, hin⟩ := C
  have hown : s.vm.findClass R_I = some m.cls := hown
  obtain ⟨hRo, hDj⟩ := hBx
  have hRo : va_P (dC, dI) CL [(ba, .inl (kA 1, nb, .inl (aI tb)))] s.heap := hRo
  have hRoN := li_roN (A := A) hRo hDj hAi
  have hl : lv_has ls 4 [(0, .ref io), (1, .ref ba), (2, .int (iI cn))] := hl
  obtain ⟨hnb, hcn, htb⟩ := id hI
  suffices h9 : ∀ (H : Heap) (locs : List Loc), H = s.heap → locs = [] → W p l e (rmd 6 0 0) s m args below meth c H locs 0 0 Q (F0 m 0 ls []) from h9 _ _ rfl rfl
  intro H locs eH eL
  have hP : va_P (dC, dI) CL [(io, .inr (3, [.ref b0, .int (iI c0), .int (iI fp), .int (iI en), .int (iI bs), .int (iI ie), .int (iI fe)]))] H := by rw [eH]; exact hP
  have hS : va_S A s.heap H locs := by rw [eH, eL]; exact va_S.rf
  refine lv_aload_n hx hb d_I_inspect_0 rfl (lv_at hl 0 rfl) ?_
  refine lv_aload_n hx hb d_I_inspect_1 rfl (lv_at hl 1 rfl) ?_
  refine pf_I_9 hx hb hts hown hK hP hD hS 0 rfl (Nat.le_of_ble_eq_true rfl) d_I_inspect_2 (fun H locs hP hD hS => ?_)
  have hP : va_P (dC, dI) CL [(io, .inr (3, [.ref ba, .int (iI c0), .int (iI fp), .int (iI en), .int (iI bs), .int (iI ie), .int (iI fe)]))] H := hP
  have hD : va_D A [(io, .inr (3, [.ref ba, .int (iI c0), .int (iI fp), .int (iI en), .int (iI bs), .int (iI ie), .int (iI fe)]))] := hD
  refine lv_aload_n hx hb d_I_inspect_5 rfl (lv_at hl 0 rfl) ?_
  refine lv_iload_n hx hb d_I_inspect_6 rfl (lv_at hl 2 rfl) ?_
  refine lv_aload_n hx hb d_I_inspect_7 rfl (lv_at hl 1 rfl) ?_
  refine li_alen hx hb hK (li_ro hRo hRoN hS) 0 1 rfl rfl d_I_inspect_8 ?_
  refine li_mmin hx hb (hml.trans hl.1.symm) hown (hts (Cond.methodLink R_I 15 Lib.Math.min.name) (tk2 84 rfl rfl)) (hts (Cond.static Lib.Math.min.name) (tk2 85 rfl rfl)) (hts (Cond.initialized "java/lang/Math") (tk1 8 rfl rfl)) (hts (Cond.code Lib.Math.min.name Lib.Math.min.code 2 (some .int)) (tk2 86 rfl rfl)) (Nat.le_of_ble_eq_true rfl) (Nat.le_of_ble_eq_true rfl) (by show 0 ≤ 0; omega) (by show 0 ≤ 0; omega) (by omega) (by omega) d_I_inspect_9 ?_
  refine li_nm (fun cm ecm => ?_)
  refine pf_I_21 hx hb hts hown hK hP hD hS 0 rfl (Nat.le_of_ble_eq_true rfl) d_I_inspect_12 (fun H locs hP hD hS => ?_)
  have hP : va_P (dC, dI) CL [(io, .inr (3, [.ref ba, .int (iI cm), .int (iI fp), .int (iI en), .int (iI bs), .int (iI ie), .int (iI fe)]))] H := hP
  have hD : va_D A [(io, .inr (3, [.ref ba, .int (iI cm), .int (iI fp), .int (iI en), .int (iI bs), .int (iI ie), .int (iI fe)]))] := hD
  have ecm2 : cn = cm := by omega
  subst ecm2
  have hP : va_P (dC, dI) CL [(io, .inr (3, [.ref ba, .int (iI cn), .int (iI fp), .int (iI en), .int (iI bs), .int (iI ie), .int (iI fe)]))] H := hP
  have hD : va_D A [(io, .inr (3, [.ref ba, .int (iI cn), .int (iI fp), .int (iI en), .int (iI bs), .int (iI ie), .int (iI fe)]))] := hD
  refine lv_aload_n hx hb d_I_inspect_15 rfl (lv_at hl 0 rfl) ?_
  refine li_callw (wc := [(io, .inr (3, [.ref ba, .int (iI cn), .int (iI fp), .int (iI en), .int (iI bs), .int (iI ie), .int (iI fe)]))]) (wr := []) (va_runV (As := []) (rest := []) ⟨hx, hb, hml, hown, hts⟩ (c_I_leaderFault l dC dI kA H.size io ba nb tb cn fp en bs ie fe (by exact hI)) (cw_I_25 hts rfl rfl ⟨Nat.le_of_ble_eq_true rfl, Nat.le_of_ble_eq_true rfl⟩) (li_preV (va_recv hK hP (ci := 3) (q0 := 0) rfl rfl) ⟨rfl, hP.sub [0] rfl, (hD.sub [0] (by decide) rfl).weaken (fun _ _ _ h => hAN _ h), ((li_ro hRo hRoN hS).sub [0] rfl), (dj_cons (dj_r (hRoN 0 _ rfl) hD [0] rfl) dj_nil)⟩ hK hN (hG.go hS hAN)) rfl rfl hl.1 rfl (lv_room (Nat.le_of_ble_eq_true rfl)) d_I_inspect_16 ⟨(by show 0 + 0 ≤ 0; omega), (by show 0 + 0 ≤ 0; omega)⟩) hP hD hS hA [0] [] rfl rfl (by decide) (by decide) (fun u1 H locs hu1 hP hD hS _hk => ?_)
  have hP : va_P (dC, dI) CL [(io, .inr (3, [.ref ba, .int (iI cn), .int (iI ((ldR tb nb cn fp).2)), .int (iI en), .int (iI bs), .int (iI ie), .int (iI fe)]))] H := hP
  have hD : va_D A [(io, .inr (3, [.ref ba, .int (iI cn), .int (iI ((ldR tb nb cn fp).2)), .int (iI en), .int (iI bs), .int (iI ie), .int (iI fe)]))] := hD
  refine li_nm (fun r1 er1 => ?_)
  refine lv_istore_n (lv' := [(3, .int (iI r1)), (0, .ref io), (1, .ref ba), (2, .int (iI cn))]) hx hb d_I_inspect_19 rfl hl (by decide) rfl (fun ls hl => ?_)
  have k1 := ldR_k (tb := tb) (nb := nb) (cn := cn) (fp := fp)
  refine lv_iload_n hx hb d_I_inspect_20 rfl (lv_at hl 0 rfl) ?_
  refine li_if_ne (tgt := 29) hx hb d_I_inspect_21 (by decide) (by omega) (fun c2 => ?_) (fun c2 => ?_)
  · have _q := c2
    have g1 : ¬ (ldR tb nb cn fp).1 = 0 := by rw [← er1]; assumption
    refine lv_iload_n hx hb d_I_inspect_29 rfl (lv_at hl 0 rfl) ?_
    refine li_if_ne (tgt := 38) hx hb d_I_inspect_30 (by decide) (by omega) (fun c3 => ?_) (fun c3 => ?_)
    · have _q := c3
      refine lv_iload_n hx hb d_I_inspect_38 rfl (lv_at hl 0 rfl) ?_
      refine li_if_ne (tgt := 49) hx hb d_I_inspect_39 (by decide) (by omega) (fun c4 => ?_) (fun c4 => ?_)
      · have _q := c4
        refine lv_iload_n hx hb d_I_inspect_49 rfl (lv_at hl 0 rfl) ?_
        exact fin () _ _ _ _ _ (by unfold inR; first | (rw [if_pos g1, if_pos g2, if_pos g4]; done) | (rw [if_neg g1]; exact er1) | (rw [if_pos g1, if_neg (by rw [← er2]; assumption)]; exact er2) | (rw [if_pos g1, if_pos g2, if_neg (by rw [← er3]; assumption)]; exact er3)) (by trivial) (by unfold inR; first | (rw [if_pos g1, if_pos g2, if_pos g4]; exact hP) | (rw [if_neg g1]; exact hP) | (rw [if_pos g1, if_neg (by rw [← er2]; assumption)]; exact hP) | (rw [if_pos g1, if_pos g2, if_neg (by rw [← er3]; assumption)]; exact hP)) (by unfold inR; first | (rw [if_pos g1, if_pos g2, if_pos g4]; exact hD) | (rw [if_neg g1]; exact hD) | (rw [if_pos g1, if_neg (by rw [← er2]; assumption)]; exact hD) | (rw [if_pos g1, if_pos g2, if_neg (by rw [← er3]; assumption)]; exact hD)) hS d_I_inspect_50
      · have _q := c4
        exact absurd c4 (by omega)
    · have _q := c3
      exact absurd c3 (by omega)
  · have _q := c2
    have g1 : (ldR tb nb cn fp).1 = 0 := by rw [← er1]; assumption
    have g24 := ldR_ok g1
    refine lv_aload_n hx hb d_I_inspect_24 rfl (lv_at hl 1 rfl) ?_
    refine li_callw (wc := [(io, .inr (3, [.ref ba, .int (iI cn), .int (iI ((ldR tb nb cn fp).2)), .int (iI en), .int (iI bs), .int (iI ie), .int (iI fe)]))]) (wr := []) (va_runV (As := []) (rest := []) ⟨hx, hb, hml, hown, hts⟩ (c_I_entriesFault l dC dI kA H.size io ba nb tb cn ((ldR tb nb cn fp).2) en bs ie fe (by exact hI) (by exact g24)) (cw_I_29 hts rfl rfl ⟨Nat.le_of_ble_eq_true rfl, Nat.le_of_ble_eq_true rfl⟩) (li_preV (va_recv hK hP (ci := 3) (q0 := 0) rfl rfl) ⟨rfl, hP.sub [0] rfl, (hD.sub [0] (by decide) rfl).weaken (fun _ _ _ h => hAN _ h), ((li_ro hRo hRoN hS).sub [0] rfl), (dj_cons (dj_r (hRoN 0 _ rfl) hD [0] rfl) dj_nil)⟩ hK hN (hG.go hS hAN)) rfl rfl hl.1 rfl (lv_room (Nat.le_of_ble_eq_true rfl)) d_I_inspect_25 ⟨(by show 0 + 0 ≤ 0; omega), (by show 0 + 0 ≤ 0; omega)⟩) hP hD hS hA [0] [] rfl rfl (by decide) (by decide) (fun u5 H locs hu5 hP hD hS _hk => ?_)
    have hP : va_P (dC, dI) CL [(io, .inr (3, [.ref ba, .int (iI cn), .int (iI ((enR tb nb cn ((ldR tb nb cn fp).2) en bs).2.1)), .int (iI ((enR tb nb cn ((ldR tb nb cn fp).2) en bs).2.2.1)), .int (iI ((enR tb nb cn ((ldR tb nb cn fp).2) en bs).2.2.2)), .int (iI ie), .int (iI fe)]))] H := hP
    have hD : va_D A [(io, .inr (3, [.ref ba, .int (iI cn), .int (iI ((enR tb nb cn ((ldR tb nb cn fp).2) en bs).2.1)), .int (iI ((enR tb nb cn ((ldR tb nb cn fp).2) en bs).2.2.1)), .int (iI ((enR tb nb cn ((ldR tb nb cn fp).2) en bs).2.2.2)), .int (iI ie), .int (iI fe)]))] := hD
    refine li_nm (fun r2 er2 => ?_)
    refine lv_istore_n (lv' := [(3, .int (iI r2)), (0, .ref io), (1, .ref ba), (2, .int (iI cn))]) hx hb d_I_inspect_28 rfl hl (by decide) rfl (fun ls hl => ?_)
    have k2 := enR_k (tb := tb) (nb := nb) (cn := cn) (fp := (ldR tb nb cn fp).2) (en := en) (bs := bs)
    refine lv_iload_n hx hb d_I_inspect_29 rfl (lv_at hl 0 rfl) ?_
    refine li_if_ne (tgt := 38) hx hb d_I_inspect_30 (by decide) (by omega) (fun c6 => ?_) (fun c6 => ?_)
    · have _q := c6
      refine lv_iload_n hx hb d_I_inspect_38 rfl (lv_at hl 0 rfl) ?_
      refine li_if_ne (tgt := 49) hx hb d_I_inspect_39 (by decide) (by omega) (fun c7 => ?_) (fun c7 => ?_)
      · have _q := c7
        refine lv_iload_n hx hb d_I_inspect_49 rfl (lv_at hl 0 rfl) ?_
        exact fin () _ _ _ _ _ (by unfold inR; first | (rw [if_pos g1, if_pos g2, if_pos g4]; done) | (rw [if_neg g1]; exact er1) | (rw [if_pos g1, if_neg (by rw [← er2]; assumption)]; exact er2) | (rw [if_pos g1, if_pos g2, if_neg (by rw [← er3]; assumption)]; exact er3)) (by trivial) (by unfold inR; first | (rw [if_pos g1, if_pos g2, if_pos g4]; exact hP) | (rw [if_neg g1]; exact hP) | (rw [if_pos g1, if_neg (by rw [← er2]; assumption)]; exact hP) | (rw [if_pos g1, if_pos g2, if_neg (by rw [← er3]; assumption)]; exact hP)) (by unfold inR; first | (rw [if_pos g1, if_pos g2, if_pos g4]; exact hD) | (rw [if_neg g1]; exact hD) | (rw [if_pos g1, if_neg (by rw [← er2]; assumption)]; exact hD) | (rw [if_pos g1, if_pos g2, if_neg (by rw [← er3]; assumption)]; exact hD)) hS d_I_inspect_50
      · have _q := c7
        exact absurd c7 (by omega)
    · have _q := c6
      have g2 : (enR tb nb cn (ldR tb nb cn fp).2 en bs).1 = 0 := by first | (rw [← er2]; assumption) | (exfalso; omega)
      have g3 := enR_ok (by omega) g2
      refine lv_aload_n hx hb d_I_inspect_33 rfl (lv_at hl 1 rfl) ?_
      refine li_callw (wc := [(io, .inr (3, [.ref ba, .int (iI cn), .int (iI ((enR tb nb cn ((ldR tb nb cn fp).2) en bs).2.1)), .int (iI ((enR tb nb cn ((ldR tb nb cn fp).2) en bs).2.2.1)), .int (iI ((enR tb nb cn ((ldR tb nb cn fp).2) en bs).2.2.2)), .int (iI ie), .int (iI fe)]))]) (wr := []) (va_runV (As := []) (rest := []) ⟨hx, hb, hml, hown, hts⟩ (c_I_fieldsFault l dC dI kA H.size io ba nb tb cn ((enR tb nb cn ((ldR tb nb cn fp).2) en bs).2.1) ((enR tb nb cn ((ldR tb nb cn fp).2) en bs).2.2.1) ((enR tb nb cn ((ldR tb nb cn fp).2) en bs).2.2.2) ie fe (by exact hI) (by exact g3.1) (by exact g3.2)) (cw_I_32 hts rfl rfl ⟨Nat.le_of_ble_eq_true rfl, Nat.le_of_ble_eq_true rfl⟩) (li_preV (va_recv hK hP (ci := 3) (q0 := 0) rfl rfl) ⟨rfl, hP.sub [0] rfl, (hD.sub [0] (by decide) rfl).weaken (fun _ _ _ h => hAN _ h), ((li_ro hRo hRoN hS).sub [0] rfl), (dj_cons (dj_r (hRoN 0 _ rfl) hD [0] rfl) dj_nil)⟩ hK hN (hG.go hS hAN)) rfl rfl hl.1 rfl (lv_room (Nat.le_of_ble_eq_true rfl)) d_I_inspect_34 ⟨(by show 0 + 0 ≤ 0; omega), (by show 0 + 0 ≤ 0; omega)⟩) hP hD hS hA [0] [] rfl rfl (by decide) (by decide) (fun u8 H locs hu8 hP hD hS _hk => ?_)
      have hP : va_P (dC, dI) CL [(io, .inr (3, [.ref ba, .int (iI cn), .int (iI ((fdR tb nb cn ((enR tb nb cn ((ldR tb nb cn fp).2) en bs).2.1) ((enR tb nb cn ((ldR tb nb cn fp).2) en bs).2.2.1) ((enR tb nb cn ((ldR tb nb cn fp).2) en bs).2.2.2) ie).2.1)), .int (iI ((enR tb nb cn ((ldR tb nb cn fp).2) en bs).2.2.1)), .int (iI ((enR tb nb cn ((ldR tb nb cn fp).2) en bs).2.2.2)), .int (iI ((fdR tb nb cn ((enR tb nb cn ((ldR tb nb cn fp).2) en bs).2.1) ((enR tb nb cn ((ldR tb nb cn fp).2) en bs).2.2.1) ((enR tb nb cn ((ldR tb nb cn fp).2) en bs).2.2.2) ie).2.2.1)), .int (iI ((fdR tb nb cn ((enR tb nb cn ((ldR tb nb cn fp).2) en bs).2.1) ((enR tb nb cn ((ldR tb nb cn fp).2) en bs).2.2.1) ((enR tb nb cn ((ldR tb nb cn fp).2) en bs).2.2.2) ie).2.2.2))]))] H := hP
      have hD : va_D A [(io, .inr (3, [.ref ba, .int (iI cn), .int (iI ((fdR tb nb cn ((enR tb nb cn ((ldR tb nb cn fp).2) en bs).2.1) ((enR tb nb cn ((ldR tb nb cn fp).2) en bs).2.2.1) ((enR tb nb cn ((ldR tb nb cn fp).2) en bs).2.2.2) ie).2.1)), .int (iI ((enR tb nb cn ((ldR tb nb cn fp).2) en bs).2.2.1)), .int (iI ((enR tb nb cn ((ldR tb nb cn fp).2) en bs).2.2.2)), .int (iI ((fdR tb nb cn ((enR tb nb cn ((ldR tb nb cn fp).2) en bs).2.1) ((enR tb nb cn ((ldR tb nb cn fp).2) en bs).2.2.1) ((enR tb nb cn ((ldR tb nb cn fp).2) en bs).2.2.2) ie).2.2.1)), .int (iI ((fdR tb nb cn ((enR tb nb cn ((ldR tb nb cn fp).2) en bs).2.1) ((enR tb nb cn ((ldR tb nb cn fp).2) en bs).2.2.1) ((enR tb nb cn ((ldR tb nb cn fp).2) en bs).2.2.2) ie).2.2.2))]))] := hD
      refine li_nm (fun r3 er3 => ?_)
      refine lv_istore_n (lv' := [(3, .int (iI r3)), (0, .ref io), (1, .ref ba), (2, .int (iI cn))]) hx hb d_I_inspect_37 rfl hl (by decide) rfl (fun ls hl => ?_)
      have k3 := fdL_k (tb := tb) (nb := nb) (cn := cn) (bs := (enR tb nb cn (ldR tb nb cn fp).2 en bs).2.2.2) (enR tb nb cn (ldR tb nb cn fp).2 en bs).2.2.1.toNat 0 ((enR tb nb cn (ldR tb nb cn fp).2 en bs).2.1, ie, (enR tb nb cn (ldR tb nb cn fp).2 en bs).2.2.2 - 1) (by omega) (by simp only; omega)
      have k4 : (-10 ≤ r3 ∧ r3 ≤ 0) ∧ 0 ≤ (fdR tb nb cn (enR tb nb cn (ldR tb nb cn fp).2 en bs).2.1 (enR tb nb cn (ldR tb nb cn fp).2 en bs).2.2.1 (enR tb nb cn (ldR tb nb cn fp).2 en bs).2.2.2 ie).2.2.2 ∧ (fdR tb nb cn (enR tb nb cn (ldR tb nb cn fp).2 en bs).2.1 (enR tb nb cn (ldR tb nb cn fp).2 en bs).2.2.1 (enR tb nb cn (ldR tb nb cn fp).2 en bs).2.2.2 ie).2.2.2 ≤ cn := by rw [er3]; exact k3
      refine lv_iload_n hx hb d_I_inspect_38 rfl (lv_at hl 0 rfl) ?_
      refine li_if_ne (tgt := 49) hx hb d_I_inspect_39 (by decide) (by omega) (fun c9 => ?_) (fun c9 => ?_)
      · have _q := c9
        refine lv_iload_n hx hb d_I_inspect_49 rfl (lv_at hl 0 rfl) ?_
        exact fin () _ _ _ _ _ (by unfold inR; first | (rw [if_pos g1, if_pos g2, if_pos g4]; done) | (rw [if_neg g1]; exact er1) | (rw [if_pos g1, if_neg (by rw [← er2]; assumption)]; exact er2) | (rw [if_pos g1, if_pos g2, if_neg (by rw [← er3]; assumption)]; exact er3)) (by trivial) (by unfold inR; first | (rw [if_pos g1, if_pos g2, if_pos g4]; exact hP) | (rw [if_neg g1]; exact hP) | (rw [if_pos g1, if_neg (by rw [← er2]; assumption)]; exact hP) | (rw [if_pos g1, if_pos g2, if_neg (by rw [← er3]; assumption)]; exact hP)) (by unfold inR; first | (rw [if_pos g1, if_pos g2, if_pos g4]; exact hD) | (rw [if_neg g1]; exact hD) | (rw [if_pos g1, if_neg (by rw [← er2]; assumption)]; exact hD) | (rw [if_pos g1, if_pos g2, if_neg (by rw [← er3]; assumption)]; exact hD)) hS d_I_inspect_50
      · have _q := c9
        have g4 : (fdR tb nb cn (enR tb nb cn (ldR tb nb cn fp).2 en bs).2.1 (enR tb nb cn (ldR tb nb cn fp).2 en bs).2.2.1 (enR tb nb cn (ldR tb nb cn fp).2 en bs).2.2.2 ie).1 = 0 := by first | (rw [← er3]; assumption) | (exfalso; omega)
        refine lv_aload_n hx hb d_I_inspect_42 rfl (lv_at hl 1 rfl) ?_
        refine li_callw (wc := [(io, .inr (3, [.ref ba, .int (iI cn), .int (iI ((fdR tb nb cn ((enR tb nb cn ((ldR tb nb cn fp).2) en bs).2.1) ((enR tb nb cn ((ldR tb nb cn fp).2) en bs).2.2.1) ((enR tb nb cn ((ldR tb nb cn fp).2) en bs).2.2.2) ie).2.1)), .int (iI ((enR tb nb cn ((ldR tb nb cn fp).2) en bs).2.2.1)), .int (iI ((enR tb nb cn ((ldR tb nb cn fp).2) en bs).2.2.2)), .int (iI ((fdR tb nb cn ((enR tb nb cn ((ldR tb nb cn fp).2) en bs).2.1) ((enR tb nb cn ((ldR tb nb cn fp).2) en bs).2.2.1) ((enR tb nb cn ((ldR tb nb cn fp).2) en bs).2.2.2) ie).2.2.1)), .int (iI ((fdR tb nb cn ((enR tb nb cn ((ldR tb nb cn fp).2) en bs).2.1) ((enR tb nb cn ((ldR tb nb cn fp).2) en bs).2.2.1) ((enR tb nb cn ((ldR tb nb cn fp).2) en bs).2.2.2) ie).2.2.2))]))]) (wr := []) (va_runV (As := []) (rest := []) ⟨hx, hb, hml, hown, hts⟩ (c_I_endFault l dC dI kA H.size io ba nb tb cn ((fdR tb nb cn ((enR tb nb cn ((ldR tb nb cn fp).2) en bs).2.1) ((enR tb nb cn ((ldR tb nb cn fp).2) en bs).2.2.1) ((enR tb nb cn ((ldR tb nb cn fp).2) en bs).2.2.2) ie).2.1) ((enR tb nb cn ((ldR tb nb cn fp).2) en bs).2.2.1) ((enR tb nb cn ((ldR tb nb cn fp).2) en bs).2.2.2) ((fdR tb nb cn ((enR tb nb cn ((ldR tb nb cn fp).2) en bs).2.1) ((enR tb nb cn ((ldR tb nb cn fp).2) en bs).2.2.1) ((enR tb nb cn ((ldR tb nb cn fp).2) en bs).2.2.2) ie).2.2.1) ((fdR tb nb cn ((enR tb nb cn ((ldR tb nb cn fp).2) en bs).2.1) ((enR tb nb cn ((ldR tb nb cn fp).2) en bs).2.2.1) ((enR tb nb cn ((ldR tb nb cn fp).2) en bs).2.2.2) ie).2.2.2) (by exact hI) (by omega)) (cw_I_35 hts rfl rfl ⟨Nat.le_of_ble_eq_true rfl, Nat.le_of_ble_eq_true rfl⟩) (li_preV (va_recv hK hP (ci := 3) (q0 := 0) rfl rfl) ⟨rfl, hP.sub [0] rfl, (hD.sub [0] (by decide) rfl).weaken (fun _ _ _ h => hAN _ h), ((li_ro hRo hRoN hS).sub [0] rfl), (dj_cons (dj_r (hRoN 0 _ rfl) hD [0] rfl) dj_nil)⟩ hK hN (hG.go hS hAN)) rfl rfl hl.1 rfl (lv_room (Nat.le_of_ble_eq_true rfl)) d_I_inspect_43 ⟨(by show 0 + 0 ≤ 0; omega), (by show 0 + 0 ≤ 0; omega)⟩) hP hD hS hA [0] [] rfl rfl (by decide) (by decide) (fun u10 H locs hu10 hP hD hS _hk => ?_)
        have hP : va_P (dC, dI) CL [(io, .inr (3, [.ref ba, .int (iI cn), .int (iI ((ndR tb cn ((fdR tb nb cn ((enR tb nb cn ((ldR tb nb cn fp).2) en bs).2.1) ((enR tb nb cn ((ldR tb nb cn fp).2) en bs).2.2.1) ((enR tb nb cn ((ldR tb nb cn fp).2) en bs).2.2.2) ie).2.1) ((fdR tb nb cn ((enR tb nb cn ((ldR tb nb cn fp).2) en bs).2.1) ((enR tb nb cn ((ldR tb nb cn fp).2) en bs).2.2.1) ((enR tb nb cn ((ldR tb nb cn fp).2) en bs).2.2.2) ie).2.2.2)).2)), .int (iI ((enR tb nb cn ((ldR tb nb cn fp).2) en bs).2.2.1)), .int (iI ((enR tb nb cn ((ldR tb nb cn fp).2) en bs).2.2.2)), .int (iI ((fdR tb nb cn ((enR tb nb cn ((ldR tb nb cn fp).2) en bs).2.1) ((enR tb nb cn ((ldR tb nb cn fp).2) en bs).2.2.1) ((enR tb nb cn ((ldR tb nb cn fp).2) en bs).2.2.2) ie).2.2.1)), .int (iI ((fdR tb nb cn ((enR tb nb cn ((ldR tb nb cn fp).2) en bs).2.1) ((enR tb nb cn ((ldR tb nb cn fp).2) en bs).2.2.1) ((enR tb nb cn ((ldR tb nb cn fp).2) en bs).2.2.2) ie).2.2.2))]))] H := hP
        have hD : va_D A [(io, .inr (3, [.ref ba, .int (iI cn), .int (iI ((ndR tb cn ((fdR tb nb cn ((enR tb nb cn ((ldR tb nb cn fp).2) en bs).2.1) ((enR tb nb cn ((ldR tb nb cn fp).2) en bs).2.2.1) ((enR tb nb cn ((ldR tb nb cn fp).2) en bs).2.2.2) ie).2.1) ((fdR tb nb cn ((enR tb nb cn ((ldR tb nb cn fp).2) en bs).2.1) ((enR tb nb cn ((ldR tb nb cn fp).2) en bs).2.2.1) ((enR tb nb cn ((ldR tb nb cn fp).2) en bs).2.2.2) ie).2.2.2)).2)), .int (iI ((enR tb nb cn ((ldR tb nb cn fp).2) en bs).2.2.1)), .int (iI ((enR tb nb cn ((ldR tb nb cn fp).2) en bs).2.2.2)), .int (iI ((fdR tb nb cn ((enR tb nb cn ((ldR tb nb cn fp).2) en bs).2.1) ((enR tb nb cn ((ldR tb nb cn fp).2) en bs).2.2.1) ((enR tb nb cn ((ldR tb nb cn fp).2) en bs).2.2.2) ie).2.2.1)), .int (iI ((fdR tb nb cn ((enR tb nb cn ((ldR tb nb cn fp).2) en bs).2.1) ((enR tb nb cn ((ldR tb nb cn fp).2) en bs).2.2.1) ((enR tb nb cn ((ldR tb nb cn fp).2) en bs).2.2.2) ie).2.2.2))]))] := hD
        refine lv_goto (tgt := 50) hx hb d_I_inspect_46 (by decide) ?_
        exact fin () _ _ _ _ _ (by unfold inR; first | (rw [if_pos g1, if_pos g2, if_pos g4]; done) | (rw [if_neg g1]; exact er1) | (rw [if_pos g1, if_neg (by rw [← er2]; assumption)]; exact er2) | (rw [if_pos g1, if_pos g2, if_neg (by rw [← er3]; assumption)]; exact er3)) (by trivial) (by unfold inR; first | (rw [if_pos g1, if_pos g2, if_pos g4]; exact hP) | (rw [if_neg g1]; exact hP) | (rw [if_pos g1, if_neg (by rw [← er2]; assumption)]; exact hP) | (rw [if_pos g1, if_pos g2, if_neg (by rw [← er3]; assumption)]; exact hP)) (by unfold inR; first | (rw [if_pos g1, if_pos g2, if_pos g4]; exact hD) | (rw [if_neg g1]; exact hD) | (rw [if_pos g1, if_neg (by rw [← er2]; assumption)]; exact hD) | (rw [if_pos g1, if_pos g2, if_neg (by rw [← er3]; assumption)]; exact hD)) hS d_I_inspect_50

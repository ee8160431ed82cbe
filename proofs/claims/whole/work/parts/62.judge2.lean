def cmC (vm : Nat → Bool) : Nat → Nat → Int
  | 0, _ => 0
  | k + 1, i => (if vm i = true then 1 else 0) + cmC vm k (i + 1)
def cmT (vm : Nat → Bool) : Int := cmC vm 100 0
theorem cmC_r (vm : Nat → Bool) : ∀ k i : Nat, 0 ≤ cmC vm k i ∧ cmC vm k i ≤ k := by
  intro k
  induction k with
  | zero => intro i; simp [cmC]
  | succ k ih => intro i; simp only [cmC]; have := ih (i + 1); split <;> omega
theorem cmC_W {vm : Nat → Bool} {ws : List (List Int)} {P : List Int → Bool} (h : ∀ k : Nat, k < 100 → vm k = (decide (k < ws.length) && P (ws.getD k []))) (hl : ws.length ≤ 100) : ∀ k i : Nat, i + k = 100 → cmC vm k i = (((ws.drop i).filter P).length : Int) := by
  intro k
  induction k with
  | zero => intro i hi; rw [List.drop_eq_nil_of_le (by omega)]; rfl
  | succ k ih =>
    intro i hi
    simp only [cmC]
    rw [ih (i + 1) (by omega), h i (by omega)]
    by_cases q : i < ws.length
    · rw [List.drop_eq_getElem_cons q, List.filter_cons, List.getD_eq_getElem?_getD, List.getElem?_eq_getElem q, decide_eq_true q, Bool.true_and]
      simp only [Option.getD_some]
      split
      · simp only [List.length_cons]; omega
      · omega
    · rw [List.drop_eq_nil_of_le (by omega), List.drop_eq_nil_of_le (by omega), decide_eq_false q]; rfl
def cdF (rel d y : Int) : Bool := if d = -1 ∨ y = -1 then false else if rel = 4 then decide (d < y) else if rel = 5 then decide (y < d) else if rel = 6 then decide (d ≤ y) else decide (y ≤ d)
def saW (t : Nat → Int) (tx : List (Int × Int)) (dt rel y : Int) (ws : List (List Int)) : Bool :=
  if 4 ≤ rel then cdF rel dt y else if ws.length = 0 then false else if rel = 0 then decide (0 < (ws.filter (thW t tx)).length) else if rel = 1 then decide ((ws.filter (thW t tx)).length = ws.length) else tx.any (fun q => ioW (decide (rel = 3)) ws (twF t q))
def saD (rel ix y : Int) (ws : List (List Int)) (d : HD) : Bool := saW d.t (txs d ix) (dateF d.t d.n d.ti d.ts d.te d.tc) rel y ws
theorem dtL_r {t : Nat → Int} {n : Nat} {ti ts te : Nat → Int} {tc : Int} (ht : ∀ j, 0 ≤ t j ∧ t j < 65536) : ∀ (k : Nat) (i : Int), -1 ≤ dtL t n ti ts te tc k i ∧ dtL t n ti ts te tc k i ≤ 9999 := by
  intro k
  induction k with
  | zero => intro i; simp [dtL]
  | succ k ih => intro i; simp only [dtL]; split; (exact yearF_r ht _ _); exact ih _
theorem dateF_r {t : Nat → Int} {n : Nat} {ti ts te : Nat → Int} {tc : Int} (ht : ∀ j, 0 ≤ t j ∧ t j < 65536) : -1 ≤ dateF t n ti ts te tc ∧ dateF t n ti ts te tc ≤ 9999 := dtL_r ht _ _
def anL (hd : Nat → Option HD) (rel ix y : Int) (ws : List (List Int)) : Nat → Int → Int → Int
  | 0, _, v => v
  | k + 1, r, v => anL hd rel ix y ws k (r + 1) (if (hd r.toNat).any (saD rel ix y ws) = true then orI v (shlI 1 r) else v)
def anM (hd : Nat → Option HD) (rel ix y : Int) (ws : List (List Int)) : Int := anL hd rel ix y ws 10 0 0
theorem adW_of {as ws : List (List Int)} (h : prW as ws = true) : adW as ws = true := by
  cases ws with
  | nil => exact h
  | cons w ws => simp only [adW]; rw [h]; rfl
theorem txL_e {ti ts te tl : Nat → Int} {tc ix : Int} {i : Int} (h0 : 0 ≤ i) (h1 : i < tc) : txL ti ts te tl tc ix (tc - i).toNat i = if txIn ti tc i ix = true then (txSt ts te tl tc i ix, txEn te tc i) :: txL ti ts te tl tc ix (tc - (i + 1)).toNat (i + 1) else txL ti ts te tl tc ix (tc - (i + 1)).toNat (i + 1) := by
  rw [show (tc - i).toNat = (tc - (i + 1)).toNat + 1 by omega]; rfl

theorem d_J_matchesFrom_0 : decode b_J_matchesFrom 0 = .ok (.iconst 0, 1) := by decide +kernel
theorem d_J_matchesFrom_1 : decode b_J_matchesFrom 1 = .ok (.istore_n 2, 1) := by decide +kernel
theorem d_J_matchesFrom_2 : decode b_J_matchesFrom 2 = .ok (.iload_n 2, 1) := by decide +kernel
theorem d_J_matchesFrom_3 : decode b_J_matchesFrom 3 = .ok (.aload_n 0, 1) := by decide +kernel
theorem d_J_matchesFrom_4 : decode b_J_matchesFrom 4 = .ok (.getfield 14, 3) := by decide +kernel
theorem d_J_matchesFrom_7 : decode b_J_matchesFrom 7 = .ok (.getfield 73, 3) := by decide +kernel
theorem d_J_matchesFrom_10 : decode b_J_matchesFrom 10 = .ok (.if_icmp .ge 22, 3) := by decide +kernel
theorem d_J_matchesFrom_13 : decode b_J_matchesFrom 13 = .ok (.aload_n 0, 1) := by decide +kernel
theorem d_J_matchesFrom_14 : decode b_J_matchesFrom 14 = .ok (.iload_n 2, 1) := by decide +kernel
theorem d_J_matchesFrom_15 : decode b_J_matchesFrom 15 = .ok (.iload_n 1, 1) := by decide +kernel
theorem d_J_matchesFrom_16 : decode b_J_matchesFrom 16 = .ok (.iload_n 2, 1) := by decide +kernel
theorem d_J_matchesFrom_17 : decode b_J_matchesFrom 17 = .ok (.iadd, 1) := by decide +kernel
theorem d_J_matchesFrom_18 : decode b_J_matchesFrom 18 = .ok (.invokevirtual 97, 3) := by decide +kernel
theorem d_J_matchesFrom_21 : decode b_J_matchesFrom 21 = .ok (.ifCond .ne 5, 3) := by decide +kernel
theorem d_J_matchesFrom_24 : decode b_J_matchesFrom 24 = .ok (.iconst 0, 1) := by decide +kernel
theorem d_J_matchesFrom_25 : decode b_J_matchesFrom 25 = .ok (.ireturn, 1) := by decide +kernel
theorem d_J_matchesFrom_26 : decode b_J_matchesFrom 26 = .ok (.iinc 2 1, 3) := by decide +kernel
theorem d_J_matchesFrom_29 : decode b_J_matchesFrom 29 = .ok (.goto (-27), 3) := by decide +kernel
theorem d_J_matchesFrom_32 : decode b_J_matchesFrom 32 = .ok (.iconst 1, 1) := by decide +kernel
theorem d_J_matchesFrom_33 : decode b_J_matchesFrom 33 = .ok (.ireturn, 1) := by decide +kernel
set_option maxHeartbeats 4000000 in
set_option maxRecDepth 100000 in
theorem c_J_matchesFrom (l : Launch) (dC : Nat → ClassId) (dI : Nat → Nat → Nat) (kA : Nat → ClassId) (sz : Nat) (jo : Nat) (wo : Nat) (wl : Nat) (wb : Nat) (we : Nat) (wn : Nat) (wk : Nat) (wz : Int) (lt : Nat → Int) (sb : Nat → Int) (se : Nat → Int) (wo2 : Nat) (wl2 : Nat) (wb2 : Nat) (we2 : Nat) (wn2 : Nat) (wk2 : Nat) (wz2 : Int) (lt2 : Nat → Int) (sb2 : Nat → Int) (se2 : Nat → Int) (jm : Nat) (jr : Nat) (jy : Int) (rc : Nat → Bool) (ws : List (List Int)) (ws2 : List (List Int)) (j : Int) (hW : WR wn wk wz lt sb se) (hW2 : WR wn2 wk2 wz2 lt2 sb2 se2) (hWL : WL ws wz lt sb se) (hWL2 : WL ws2 wz2 lt2 sb2 se2) (hw1 : wn ≤ 100) (hj : 0 ≤ j ∧ j + wz ≤ wz2) : Met l y_J_matchesFrom (wsy y_J_matchesFrom b_J_matchesFrom 3 (some .boolean)) (rmd 3 0 0) (li_Pr (dC, dI) CL (TY kA) [.ref jo, .int (iI j)] (fun h => h.size = sz ∧ va_P (dC, dI) CL [(jo, .inr (4, [.ref wo, .ref wo2, .ref jm, .ref jr, .int (iI jy)])), (jr, .inl (kA 2, 101, .inl (zI rc))), (wo, .inr (9, [.ref wl, .ref wb, .ref we, .int (iI wz)])), (wl, .inl (kA 1, wn, .inl (aI lt))), (wb, .inl (kA 0, wk, .inl (aI sb))), (we, .inl (kA 0, wk, .inl (aI se))), (wo2, .inr (9, [.ref wl2, .ref wb2, .ref we2, .int (iI wz2)])), (wl2, .inl (kA 1, wn2, .inl (aI lt2))), (wb2, .inl (kA 0, wk2, .inl (aI sb2))), (we2, .inl (kA 0, wk2, .inl (aI se2)))] h ∧ va_D (fun q => dI 100 0 ≤ q) [(jo, .inr (4, [.ref wo, .ref wo2, .ref jm, .ref jr, .int (iI jy)])), (jr, .inl (kA 2, 101, .inl (zI rc))), (wo, .inr (9, [.ref wl, .ref wb, .ref we, .int (iI wz)])), (wl, .inl (kA 1, wn, .inl (aI lt))), (wb, .inl (kA 0, wk, .inl (aI sb))), (we, .inl (kA 0, wk, .inl (aI se))), (wo2, .inr (9, [.ref wl2, .ref wb2, .ref we2, .int (iI wz2)])), (wl2, .inl (kA 1, wn2, .inl (aI lt2))), (wb2, .inl (kA 0, wk2, .inl (aI sb2))), (we2, .inl (kA 0, wk2, .inl (aI se2)))] ∧ (fun _ => True) h)) (li_Qw (S := (Nat → Bool)) (dC, dI) CL (fun _ => True) (fun u => some (.int (iI (bI (prW ws (ws2.drop j.toNat)))))) (fun u => [(jo, .inr (4, [.ref wo, .ref wo2, .ref jm, .ref jr, .int (iI jy)])), (jr, .inl (kA 2, 101, .inl (zI u))), (wo, .inr (9, [.ref wl, .ref wb, .ref we, .int (iI wz)])), (wl, .inl (kA 1, wn, .inl (aI lt))), (wb, .inl (kA 0, wk, .inl (aI sb))), (we, .inl (kA 0, wk, .inl (aI se))), (wo2, .inr (9, [.ref wl2, .ref wb2, .ref we2, .int (iI wz2)])), (wl2, .inl (kA 1, wn2, .inl (aI lt2))), (wb2, .inl (kA 0, wk2, .inl (aI sb2))), (we2, .inl (kA 0, wk2, .inl (aI se2)))]) (va_A [(jo, .inr (4, [.ref wo, .ref wo2, .ref jm, .ref jr, .int (iI jy)])), (jr, .inl (kA 2, 101, .inl (zI rc))), (wo, .inr (9, [.ref wl, .ref wb, .ref we, .int (iI wz)])), (wl, .inl (kA 1, wn, .inl (aI lt))), (wb, .inl (kA 0, wk, .inl (aI sb))), (we, .inl (kA 0, wk, .inl (aI se))), (wo2, .inr (9, [.ref wl2, .ref wb2, .ref we2, .int (iI wz2)])), (wl2, .inl (kA 1, wn2, .inl (aI lt2))), (wb2, .inl (kA 0, wk2, .inl (aI sb2))), (we2, .inl (kA 0, wk2, .inl (aI se2)))] sz)) 0 0 (va_A [(jo, .inr (4, [.ref wo, .ref wo2, .ref jm, .ref jr, .int (iI jy)])), (jr, .inl (kA 2, 101, .inl (zI rc))), (wo, .inr (9, [.ref wl, .ref wb, .ref we, .int (iI wz)])), (wl, .inl (kA 1, wn, .inl (aI lt))), (wb, .inl (kA 0, wk, .inl (aI sb))), (we, .inl (kA 0, wk, .inl (aI se))), (wo2, .inr (9, [.ref wl2, .ref wb2, .ref we2, .int (iI wz2)])), (wl2, .inl (kA 1, wn2, .inl (aI lt2))), (wb2, .inl (kA 0, wk2, .inl (aI sb2))), (we2, .inl (kA 0, wk2, .inl (aI se2)))] sz) := by
  refine li_mwi (r := fun (u : (Nat → Bool)) => bI (prW ws (ws2.drop j.toNat))) (by decide) (Nat.le_of_ble_eq_true rfl) (fun u _ => by exact li_narZ2 _) ?_
  intro p e s m args below meth c Q A C hP hD hBx hK hN hG hA hAi hAN fin ls hl
  obtain ⟨hx, hb, hr, hml, hown, hts, hlocks, hin⟩ := C
  have hown : s.vm.findClass R_J = some m.cls := hown
  have hl : lv_has ls 3 [(0, .ref jo), (1, .int (iI j))] := hl
  obtain ⟨hwn, hwk, hwz, hlt, hsb, hse⟩ := id hW
  obtain ⟨hwn2, hwk2, hwz2, hlt2, hsb2, hse2⟩ := id hW2
  have hlw := hWL.len
  have hlw2 := hWL2.len
  suffices h9 : ∀ (H : Heap) (locs : List Loc), H = s.heap → locs = [] → W p l e (rmd 3 0 0) s m args below meth c H locs 0 0 Q (F0 m 0 ls []) from h9 _ _ rfl rfl
  intro H locs eH eL
  have hP : va_P (dC, dI) CL [(jo, .inr (4, [.ref wo, .ref wo2, .ref jm, .ref jr, .int (iI jy)])), (jr, .inl (kA 2, 101, .inl (zI rc))), (wo, .inr (9, [.ref wl, .ref wb, .ref we, .int (iI wz)])), (wl, .inl (kA 1, wn, .inl (aI lt))), (wb, .inl (kA 0, wk, .inl (aI sb))), (we, .inl (kA 0, wk, .inl (aI se))), (wo2, .inr (9, [.ref wl2, .ref wb2, .ref we2, .int (iI wz2)])), (wl2, .inl (kA 1, wn2, .inl (aI lt2))), (wb2, .inl (kA 0, wk2, .inl (aI sb2))), (we2, .inl (kA 0, wk2, .inl (aI se2)))] H := by rw [eH]; exact hP
  have hS : va_S A s.heap H locs := by rw [eH, eL]; exact va_S.rf
  refine lv_iconst (v := iI 0) hx hb d_J_matchesFrom_0 rfl ?_
  refine lv_istore_n (lv' := [(2, .int (iI 0)), (0, .ref jo), (1, .int (iI j))]) hx hb d_J_matchesFrom_1 rfl hl (by decide) rfl (fun ls hl => ?_)
  have K_2 : ∀ (nn_2 : Nat) (i : Int) (vr : Nat → Bool), (0 ≤ i ∧ i ≤ wz) → (prW (ws.drop i.toNat) (ws2.drop (j + i).toNat) = prW ws (ws2.drop j.toNat)) → ((wz - i).toNat < nn_2) → ∀ (H : Heap) (locs : List Loc), va_P (dC, dI) CL [(jo, .inr (4, [.ref wo, .ref wo2, .ref jm, .ref jr, .int (iI jy)])), (jr, .inl (kA 2, 101, .inl (zI vr))), (wo, .inr (9, [.ref wl, .ref wb, .ref we, .int (iI wz)])), (wl, .inl (kA 1, wn, .inl (aI lt))), (wb, .inl (kA 0, wk, .inl (aI sb))), (we, .inl (kA 0, wk, .inl (aI se))), (wo2, .inr (9, [.ref wl2, .ref wb2, .ref we2, .int (iI wz2)])), (wl2, .inl (kA 1, wn2, .inl (aI lt2))), (wb2, .inl (kA 0, wk2, .inl (aI sb2))), (we2, .inl (kA 0, wk2, .inl (aI se2)))] H → va_D A [(jo, .inr (4, [.ref wo, .ref wo2, .ref jm, .ref jr, .int (iI jy)])), (jr, .inl (kA 2, 101, .inl (zI vr))), (wo, .inr (9, [.ref wl, .ref wb, .ref we, .int (iI wz)])), (wl, .inl (kA 1, wn, .inl (aI lt))), (wb, .inl (kA 0, wk, .inl (aI sb))), (we, .inl (kA 0, wk, .inl (aI se))), (wo2, .inr (9, [.ref wl2, .ref wb2, .ref we2, .int (iI wz2)])), (wl2, .inl (kA 1, wn2, .inl (aI lt2))), (wb2, .inl (kA 0, wk2, .inl (aI sb2))), (we2, .inl (kA 0, wk2, .inl (aI se2)))] → va_S A s.heap H locs → ∀ ls : Array Slot, lv_has ls 3 [(2, .int (iI i)), (0, .ref jo), (1, .int (iI j))] → W p l e (rmd 3 0 0) s m args below meth c H locs 0 0 Q (F0 m 2 ls []) := by
    intro nn_2
    induction nn_2 with
    | zero => intro i vr hi9 hres hm; exact absurd hm (Nat.not_lt_zero _)
    | succ nn_2 ih_2 =>
      intro i vr hi9 hres hm_2 H locs hP hD hS ls hl
      refine lv_iload_n hx hb d_J_matchesFrom_2 rfl (lv_at hl 0 rfl) ?_
      refine lv_aload_n hx hb d_J_matchesFrom_3 rfl (lv_at hl 1 rfl) ?_
      refine gf_J_14 hx hb hts hown hK hP 0 rfl rfl d_J_matchesFrom_4 ?_
      refine gf_J_73 hx hb hts hN hown hK hP 2 rfl rfl d_J_matchesFrom_7 ?_
      refine li_icmp_ge (tgt := 32) hx hb d_J_matchesFrom_10 (by decide) (by omega) (by omega) (fun c1 => ?_) (fun c1 => ?_)
      · have _q := c1
        rw [hWL.dropE (i := i) (by omega)] at hres
        simp only [prW] at hres
        refine lv_iconst (v := iI 1) hx hb d_J_matchesFrom_32 rfl ?_
        exact fin (vr) _ _ _ _ _ (by exact bI_t hres.symm) (by trivial) (by first | exact hP | (subst_vars; exact hP)) (by first | exact hD | (subst_vars; exact hD)) hS d_J_matchesFrom_33
      · have _q := c1
        rw [hWL.drop (i := i) (by omega) (by omega), hWL2.drop (i := j + i) (by omega) (by omega)] at hres
        simp only [prW] at hres
        refine lv_aload_n hx hb d_J_matchesFrom_13 rfl (lv_at hl 1 rfl) ?_
        refine lv_iload_n hx hb d_J_matchesFrom_14 rfl (lv_at hl 0 rfl) ?_
        refine lv_iload_n hx hb d_J_matchesFrom_15 rfl (lv_at hl 2 rfl) ?_
        refine lv_iload_n hx hb d_J_matchesFrom_16 rfl (lv_at hl 0 rfl) ?_
        refine li_iadd hx hb d_J_matchesFrom_17 ?_
        refine li_callw (wc := [(jo, .inr (4, [.ref wo, .ref wo2, .ref jm, .ref jr, .int (iI jy)])), (jr, .inl (kA 2, 101, .inl (zI vr))), (wo, .inr (9, [.ref wl, .ref wb, .ref we, .int (iI wz)])), (wl, .inl (kA 1, wn, .inl (aI lt))), (wb, .inl (kA 0, wk, .inl (aI sb))), (we, .inl (kA 0, wk, .inl (aI se))), (wo2, .inr (9, [.ref wl2, .ref wb2, .ref we2, .int (iI wz2)])), (wl2, .inl (kA 1, wn2, .inl (aI lt2))), (wb2, .inl (kA 0, wk2, .inl (aI sb2))), (we2, .inl (kA 0, wk2, .inl (aI se2)))]) (wr := []) (va_runV (As := [.int (iI i), .int (iI (j + i))]) (rest := []) ⟨hx, hb, hml, hown, hts⟩ (c_J_matches l dC dI kA H.size jo wo wl wb we wn wk wz lt sb se wo2 wl2 wb2 we2 wn2 wk2 wz2 lt2 sb2 se2 jm jr jy vr ws ws2 i (j + i) (by exact hW) (by exact hW2) (by exact hWL) (by exact hWL2) (by omega) (by omega) (by omega)) (cw_J_97 hts rfl rfl ⟨Nat.le_of_ble_eq_true rfl, Nat.le_of_ble_eq_true rfl⟩) (li_preV (va_recv hK hP (ci := 4) (q0 := 0) rfl rfl) ⟨rfl, hP.sub [0, 1, 2, 3, 4, 5, 6, 7, 8, 9] rfl, (hD.sub [0, 1, 2, 3, 4, 5, 6, 7, 8, 9] (by decide) rfl).weaken (fun _ _ _ h => hAN _ h), trivial⟩ hK hN (hG.go hS hAN)) rfl rfl hl.1 rfl (lv_room (Nat.le_of_ble_eq_true rfl)) d_J_matchesFrom_18 ⟨(by show 0 + 0 ≤ 0; omega), (by show 0 + 0 ≤ 0; omega)⟩) hP hD hS hA [0, 1, 2, 3, 4, 5, 6, 7, 8, 9] [] rfl rfl (by decide) (by decide) (fun f_r H locs hf_r hP hD hS _hk => ?_)
        have hP : va_P (dC, dI) CL [(jo, .inr (4, [.ref wo, .ref wo2, .ref jm, .ref jr, .int (iI jy)])), (jr, .inl (kA 2, 101, .inl (zI f_r))), (wo, .inr (9, [.ref wl, .ref wb, .ref we, .int (iI wz)])), (wl, .inl (kA 1, wn, .inl (aI lt))), (wb, .inl (kA 0, wk, .inl (aI sb))), (we, .inl (kA 0, wk, .inl (aI se))), (wo2, .inr (9, [.ref wl2, .ref wb2, .ref we2, .int (iI wz2)])), (wl2, .inl (kA 1, wn2, .inl (aI lt2))), (wb2, .inl (kA 0, wk2, .inl (aI sb2))), (we2, .inl (kA 0, wk2, .inl (aI se2)))] H := hP
        have hD : va_D A [(jo, .inr (4, [.ref wo, .ref wo2, .ref jm, .ref jr, .int (iI jy)])), (jr, .inl (kA 2, 101, .inl (zI f_r))), (wo, .inr (9, [.ref wl, .ref wb, .ref we, .int (iI wz)])), (wl, .inl (kA 1, wn, .inl (aI lt))), (wb, .inl (kA 0, wk, .inl (aI sb))), (we, .inl (kA 0, wk, .inl (aI se))), (wo2, .inr (9, [.ref wl2, .ref wb2, .ref we2, .int (iI wz2)])), (wl2, .inl (kA 1, wn2, .inl (aI lt2))), (wb2, .inl (kA 0, wk2, .inl (aI sb2))), (we2, .inl (kA 0, wk2, .inl (aI se2)))] := hD
        refine W.eq (g2 := F0 m 21 ls [.int (iI (bI (mtW (ws.getD i.toNat []) (ws2.getD (j + i).toNat []))))]) rfl ?_
        refine li_bnz (tgt := 26) hx hb d_J_matchesFrom_21 (by decide) (fun c3 => ?_) (fun c3 => ?_)
        · have _q := c3
          rw [show mtW (ws.getD i.toNat []) (ws2.getD (j + i).toNat []) = true by assumption, Bool.true_and] at hres
          obtain ⟨i_n, ei_n⟩ : ∃ y_9 : Int, y_9 = i + 1 := ⟨_, rfl⟩
          refine lv_iinc (v := iI i_n) (lv' := [(2, .int (iI i_n)), (0, .ref jo), (1, .int (iI j))]) hx hb d_J_matchesFrom_26 hl (k := 0) rfl (by rw [ei_n]; exact iI_add _ _) (by decide) rfl (fun ls hl => ?_)
          refine lv_goto (tgt := 2) hx hb d_J_matchesFrom_29 (by decide) ?_
          exact ih_2 i_n f_r (by omega) (by rw [ei_n, show j + (i + 1) = j + i + 1 by omega]; exact hres) (by omega) _ _ hP hD hS _ (lv_sub hl [0, 1, 2] rfl)
        · have _q := c3
          rw [show mtW (ws.getD i.toNat []) (ws2.getD (j + i).toNat []) = false by assumption, Bool.false_and] at hres
          refine lv_iconst (v := iI 0) hx hb d_J_matchesFrom_24 rfl ?_
          exact fin (f_r) _ _ _ _ _ (by exact bI_f hres.symm) (by trivial) (by first | exact hP | (subst_vars; exact hP)) (by first | exact hD | (subst_vars; exact hD)) hS d_J_matchesFrom_25
  exact K_2 ((wz - 0).toNat + 1) 0 rc (by omega) (by rw [Int.add_zero]; rfl) (Nat.lt_succ_self _) _ _ hP hD hS _ (lv_sub hl [0, 1, 2] rfl)
theorem d_J_meetText_0 : decode b_J_meetText 0 = .ok (.iconst 0, 1) := by decide +kernel
theorem d_J_meetText_1 : decode b_J_meetText 1 = .ok (.istore_n 1, 1) := by decide +kernel
theorem d_J_meetText_2 : decode b_J_meetText 2 = .ok (.iload_n 1, 1) := by decide +kernel
theorem d_J_meetText_3 : decode b_J_meetText 3 = .ok (.aload_n 0, 1) := by decide +kernel
theorem d_J_meetText_4 : decode b_J_meetText 4 = .ok (.getfield 14, 3) := by decide +kernel
theorem d_J_meetText_7 : decode b_J_meetText 7 = .ok (.getfield 73, 3) := by decide +kernel
theorem d_J_meetText_10 : decode b_J_meetText 10 = .ok (.if_icmp .ge 58, 3) := by decide +kernel
theorem d_J_meetText_13 : decode b_J_meetText 13 = .ok (.iload_n 1, 1) := by decide +kernel
theorem d_J_meetText_14 : decode b_J_meetText 14 = .ok (.aload_n 0, 1) := by decide +kernel
theorem d_J_meetText_15 : decode b_J_meetText 15 = .ok (.getfield 23, 3) := by decide +kernel
theorem d_J_meetText_18 : decode b_J_meetText 18 = .ok (.arraylength, 1) := by decide +kernel
theorem d_J_meetText_19 : decode b_J_meetText 19 = .ok (.if_icmp .ge 49, 3) := by decide +kernel
theorem d_J_meetText_22 : decode b_J_meetText 22 = .ok (.iconst 0, 1) := by decide +kernel
theorem d_J_meetText_23 : decode b_J_meetText 23 = .ok (.istore_n 2, 1) := by decide +kernel
theorem d_J_meetText_24 : decode b_J_meetText 24 = .ok (.iload_n 2, 1) := by decide +kernel
theorem d_J_meetText_25 : decode b_J_meetText 25 = .ok (.aload_n 0, 1) := by decide +kernel
theorem d_J_meetText_26 : decode b_J_meetText 26 = .ok (.getfield 20, 3) := by decide +kernel
theorem d_J_meetText_29 : decode b_J_meetText 29 = .ok (.getfield 73, 3) := by decide +kernel
theorem d_J_meetText_32 : decode b_J_meetText 32 = .ok (.if_icmp .ge 30, 3) := by decide +kernel
theorem d_J_meetText_35 : decode b_J_meetText 35 = .ok (.aload_n 0, 1) := by decide +kernel
theorem d_J_meetText_36 : decode b_J_meetText 36 = .ok (.getfield 23, 3) := by decide +kernel
theorem d_J_meetText_39 : decode b_J_meetText 39 = .ok (.iload_n 1, 1) := by decide +kernel
theorem d_J_meetText_40 : decode b_J_meetText 40 = .ok (.baload, 1) := by decide +kernel
theorem d_J_meetText_41 : decode b_J_meetText 41 = .ok (.ifCond .ne 21, 3) := by decide +kernel
theorem d_J_meetText_44 : decode b_J_meetText 44 = .ok (.aload_n 0, 1) := by decide +kernel
theorem d_J_meetText_45 : decode b_J_meetText 45 = .ok (.getfield 23, 3) := by decide +kernel
theorem d_J_meetText_48 : decode b_J_meetText 48 = .ok (.iload_n 1, 1) := by decide +kernel
theorem d_J_meetText_49 : decode b_J_meetText 49 = .ok (.aload_n 0, 1) := by decide +kernel
theorem d_J_meetText_50 : decode b_J_meetText 50 = .ok (.iload_n 1, 1) := by decide +kernel
theorem d_J_meetText_51 : decode b_J_meetText 51 = .ok (.iload_n 2, 1) := by decide +kernel
theorem d_J_meetText_52 : decode b_J_meetText 52 = .ok (.invokevirtual 97, 3) := by decide +kernel
theorem d_J_meetText_55 : decode b_J_meetText 55 = .ok (.bastore, 1) := by decide +kernel
theorem d_J_meetText_56 : decode b_J_meetText 56 = .ok (.iinc 2 1, 3) := by decide +kernel
theorem d_J_meetText_59 : decode b_J_meetText 59 = .ok (.goto (-35), 3) := by decide +kernel
theorem d_J_meetText_62 : decode b_J_meetText 62 = .ok (.iinc 1 1, 3) := by decide +kernel
theorem d_J_meetText_65 : decode b_J_meetText 65 = .ok (.goto (-63), 3) := by decide +kernel
theorem d_J_meetText_68 : decode b_J_meetText 68 = .ok (.return_, 1) := by decide +kernel
set_option maxHeartbeats 4000000 in
set_option maxRecDepth 100000 in
theorem c_J_meetText (l : Launch) (dC : Nat → ClassId) (dI : Nat → Nat → Nat) (kA : Nat → ClassId) (sz : Nat) (jo : Nat) (wo : Nat) (wl : Nat) (wb : Nat) (we : Nat) (wn : Nat) (wk : Nat) (wz : Int) (lt : Nat → Int) (sb : Nat → Int) (se : Nat → Int) (wo2 : Nat) (wl2 : Nat) (wb2 : Nat) (we2 : Nat) (wn2 : Nat) (wk2 : Nat) (wz2 : Int) (lt2 : Nat → Int) (sb2 : Nat → Int) (se2 : Nat → Int) (jm : Nat) (jr : Nat) (jy : Int) (rc : Nat → Bool) (mt : Nat → Bool) (ws : List (List Int)) (ws2 : List (List Int)) (hW : WR wn wk wz lt sb se) (hW2 : WR wn2 wk2 wz2 lt2 sb2 se2) (hWL : WL ws wz lt sb se) (hWL2 : WL ws2 wz2 lt2 sb2 se2) (hw1 : wn ≤ 100) (hwz100 : wz ≤ 100) : Met l y_J_meetText (wsy y_J_meetText b_J_meetText 3 none) (rmd 3 0 0) (li_Pr (dC, dI) CL (TY kA) [.ref jo] (fun h => h.size = sz ∧ va_P (dC, dI) CL [(jo, .inr (4, [.ref wo, .ref wo2, .ref jm, .ref jr, .int (iI jy)])), (jr, .inl (kA 2, 101, .inl (zI rc))), (wo, .inr (9, [.ref wl, .ref wb, .ref we, .int (iI wz)])), (wl, .inl (kA 1, wn, .inl (aI lt))), (wb, .inl (kA 0, wk, .inl (aI sb))), (we, .inl (kA 0, wk, .inl (aI se))), (wo2, .inr (9, [.ref wl2, .ref wb2, .ref we2, .int (iI wz2)])), (wl2, .inl (kA 1, wn2, .inl (aI lt2))), (wb2, .inl (kA 0, wk2, .inl (aI sb2))), (we2, .inl (kA 0, wk2, .inl (aI se2))), (jm, .inl (kA 2, 100, .inl (zI mt)))] h ∧ va_D (fun q => dI 100 0 ≤ q) [(jo, .inr (4, [.ref wo, .ref wo2, .ref jm, .ref jr, .int (iI jy)])), (jr, .inl (kA 2, 101, .inl (zI rc))), (wo, .inr (9, [.ref wl, .ref wb, .ref we, .int (iI wz)])), (wl, .inl (kA 1, wn, .inl (aI lt))), (wb, .inl (kA 0, wk, .inl (aI sb))), (we, .inl (kA 0, wk, .inl (aI se))), (wo2, .inr (9, [.ref wl2, .ref wb2, .ref we2, .int (iI wz2)])), (wl2, .inl (kA 1, wn2, .inl (aI lt2))), (wb2, .inl (kA 0, wk2, .inl (aI sb2))), (we2, .inl (kA 0, wk2, .inl (aI se2))), (jm, .inl (kA 2, 100, .inl (zI mt)))] ∧ (fun _ => True) h)) (li_Qw (S := (Nat → Bool) × (Nat → Bool)) (dC, dI) CL (fun u => ∀ k : Nat, u.1 k = if (k : Int) < wz then (mt k || ws2.any (mtW (ws.getD k []))) else mt k) (fun _ => none) (fun u => [(jo, .inr (4, [.ref wo, .ref wo2, .ref jm, .ref jr, .int (iI jy)])), (jr, .inl (kA 2, 101, .inl (zI u.2))), (wo, .inr (9, [.ref wl, .ref wb, .ref we, .int (iI wz)])), (wl, .inl (kA 1, wn, .inl (aI lt))), (wb, .inl (kA 0, wk, .inl (aI sb))), (we, .inl (kA 0, wk, .inl (aI se))), (wo2, .inr (9, [.ref wl2, .ref wb2, .ref we2, .int (iI wz2)])), (wl2, .inl (kA 1, wn2, .inl (aI lt2))), (wb2, .inl (kA 0, wk2, .inl (aI sb2))), (we2, .inl (kA 0, wk2, .inl (aI se2))), (jm, .inl (kA 2, 100, .inl (zI u.1)))]) (va_A [(jo, .inr (4, [.ref wo, .ref wo2, .ref jm, .ref jr, .int (iI jy)])), (jr, .inl (kA 2, 101, .inl (zI rc))), (wo, .inr (9, [.ref wl, .ref wb, .ref we, .int (iI wz)])), (wl, .inl (kA 1, wn, .inl (aI lt))), (wb, .inl (kA 0, wk, .inl (aI sb))), (we, .inl (kA 0, wk, .inl (aI se))), (wo2, .inr (9, [.ref wl2, .ref wb2, .ref we2, .int (iI wz2)])), (wl2, .inl (kA 1, wn2, .inl (aI lt2))), (wb2, .inl (kA 0, wk2, .inl (aI sb2))), (we2, .inl (kA 0, wk2, .inl (aI se2))), (jm, .inl (kA 2, 100, .inl (zI mt)))] sz)) 0 0 (va_A [(jo, .inr (4, [.ref wo, .ref wo2, .ref jm, .ref jr, .int (iI jy)])), (jr, .inl (kA 2, 101, .inl (zI rc))), (wo, .inr (9, [.ref wl, .ref wb, .ref we, .int (iI wz)])), (wl, .inl (kA 1, wn, .inl (aI lt))), (wb, .inl (kA 0, wk, .inl (aI sb))), (we, .inl (kA 0, wk, .inl (aI se))), (wo2, .inr (9, [.ref wl2, .ref wb2, .ref we2, .int (iI wz2)])), (wl2, .inl (kA 1, wn2, .inl (aI lt2))), (wb2, .inl (kA 0, wk2, .inl (aI sb2))), (we2, .inl (kA 0, wk2, .inl (aI se2))), (jm, .inl (kA 2, 100, .inl (zI mt)))] sz) := by
  refine li_mwv (by decide) (Nat.le_of_ble_eq_true rfl) ?_
  intro p e s m args below meth c Q A C hP hD hBx hK hN hG hA hAi hAN fin ls hl
  obtain ⟨hx, hb, hr, hml, hown, hts, hlocks, hin⟩ := C
  have hown : s.vm.findClass R_J = some m.cls := hown
  have hl : lv_has ls 3 [(0, .ref jo)] := hl
  obtain ⟨hwn, hwk, hwz, hlt, hsb, hse⟩ := id hW
  obtain ⟨hwn2, hwk2, hwz2, hlt2, hsb2, hse2⟩ := id hW2
  have hlw := hWL.len
  have hlw2 := hWL2.len
  suffices h9 : ∀ (H : Heap) (locs : List Loc), H = s.heap → locs = [] → W p l e (rmd 3 0 0) s m args below meth c H locs 0 0 Q (F0 m 0 ls []) from h9 _ _ rfl rfl
  intro H locs eH eL
  have hP : va_P (dC, dI) CL [(jo, .inr (4, [.ref wo, .ref wo2, .ref jm, .ref jr, .int (iI jy)])), (jr, .inl (kA 2, 101, .inl (zI rc))), (wo, .inr (9, [.ref wl, .ref wb, .ref we, .int (iI wz)])), (wl, .inl (kA 1, wn, .inl (aI lt))), (wb, .inl (kA 0, wk, .inl (aI sb))), (we, .inl (kA 0, wk, .inl (aI se))), (wo2, .inr (9, [.ref wl2, .ref wb2, .ref we2, .int (iI wz2)])), (wl2, .inl (kA 1, wn2, .inl (aI lt2))), (wb2, .inl (kA 0, wk2, .inl (aI sb2))), (we2, .inl (kA 0, wk2, .inl (aI se2))), (jm, .inl (kA 2, 100, .inl (zI mt)))] H := by rw [eH]; exact hP
  have hS : va_S A s.heap H locs := by rw [eH, eL]; exact va_S.rf
  refine lv_iconst (v := iI 0) hx hb d_J_meetText_0 rfl ?_
  refine lv_istore_n (lv' := [(1, .int (iI 0)), (0, .ref jo)]) hx hb d_J_meetText_1 rfl hl (by decide) rfl (fun ls hl => ?_)
  have K_2 : ∀ (nn_2 : Nat) (i : Int) (vr : Nat → Bool) (vm : Nat → Bool), (0 ≤ i ∧ i ≤ wz) → (∀ k : Nat, vm k = if (k : Int) < i then (mt k || ws2.any (mtW (ws.getD k []))) else mt k) → ((wz - i).toNat < nn_2) → ∀ (H : Heap) (locs : List Loc), va_P (dC, dI) CL [(jo, .inr (4, [.ref wo, .ref wo2, .ref jm, .ref jr, .int (iI jy)])), (jr, .inl (kA 2, 101, .inl (zI vr))), (wo, .inr (9, [.ref wl, .ref wb, .ref we, .int (iI wz)])), (wl, .inl (kA 1, wn, .inl (aI lt))), (wb, .inl (kA 0, wk, .inl (aI sb))), (we, .inl (kA 0, wk, .inl (aI se))), (wo2, .inr (9, [.ref wl2, .ref wb2, .ref we2, .int (iI wz2)])), (wl2, .inl (kA 1, wn2, .inl (aI lt2))), (wb2, .inl (kA 0, wk2, .inl (aI sb2))), (we2, .inl (kA 0, wk2, .inl (aI se2))), (jm, .inl (kA 2, 100, .inl (zI vm)))] H → va_D A [(jo, .inr (4, [.ref wo, .ref wo2, .ref jm, .ref jr, .int (iI jy)])), (jr, .inl (kA 2, 101, .inl (zI vr))), (wo, .inr (9, [.ref wl, .ref wb, .ref we, .int (iI wz)])), (wl, .inl (kA 1, wn, .inl (aI lt))), (wb, .inl (kA 0, wk, .inl (aI sb))), (we, .inl (kA 0, wk, .inl (aI se))), (wo2, .inr (9, [.ref wl2, .ref wb2, .ref we2, .int (iI wz2)])), (wl2, .inl (kA 1, wn2, .inl (aI lt2))), (wb2, .inl (kA 0, wk2, .inl (aI sb2))), (we2, .inl (kA 0, wk2, .inl (aI se2))), (jm, .inl (kA 2, 100, .inl (zI vm)))] → va_S A s.heap H locs → ∀ ls : Array Slot, lv_has ls 3 [(1, .int (iI i)), (0, .ref jo)] → W p l e (rmd 3 0 0) s m args below meth c H locs 0 0 Q (F0 m 2 ls []) := by
    intro nn_2
    induction nn_2 with
    | zero => intro i vr vm hi9 hvm hm; exact absurd hm (Nat.not_lt_zero _)
    | succ nn_2 ih_2 =>
      intro i vr vm hi9 hvm hm_2 H locs hP hD hS ls hl
      refine lv_iload_n hx hb d_J_meetText_2 rfl (lv_at hl 0 rfl) ?_
      refine lv_aload_n hx hb d_J_meetText_3 rfl (lv_at hl 1 rfl) ?_
      refine gf_J_14 hx hb hts hown hK hP 0 rfl rfl d_J_meetText_4 ?_
      refine gf_J_73 hx hb hts hN hown hK hP 2 rfl rfl d_J_meetText_7 ?_
      refine li_icmp_ge (tgt := 68) hx hb d_J_meetText_10 (by decide) (by omega) (by omega) (fun c1 => ?_) (fun c1 => ?_)
      · have _q := c1
        exact fin (vm, vr) _ _ _ _ (by show ∀ k : Nat, vm k = if (k : Int) < wz then (mt k || ws2.any (mtW (ws.getD k []))) else mt k; intro k; rw [hvm k]; by_cases q9 : (k : Int) < i; (rw [if_pos q9, if_pos (by omega)]); (rw [if_neg q9, if_neg (by omega)])) (by first | exact hP | (subst_vars; exact hP)) (by first | exact hD | (subst_vars; exact hD)) hS d_J_meetText_68
      · have _q := c1
        refine lv_iload_n hx hb d_J_meetText_13 rfl (lv_at hl 0 rfl) ?_
        refine lv_aload_n hx hb d_J_meetText_14 rfl (lv_at hl 1 rfl) ?_
        refine gf_J_23 hx hb hts hown hK hP 0 rfl rfl d_J_meetText_15 ?_
        refine li_alen hx hb hK hP 10 2 rfl rfl d_J_meetText_18 ?_
        refine li_icmp_ge (tgt := 68) hx hb d_J_meetText_19 (by decide) (by omega) (by omega) (fun c2 => ?_) (fun c2 => ?_)
        · have _q := c2
          exact absurd c2 (by omega)
        · have _q := c2
          refine lv_iconst (v := iI 0) hx hb d_J_meetText_22 rfl ?_
          refine lv_istore_n (lv' := [(2, .int (iI 0)), (1, .int (iI i)), (0, .ref jo)]) hx hb d_J_meetText_23 rfl hl (by decide) rfl (fun ls hl => ?_)
          have K_24 : ∀ (nn_24 : Nat) (j : Int) (vq : Nat → Bool) (vn : Nat → Bool), (0 ≤ j ∧ j ≤ wz2) → (∀ k : Nat, ¬ k = i.toNat → vn k = vm k) → ((vn i.toNat || (ws2.drop j.toNat).any (mtW (ws.getD i.toNat []))) = (mt i.toNat || ws2.any (mtW (ws.getD i.toNat [])))) → ((wz2 - j).toNat < nn_24) → ∀ (H : Heap) (locs : List Loc), va_P (dC, dI) CL [(jo, .inr (4, [.ref wo, .ref wo2, .ref jm, .ref jr, .int (iI jy)])), (jr, .inl (kA 2, 101, .inl (zI vq))), (wo, .inr (9, [.ref wl, .ref wb, .ref we, .int (iI wz)])), (wl, .inl (kA 1, wn, .inl (aI lt))), (wb, .inl (kA 0, wk, .inl (aI sb))), (we, .inl (kA 0, wk, .inl (aI se))), (wo2, .inr (9, [.ref wl2, .ref wb2, .ref we2, .int (iI wz2)])), (wl2, .inl (kA 1, wn2, .inl (aI lt2))), (wb2, .inl (kA 0, wk2, .inl (aI sb2))), (we2, .inl (kA 0, wk2, .inl (aI se2))), (jm, .inl (kA 2, 100, .inl (zI vn)))] H → va_D A [(jo, .inr (4, [.ref wo, .ref wo2, .ref jm, .ref jr, .int (iI jy)])), (jr, .inl (kA 2, 101, .inl (zI vq))), (wo, .inr (9, [.ref wl, .ref wb, .ref we, .int (iI wz)])), (wl, .inl (kA 1, wn, .inl (aI lt))), (wb, .inl (kA 0, wk, .inl (aI sb))), (we, .inl (kA 0, wk, .inl (aI se))), (wo2, .inr (9, [.ref wl2, .ref wb2, .ref we2, .int (iI wz2)])), (wl2, .inl (kA 1, wn2, .inl (aI lt2))), (wb2, .inl (kA 0, wk2, .inl (aI sb2))), (we2, .inl (kA 0, wk2, .inl (aI se2))), (jm, .inl (kA 2, 100, .inl (zI vn)))] → va_S A s.heap H locs → ∀ ls : Array Slot, lv_has ls 3 [(2, .int (iI j)), (1, .int (iI i)), (0, .ref jo)] → W p l e (rmd 3 0 0) s m args below meth c H locs 0 0 Q (F0 m 24 ls []) := by
            intro nn_24
            induction nn_24 with
            | zero => intro j vq vn hj9 hoth hcur hm; exact absurd hm (Nat.not_lt_zero _)
            | succ nn_24 ih_24 =>
              intro j vq vn hj9 hoth hcur hm_24 H locs hP hD hS ls hl
              refine lv_iload_n hx hb d_J_meetText_24 rfl (lv_at hl 0 rfl) ?_
              refine lv_aload_n hx hb d_J_meetText_25 rfl (lv_at hl 2 rfl) ?_
              refine gf_J_20 hx hb hts hown hK hP 0 rfl rfl d_J_meetText_26 ?_
              refine gf_J_73 hx hb hts hN hown hK hP 6 rfl rfl d_J_meetText_29 ?_
              refine li_icmp_ge (tgt := 62) hx hb d_J_meetText_32 (by decide) (by omega) (by omega) (fun c3 => ?_) (fun c3 => ?_)
              · have _q := c3
                rw [hWL2.dropE (i := j) (by omega), List.any_nil, Bool.or_false] at hcur
                obtain ⟨i_n, ei_n⟩ : ∃ y_9 : Int, y_9 = i + 1 := ⟨_, rfl⟩
                refine lv_iinc (v := iI i_n) (lv' := [(1, .int (iI i_n)), (2, .int (iI j)), (0, .ref jo)]) hx hb d_J_meetText_62 hl (k := 1) rfl (by rw [ei_n]; exact iI_add _ _) (by decide) rfl (fun ls hl => ?_)
                refine lv_goto (tgt := 2) hx hb d_J_meetText_65 (by decide) ?_
                exact ih_2 i_n vq vn (by omega) (by intro k; exact if q8 : k = i.toNat then (by rw [if_pos (by omega), q8, ← hcur]; first | done | assumption) else (by rw [hoth k q8, hvm k]; exact if q9 : (k : Int) < i then (by rw [if_pos q9, if_pos (by omega)]) else (by rw [if_neg q9, if_neg (by omega)]))) (by omega) _ _ hP hD hS _ (lv_sub hl [0, 2] rfl)
              · have _q := c3
                rw [hWL2.drop (i := j) (by omega) (by omega), List.any_cons] at hcur
                refine lv_aload_n hx hb d_J_meetText_35 rfl (lv_at hl 2 rfl) ?_
                refine gf_J_23 hx hb hts hown hK hP 0 rfl rfl d_J_meetText_36 ?_
                refine lv_iload_n hx hb d_J_meetText_39 rfl (lv_at hl 1 rfl) ?_
                refine li_zald hx hb hK hP 10 2 rfl rfl (by omega) (by omega) (by omega) d_J_meetText_40 ?_
                refine li_bnz (tgt := 62) hx hb d_J_meetText_41 (by decide) (fun c4 => ?_) (fun c4 => ?_)
                · have _q := c4
                  rw [show vn i.toNat = true by assumption, Bool.true_or] at hcur
                  obtain ⟨i_n, ei_n⟩ : ∃ y_9 : Int, y_9 = i + 1 := ⟨_, rfl⟩
                  refine lv_iinc (v := iI i_n) (lv' := [(1, .int (iI i_n)), (2, .int (iI j)), (0, .ref jo)]) hx hb d_J_meetText_62 hl (k := 1) rfl (by rw [ei_n]; exact iI_add _ _) (by decide) rfl (fun ls hl => ?_)
                  refine lv_goto (tgt := 2) hx hb d_J_meetText_65 (by decide) ?_
                  exact ih_2 i_n vq vn (by omega) (by intro k; exact if q8 : k = i.toNat then (by rw [if_pos (by omega), q8, ← hcur]; first | done | assumption) else (by rw [hoth k q8, hvm k]; exact if q9 : (k : Int) < i then (by rw [if_pos q9, if_pos (by omega)]) else (by rw [if_neg q9, if_neg (by omega)]))) (by omega) _ _ hP hD hS _ (lv_sub hl [0, 2] rfl)
                · have _q := c4
                  rw [show vn i.toNat = false by assumption, Bool.false_or] at hcur
                  refine lv_aload_n hx hb d_J_meetText_44 rfl (lv_at hl 2 rfl) ?_
                  refine gf_J_23 hx hb hts hown hK hP 0 rfl rfl d_J_meetText_45 ?_
                  refine lv_iload_n hx hb d_J_meetText_48 rfl (lv_at hl 1 rfl) ?_
                  refine lv_aload_n hx hb d_J_meetText_49 rfl (lv_at hl 2 rfl) ?_
                  refine lv_iload_n hx hb d_J_meetText_50 rfl (lv_at hl 1 rfl) ?_
                  refine lv_iload_n hx hb d_J_meetText_51 rfl (lv_at hl 0 rfl) ?_
                  refine li_callw (wc := [(jo, .inr (4, [.ref wo, .ref wo2, .ref jm, .ref jr, .int (iI jy)])), (jr, .inl (kA 2, 101, .inl (zI vq))), (wo, .inr (9, [.ref wl, .ref wb, .ref we, .int (iI wz)])), (wl, .inl (kA 1, wn, .inl (aI lt))), (wb, .inl (kA 0, wk, .inl (aI sb))), (we, .inl (kA 0, wk, .inl (aI se))), (wo2, .inr (9, [.ref wl2, .ref wb2, .ref we2, .int (iI wz2)])), (wl2, .inl (kA 1, wn2, .inl (aI lt2))), (wb2, .inl (kA 0, wk2, .inl (aI sb2))), (we2, .inl (kA 0, wk2, .inl (aI se2)))]) (wr := [(jm, .inl (kA 2, 100, .inl (zI vn)))]) (va_runV (As := [.int (iI i), .int (iI j)]) (rest := [.int (iI i), .ref jm]) ⟨hx, hb, hml, hown, hts⟩ (c_J_matches l dC dI kA H.size jo wo wl wb we wn wk wz lt sb se wo2 wl2 wb2 we2 wn2 wk2 wz2 lt2 sb2 se2 jm jr jy vq ws ws2 i j (by exact hW) (by exact hW2) (by exact hWL) (by exact hWL2) (by omega) (by omega) (by omega)) (cw_J_97 hts rfl rfl ⟨Nat.le_of_ble_eq_true rfl, Nat.le_of_ble_eq_true rfl⟩) (li_preV (va_recv hK hP (ci := 4) (q0 := 0) rfl rfl) ⟨rfl, hP.sub [0, 1, 2, 3, 4, 5, 6, 7, 8, 9] rfl, (hD.sub [0, 1, 2, 3, 4, 5, 6, 7, 8, 9] (by decide) rfl).weaken (fun _ _ _ h => hAN _ h), trivial⟩ hK hN (hG.go hS hAN)) rfl rfl hl.1 rfl (lv_room (Nat.le_of_ble_eq_true rfl)) d_J_meetText_52 ⟨(by show 0 + 0 ≤ 0; omega), (by show 0 + 0 ≤ 0; omega)⟩) hP hD hS hA [0, 1, 2, 3, 4, 5, 6, 7, 8, 9] [10] rfl rfl (by decide) (by decide) (fun f_r H locs hf_r hP hD hS _hk => ?_)
                  have hP : va_P (dC, dI) CL [(jm, .inl (kA 2, 100, .inl (zI vn))), (jo, .inr (4, [.ref wo, .ref wo2, .ref jm, .ref jr, .int (iI jy)])), (jr, .inl (kA 2, 101, .inl (zI f_r))), (wo, .inr (9, [.ref wl, .ref wb, .ref we, .int (iI wz)])), (wl, .inl (kA 1, wn, .inl (aI lt))), (wb, .inl (kA 0, wk, .inl (aI sb))), (we, .inl (kA 0, wk, .inl (aI se))), (wo2, .inr (9, [.ref wl2, .ref wb2, .ref we2, .int (iI wz2)])), (wl2, .inl (kA 1, wn2, .inl (aI lt2))), (wb2, .inl (kA 0, wk2, .inl (aI sb2))), (we2, .inl (kA 0, wk2, .inl (aI se2)))] H := hP
                  have hD : va_D A [(jm, .inl (kA 2, 100, .inl (zI vn))), (jo, .inr (4, [.ref wo, .ref wo2, .ref jm, .ref jr, .int (iI jy)])), (jr, .inl (kA 2, 101, .inl (zI f_r))), (wo, .inr (9, [.ref wl, .ref wb, .ref we, .int (iI wz)])), (wl, .inl (kA 1, wn, .inl (aI lt))), (wb, .inl (kA 0, wk, .inl (aI sb))), (we, .inl (kA 0, wk, .inl (aI se))), (wo2, .inr (9, [.ref wl2, .ref wb2, .ref we2, .int (iI wz2)])), (wl2, .inl (kA 1, wn2, .inl (aI lt2))), (wb2, .inl (kA 0, wk2, .inl (aI sb2))), (we2, .inl (kA 0, wk2, .inl (aI se2)))] := hD
                  refine W.eq (g2 := F0 m 55 ls [.int (iI (bI (mtW (ws.getD i.toNat []) (ws2.getD j.toNat [])))), .int (iI i), .ref jm]) rfl ?_
                  refine li_zast hx hb hK hP hD hS 0 2 rfl rfl (by omega) (by omega) (by omega) d_J_meetText_55 (fun H locs hP hD hS => ?_)
                  have hP : va_P (dC, dI) CL [(jm, .inl (kA 2, 100, .inl (zI (va_up vn i.toNat (mtW (ws.getD i.toNat []) (ws2.getD j.toNat [])))))), (jo, .inr (4, [.ref wo, .ref wo2, .ref jm, .ref jr, .int (iI jy)])), (jr, .inl (kA 2, 101, .inl (zI f_r))), (wo, .inr (9, [.ref wl, .ref wb, .ref we, .int (iI wz)])), (wl, .inl (kA 1, wn, .inl (aI lt))), (wb, .inl (kA 0, wk, .inl (aI sb))), (we, .inl (kA 0, wk, .inl (aI se))), (wo2, .inr (9, [.ref wl2, .ref wb2, .ref we2, .int (iI wz2)])), (wl2, .inl (kA 1, wn2, .inl (aI lt2))), (wb2, .inl (kA 0, wk2, .inl (aI sb2))), (we2, .inl (kA 0, wk2, .inl (aI se2)))] H := hP
                  have hD : va_D A [(jm, .inl (kA 2, 100, .inl (zI (va_up vn i.toNat (mtW (ws.getD i.toNat []) (ws2.getD j.toNat [])))))), (jo, .inr (4, [.ref wo, .ref wo2, .ref jm, .ref jr, .int (iI jy)])), (jr, .inl (kA 2, 101, .inl (zI f_r))), (wo, .inr (9, [.ref wl, .ref wb, .ref we, .int (iI wz)])), (wl, .inl (kA 1, wn, .inl (aI lt))), (wb, .inl (kA 0, wk, .inl (aI sb))), (we, .inl (kA 0, wk, .inl (aI se))), (wo2, .inr (9, [.ref wl2, .ref wb2, .ref we2, .int (iI wz2)])), (wl2, .inl (kA 1, wn2, .inl (aI lt2))), (wb2, .inl (kA 0, wk2, .inl (aI sb2))), (we2, .inl (kA 0, wk2, .inl (aI se2)))] := hD
                  obtain ⟨j_n, ej_n⟩ : ∃ y_9 : Int, y_9 = j + 1 := ⟨_, rfl⟩
                  refine lv_iinc (v := iI j_n) (lv' := [(2, .int (iI j_n)), (1, .int (iI i)), (0, .ref jo)]) hx hb d_J_meetText_56 hl (k := 0) rfl (by rw [ej_n]; exact iI_add _ _) (by decide) rfl (fun ls hl => ?_)
                  refine lv_goto (tgt := 24) hx hb d_J_meetText_59 (by decide) ?_
                  exact ih_24 j_n f_r (va_up vn i.toNat (mtW (ws.getD i.toNat []) (ws2.getD j.toNat []))) (by omega) (by intro k hk; unfold va_up; rw [if_neg hk]; exact hoth k hk) (by rw [ej_n]; unfold va_up; rw [if_pos rfl]; exact hcur) (by omega) _ _ (hP.sub [1, 2, 3, 4, 5, 6, 7, 8, 9, 10, 0] rfl) (hD.sub [1, 2, 3, 4, 5, 6, 7, 8, 9, 10, 0] (by decide) rfl) hS _ (lv_sub hl [0, 1, 2] rfl)
          exact K_24 ((wz2 - 0).toNat + 1) 0 vr vm (by omega) (by intro k hk; rfl) (by rw [hvm i.toNat, if_neg (by omega)]; rfl) (Nat.lt_succ_self _) _ _ hP hD hS _ (lv_sub hl [0, 1, 2] rfl)
  exact K_2 ((wz - 0).toNat + 1) 0 rc mt (by omega) (by intro k; rw [if_neg (by omega)]) (Nat.lt_succ_self _) _ _ hP hD hS _ (lv_sub hl [0, 1] rfl)
theorem d_J_isDated_0 : decode b_J_isDated 0 = .ok (.iload_n 1, 1) := by decide +kernel
theorem d_J_isDated_1 : decode b_J_isDated 1 = .ok (.iconst (-1), 1) := by decide +kernel
theorem d_J_isDated_2 : decode b_J_isDated 2 = .ok (.if_icmp .eq 11, 3) := by decide +kernel
theorem d_J_isDated_5 : decode b_J_isDated 5 = .ok (.aload_n 0, 1) := by decide +kernel
theorem d_J_isDated_6 : decode b_J_isDated 6 = .ok (.getfield 47, 3) := by decide +kernel
theorem d_J_isDated_9 : decode b_J_isDated 9 = .ok (.iconst (-1), 1) := by decide +kernel
theorem d_J_isDated_10 : decode b_J_isDated 10 = .ok (.if_icmp .ne 5, 3) := by decide +kernel
theorem d_J_isDated_13 : decode b_J_isDated 13 = .ok (.iconst 0, 1) := by decide +kernel
theorem d_J_isDated_14 : decode b_J_isDated 14 = .ok (.ireturn, 1) := by decide +kernel
theorem d_J_isDated_15 : decode b_J_isDated 15 = .ok (.iload_n 2, 1) := by decide +kernel
theorem d_J_isDated_16 : decode b_J_isDated 16 = .ok (.tableswitch 70 4 6 #[28, 42, 56], 28) := by decide +kernel
theorem d_J_isDated_44 : decode b_J_isDated 44 = .ok (.iload_n 1, 1) := by decide +kernel
theorem d_J_isDated_45 : decode b_J_isDated 45 = .ok (.aload_n 0, 1) := by decide +kernel
theorem d_J_isDated_46 : decode b_J_isDated 46 = .ok (.getfield 47, 3) := by decide +kernel
theorem d_J_isDated_49 : decode b_J_isDated 49 = .ok (.if_icmp .ge 7, 3) := by decide +kernel
theorem d_J_isDated_52 : decode b_J_isDated 52 = .ok (.iconst 1, 1) := by decide +kernel
theorem d_J_isDated_53 : decode b_J_isDated 53 = .ok (.goto 4, 3) := by decide +kernel
theorem d_J_isDated_56 : decode b_J_isDated 56 = .ok (.iconst 0, 1) := by decide +kernel
theorem d_J_isDated_57 : decode b_J_isDated 57 = .ok (.ireturn, 1) := by decide +kernel
theorem d_J_isDated_58 : decode b_J_isDated 58 = .ok (.iload_n 1, 1) := by decide +kernel
theorem d_J_isDated_59 : decode b_J_isDated 59 = .ok (.aload_n 0, 1) := by decide +kernel
theorem d_J_isDated_60 : decode b_J_isDated 60 = .ok (.getfield 47, 3) := by decide +kernel
theorem d_J_isDated_63 : decode b_J_isDated 63 = .ok (.if_icmp .le 7, 3) := by decide +kernel
theorem d_J_isDated_66 : decode b_J_isDated 66 = .ok (.iconst 1, 1) := by decide +kernel
theorem d_J_isDated_67 : decode b_J_isDated 67 = .ok (.goto 4, 3) := by decide +kernel
theorem d_J_isDated_70 : decode b_J_isDated 70 = .ok (.iconst 0, 1) := by decide +kernel
theorem d_J_isDated_71 : decode b_J_isDated 71 = .ok (.ireturn, 1) := by decide +kernel
theorem d_J_isDated_72 : decode b_J_isDated 72 = .ok (.iload_n 1, 1) := by decide +kernel
theorem d_J_isDated_73 : decode b_J_isDated 73 = .ok (.aload_n 0, 1) := by decide +kernel
theorem d_J_isDated_74 : decode b_J_isDated 74 = .ok (.getfield 47, 3) := by decide +kernel
theorem d_J_isDated_77 : decode b_J_isDated 77 = .ok (.if_icmp .gt 7, 3) := by decide +kernel
theorem d_J_isDated_80 : decode b_J_isDated 80 = .ok (.iconst 1, 1) := by decide +kernel
theorem d_J_isDated_81 : decode b_J_isDated 81 = .ok (.goto 4, 3) := by decide +kernel
theorem d_J_isDated_84 : decode b_J_isDated 84 = .ok (.iconst 0, 1) := by decide +kernel
theorem d_J_isDated_85 : decode b_J_isDated 85 = .ok (.ireturn, 1) := by decide +kernel
theorem d_J_isDated_86 : decode b_J_isDated 86 = .ok (.iload_n 1, 1) := by decide +kernel
theorem d_J_isDated_87 : decode b_J_isDated 87 = .ok (.aload_n 0, 1) := by decide +kernel
theorem d_J_isDated_88 : decode b_J_isDated 88 = .ok (.getfield 47, 3) := by decide +kernel
theorem d_J_isDated_91 : decode b_J_isDated 91 = .ok (.if_icmp .lt 7, 3) := by decide +kernel
theorem d_J_isDated_94 : decode b_J_isDated 94 = .ok (.iconst 1, 1) := by decide +kernel
theorem d_J_isDated_95 : decode b_J_isDated 95 = .ok (.goto 4, 3) := by decide +kernel
theorem d_J_isDated_98 : decode b_J_isDated 98 = .ok (.iconst 0, 1) := by decide +kernel
theorem d_J_isDated_99 : decode b_J_isDated 99 = .ok (.ireturn, 1) := by decide +kernel
set_option maxHeartbeats 4000000 in
set_option maxRecDepth 100000 in
theorem c_J_isDated (l : Launch) (dC : Nat → ClassId) (dI : Nat → Nat → Nat) (kA : Nat → ClassId) (jo : Nat) (wo : Nat) (wo2 : Nat) (jm : Nat) (jr : Nat) (jy : Int) (d : Int) (rel : Int) (hd : -1 ≤ d ∧ d ≤ 9999) (hy : -1 ≤ jy ∧ jy ≤ 9999) (hrel : 4 ≤ rel ∧ rel ≤ 7) : Met l y_J_isDated (wsy y_J_isDated b_J_isDated 3 (some .boolean)) (rmd 0 0 0) (li_Pr (dC, dI) CL (TY kA) [.ref jo, .int (iI d), .int (iI rel)] (va_P (dC, dI) CL [(jo, .inr (4, [.ref wo, .ref wo2, .ref jm, .ref jr, .int (iI jy)]))])) (k2_QcV (.int (iI (bI (cdF rel d jy))))) 0 0 (fun _ => False) := by
  refine li_mr (by decide) (Nat.le_of_ble_eq_true rfl) (by exact li_narZ2 _) ?_
  intro p e s m args below meth c Q C hP hK hN hG fin ls hl
  obtain ⟨hx, hb, hr, hml, hown, hts, hlocks, hin⟩ := C
  have hown : s.vm.findClass R_J = some m.cls := hown
  have hP : va_P (dC, dI) CL [(jo, .inr (4, [.ref wo, .ref wo2, .ref jm, .ref jr, .int (iI jy)]))] s.heap := hP
  have hl : lv_has ls 3 [(0, .ref jo), (1, .int (iI d)), (2, .int (iI rel))] := hl
  refine lv_iload_n hx hb d_J_isDated_0 rfl (lv_at hl 1 rfl) ?_
  refine lv_iconst (v := iI (-1)) hx hb d_J_isDated_1 rfl ?_
  refine li_icmp_eq (tgt := 13) hx hb d_J_isDated_2 (by decide) (by omega) (by omega) (fun c1 => ?_) (fun c1 => ?_)
  · have _q := c1
    refine lv_iconst (v := iI 0) hx hb d_J_isDated_13 rfl ?_
    exact fin _ _ _ (by unfold cdF; (repeat (first | rw [if_pos (by omega)] | rw [if_neg (by omega)])); first | done | rfl | exact bI_t (decide_eq_true (by omega)) | exact bI_f (decide_eq_false (by omega))) d_J_isDated_14
  · have _q := c1
    refine lv_aload_n hx hb d_J_isDated_5 rfl (lv_at hl 0 rfl) ?_
    refine gf_J_47 hx hb hts hown hK hP 0 rfl rfl d_J_isDated_6 ?_
    refine lv_iconst (v := iI (-1)) hx hb d_J_isDated_9 rfl ?_
    refine li_icmp_ne (tgt := 15) hx hb d_J_isDated_10 (by decide) (by omega) (by omega) (fun c2 => ?_) (fun c2 => ?_)
    · have _q := c2
      refine lv_iload_n hx hb d_J_isDated_15 rfl (lv_at hl 2 rfl) ?_
      by_cases w3 : rel = 4
      · refine li_to (z := 4) w3 ?_
        refine lv_tableIn (x := iI 4) (off := 28) (tgt := 44) hx hb d_J_isDated_16 (by decide) (by decide) (by decide) (by decide) ?_
        refine lv_iload_n hx hb d_J_isDated_44 rfl (lv_at hl 1 rfl) ?_
        refine lv_aload_n hx hb d_J_isDated_45 rfl (lv_at hl 0 rfl) ?_
        refine gf_J_47 hx hb hts hown hK hP 0 rfl rfl d_J_isDated_46 ?_
        refine li_icmp_ge (tgt := 56) hx hb d_J_isDated_49 (by decide) (by omega) (by omega) (fun c4 => ?_) (fun c4 => ?_)
        · have _q := c4
          refine lv_iconst (v := iI 0) hx hb d_J_isDated_56 rfl ?_
          exact fin _ _ _ (by unfold cdF; (repeat (first | rw [if_pos (by omega)] | rw [if_neg (by omega)])); first | done | rfl | exact bI_t (decide_eq_true (by omega)) | exact bI_f (decide_eq_false (by omega))) d_J_isDated_57
        · have _q := c4
          refine lv_iconst (v := iI 1) hx hb d_J_isDated_52 rfl ?_
          refine lv_goto (tgt := 57) hx hb d_J_isDated_53 (by decide) ?_
          exact fin _ _ _ (by unfold cdF; (repeat (first | rw [if_pos (by omega)] | rw [if_neg (by omega)])); first | done | rfl | exact bI_t (decide_eq_true (by omega)) | exact bI_f (decide_eq_false (by omega))) d_J_isDated_57
      by_cases w5 : rel = 5
      · refine li_to (z := 5) w5 ?_
        refine lv_tableIn (x := iI 5) (off := 42) (tgt := 58) hx hb d_J_isDated_16 (by decide) (by decide) (by decide) (by decide) ?_
        refine lv_iload_n hx hb d_J_isDated_58 rfl (lv_at hl 1 rfl) ?_
        refine lv_aload_n hx hb d_J_isDated_59 rfl (lv_at hl 0 rfl) ?_
        refine gf_J_47 hx hb hts hown hK hP 0 rfl rfl d_J_isDated_60 ?_
        refine li_icmp_le (tgt := 70) hx hb d_J_isDated_63 (by decide) (by omega) (by omega) (fun c6 => ?_) (fun c6 => ?_)
        · have _q := c6
          refine lv_iconst (v := iI 0) hx hb d_J_isDated_70 rfl ?_
          exact fin _ _ _ (by unfold cdF; (repeat (first | rw [if_pos (by omega)] | rw [if_neg (by omega)])); first | done | rfl | exact bI_t (decide_eq_true (by omega)) | exact bI_f (decide_eq_false (by omega))) d_J_isDated_71
        · have _q := c6
          refine lv_iconst (v := iI 1) hx hb d_J_isDated_66 rfl ?_
          refine lv_goto (tgt := 71) hx hb d_J_isDated_67 (by decide) ?_
          exact fin _ _ _ (by unfold cdF; (repeat (first | rw [if_pos (by omega)] | rw [if_neg (by omega)])); first | done | rfl | exact bI_t (decide_eq_true (by omega)) | exact bI_f (decide_eq_false (by omega))) d_J_isDated_71
      by_cases w7 : rel = 6
      · refine li_to (z := 6) w7 ?_
        refine lv_tableIn (x := iI 6) (off := 56) (tgt := 72) hx hb d_J_isDated_16 (by decide) (by decide) (by decide) (by decide) ?_
        refine lv_iload_n hx hb d_J_isDated_72 rfl (lv_at hl 1 rfl) ?_
        refine lv_aload_n hx hb d_J_isDated_73 rfl (lv_at hl 0 rfl) ?_
        refine gf_J_47 hx hb hts hown hK hP 0 rfl rfl d_J_isDated_74 ?_
        refine li_icmp_gt (tgt := 84) hx hb d_J_isDated_77 (by decide) (by omega) (by omega) (fun c8 => ?_) (fun c8 => ?_)
        · have _q := c8
          refine lv_iconst (v := iI 0) hx hb d_J_isDated_84 rfl ?_
          exact fin _ _ _ (by unfold cdF; (repeat (first | rw [if_pos (by omega)] | rw [if_neg (by omega)])); first | done | rfl | exact bI_t (decide_eq_true (by omega)) | exact bI_f (decide_eq_false (by omega))) d_J_isDated_85
        · have _q := c8
          refine lv_iconst (v := iI 1) hx hb d_J_isDated_80 rfl ?_
          refine lv_goto (tgt := 85) hx hb d_J_isDated_81 (by decide) ?_
          exact fin _ _ _ (by unfold cdF; (repeat (first | rw [if_pos (by omega)] | rw [if_neg (by omega)])); first | done | rfl | exact bI_t (decide_eq_true (by omega)) | exact bI_f (decide_eq_false (by omega))) d_J_isDated_85
      refine lv_tableOut (tgt := 86) hx hb d_J_isDated_16 (by rw [iI_toInt (by omega)]; omega) (by decide) ?_
      refine lv_iload_n hx hb d_J_isDated_86 rfl (lv_at hl 1 rfl) ?_
      refine lv_aload_n hx hb d_J_isDated_87 rfl (lv_at hl 0 rfl) ?_
      refine gf_J_47 hx hb hts hown hK hP 0 rfl rfl d_J_isDated_88 ?_
      refine li_icmp_lt (tgt := 98) hx hb d_J_isDated_91 (by decide) (by omega) (by omega) (fun c9 => ?_) (fun c9 => ?_)
      · have _q := c9
        refine lv_iconst (v := iI 0) hx hb d_J_isDated_98 rfl ?_
        exact fin _ _ _ (by unfold cdF; (repeat (first | rw [if_pos (by omega)] | rw [if_neg (by omega)])); first | done | rfl | exact bI_t (decide_eq_true (by omega)) | exact bI_f (decide_eq_false (by omega))) d_J_isDated_99
      · have _q := c9
        refine lv_iconst (v := iI 1) hx hb d_J_isDated_94 rfl ?_
        refine lv_goto (tgt := 99) hx hb d_J_isDated_95 (by decide) ?_
        exact fin _ _ _ (by unfold cdF; (repeat (first | rw [if_pos (by omega)] | rw [if_neg (by omega)])); first | done | rfl | exact bI_t (decide_eq_true (by omega)) | exact bI_f (decide_eq_false (by omega))) d_J_isDated_99
    · have _q := c2
      refine lv_iconst (v := iI 0) hx hb d_J_isDated_13 rfl ?_
      exact fin _ _ _ (by unfold cdF; (repeat (first | rw [if_pos (by omega)] | rw [if_neg (by omega)])); first | done | rfl | exact bI_t (decide_eq_true (by omega)) | exact bI_f (decide_eq_false (by omega))) d_J_isDated_14
theorem d_J_isInOneText_0 : decode b_J_isInOneText 0 = .ok (.iconst 0, 1) := by decide +kernel
theorem d_J_isInOneText_1 : decode b_J_isInOneText 1 = .ok (.istore 4, 2) := by decide +kernel
theorem d_J_isInOneText_3 : decode b_J_isInOneText 3 = .ok (.iload 4, 2) := by decide +kernel
theorem d_J_isInOneText_5 : decode b_J_isInOneText 5 = .ok (.aload_n 1, 1) := by decide +kernel
theorem d_J_isInOneText_6 : decode b_J_isInOneText 6 = .ok (.getfield 84, 3) := by decide +kernel
theorem d_J_isInOneText_9 : decode b_J_isInOneText 9 = .ok (.if_icmp .ge 91, 3) := by decide +kernel
theorem d_J_isInOneText_12 : decode b_J_isInOneText 12 = .ok (.aload_n 1, 1) := by decide +kernel
theorem d_J_isInOneText_13 : decode b_J_isInOneText 13 = .ok (.iload 4, 2) := by decide +kernel
theorem d_J_isInOneText_15 : decode b_J_isInOneText 15 = .ok (.iload_n 2, 1) := by decide +kernel
theorem d_J_isInOneText_16 : decode b_J_isInOneText 16 = .ok (.invokevirtual 87, 3) := by decide +kernel
theorem d_J_isInOneText_19 : decode b_J_isInOneText 19 = .ok (.ifCond .eq 75, 3) := by decide +kernel
theorem d_J_isInOneText_22 : decode b_J_isInOneText 22 = .ok (.aload_n 0, 1) := by decide +kernel
theorem d_J_isInOneText_23 : decode b_J_isInOneText 23 = .ok (.getfield 20, 3) := by decide +kernel
theorem d_J_isInOneText_26 : decode b_J_isInOneText 26 = .ok (.aload_n 1, 1) := by decide +kernel
theorem d_J_isInOneText_27 : decode b_J_isInOneText 27 = .ok (.iload 4, 2) := by decide +kernel
theorem d_J_isInOneText_29 : decode b_J_isInOneText 29 = .ok (.iload_n 2, 1) := by decide +kernel
theorem d_J_isInOneText_30 : decode b_J_isInOneText 30 = .ok (.invokevirtual 90, 3) := by decide +kernel
theorem d_J_isInOneText_33 : decode b_J_isInOneText 33 = .ok (.aload_n 0, 1) := by decide +kernel
theorem d_J_isInOneText_34 : decode b_J_isInOneText 34 = .ok (.getfield 20, 3) := by decide +kernel
theorem d_J_isInOneText_37 : decode b_J_isInOneText 37 = .ok (.getfield 73, 3) := by decide +kernel
theorem d_J_isInOneText_40 : decode b_J_isInOneText 40 = .ok (.aload_n 0, 1) := by decide +kernel
theorem d_J_isInOneText_41 : decode b_J_isInOneText 41 = .ok (.getfield 14, 3) := by decide +kernel
theorem d_J_isInOneText_44 : decode b_J_isInOneText 44 = .ok (.getfield 73, 3) := by decide +kernel
theorem d_J_isInOneText_47 : decode b_J_isInOneText 47 = .ok (.isub, 1) := by decide +kernel
theorem d_J_isInOneText_48 : decode b_J_isInOneText 48 = .ok (.istore 5, 2) := by decide +kernel
theorem d_J_isInOneText_50 : decode b_J_isInOneText 50 = .ok (.iload_n 3, 1) := by decide +kernel
theorem d_J_isInOneText_51 : decode b_J_isInOneText 51 = .ok (.ifCond .eq 12, 3) := by decide +kernel
theorem d_J_isInOneText_54 : decode b_J_isInOneText 54 = .ok (.iload 5, 2) := by decide +kernel
theorem d_J_isInOneText_56 : decode b_J_isInOneText 56 = .ok (.ifCond .le 7, 3) := by decide +kernel
theorem d_J_isInOneText_59 : decode b_J_isInOneText 59 = .ok (.iconst (-1), 1) := by decide +kernel
theorem d_J_isInOneText_60 : decode b_J_isInOneText 60 = .ok (.goto 5, 3) := by decide +kernel
theorem d_J_isInOneText_63 : decode b_J_isInOneText 63 = .ok (.iload 5, 2) := by decide +kernel
theorem d_J_isInOneText_65 : decode b_J_isInOneText 65 = .ok (.istore 6, 2) := by decide +kernel
theorem d_J_isInOneText_67 : decode b_J_isInOneText 67 = .ok (.iconst 0, 1) := by decide +kernel
theorem d_J_isInOneText_68 : decode b_J_isInOneText 68 = .ok (.istore 7, 2) := by decide +kernel
theorem d_J_isInOneText_70 : decode b_J_isInOneText 70 = .ok (.iload 7, 2) := by decide +kernel
theorem d_J_isInOneText_72 : decode b_J_isInOneText 72 = .ok (.iload 6, 2) := by decide +kernel
theorem d_J_isInOneText_74 : decode b_J_isInOneText 74 = .ok (.if_icmp .gt 20, 3) := by decide +kernel
theorem d_J_isInOneText_77 : decode b_J_isInOneText 77 = .ok (.aload_n 0, 1) := by decide +kernel
theorem d_J_isInOneText_78 : decode b_J_isInOneText 78 = .ok (.iload 7, 2) := by decide +kernel
theorem d_J_isInOneText_80 : decode b_J_isInOneText 80 = .ok (.invokevirtual 100, 3) := by decide +kernel
theorem d_J_isInOneText_83 : decode b_J_isInOneText 83 = .ok (.ifCond .eq 5, 3) := by decide +kernel
theorem d_J_isInOneText_86 : decode b_J_isInOneText 86 = .ok (.iconst 1, 1) := by decide +kernel
theorem d_J_isInOneText_87 : decode b_J_isInOneText 87 = .ok (.ireturn, 1) := by decide +kernel
theorem d_J_isInOneText_88 : decode b_J_isInOneText 88 = .ok (.iinc 7 1, 3) := by decide +kernel
theorem d_J_isInOneText_91 : decode b_J_isInOneText 91 = .ok (.goto (-21), 3) := by decide +kernel
theorem d_J_isInOneText_94 : decode b_J_isInOneText 94 = .ok (.iinc 4 1, 3) := by decide +kernel
theorem d_J_isInOneText_97 : decode b_J_isInOneText 97 = .ok (.goto (-94), 3) := by decide +kernel
theorem d_J_isInOneText_100 : decode b_J_isInOneText 100 = .ok (.iconst 0, 1) := by decide +kernel
theorem d_J_isInOneText_101 : decode b_J_isInOneText 101 = .ok (.ireturn, 1) := by decide +kernel
set_option maxHeartbeats 4000000 in
set_option maxRecDepth 100000 in
theorem c_J_isInOneText (l : Launch) (dC : Nat → ClassId) (dI : Nat → Nat → Nat) (kA : Nat → ClassId) (sz : Nat) (jo : Nat) (wo : Nat) (wl : Nat) (wb : Nat) (we : Nat) (wn : Nat) (wk : Nat) (wz : Int) (lt : Nat → Int) (sb : Nat → Int) (se : Nat → Int) (wo2 : Nat) (wl2 : Nat) (wb2 : Nat) (we2 : Nat) (wn2 : Nat) (wk2 : Nat) (wz2 : Int) (lt2 : Nat → Int) (sb2 : Nat → Int) (se2 : Nat → Int) (jm : Nat) (jr : Nat) (jy : Int) (rc : Nat → Bool) (ws : List (List Int)) (ho : Nat) (oc : Nat) (xi : Nat) (xs : Nat) (xe : Nat) (xl : Nat) (n : Nat) (mx : Nat) (fd : Int) (tc : Int) (t : Nat → Int) (ti : Nat → Int) (ts : Nat → Int) (te : Nat → Int) (tl : Nat → Int) (ix : Int) (b : Bool) (hW : WR wn wk wz lt sb se) (hW2 : WR wn2 wk2 wz2 lt2 sb2 se2) (hWL : WL ws wz lt sb se) (hw1 : wn ≤ 100) (hw2 : wn2 = 400 ∧ 401 ≤ 2 * wk2) (hH : HR n mx t ti ts te tl tc) (hte : ∀ j, te j ≤ n) (hix : -2147483648 ≤ ix ∧ ix < 2147483648) (hwp : 1 ≤ wz) : Met l y_J_isInOneText (wsy y_J_isInOneText b_J_isInOneText 8 (some .boolean)) (rmd 4 0 0) (li_Pr (dC, dI) CL (TY kA) [.ref jo, .ref ho, .int (iI ix), .int (iI (bI b))] (fun h => h.size = sz ∧ va_P (dC, dI) CL [(jo, .inr (4, [.ref wo, .ref wo2, .ref jm, .ref jr, .int (iI jy)])), (jr, .inl (kA 2, 101, .inl (zI rc))), (wo, .inr (9, [.ref wl, .ref wb, .ref we, .int (iI wz)])), (wl, .inl (kA 1, wn, .inl (aI lt))), (wb, .inl (kA 0, wk, .inl (aI sb))), (we, .inl (kA 0, wk, .inl (aI se))), (wo2, .inr (9, [.ref wl2, .ref wb2, .ref we2, .int (iI wz2)])), (wl2, .inl (kA 1, wn2, .inl (aI lt2))), (wb2, .inl (kA 0, wk2, .inl (aI sb2))), (we2, .inl (kA 0, wk2, .inl (aI se2)))] h ∧ va_D (fun q => dI 100 0 ≤ q) [(jo, .inr (4, [.ref wo, .ref wo2, .ref jm, .ref jr, .int (iI jy)])), (jr, .inl (kA 2, 101, .inl (zI rc))), (wo, .inr (9, [.ref wl, .ref wb, .ref we, .int (iI wz)])), (wl, .inl (kA 1, wn, .inl (aI lt))), (wb, .inl (kA 0, wk, .inl (aI sb))), (we, .inl (kA 0, wk, .inl (aI se))), (wo2, .inr (9, [.ref wl2, .ref wb2, .ref we2, .int (iI wz2)])), (wl2, .inl (kA 1, wn2, .inl (aI lt2))), (wb2, .inl (kA 0, wk2, .inl (aI sb2))), (we2, .inl (kA 0, wk2, .inl (aI se2)))] ∧ (fun h => va_P (dC, dI) CL [(ho, .inr (2, [.ref oc, .int (iI fd), .ref xi, .ref xs, .ref xe, .ref xl, .int (iI tc)])), (oc, .inl (kA 1, n, .inl (aI t))), (xi, .inl (kA 0, mx, .inl (aI ti))), (xs, .inl (kA 0, mx, .inl (aI ts))), (xe, .inl (kA 0, mx, .inl (aI te))), (xl, .inl (kA 0, mx, .inl (aI tl)))] h ∧ Dsj [(ho, .inr (2, [.ref oc, .int (iI fd), .ref xi, .ref xs, .ref xe, .ref xl, .int (iI tc)])), (oc, .inl (kA 1, n, .inl (aI t))), (xi, .inl (kA 0, mx, .inl (aI ti))), (xs, .inl (kA 0, mx, .inl (aI ts))), (xe, .inl (kA 0, mx, .inl (aI te))), (xl, .inl (kA 0, mx, .inl (aI tl)))] [(jo, .inr (4, [.ref wo, .ref wo2, .ref jm, .ref jr, .int (iI jy)])), (jr, .inl (kA 2, 101, .inl (zI rc))), (wo, .inr (9, [.ref wl, .ref wb, .ref we, .int (iI wz)])), (wl, .inl (kA 1, wn, .inl (aI lt))), (wb, .inl (kA 0, wk, .inl (aI sb))), (we, .inl (kA 0, wk, .inl (aI se))), (wo2, .inr (9, [.ref wl2, .ref wb2, .ref we2, .int (iI wz2)])), (wl2, .inl (kA 1, wn2, .inl (aI lt2))), (wb2, .inl (kA 0, wk2, .inl (aI sb2))), (we2, .inl (kA 0, wk2, .inl (aI se2)))]) h)) (li_Qw (S := (Nat → Bool) × (Int) × (Nat → Int) × (Nat → Int) × (Nat → Int)) (dC, dI) CL (fun u => WR wn2 wk2 u.2.1 u.2.2.1 u.2.2.2.1 u.2.2.2.2) (fun u => some (.int (iI (bI ((txL ti ts te tl tc ix tc.toNat 0).any (fun q => ioW b ws (twF t q))))))) (fun u => [(jo, .inr (4, [.ref wo, .ref wo2, .ref jm, .ref jr, .int (iI jy)])), (jr, .inl (kA 2, 101, .inl (zI u.1))), (wo, .inr (9, [.ref wl, .ref wb, .ref we, .int (iI wz)])), (wl, .inl (kA 1, wn, .inl (aI lt))), (wb, .inl (kA 0, wk, .inl (aI sb))), (we, .inl (kA 0, wk, .inl (aI se))), (wo2, .inr (9, [.ref wl2, .ref wb2, .ref we2, .int (iI u.2.1)])), (wl2, .inl (kA 1, wn2, .inl (aI u.2.2.1))), (wb2, .inl (kA 0, wk2, .inl (aI u.2.2.2.1))), (we2, .inl (kA 0, wk2, .inl (aI u.2.2.2.2)))]) (va_A [(jo, .inr (4, [.ref wo, .ref wo2, .ref jm, .ref jr, .int (iI jy)])), (jr, .inl (kA 2, 101, .inl (zI rc))), (wo, .inr (9, [.ref wl, .ref wb, .ref we, .int (iI wz)])), (wl, .inl (kA 1, wn, .inl (aI lt))), (wb, .inl (kA 0, wk, .inl (aI sb))), (we, .inl (kA 0, wk, .inl (aI se))), (wo2, .inr (9, [.ref wl2, .ref wb2, .ref we2, .int (iI wz2)])), (wl2, .inl (kA 1, wn2, .inl (aI lt2))), (wb2, .inl (kA 0, wk2, .inl (aI sb2))), (we2, .inl (kA 0, wk2, .inl (aI se2)))] sz)) 0 0 (va_A [(jo, .inr (4, [.ref wo, .ref wo2, .ref jm, .ref jr, .int (iI jy)])), (jr, .inl (kA 2, 101, .inl (zI rc))), (wo, .inr (9, [.ref wl, .ref wb, .ref we, .int (iI wz)])), (wl, .inl (kA 1, wn, .inl (aI lt))), (wb, .inl (kA 0, wk, .inl (aI sb))), (we, .inl (kA 0, wk, .inl (aI se))), (wo2, .inr (9, [.ref wl2, .ref wb2, .ref we2, .int (iI wz2)])), (wl2, .inl (kA 1, wn2, .inl (aI lt2))), (wb2, .inl (kA 0, wk2, .inl (aI sb2))), (we2, .inl (kA 0, wk2, .inl (aI se2)))] sz) := by
  refine li_mwi (r := fun (u : (Nat → Bool) × (Int) × (Nat → Int) × (Nat → Int) × (Nat → Int)) => bI ((txL ti ts te tl tc ix tc.toNat 0).any (fun q => ioW b ws (twF t q)))) (by decide) (Nat.le_of_ble_eq_true rfl) (fun u _ => by exact li_narZ2 _) ?_
  intro p e s m args below meth c Q A C hP hD hBx hK hN hG hA hAi hAN fin ls hl
  obtain ⟨hx, hb, hr, hml, hown, hts, hlocks, hin⟩ := C
  have hown : s.vm.findClass R_J = some m.cls := hown
  obtain ⟨hRo, hDj⟩ := hBx
  have hRo : va_P (dC, dI) CL [(ho, .inr (2, [.ref oc, .int (iI fd), .ref xi, .ref xs, .ref xe, .ref xl, .int (iI tc)])), (oc, .inl (kA 1, n, .inl (aI t))), (xi, .inl (kA 0, mx, .inl (aI ti))), (xs, .inl (kA 0, mx, .inl (aI ts))), (xe, .inl (kA 0, mx, .inl (aI te))), (xl, .inl (kA 0, mx, .inl (aI tl)))] s.heap := hRo
  have hRoN := li_roN (A := A) hRo hDj hAi
  have hl : lv_has ls 8 [(0, .ref jo), (1, .ref ho), (2, .int (iI ix)), (3, .int (iI (bI b)))] := hl
  obtain ⟨hwn, hwk, hwz, hlt, hsb, hse⟩ := id hW
  obtain ⟨hn, hmx, htc, ht, hti, hxs, hxe, hxl⟩ := id hH
  have hlw := hWL.len
  suffices h9 : ∀ (H : Heap) (locs : List Loc), H = s.heap → locs = [] → W p l e (rmd 4 0 0) s m args below meth c H locs 0 0 Q (F0 m 0 ls []) from h9 _ _ rfl rfl
  intro H locs eH eL
  have hP : va_P (dC, dI) CL [(jo, .inr (4, [.ref wo, .ref wo2, .ref jm, .ref jr, .int (iI jy)])), (jr, .inl (kA 2, 101, .inl (zI rc))), (wo, .inr (9, [.ref wl, .ref wb, .ref we, .int (iI wz)])), (wl, .inl (kA 1, wn, .inl (aI lt))), (wb, .inl (kA 0, wk, .inl (aI sb))), (we, .inl (kA 0, wk, .inl (aI se))), (wo2, .inr (9, [.ref wl2, .ref wb2, .ref we2, .int (iI wz2)])), (wl2, .inl (kA 1, wn2, .inl (aI lt2))), (wb2, .inl (kA 0, wk2, .inl (aI sb2))), (we2, .inl (kA 0, wk2, .inl (aI se2)))] H := by rw [eH]; exact hP
  have hS : va_S A s.heap H locs := by rw [eH, eL]; exact va_S.rf
  refine lv_iconst (v := iI 0) hx hb d_J_isInOneText_0 rfl ?_
  refine lv_istore (lv' := [(4, .int (iI 0)), (0, .ref jo), (1, .ref ho), (2, .int (iI ix)), (3, .int (iI (bI b)))]) hx hb d_J_isInOneText_1 hl (by decide) rfl (fun ls hl => ?_)
  have K_3 : ∀ (nn_3 : Nat) (t9 : Int) (vr : Nat → Bool) (vz : Int) (vl : Nat → Int) (vb : Nat → Int) (ve : Nat → Int), (0 ≤ t9 ∧ t9 ≤ tc) → (WR wn2 wk2 vz vl vb ve) → ((txL ti ts te tl tc ix (tc - t9).toNat t9).any (fun q => ioW b ws (twF t q)) = (txL ti ts te tl tc ix tc.toNat 0).any (fun q => ioW b ws (twF t q))) → ((tc - t9).toNat < nn_3) → ∀ (H : Heap) (locs : List Loc), va_P (dC, dI) CL [(jo, .inr (4, [.ref wo, .ref wo2, .ref jm, .ref jr, .int (iI jy)])), (jr, .inl (kA 2, 101, .inl (zI vr))), (wo, .inr (9, [.ref wl, .ref wb, .ref we, .int (iI wz)])), (wl, .inl (kA 1, wn, .inl (aI lt))), (wb, .inl (kA 0, wk, .inl (aI sb))), (we, .inl (kA 0, wk, .inl (aI se))), (wo2, .inr (9, [.ref wl2, .ref wb2, .ref we2, .int (iI vz)])), (wl2, .inl (kA 1, wn2, .inl (aI vl))), (wb2, .inl (kA 0, wk2, .inl (aI vb))), (we2, .inl (kA 0, wk2, .inl (aI ve)))] H → va_D A [(jo, .inr (4, [.ref wo, .ref wo2, .ref jm, .ref jr, .int (iI jy)])), (jr, .inl (kA 2, 101, .inl (zI vr))), (wo, .inr (9, [.ref wl, .ref wb, .ref we, .int (iI wz)])), (wl, .inl (kA 1, wn, .inl (aI lt))), (wb, .inl (kA 0, wk, .inl (aI sb))), (we, .inl (kA 0, wk, .inl (aI se))), (wo2, .inr (9, [.ref wl2, .ref wb2, .ref we2, .int (iI vz)])), (wl2, .inl (kA 1, wn2, .inl (aI vl))), (wb2, .inl (kA 0, wk2, .inl (aI vb))), (we2, .inl (kA 0, wk2, .inl (aI ve)))] → va_S A s.heap H locs → ∀ ls : Array Slot, lv_has ls 8 [(4, .int (iI t9)), (0, .ref jo), (1, .ref ho), (2, .int (iI ix)), (3, .int (iI (bI b)))] → W p l e (rmd 4 0 0) s m args below meth c H locs 0 0 Q (F0 m 3 ls []) := by
    intro nn_3
    induction nn_3 with
    | zero => intro t9 vr vz vl vb ve ht9 hWv hres hm; exact absurd hm (Nat.not_lt_zero _)
    | succ nn_3 ih_3 =>
      intro t9 vr vz vl vb ve ht9 hWv hres hm_3 H locs hP hD hS ls hl
      refine lv_iload hx hb d_J_isInOneText_3 (lv_at hl 0 rfl) ?_
      refine lv_aload_n hx hb d_J_isInOneText_5 rfl (lv_at hl 2 rfl) ?_
      refine gf_J_84 hx hb hts hN hown hK (li_ro hRo hRoN hS) 0 rfl rfl d_J_isInOneText_6 ?_
      refine li_icmp_ge (tgt := 100) hx hb d_J_isInOneText_9 (by decide) (by omega) (by omega) (fun c1 => ?_) (fun c1 => ?_)
      · have _q := c1
        rw [show (tc - t9).toNat = 0 by omega] at hres
        simp only [txL, List.any_nil] at hres
        refine lv_iconst (v := iI 0) hx hb d_J_isInOneText_100 rfl ?_
        exact fin (vr, vz, vl, vb, ve) _ _ _ _ _ (by exact bI_f hres.symm) (by show WR wn2 wk2 vz vl vb ve; first | exact hWv2 | exact hWv) (by first | exact hP | (subst_vars; exact hP)) (by first | exact hD | (subst_vars; exact hD)) hS d_J_isInOneText_101
      · have _q := c1
        rw [txL_e (by omega) (by omega)] at hres
        refine lv_aload_n hx hb d_J_isInOneText_12 rfl (lv_at hl 2 rfl) ?_
        refine lv_iload hx hb d_J_isInOneText_13 (lv_at hl 0 rfl) ?_
        refine lv_iload_n hx hb d_J_isInOneText_15 rfl (lv_at hl 3 rfl) ?_
        refine li_callr ((va_runV (As := [.int (iI t9), .int (iI ix)]) (rest := []) ⟨hx, hb, hml, hown, hts⟩ (c_H_isTextIn l dC dI kA ho oc xi xs xe xl n mx fd tc t ti ts te tl t9 ix (by exact hH) (by omega) (by omega)) (cw_J_87 hts rfl rfl ⟨Nat.le_of_ble_eq_true rfl, Nat.le_of_ble_eq_true rfl⟩) (li_preV (va_recv hK (li_ro hRo hRoN hS) (ci := 2) (q0 := 0) rfl rfl) ((li_ro hRo hRoN hS).sub [0, 1, 2, 3, 4, 5] rfl) hK hN (hG.go hS hAN)) rfl rfl hl.1 rfl (lv_room (Nat.le_of_ble_eq_true rfl)) d_J_isInOneText_16 ⟨(by show 0 + 0 ≤ 0; omega), (by show 0 + 0 ≤ 0; omega)⟩).run) ?_
        refine li_bz (tgt := 94) hx hb d_J_isInOneText_19 (by decide) (fun c2 => ?_) (fun c2 => ?_)
        · have _q := c2
          rw [if_neg (nbt (by assumption))] at hres
          obtain ⟨t_n, et_n⟩ : ∃ y_9 : Int, y_9 = t9 + 1 := ⟨_, rfl⟩
          refine lv_iinc (v := iI t_n) (lv' := [(4, .int (iI t_n)), (0, .ref jo), (1, .ref ho), (2, .int (iI ix)), (3, .int (iI (bI b)))]) hx hb d_J_isInOneText_94 hl (k := 0) rfl (by rw [et_n]; exact iI_add _ _) (by decide) rfl (fun ls hl => ?_)
          refine lv_goto (tgt := 3) hx hb d_J_isInOneText_97 (by decide) ?_
          exact ih_3 t_n vr vz vl vb ve (by omega) (by first | exact hWv2 | exact hWv | exact hW2) (by first | (rw [Int.sub_zero]; done) | (rw [et_n]; exact hres)) (by omega) _ _ hP hD hS _ (lv_sub hl [0, 1, 2, 3, 4] rfl)
        · have _q := c2
          rw [if_pos (by assumption), List.any_cons] at hres
          have h8 := hte t9.toNat
          have h7 := txSt_r (i := t9) (ix := ix) hH
          have h6 : txEn te tc t9 = te t9.toNat := by unfold txEn; rw [if_pos (by omega)]
          refine lv_aload_n hx hb d_J_isInOneText_22 rfl (lv_at hl 1 rfl) ?_
          refine gf_J_20 hx hb hts hown hK hP 0 rfl rfl d_J_isInOneText_23 ?_
          refine lv_aload_n hx hb d_J_isInOneText_26 rfl (lv_at hl 2 rfl) ?_
          refine lv_iload hx hb d_J_isInOneText_27 (lv_at hl 0 rfl) ?_
          refine lv_iload_n hx hb d_J_isInOneText_29 rfl (lv_at hl 3 rfl) ?_
          refine li_callw (wc := [(wo2, .inr (9, [.ref wl2, .ref wb2, .ref we2, .int (iI vz)])), (wl2, .inl (kA 1, wn2, .inl (aI vl))), (wb2, .inl (kA 0, wk2, .inl (aI vb))), (we2, .inl (kA 0, wk2, .inl (aI ve)))]) (wr := [(jo, .inr (4, [.ref wo, .ref wo2, .ref jm, .ref jr, .int (iI jy)])), (jr, .inl (kA 2, 101, .inl (zI vr))), (wo, .inr (9, [.ref wl, .ref wb, .ref we, .int (iI wz)])), (wl, .inl (kA 1, wn, .inl (aI lt))), (wb, .inl (kA 0, wk, .inl (aI sb))), (we, .inl (kA 0, wk, .inl (aI se)))]) (va_runV (As := [.ref ho, .int (iI t9), .int (iI ix)]) (rest := []) ⟨hx, hb, hml, hown, hts⟩ (c_W_readText2 l dC dI kA H.size wo2 wl2 wb2 we2 wn2 wk2 vz vl vb ve ho oc xi xs xe xl n mx fd tc t ti ts te tl t9 ix (by exact hWv) (by exact hH) (by omega) (by omega) (by rw [h6]; omega)) (cw_J_90 hts rfl rfl ⟨Nat.le_of_ble_eq_true rfl, Nat.le_of_ble_eq_true rfl⟩) (li_preV (va_recv hK hP (ci := 9) (q0 := 6) rfl rfl) ⟨rfl, hP.sub [6, 7, 8, 9] rfl, (hD.sub [6, 7, 8, 9] (by decide) rfl).weaken (fun _ _ _ h => hAN _ h), (va_P.app ((li_ro hRo hRoN hS).sub [0] rfl) (va_P.app ((li_ro hRo hRoN hS).sub [1] rfl) (va_P.app ((li_ro hRo hRoN hS).sub [2] rfl) (va_P.app ((li_ro hRo hRoN hS).sub [3] rfl) (va_P.app ((li_ro hRo hRoN hS).sub [4] rfl) ((li_ro hRo hRoN hS).sub [5] rfl)))))), (dj_cons (dj_r (hRoN 0 _ rfl) hD [6, 7, 8, 9] rfl) (dj_cons (dj_r (hRoN 1 _ rfl) hD [6, 7, 8, 9] rfl) (dj_cons (dj_r (hRoN 2 _ rfl) hD [6, 7, 8, 9] rfl) (dj_cons (dj_r (hRoN 3 _ rfl) hD [6, 7, 8, 9] rfl) (dj_cons (dj_r (hRoN 4 _ rfl) hD [6, 7, 8, 9] rfl) (dj_cons (dj_r (hRoN 5 _ rfl) hD [6, 7, 8, 9] rfl) dj_nil))))))⟩ hK hN (hG.go hS hAN)) rfl rfl hl.1 rfl (lv_room (Nat.le_of_ble_eq_true rfl)) d_J_isInOneText_30 ⟨(by show 0 + 0 ≤ 0; omega), (by show 0 + 0 ≤ 0; omega)⟩) hP hD hS hA [6, 7, 8, 9] [0, 1, 2, 3, 4, 5] rfl rfl (by decide) (by decide) (fun u3 H locs hu3 hP hD hS _hk => ?_)
          obtain ⟨w_z, w_l, w_b, w_e⟩ := u3
          have hP : va_P (dC, dI) CL [(jo, .inr (4, [.ref wo, .ref wo2, .ref jm, .ref jr, .int (iI jy)])), (jr, .inl (kA 2, 101, .inl (zI vr))), (wo, .inr (9, [.ref wl, .ref wb, .ref we, .int (iI wz)])), (wl, .inl (kA 1, wn, .inl (aI lt))), (wb, .inl (kA 0, wk, .inl (aI sb))), (we, .inl (kA 0, wk, .inl (aI se))), (wo2, .inr (9, [.ref wl2, .ref wb2, .ref we2, .int (iI w_z)])), (wl2, .inl (kA 1, wn2, .inl (aI w_l))), (wb2, .inl (kA 0, wk2, .inl (aI w_b))), (we2, .inl (kA 0, wk2, .inl (aI w_e)))] H := hP
          have hD : va_D A [(jo, .inr (4, [.ref wo, .ref wo2, .ref jm, .ref jr, .int (iI jy)])), (jr, .inl (kA 2, 101, .inl (zI vr))), (wo, .inr (9, [.ref wl, .ref wb, .ref we, .int (iI wz)])), (wl, .inl (kA 1, wn, .inl (aI lt))), (wb, .inl (kA 0, wk, .inl (aI sb))), (we, .inl (kA 0, wk, .inl (aI se))), (wo2, .inr (9, [.ref wl2, .ref wb2, .ref we2, .int (iI w_z)])), (wl2, .inl (kA 1, wn2, .inl (aI w_l))), (wb2, .inl (kA 0, wk2, .inl (aI w_b))), (we2, .inl (kA 0, wk2, .inl (aI w_e)))] := hD
          have hp30 : WR wn2 wk2 w_z w_l w_b w_e ∧ WL (wsF t false (txSt ts te tl tc t9 ix) (txEn te tc t9)) w_z w_l w_b w_e := hu3
          obtain ⟨hWv2, hWL2⟩ := hp30
          have hWL2 : WL (twF t (txSt ts te tl tc t9 ix, txEn te tc t9)) w_z w_l w_b w_e := hWL2
          have hlw2 := hWL2.len
          obtain ⟨_, _, hwz9, _, _, _⟩ := id hWv2
          refine lv_aload_n hx hb d_J_isInOneText_33 rfl (lv_at hl 1 rfl) ?_
          refine gf_J_20 hx hb hts hown hK hP 0 rfl rfl d_J_isInOneText_34 ?_
          refine gf_J_73 hx hb hts hN hown hK hP 6 rfl rfl d_J_isInOneText_37 ?_
          refine lv_aload_n hx hb d_J_isInOneText_40 rfl (lv_at hl 1 rfl) ?_
          refine gf_J_14 hx hb hts hown hK hP 0 rfl rfl d_J_isInOneText_41 ?_
          refine gf_J_73 hx hb hts hN hown hK hP 2 rfl rfl d_J_isInOneText_44 ?_
          refine li_isub hx hb d_J_isInOneText_47 ?_
          refine li_nm (fun su esu => ?_)
          refine lv_istore (lv' := [(5, .int (iI su)), (4, .int (iI t9)), (0, .ref jo), (1, .ref ho), (2, .int (iI ix)), (3, .int (iI (bI b)))]) hx hb d_J_isInOneText_48 hl (by decide) rfl (fun ls hl => ?_)
          refine lv_iload_n hx hb d_J_isInOneText_50 rfl (lv_at hl 5 rfl) ?_
          refine li_bz (tgt := 63) hx hb d_J_isInOneText_51 (by decide) (fun c4 => ?_) (fun c4 => ?_)
          · have _q := c4
            refine lv_iload hx hb d_J_isInOneText_63 (lv_at hl 0 rfl) ?_
            refine li_nm (fun ls9 els9 => ?_)
            refine lv_istore (lv' := [(6, .int (iI ls9)), (5, .int (iI su)), (4, .int (iI t9)), (0, .ref jo), (1, .ref ho), (2, .int (iI ix)), (3, .int (iI (bI b)))]) hx hb d_J_isInOneText_65 hl (by decide) rfl (fun ls hl => ?_)
            refine lv_iconst (v := iI 0) hx hb d_J_isInOneText_67 rfl ?_
            refine lv_istore (lv' := [(7, .int (iI 0)), (6, .int (iI ls9)), (5, .int (iI su)), (4, .int (iI t9)), (0, .ref jo), (1, .ref ho), (2, .int (iI ix)), (3, .int (iI (bI b)))]) hx hb d_J_isInOneText_68 hl (by decide) rfl (fun ls hl => ?_)
            have K_70 : ∀ (nn_70 : Nat) (j : Int) (vq : Nat → Bool), (0 ≤ j ∧ (j = 0 ∨ j ≤ ls9 + 1)) → ((if b = true then (j = 0 ∨ prW ws (twF t (txSt ts te tl tc t9 ix, txEn te tc t9)) = false) else adW ws ((twF t (txSt ts te tl tc t9 ix, txEn te tc t9)).drop j.toNat) = adW ws (twF t (txSt ts te tl tc t9 ix, txEn te tc t9)))) → ((ls9 + 2 - j).toNat < nn_70) → ∀ (H : Heap) (locs : List Loc), va_P (dC, dI) CL [(jo, .inr (4, [.ref wo, .ref wo2, .ref jm, .ref jr, .int (iI jy)])), (jr, .inl (kA 2, 101, .inl (zI vq))), (wo, .inr (9, [.ref wl, .ref wb, .ref we, .int (iI wz)])), (wl, .inl (kA 1, wn, .inl (aI lt))), (wb, .inl (kA 0, wk, .inl (aI sb))), (we, .inl (kA 0, wk, .inl (aI se))), (wo2, .inr (9, [.ref wl2, .ref wb2, .ref we2, .int (iI w_z)])), (wl2, .inl (kA 1, wn2, .inl (aI w_l))), (wb2, .inl (kA 0, wk2, .inl (aI w_b))), (we2, .inl (kA 0, wk2, .inl (aI w_e)))] H → va_D A [(jo, .inr (4, [.ref wo, .ref wo2, .ref jm, .ref jr, .int (iI jy)])), (jr, .inl (kA 2, 101, .inl (zI vq))), (wo, .inr (9, [.ref wl, .ref wb, .ref we, .int (iI wz)])), (wl, .inl (kA 1, wn, .inl (aI lt))), (wb, .inl (kA 0, wk, .inl (aI sb))), (we, .inl (kA 0, wk, .inl (aI se))), (wo2, .inr (9, [.ref wl2, .ref wb2, .ref we2, .int (iI w_z)])), (wl2, .inl (kA 1, wn2, .inl (aI w_l))), (wb2, .inl (kA 0, wk2, .inl (aI w_b))), (we2, .inl (kA 0, wk2, .inl (aI w_e)))] → va_S A s.heap H locs → ∀ ls : Array Slot, lv_has ls 8 [(7, .int (iI j)), (6, .int (iI ls9)), (5, .int (iI su)), (4, .int (iI t9)), (0, .ref jo), (1, .ref ho), (2, .int (iI ix)), (3, .int (iI (bI b)))] → W p l e (rmd 4 0 0) s m args below meth c H locs 0 0 Q (F0 m 70 ls []) := by
              intro nn_70
              induction nn_70 with
              | zero => intro j vq hj9 hin hm; exact absurd hm (Nat.not_lt_zero _)
              | succ nn_70 ih_70 =>
                intro j vq hj9 hin hm_70 H locs hP hD hS ls hl
                refine lv_iload hx hb d_J_isInOneText_70 (lv_at hl 0 rfl) ?_
                refine lv_iload hx hb d_J_isInOneText_72 (lv_at hl 1 rfl) ?_
                refine li_icmp_gt (tgt := 94) hx hb d_J_isInOneText_74 (by decide) (by omega) (by omega) (fun c5 => ?_) (fun c5 => ?_)
                · have _q := c5
                  obtain ⟨t_n, et_n⟩ : ∃ y_9 : Int, y_9 = t9 + 1 := ⟨_, rfl⟩
                  refine lv_iinc (v := iI t_n) (lv' := [(4, .int (iI t_n)), (7, .int (iI j)), (6, .int (iI ls9)), (5, .int (iI su)), (0, .ref jo), (1, .ref ho), (2, .int (iI ix)), (3, .int (iI (bI b)))]) hx hb d_J_isInOneText_94 hl (k := 3) rfl (by rw [et_n]; exact iI_add _ _) (by decide) rfl (fun ls hl => ?_)
                  refine lv_goto (tgt := 3) hx hb d_J_isInOneText_97 (by decide) ?_
                  exact ih_3 t_n vq w_z w_l w_b w_e (by omega) (by first | exact hWv2 | exact hWv | exact hW2) (by rw [et_n]; rw [show ioW b ws (twF t (txSt ts te tl tc t9 ix, txEn te tc t9)) = false from by (unfold ioW; first | (have hb9 : b = true := (by assumption); rw [if_pos hb9] at hin; rw [if_pos hb9]; exact if h9 : (twF t (txSt ts te tl tc t9 ix, txEn te tc t9)).length = ws.length then (by rw [decide_eq_true h9, Bool.true_and]; rcases hin with h5 | h5; (exfalso; omega); exact h5) else (by rw [decide_eq_false h9, Bool.false_and])) | (have hb9 : ¬ b = true := nbt (by assumption); rw [if_neg hb9] at hin; rw [if_neg hb9, ← hin]; exact adW_short _ _ (by rw [List.length_drop]; omega))), Bool.false_or] at hres; exact hres) (by omega) _ _ hP hD hS _ (lv_sub hl [0, 4, 5, 6, 7] rfl)
                · have _q := c5
                  refine lv_aload_n hx hb d_J_isInOneText_77 rfl (lv_at hl 4 rfl) ?_
                  refine lv_iload hx hb d_J_isInOneText_78 (lv_at hl 0 rfl) ?_
                  refine li_callw (wc := [(jo, .inr (4, [.ref wo, .ref wo2, .ref jm, .ref jr, .int (iI jy)])), (jr, .inl (kA 2, 101, .inl (zI vq))), (wo, .inr (9, [.ref wl, .ref wb, .ref we, .int (iI wz)])), (wl, .inl (kA 1, wn, .inl (aI lt))), (wb, .inl (kA 0, wk, .inl (aI sb))), (we, .inl (kA 0, wk, .inl (aI se))), (wo2, .inr (9, [.ref wl2, .ref wb2, .ref we2, .int (iI w_z)])), (wl2, .inl (kA 1, wn2, .inl (aI w_l))), (wb2, .inl (kA 0, wk2, .inl (aI w_b))), (we2, .inl (kA 0, wk2, .inl (aI w_e)))]) (wr := []) (va_runV (As := [.int (iI j)]) (rest := []) ⟨hx, hb, hml, hown, hts⟩ (c_J_matchesFrom l dC dI kA H.size jo wo wl wb we wn wk wz lt sb se wo2 wl2 wb2 we2 wn2 wk2 w_z w_l w_b w_e jm jr jy vq ws (twF t (txSt ts te tl tc t9 ix, txEn te tc t9)) j (by exact hW) (by first | exact hWv2 | exact hWv) (by exact hWL) (by exact hWL2) (by omega) (by omega)) (cw_J_100 hts rfl rfl ⟨Nat.le_of_ble_eq_true rfl, Nat.le_of_ble_eq_true rfl⟩) (li_preV (va_recv hK hP (ci := 4) (q0 := 0) rfl rfl) ⟨rfl, hP.sub [0, 1, 2, 3, 4, 5, 6, 7, 8, 9] rfl, (hD.sub [0, 1, 2, 3, 4, 5, 6, 7, 8, 9] (by decide) rfl).weaken (fun _ _ _ h => hAN _ h), trivial⟩ hK hN (hG.go hS hAN)) rfl rfl hl.1 rfl (lv_room (Nat.le_of_ble_eq_true rfl)) d_J_isInOneText_80 ⟨(by show 0 + 0 ≤ 0; omega), (by show 0 + 0 ≤ 0; omega)⟩) hP hD hS hA [0, 1, 2, 3, 4, 5, 6, 7, 8, 9] [] rfl rfl (by decide) (by decide) (fun f_r H locs hf_r hP hD hS _hk => ?_)
                  have hP : va_P (dC, dI) CL [(jo, .inr (4, [.ref wo, .ref wo2, .ref jm, .ref jr, .int (iI jy)])), (jr, .inl (kA 2, 101, .inl (zI f_r))), (wo, .inr (9, [.ref wl, .ref wb, .ref we, .int (iI wz)])), (wl, .inl (kA 1, wn, .inl (aI lt))), (wb, .inl (kA 0, wk, .inl (aI sb))), (we, .inl (kA 0, wk, .inl (aI se))), (wo2, .inr (9, [.ref wl2, .ref wb2, .ref we2, .int (iI w_z)])), (wl2, .inl (kA 1, wn2, .inl (aI w_l))), (wb2, .inl (kA 0, wk2, .inl (aI w_b))), (we2, .inl (kA 0, wk2, .inl (aI w_e)))] H := hP
                  have hD : va_D A [(jo, .inr (4, [.ref wo, .ref wo2, .ref jm, .ref jr, .int (iI jy)])), (jr, .inl (kA 2, 101, .inl (zI f_r))), (wo, .inr (9, [.ref wl, .ref wb, .ref we, .int (iI wz)])), (wl, .inl (kA 1, wn, .inl (aI lt))), (wb, .inl (kA 0, wk, .inl (aI sb))), (we, .inl (kA 0, wk, .inl (aI se))), (wo2, .inr (9, [.ref wl2, .ref wb2, .ref we2, .int (iI w_z)])), (wl2, .inl (kA 1, wn2, .inl (aI w_l))), (wb2, .inl (kA 0, wk2, .inl (aI w_b))), (we2, .inl (kA 0, wk2, .inl (aI w_e)))] := hD
                  refine W.eq (g2 := F0 m 83 ls [.int (iI (bI (prW ws ((twF t (txSt ts te tl tc t9 ix, txEn te tc t9)).drop j.toNat))))]) rfl ?_
                  refine li_bz (tgt := 88) hx hb d_J_isInOneText_83 (by decide) (fun c7 => ?_) (fun c7 => ?_)
                  · have _q := c7
                    obtain ⟨j_n, ej_n⟩ : ∃ y_9 : Int, y_9 = j + 1 := ⟨_, rfl⟩
                    refine lv_iinc (v := iI j_n) (lv' := [(7, .int (iI j_n)), (6, .int (iI ls9)), (5, .int (iI su)), (4, .int (iI t9)), (0, .ref jo), (1, .ref ho), (2, .int (iI ix)), (3, .int (iI (bI b)))]) hx hb d_J_isInOneText_88 hl (k := 0) rfl (by rw [ej_n]; exact iI_add _ _) (by decide) rfl (fun ls hl => ?_)
                    refine lv_goto (tgt := 70) hx hb d_J_isInOneText_91 (by decide) ?_
                    exact ih_70 j_n f_r (by omega) (by first | (have hb9 : b = true := (by assumption); rw [if_pos hb9] at hin; rw [if_pos hb9]; exact Or.inr (by rcases hin with h5 | h5; (rw [← show prW ws ((twF t (txSt ts te tl tc t9 ix, txEn te tc t9)).drop j.toNat) = false by assumption, h5]; rfl); exact h5)) | (have hb9 : ¬ b = true := nbt (by assumption); rw [if_neg hb9] at hin; rw [if_neg hb9]; rw [ej_n, ← hin, hWL2.drop (i := j) (by omega) (by omega)]; simp only [adW]; rw [← hWL2.drop (i := j) (by omega) (by omega), show prW ws ((twF t (txSt ts te tl tc t9 ix, txEn te tc t9)).drop j.toNat) = false by assumption, Bool.false_or])) (by omega) _ _ hP hD hS _ (lv_sub hl [0, 1, 2, 3, 4, 5, 6, 7] rfl)
                  · have _q := c7
                    refine lv_iconst (v := iI 1) hx hb d_J_isInOneText_86 rfl ?_
                    exact fin (f_r, w_z, w_l, w_b, w_e) _ _ _ _ _ (by refine bI_t ?_; rw [← hres, show ioW b ws (twF t (txSt ts te tl tc t9 ix, txEn te tc t9)) = true from by (unfold ioW; first | (have hb9 : b = true := (by assumption); rw [if_pos hb9] at hin; rw [if_pos hb9]; have hj0 : j = 0 := (by omega); have h5 : prW ws ((twF t (txSt ts te tl tc t9 ix, txEn te tc t9)).drop j.toNat) = true := (by assumption); rw [hj0] at h5; rw [decide_eq_true (by omega), Bool.true_and]; exact h5) | (have hb9 : ¬ b = true := nbt (by assumption); rw [if_neg hb9] at hin; rw [if_neg hb9, ← hin]; exact adW_of (by assumption))), Bool.true_or]) (by show WR wn2 wk2 w_z w_l w_b w_e; first | exact hWv2 | exact hWv) (by first | exact hP | (subst_vars; exact hP)) (by first | exact hD | (subst_vars; exact hD)) hS d_J_isInOneText_87
            exact K_70 ((ls9 + 2 - 0).toNat + 1) 0 vr (by omega) (by first | (rw [if_pos (show b = true by assumption)]; exact Or.inl rfl) | (rw [if_neg (nbt (show b = false by assumption))]; rfl)) (Nat.lt_succ_self _) _ _ hP hD hS _ (lv_sub hl [0, 1, 2, 3, 4, 5, 6, 7] rfl)
          · have _q := c4
            refine lv_iload hx hb d_J_isInOneText_54 (lv_at hl 0 rfl) ?_
            refine li_if_le (tgt := 63) hx hb d_J_isInOneText_56 (by decide) (by omega) (fun c8 => ?_) (fun c8 => ?_)
            · have _q := c8
              refine lv_iload hx hb d_J_isInOneText_63 (lv_at hl 0 rfl) ?_
              refine li_nm (fun ls9 els9 => ?_)
              refine lv_istore (lv' := [(6, .int (iI ls9)), (5, .int (iI su)), (4, .int (iI t9)), (0, .ref jo), (1, .ref ho), (2, .int (iI ix)), (3, .int (iI (bI b)))]) hx hb d_J_isInOneText_65 hl (by decide) rfl (fun ls hl => ?_)
              refine lv_iconst (v := iI 0) hx hb d_J_isInOneText_67 rfl ?_
              refine lv_istore (lv' := [(7, .int (iI 0)), (6, .int (iI ls9)), (5, .int (iI su)), (4, .int (iI t9)), (0, .ref jo), (1, .ref ho), (2, .int (iI ix)), (3, .int (iI (bI b)))]) hx hb d_J_isInOneText_68 hl (by decide) rfl (fun ls hl => ?_)
              have K_70 : ∀ (nn_70 : Nat) (j : Int) (vq : Nat → Bool), (0 ≤ j ∧ (j = 0 ∨ j ≤ ls9 + 1)) → ((if b = true then (j = 0 ∨ prW ws (twF t (txSt ts te tl tc t9 ix, txEn te tc t9)) = false) else adW ws ((twF t (txSt ts te tl tc t9 ix, txEn te tc t9)).drop j.toNat) = adW ws (twF t (txSt ts te tl tc t9 ix, txEn te tc t9)))) → ((ls9 + 2 - j).toNat < nn_70) → ∀ (H : Heap) (locs : List Loc), va_P (dC, dI) CL [(jo, .inr (4, [.ref wo, .ref wo2, .ref jm, .ref jr, .int (iI jy)])), (jr, .inl (kA 2, 101, .inl (zI vq))), (wo, .inr (9, [.ref wl, .ref wb, .ref we, .int (iI wz)])), (wl, .inl (kA 1, wn, .inl (aI lt))), (wb, .inl (kA 0, wk, .inl (aI sb))), (we, .inl (kA 0, wk, .inl (aI se))), (wo2, .inr (9, [.ref wl2, .ref wb2, .ref we2, .int (iI w_z)])), (wl2, .inl (kA 1, wn2, .inl (aI w_l))), (wb2, .inl (kA 0, wk2, .inl (aI w_b))), (we2, .inl (kA 0, wk2, .inl (aI w_e)))] H → va_D A [(jo, .inr (4, [.ref wo, .ref wo2, .ref jm, .ref jr, .int (iI jy)])), (jr, .inl (kA 2, 101, .inl (zI vq))), (wo, .inr (9, [.ref wl, .ref wb, .ref we, .int (iI wz)])), (wl, .inl (kA 1, wn, .inl (aI lt))), (wb, .inl (kA 0, wk, .inl (aI sb))), (we, .inl (kA 0, wk, .inl (aI se))), (wo2, .inr (9, [.ref wl2, .ref wb2, .ref we2, .int (iI w_z)])), (wl2, .inl (kA 1, wn2, .inl (aI w_l))), (wb2, .inl (kA 0, wk2, .inl (aI w_b))), (we2, .inl (kA 0, wk2, .inl (aI w_e)))] → va_S A s.heap H locs → ∀ ls : Array Slot, lv_has ls 8 [(7, .int (iI j)), (6, .int (iI ls9)), (5, .int (iI su)), (4, .int (iI t9)), (0, .ref jo), (1, .ref ho), (2, .int (iI ix)), (3, .int (iI (bI b)))] → W p l e (rmd 4 0 0) s m args below meth c H locs 0 0 Q (F0 m 70 ls []) := by
                intro nn_70
                induction nn_70 with
                | zero => intro j vq hj9 hin hm; exact absurd hm (Nat.not_lt_zero _)
                | succ nn_70 ih_70 =>
                  intro j vq hj9 hin hm_70 H locs hP hD hS ls hl
                  refine lv_iload hx hb d_J_isInOneText_70 (lv_at hl 0 rfl) ?_
                  refine lv_iload hx hb d_J_isInOneText_72 (lv_at hl 1 rfl) ?_
                  refine li_icmp_gt (tgt := 94) hx hb d_J_isInOneText_74 (by decide) (by omega) (by omega) (fun c9 => ?_) (fun c9 => ?_)
                  · have _q := c9
                    obtain ⟨t_n, et_n⟩ : ∃ y_9 : Int, y_9 = t9 + 1 := ⟨_, rfl⟩
                    refine lv_iinc (v := iI t_n) (lv' := [(4, .int (iI t_n)), (7, .int (iI j)), (6, .int (iI ls9)), (5, .int (iI su)), (0, .ref jo), (1, .ref ho), (2, .int (iI ix)), (3, .int (iI (bI b)))]) hx hb d_J_isInOneText_94 hl (k := 3) rfl (by rw [et_n]; exact iI_add _ _) (by decide) rfl (fun ls hl => ?_)
                    refine lv_goto (tgt := 3) hx hb d_J_isInOneText_97 (by decide) ?_
                    exact ih_3 t_n vq w_z w_l w_b w_e (by omega) (by first | exact hWv2 | exact hWv | exact hW2) (by rw [et_n]; rw [show ioW b ws (twF t (txSt ts te tl tc t9 ix, txEn te tc t9)) = false from by (unfold ioW; first | (have hb9 : b = true := (by assumption); rw [if_pos hb9] at hin; rw [if_pos hb9]; exact if h9 : (twF t (txSt ts te tl tc t9 ix, txEn te tc t9)).length = ws.length then (by rw [decide_eq_true h9, Bool.true_and]; rcases hin with h5 | h5; (exfalso; omega); exact h5) else (by rw [decide_eq_false h9, Bool.false_and])) | (have hb9 : ¬ b = true := nbt (by assumption); rw [if_neg hb9] at hin; rw [if_neg hb9, ← hin]; exact adW_short _ _ (by rw [List.length_drop]; omega))), Bool.false_or] at hres; exact hres) (by omega) _ _ hP hD hS _ (lv_sub hl [0, 4, 5, 6, 7] rfl)
                  · have _q := c9
                    refine lv_aload_n hx hb d_J_isInOneText_77 rfl (lv_at hl 4 rfl) ?_
                    refine lv_iload hx hb d_J_isInOneText_78 (lv_at hl 0 rfl) ?_
                    refine li_callw (wc := [(jo, .inr (4, [.ref wo, .ref wo2, .ref jm, .ref jr, .int (iI jy)])), (jr, .inl (kA 2, 101, .inl (zI vq))), (wo, .inr (9, [.ref wl, .ref wb, .ref we, .int (iI wz)])), (wl, .inl (kA 1, wn, .inl (aI lt))), (wb, .inl (kA 0, wk, .inl (aI sb))), (we, .inl (kA 0, wk, .inl (aI se))), (wo2, .inr (9, [.ref wl2, .ref wb2, .ref we2, .int (iI w_z)])), (wl2, .inl (kA 1, wn2, .inl (aI w_l))), (wb2, .inl (kA 0, wk2, .inl (aI w_b))), (we2, .inl (kA 0, wk2, .inl (aI w_e)))]) (wr := []) (va_runV (As := [.int (iI j)]) (rest := []) ⟨hx, hb, hml, hown, hts⟩ (c_J_matchesFrom l dC dI kA H.size jo wo wl wb we wn wk wz lt sb se wo2 wl2 wb2 we2 wn2 wk2 w_z w_l w_b w_e jm jr jy vq ws (twF t (txSt ts te tl tc t9 ix, txEn te tc t9)) j (by exact hW) (by first | exact hWv2 | exact hWv) (by exact hWL) (by exact hWL2) (by omega) (by omega)) (cw_J_100 hts rfl rfl ⟨Nat.le_of_ble_eq_true rfl, Nat.le_of_ble_eq_true rfl⟩) (li_preV (va_recv hK hP (ci := 4) (q0 := 0) rfl rfl) ⟨rfl, hP.sub [0, 1, 2, 3, 4, 5, 6, 7, 8, 9] rfl, (hD.sub [0, 1, 2, 3, 4, 5, 6, 7, 8, 9] (by decide) rfl).weaken (fun _ _ _ h => hAN _ h), trivial⟩ hK hN (hG.go hS hAN)) rfl rfl hl.1 rfl (lv_room (Nat.le_of_ble_eq_true rfl)) d_J_isInOneText_80 ⟨(by show 0 + 0 ≤ 0; omega), (by show 0 + 0 ≤ 0; omega)⟩) hP hD hS hA [0, 1, 2, 3, 4, 5, 6, 7, 8, 9] [] rfl rfl (by decide) (by decide) (fun f_r H locs hf_r hP hD hS _hk => ?_)
                    have hP : va_P (dC, dI) CL [(jo, .inr (4, [.ref wo, .ref wo2, .ref jm, .ref jr, .int (iI jy)])), (jr, .inl (kA 2, 101, .inl (zI f_r))), (wo, .inr (9, [.ref wl, .ref wb, .ref we, .int (iI wz)])), (wl, .inl (kA 1, wn, .inl (aI lt))), (wb, .inl (kA 0, wk, .inl (aI sb))), (we, .inl (kA 0, wk, .inl (aI se))), (wo2, .inr (9, [.ref wl2, .ref wb2, .ref we2, .int (iI w_z)])), (wl2, .inl (kA 1, wn2, .inl (aI w_l))), (wb2, .inl (kA 0, wk2, .inl (aI w_b))), (we2, .inl (kA 0, wk2, .inl (aI w_e)))] H := hP
                    have hD : va_D A [(jo, .inr (4, [.ref wo, .ref wo2, .ref jm, .ref jr, .int (iI jy)])), (jr, .inl (kA 2, 101, .inl (zI f_r))), (wo, .inr (9, [.ref wl, .ref wb, .ref we, .int (iI wz)])), (wl, .inl (kA 1, wn, .inl (aI lt))), (wb, .inl (kA 0, wk, .inl (aI sb))), (we, .inl (kA 0, wk, .inl (aI se))), (wo2, .inr (9, [.ref wl2, .ref wb2, .ref we2, .int (iI w_z)])), (wl2, .inl (kA 1, wn2, .inl (aI w_l))), (wb2, .inl (kA 0, wk2, .inl (aI w_b))), (we2, .inl (kA 0, wk2, .inl (aI w_e)))] := hD
                    refine W.eq (g2 := F0 m 83 ls [.int (iI (bI (prW ws ((twF t (txSt ts te tl tc t9 ix, txEn te tc t9)).drop j.toNat))))]) rfl ?_
                    refine li_bz (tgt := 88) hx hb d_J_isInOneText_83 (by decide) (fun c11 => ?_) (fun c11 => ?_)
                    · have _q := c11
                      obtain ⟨j_n, ej_n⟩ : ∃ y_9 : Int, y_9 = j + 1 := ⟨_, rfl⟩
                      refine lv_iinc (v := iI j_n) (lv' := [(7, .int (iI j_n)), (6, .int (iI ls9)), (5, .int (iI su)), (4, .int (iI t9)), (0, .ref jo), (1, .ref ho), (2, .int (iI ix)), (3, .int (iI (bI b)))]) hx hb d_J_isInOneText_88 hl (k := 0) rfl (by rw [ej_n]; exact iI_add _ _) (by decide) rfl (fun ls hl => ?_)
                      refine lv_goto (tgt := 70) hx hb d_J_isInOneText_91 (by decide) ?_
                      exact ih_70 j_n f_r (by omega) (by first | (have hb9 : b = true := (by assumption); rw [if_pos hb9] at hin; rw [if_pos hb9]; exact Or.inr (by rcases hin with h5 | h5; (rw [← show prW ws ((twF t (txSt ts te tl tc t9 ix, txEn te tc t9)).drop j.toNat) = false by assumption, h5]; rfl); exact h5)) | (have hb9 : ¬ b = true := nbt (by assumption); rw [if_neg hb9] at hin; rw [if_neg hb9]; rw [ej_n, ← hin, hWL2.drop (i := j) (by omega) (by omega)]; simp only [adW]; rw [← hWL2.drop (i := j) (by omega) (by omega), show prW ws ((twF t (txSt ts te tl tc t9 ix, txEn te tc t9)).drop j.toNat) = false by assumption, Bool.false_or])) (by omega) _ _ hP hD hS _ (lv_sub hl [0, 1, 2, 3, 4, 5, 6, 7] rfl)
                    · have _q := c11
                      refine lv_iconst (v := iI 1) hx hb d_J_isInOneText_86 rfl ?_
                      exact fin (f_r, w_z, w_l, w_b, w_e) _ _ _ _ _ (by refine bI_t ?_; rw [← hres, show ioW b ws (twF t (txSt ts te tl tc t9 ix, txEn te tc t9)) = true from by (unfold ioW; first | (have hb9 : b = true := (by assumption); rw [if_pos hb9] at hin; rw [if_pos hb9]; have hj0 : j = 0 := (by omega); have h5 : prW ws ((twF t (txSt ts te tl tc t9 ix, txEn te tc t9)).drop j.toNat) = true := (by assumption); rw [hj0] at h5; rw [decide_eq_true (by omega), Bool.true_and]; exact h5) | (have hb9 : ¬ b = true := nbt (by assumption); rw [if_neg hb9] at hin; rw [if_neg hb9, ← hin]; exact adW_of (by assumption))), Bool.true_or]) (by show WR wn2 wk2 w_z w_l w_b w_e; first | exact hWv2 | exact hWv) (by first | exact hP | (subst_vars; exact hP)) (by first | exact hD | (subst_vars; exact hD)) hS d_J_isInOneText_87
              exact K_70 ((ls9 + 2 - 0).toNat + 1) 0 vr (by omega) (by first | (rw [if_pos (show b = true by assumption)]; exact Or.inl rfl) | (rw [if_neg (nbt (show b = false by assumption))]; rfl)) (Nat.lt_succ_self _) _ _ hP hD hS _ (lv_sub hl [0, 1, 2, 3, 4, 5, 6, 7] rfl)
            · have _q := c8
              refine lv_iconst (v := iI (-1)) hx hb d_J_isInOneText_59 rfl ?_
              refine lv_goto (tgt := 65) hx hb d_J_isInOneText_60 (by decide) ?_
              refine li_nm (fun ls9 els9 => ?_)
              refine lv_istore (lv' := [(6, .int (iI ls9)), (5, .int (iI su)), (4, .int (iI t9)), (0, .ref jo), (1, .ref ho), (2, .int (iI ix)), (3, .int (iI (bI b)))]) hx hb d_J_isInOneText_65 hl (by decide) rfl (fun ls hl => ?_)
              refine lv_iconst (v := iI 0) hx hb d_J_isInOneText_67 rfl ?_
              refine lv_istore (lv' := [(7, .int (iI 0)), (6, .int (iI ls9)), (5, .int (iI su)), (4, .int (iI t9)), (0, .ref jo), (1, .ref ho), (2, .int (iI ix)), (3, .int (iI (bI b)))]) hx hb d_J_isInOneText_68 hl (by decide) rfl (fun ls hl => ?_)
              have K_70 : ∀ (nn_70 : Nat) (j : Int) (vq : Nat → Bool), (0 ≤ j ∧ (j = 0 ∨ j ≤ ls9 + 1)) → ((if b = true then (j = 0 ∨ prW ws (twF t (txSt ts te tl tc t9 ix, txEn te tc t9)) = false) else adW ws ((twF t (txSt ts te tl tc t9 ix, txEn te tc t9)).drop j.toNat) = adW ws (twF t (txSt ts te tl tc t9 ix, txEn te tc t9)))) → ((ls9 + 2 - j).toNat < nn_70) → ∀ (H : Heap) (locs : List Loc), va_P (dC, dI) CL [(jo, .inr (4, [.ref wo, .ref wo2, .ref jm, .ref jr, .int (iI jy)])), (jr, .inl (kA 2, 101, .inl (zI vq))), (wo, .inr (9, [.ref wl, .ref wb, .ref we, .int (iI wz)])), (wl, .inl (kA 1, wn, .inl (aI lt))), (wb, .inl (kA 0, wk, .inl (aI sb))), (we, .inl (kA 0, wk, .inl (aI se))), (wo2, .inr (9, [.ref wl2, .ref wb2, .ref we2, .int (iI w_z)])), (wl2, .inl (kA 1, wn2, .inl (aI w_l))), (wb2, .inl (kA 0, wk2, .inl (aI w_b))), (we2, .inl (kA 0, wk2, .inl (aI w_e)))] H → va_D A [(jo, .inr (4, [.ref wo, .ref wo2, .ref jm, .ref jr, .int (iI jy)])), (jr, .inl (kA 2, 101, .inl (zI vq))), (wo, .inr (9, [.ref wl, .ref wb, .ref we, .int (iI wz)])), (wl, .inl (kA 1, wn, .inl (aI lt))), (wb, .inl (kA 0, wk, .inl (aI sb))), (we, .inl (kA 0, wk, .inl (aI se))), (wo2, .inr (9, [.ref wl2, .ref wb2, .ref we2, .int (iI w_z)])), (wl2, .inl (kA 1, wn2, .inl (aI w_l))), (wb2, .inl (kA 0, wk2, .inl (aI w_b))), (we2, .inl (kA 0, wk2, .inl (aI w_e)))] → va_S A s.heap H locs → ∀ ls : Array Slot, lv_has ls 8 [(7, .int (iI j)), (6, .int (iI ls9)), (5, .int (iI su)), (4, .int (iI t9)), (0, .ref jo), (1, .ref ho), (2, .int (iI ix)), (3, .int (iI (bI b)))] → W p l e (rmd 4 0 0) s m args below meth c H locs 0 0 Q (F0 m 70 ls []) := by
                intro nn_70
                induction nn_70 with
                | zero => intro j vq hj9 hin hm; exact absurd hm (Nat.not_lt_zero _)
                | succ nn_70 ih_70 =>
                  intro j vq hj9 hin hm_70 H locs hP hD hS ls hl
                  refine lv_iload hx hb d_J_isInOneText_70 (lv_at hl 0 rfl) ?_
                  refine lv_iload hx hb d_J_isInOneText_72 (lv_at hl 1 rfl) ?_
                  refine li_icmp_gt (tgt := 94) hx hb d_J_isInOneText_74 (by decide) (by omega) (by omega) (fun c12 => ?_) (fun c12 => ?_)
                  · have _q := c12
                    obtain ⟨t_n, et_n⟩ : ∃ y_9 : Int, y_9 = t9 + 1 := ⟨_, rfl⟩
                    refine lv_iinc (v := iI t_n) (lv' := [(4, .int (iI t_n)), (7, .int (iI j)), (6, .int (iI ls9)), (5, .int (iI su)), (0, .ref jo), (1, .ref ho), (2, .int (iI ix)), (3, .int (iI (bI b)))]) hx hb d_J_isInOneText_94 hl (k := 3) rfl (by rw [et_n]; exact iI_add _ _) (by decide) rfl (fun ls hl => ?_)
                    refine lv_goto (tgt := 3) hx hb d_J_isInOneText_97 (by decide) ?_
                    exact ih_3 t_n vq w_z w_l w_b w_e (by omega) (by first | exact hWv2 | exact hWv | exact hW2) (by rw [et_n]; rw [show ioW b ws (twF t (txSt ts te tl tc t9 ix, txEn te tc t9)) = false from by (unfold ioW; first | (have hb9 : b = true := (by assumption); rw [if_pos hb9] at hin; rw [if_pos hb9]; exact if h9 : (twF t (txSt ts te tl tc t9 ix, txEn te tc t9)).length = ws.length then (by rw [decide_eq_true h9, Bool.true_and]; rcases hin with h5 | h5; (exfalso; omega); exact h5) else (by rw [decide_eq_false h9, Bool.false_and])) | (have hb9 : ¬ b = true := nbt (by assumption); rw [if_neg hb9] at hin; rw [if_neg hb9, ← hin]; exact adW_short _ _ (by rw [List.length_drop]; omega))), Bool.false_or] at hres; exact hres) (by omega) _ _ hP hD hS _ (lv_sub hl [0, 4, 5, 6, 7] rfl)
                  · have _q := c12
                    refine lv_aload_n hx hb d_J_isInOneText_77 rfl (lv_at hl 4 rfl) ?_
                    refine lv_iload hx hb d_J_isInOneText_78 (lv_at hl 0 rfl) ?_
                    refine li_callw (wc := [(jo, .inr (4, [.ref wo, .ref wo2, .ref jm, .ref jr, .int (iI jy)])), (jr, .inl (kA 2, 101, .inl (zI vq))), (wo, .inr (9, [.ref wl, .ref wb, .ref we, .int (iI wz)])), (wl, .inl (kA 1, wn, .inl (aI lt))), (wb, .inl (kA 0, wk, .inl (aI sb))), (we, .inl (kA 0, wk, .inl (aI se))), (wo2, .inr (9, [.ref wl2, .ref wb2, .ref we2, .int (iI w_z)])), (wl2, .inl (kA 1, wn2, .inl (aI w_l))), (wb2, .inl (kA 0, wk2, .inl (aI w_b))), (we2, .inl (kA 0, wk2, .inl (aI w_e)))]) (wr := []) (va_runV (As := [.int (iI j)]) (rest := []) ⟨hx, hb, hml, hown, hts⟩ (c_J_matchesFrom l dC dI kA H.size jo wo wl wb we wn wk wz lt sb se wo2 wl2 wb2 we2 wn2 wk2 w_z w_l w_b w_e jm jr jy vq ws (twF t (txSt ts te tl tc t9 ix, txEn te tc t9)) j (by exact hW) (by first | exact hWv2 | exact hWv) (by exact hWL) (by exact hWL2) (by omega) (by omega)) (cw_J_100 hts rfl rfl ⟨Nat.le_of_ble_eq_true rfl, Nat.le_of_ble_eq_true rfl⟩) (li_preV (va_recv hK hP (ci := 4) (q0 := 0) rfl rfl) ⟨rfl, hP.sub [0, 1, 2, 3, 4, 5, 6, 7, 8, 9] rfl, (hD.sub [0, 1, 2, 3, 4, 5, 6, 7, 8, 9] (by decide) rfl).weaken (fun _ _ _ h => hAN _ h), trivial⟩ hK hN (hG.go hS hAN)) rfl rfl hl.1 rfl (lv_room (Nat.le_of_ble_eq_true rfl)) d_J_isInOneText_80 ⟨(by show 0 + 0 ≤ 0; omega), (by show 0 + 0 ≤ 0; omega)⟩) hP hD hS hA [0, 1, 2, 3, 4, 5, 6, 7, 8, 9] [] rfl rfl (by decide) (by decide) (fun f_r H locs hf_r hP hD hS _hk => ?_)
                    have hP : va_P (dC, dI) CL [(jo, .inr (4, [.ref wo, .ref wo2, .ref jm, .ref jr, .int (iI jy)])), (jr, .inl (kA 2, 101, .inl (zI f_r))), (wo, .inr (9, [.ref wl, .ref wb, .ref we, .int (iI wz)])), (wl, .inl (kA 1, wn, .inl (aI lt))), (wb, .inl (kA 0, wk, .inl (aI sb))), (we, .inl (kA 0, wk, .inl (aI se))), (wo2, .inr (9, [.ref wl2, .ref wb2, .ref we2, .int (iI w_z)])), (wl2, .inl (kA 1, wn2, .inl (aI w_l))), (wb2, .inl (kA 0, wk2, .inl (aI w_b))), (we2, .inl (kA 0, wk2, .inl (aI w_e)))] H := hP
                    have hD : va_D A [(jo, .inr (4, [.ref wo, .ref wo2, .ref jm, .ref jr, .int (iI jy)])), (jr, .inl (kA 2, 101, .inl (zI f_r))), (wo, .inr (9, [.ref wl, .ref wb, .ref we, .int (iI wz)])), (wl, .inl (kA 1, wn, .inl (aI lt))), (wb, .inl (kA 0, wk, .inl (aI sb))), (we, .inl (kA 0, wk, .inl (aI se))), (wo2, .inr (9, [.ref wl2, .ref wb2, .ref we2, .int (iI w_z)])), (wl2, .inl (kA 1, wn2, .inl (aI w_l))), (wb2, .inl (kA 0, wk2, .inl (aI w_b))), (we2, .inl (kA 0, wk2, .inl (aI w_e)))] := hD
                    refine W.eq (g2 := F0 m 83 ls [.int (iI (bI (prW ws ((twF t (txSt ts te tl tc t9 ix, txEn te tc t9)).drop j.toNat))))]) rfl ?_
                    refine li_bz (tgt := 88) hx hb d_J_isInOneText_83 (by decide) (fun c14 => ?_) (fun c14 => ?_)
                    · have _q := c14
                      obtain ⟨j_n, ej_n⟩ : ∃ y_9 : Int, y_9 = j + 1 := ⟨_, rfl⟩
                      refine lv_iinc (v := iI j_n) (lv' := [(7, .int (iI j_n)), (6, .int (iI ls9)), (5, .int (iI su)), (4, .int (iI t9)), (0, .ref jo), (1, .ref ho), (2, .int (iI ix)), (3, .int (iI (bI b)))]) hx hb d_J_isInOneText_88 hl (k := 0) rfl (by rw [ej_n]; exact iI_add _ _) (by decide) rfl (fun ls hl => ?_)
                      refine lv_goto (tgt := 70) hx hb d_J_isInOneText_91 (by decide) ?_
                      exact ih_70 j_n f_r (by omega) (by first | (have hb9 : b = true := (by assumption); rw [if_pos hb9] at hin; rw [if_pos hb9]; exact Or.inr (by rcases hin with h5 | h5; (rw [← show prW ws ((twF t (txSt ts te tl tc t9 ix, txEn te tc t9)).drop j.toNat) = false by assumption, h5]; rfl); exact h5)) | (have hb9 : ¬ b = true := nbt (by assumption); rw [if_neg hb9] at hin; rw [if_neg hb9]; rw [ej_n, ← hin, hWL2.drop (i := j) (by omega) (by omega)]; simp only [adW]; rw [← hWL2.drop (i := j) (by omega) (by omega), show prW ws ((twF t (txSt ts te tl tc t9 ix, txEn te tc t9)).drop j.toNat) = false by assumption, Bool.false_or])) (by omega) _ _ hP hD hS _ (lv_sub hl [0, 1, 2, 3, 4, 5, 6, 7] rfl)
                    · have _q := c14
                      refine lv_iconst (v := iI 1) hx hb d_J_isInOneText_86 rfl ?_
                      exact fin (f_r, w_z, w_l, w_b, w_e) _ _ _ _ _ (by refine bI_t ?_; rw [← hres, show ioW b ws (twF t (txSt ts te tl tc t9 ix, txEn te tc t9)) = true from by (unfold ioW; first | (have hb9 : b = true := (by assumption); rw [if_pos hb9] at hin; rw [if_pos hb9]; have hj0 : j = 0 := (by omega); have h5 : prW ws ((twF t (txSt ts te tl tc t9 ix, txEn te tc t9)).drop j.toNat) = true := (by assumption); rw [hj0] at h5; rw [decide_eq_true (by omega), Bool.true_and]; exact h5) | (have hb9 : ¬ b = true := nbt (by assumption); rw [if_neg hb9] at hin; rw [if_neg hb9, ← hin]; exact adW_of (by assumption))), Bool.true_or]) (by show WR wn2 wk2 w_z w_l w_b w_e; first | exact hWv2 | exact hWv) (by first | exact hP | (subst_vars; exact hP)) (by first | exact hD | (subst_vars; exact hD)) hS d_J_isInOneText_87
              exact K_70 ((ls9 + 2 - 0).toNat + 1) 0 vr (by omega) (by first | (rw [if_pos (show b = true by assumption)]; exact Or.inl rfl) | (rw [if_neg (nbt (show b = false by assumption))]; rfl)) (Nat.lt_succ_self _) _ _ hP hD hS _ (lv_sub hl [0, 1, 2, 3, 4, 5, 6, 7] rfl)
  exact K_3 ((tc - 0).toNat + 1) 0 rc wz2 lt2 sb2 se2 (by omega) (by first | exact hWv2 | exact hWv | exact hW2) (by first | (rw [Int.sub_zero]; done) | (rw [et_n]; exact hres)) (Nat.lt_succ_self _) _ _ hP hD hS _ (lv_sub hl [0, 1, 2, 3, 4] rfl)
theorem d_J_countMet_0 : decode b_J_countMet 0 = .ok (.iconst 0, 1) := by decide +kernel
theorem d_J_countMet_1 : decode b_J_countMet 1 = .ok (.istore_n 3, 1) := by decide +kernel
theorem d_J_countMet_2 : decode b_J_countMet 2 = .ok (.iload_n 3, 1) := by decide +kernel
theorem d_J_countMet_3 : decode b_J_countMet 3 = .ok (.aload_n 0, 1) := by decide +kernel
theorem d_J_countMet_4 : decode b_J_countMet 4 = .ok (.getfield 23, 3) := by decide +kernel
theorem d_J_countMet_7 : decode b_J_countMet 7 = .ok (.arraylength, 1) := by decide +kernel
theorem d_J_countMet_8 : decode b_J_countMet 8 = .ok (.if_icmp .ge 16, 3) := by decide +kernel
theorem d_J_countMet_11 : decode b_J_countMet 11 = .ok (.aload_n 0, 1) := by decide +kernel
theorem d_J_countMet_12 : decode b_J_countMet 12 = .ok (.getfield 23, 3) := by decide +kernel
theorem d_J_countMet_15 : decode b_J_countMet 15 = .ok (.iload_n 3, 1) := by decide +kernel
theorem d_J_countMet_16 : decode b_J_countMet 16 = .ok (.iconst 0, 1) := by decide +kernel
theorem d_J_countMet_17 : decode b_J_countMet 17 = .ok (.bastore, 1) := by decide +kernel
theorem d_J_countMet_18 : decode b_J_countMet 18 = .ok (.iinc 3 1, 3) := by decide +kernel
theorem d_J_countMet_21 : decode b_J_countMet 21 = .ok (.goto (-19), 3) := by decide +kernel
theorem d_J_countMet_24 : decode b_J_countMet 24 = .ok (.iconst 0, 1) := by decide +kernel
theorem d_J_countMet_25 : decode b_J_countMet 25 = .ok (.istore_n 3, 1) := by decide +kernel
theorem d_J_countMet_26 : decode b_J_countMet 26 = .ok (.iload_n 3, 1) := by decide +kernel
theorem d_J_countMet_27 : decode b_J_countMet 27 = .ok (.aload_n 1, 1) := by decide +kernel
theorem d_J_countMet_28 : decode b_J_countMet 28 = .ok (.getfield 84, 3) := by decide +kernel
theorem d_J_countMet_31 : decode b_J_countMet 31 = .ok (.if_icmp .ge 32, 3) := by decide +kernel
theorem d_J_countMet_34 : decode b_J_countMet 34 = .ok (.aload_n 1, 1) := by decide +kernel
theorem d_J_countMet_35 : decode b_J_countMet 35 = .ok (.iload_n 3, 1) := by decide +kernel
theorem d_J_countMet_36 : decode b_J_countMet 36 = .ok (.iload_n 2, 1) := by decide +kernel
theorem d_J_countMet_37 : decode b_J_countMet 37 = .ok (.invokevirtual 87, 3) := by decide +kernel
theorem d_J_countMet_40 : decode b_J_countMet 40 = .ok (.ifCond .eq 17, 3) := by decide +kernel
theorem d_J_countMet_43 : decode b_J_countMet 43 = .ok (.aload_n 0, 1) := by decide +kernel
theorem d_J_countMet_44 : decode b_J_countMet 44 = .ok (.getfield 20, 3) := by decide +kernel
theorem d_J_countMet_47 : decode b_J_countMet 47 = .ok (.aload_n 1, 1) := by decide +kernel
theorem d_J_countMet_48 : decode b_J_countMet 48 = .ok (.iload_n 3, 1) := by decide +kernel
theorem d_J_countMet_49 : decode b_J_countMet 49 = .ok (.iload_n 2, 1) := by decide +kernel
theorem d_J_countMet_50 : decode b_J_countMet 50 = .ok (.invokevirtual 90, 3) := by decide +kernel
theorem d_J_countMet_53 : decode b_J_countMet 53 = .ok (.aload_n 0, 1) := by decide +kernel
theorem d_J_countMet_54 : decode b_J_countMet 54 = .ok (.invokevirtual 94, 3) := by decide +kernel
theorem d_J_countMet_57 : decode b_J_countMet 57 = .ok (.iinc 3 1, 3) := by decide +kernel
theorem d_J_countMet_60 : decode b_J_countMet 60 = .ok (.goto (-34), 3) := by decide +kernel
theorem d_J_countMet_63 : decode b_J_countMet 63 = .ok (.iconst 0, 1) := by decide +kernel
theorem d_J_countMet_64 : decode b_J_countMet 64 = .ok (.istore_n 3, 1) := by decide +kernel
theorem d_J_countMet_65 : decode b_J_countMet 65 = .ok (.iconst 0, 1) := by decide +kernel
theorem d_J_countMet_66 : decode b_J_countMet 66 = .ok (.istore 4, 2) := by decide +kernel
theorem d_J_countMet_68 : decode b_J_countMet 68 = .ok (.iload 4, 2) := by decide +kernel
theorem d_J_countMet_70 : decode b_J_countMet 70 = .ok (.aload_n 0, 1) := by decide +kernel
theorem d_J_countMet_71 : decode b_J_countMet 71 = .ok (.getfield 23, 3) := by decide +kernel
theorem d_J_countMet_74 : decode b_J_countMet 74 = .ok (.arraylength, 1) := by decide +kernel
theorem d_J_countMet_75 : decode b_J_countMet 75 = .ok (.if_icmp .ge 22, 3) := by decide +kernel
theorem d_J_countMet_78 : decode b_J_countMet 78 = .ok (.aload_n 0, 1) := by decide +kernel
theorem d_J_countMet_79 : decode b_J_countMet 79 = .ok (.getfield 23, 3) := by decide +kernel
theorem d_J_countMet_82 : decode b_J_countMet 82 = .ok (.iload 4, 2) := by decide +kernel
theorem d_J_countMet_84 : decode b_J_countMet 84 = .ok (.baload, 1) := by decide +kernel
theorem d_J_countMet_85 : decode b_J_countMet 85 = .ok (.ifCond .eq 6, 3) := by decide +kernel
theorem d_J_countMet_88 : decode b_J_countMet 88 = .ok (.iinc 3 1, 3) := by decide +kernel
theorem d_J_countMet_91 : decode b_J_countMet 91 = .ok (.iinc 4 1, 3) := by decide +kernel
theorem d_J_countMet_94 : decode b_J_countMet 94 = .ok (.goto (-26), 3) := by decide +kernel
theorem d_J_countMet_97 : decode b_J_countMet 97 = .ok (.iload_n 3, 1) := by decide +kernel
theorem d_J_countMet_98 : decode b_J_countMet 98 = .ok (.ireturn, 1) := by decide +kernel
set_option maxHeartbeats 4000000 in
set_option maxRecDepth 100000 in
theorem c_J_countMet (l : Launch) (dC : Nat → ClassId) (dI : Nat → Nat → Nat) (kA : Nat → ClassId) (sz : Nat) (jo : Nat) (wo : Nat) (wl : Nat) (wb : Nat) (we : Nat) (wn : Nat) (wk : Nat) (wz : Int) (lt : Nat → Int) (sb : Nat → Int) (se : Nat → Int) (wo2 : Nat) (wl2 : Nat) (wb2 : Nat) (we2 : Nat) (wn2 : Nat) (wk2 : Nat) (wz2 : Int) (lt2 : Nat → Int) (sb2 : Nat → Int) (se2 : Nat → Int) (jm : Nat) (jr : Nat) (jy : Int) (rc : Nat → Bool) (mt : Nat → Bool) (ws : List (List Int)) (ho : Nat) (oc : Nat) (xi : Nat) (xs : Nat) (xe : Nat) (xl : Nat) (n : Nat) (mx : Nat) (fd : Int) (tc : Int) (t : Nat → Int) (ti : Nat → Int) (ts : Nat → Int) (te : Nat → Int) (tl : Nat → Int) (ix : Int) (hW : WR wn wk wz lt sb se) (hW2 : WR wn2 wk2 wz2 lt2 sb2 se2) (hWL : WL ws wz lt sb se) (hw1 : wn ≤ 100) (hw2 : wn2 = 400 ∧ 401 ≤ 2 * wk2) (hH : HR n mx t ti ts te tl tc) (hte : ∀ j, te j ≤ n) (hix : -2147483648 ≤ ix ∧ ix < 2147483648) (hwz100 : wz ≤ 100) : Met l y_J_countMet (wsy y_J_countMet b_J_countMet 5 (some .int)) (rmd 4 0 0) (li_Pr (dC, dI) CL (TY kA) [.ref jo, .ref ho, .int (iI ix)] (fun h => h.size = sz ∧ va_P (dC, dI) CL [(jo, .inr (4, [.ref wo, .ref wo2, .ref jm, .ref jr, .int (iI jy)])), (jr, .inl (kA 2, 101, .inl (zI rc))), (wo, .inr (9, [.ref wl, .ref wb, .ref we, .int (iI wz)])), (wl, .inl (kA 1, wn, .inl (aI lt))), (wb, .inl (kA 0, wk, .inl (aI sb))), (we, .inl (kA 0, wk, .inl (aI se))), (wo2, .inr (9, [.ref wl2, .ref wb2, .ref we2, .int (iI wz2)])), (wl2, .inl (kA 1, wn2, .inl (aI lt2))), (wb2, .inl (kA 0, wk2, .inl (aI sb2))), (we2, .inl (kA 0, wk2, .inl (aI se2))), (jm, .inl (kA 2, 100, .inl (zI mt)))] h ∧ va_D (fun q => dI 100 0 ≤ q) [(jo, .inr (4, [.ref wo, .ref wo2, .ref jm, .ref jr, .int (iI jy)])), (jr, .inl (kA 2, 101, .inl (zI rc))), (wo, .inr (9, [.ref wl, .ref wb, .ref we, .int (iI wz)])), (wl, .inl (kA 1, wn, .inl (aI lt))), (wb, .inl (kA 0, wk, .inl (aI sb))), (we, .inl (kA 0, wk, .inl (aI se))), (wo2, .inr (9, [.ref wl2, .ref wb2, .ref we2, .int (iI wz2)])), (wl2, .inl (kA 1, wn2, .inl (aI lt2))), (wb2, .inl (kA 0, wk2, .inl (aI sb2))), (we2, .inl (kA 0, wk2, .inl (aI se2))), (jm, .inl (kA 2, 100, .inl (zI mt)))] ∧ (fun h => va_P (dC, dI) CL [(ho, .inr (2, [.ref oc, .int (iI fd), .ref xi, .ref xs, .ref xe, .ref xl, .int (iI tc)])), (oc, .inl (kA 1, n, .inl (aI t))), (xi, .inl (kA 0, mx, .inl (aI ti))), (xs, .inl (kA 0, mx, .inl (aI ts))), (xe, .inl (kA 0, mx, .inl (aI te))), (xl, .inl (kA 0, mx, .inl (aI tl)))] h ∧ Dsj [(ho, .inr (2, [.ref oc, .int (iI fd), .ref xi, .ref xs, .ref xe, .ref xl, .int (iI tc)])), (oc, .inl (kA 1, n, .inl (aI t))), (xi, .inl (kA 0, mx, .inl (aI ti))), (xs, .inl (kA 0, mx, .inl (aI ts))), (xe, .inl (kA 0, mx, .inl (aI te))), (xl, .inl (kA 0, mx, .inl (aI tl)))] [(jo, .inr (4, [.ref wo, .ref wo2, .ref jm, .ref jr, .int (iI jy)])), (jr, .inl (kA 2, 101, .inl (zI rc))), (wo, .inr (9, [.ref wl, .ref wb, .ref we, .int (iI wz)])), (wl, .inl (kA 1, wn, .inl (aI lt))), (wb, .inl (kA 0, wk, .inl (aI sb))), (we, .inl (kA 0, wk, .inl (aI se))), (wo2, .inr (9, [.ref wl2, .ref wb2, .ref we2, .int (iI wz2)])), (wl2, .inl (kA 1, wn2, .inl (aI lt2))), (wb2, .inl (kA 0, wk2, .inl (aI sb2))), (we2, .inl (kA 0, wk2, .inl (aI se2))), (jm, .inl (kA 2, 100, .inl (zI mt)))]) h)) (li_Qw (S := (Nat → Bool) × (Nat → Bool) × (Int) × (Nat → Int) × (Nat → Int) × (Nat → Int)) (dC, dI) CL (fun u => WR wn2 wk2 u.2.2.1 u.2.2.2.1 u.2.2.2.2.1 u.2.2.2.2.2) (fun u => some (.int (iI (((ws.filter (thW t (txL ti ts te tl tc ix tc.toNat 0))).length : Int))))) (fun u => [(jo, .inr (4, [.ref wo, .ref wo2, .ref jm, .ref jr, .int (iI jy)])), (jr, .inl (kA 2, 101, .inl (zI u.2.1))), (wo, .inr (9, [.ref wl, .ref wb, .ref we, .int (iI wz)])), (wl, .inl (kA 1, wn, .inl (aI lt))), (wb, .inl (kA 0, wk, .inl (aI sb))), (we, .inl (kA 0, wk, .inl (aI se))), (wo2, .inr (9, [.ref wl2, .ref wb2, .ref we2, .int (iI u.2.2.1)])), (wl2, .inl (kA 1, wn2, .inl (aI u.2.2.2.1))), (wb2, .inl (kA 0, wk2, .inl (aI u.2.2.2.2.1))), (we2, .inl (kA 0, wk2, .inl (aI u.2.2.2.2.2))), (jm, .inl (kA 2, 100, .inl (zI u.1)))]) (va_A [(jo, .inr (4, [.ref wo, .ref wo2, .ref jm, .ref jr, .int (iI jy)])), (jr, .inl (kA 2, 101, .inl (zI rc))), (wo, .inr (9, [.ref wl, .ref wb, .ref we, .int (iI wz)])), (wl, .inl (kA 1, wn, .inl (aI lt))), (wb, .inl (kA 0, wk, .inl (aI sb))), (we, .inl (kA 0, wk, .inl (aI se))), (wo2, .inr (9, [.ref wl2, .ref wb2, .ref we2, .int (iI wz2)])), (wl2, .inl (kA 1, wn2, .inl (aI lt2))), (wb2, .inl (kA 0, wk2, .inl (aI sb2))), (we2, .inl (kA 0, wk2, .inl (aI se2))), (jm, .inl (kA 2, 100, .inl (zI mt)))] sz)) 0 0 (va_A [(jo, .inr (4, [.ref wo, .ref wo2, .ref jm, .ref jr, .int (iI jy)])), (jr, .inl (kA 2, 101, .inl (zI rc))), (wo, .inr (9, [.ref wl, .ref wb, .ref we, .int (iI wz)])), (wl, .inl (kA 1, wn, .inl (aI lt))), (wb, .inl (kA 0, wk, .inl (aI sb))), (we, .inl (kA 0, wk, .inl (aI se))), (wo2, .inr (9, [.ref wl2, .ref wb2, .ref we2, .int (iI wz2)])), (wl2, .inl (kA 1, wn2, .inl (aI lt2))), (wb2, .inl (kA 0, wk2, .inl (aI sb2))), (we2, .inl (kA 0, wk2, .inl (aI se2))), (jm, .inl (kA 2, 100, .inl (zI mt)))] sz) := by
  refine li_mwi (r := fun (u : (Nat → Bool) × (Nat → Bool) × (Int) × (Nat → Int) × (Nat → Int) × (Nat → Int)) => ((ws.filter (thW t (txL ti ts te tl tc ix tc.toNat 0))).length : Int)) (by decide) (Nat.le_of_ble_eq_true rfl) (fun u _ => by rfl) ?_
  intro p e s m args below meth c Q A C hP hD hBx hK hN hG hA hAi hAN fin ls hl
  obtain ⟨hx, hb, hr, hml, hown, hts, hlocks, hin⟩ := C
  have hown : s.vm.findClass R_J = some m.cls := hown
  obtain ⟨hRo, hDj⟩ := hBx
  have hRo : va_P (dC, dI) CL [(ho, .inr (2, [.ref oc, .int (iI fd), .ref xi, .ref xs, .ref xe, .ref xl, .int (iI tc)])), (oc, .inl (kA 1, n, .inl (aI t))), (xi, .inl (kA 0, mx, .inl (aI ti))), (xs, .inl (kA 0, mx, .inl (aI ts))), (xe, .inl (kA 0, mx, .inl (aI te))), (xl, .inl (kA 0, mx, .inl (aI tl)))] s.heap := hRo
  have hRoN := li_roN (A := A) hRo hDj hAi
  have hl : lv_has ls 5 [(0, .ref jo), (1, .ref ho), (2, .int (iI ix))] := hl
  obtain ⟨hwn, hwk, hwz, hlt, hsb, hse⟩ := id hW
  obtain ⟨hn, hmx, htc, ht, hti, hxs, hxe, hxl⟩ := id hH
  have hlw := hWL.len
  suffices h9 : ∀ (H : Heap) (locs : List Loc), H = s.heap → locs = [] → W p l e (rmd 4 0 0) s m args below meth c H locs 0 0 Q (F0 m 0 ls []) from h9 _ _ rfl rfl
  intro H locs eH eL
  have hP : va_P (dC, dI) CL [(jo, .inr (4, [.ref wo, .ref wo2, .ref jm, .ref jr, .int (iI jy)])), (jr, .inl (kA 2, 101, .inl (zI rc))), (wo, .inr (9, [.ref wl, .ref wb, .ref we, .int (iI wz)])), (wl, .inl (kA 1, wn, .inl (aI lt))), (wb, .inl (kA 0, wk, .inl (aI sb))), (we, .inl (kA 0, wk, .inl (aI se))), (wo2, .inr (9, [.ref wl2, .ref wb2, .ref we2, .int (iI wz2)])), (wl2, .inl (kA 1, wn2, .inl (aI lt2))), (wb2, .inl (kA 0, wk2, .inl (aI sb2))), (we2, .inl (kA 0, wk2, .inl (aI se2))), (jm, .inl (kA 2, 100, .inl (zI mt)))] H := by rw [eH]; exact hP
  have hS : va_S A s.heap H locs := by rw [eH, eL]; exact va_S.rf
  refine lv_iconst (v := iI 0) hx hb d_J_countMet_0 rfl ?_
  refine lv_istore_n (lv' := [(3, .int (iI 0)), (0, .ref jo), (1, .ref ho), (2, .int (iI ix))]) hx hb d_J_countMet_1 rfl hl (by decide) rfl (fun ls hl => ?_)
  have K_2 : ∀ (nn_2 : Nat) (i : Int) (vm : Nat → Bool), (0 ≤ i ∧ i ≤ 100) → (∀ k : Nat, (k : Int) < i → vm k = false) → ((100 - (i : Int)).toNat < nn_2) → ∀ (H : Heap) (locs : List Loc), va_P (dC, dI) CL [(jo, .inr (4, [.ref wo, .ref wo2, .ref jm, .ref jr, .int (iI jy)])), (jr, .inl (kA 2, 101, .inl (zI rc))), (wo, .inr (9, [.ref wl, .ref wb, .ref we, .int (iI wz)])), (wl, .inl (kA 1, wn, .inl (aI lt))), (wb, .inl (kA 0, wk, .inl (aI sb))), (we, .inl (kA 0, wk, .inl (aI se))), (wo2, .inr (9, [.ref wl2, .ref wb2, .ref we2, .int (iI wz2)])), (wl2, .inl (kA 1, wn2, .inl (aI lt2))), (wb2, .inl (kA 0, wk2, .inl (aI sb2))), (we2, .inl (kA 0, wk2, .inl (aI se2))), (jm, .inl (kA 2, 100, .inl (zI vm)))] H → va_D A [(jo, .inr (4, [.ref wo, .ref wo2, .ref jm, .ref jr, .int (iI jy)])), (jr, .inl (kA 2, 101, .inl (zI rc))), (wo, .inr (9, [.ref wl, .ref wb, .ref we, .int (iI wz)])), (wl, .inl (kA 1, wn, .inl (aI lt))), (wb, .inl (kA 0, wk, .inl (aI sb))), (we, .inl (kA 0, wk, .inl (aI se))), (wo2, .inr (9, [.ref wl2, .ref wb2, .ref we2, .int (iI wz2)])), (wl2, .inl (kA 1, wn2, .inl (aI lt2))), (wb2, .inl (kA 0, wk2, .inl (aI sb2))), (we2, .inl (kA 0, wk2, .inl (aI se2))), (jm, .inl (kA 2, 100, .inl (zI vm)))] → va_S A s.heap H locs → ∀ ls : Array Slot, lv_has ls 5 [(3, .int (iI i)), (0, .ref jo), (1, .ref ho), (2, .int (iI ix))] → W p l e (rmd 4 0 0) s m args below meth c H locs 0 0 Q (F0 m 2 ls []) := by
    intro nn_2
    induction nn_2 with
    | zero => intro i vm hi9 hv0 hm; exact absurd hm (Nat.not_lt_zero _)
    | succ nn_2 ih_2 =>
      intro i vm hi9 hv0 hm_2 H locs hP hD hS ls hl
      refine lv_iload_n hx hb d_J_countMet_2 rfl (lv_at hl 0 rfl) ?_
      refine lv_aload_n hx hb d_J_countMet_3 rfl (lv_at hl 1 rfl) ?_
      refine gf_J_23 hx hb hts hown hK hP 0 rfl rfl d_J_countMet_4 ?_
      refine li_alen hx hb hK hP 10 2 rfl rfl d_J_countMet_7 ?_
      refine li_icmp_ge (tgt := 24) hx hb d_J_countMet_8 (by decide) (by omega) (by omega) (fun c1 => ?_) (fun c1 => ?_)
      · have _q := c1
        refine lv_iconst (v := iI 0) hx hb d_J_countMet_24 rfl ?_
        refine lv_istore_n (lv' := [(3, .int (iI 0)), (0, .ref jo), (1, .ref ho), (2, .int (iI ix))]) hx hb d_J_countMet_25 rfl hl (by decide) rfl (fun ls hl => ?_)
        have K_26 : ∀ (nn_26 : Nat) (t9 : Int) (vn : Nat → Bool) (vr : Nat → Bool) (vz : Int) (vl : Nat → Int) (vb : Nat → Int) (ve : Nat → Int), (0 ≤ t9 ∧ t9 ≤ tc) → (WR wn2 wk2 vz vl vb ve) → (∀ k : Nat, (k : Int) < wz → (vn k || thW t (txL ti ts te tl tc ix (tc - t9).toNat t9) (ws.getD k [])) = thW t (txL ti ts te tl tc ix tc.toNat 0) (ws.getD k [])) → (∀ k : Nat, wz ≤ (k : Int) → (k : Int) < 100 → vn k = false) → ((tc - t9).toNat < nn_26) → ∀ (H : Heap) (locs : List Loc), va_P (dC, dI) CL [(jo, .inr (4, [.ref wo, .ref wo2, .ref jm, .ref jr, .int (iI jy)])), (jr, .inl (kA 2, 101, .inl (zI vr))), (wo, .inr (9, [.ref wl, .ref wb, .ref we, .int (iI wz)])), (wl, .inl (kA 1, wn, .inl (aI lt))), (wb, .inl (kA 0, wk, .inl (aI sb))), (we, .inl (kA 0, wk, .inl (aI se))), (wo2, .inr (9, [.ref wl2, .ref wb2, .ref we2, .int (iI vz)])), (wl2, .inl (kA 1, wn2, .inl (aI vl))), (wb2, .inl (kA 0, wk2, .inl (aI vb))), (we2, .inl (kA 0, wk2, .inl (aI ve))), (jm, .inl (kA 2, 100, .inl (zI vn)))] H → va_D A [(jo, .inr (4, [.ref wo, .ref wo2, .ref jm, .ref jr, .int (iI jy)])), (jr, .inl (kA 2, 101, .inl (zI vr))), (wo, .inr (9, [.ref wl, .ref wb, .ref we, .int (iI wz)])), (wl, .inl (kA 1, wn, .inl (aI lt))), (wb, .inl (kA 0, wk, .inl (aI sb))), (we, .inl (kA 0, wk, .inl (aI se))), (wo2, .inr (9, [.ref wl2, .ref wb2, .ref we2, .int (iI vz)])), (wl2, .inl (kA 1, wn2, .inl (aI vl))), (wb2, .inl (kA 0, wk2, .inl (aI vb))), (we2, .inl (kA 0, wk2, .inl (aI ve))), (jm, .inl (kA 2, 100, .inl (zI vn)))] → va_S A s.heap H locs → ∀ ls : Array Slot, lv_has ls 5 [(3, .int (iI t9)), (0, .ref jo), (1, .ref ho), (2, .int (iI ix))] → W p l e (rmd 4 0 0) s m args below meth c H locs 0 0 Q (F0 m 26 ls []) := by
          intro nn_26
          induction nn_26 with
          | zero => intro t9 vn vr vz vl vb ve ht9 hWv hvn hvo hm; exact absurd hm (Nat.not_lt_zero _)
          | succ nn_26 ih_26 =>
            intro t9 vn vr vz vl vb ve ht9 hWv hvn hvo hm_26 H locs hP hD hS ls hl
            refine lv_iload_n hx hb d_J_countMet_26 rfl (lv_at hl 0 rfl) ?_
            refine lv_aload_n hx hb d_J_countMet_27 rfl (lv_at hl 2 rfl) ?_
            refine gf_J_84 hx hb hts hN hown hK (li_ro hRo hRoN hS) 0 rfl rfl d_J_countMet_28 ?_
            refine li_icmp_ge (tgt := 63) hx hb d_J_countMet_31 (by decide) (by omega) (by omega) (fun c2 => ?_) (fun c2 => ?_)
            · have _q := c2
              rw [show (tc - t9).toNat = 0 by omega] at hvn
              simp only [txL] at hvn
              refine lv_iconst (v := iI 0) hx hb d_J_countMet_63 rfl ?_
              refine lv_istore_n (lv' := [(3, .int (iI 0)), (0, .ref jo), (1, .ref ho), (2, .int (iI ix))]) hx hb d_J_countMet_64 rfl hl (by decide) rfl (fun ls hl => ?_)
              refine lv_iconst (v := iI 0) hx hb d_J_countMet_65 rfl ?_
              refine lv_istore (lv' := [(4, .int (iI 0)), (3, .int (iI 0)), (0, .ref jo), (1, .ref ho), (2, .int (iI ix))]) hx hb d_J_countMet_66 hl (by decide) rfl (fun ls hl => ?_)
              have K_68 : ∀ (nn_68 : Nat) (m9 : Int) (i9 : Int), (0 ≤ i9 ∧ i9 ≤ 100 ∧ 0 ≤ m9 ∧ m9 ≤ i9) → (m9 + cmC vn (100 - i9).toNat i9.toNat = cmT vn) → ((100 - (i9 : Int)).toNat < nn_68) → ∀ (H : Heap) (locs : List Loc), va_P (dC, dI) CL [(jo, .inr (4, [.ref wo, .ref wo2, .ref jm, .ref jr, .int (iI jy)])), (jr, .inl (kA 2, 101, .inl (zI vr))), (wo, .inr (9, [.ref wl, .ref wb, .ref we, .int (iI wz)])), (wl, .inl (kA 1, wn, .inl (aI lt))), (wb, .inl (kA 0, wk, .inl (aI sb))), (we, .inl (kA 0, wk, .inl (aI se))), (wo2, .inr (9, [.ref wl2, .ref wb2, .ref we2, .int (iI vz)])), (wl2, .inl (kA 1, wn2, .inl (aI vl))), (wb2, .inl (kA 0, wk2, .inl (aI vb))), (we2, .inl (kA 0, wk2, .inl (aI ve))), (jm, .inl (kA 2, 100, .inl (zI vn)))] H → va_D A [(jo, .inr (4, [.ref wo, .ref wo2, .ref jm, .ref jr, .int (iI jy)])), (jr, .inl (kA 2, 101, .inl (zI vr))), (wo, .inr (9, [.ref wl, .ref wb, .ref we, .int (iI wz)])), (wl, .inl (kA 1, wn, .inl (aI lt))), (wb, .inl (kA 0, wk, .inl (aI sb))), (we, .inl (kA 0, wk, .inl (aI se))), (wo2, .inr (9, [.ref wl2, .ref wb2, .ref we2, .int (iI vz)])), (wl2, .inl (kA 1, wn2, .inl (aI vl))), (wb2, .inl (kA 0, wk2, .inl (aI vb))), (we2, .inl (kA 0, wk2, .inl (aI ve))), (jm, .inl (kA 2, 100, .inl (zI vn)))] → va_S A s.heap H locs → ∀ ls : Array Slot, lv_has ls 5 [(4, .int (iI i9)), (3, .int (iI m9)), (0, .ref jo), (1, .ref ho), (2, .int (iI ix))] → W p l e (rmd 4 0 0) s m args below meth c H locs 0 0 Q (F0 m 68 ls []) := by
                intro nn_68
                induction nn_68 with
                | zero => intro m9 i9 hi8 hcc hm; exact absurd hm (Nat.not_lt_zero _)
                | succ nn_68 ih_68 =>
                  intro m9 i9 hi8 hcc hm_68 H locs hP hD hS ls hl
                  refine lv_iload hx hb d_J_countMet_68 (lv_at hl 0 rfl) ?_
                  refine lv_aload_n hx hb d_J_countMet_70 rfl (lv_at hl 2 rfl) ?_
                  refine gf_J_23 hx hb hts hown hK hP 0 rfl rfl d_J_countMet_71 ?_
                  refine li_alen hx hb hK hP 10 2 rfl rfl d_J_countMet_74 ?_
                  refine li_icmp_ge (tgt := 97) hx hb d_J_countMet_75 (by decide) (by omega) (by omega) (fun c3 => ?_) (fun c3 => ?_)
                  · have _q := c3
                    rw [show (100 - i9).toNat = 0 by omega] at hcc
                    simp only [cmC] at hcc
                    refine lv_iload_n hx hb d_J_countMet_97 rfl (lv_at hl 1 rfl) ?_
                    exact fin (vn, vr, vz, vl, vb, ve) _ _ _ _ _ (by have hfin := cmC_W (vm := vn) (ws := ws) (P := thW t (txL ti ts te tl tc ix tc.toNat 0)) (fun k hk => if q9 : k < ws.length then (by rw [decide_eq_true q9, Bool.true_and, ← hvn k (by omega)]; unfold thW; rw [List.any_nil, Bool.or_false]) else (by rw [decide_eq_false q9, Bool.false_and]; exact hvo k (by omega) (by omega))) (by omega) 100 0 rfl; rw [List.drop_zero] at hfin; rw [← hfin, show cmC vn 100 0 = cmT vn from rfl, ← hcc]; omega) (by show WR wn2 wk2 vz vl vb ve; first | exact hWv2 | exact hWv) (by first | exact hP | (subst_vars; exact hP)) (by first | exact hD | (subst_vars; exact hD)) hS d_J_countMet_98
                  · have _q := c3
                    rw [show (100 - i9).toNat = (100 - (i9 + 1)).toNat + 1 by omega] at hcc
                    simp only [cmC] at hcc
                    refine lv_aload_n hx hb d_J_countMet_78 rfl (lv_at hl 2 rfl) ?_
                    refine gf_J_23 hx hb hts hown hK hP 0 rfl rfl d_J_countMet_79 ?_
                    refine lv_iload hx hb d_J_countMet_82 (lv_at hl 0 rfl) ?_
                    refine li_zald hx hb hK hP 10 2 rfl rfl (by omega) (by omega) (by omega) d_J_countMet_84 ?_
                    refine li_bz (tgt := 91) hx hb d_J_countMet_85 (by decide) (fun c4 => ?_) (fun c4 => ?_)
                    · have _q := c4
                      rw [if_neg (nbt (by assumption))] at hcc
                      obtain ⟨j_n, ej_n⟩ : ∃ y_9 : Int, y_9 = i9 + 1 := ⟨_, rfl⟩
                      refine lv_iinc (v := iI j_n) (lv' := [(4, .int (iI j_n)), (3, .int (iI m9)), (0, .ref jo), (1, .ref ho), (2, .int (iI ix))]) hx hb d_J_countMet_91 hl (k := 0) rfl (by rw [ej_n]; exact iI_add _ _) (by decide) rfl (fun ls hl => ?_)
                      refine lv_goto (tgt := 68) hx hb d_J_countMet_94 (by decide) ?_
                      exact ih_68 m9 j_n (by omega) (by rw [ej_n, show (i9 + 1).toNat = i9.toNat + 1 by omega, ← hcc]; first | (rw [em_n]; omega) | omega) (by omega) _ _ hP hD hS _ (lv_sub hl [0, 1, 2, 3, 4] rfl)
                    · have _q := c4
                      rw [if_pos (by assumption)] at hcc
                      obtain ⟨m_n, em_n⟩ : ∃ y_9 : Int, y_9 = m9 + 1 := ⟨_, rfl⟩
                      refine lv_iinc (v := iI m_n) (lv' := [(3, .int (iI m_n)), (4, .int (iI i9)), (0, .ref jo), (1, .ref ho), (2, .int (iI ix))]) hx hb d_J_countMet_88 hl (k := 1) rfl (by rw [em_n]; exact iI_add _ _) (by decide) rfl (fun ls hl => ?_)
                      obtain ⟨j_n, ej_n⟩ : ∃ y_9 : Int, y_9 = i9 + 1 := ⟨_, rfl⟩
                      refine lv_iinc (v := iI j_n) (lv' := [(4, .int (iI j_n)), (3, .int (iI m_n)), (0, .ref jo), (1, .ref ho), (2, .int (iI ix))]) hx hb d_J_countMet_91 hl (k := 1) rfl (by rw [ej_n]; exact iI_add _ _) (by decide) rfl (fun ls hl => ?_)
                      refine lv_goto (tgt := 68) hx hb d_J_countMet_94 (by decide) ?_
                      exact ih_68 m_n j_n (by omega) (by rw [ej_n, show (i9 + 1).toNat = i9.toNat + 1 by omega, ← hcc]; first | (rw [em_n]; omega) | omega) (by omega) _ _ hP hD hS _ (lv_sub hl [0, 1, 2, 3, 4] rfl)
              exact K_68 ((100 - (0 : Int)).toNat + 1) 0 0 (by omega) (by rw [Int.zero_add]; rfl) (Nat.lt_succ_self _) _ _ hP hD hS _ (lv_sub hl [0, 1, 2, 3, 4] rfl)
            · have _q := c2
              rw [txL_e (by omega) (by omega)] at hvn
              refine lv_aload_n hx hb d_J_countMet_34 rfl (lv_at hl 2 rfl) ?_
              refine lv_iload_n hx hb d_J_countMet_35 rfl (lv_at hl 0 rfl) ?_
              refine lv_iload_n hx hb d_J_countMet_36 rfl (lv_at hl 3 rfl) ?_
              refine li_callr ((va_runV (As := [.int (iI t9), .int (iI ix)]) (rest := []) ⟨hx, hb, hml, hown, hts⟩ (c_H_isTextIn l dC dI kA ho oc xi xs xe xl n mx fd tc t ti ts te tl t9 ix (by exact hH) (by omega) (by omega)) (cw_J_87 hts rfl rfl ⟨Nat.le_of_ble_eq_true rfl, Nat.le_of_ble_eq_true rfl⟩) (li_preV (va_recv hK (li_ro hRo hRoN hS) (ci := 2) (q0 := 0) rfl rfl) ((li_ro hRo hRoN hS).sub [0, 1, 2, 3, 4, 5] rfl) hK hN (hG.go hS hAN)) rfl rfl hl.1 rfl (lv_room (Nat.le_of_ble_eq_true rfl)) d_J_countMet_37 ⟨(by show 0 + 0 ≤ 0; omega), (by show 0 + 0 ≤ 0; omega)⟩).run) ?_
              refine li_bz (tgt := 57) hx hb d_J_countMet_40 (by decide) (fun c5 => ?_) (fun c5 => ?_)
              · have _q := c5
                rw [if_neg (nbt (by assumption))] at hvn
                obtain ⟨t_n, et_n⟩ : ∃ y_9 : Int, y_9 = t9 + 1 := ⟨_, rfl⟩
                refine lv_iinc (v := iI t_n) (lv' := [(3, .int (iI t_n)), (0, .ref jo), (1, .ref ho), (2, .int (iI ix))]) hx hb d_J_countMet_57 hl (k := 0) rfl (by rw [et_n]; exact iI_add _ _) (by decide) rfl (fun ls hl => ?_)
                refine lv_goto (tgt := 26) hx hb d_J_countMet_60 (by decide) ?_
                exact ih_26 t_n vn vr vz vl vb ve (by omega) (by first | exact hWv2 | exact hWv | exact hW2) (by first | (rw [et_n]; exact hvn) | (intro k hk; rw [et_n, hp54 k, if_pos hk, ← hvn k hk]; unfold thW; rw [List.any_cons, Bool.or_assoc])) (by first | exact hvo | (intro k hk hk2; rw [hp54 k, if_neg (by omega)]; exact hvo k hk hk2)) (by omega) _ _ hP hD hS _ (lv_sub hl [0, 1, 2, 3] rfl)
              · have _q := c5
                rw [if_pos (by assumption)] at hvn
                have h8 := hte t9.toNat
                have h7 := txSt_r (i := t9) (ix := ix) hH
                have h6 : txEn te tc t9 = te t9.toNat := by unfold txEn; rw [if_pos (by omega)]
                refine lv_aload_n hx hb d_J_countMet_43 rfl (lv_at hl 1 rfl) ?_
                refine gf_J_20 hx hb hts hown hK hP 0 rfl rfl d_J_countMet_44 ?_
                refine lv_aload_n hx hb d_J_countMet_47 rfl (lv_at hl 2 rfl) ?_
                refine lv_iload_n hx hb d_J_countMet_48 rfl (lv_at hl 0 rfl) ?_
                refine lv_iload_n hx hb d_J_countMet_49 rfl (lv_at hl 3 rfl) ?_
                refine li_callw (wc := [(wo2, .inr (9, [.ref wl2, .ref wb2, .ref we2, .int (iI vz)])), (wl2, .inl (kA 1, wn2, .inl (aI vl))), (wb2, .inl (kA 0, wk2, .inl (aI vb))), (we2, .inl (kA 0, wk2, .inl (aI ve)))]) (wr := [(jo, .inr (4, [.ref wo, .ref wo2, .ref jm, .ref jr, .int (iI jy)])), (jr, .inl (kA 2, 101, .inl (zI vr))), (wo, .inr (9, [.ref wl, .ref wb, .ref we, .int (iI wz)])), (wl, .inl (kA 1, wn, .inl (aI lt))), (wb, .inl (kA 0, wk, .inl (aI sb))), (we, .inl (kA 0, wk, .inl (aI se))), (jm, .inl (kA 2, 100, .inl (zI vn)))]) (va_runV (As := [.ref ho, .int (iI t9), .int (iI ix)]) (rest := []) ⟨hx, hb, hml, hown, hts⟩ (c_W_readText2 l dC dI kA H.size wo2 wl2 wb2 we2 wn2 wk2 vz vl vb ve ho oc xi xs xe xl n mx fd tc t ti ts te tl t9 ix (by exact hWv) (by exact hH) (by omega) (by omega) (by rw [h6]; omega)) (cw_J_90 hts rfl rfl ⟨Nat.le_of_ble_eq_true rfl, Nat.le_of_ble_eq_true rfl⟩) (li_preV (va_recv hK hP (ci := 9) (q0 := 6) rfl rfl) ⟨rfl, hP.sub [6, 7, 8, 9] rfl, (hD.sub [6, 7, 8, 9] (by decide) rfl).weaken (fun _ _ _ h => hAN _ h), (va_P.app ((li_ro hRo hRoN hS).sub [0] rfl) (va_P.app ((li_ro hRo hRoN hS).sub [1] rfl) (va_P.app ((li_ro hRo hRoN hS).sub [2] rfl) (va_P.app ((li_ro hRo hRoN hS).sub [3] rfl) (va_P.app ((li_ro hRo hRoN hS).sub [4] rfl) ((li_ro hRo hRoN hS).sub [5] rfl)))))), (dj_cons (dj_r (hRoN 0 _ rfl) hD [6, 7, 8, 9] rfl) (dj_cons (dj_r (hRoN 1 _ rfl) hD [6, 7, 8, 9] rfl) (dj_cons (dj_r (hRoN 2 _ rfl) hD [6, 7, 8, 9] rfl) (dj_cons (dj_r (hRoN 3 _ rfl) hD [6, 7, 8, 9] rfl) (dj_cons (dj_r (hRoN 4 _ rfl) hD [6, 7, 8, 9] rfl) (dj_cons (dj_r (hRoN 5 _ rfl) hD [6, 7, 8, 9] rfl) dj_nil))))))⟩ hK hN (hG.go hS hAN)) rfl rfl hl.1 rfl (lv_room (Nat.le_of_ble_eq_true rfl)) d_J_countMet_50 ⟨(by show 0 + 0 ≤ 0; omega), (by show 0 + 0 ≤ 0; omega)⟩) hP hD hS hA [6, 7, 8, 9] [0, 1, 2, 3, 4, 5, 10] rfl rfl (by decide) (by decide) (fun u6 H locs hu6 hP hD hS _hk => ?_)
                obtain ⟨w_z, w_l, w_b, w_e⟩ := u6
                have hP : va_P (dC, dI) CL [(jo, .inr (4, [.ref wo, .ref wo2, .ref jm, .ref jr, .int (iI jy)])), (jr, .inl (kA 2, 101, .inl (zI vr))), (wo, .inr (9, [.ref wl, .ref wb, .ref we, .int (iI wz)])), (wl, .inl (kA 1, wn, .inl (aI lt))), (wb, .inl (kA 0, wk, .inl (aI sb))), (we, .inl (kA 0, wk, .inl (aI se))), (jm, .inl (kA 2, 100, .inl (zI vn))), (wo2, .inr (9, [.ref wl2, .ref wb2, .ref we2, .int (iI w_z)])), (wl2, .inl (kA 1, wn2, .inl (aI w_l))), (wb2, .inl (kA 0, wk2, .inl (aI w_b))), (we2, .inl (kA 0, wk2, .inl (aI w_e)))] H := hP
                have hD : va_D A [(jo, .inr (4, [.ref wo, .ref wo2, .ref jm, .ref jr, .int (iI jy)])), (jr, .inl (kA 2, 101, .inl (zI vr))), (wo, .inr (9, [.ref wl, .ref wb, .ref we, .int (iI wz)])), (wl, .inl (kA 1, wn, .inl (aI lt))), (wb, .inl (kA 0, wk, .inl (aI sb))), (we, .inl (kA 0, wk, .inl (aI se))), (jm, .inl (kA 2, 100, .inl (zI vn))), (wo2, .inr (9, [.ref wl2, .ref wb2, .ref we2, .int (iI w_z)])), (wl2, .inl (kA 1, wn2, .inl (aI w_l))), (wb2, .inl (kA 0, wk2, .inl (aI w_b))), (we2, .inl (kA 0, wk2, .inl (aI w_e)))] := hD
                have hp50 : WR wn2 wk2 w_z w_l w_b w_e ∧ WL (wsF t false (txSt ts te tl tc t9 ix) (txEn te tc t9)) w_z w_l w_b w_e := hu6
                obtain ⟨hWv2, hWL2⟩ := hp50
                have hWL2 : WL (twF t (txSt ts te tl tc t9 ix, txEn te tc t9)) w_z w_l w_b w_e := hWL2
                refine lv_aload_n hx hb d_J_countMet_53 rfl (lv_at hl 1 rfl) ?_
                refine li_callw (wc := [(jo, .inr (4, [.ref wo, .ref wo2, .ref jm, .ref jr, .int (iI jy)])), (jr, .inl (kA 2, 101, .inl (zI vr))), (wo, .inr (9, [.ref wl, .ref wb, .ref we, .int (iI wz)])), (wl, .inl (kA 1, wn, .inl (aI lt))), (wb, .inl (kA 0, wk, .inl (aI sb))), (we, .inl (kA 0, wk, .inl (aI se))), (wo2, .inr (9, [.ref wl2, .ref wb2, .ref we2, .int (iI w_z)])), (wl2, .inl (kA 1, wn2, .inl (aI w_l))), (wb2, .inl (kA 0, wk2, .inl (aI w_b))), (we2, .inl (kA 0, wk2, .inl (aI w_e))), (jm, .inl (kA 2, 100, .inl (zI vn)))]) (wr := []) (va_runV (As := []) (rest := []) ⟨hx, hb, hml, hown, hts⟩ (c_J_meetText l dC dI kA H.size jo wo wl wb we wn wk wz lt sb se wo2 wl2 wb2 we2 wn2 wk2 w_z w_l w_b w_e jm jr jy vr vn ws (twF t (txSt ts te tl tc t9 ix, txEn te tc t9)) (by exact hW) (by first | exact hWv2 | exact hWv) (by exact hWL) (by exact hWL2) (by omega) (by omega)) (cw_J_94 hts rfl rfl ⟨Nat.le_of_ble_eq_true rfl, Nat.le_of_ble_eq_true rfl⟩) (li_preV (va_recv hK hP (ci := 4) (q0 := 0) rfl rfl) ⟨rfl, hP.sub [0, 1, 2, 3, 4, 5, 7, 8, 9, 10, 6] rfl, (hD.sub [0, 1, 2, 3, 4, 5, 7, 8, 9, 10, 6] (by decide) rfl).weaken (fun _ _ _ h => hAN _ h), trivial⟩ hK hN (hG.go hS hAN)) rfl rfl hl.1 rfl (lv_room (Nat.le_of_ble_eq_true rfl)) d_J_countMet_54 ⟨(by show 0 + 0 ≤ 0; omega), (by show 0 + 0 ≤ 0; omega)⟩) hP hD hS hA [0, 1, 2, 3, 4, 5, 7, 8, 9, 10, 6] [] rfl rfl (by decide) (by decide) (fun u7 H locs hu7 hP hD hS _hk => ?_)
                obtain ⟨f_m, f_r⟩ := u7
                have hP : va_P (dC, dI) CL [(jo, .inr (4, [.ref wo, .ref wo2, .ref jm, .ref jr, .int (iI jy)])), (jr, .inl (kA 2, 101, .inl (zI f_r))), (wo, .inr (9, [.ref wl, .ref wb, .ref we, .int (iI wz)])), (wl, .inl (kA 1, wn, .inl (aI lt))), (wb, .inl (kA 0, wk, .inl (aI sb))), (we, .inl (kA 0, wk, .inl (aI se))), (wo2, .inr (9, [.ref wl2, .ref wb2, .ref we2, .int (iI w_z)])), (wl2, .inl (kA 1, wn2, .inl (aI w_l))), (wb2, .inl (kA 0, wk2, .inl (aI w_b))), (we2, .inl (kA 0, wk2, .inl (aI w_e))), (jm, .inl (kA 2, 100, .inl (zI f_m)))] H := hP
                have hD : va_D A [(jo, .inr (4, [.ref wo, .ref wo2, .ref jm, .ref jr, .int (iI jy)])), (jr, .inl (kA 2, 101, .inl (zI f_r))), (wo, .inr (9, [.ref wl, .ref wb, .ref we, .int (iI wz)])), (wl, .inl (kA 1, wn, .inl (aI lt))), (wb, .inl (kA 0, wk, .inl (aI sb))), (we, .inl (kA 0, wk, .inl (aI se))), (wo2, .inr (9, [.ref wl2, .ref wb2, .ref we2, .int (iI w_z)])), (wl2, .inl (kA 1, wn2, .inl (aI w_l))), (wb2, .inl (kA 0, wk2, .inl (aI w_b))), (we2, .inl (kA 0, wk2, .inl (aI w_e))), (jm, .inl (kA 2, 100, .inl (zI f_m)))] := hD
                have hp54 : ∀ k : Nat, f_m k = if (k : Int) < wz then (vn k || (twF t (txSt ts te tl tc t9 ix, txEn te tc t9)).any (mtW (ws.getD k []))) else vn k := hu7
                obtain ⟨t_n, et_n⟩ : ∃ y_9 : Int, y_9 = t9 + 1 := ⟨_, rfl⟩
                refine lv_iinc (v := iI t_n) (lv' := [(3, .int (iI t_n)), (0, .ref jo), (1, .ref ho), (2, .int (iI ix))]) hx hb d_J_countMet_57 hl (k := 0) rfl (by rw [et_n]; exact iI_add _ _) (by decide) rfl (fun ls hl => ?_)
                refine lv_goto (tgt := 26) hx hb d_J_countMet_60 (by decide) ?_
                exact ih_26 t_n f_m f_r w_z w_l w_b w_e (by omega) (by first | exact hWv2 | exact hWv | exact hW2) (by first | (rw [et_n]; exact hvn) | (intro k hk; rw [et_n, hp54 k, if_pos hk, ← hvn k hk]; unfold thW; rw [List.any_cons, Bool.or_assoc])) (by first | exact hvo | (intro k hk hk2; rw [hp54 k, if_neg (by omega)]; exact hvo k hk hk2)) (by omega) _ _ hP hD hS _ (lv_sub hl [0, 1, 2, 3] rfl)
        exact K_26 ((tc - 0).toNat + 1) 0 vm rc wz2 lt2 sb2 se2 (by omega) (by first | exact hWv2 | exact hWv | exact hW2) (by intro k hk; rw [hv0 k (by omega), Int.sub_zero, Bool.false_or]) (by intro k hk hk2; exact hv0 k (by omega)) (Nat.lt_succ_self _) _ _ hP hD hS _ (lv_sub hl [0, 1, 2, 3] rfl)
      · have _q := c1
        refine lv_aload_n hx hb d_J_countMet_11 rfl (lv_at hl 1 rfl) ?_
        refine gf_J_23 hx hb hts hown hK hP 0 rfl rfl d_J_countMet_12 ?_
        refine lv_iload_n hx hb d_J_countMet_15 rfl (lv_at hl 0 rfl) ?_
        refine lv_iconst (v := iI 0) hx hb d_J_countMet_16 rfl ?_
        refine W.eq (g2 := F0 m 17 ls [.int (iI (bI false)), .int (iI i), .ref jm]) rfl ?_
        refine li_zast hx hb hK hP hD hS 10 2 rfl rfl (by omega) (by omega) (by omega) d_J_countMet_17 (fun H locs hP hD hS => ?_)
        have hP : va_P (dC, dI) CL [(jo, .inr (4, [.ref wo, .ref wo2, .ref jm, .ref jr, .int (iI jy)])), (jr, .inl (kA 2, 101, .inl (zI rc))), (wo, .inr (9, [.ref wl, .ref wb, .ref we, .int (iI wz)])), (wl, .inl (kA 1, wn, .inl (aI lt))), (wb, .inl (kA 0, wk, .inl (aI sb))), (we, .inl (kA 0, wk, .inl (aI se))), (wo2, .inr (9, [.ref wl2, .ref wb2, .ref we2, .int (iI wz2)])), (wl2, .inl (kA 1, wn2, .inl (aI lt2))), (wb2, .inl (kA 0, wk2, .inl (aI sb2))), (we2, .inl (kA 0, wk2, .inl (aI se2))), (jm, .inl (kA 2, 100, .inl (zI (va_up vm i.toNat false))))] H := hP
        have hD : va_D A [(jo, .inr (4, [.ref wo, .ref wo2, .ref jm, .ref jr, .int (iI jy)])), (jr, .inl (kA 2, 101, .inl (zI rc))), (wo, .inr (9, [.ref wl, .ref wb, .ref we, .int (iI wz)])), (wl, .inl (kA 1, wn, .inl (aI lt))), (wb, .inl (kA 0, wk, .inl (aI sb))), (we, .inl (kA 0, wk, .inl (aI se))), (wo2, .inr (9, [.ref wl2, .ref wb2, .ref we2, .int (iI wz2)])), (wl2, .inl (kA 1, wn2, .inl (aI lt2))), (wb2, .inl (kA 0, wk2, .inl (aI sb2))), (we2, .inl (kA 0, wk2, .inl (aI se2))), (jm, .inl (kA 2, 100, .inl (zI (va_up vm i.toNat false))))] := hD
        obtain ⟨i_n, ei_n⟩ : ∃ y_9 : Int, y_9 = i + 1 := ⟨_, rfl⟩
        refine lv_iinc (v := iI i_n) (lv' := [(3, .int (iI i_n)), (0, .ref jo), (1, .ref ho), (2, .int (iI ix))]) hx hb d_J_countMet_18 hl (k := 0) rfl (by rw [ei_n]; exact iI_add _ _) (by decide) rfl (fun ls hl => ?_)
        refine lv_goto (tgt := 2) hx hb d_J_countMet_21 (by decide) ?_
        exact ih_2 i_n (va_up vm i.toNat false) (by omega) (by intro k hk; unfold va_up; exact if q8 : k = i.toNat then (by rw [if_pos q8]) else (by rw [if_neg q8]; exact hv0 k (by omega))) (by omega) _ _ hP hD hS _ (lv_sub hl [0, 1, 2, 3] rfl)
  exact K_2 ((100 - (0 : Int)).toNat + 1) 0 mt (by omega) (by intro k hk; omega) (Nat.lt_succ_self _) _ _ hP hD hS _ (lv_sub hl [0, 1, 2, 3] rfl)
theorem d_J_satisfies_0 : decode b_J_satisfies 0 = .ok (.iload_n 3, 1) := by decide +kernel
theorem d_J_satisfies_1 : decode b_J_satisfies 1 = .ok (.iconst 4, 1) := by decide +kernel
theorem d_J_satisfies_2 : decode b_J_satisfies 2 = .ok (.if_icmp .lt 13, 3) := by decide +kernel
theorem d_J_satisfies_5 : decode b_J_satisfies 5 = .ok (.aload_n 0, 1) := by decide +kernel
theorem d_J_satisfies_6 : decode b_J_satisfies 6 = .ok (.aload_n 1, 1) := by decide +kernel
theorem d_J_satisfies_7 : decode b_J_satisfies 7 = .ok (.invokevirtual 63, 3) := by decide +kernel
theorem d_J_satisfies_10 : decode b_J_satisfies 10 = .ok (.iload_n 3, 1) := by decide +kernel
theorem d_J_satisfies_11 : decode b_J_satisfies 11 = .ok (.invokevirtual 69, 3) := by decide +kernel
theorem d_J_satisfies_14 : decode b_J_satisfies 14 = .ok (.ireturn, 1) := by decide +kernel
theorem d_J_satisfies_15 : decode b_J_satisfies 15 = .ok (.aload_n 0, 1) := by decide +kernel
theorem d_J_satisfies_16 : decode b_J_satisfies 16 = .ok (.getfield 14, 3) := by decide +kernel
theorem d_J_satisfies_19 : decode b_J_satisfies 19 = .ok (.getfield 73, 3) := by decide +kernel
theorem d_J_satisfies_22 : decode b_J_satisfies 22 = .ok (.ifCond .ne 5, 3) := by decide +kernel
theorem d_J_satisfies_25 : decode b_J_satisfies 25 = .ok (.iconst 0, 1) := by decide +kernel
theorem d_J_satisfies_26 : decode b_J_satisfies 26 = .ok (.ireturn, 1) := by decide +kernel
theorem d_J_satisfies_27 : decode b_J_satisfies 27 = .ok (.iload_n 3, 1) := by decide +kernel
theorem d_J_satisfies_28 : decode b_J_satisfies 28 = .ok (.ifCond .ne 18, 3) := by decide +kernel
theorem d_J_satisfies_31 : decode b_J_satisfies 31 = .ok (.aload_n 0, 1) := by decide +kernel
theorem d_J_satisfies_32 : decode b_J_satisfies 32 = .ok (.aload_n 1, 1) := by decide +kernel
theorem d_J_satisfies_33 : decode b_J_satisfies 33 = .ok (.iload_n 2, 1) := by decide +kernel
theorem d_J_satisfies_34 : decode b_J_satisfies 34 = .ok (.invokevirtual 76, 3) := by decide +kernel
theorem d_J_satisfies_37 : decode b_J_satisfies 37 = .ok (.ifCond .le 7, 3) := by decide +kernel
theorem d_J_satisfies_40 : decode b_J_satisfies 40 = .ok (.iconst 1, 1) := by decide +kernel
theorem d_J_satisfies_41 : decode b_J_satisfies 41 = .ok (.goto 4, 3) := by decide +kernel
theorem d_J_satisfies_44 : decode b_J_satisfies 44 = .ok (.iconst 0, 1) := by decide +kernel
theorem d_J_satisfies_45 : decode b_J_satisfies 45 = .ok (.ireturn, 1) := by decide +kernel
theorem d_J_satisfies_46 : decode b_J_satisfies 46 = .ok (.iload_n 3, 1) := by decide +kernel
theorem d_J_satisfies_47 : decode b_J_satisfies 47 = .ok (.iconst 1, 1) := by decide +kernel
theorem d_J_satisfies_48 : decode b_J_satisfies 48 = .ok (.if_icmp .ne 25, 3) := by decide +kernel
theorem d_J_satisfies_51 : decode b_J_satisfies 51 = .ok (.aload_n 0, 1) := by decide +kernel
theorem d_J_satisfies_52 : decode b_J_satisfies 52 = .ok (.aload_n 1, 1) := by decide +kernel
theorem d_J_satisfies_53 : decode b_J_satisfies 53 = .ok (.iload_n 2, 1) := by decide +kernel
theorem d_J_satisfies_54 : decode b_J_satisfies 54 = .ok (.invokevirtual 76, 3) := by decide +kernel
theorem d_J_satisfies_57 : decode b_J_satisfies 57 = .ok (.aload_n 0, 1) := by decide +kernel
theorem d_J_satisfies_58 : decode b_J_satisfies 58 = .ok (.getfield 14, 3) := by decide +kernel
theorem d_J_satisfies_61 : decode b_J_satisfies 61 = .ok (.getfield 73, 3) := by decide +kernel
theorem d_J_satisfies_64 : decode b_J_satisfies 64 = .ok (.if_icmp .ne 7, 3) := by decide +kernel
theorem d_J_satisfies_67 : decode b_J_satisfies 67 = .ok (.iconst 1, 1) := by decide +kernel
theorem d_J_satisfies_68 : decode b_J_satisfies 68 = .ok (.goto 4, 3) := by decide +kernel
theorem d_J_satisfies_71 : decode b_J_satisfies 71 = .ok (.iconst 0, 1) := by decide +kernel
theorem d_J_satisfies_72 : decode b_J_satisfies 72 = .ok (.ireturn, 1) := by decide +kernel
theorem d_J_satisfies_73 : decode b_J_satisfies 73 = .ok (.aload_n 0, 1) := by decide +kernel
theorem d_J_satisfies_74 : decode b_J_satisfies 74 = .ok (.aload_n 1, 1) := by decide +kernel
theorem d_J_satisfies_75 : decode b_J_satisfies 75 = .ok (.iload_n 2, 1) := by decide +kernel
theorem d_J_satisfies_76 : decode b_J_satisfies 76 = .ok (.iload_n 3, 1) := by decide +kernel
theorem d_J_satisfies_77 : decode b_J_satisfies 77 = .ok (.iconst 3, 1) := by decide +kernel
theorem d_J_satisfies_78 : decode b_J_satisfies 78 = .ok (.if_icmp .ne 7, 3) := by decide +kernel
theorem d_J_satisfies_81 : decode b_J_satisfies 81 = .ok (.iconst 1, 1) := by decide +kernel
theorem d_J_satisfies_82 : decode b_J_satisfies 82 = .ok (.goto 4, 3) := by decide +kernel
theorem d_J_satisfies_85 : decode b_J_satisfies 85 = .ok (.iconst 0, 1) := by decide +kernel
theorem d_J_satisfies_86 : decode b_J_satisfies 86 = .ok (.invokevirtual 80, 3) := by decide +kernel
theorem d_J_satisfies_89 : decode b_J_satisfies 89 = .ok (.ireturn, 1) := by decide +kernel
set_option maxHeartbeats 4000000 in
set_option maxRecDepth 100000 in
theorem c_J_satisfies (l : Launch) (dC : Nat → ClassId) (dI : Nat → Nat → Nat) (kA : Nat → ClassId) (sz : Nat) (jo : Nat) (wo : Nat) (wl : Nat) (wb : Nat) (we : Nat) (wn : Nat) (wk : Nat) (wz : Int) (lt : Nat → Int) (sb : Nat → Int) (se : Nat → Int) (wo2 : Nat) (wl2 : Nat) (wb2 : Nat) (we2 : Nat) (wn2 : Nat) (wk2 : Nat) (wz2 : Int) (lt2 : Nat → Int) (sb2 : Nat → Int) (se2 : Nat → Int) (jm : Nat) (jr : Nat) (jy : Int) (rc : Nat → Bool) (mt : Nat → Bool) (ws : List (List Int)) (ho : Nat) (oc : Nat) (xi : Nat) (xs : Nat) (xe : Nat) (xl : Nat) (n : Nat) (mx : Nat) (fd : Int) (tc : Int) (t : Nat → Int) (ti : Nat → Int) (ts : Nat → Int) (te : Nat → Int) (tl : Nat → Int) (ix : Int) (rel : Int) (hW : WR wn wk wz lt sb se) (hW2 : WR wn2 wk2 wz2 lt2 sb2 se2) (hWL : WL ws wz lt sb se) (hw1 : wn ≤ 100) (hw2 : wn2 = 400 ∧ 401 ≤ 2 * wk2) (hH : HR n mx t ti ts te tl tc) (hte : ∀ j, te j ≤ n) (hix : -2147483648 ≤ ix ∧ ix < 2147483648) (hwz100 : wz ≤ 100) (hrel : 0 ≤ rel ∧ rel ≤ 7) (hy : -1 ≤ jy ∧ jy ≤ 9999) : Met l y_J_satisfies (wsy y_J_satisfies b_J_satisfies 4 (some .boolean)) (rmd 5 0 0) (li_Pr (dC, dI) CL (TY kA) [.ref jo, .ref ho, .int (iI ix), .int (iI rel)] (fun h => h.size = sz ∧ va_P (dC, dI) CL [(jo, .inr (4, [.ref wo, .ref wo2, .ref jm, .ref jr, .int (iI jy)])), (jr, .inl (kA 2, 101, .inl (zI rc))), (wo, .inr (9, [.ref wl, .ref wb, .ref we, .int (iI wz)])), (wl, .inl (kA 1, wn, .inl (aI lt))), (wb, .inl (kA 0, wk, .inl (aI sb))), (we, .inl (kA 0, wk, .inl (aI se))), (wo2, .inr (9, [.ref wl2, .ref wb2, .ref we2, .int (iI wz2)])), (wl2, .inl (kA 1, wn2, .inl (aI lt2))), (wb2, .inl (kA 0, wk2, .inl (aI sb2))), (we2, .inl (kA 0, wk2, .inl (aI se2))), (jm, .inl (kA 2, 100, .inl (zI mt)))] h ∧ va_D (fun q => dI 100 0 ≤ q) [(jo, .inr (4, [.ref wo, .ref wo2, .ref jm, .ref jr, .int (iI jy)])), (jr, .inl (kA 2, 101, .inl (zI rc))), (wo, .inr (9, [.ref wl, .ref wb, .ref we, .int (iI wz)])), (wl, .inl (kA 1, wn, .inl (aI lt))), (wb, .inl (kA 0, wk, .inl (aI sb))), (we, .inl (kA 0, wk, .inl (aI se))), (wo2, .inr (9, [.ref wl2, .ref wb2, .ref we2, .int (iI wz2)])), (wl2, .inl (kA 1, wn2, .inl (aI lt2))), (wb2, .inl (kA 0, wk2, .inl (aI sb2))), (we2, .inl (kA 0, wk2, .inl (aI se2))), (jm, .inl (kA 2, 100, .inl (zI mt)))] ∧ (fun h => va_P (dC, dI) CL [(ho, .inr (2, [.ref oc, .int (iI fd), .ref xi, .ref xs, .ref xe, .ref xl, .int (iI tc)])), (oc, .inl (kA 1, n, .inl (aI t))), (xi, .inl (kA 0, mx, .inl (aI ti))), (xs, .inl (kA 0, mx, .inl (aI ts))), (xe, .inl (kA 0, mx, .inl (aI te))), (xl, .inl (kA 0, mx, .inl (aI tl)))] h ∧ Dsj [(ho, .inr (2, [.ref oc, .int (iI fd), .ref xi, .ref xs, .ref xe, .ref xl, .int (iI tc)])), (oc, .inl (kA 1, n, .inl (aI t))), (xi, .inl (kA 0, mx, .inl (aI ti))), (xs, .inl (kA 0, mx, .inl (aI ts))), (xe, .inl (kA 0, mx, .inl (aI te))), (xl, .inl (kA 0, mx, .inl (aI tl)))] [(jo, .inr (4, [.ref wo, .ref wo2, .ref jm, .ref jr, .int (iI jy)])), (jr, .inl (kA 2, 101, .inl (zI rc))), (wo, .inr (9, [.ref wl, .ref wb, .ref we, .int (iI wz)])), (wl, .inl (kA 1, wn, .inl (aI lt))), (wb, .inl (kA 0, wk, .inl (aI sb))), (we, .inl (kA 0, wk, .inl (aI se))), (wo2, .inr (9, [.ref wl2, .ref wb2, .ref we2, .int (iI wz2)])), (wl2, .inl (kA 1, wn2, .inl (aI lt2))), (wb2, .inl (kA 0, wk2, .inl (aI sb2))), (we2, .inl (kA 0, wk2, .inl (aI se2))), (jm, .inl (kA 2, 100, .inl (zI mt)))]) h)) (li_Qw (S := (Nat → Bool) × (Nat → Bool) × (Int) × (Nat → Int) × (Nat → Int) × (Nat → Int)) (dC, dI) CL (fun u => WR wn2 wk2 u.2.2.1 u.2.2.2.1 u.2.2.2.2.1 u.2.2.2.2.2) (fun u => some (.int (iI (bI (saW t (txL ti ts te tl tc ix tc.toNat 0) (dateF t n ti ts te tc) rel jy ws))))) (fun u => [(jo, .inr (4, [.ref wo, .ref wo2, .ref jm, .ref jr, .int (iI jy)])), (jr, .inl (kA 2, 101, .inl (zI u.2.1))), (wo, .inr (9, [.ref wl, .ref wb, .ref we, .int (iI wz)])), (wl, .inl (kA 1, wn, .inl (aI lt))), (wb, .inl (kA 0, wk, .inl (aI sb))), (we, .inl (kA 0, wk, .inl (aI se))), (wo2, .inr (9, [.ref wl2, .ref wb2, .ref we2, .int (iI u.2.2.1)])), (wl2, .inl (kA 1, wn2, .inl (aI u.2.2.2.1))), (wb2, .inl (kA 0, wk2, .inl (aI u.2.2.2.2.1))), (we2, .inl (kA 0, wk2, .inl (aI u.2.2.2.2.2))), (jm, .inl (kA 2, 100, .inl (zI u.1)))]) (va_A [(jo, .inr (4, [.ref wo, .ref wo2, .ref jm, .ref jr, .int (iI jy)])), (jr, .inl (kA 2, 101, .inl (zI rc))), (wo, .inr (9, [.ref wl, .ref wb, .ref we, .int (iI wz)])), (wl, .inl (kA 1, wn, .inl (aI lt))), (wb, .inl (kA 0, wk, .inl (aI sb))), (we, .inl (kA 0, wk, .inl (aI se))), (wo2, .inr (9, [.ref wl2, .ref wb2, .ref we2, .int (iI wz2)])), (wl2, .inl (kA 1, wn2, .inl (aI lt2))), (wb2, .inl (kA 0, wk2, .inl (aI sb2))), (we2, .inl (kA 0, wk2, .inl (aI se2))), (jm, .inl (kA 2, 100, .inl (zI mt)))] sz)) 0 0 (va_A [(jo, .inr (4, [.ref wo, .ref wo2, .ref jm, .ref jr, .int (iI jy)])), (jr, .inl (kA 2, 101, .inl (zI rc))), (wo, .inr (9, [.ref wl, .ref wb, .ref we, .int (iI wz)])), (wl, .inl (kA 1, wn, .inl (aI lt))), (wb, .inl (kA 0, wk, .inl (aI sb))), (we, .inl (kA 0, wk, .inl (aI se))), (wo2, .inr (9, [.ref wl2, .ref wb2, .ref we2, .int (iI wz2)])), (wl2, .inl (kA 1, wn2, .inl (aI lt2))), (wb2, .inl (kA 0, wk2, .inl (aI sb2))), (we2, .inl (kA 0, wk2, .inl (aI se2))), (jm, .inl (kA 2, 100, .inl (zI mt)))] sz) := by
  refine li_mwi (r := fun (u : (Nat → Bool) × (Nat → Bool) × (Int) × (Nat → Int) × (Nat → Int) × (Nat → Int)) => bI (saW t (txL ti ts te tl tc ix tc.toNat 0) (dateF t n ti ts te tc) rel jy ws)) (by decide) (Nat.le_of_ble_eq_true rfl) (fun u _ => by exact li_narZ2 _) ?_
  intro p e s m args below meth c Q A C hP hD hBx hK hN hG hA hAi hAN fin ls hl
  obtain ⟨hx, hb, hr, hml, hown, hts, hlocks, hin⟩ := C
  have hown : s.vm.findClass R_J = some m.cls := hown
  obtain ⟨hRo, hDj⟩ := hBx
  have hRo : va_P (dC, dI) CL [(ho, .inr (2, [.ref oc, .int (iI fd), .ref xi, .ref xs, .ref xe, .ref xl, .int (iI tc)])), (oc, .inl (kA 1, n, .inl (aI t))), (xi, .inl (kA 0, mx, .inl (aI ti))), (xs, .inl (kA 0, mx, .inl (aI ts))), (xe, .inl (kA 0, mx, .inl (aI te))), (xl, .inl (kA 0, mx, .inl (aI tl)))] s.heap := hRo
  have hRoN := li_roN (A := A) hRo hDj hAi
  have hl : lv_has ls 4 [(0, .ref jo), (1, .ref ho), (2, .int (iI ix)), (3, .int (iI rel))] := hl
  obtain ⟨hwn, hwk, hwz, hlt, hsb, hse⟩ := id hW
  obtain ⟨hn, hmx, htc, ht, hti, hxs, hxe, hxl⟩ := id hH
  have hlw := hWL.len
  have hdt := dateF_r (t := t) (n := n) (ti := ti) (ts := ts) (te := te) (tc := tc) (fun j => by have := ht j; omega)
  suffices h9 : ∀ (H : Heap) (locs : List Loc), H = s.heap → locs = [] → W p l e (rmd 5 0 0) s m args below meth c H locs 0 0 Q (F0 m 0 ls []) from h9 _ _ rfl rfl
  intro H locs eH eL
  have hP : va_P (dC, dI) CL [(jo, .inr (4, [.ref wo, .ref wo2, .ref jm, .ref jr, .int (iI jy)])), (jr, .inl (kA 2, 101, .inl (zI rc))), (wo, .inr (9, [.ref wl, .ref wb, .ref we, .int (iI wz)])), (wl, .inl (kA 1, wn, .inl (aI lt))), (wb, .inl (kA 0, wk, .inl (aI sb))), (we, .inl (kA 0, wk, .inl (aI se))), (wo2, .inr (9, [.ref wl2, .ref wb2, .ref we2, .int (iI wz2)])), (wl2, .inl (kA 1, wn2, .inl (aI lt2))), (wb2, .inl (kA 0, wk2, .inl (aI sb2))), (we2, .inl (kA 0, wk2, .inl (aI se2))), (jm, .inl (kA 2, 100, .inl (zI mt)))] H := by rw [eH]; exact hP
  have hS : va_S A s.heap H locs := by rw [eH, eL]; exact va_S.rf
  refine lv_iload_n hx hb d_J_satisfies_0 rfl (lv_at hl 3 rfl) ?_
  refine lv_iconst (v := iI 4) hx hb d_J_satisfies_1 rfl ?_
  refine li_icmp_lt (tgt := 15) hx hb d_J_satisfies_2 (by decide) (by first | omega | (have h8 := List.length_filter_le (thW t (txL ti ts te tl tc ix tc.toNat 0)) ws; omega)) (by first | omega | (have h8 := List.length_filter_le (thW t (txL ti ts te tl tc ix tc.toNat 0)) ws; omega)) (fun c1 => ?_) (fun c1 => ?_)
  · have _q := c1
    refine lv_aload_n hx hb d_J_satisfies_15 rfl (lv_at hl 0 rfl) ?_
    refine gf_J_14 hx hb hts hown hK hP 0 rfl rfl d_J_satisfies_16 ?_
    refine gf_J_73 hx hb hts hN hown hK hP 2 rfl rfl d_J_satisfies_19 ?_
    refine li_if_ne (tgt := 27) hx hb d_J_satisfies_22 (by decide) (by first | omega | (have h8 := List.length_filter_le (thW t (txL ti ts te tl tc ix tc.toNat 0)) ws; omega)) (fun c2 => ?_) (fun c2 => ?_)
    · have _q := c2
      refine lv_iload_n hx hb d_J_satisfies_27 rfl (lv_at hl 3 rfl) ?_
      refine li_if_ne (tgt := 46) hx hb d_J_satisfies_28 (by decide) (by first | omega | (have h8 := List.length_filter_le (thW t (txL ti ts te tl tc ix tc.toNat 0)) ws; omega)) (fun c3 => ?_) (fun c3 => ?_)
      · have _q := c3
        refine lv_iload_n hx hb d_J_satisfies_46 rfl (lv_at hl 3 rfl) ?_
        refine lv_iconst (v := iI 1) hx hb d_J_satisfies_47 rfl ?_
        refine li_icmp_ne (tgt := 73) hx hb d_J_satisfies_48 (by decide) (by first | omega | (have h8 := List.length_filter_le (thW t (txL ti ts te tl tc ix tc.toNat 0)) ws; omega)) (by first | omega | (have h8 := List.length_filter_le (thW t (txL ti ts te tl tc ix tc.toNat 0)) ws; omega)) (fun c4 => ?_) (fun c4 => ?_)
        · have _q := c4
          refine lv_aload_n hx hb d_J_satisfies_73 rfl (lv_at hl 0 rfl) ?_
          refine lv_aload_n hx hb d_J_satisfies_74 rfl (lv_at hl 1 rfl) ?_
          refine lv_iload_n hx hb d_J_satisfies_75 rfl (lv_at hl 2 rfl) ?_
          refine lv_iload_n hx hb d_J_satisfies_76 rfl (lv_at hl 3 rfl) ?_
          refine lv_iconst (v := iI 3) hx hb d_J_satisfies_77 rfl ?_
          refine li_icmp_ne (tgt := 85) hx hb d_J_satisfies_78 (by decide) (by first | omega | (have h8 := List.length_filter_le (thW t (txL ti ts te tl tc ix tc.toNat 0)) ws; omega)) (by first | omega | (have h8 := List.length_filter_le (thW t (txL ti ts te tl tc ix tc.toNat 0)) ws; omega)) (fun c5 => ?_) (fun c5 => ?_)
          · have _q := c5
            refine lv_iconst (v := iI 0) hx hb d_J_satisfies_85 rfl ?_
            refine li_callw (wc := [(jo, .inr (4, [.ref wo, .ref wo2, .ref jm, .ref jr, .int (iI jy)])), (jr, .inl (kA 2, 101, .inl (zI rc))), (wo, .inr (9, [.ref wl, .ref wb, .ref we, .int (iI wz)])), (wl, .inl (kA 1, wn, .inl (aI lt))), (wb, .inl (kA 0, wk, .inl (aI sb))), (we, .inl (kA 0, wk, .inl (aI se))), (wo2, .inr (9, [.ref wl2, .ref wb2, .ref we2, .int (iI wz2)])), (wl2, .inl (kA 1, wn2, .inl (aI lt2))), (wb2, .inl (kA 0, wk2, .inl (aI sb2))), (we2, .inl (kA 0, wk2, .inl (aI se2)))]) (wr := [(jm, .inl (kA 2, 100, .inl (zI mt)))]) (va_runV (As := [.ref ho, .int (iI ix), .int (iI 0)]) (rest := []) ⟨hx, hb, hml, hown, hts⟩ (c_J_isInOneText l dC dI kA H.size jo wo wl wb we wn wk wz lt sb se wo2 wl2 wb2 we2 wn2 wk2 wz2 lt2 sb2 se2 jm jr jy rc ws ho oc xi xs xe xl n mx fd tc t ti ts te tl ix false (by exact hW) (by exact hW2) (by exact hWL) (by omega) (by omega) (by exact hH) (by exact hte) (by omega) (by omega)) (cw_J_80 hts rfl rfl ⟨Nat.le_of_ble_eq_true rfl, Nat.le_of_ble_eq_true rfl⟩) (li_preV (va_recv hK hP (ci := 4) (q0 := 0) rfl rfl) ⟨rfl, hP.sub [0, 1, 2, 3, 4, 5, 6, 7, 8, 9] rfl, (hD.sub [0, 1, 2, 3, 4, 5, 6, 7, 8, 9] (by decide) rfl).weaken (fun _ _ _ h => hAN _ h), (va_P.app ((li_ro hRo hRoN hS).sub [0] rfl) (va_P.app ((li_ro hRo hRoN hS).sub [1] rfl) (va_P.app ((li_ro hRo hRoN hS).sub [2] rfl) (va_P.app ((li_ro hRo hRoN hS).sub [3] rfl) (va_P.app ((li_ro hRo hRoN hS).sub [4] rfl) ((li_ro hRo hRoN hS).sub [5] rfl)))))), (dj_cons (dj_r (hRoN 0 _ rfl) hD [0, 1, 2, 3, 4, 5, 6, 7, 8, 9] rfl) (dj_cons (dj_r (hRoN 1 _ rfl) hD [0, 1, 2, 3, 4, 5, 6, 7, 8, 9] rfl) (dj_cons (dj_r (hRoN 2 _ rfl) hD [0, 1, 2, 3, 4, 5, 6, 7, 8, 9] rfl) (dj_cons (dj_r (hRoN 3 _ rfl) hD [0, 1, 2, 3, 4, 5, 6, 7, 8, 9] rfl) (dj_cons (dj_r (hRoN 4 _ rfl) hD [0, 1, 2, 3, 4, 5, 6, 7, 8, 9] rfl) (dj_cons (dj_r (hRoN 5 _ rfl) hD [0, 1, 2, 3, 4, 5, 6, 7, 8, 9] rfl) dj_nil))))))⟩ hK hN (hG.go hS hAN)) rfl rfl hl.1 rfl (lv_room (Nat.le_of_ble_eq_true rfl)) d_J_satisfies_86 ⟨(by show 0 + 0 ≤ 0; omega), (by show 0 + 0 ≤ 0; omega)⟩) hP hD hS hA [0, 1, 2, 3, 4, 5, 6, 7, 8, 9] [10] rfl rfl (by decide) (by decide) (fun u6 H locs hu6 hP hD hS _hk => ?_)
            obtain ⟨g97, n18, f19, f210, f311⟩ := u6
            have hP : va_P (dC, dI) CL [(jm, .inl (kA 2, 100, .inl (zI mt))), (jo, .inr (4, [.ref wo, .ref wo2, .ref jm, .ref jr, .int (iI jy)])), (jr, .inl (kA 2, 101, .inl (zI g97))), (wo, .inr (9, [.ref wl, .ref wb, .ref we, .int (iI wz)])), (wl, .inl (kA 1, wn, .inl (aI lt))), (wb, .inl (kA 0, wk, .inl (aI sb))), (we, .inl (kA 0, wk, .inl (aI se))), (wo2, .inr (9, [.ref wl2, .ref wb2, .ref we2, .int (iI n18)])), (wl2, .inl (kA 1, wn2, .inl (aI f19))), (wb2, .inl (kA 0, wk2, .inl (aI f210))), (we2, .inl (kA 0, wk2, .inl (aI f311)))] H := hP
            have hD : va_D A [(jm, .inl (kA 2, 100, .inl (zI mt))), (jo, .inr (4, [.ref wo, .ref wo2, .ref jm, .ref jr, .int (iI jy)])), (jr, .inl (kA 2, 101, .inl (zI g97))), (wo, .inr (9, [.ref wl, .ref wb, .ref we, .int (iI wz)])), (wl, .inl (kA 1, wn, .inl (aI lt))), (wb, .inl (kA 0, wk, .inl (aI sb))), (we, .inl (kA 0, wk, .inl (aI se))), (wo2, .inr (9, [.ref wl2, .ref wb2, .ref we2, .int (iI n18)])), (wl2, .inl (kA 1, wn2, .inl (aI f19))), (wb2, .inl (kA 0, wk2, .inl (aI f210))), (we2, .inl (kA 0, wk2, .inl (aI f311)))] := hD
            have hp86 : WR wn2 wk2 n18 f19 f210 f311 := hu6
            refine W.eq (g2 := F0 m 89 ls [.int (iI (bI ((txL ti ts te tl tc ix tc.toNat 0).any (fun q => ioW false ws (twF t q)))))]) rfl ?_
            exact fin (mt, g97, n18, f19, f210, f311) _ _ _ _ _ (by unfold saW; rw [if_neg (by omega), if_neg (by omega), if_neg (by omega), if_neg (by omega)]; first | (rw [decide_eq_true (show rel = 3 by omega)]; done) | (rw [decide_eq_false (show ¬ rel = 3 by omega)]; done)) (by show WR wn2 wk2 n18 f19 f210 f311; exact hp86) (by first | exact hP.sub [1, 2, 3, 4, 5, 6, 7, 8, 9, 10, 0] rfl | (subst_vars; exact hP.sub [1, 2, 3, 4, 5, 6, 7, 8, 9, 10, 0] rfl)) (by first | exact hD.sub [1, 2, 3, 4, 5, 6, 7, 8, 9, 10, 0] (by decide) rfl | (subst_vars; exact hD.sub [1, 2, 3, 4, 5, 6, 7, 8, 9, 10, 0] (by decide) rfl)) hS d_J_satisfies_89
          · have _q := c5
            refine lv_iconst (v := iI 1) hx hb d_J_satisfies_81 rfl ?_
            refine lv_goto (tgt := 86) hx hb d_J_satisfies_82 (by decide) ?_
            refine li_callw (wc := [(jo, .inr (4, [.ref wo, .ref wo2, .ref jm, .ref jr, .int (iI jy)])), (jr, .inl (kA 2, 101, .inl (zI rc))), (wo, .inr (9, [.ref wl, .ref wb, .ref we, .int (iI wz)])), (wl, .inl (kA 1, wn, .inl (aI lt))), (wb, .inl (kA 0, wk, .inl (aI sb))), (we, .inl (kA 0, wk, .inl (aI se))), (wo2, .inr (9, [.ref wl2, .ref wb2, .ref we2, .int (iI wz2)])), (wl2, .inl (kA 1, wn2, .inl (aI lt2))), (wb2, .inl (kA 0, wk2, .inl (aI sb2))), (we2, .inl (kA 0, wk2, .inl (aI se2)))]) (wr := [(jm, .inl (kA 2, 100, .inl (zI mt)))]) (va_runV (As := [.ref ho, .int (iI ix), .int (iI 1)]) (rest := []) ⟨hx, hb, hml, hown, hts⟩ (c_J_isInOneText l dC dI kA H.size jo wo wl wb we wn wk wz lt sb se wo2 wl2 wb2 we2 wn2 wk2 wz2 lt2 sb2 se2 jm jr jy rc ws ho oc xi xs xe xl n mx fd tc t ti ts te tl ix true (by exact hW) (by exact hW2) (by exact hWL) (by omega) (by omega) (by exact hH) (by exact hte) (by omega) (by omega)) (cw_J_80 hts rfl rfl ⟨Nat.le_of_ble_eq_true rfl, Nat.le_of_ble_eq_true rfl⟩) (li_preV (va_recv hK hP (ci := 4) (q0 := 0) rfl rfl) ⟨rfl, hP.sub [0, 1, 2, 3, 4, 5, 6, 7, 8, 9] rfl, (hD.sub [0, 1, 2, 3, 4, 5, 6, 7, 8, 9] (by decide) rfl).weaken (fun _ _ _ h => hAN _ h), (va_P.app ((li_ro hRo hRoN hS).sub [0] rfl) (va_P.app ((li_ro hRo hRoN hS).sub [1] rfl) (va_P.app ((li_ro hRo hRoN hS).sub [2] rfl) (va_P.app ((li_ro hRo hRoN hS).sub [3] rfl) (va_P.app ((li_ro hRo hRoN hS).sub [4] rfl) ((li_ro hRo hRoN hS).sub [5] rfl)))))), (dj_cons (dj_r (hRoN 0 _ rfl) hD [0, 1, 2, 3, 4, 5, 6, 7, 8, 9] rfl) (dj_cons (dj_r (hRoN 1 _ rfl) hD [0, 1, 2, 3, 4, 5, 6, 7, 8, 9] rfl) (dj_cons (dj_r (hRoN 2 _ rfl) hD [0, 1, 2, 3, 4, 5, 6, 7, 8, 9] rfl) (dj_cons (dj_r (hRoN 3 _ rfl) hD [0, 1, 2, 3, 4, 5, 6, 7, 8, 9] rfl) (dj_cons (dj_r (hRoN 4 _ rfl) hD [0, 1, 2, 3, 4, 5, 6, 7, 8, 9] rfl) (dj_cons (dj_r (hRoN 5 _ rfl) hD [0, 1, 2, 3, 4, 5, 6, 7, 8, 9] rfl) dj_nil))))))⟩ hK hN (hG.go hS hAN)) rfl rfl hl.1 rfl (lv_room (Nat.le_of_ble_eq_true rfl)) d_J_satisfies_86 ⟨(by show 0 + 0 ≤ 0; omega), (by show 0 + 0 ≤ 0; omega)⟩) hP hD hS hA [0, 1, 2, 3, 4, 5, 6, 7, 8, 9] [10] rfl rfl (by decide) (by decide) (fun u12 H locs hu12 hP hD hS _hk => ?_)
            obtain ⟨g913, n114, f115, f216, f317⟩ := u12
            have hP : va_P (dC, dI) CL [(jm, .inl (kA 2, 100, .inl (zI mt))), (jo, .inr (4, [.ref wo, .ref wo2, .ref jm, .ref jr, .int (iI jy)])), (jr, .inl (kA 2, 101, .inl (zI g913))), (wo, .inr (9, [.ref wl, .ref wb, .ref we, .int (iI wz)])), (wl, .inl (kA 1, wn, .inl (aI lt))), (wb, .inl (kA 0, wk, .inl (aI sb))), (we, .inl (kA 0, wk, .inl (aI se))), (wo2, .inr (9, [.ref wl2, .ref wb2, .ref we2, .int (iI n114)])), (wl2, .inl (kA 1, wn2, .inl (aI f115))), (wb2, .inl (kA 0, wk2, .inl (aI f216))), (we2, .inl (kA 0, wk2, .inl (aI f317)))] H := hP
            have hD : va_D A [(jm, .inl (kA 2, 100, .inl (zI mt))), (jo, .inr (4, [.ref wo, .ref wo2, .ref jm, .ref jr, .int (iI jy)])), (jr, .inl (kA 2, 101, .inl (zI g913))), (wo, .inr (9, [.ref wl, .ref wb, .ref we, .int (iI wz)])), (wl, .inl (kA 1, wn, .inl (aI lt))), (wb, .inl (kA 0, wk, .inl (aI sb))), (we, .inl (kA 0, wk, .inl (aI se))), (wo2, .inr (9, [.ref wl2, .ref wb2, .ref we2, .int (iI n114)])), (wl2, .inl (kA 1, wn2, .inl (aI f115))), (wb2, .inl (kA 0, wk2, .inl (aI f216))), (we2, .inl (kA 0, wk2, .inl (aI f317)))] := hD
            have hp86 : WR wn2 wk2 n114 f115 f216 f317 := hu12
            refine W.eq (g2 := F0 m 89 ls [.int (iI (bI ((txL ti ts te tl tc ix tc.toNat 0).any (fun q => ioW true ws (twF t q)))))]) rfl ?_
            exact fin (mt, g913, n114, f115, f216, f317) _ _ _ _ _ (by unfold saW; rw [if_neg (by omega), if_neg (by omega), if_neg (by omega), if_neg (by omega)]; first | (rw [decide_eq_true (show rel = 3 by omega)]; done) | (rw [decide_eq_false (show ¬ rel = 3 by omega)]; done)) (by show WR wn2 wk2 n114 f115 f216 f317; exact hp86) (by first | exact hP.sub [1, 2, 3, 4, 5, 6, 7, 8, 9, 10, 0] rfl | (subst_vars; exact hP.sub [1, 2, 3, 4, 5, 6, 7, 8, 9, 10, 0] rfl)) (by first | exact hD.sub [1, 2, 3, 4, 5, 6, 7, 8, 9, 10, 0] (by decide) rfl | (subst_vars; exact hD.sub [1, 2, 3, 4, 5, 6, 7, 8, 9, 10, 0] (by decide) rfl)) hS d_J_satisfies_89
        · have _q := c4
          refine lv_aload_n hx hb d_J_satisfies_51 rfl (lv_at hl 0 rfl) ?_
          refine lv_aload_n hx hb d_J_satisfies_52 rfl (lv_at hl 1 rfl) ?_
          refine lv_iload_n hx hb d_J_satisfies_53 rfl (lv_at hl 2 rfl) ?_
          refine li_callw (wc := [(jo, .inr (4, [.ref wo, .ref wo2, .ref jm, .ref jr, .int (iI jy)])), (jr, .inl (kA 2, 101, .inl (zI rc))), (wo, .inr (9, [.ref wl, .ref wb, .ref we, .int (iI wz)])), (wl, .inl (kA 1, wn, .inl (aI lt))), (wb, .inl (kA 0, wk, .inl (aI sb))), (we, .inl (kA 0, wk, .inl (aI se))), (wo2, .inr (9, [.ref wl2, .ref wb2, .ref we2, .int (iI wz2)])), (wl2, .inl (kA 1, wn2, .inl (aI lt2))), (wb2, .inl (kA 0, wk2, .inl (aI sb2))), (we2, .inl (kA 0, wk2, .inl (aI se2))), (jm, .inl (kA 2, 100, .inl (zI mt)))]) (wr := []) (va_runV (As := [.ref ho, .int (iI ix)]) (rest := []) ⟨hx, hb, hml, hown, hts⟩ (c_J_countMet l dC dI kA H.size jo wo wl wb we wn wk wz lt sb se wo2 wl2 wb2 we2 wn2 wk2 wz2 lt2 sb2 se2 jm jr jy rc mt ws ho oc xi xs xe xl n mx fd tc t ti ts te tl ix (by exact hW) (by exact hW2) (by exact hWL) (by omega) (by omega) (by exact hH) (by exact hte) (by omega) (by omega)) (cw_J_76 hts rfl rfl ⟨Nat.le_of_ble_eq_true rfl, Nat.le_of_ble_eq_true rfl⟩) (li_preV (va_recv hK hP (ci := 4) (q0 := 0) rfl rfl) ⟨rfl, hP.sub [0, 1, 2, 3, 4, 5, 6, 7, 8, 9, 10] rfl, (hD.sub [0, 1, 2, 3, 4, 5, 6, 7, 8, 9, 10] (by decide) rfl).weaken (fun _ _ _ h => hAN _ h), (va_P.app ((li_ro hRo hRoN hS).sub [0] rfl) (va_P.app ((li_ro hRo hRoN hS).sub [1] rfl) (va_P.app ((li_ro hRo hRoN hS).sub [2] rfl) (va_P.app ((li_ro hRo hRoN hS).sub [3] rfl) (va_P.app ((li_ro hRo hRoN hS).sub [4] rfl) ((li_ro hRo hRoN hS).sub [5] rfl)))))), (dj_cons (dj_r (hRoN 0 _ rfl) hD [0, 1, 2, 3, 4, 5, 6, 7, 8, 9, 10] rfl) (dj_cons (dj_r (hRoN 1 _ rfl) hD [0, 1, 2, 3, 4, 5, 6, 7, 8, 9, 10] rfl) (dj_cons (dj_r (hRoN 2 _ rfl) hD [0, 1, 2, 3, 4, 5, 6, 7, 8, 9, 10] rfl) (dj_cons (dj_r (hRoN 3 _ rfl) hD [0, 1, 2, 3, 4, 5, 6, 7, 8, 9, 10] rfl) (dj_cons (dj_r (hRoN 4 _ rfl) hD [0, 1, 2, 3, 4, 5, 6, 7, 8, 9, 10] rfl) (dj_cons (dj_r (hRoN 5 _ rfl) hD [0, 1, 2, 3, 4, 5, 6, 7, 8, 9, 10] rfl) dj_nil))))))⟩ hK hN (hG.go hS hAN)) rfl rfl hl.1 rfl (lv_room (Nat.le_of_ble_eq_true rfl)) d_J_satisfies_54 ⟨(by show 0 + 0 ≤ 0; omega), (by show 0 + 0 ≤ 0; omega)⟩) hP hD hS hA [0, 1, 2, 3, 4, 5, 6, 7, 8, 9, 10] [] rfl rfl (by decide) (by decide) (fun u18 H locs hu18 hP hD hS _hk => ?_)
          obtain ⟨f919, g920, n121, f122, f223, f324⟩ := u18
          have hP : va_P (dC, dI) CL [(jo, .inr (4, [.ref wo, .ref wo2, .ref jm, .ref jr, .int (iI jy)])), (jr, .inl (kA 2, 101, .inl (zI g920))), (wo, .inr (9, [.ref wl, .ref wb, .ref we, .int (iI wz)])), (wl, .inl (kA 1, wn, .inl (aI lt))), (wb, .inl (kA 0, wk, .inl (aI sb))), (we, .inl (kA 0, wk, .inl (aI se))), (wo2, .inr (9, [.ref wl2, .ref wb2, .ref we2, .int (iI n121)])), (wl2, .inl (kA 1, wn2, .inl (aI f122))), (wb2, .inl (kA 0, wk2, .inl (aI f223))), (we2, .inl (kA 0, wk2, .inl (aI f324))), (jm, .inl (kA 2, 100, .inl (zI f919)))] H := hP
          have hD : va_D A [(jo, .inr (4, [.ref wo, .ref wo2, .ref jm, .ref jr, .int (iI jy)])), (jr, .inl (kA 2, 101, .inl (zI g920))), (wo, .inr (9, [.ref wl, .ref wb, .ref we, .int (iI wz)])), (wl, .inl (kA 1, wn, .inl (aI lt))), (wb, .inl (kA 0, wk, .inl (aI sb))), (we, .inl (kA 0, wk, .inl (aI se))), (wo2, .inr (9, [.ref wl2, .ref wb2, .ref we2, .int (iI n121)])), (wl2, .inl (kA 1, wn2, .inl (aI f122))), (wb2, .inl (kA 0, wk2, .inl (aI f223))), (we2, .inl (kA 0, wk2, .inl (aI f324))), (jm, .inl (kA 2, 100, .inl (zI f919)))] := hD
          have hp54 : WR wn2 wk2 n121 f122 f223 f324 := hu18
          refine W.eq (g2 := F0 m 57 ls [.int (iI ((ws.filter (thW t (txL ti ts te tl tc ix tc.toNat 0))).length : Int))]) rfl ?_
          refine lv_aload_n hx hb d_J_satisfies_57 rfl (lv_at hl 0 rfl) ?_
          refine gf_J_14 hx hb hts hown hK hP 0 rfl rfl d_J_satisfies_58 ?_
          refine gf_J_73 hx hb hts hN hown hK hP 2 rfl rfl d_J_satisfies_61 ?_
          refine li_icmp_ne (tgt := 71) hx hb d_J_satisfies_64 (by decide) (by first | omega | (have h8 := List.length_filter_le (thW t (txL ti ts te tl tc ix tc.toNat 0)) ws; omega)) (by first | omega | (have h8 := List.length_filter_le (thW t (txL ti ts te tl tc ix tc.toNat 0)) ws; omega)) (fun c25 => ?_) (fun c25 => ?_)
          · have _q := c25
            refine lv_iconst (v := iI 0) hx hb d_J_satisfies_71 rfl ?_
            exact fin (f919, g920, n121, f122, f223, f324) _ _ _ _ _ (by unfold saW; rw [if_neg (by omega), if_neg (by omega), if_neg (by omega), if_pos (by omega)]; first | exact bI_t (decide_eq_true (by omega)) | exact bI_f (decide_eq_false (by omega))) (by show WR wn2 wk2 n121 f122 f223 f324; exact hp54) (by first | exact hP | (subst_vars; exact hP)) (by first | exact hD | (subst_vars; exact hD)) hS d_J_satisfies_72
          · have _q := c25
            refine lv_iconst (v := iI 1) hx hb d_J_satisfies_67 rfl ?_
            refine lv_goto (tgt := 72) hx hb d_J_satisfies_68 (by decide) ?_
            exact fin (f919, g920, n121, f122, f223, f324) _ _ _ _ _ (by unfold saW; rw [if_neg (by omega), if_neg (by omega), if_neg (by omega), if_pos (by omega)]; first | exact bI_t (decide_eq_true (by omega)) | exact bI_f (decide_eq_false (by omega))) (by show WR wn2 wk2 n121 f122 f223 f324; exact hp54) (by first | exact hP | (subst_vars; exact hP)) (by first | exact hD | (subst_vars; exact hD)) hS d_J_satisfies_72
      · have _q := c3
        refine lv_aload_n hx hb d_J_satisfies_31 rfl (lv_at hl 0 rfl) ?_
        refine lv_aload_n hx hb d_J_satisfies_32 rfl (lv_at hl 1 rfl) ?_
        refine lv_iload_n hx hb d_J_satisfies_33 rfl (lv_at hl 2 rfl) ?_
        refine li_callw (wc := [(jo, .inr (4, [.ref wo, .ref wo2, .ref jm, .ref jr, .int (iI jy)])), (jr, .inl (kA 2, 101, .inl (zI rc))), (wo, .inr (9, [.ref wl, .ref wb, .ref we, .int (iI wz)])), (wl, .inl (kA 1, wn, .inl (aI lt))), (wb, .inl (kA 0, wk, .inl (aI sb))), (we, .inl (kA 0, wk, .inl (aI se))), (wo2, .inr (9, [.ref wl2, .ref wb2, .ref we2, .int (iI wz2)])), (wl2, .inl (kA 1, wn2, .inl (aI lt2))), (wb2, .inl (kA 0, wk2, .inl (aI sb2))), (we2, .inl (kA 0, wk2, .inl (aI se2))), (jm, .inl (kA 2, 100, .inl (zI mt)))]) (wr := []) (va_runV (As := [.ref ho, .int (iI ix)]) (rest := []) ⟨hx, hb, hml, hown, hts⟩ (c_J_countMet l dC dI kA H.size jo wo wl wb we wn wk wz lt sb se wo2 wl2 wb2 we2 wn2 wk2 wz2 lt2 sb2 se2 jm jr jy rc mt ws ho oc xi xs xe xl n mx fd tc t ti ts te tl ix (by exact hW) (by exact hW2) (by exact hWL) (by omega) (by omega) (by exact hH) (by exact hte) (by omega) (by omega)) (cw_J_76 hts rfl rfl ⟨Nat.le_of_ble_eq_true rfl, Nat.le_of_ble_eq_true rfl⟩) (li_preV (va_recv hK hP (ci := 4) (q0 := 0) rfl rfl) ⟨rfl, hP.sub [0, 1, 2, 3, 4, 5, 6, 7, 8, 9, 10] rfl, (hD.sub [0, 1, 2, 3, 4, 5, 6, 7, 8, 9, 10] (by decide) rfl).weaken (fun _ _ _ h => hAN _ h), (va_P.app ((li_ro hRo hRoN hS).sub [0] rfl) (va_P.app ((li_ro hRo hRoN hS).sub [1] rfl) (va_P.app ((li_ro hRo hRoN hS).sub [2] rfl) (va_P.app ((li_ro hRo hRoN hS).sub [3] rfl) (va_P.app ((li_ro hRo hRoN hS).sub [4] rfl) ((li_ro hRo hRoN hS).sub [5] rfl)))))), (dj_cons (dj_r (hRoN 0 _ rfl) hD [0, 1, 2, 3, 4, 5, 6, 7, 8, 9, 10] rfl) (dj_cons (dj_r (hRoN 1 _ rfl) hD [0, 1, 2, 3, 4, 5, 6, 7, 8, 9, 10] rfl) (dj_cons (dj_r (hRoN 2 _ rfl) hD [0, 1, 2, 3, 4, 5, 6, 7, 8, 9, 10] rfl) (dj_cons (dj_r (hRoN 3 _ rfl) hD [0, 1, 2, 3, 4, 5, 6, 7, 8, 9, 10] rfl) (dj_cons (dj_r (hRoN 4 _ rfl) hD [0, 1, 2, 3, 4, 5, 6, 7, 8, 9, 10] rfl) (dj_cons (dj_r (hRoN 5 _ rfl) hD [0, 1, 2, 3, 4, 5, 6, 7, 8, 9, 10] rfl) dj_nil))))))⟩ hK hN (hG.go hS hAN)) rfl rfl hl.1 rfl (lv_room (Nat.le_of_ble_eq_true rfl)) d_J_satisfies_34 ⟨(by show 0 + 0 ≤ 0; omega), (by show 0 + 0 ≤ 0; omega)⟩) hP hD hS hA [0, 1, 2, 3, 4, 5, 6, 7, 8, 9, 10] [] rfl rfl (by decide) (by decide) (fun u26 H locs hu26 hP hD hS _hk => ?_)
        obtain ⟨f927, g928, n129, f130, f231, f332⟩ := u26
        have hP : va_P (dC, dI) CL [(jo, .inr (4, [.ref wo, .ref wo2, .ref jm, .ref jr, .int (iI jy)])), (jr, .inl (kA 2, 101, .inl (zI g928))), (wo, .inr (9, [.ref wl, .ref wb, .ref we, .int (iI wz)])), (wl, .inl (kA 1, wn, .inl (aI lt))), (wb, .inl (kA 0, wk, .inl (aI sb))), (we, .inl (kA 0, wk, .inl (aI se))), (wo2, .inr (9, [.ref wl2, .ref wb2, .ref we2, .int (iI n129)])), (wl2, .inl (kA 1, wn2, .inl (aI f130))), (wb2, .inl (kA 0, wk2, .inl (aI f231))), (we2, .inl (kA 0, wk2, .inl (aI f332))), (jm, .inl (kA 2, 100, .inl (zI f927)))] H := hP
        have hD : va_D A [(jo, .inr (4, [.ref wo, .ref wo2, .ref jm, .ref jr, .int (iI jy)])), (jr, .inl (kA 2, 101, .inl (zI g928))), (wo, .inr (9, [.ref wl, .ref wb, .ref we, .int (iI wz)])), (wl, .inl (kA 1, wn, .inl (aI lt))), (wb, .inl (kA 0, wk, .inl (aI sb))), (we, .inl (kA 0, wk, .inl (aI se))), (wo2, .inr (9, [.ref wl2, .ref wb2, .ref we2, .int (iI n129)])), (wl2, .inl (kA 1, wn2, .inl (aI f130))), (wb2, .inl (kA 0, wk2, .inl (aI f231))), (we2, .inl (kA 0, wk2, .inl (aI f332))), (jm, .inl (kA 2, 100, .inl (zI f927)))] := hD
        have hp34 : WR wn2 wk2 n129 f130 f231 f332 := hu26
        refine W.eq (g2 := F0 m 37 ls [.int (iI ((ws.filter (thW t (txL ti ts te tl tc ix tc.toNat 0))).length : Int))]) rfl ?_
        refine li_if_le (tgt := 44) hx hb d_J_satisfies_37 (by decide) (by first | omega | (have h8 := List.length_filter_le (thW t (txL ti ts te tl tc ix tc.toNat 0)) ws; omega)) (fun c33 => ?_) (fun c33 => ?_)
        · have _q := c33
          refine lv_iconst (v := iI 0) hx hb d_J_satisfies_44 rfl ?_
          exact fin (f927, g928, n129, f130, f231, f332) _ _ _ _ _ (by unfold saW; rw [if_neg (by omega), if_neg (by omega), if_pos (by omega)]; first | exact bI_t (decide_eq_true (by omega)) | exact bI_f (decide_eq_false (by omega))) (by show WR wn2 wk2 n129 f130 f231 f332; exact hp34) (by first | exact hP | (subst_vars; exact hP)) (by first | exact hD | (subst_vars; exact hD)) hS d_J_satisfies_45
        · have _q := c33
          refine lv_iconst (v := iI 1) hx hb d_J_satisfies_40 rfl ?_
          refine lv_goto (tgt := 45) hx hb d_J_satisfies_41 (by decide) ?_
          exact fin (f927, g928, n129, f130, f231, f332) _ _ _ _ _ (by unfold saW; rw [if_neg (by omega), if_neg (by omega), if_pos (by omega)]; first | exact bI_t (decide_eq_true (by omega)) | exact bI_f (decide_eq_false (by omega))) (by show WR wn2 wk2 n129 f130 f231 f332; exact hp34) (by first | exact hP | (subst_vars; exact hP)) (by first | exact hD | (subst_vars; exact hD)) hS d_J_satisfies_45
    · have _q := c2
      refine lv_iconst (v := iI 0) hx hb d_J_satisfies_25 rfl ?_
      exact fin (mt, rc, wz2, lt2, sb2, se2) _ _ _ _ _ (by exact bI_f (by unfold saW; rw [if_neg (by omega), if_pos (by omega)])) (by show WR wn2 wk2 wz2 lt2 sb2 se2; exact hW2) (by first | exact hP | (subst_vars; exact hP)) (by first | exact hD | (subst_vars; exact hD)) hS d_J_satisfies_26
  · have _q := c1
    refine lv_aload_n hx hb d_J_satisfies_5 rfl (lv_at hl 0 rfl) ?_
    refine lv_aload_n hx hb d_J_satisfies_6 rfl (lv_at hl 1 rfl) ?_
    refine li_callr ((va_runV (As := []) (rest := [.ref jo]) ⟨hx, hb, hml, hown, hts⟩ (c_H_date l dC dI kA ho oc xi xs xe xl n mx fd tc t ti ts te tl (by exact hH)) (cw_J_63 hts rfl rfl ⟨Nat.le_of_ble_eq_true rfl, Nat.le_of_ble_eq_true rfl⟩) (li_preV (va_recv hK (li_ro hRo hRoN hS) (ci := 2) (q0 := 0) rfl rfl) ((li_ro hRo hRoN hS).sub [0, 1, 2, 3, 4, 5] rfl) hK hN (hG.go hS hAN)) rfl rfl hl.1 rfl (lv_room (Nat.le_of_ble_eq_true rfl)) d_J_satisfies_7 ⟨(by show 0 + 0 ≤ 0; omega), (by show 0 + 0 ≤ 0; omega)⟩).run) ?_
    refine lv_iload_n hx hb d_J_satisfies_10 rfl (lv_at hl 3 rfl) ?_
    refine li_callr ((va_runV (As := [.int (iI (dateF t n ti ts te tc)), .int (iI rel)]) (rest := []) ⟨hx, hb, hml, hown, hts⟩ (c_J_isDated l dC dI kA jo wo wo2 jm jr jy (dateF t n ti ts te tc) rel (by exact hdt) (by exact hy) (by omega)) (cw_J_69 hts rfl rfl ⟨Nat.le_of_ble_eq_true rfl, Nat.le_of_ble_eq_true rfl⟩) (li_preV (va_recv hK hP (ci := 4) (q0 := 0) rfl rfl) (hP.sub [0] rfl) hK hN (hG.go hS hAN)) rfl rfl hl.1 rfl (lv_room (Nat.le_of_ble_eq_true rfl)) d_J_satisfies_11 ⟨(by show 0 + 0 ≤ 0; omega), (by show 0 + 0 ≤ 0; omega)⟩).run) ?_
    exact fin (mt, rc, wz2, lt2, sb2, se2) _ _ _ _ _ (by unfold saW; rw [if_pos (by omega)]) (by show WR wn2 wk2 wz2 lt2 sb2 se2; exact hW2) (by first | exact hP | (subst_vars; exact hP)) (by first | exact hD | (subst_vars; exact hD)) hS d_J_satisfies_14

/-- a method that reads alone, and answers a cell that is there -/
theorem li_ma {l : Launch} {y : MethodName} {b : ByteArray} {n d : Nat} {o : String} {D : va_G} {tys : List (ClassId × FieldType)} {as : List Value} {B : Heap → Prop} {r : Nat}
    (hy : plainName y.cls = true) (hn : (lg_sl as).length ≤ n)
    (body : ∀ (p : Program) (e : Env) (s : State) (m : MethodId) (args : Array Value) (below : List Frame) (meth : Method) (c : Code) (Q : State → Prop), li_C y b n (some (.object o)) p s m args meth c → B s.heap → va_K D CL tys s → NW s → GW D.2 s →
      (∀ (z : Nat) (pc : Nat) (ls : Array Slot), z = r → decode b pc = .ok (.areturn, 1) → W p l e (rmd d 0 0) s m args below meth c s.heap [] 0 0 Q (F0 m pc ls [.ref z])) →
      ∀ ls : Array Slot, lv_has ls n (lv_args 0 as) → W p l e (rmd d 0 0) s m args below meth c s.heap [] 0 0 Q (F0 m 0 ls [])) :
    Met l y (wsy y b n (some (.object o))) (rmd d 0 0) (li_Pr D CL tys as B) (k2_QcV (.ref r)) 0 0 (fun _ => False) := by
  refine li_met hy hn ?_
  intro p e s m below meth c C hB hK hN hG ls hl
  refine body p e s m _ below meth c _ C hB hK hN hG ?_ ls hl
  intro z pc ls ez hd
  subst ez
  obtain ⟨hx, hb, hr, hml, hown, hts, hlocks, hin⟩ := C
  exact W.aret (v := .ref z) hx hb hr (Or.inl ⟨_, rfl⟩) (Or.inr ⟨_, rfl⟩) (fun t ht hW => ⟨rfl, ht⟩) (fun q h => by cases h) hd
/-! THE LINE in words and signs -/
def KR (nl : Nat) (lc : Nat → Int) (kn kz : Int) (gk gs ge : Nat → Int) : Prop := nl ≤ 100 ∧ (0 ≤ kn ∧ kn ≤ nl) ∧ (0 ≤ kz ∧ kz ≤ 100) ∧ (∀ j, 0 ≤ lc j ∧ lc j < 256) ∧ (∀ j, 0 ≤ gk j ∧ gk j ≤ 20) ∧ (∀ j, 0 ≤ gs j ∧ gs j ≤ 100) ∧ (∀ j, 0 ≤ ge j ∧ ge j ≤ 100)
def kdF (gk : Nat → Int) (kz x : Int) : Int := if 0 ≤ x ∧ x < kz then gk x.toNat else 6
def seF (gs : Nat → Int) (kz kn x : Int) : Int := if 0 ≤ x ∧ x < kz then gs x.toNat else kn
def chL (lc : Nat → Int) (kn x : Int) : Int := if 0 ≤ x ∧ x < kn then lc x.toNat else 0
theorem kdF_r {gk : Nat → Int} {kz x : Int} (h : ∀ j, 0 ≤ gk j ∧ gk j ≤ 20) : 0 ≤ kdF gk kz x ∧ kdF gk kz x ≤ 20 := by have := h x.toNat; unfold kdF; split <;> omega
theorem seF_r {gs : Nat → Int} {kz kn x : Int} (h : ∀ j, 0 ≤ gs j ∧ gs j ≤ 100) (hk : 0 ≤ kn ∧ kn ≤ 100) : 0 ≤ seF gs kz kn x ∧ seF gs kz kn x ≤ 100 := by have := h x.toNat; unfold seF; split <;> omega
theorem chL_r {lc : Nat → Int} {kn x : Int} (h : ∀ j, 0 ≤ lc j ∧ lc j < 256) : 0 ≤ chL lc kn x ∧ chL lc kn x < 256 := by have := h x.toNat; unfold chL; split <;> omega
def wrL (lc : Nat → Int) (kn st : Int) (i : Nat) : Nat → Int → Bool
  | 0, _ => true
  | k + 1, j => if sml (chL lc kn (st + j)) = chS i j.toNat then wrL lc kn st i k (j + 1) else false
def wrF (lc : Nat → Int) (kn st en : Int) (i : Nat) : Bool := if en - st = (lenS.getD i 0 : Nat) then wrL lc kn st i (lenS.getD i 0) 0 else false
def knF (lc : Nat → Int) (kn st en : Int) : Int := if wrF lc kn st en 1 = true then 11 else if wrF lc kn st en 2 = true then 12 else if wrF lc kn st en 3 = true then 13 else if wrF lc kn st en 4 = true then 7 else if wrF lc kn st en 5 = true then 8 else 1
def nmI (i : Int) : Nat := if i = 0 then 6 else if i = 1 then 10 else if i = 2 then 11 else if i = 3 then 12 else if i = 4 then 13 else 14
def ixL (lc : Nat → Int) (kn st en : Int) : Nat → Int → Int
  | 0, _ => -1
  | k + 1, i => if wrF lc kn st en (nmI i) = true then i else ixL lc kn st en k (i + 1)
def rlF (lc : Nat → Int) (kn kd st en : Int) : Int := if kd = 4 then cmpR (chL lc kn st) (decide (en - st = 2)) else if kd = 1 then (if wrF lc kn st en 6 = true then 0 else if wrF lc kn st en 7 = true then 1 else if wrF lc kn st en 8 = true then 2 else if wrF lc kn st en 9 = true then 3 else -1) else -1
def nmL (lc : Nat → Int) (kn : Int) : Nat → Int → Int
  | 0, x => x
  | k + 1, x => if isNam (chL lc kn x) = true then nmL lc kn k (x + 1) else x
def quL (lc : Nat → Int) (kn : Int) : Nat → Int → Int
  | 0, _ => kn
  | k + 1, x => if chL lc kn x = 34 then x + 1 else quL lc kn k (x + 1)
def etF (lc : Nat → Int) (kn x : Int) : Int := if chL lc kn x = 34 then quL lc kn (kn - (x + 1)).toNat (x + 1) else if isCmp (chL lc kn x) = true then (if chL lc kn (x + 1) = 61 then x + 2 else x + 1) else nmL lc kn (kn - x).toNat x
def koF (lc : Nat → Int) (kn st en : Int) : Int := if isNam (chL lc kn st) = true then knF lc kn st en else if isCmp (chL lc kn st) = true then 4 else if chL lc kn st = 34 then (if 1 < en - st ∧ chL lc kn (en - 1) = 34 then 2 else 3) else if chL lc kn st = 40 then 9 else if chL lc kn st = 41 then 10 else 5

theorem d_K_kindAt_0 : decode b_K_kindAt 0 = .ok (.iload_n 1, 1) := by decide +kernel
theorem d_K_kindAt_1 : decode b_K_kindAt 1 = .ok (.ifCond .lt 20, 3) := by decide +kernel
theorem d_K_kindAt_4 : decode b_K_kindAt 4 = .ok (.iload_n 1, 1) := by decide +kernel
theorem d_K_kindAt_5 : decode b_K_kindAt 5 = .ok (.aload_n 0, 1) := by decide +kernel
theorem d_K_kindAt_6 : decode b_K_kindAt 6 = .ok (.getfield 35, 3) := by decide +kernel
theorem d_K_kindAt_9 : decode b_K_kindAt 9 = .ok (.if_icmp .ge 12, 3) := by decide +kernel
theorem d_K_kindAt_12 : decode b_K_kindAt 12 = .ok (.aload_n 0, 1) := by decide +kernel
theorem d_K_kindAt_13 : decode b_K_kindAt 13 = .ok (.getfield 15, 3) := by decide +kernel
theorem d_K_kindAt_16 : decode b_K_kindAt 16 = .ok (.iload_n 1, 1) := by decide +kernel
theorem d_K_kindAt_17 : decode b_K_kindAt 17 = .ok (.iaload, 1) := by decide +kernel
theorem d_K_kindAt_18 : decode b_K_kindAt 18 = .ok (.goto 5, 3) := by decide +kernel
theorem d_K_kindAt_21 : decode b_K_kindAt 21 = .ok (.bipush 6, 2) := by decide +kernel
theorem d_K_kindAt_23 : decode b_K_kindAt 23 = .ok (.ireturn, 1) := by decide +kernel
set_option maxHeartbeats 4000000 in
set_option maxRecDepth 100000 in
theorem c_K_kindAt (l : Launch) (dC : Nat → ClassId) (dI : Nat → Nat → Nat) (kA : Nat → ClassId) (ko : Nat) (la : Nat) (nl : Nat) (lc : Nat → Int) (kn : Int) (ga : Nat) (gb : Nat) (gc : Nat) (kz : Int) (gk : Nat → Int) (gs : Nat → Int) (ge : Nat → Int) (x : Int) (hKR : KR nl lc kn kz gk gs ge) (hx0 : -2147483648 ≤ x ∧ x < 2147483648) : Met l y_K_kindAt (wsy y_K_kindAt b_K_kindAt 2 (some .int)) (rmd 0 0 0) (li_Pr (dC, dI) CL (TY kA) [.ref ko, .int (iI x)] (va_P (dC, dI) CL [(ko, .inr (8, [.ref la, .int (iI kn), .ref ga, .ref gb, .ref gc, .int (iI kz)])), (ga, .inl (kA 0, 100, .inl (aI gk))), (gb, .inl (kA 0, 100, .inl (aI gs))), (gc, .inl (kA 0, 100, .inl (aI ge))), (la, .inl (kA 1, nl, .inl (aI lc)))])) (k2_QcV (.int (iI (kdF gk kz x)))) 0 0 (fun _ => False) := by
  refine li_mr (by decide) (Nat.le_of_ble_eq_true rfl) (by rfl) ?_
  intro p e s m args below meth c Q C hP hK hN hG fin ls hl
  obtain ⟨hx, hb, hr, hml, hown, hts, hlocks, hin⟩ := C
  have hown : s.vm.findClass R_K = some m.cls := hown
  have hP : va_P (dC, dI) CL [(ko, .inr (8, [.ref la, .int (iI kn), .ref ga, .ref gb, .ref gc, .int (iI kz)])), (ga, .inl (kA 0, 100, .inl (aI gk))), (gb, .inl (kA 0, 100, .inl (aI gs))), (gc, .inl (kA 0, 100, .inl (aI ge))), (la, .inl (kA 1, nl, .inl (aI lc)))] s.heap := hP
  have hl : lv_has ls 2 [(0, .ref ko), (1, .int (iI x))] := hl
  obtain ⟨hnl, hkn, hkz, hlc, hgk, hgs, hge⟩ := id hKR
  refine lv_iload_n hx hb d_K_kindAt_0 rfl (lv_at hl 1 rfl) ?_
  refine li_if_lt (tgt := 21) hx hb d_K_kindAt_1 (by decide) (by omega) (fun c1 => ?_) (fun c1 => ?_)
  · have _q := c1
    refine lv_bipush (v := iI 6) hx hb d_K_kindAt_21 (by decide) ?_
    exact fin _ _ _ (by unfold kdF; first | (rw [if_pos (by omega)]; done) | (rw [if_neg (by omega)]; done)) d_K_kindAt_23
  · have _q := c1
    refine lv_iload_n hx hb d_K_kindAt_4 rfl (lv_at hl 1 rfl) ?_
    refine lv_aload_n hx hb d_K_kindAt_5 rfl (lv_at hl 0 rfl) ?_
    refine gf_K_35 hx hb hts hown hK hP 0 rfl rfl d_K_kindAt_6 ?_
    refine li_icmp_ge (tgt := 21) hx hb d_K_kindAt_9 (by decide) (by omega) (by omega) (fun c2 => ?_) (fun c2 => ?_)
    · have _q := c2
      refine lv_bipush (v := iI 6) hx hb d_K_kindAt_21 (by decide) ?_
      exact fin _ _ _ (by unfold kdF; first | (rw [if_pos (by omega)]; done) | (rw [if_neg (by omega)]; done)) d_K_kindAt_23
    · have _q := c2
      refine lv_aload_n hx hb d_K_kindAt_12 rfl (lv_at hl 0 rfl) ?_
      refine gf_K_15 hx hb hts hown hK hP 0 rfl rfl d_K_kindAt_13 ?_
      refine lv_iload_n hx hb d_K_kindAt_16 rfl (lv_at hl 1 rfl) ?_
      refine li_iald hx hb hK hP 1 0 rfl rfl (by omega) (by omega) (by omega) d_K_kindAt_17 ?_
      have f3 := hgk x.toNat
      refine lv_goto (tgt := 23) hx hb d_K_kindAt_18 (by decide) ?_
      exact fin _ _ _ (by unfold kdF; first | (rw [if_pos (by omega)]; done) | (rw [if_neg (by omega)]; done)) d_K_kindAt_23
theorem d_K_startAt_0 : decode b_K_startAt 0 = .ok (.iload_n 1, 1) := by decide +kernel
theorem d_K_startAt_1 : decode b_K_startAt 1 = .ok (.ifCond .lt 20, 3) := by decide +kernel
theorem d_K_startAt_4 : decode b_K_startAt 4 = .ok (.iload_n 1, 1) := by decide +kernel
theorem d_K_startAt_5 : decode b_K_startAt 5 = .ok (.aload_n 0, 1) := by decide +kernel
theorem d_K_startAt_6 : decode b_K_startAt 6 = .ok (.getfield 35, 3) := by decide +kernel
theorem d_K_startAt_9 : decode b_K_startAt 9 = .ok (.if_icmp .ge 12, 3) := by decide +kernel
theorem d_K_startAt_12 : decode b_K_startAt 12 = .ok (.aload_n 0, 1) := by decide +kernel
theorem d_K_startAt_13 : decode b_K_startAt 13 = .ok (.getfield 19, 3) := by decide +kernel
theorem d_K_startAt_16 : decode b_K_startAt 16 = .ok (.iload_n 1, 1) := by decide +kernel
theorem d_K_startAt_17 : decode b_K_startAt 17 = .ok (.iaload, 1) := by decide +kernel
theorem d_K_startAt_18 : decode b_K_startAt 18 = .ok (.goto 7, 3) := by decide +kernel
theorem d_K_startAt_21 : decode b_K_startAt 21 = .ok (.aload_n 0, 1) := by decide +kernel
theorem d_K_startAt_22 : decode b_K_startAt 22 = .ok (.getfield 31, 3) := by decide +kernel
theorem d_K_startAt_25 : decode b_K_startAt 25 = .ok (.ireturn, 1) := by decide +kernel
set_option maxHeartbeats 4000000 in
set_option maxRecDepth 100000 in
theorem c_K_startAt (l : Launch) (dC : Nat → ClassId) (dI : Nat → Nat → Nat) (kA : Nat → ClassId) (ko : Nat) (la : Nat) (nl : Nat) (lc : Nat → Int) (kn : Int) (ga : Nat) (gb : Nat) (gc : Nat) (kz : Int) (gk : Nat → Int) (gs : Nat → Int) (ge : Nat → Int) (x : Int) (hKR : KR nl lc kn kz gk gs ge) (hx0 : -2147483648 ≤ x ∧ x < 2147483648) : Met l y_K_startAt (wsy y_K_startAt b_K_startAt 2 (some .int)) (rmd 0 0 0) (li_Pr (dC, dI) CL (TY kA) [.ref ko, .int (iI x)] (va_P (dC, dI) CL [(ko, .inr (8, [.ref la, .int (iI kn), .ref ga, .ref gb, .ref gc, .int (iI kz)])), (ga, .inl (kA 0, 100, .inl (aI gk))), (gb, .inl (kA 0, 100, .inl (aI gs))), (gc, .inl (kA 0, 100, .inl (aI ge))), (la, .inl (kA 1, nl, .inl (aI lc)))])) (k2_QcV (.int (iI (seF gs kz kn x)))) 0 0 (fun _ => False) := by
  refine li_mr (by decide) (Nat.le_of_ble_eq_true rfl) (by rfl) ?_
  intro p e s m args below meth c Q C hP hK hN hG fin ls hl
  obtain ⟨hx, hb, hr, hml, hown, hts, hlocks, hin⟩ := C
  have hown : s.vm.findClass R_K = some m.cls := hown
  have hP : va_P (dC, dI) CL [(ko, .inr (8, [.ref la, .int (iI kn), .ref ga, .ref gb, .ref gc, .int (iI kz)])), (ga, .inl (kA 0, 100, .inl (aI gk))), (gb, .inl (kA 0, 100, .inl (aI gs))), (gc, .inl (kA 0, 100, .inl (aI ge))), (la, .inl (kA 1, nl, .inl (aI lc)))] s.heap := hP
  have hl : lv_has ls 2 [(0, .ref ko), (1, .int (iI x))] := hl
  obtain ⟨hnl, hkn, hkz, hlc, hgk, hgs, hge⟩ := id hKR
  refine lv_iload_n hx hb d_K_startAt_0 rfl (lv_at hl 1 rfl) ?_
  refine li_if_lt (tgt := 21) hx hb d_K_startAt_1 (by decide) (by omega) (fun c1 => ?_) (fun c1 => ?_)
  · have _q := c1
    refine lv_aload_n hx hb d_K_startAt_21 rfl (lv_at hl 0 rfl) ?_
    refine gf_K_31 hx hb hts hown hK hP 0 rfl rfl d_K_startAt_22 ?_
    exact fin _ _ _ (by unfold seF; first | (rw [if_pos (by omega)]; done) | (rw [if_neg (by omega)]; done)) d_K_startAt_25
  · have _q := c1
    refine lv_iload_n hx hb d_K_startAt_4 rfl (lv_at hl 1 rfl) ?_
    refine lv_aload_n hx hb d_K_startAt_5 rfl (lv_at hl 0 rfl) ?_
    refine gf_K_35 hx hb hts hown hK hP 0 rfl rfl d_K_startAt_6 ?_
    refine li_icmp_ge (tgt := 21) hx hb d_K_startAt_9 (by decide) (by omega) (by omega) (fun c2 => ?_) (fun c2 => ?_)
    · have _q := c2
      refine lv_aload_n hx hb d_K_startAt_21 rfl (lv_at hl 0 rfl) ?_
      refine gf_K_31 hx hb hts hown hK hP 0 rfl rfl d_K_startAt_22 ?_
      exact fin _ _ _ (by unfold seF; first | (rw [if_pos (by omega)]; done) | (rw [if_neg (by omega)]; done)) d_K_startAt_25
    · have _q := c2
      refine lv_aload_n hx hb d_K_startAt_12 rfl (lv_at hl 0 rfl) ?_
      refine gf_K_19 hx hb hts hown hK hP 0 rfl rfl d_K_startAt_13 ?_
      refine lv_iload_n hx hb d_K_startAt_16 rfl (lv_at hl 1 rfl) ?_
      refine li_iald hx hb hK hP 2 0 rfl rfl (by omega) (by omega) (by omega) d_K_startAt_17 ?_
      have f3 := hgs x.toNat
      refine lv_goto (tgt := 25) hx hb d_K_startAt_18 (by decide) ?_
      exact fin _ _ _ (by unfold seF; first | (rw [if_pos (by omega)]; done) | (rw [if_neg (by omega)]; done)) d_K_startAt_25
theorem d_K_endAt_0 : decode b_K_endAt 0 = .ok (.iload_n 1, 1) := by decide +kernel
theorem d_K_endAt_1 : decode b_K_endAt 1 = .ok (.ifCond .lt 20, 3) := by decide +kernel
theorem d_K_endAt_4 : decode b_K_endAt 4 = .ok (.iload_n 1, 1) := by decide +kernel
theorem d_K_endAt_5 : decode b_K_endAt 5 = .ok (.aload_n 0, 1) := by decide +kernel
theorem d_K_endAt_6 : decode b_K_endAt 6 = .ok (.getfield 35, 3) := by decide +kernel
theorem d_K_endAt_9 : decode b_K_endAt 9 = .ok (.if_icmp .ge 12, 3) := by decide +kernel
theorem d_K_endAt_12 : decode b_K_endAt 12 = .ok (.aload_n 0, 1) := by decide +kernel
theorem d_K_endAt_13 : decode b_K_endAt 13 = .ok (.getfield 22, 3) := by decide +kernel
theorem d_K_endAt_16 : decode b_K_endAt 16 = .ok (.iload_n 1, 1) := by decide +kernel
theorem d_K_endAt_17 : decode b_K_endAt 17 = .ok (.iaload, 1) := by decide +kernel
theorem d_K_endAt_18 : decode b_K_endAt 18 = .ok (.goto 7, 3) := by decide +kernel
theorem d_K_endAt_21 : decode b_K_endAt 21 = .ok (.aload_n 0, 1) := by decide +kernel
theorem d_K_endAt_22 : decode b_K_endAt 22 = .ok (.getfield 31, 3) := by decide +kernel
theorem d_K_endAt_25 : decode b_K_endAt 25 = .ok (.ireturn, 1) := by decide +kernel
set_option maxHeartbeats 4000000 in
set_option maxRecDepth 100000 in
theorem c_K_endAt (l : Launch) (dC : Nat → ClassId) (dI : Nat → Nat → Nat) (kA : Nat → ClassId) (ko : Nat) (la : Nat) (nl : Nat) (lc : Nat → Int) (kn : Int) (ga : Nat) (gb : Nat) (gc : Nat) (kz : Int) (gk : Nat → Int) (gs : Nat → Int) (ge : Nat → Int) (x : Int) (hKR : KR nl lc kn kz gk gs ge) (hx0 : -2147483648 ≤ x ∧ x < 2147483648) : Met l y_K_endAt (wsy y_K_endAt b_K_endAt 2 (some .int)) (rmd 0 0 0) (li_Pr (dC, dI) CL (TY kA) [.ref ko, .int (iI x)] (va_P (dC, dI) CL [(ko, .inr (8, [.ref la, .int (iI kn), .ref ga, .ref gb, .ref gc, .int (iI kz)])), (ga, .inl (kA 0, 100, .inl (aI gk))), (gb, .inl (kA 0, 100, .inl (aI gs))), (gc, .inl (kA 0, 100, .inl (aI ge))), (la, .inl (kA 1, nl, .inl (aI lc)))])) (k2_QcV (.int (iI (seF ge kz kn x)))) 0 0 (fun _ => False) := by
  refine li_mr (by decide) (Nat.le_of_ble_eq_true rfl) (by rfl) ?_
  intro p e s m args below meth c Q C hP hK hN hG fin ls hl
  obtain ⟨hx, hb, hr, hml, hown, hts, hlocks, hin⟩ := C
  have hown : s.vm.findClass R_K = some m.cls := hown
  have hP : va_P (dC, dI) CL [(ko, .inr (8, [.ref la, .int (iI kn), .ref ga, .ref gb, .ref gc, .int (iI kz)])), (ga, .inl (kA 0, 100, .inl (aI gk))), (gb, .inl (kA 0, 100, .inl (aI gs))), (gc, .inl (kA 0, 100, .inl (aI ge))), (la, .inl (kA 1, nl, .inl (aI lc)))] s.heap := hP
  have hl : lv_has ls 2 [(0, .ref ko), (1, .int (iI x))] := hl
  obtain ⟨hnl, hkn, hkz, hlc, hgk, hgs, hge⟩ := id hKR
  refine lv_iload_n hx hb d_K_endAt_0 rfl (lv_at hl 1 rfl) ?_
  refine li_if_lt (tgt := 21) hx hb d_K_endAt_1 (by decide) (by omega) (fun c1 => ?_) (fun c1 => ?_)
  · have _q := c1
    refine lv_aload_n hx hb d_K_endAt_21 rfl (lv_at hl 0 rfl) ?_
    refine gf_K_31 hx hb hts hown hK hP 0 rfl rfl d_K_endAt_22 ?_
    exact fin _ _ _ (by unfold seF; first | (rw [if_pos (by omega)]; done) | (rw [if_neg (by omega)]; done)) d_K_endAt_25
  · have _q := c1
    refine lv_iload_n hx hb d_K_endAt_4 rfl (lv_at hl 1 rfl) ?_
    refine lv_aload_n hx hb d_K_endAt_5 rfl (lv_at hl 0 rfl) ?_
    refine gf_K_35 hx hb hts hown hK hP 0 rfl rfl d_K_endAt_6 ?_
    refine li_icmp_ge (tgt := 21) hx hb d_K_endAt_9 (by decide) (by omega) (by omega) (fun c2 => ?_) (fun c2 => ?_)
    · have _q := c2
      refine lv_aload_n hx hb d_K_endAt_21 rfl (lv_at hl 0 rfl) ?_
      refine gf_K_31 hx hb hts hown hK hP 0 rfl rfl d_K_endAt_22 ?_
      exact fin _ _ _ (by unfold seF; first | (rw [if_pos (by omega)]; done) | (rw [if_neg (by omega)]; done)) d_K_endAt_25
    · have _q := c2
      refine lv_aload_n hx hb d_K_endAt_12 rfl (lv_at hl 0 rfl) ?_
      refine gf_K_22 hx hb hts hown hK hP 0 rfl rfl d_K_endAt_13 ?_
      refine lv_iload_n hx hb d_K_endAt_16 rfl (lv_at hl 1 rfl) ?_
      refine li_iald hx hb hK hP 3 0 rfl rfl (by omega) (by omega) (by omega) d_K_endAt_17 ?_
      have f3 := hge x.toNat
      refine lv_goto (tgt := 25) hx hb d_K_endAt_18 (by decide) ?_
      exact fin _ _ _ (by unfold seF; first | (rw [if_pos (by omega)]; done) | (rw [if_neg (by omega)]; done)) d_K_endAt_25
theorem d_K_characterAt_0 : decode b_K_characterAt 0 = .ok (.iload_n 1, 1) := by decide +kernel
theorem d_K_characterAt_1 : decode b_K_characterAt 1 = .ok (.ifCond .lt 20, 3) := by decide +kernel
theorem d_K_characterAt_4 : decode b_K_characterAt 4 = .ok (.iload_n 1, 1) := by decide +kernel
theorem d_K_characterAt_5 : decode b_K_characterAt 5 = .ok (.aload_n 0, 1) := by decide +kernel
theorem d_K_characterAt_6 : decode b_K_characterAt 6 = .ok (.getfield 31, 3) := by decide +kernel
theorem d_K_characterAt_9 : decode b_K_characterAt 9 = .ok (.if_icmp .ge 12, 3) := by decide +kernel
theorem d_K_characterAt_12 : decode b_K_characterAt 12 = .ok (.aload_n 0, 1) := by decide +kernel
theorem d_K_characterAt_13 : decode b_K_characterAt 13 = .ok (.getfield 9, 3) := by decide +kernel
theorem d_K_characterAt_16 : decode b_K_characterAt 16 = .ok (.iload_n 1, 1) := by decide +kernel
theorem d_K_characterAt_17 : decode b_K_characterAt 17 = .ok (.caload, 1) := by decide +kernel
theorem d_K_characterAt_18 : decode b_K_characterAt 18 = .ok (.goto 4, 3) := by decide +kernel
theorem d_K_characterAt_21 : decode b_K_characterAt 21 = .ok (.iconst 0, 1) := by decide +kernel
theorem d_K_characterAt_22 : decode b_K_characterAt 22 = .ok (.ireturn, 1) := by decide +kernel
set_option maxHeartbeats 4000000 in
set_option maxRecDepth 100000 in
theorem c_K_characterAt (l : Launch) (dC : Nat → ClassId) (dI : Nat → Nat → Nat) (kA : Nat → ClassId) (ko : Nat) (la : Nat) (nl : Nat) (lc : Nat → Int) (kn : Int) (ga : Nat) (gb : Nat) (gc : Nat) (kz : Int) (gk : Nat → Int) (gs : Nat → Int) (ge : Nat → Int) (x : Int) (hKR : KR nl lc kn kz gk gs ge) (hx0 : -2147483648 ≤ x ∧ x < 2147483648) : Met l y_K_characterAt (wsy y_K_characterAt b_K_characterAt 2 (some .char)) (rmd 0 0 0) (li_Pr (dC, dI) CL (TY kA) [.ref ko, .int (iI x)] (va_P (dC, dI) CL [(ko, .inr (8, [.ref la, .int (iI kn), .ref ga, .ref gb, .ref gc, .int (iI kz)])), (ga, .inl (kA 0, 100, .inl (aI gk))), (gb, .inl (kA 0, 100, .inl (aI gs))), (gc, .inl (kA 0, 100, .inl (aI ge))), (la, .inl (kA 1, nl, .inl (aI lc)))])) (k2_QcV (.int (iI (chL lc kn x)))) 0 0 (fun _ => False) := by
  refine li_mr (by decide) (Nat.le_of_ble_eq_true rfl) (by have h9 := chL_r (kn := kn) (x := x) (show ∀ j, 0 ≤ lc j ∧ lc j < 256 from hKR.2.2.2.1); exact li_narC2 (by omega) (by omega)) ?_
  intro p e s m args below meth c Q C hP hK hN hG fin ls hl
  obtain ⟨hx, hb, hr, hml, hown, hts, hlocks, hin⟩ := C
  have hown : s.vm.findClass R_K = some m.cls := hown
  have hP : va_P (dC, dI) CL [(ko, .inr (8, [.ref la, .int (iI kn), .ref ga, .ref gb, .ref gc, .int (iI kz)])), (ga, .inl (kA 0, 100, .inl (aI gk))), (gb, .inl (kA 0, 100, .inl (aI gs))), (gc, .inl (kA 0, 100, .inl (aI ge))), (la, .inl (kA 1, nl, .inl (aI lc)))] s.heap := hP
  have hl : lv_has ls 2 [(0, .ref ko), (1, .int (iI x))] := hl
  obtain ⟨hnl, hkn, hkz, hlc, hgk, hgs, hge⟩ := id hKR
  refine lv_iload_n hx hb d_K_characterAt_0 rfl (lv_at hl 1 rfl) ?_
  refine li_if_lt (tgt := 21) hx hb d_K_characterAt_1 (by decide) (by omega) (fun c1 => ?_) (fun c1 => ?_)
  · have _q := c1
    refine lv_iconst (v := iI 0) hx hb d_K_characterAt_21 rfl ?_
    exact fin _ _ _ (by unfold chL; first | (rw [if_pos (by omega)]; done) | (rw [if_neg (by omega)]; done)) d_K_characterAt_22
  · have _q := c1
    refine lv_iload_n hx hb d_K_characterAt_4 rfl (lv_at hl 1 rfl) ?_
    refine lv_aload_n hx hb d_K_characterAt_5 rfl (lv_at hl 0 rfl) ?_
    refine gf_K_31 hx hb hts hown hK hP 0 rfl rfl d_K_characterAt_6 ?_
    refine li_icmp_ge (tgt := 21) hx hb d_K_characterAt_9 (by decide) (by omega) (by omega) (fun c2 => ?_) (fun c2 => ?_)
    · have _q := c2
      refine lv_iconst (v := iI 0) hx hb d_K_characterAt_21 rfl ?_
      exact fin _ _ _ (by unfold chL; first | (rw [if_pos (by omega)]; done) | (rw [if_neg (by omega)]; done)) d_K_characterAt_22
    · have _q := c2
      refine lv_aload_n hx hb d_K_characterAt_12 rfl (lv_at hl 0 rfl) ?_
      refine gf_K_9 hx hb hts hown hK hP 0 rfl rfl d_K_characterAt_13 ?_
      refine lv_iload_n hx hb d_K_characterAt_16 rfl (lv_at hl 1 rfl) ?_
      refine li_cald hx hb hK hP 4 1 rfl rfl (by omega) (by omega) (by omega) d_K_characterAt_17 ?_
      have f3 := hlc x.toNat
      refine lv_goto (tgt := 22) hx hb d_K_characterAt_18 (by decide) ?_
      exact fin _ _ _ (by unfold chL; first | (rw [if_pos (by omega)]; done) | (rw [if_neg (by omega)]; done)) d_K_characterAt_22
theorem d_K_isWritten_0 : decode b_K_isWritten 0 = .ok (.iload_n 2, 1) := by decide +kernel
theorem d_K_isWritten_1 : decode b_K_isWritten 1 = .ok (.iload_n 1, 1) := by decide +kernel
theorem d_K_isWritten_2 : decode b_K_isWritten 2 = .ok (.isub, 1) := by decide +kernel
theorem d_K_isWritten_3 : decode b_K_isWritten 3 = .ok (.aload_n 3, 1) := by decide +kernel
theorem d_K_isWritten_4 : decode b_K_isWritten 4 = .ok (.invokevirtual 83, 3) := by decide +kernel
theorem d_K_isWritten_7 : decode b_K_isWritten 7 = .ok (.if_icmp .eq 5, 3) := by decide +kernel
theorem d_K_isWritten_10 : decode b_K_isWritten 10 = .ok (.iconst 0, 1) := by decide +kernel
theorem d_K_isWritten_11 : decode b_K_isWritten 11 = .ok (.ireturn, 1) := by decide +kernel
theorem d_K_isWritten_12 : decode b_K_isWritten 12 = .ok (.iconst 0, 1) := by decide +kernel
theorem d_K_isWritten_13 : decode b_K_isWritten 13 = .ok (.istore 4, 2) := by decide +kernel
theorem d_K_isWritten_15 : decode b_K_isWritten 15 = .ok (.iload 4, 2) := by decide +kernel
theorem d_K_isWritten_17 : decode b_K_isWritten 17 = .ok (.aload_n 3, 1) := by decide +kernel
theorem d_K_isWritten_18 : decode b_K_isWritten 18 = .ok (.invokevirtual 83, 3) := by decide +kernel
theorem d_K_isWritten_21 : decode b_K_isWritten 21 = .ok (.if_icmp .ge 31, 3) := by decide +kernel
theorem d_K_isWritten_24 : decode b_K_isWritten 24 = .ok (.aload_n 0, 1) := by decide +kernel
theorem d_K_isWritten_25 : decode b_K_isWritten 25 = .ok (.iload_n 1, 1) := by decide +kernel
theorem d_K_isWritten_26 : decode b_K_isWritten 26 = .ok (.iload 4, 2) := by decide +kernel
theorem d_K_isWritten_28 : decode b_K_isWritten 28 = .ok (.iadd, 1) := by decide +kernel
theorem d_K_isWritten_29 : decode b_K_isWritten 29 = .ok (.invokevirtual 52, 3) := by decide +kernel
theorem d_K_isWritten_32 : decode b_K_isWritten 32 = .ok (.invokestatic 88, 3) := by decide +kernel
theorem d_K_isWritten_35 : decode b_K_isWritten 35 = .ok (.aload_n 3, 1) := by decide +kernel
theorem d_K_isWritten_36 : decode b_K_isWritten 36 = .ok (.iload 4, 2) := by decide +kernel
theorem d_K_isWritten_38 : decode b_K_isWritten 38 = .ok (.invokevirtual 92, 3) := by decide +kernel
theorem d_K_isWritten_41 : decode b_K_isWritten 41 = .ok (.if_icmp .eq 5, 3) := by decide +kernel
theorem d_K_isWritten_44 : decode b_K_isWritten 44 = .ok (.iconst 0, 1) := by decide +kernel
theorem d_K_isWritten_45 : decode b_K_isWritten 45 = .ok (.ireturn, 1) := by decide +kernel
theorem d_K_isWritten_46 : decode b_K_isWritten 46 = .ok (.iinc 4 1, 3) := by decide +kernel
theorem d_K_isWritten_49 : decode b_K_isWritten 49 = .ok (.goto (-34), 3) := by decide +kernel
theorem d_K_isWritten_52 : decode b_K_isWritten 52 = .ok (.iconst 1, 1) := by decide +kernel
theorem d_K_isWritten_53 : decode b_K_isWritten 53 = .ok (.ireturn, 1) := by decide +kernel
set_option maxHeartbeats 4000000 in
set_option maxRecDepth 100000 in
theorem c_K_isWritten (l : Launch) (dC : Nat → ClassId) (dI : Nat → Nat → Nat) (kA : Nat → ClassId) (ko : Nat) (la : Nat) (nl : Nat) (lc : Nat → Int) (kn : Int) (ga : Nat) (gb : Nat) (gc : Nat) (kz : Int) (gk : Nat → Int) (gs : Nat → Int) (ge : Nat → Int) (st : Int) (en : Int) (i : Nat) (hKR : KR nl lc kn kz gk gs ge) (hse : -1000 ≤ st ∧ st ≤ 1000 ∧ -1000 ≤ en ∧ en ≤ 1000) (hi : i < 22) : Met l y_K_isWritten (wsy y_K_isWritten b_K_isWritten 5 (some .boolean)) (rmd 4 0 0) (li_Pr (dC, dI) CL (TY kA) [.ref ko, .int (iI st), .int (iI en), .ref (dI 101 i)] (va_P (dC, dI) CL [(ko, .inr (8, [.ref la, .int (iI kn), .ref ga, .ref gb, .ref gc, .int (iI kz)])), (ga, .inl (kA 0, 100, .inl (aI gk))), (gb, .inl (kA 0, 100, .inl (aI gs))), (gc, .inl (kA 0, 100, .inl (aI ge))), (la, .inl (kA 1, nl, .inl (aI lc)))])) (k2_QcV (.int (iI (bI (wrF lc kn st en i))))) 0 0 (fun _ => False) := by
  refine li_mr (by decide) (Nat.le_of_ble_eq_true rfl) (by exact li_narZ2 _) ?_
  intro p e s m args below meth c Q C hP hK hN hG fin ls hl
  obtain ⟨hx, hb, hr, hml, hown, hts, hlocks, hin⟩ := C
  have hown : s.vm.findClass R_K = some m.cls := hown
  have hP : va_P (dC, dI) CL [(ko, .inr (8, [.ref la, .int (iI kn), .ref ga, .ref gb, .ref gc, .int (iI kz)])), (ga, .inl (kA 0, 100, .inl (aI gk))), (gb, .inl (kA 0, 100, .inl (aI gs))), (gc, .inl (kA 0, 100, .inl (aI ge))), (la, .inl (kA 1, nl, .inl (aI lc)))] s.heap := hP
  have hl : lv_has ls 5 [(0, .ref ko), (1, .int (iI st)), (2, .int (iI en)), (3, .ref (dI 101 i))] := hl
  obtain ⟨hnl, hkn, hkz, hlc, hgk, hgs, hge⟩ := id hKR
  have K_15 : ∀ (nn : Nat) (j : Int), (0 ≤ j ∧ j ≤ (lenS.getD i 0 : Nat)) → (en - st = (lenS.getD i 0 : Nat)) → (wrL lc kn st i (lenS.getD i 0 - j.toNat) j = wrF lc kn st en i) → (lenS.getD i 0 - j.toNat < nn) → ∀ ls : Array Slot, lv_has ls 5 [(0, .ref ko), (1, .int (iI st)), (2, .int (iI en)), (3, .ref (dI 101 i)), (4, .int (iI j))] → W p l e (rmd 4 0 0) s m args below meth c s.heap [] 0 0 Q (F0 m 15 ls []) := by
    intro nn
    induction nn with
    | zero => intro j hj hle hres hm; exact absurd hm (Nat.not_lt_zero _)
    | succ nn ih =>
      intro j hj hle hres hm ls hl
      refine lv_iload hx hb d_K_isWritten_15 (lv_at hl 4 rfl) ?_
      refine lv_aload_n hx hb d_K_isWritten_17 rfl (lv_at hl 3 rfl) ?_
      refine li_callr ((va_runV (As := []) (rest := [.int (iI j)]) ⟨hx, hb, hml, hown, hts⟩ (c_Str_length l dC dI kA i (by exact hi)) (cw_K_83 hts rfl rfl ⟨Nat.le_of_ble_eq_true rfl, Nat.le_of_ble_eq_true rfl⟩) (li_preV (vk_recv hG.2.2.1 (i := i) (by exact hi) (va_S.rf (A := fun q => dI 100 0 ≤ q))) va_Pnil hK hN hG.rd) rfl rfl hl.1 rfl (lv_room (Nat.le_of_ble_eq_true rfl)) d_K_isWritten_18 ⟨(by show 0 + 0 ≤ 0; omega), (by show 0 + 0 ≤ 0; omega)⟩).run) ?_
      refine li_icmp_ge (tgt := 52) hx hb d_K_isWritten_21 (by decide) (by first | omega | (have := lenS_b i; omega) | (have h9 := chL_r (kn := kn) (x := st + j) hlc; have h8 := sml_r (c := chL lc kn (st + j)) (by omega); omega) | (have := chS_r i j.toNat; omega)) (by first | omega | (have := lenS_b i; omega) | (have h9 := chL_r (kn := kn) (x := st + j) hlc; have h8 := sml_r (c := chL lc kn (st + j)) (by omega); omega) | (have := chS_r i j.toNat; omega)) (fun c1 => ?_) (fun c1 => ?_)
      · have _q := c1
        refine lv_iconst (v := iI 1) hx hb d_K_isWritten_52 rfl ?_
        exact fin _ _ _ (by first | (unfold wrF; rw [if_neg (by assumption)]; rfl) | (rw [← hres, show lenS.getD i 0 - j.toNat = 0 by omega]; rfl) | (rw [← hres, show lenS.getD i 0 - j.toNat = (lenS.getD i 0 - (j + 1).toNat) + 1 by omega]; simp only [wrL]; rw [if_neg (by assumption)]; rfl)) d_K_isWritten_53
      · have _q := c1
        refine lv_aload_n hx hb d_K_isWritten_24 rfl (lv_at hl 0 rfl) ?_
        refine lv_iload_n hx hb d_K_isWritten_25 rfl (lv_at hl 1 rfl) ?_
        refine lv_iload hx hb d_K_isWritten_26 (lv_at hl 4 rfl) ?_
        refine li_iadd hx hb d_K_isWritten_28 ?_
        refine li_callr ((va_runV (As := [.int (iI (st + j))]) (rest := []) ⟨hx, hb, hml, hown, hts⟩ (c_K_characterAt l dC dI kA ko la nl lc kn ga gb gc kz gk gs ge (st + j) (by exact hKR) (by have := lenS_b i; omega)) (cw_K_52 hts rfl rfl ⟨Nat.le_of_ble_eq_true rfl, Nat.le_of_ble_eq_true rfl⟩) (li_preV (va_recv hK hP (ci := 8) (q0 := 0) rfl rfl) (hP.sub [0, 1, 2, 3, 4] rfl) hK hN hG.rd) rfl rfl hl.1 rfl (lv_room (Nat.le_of_ble_eq_true rfl)) d_K_isWritten_29 ⟨(by show 0 + 0 ≤ 0; omega), (by show 0 + 0 ≤ 0; omega)⟩).run) ?_
        refine li_callr ((va_runSN (As := [.int (iI (chL lc kn (st + j)))]) (rest := []) ⟨hx, hb, hml, hown, hts⟩ (c_Q_small l dC dI kA (chL lc kn (st + j)) (by have h9 := chL_r (kn := kn) (x := st + j) hlc; omega)) (cw_K_88 hts hN rfl rfl ⟨Nat.le_of_ble_eq_true rfl, Nat.le_of_ble_eq_true rfl⟩) (li_preS va_Pnil hK hN hG.rd) rfl rfl hl.1 rfl (lv_room (Nat.le_of_ble_eq_true rfl)) d_K_isWritten_32 ⟨(by show 0 + 0 ≤ 0; omega), (by show 0 + 0 ≤ 0; omega)⟩).run) ?_
        refine lv_aload_n hx hb d_K_isWritten_35 rfl (lv_at hl 3 rfl) ?_
        refine lv_iload hx hb d_K_isWritten_36 (lv_at hl 4 rfl) ?_
        refine li_callr ((va_runV (As := [.int (iI j)]) (rest := [.int (iI (sml (chL lc kn (st + j))))]) ⟨hx, hb, hml, hown, hts⟩ (c_Str_charAt l dC dI kA i j (by exact hi) (by omega)) (cw_K_92 hts rfl rfl ⟨Nat.le_of_ble_eq_true rfl, Nat.le_of_ble_eq_true rfl⟩) (li_preV (vk_recv hG.2.2.1 (i := i) (by exact hi) (va_S.rf (A := fun q => dI 100 0 ≤ q))) va_Pnil hK hN hG.rd) rfl rfl hl.1 rfl (lv_room (Nat.le_of_ble_eq_true rfl)) d_K_isWritten_38 ⟨(by show 0 + 0 ≤ 0; omega), (by show 0 + 0 ≤ 0; omega)⟩).run) ?_
        refine li_icmp_eq (tgt := 46) hx hb d_K_isWritten_41 (by decide) (by first | omega | (have := lenS_b i; omega) | (have h9 := chL_r (kn := kn) (x := st + j) hlc; have h8 := sml_r (c := chL lc kn (st + j)) (by omega); omega) | (have := chS_r i j.toNat; omega)) (by first | omega | (have := lenS_b i; omega) | (have h9 := chL_r (kn := kn) (x := st + j) hlc; have h8 := sml_r (c := chL lc kn (st + j)) (by omega); omega) | (have := chS_r i j.toNat; omega)) (fun c2 => ?_) (fun c2 => ?_)
        · have _q := c2
          obtain ⟨x3, ex3⟩ : ∃ y : Int, y = j + 1 := ⟨_, rfl⟩
          refine lv_iinc (v := iI x3) (lv' := [(4, .int (iI x3)), (0, .ref ko), (1, .int (iI st)), (2, .int (iI en)), (3, .ref (dI 101 i))]) hx hb d_K_isWritten_46 hl (k := 4) rfl (by rw [ex3]; exact iI_add _ _) (by decide) rfl (fun ls hl => ?_)
          refine lv_goto (tgt := 15) hx hb d_K_isWritten_49 (by decide) ?_
          exact ih x3 (by first | omega | (subst_vars; omega)) (by assumption) (by first | (unfold wrF; rw [if_pos (by assumption)]; rfl) | (subst_vars; rw [← hres, show lenS.getD i 0 - j.toNat = (lenS.getD i 0 - (j + 1).toNat) + 1 by omega]; simp only [wrL]; rw [if_pos (by assumption)])) (by first | omega | (subst_vars; omega)) _ (lv_sub hl [1, 2, 3, 4, 0] rfl)
        · have _q := c2
          refine lv_iconst (v := iI 0) hx hb d_K_isWritten_44 rfl ?_
          exact fin _ _ _ (by first | (unfold wrF; rw [if_neg (by assumption)]; rfl) | (rw [← hres, show lenS.getD i 0 - j.toNat = 0 by omega]; rfl) | (rw [← hres, show lenS.getD i 0 - j.toNat = (lenS.getD i 0 - (j + 1).toNat) + 1 by omega]; simp only [wrL]; rw [if_neg (by assumption)]; rfl)) d_K_isWritten_45
  refine lv_iload_n hx hb d_K_isWritten_0 rfl (lv_at hl 2 rfl) ?_
  refine lv_iload_n hx hb d_K_isWritten_1 rfl (lv_at hl 1 rfl) ?_
  refine li_isub hx hb d_K_isWritten_2 ?_
  refine lv_aload_n hx hb d_K_isWritten_3 rfl (lv_at hl 3 rfl) ?_
  refine li_callr ((va_runV (As := []) (rest := [.int (iI (en - st))]) ⟨hx, hb, hml, hown, hts⟩ (c_Str_length l dC dI kA i (by exact hi)) (cw_K_83 hts rfl rfl ⟨Nat.le_of_ble_eq_true rfl, Nat.le_of_ble_eq_true rfl⟩) (li_preV (vk_recv hG.2.2.1 (i := i) (by exact hi) (va_S.rf (A := fun q => dI 100 0 ≤ q))) va_Pnil hK hN hG.rd) rfl rfl hl.1 rfl (lv_room (Nat.le_of_ble_eq_true rfl)) d_K_isWritten_4 ⟨(by show 0 + 0 ≤ 0; omega), (by show 0 + 0 ≤ 0; omega)⟩).run) ?_
  refine li_icmp_eq (tgt := 12) hx hb d_K_isWritten_7 (by decide) (by first | omega | (have := lenS_b i; omega) | (have h9 := chL_r (kn := kn) (x := st + j) hlc; have h8 := sml_r (c := chL lc kn (st + j)) (by omega); omega) | (have := chS_r i j.toNat; omega)) (by first | omega | (have := lenS_b i; omega) | (have h9 := chL_r (kn := kn) (x := st + j) hlc; have h8 := sml_r (c := chL lc kn (st + j)) (by omega); omega) | (have := chS_r i j.toNat; omega)) (fun c4 => ?_) (fun c4 => ?_)
  · have _q := c4
    refine lv_iconst (v := iI 0) hx hb d_K_isWritten_12 rfl ?_
    refine lv_istore (lv' := [(4, .int (iI 0)), (0, .ref ko), (1, .int (iI st)), (2, .int (iI en)), (3, .ref (dI 101 i))]) hx hb d_K_isWritten_13 hl (by decide) rfl (fun ls hl => ?_)
    exact K_15 (lenS.getD i 0 - (0 : Int).toNat + 1) 0 (by first | omega | (subst_vars; omega)) (by assumption) (by first | (unfold wrF; rw [if_pos (by assumption)]; rfl) | (subst_vars; rw [← hres, show lenS.getD i 0 - j.toNat = (lenS.getD i 0 - (j + 1).toNat) + 1 by omega]; simp only [wrL]; rw [if_pos (by assumption)])) (Nat.lt_succ_self _) _ (lv_sub hl [1, 2, 3, 4, 0] rfl)
  · have _q := c4
    refine lv_iconst (v := iI 0) hx hb d_K_isWritten_10 rfl ?_
    exact fin _ _ _ (by first | (unfold wrF; rw [if_neg (by assumption)]; rfl) | (rw [← hres, show lenS.getD i 0 - j.toNat = 0 by omega]; rfl) | (rw [← hres, show lenS.getD i 0 - j.toNat = (lenS.getD i 0 - (j + 1).toNat) + 1 by omega]; simp only [wrL]; rw [if_neg (by assumption)]; rfl)) d_K_isWritten_11
theorem d_K_kindOfName_0 : decode b_K_kindOfName 0 = .ok (.aload_n 0, 1) := by decide +kernel
theorem d_K_kindOfName_1 : decode b_K_kindOfName 1 = .ok (.iload_n 1, 1) := by decide +kernel
theorem d_K_kindOfName_2 : decode b_K_kindOfName 2 = .ok (.iload_n 2, 1) := by decide +kernel
theorem d_K_kindOfName_3 : decode b_K_kindOfName 3 = .ok (.ldc 69, 2) := by decide +kernel
theorem d_K_kindOfName_5 : decode b_K_kindOfName 5 = .ok (.invokevirtual 71, 3) := by decide +kernel
theorem d_K_kindOfName_8 : decode b_K_kindOfName 8 = .ok (.ifCond .eq 6, 3) := by decide +kernel
theorem d_K_kindOfName_11 : decode b_K_kindOfName 11 = .ok (.bipush 11, 2) := by decide +kernel
theorem d_K_kindOfName_13 : decode b_K_kindOfName 13 = .ok (.ireturn, 1) := by decide +kernel
theorem d_K_kindOfName_14 : decode b_K_kindOfName 14 = .ok (.aload_n 0, 1) := by decide +kernel
theorem d_K_kindOfName_15 : decode b_K_kindOfName 15 = .ok (.iload_n 1, 1) := by decide +kernel
theorem d_K_kindOfName_16 : decode b_K_kindOfName 16 = .ok (.iload_n 2, 1) := by decide +kernel
theorem d_K_kindOfName_17 : decode b_K_kindOfName 17 = .ok (.ldc 75, 2) := by decide +kernel
theorem d_K_kindOfName_19 : decode b_K_kindOfName 19 = .ok (.invokevirtual 71, 3) := by decide +kernel
theorem d_K_kindOfName_22 : decode b_K_kindOfName 22 = .ok (.ifCond .eq 6, 3) := by decide +kernel
theorem d_K_kindOfName_25 : decode b_K_kindOfName 25 = .ok (.bipush 12, 2) := by decide +kernel
theorem d_K_kindOfName_27 : decode b_K_kindOfName 27 = .ok (.ireturn, 1) := by decide +kernel
theorem d_K_kindOfName_28 : decode b_K_kindOfName 28 = .ok (.aload_n 0, 1) := by decide +kernel
theorem d_K_kindOfName_29 : decode b_K_kindOfName 29 = .ok (.iload_n 1, 1) := by decide +kernel
theorem d_K_kindOfName_30 : decode b_K_kindOfName 30 = .ok (.iload_n 2, 1) := by decide +kernel
theorem d_K_kindOfName_31 : decode b_K_kindOfName 31 = .ok (.ldc 77, 2) := by decide +kernel
theorem d_K_kindOfName_33 : decode b_K_kindOfName 33 = .ok (.invokevirtual 71, 3) := by decide +kernel
theorem d_K_kindOfName_36 : decode b_K_kindOfName 36 = .ok (.ifCond .eq 6, 3) := by decide +kernel
theorem d_K_kindOfName_39 : decode b_K_kindOfName 39 = .ok (.bipush 13, 2) := by decide +kernel
theorem d_K_kindOfName_41 : decode b_K_kindOfName 41 = .ok (.ireturn, 1) := by decide +kernel
theorem d_K_kindOfName_42 : decode b_K_kindOfName 42 = .ok (.aload_n 0, 1) := by decide +kernel
theorem d_K_kindOfName_43 : decode b_K_kindOfName 43 = .ok (.iload_n 1, 1) := by decide +kernel
theorem d_K_kindOfName_44 : decode b_K_kindOfName 44 = .ok (.iload_n 2, 1) := by decide +kernel
theorem d_K_kindOfName_45 : decode b_K_kindOfName 45 = .ok (.ldc 79, 2) := by decide +kernel
theorem d_K_kindOfName_47 : decode b_K_kindOfName 47 = .ok (.invokevirtual 71, 3) := by decide +kernel
theorem d_K_kindOfName_50 : decode b_K_kindOfName 50 = .ok (.ifCond .eq 6, 3) := by decide +kernel
theorem d_K_kindOfName_53 : decode b_K_kindOfName 53 = .ok (.bipush 7, 2) := by decide +kernel
theorem d_K_kindOfName_55 : decode b_K_kindOfName 55 = .ok (.ireturn, 1) := by decide +kernel
theorem d_K_kindOfName_56 : decode b_K_kindOfName 56 = .ok (.aload_n 0, 1) := by decide +kernel
theorem d_K_kindOfName_57 : decode b_K_kindOfName 57 = .ok (.iload_n 1, 1) := by decide +kernel
theorem d_K_kindOfName_58 : decode b_K_kindOfName 58 = .ok (.iload_n 2, 1) := by decide +kernel
theorem d_K_kindOfName_59 : decode b_K_kindOfName 59 = .ok (.ldc 81, 2) := by decide +kernel
theorem d_K_kindOfName_61 : decode b_K_kindOfName 61 = .ok (.invokevirtual 71, 3) := by decide +kernel
theorem d_K_kindOfName_64 : decode b_K_kindOfName 64 = .ok (.ifCond .eq 8, 3) := by decide +kernel
theorem d_K_kindOfName_67 : decode b_K_kindOfName 67 = .ok (.bipush 8, 2) := by decide +kernel
theorem d_K_kindOfName_69 : decode b_K_kindOfName 69 = .ok (.goto 4, 3) := by decide +kernel
theorem d_K_kindOfName_72 : decode b_K_kindOfName 72 = .ok (.iconst 1, 1) := by decide +kernel
theorem d_K_kindOfName_73 : decode b_K_kindOfName 73 = .ok (.ireturn, 1) := by decide +kernel
set_option maxHeartbeats 4000000 in
set_option maxRecDepth 100000 in
theorem c_K_kindOfName (l : Launch) (dC : Nat → ClassId) (dI : Nat → Nat → Nat) (kA : Nat → ClassId) (ko : Nat) (la : Nat) (nl : Nat) (lc : Nat → Int) (kn : Int) (ga : Nat) (gb : Nat) (gc : Nat) (kz : Int) (gk : Nat → Int) (gs : Nat → Int) (ge : Nat → Int) (st : Int) (en : Int) (hKR : KR nl lc kn kz gk gs ge) (hse : -1000 ≤ st ∧ st ≤ 1000 ∧ -1000 ≤ en ∧ en ≤ 1000) : Met l y_K_kindOfName (wsy y_K_kindOfName b_K_kindOfName 3 (some .int)) (rmd 5 0 0) (li_Pr (dC, dI) CL (TY kA) [.ref ko, .int (iI st), .int (iI en)] (va_P (dC, dI) CL [(ko, .inr (8, [.ref la, .int (iI kn), .ref ga, .ref gb, .ref gc, .int (iI kz)])), (ga, .inl (kA 0, 100, .inl (aI gk))), (gb, .inl (kA 0, 100, .inl (aI gs))), (gc, .inl (kA 0, 100, .inl (aI ge))), (la, .inl (kA 1, nl, .inl (aI lc)))])) (k2_QcV (.int (iI (knF lc kn st en)))) 0 0 (fun _ => False) := by
  refine li_mr (by decide) (Nat.le_of_ble_eq_true rfl) (by rfl) ?_
  intro p e s m args below meth c Q C hP hK hN hG fin ls hl
  obtain ⟨hx, hb, hr, hml, hown, hts, hlocks, hin⟩ := C
  have hown : s.vm.findClass R_K = some m.cls := hown
  have hP : va_P (dC, dI) CL [(ko, .inr (8, [.ref la, .int (iI kn), .ref ga, .ref gb, .ref gc, .int (iI kz)])), (ga, .inl (kA 0, 100, .inl (aI gk))), (gb, .inl (kA 0, 100, .inl (aI gs))), (gc, .inl (kA 0, 100, .inl (aI ge))), (la, .inl (kA 1, nl, .inl (aI lc)))] s.heap := hP
  have hl : lv_has ls 3 [(0, .ref ko), (1, .int (iI st)), (2, .int (iI en))] := hl
  obtain ⟨hnl, hkn, hkz, hlc, hgk, hgs, hge⟩ := id hKR
  refine lv_aload_n hx hb d_K_kindOfName_0 rfl (lv_at hl 0 rfl) ?_
  refine lv_iload_n hx hb d_K_kindOfName_1 rfl (lv_at hl 1 rfl) ?_
  refine lv_iload_n hx hb d_K_kindOfName_2 rfl (lv_at hl 2 rfl) ?_
  refine va_ldcS hx hb hown (hG.2.1 1 (R_K, 69, "and") rfl) d_K_kindOfName_3 ?_
  refine li_callr ((va_runV (As := [.int (iI st), .int (iI en), .ref (dI 101 1)]) (rest := []) ⟨hx, hb, hml, hown, hts⟩ (c_K_isWritten l dC dI kA ko la nl lc kn ga gb gc kz gk gs ge st en 1 (by exact hKR) (by exact hse) (by decide)) (cw_K_71 hts rfl rfl ⟨Nat.le_of_ble_eq_true rfl, Nat.le_of_ble_eq_true rfl⟩) (li_preV (va_recv hK hP (ci := 8) (q0 := 0) rfl rfl) (hP.sub [0, 1, 2, 3, 4] rfl) hK hN hG.rd) rfl rfl hl.1 rfl (lv_room (Nat.le_of_ble_eq_true rfl)) d_K_kindOfName_5 ⟨(by show 0 + 0 ≤ 0; omega), (by show 0 + 0 ≤ 0; omega)⟩).run) ?_
  refine li_bz (tgt := 14) hx hb d_K_kindOfName_8 (by decide) (fun c1 => ?_) (fun c1 => ?_)
  · have _q := c1
    refine lv_aload_n hx hb d_K_kindOfName_14 rfl (lv_at hl 0 rfl) ?_
    refine lv_iload_n hx hb d_K_kindOfName_15 rfl (lv_at hl 1 rfl) ?_
    refine lv_iload_n hx hb d_K_kindOfName_16 rfl (lv_at hl 2 rfl) ?_
    refine va_ldcS hx hb hown (hG.2.1 2 (R_K, 75, "or") rfl) d_K_kindOfName_17 ?_
    refine li_callr ((va_runV (As := [.int (iI st), .int (iI en), .ref (dI 101 2)]) (rest := []) ⟨hx, hb, hml, hown, hts⟩ (c_K_isWritten l dC dI kA ko la nl lc kn ga gb gc kz gk gs ge st en 2 (by exact hKR) (by exact hse) (by decide)) (cw_K_71 hts rfl rfl ⟨Nat.le_of_ble_eq_true rfl, Nat.le_of_ble_eq_true rfl⟩) (li_preV (va_recv hK hP (ci := 8) (q0 := 0) rfl rfl) (hP.sub [0, 1, 2, 3, 4] rfl) hK hN hG.rd) rfl rfl hl.1 rfl (lv_room (Nat.le_of_ble_eq_true rfl)) d_K_kindOfName_19 ⟨(by show 0 + 0 ≤ 0; omega), (by show 0 + 0 ≤ 0; omega)⟩).run) ?_
    refine li_bz (tgt := 28) hx hb d_K_kindOfName_22 (by decide) (fun c2 => ?_) (fun c2 => ?_)
    · have _q := c2
      refine lv_aload_n hx hb d_K_kindOfName_28 rfl (lv_at hl 0 rfl) ?_
      refine lv_iload_n hx hb d_K_kindOfName_29 rfl (lv_at hl 1 rfl) ?_
      refine lv_iload_n hx hb d_K_kindOfName_30 rfl (lv_at hl 2 rfl) ?_
      refine va_ldcS hx hb hown (hG.2.1 3 (R_K, 77, "not") rfl) d_K_kindOfName_31 ?_
      refine li_callr ((va_runV (As := [.int (iI st), .int (iI en), .ref (dI 101 3)]) (rest := []) ⟨hx, hb, hml, hown, hts⟩ (c_K_isWritten l dC dI kA ko la nl lc kn ga gb gc kz gk gs ge st en 3 (by exact hKR) (by exact hse) (by decide)) (cw_K_71 hts rfl rfl ⟨Nat.le_of_ble_eq_true rfl, Nat.le_of_ble_eq_true rfl⟩) (li_preV (va_recv hK hP (ci := 8) (q0 := 0) rfl rfl) (hP.sub [0, 1, 2, 3, 4] rfl) hK hN hG.rd) rfl rfl hl.1 rfl (lv_room (Nat.le_of_ble_eq_true rfl)) d_K_kindOfName_33 ⟨(by show 0 + 0 ≤ 0; omega), (by show 0 + 0 ≤ 0; omega)⟩).run) ?_
      refine li_bz (tgt := 42) hx hb d_K_kindOfName_36 (by decide) (fun c3 => ?_) (fun c3 => ?_)
      · have _q := c3
        refine lv_aload_n hx hb d_K_kindOfName_42 rfl (lv_at hl 0 rfl) ?_
        refine lv_iload_n hx hb d_K_kindOfName_43 rfl (lv_at hl 1 rfl) ?_
        refine lv_iload_n hx hb d_K_kindOfName_44 rfl (lv_at hl 2 rfl) ?_
        refine va_ldcS hx hb hown (hG.2.1 4 (R_K, 79, "sortby") rfl) d_K_kindOfName_45 ?_
        refine li_callr ((va_runV (As := [.int (iI st), .int (iI en), .ref (dI 101 4)]) (rest := []) ⟨hx, hb, hml, hown, hts⟩ (c_K_isWritten l dC dI kA ko la nl lc kn ga gb gc kz gk gs ge st en 4 (by exact hKR) (by exact hse) (by decide)) (cw_K_71 hts rfl rfl ⟨Nat.le_of_ble_eq_true rfl, Nat.le_of_ble_eq_true rfl⟩) (li_preV (va_recv hK hP (ci := 8) (q0 := 0) rfl rfl) (hP.sub [0, 1, 2, 3, 4] rfl) hK hN hG.rd) rfl rfl hl.1 rfl (lv_room (Nat.le_of_ble_eq_true rfl)) d_K_kindOfName_47 ⟨(by show 0 + 0 ≤ 0; omega), (by show 0 + 0 ≤ 0; omega)⟩).run) ?_
        refine li_bz (tgt := 56) hx hb d_K_kindOfName_50 (by decide) (fun c4 => ?_) (fun c4 => ?_)
        · have _q := c4
          refine lv_aload_n hx hb d_K_kindOfName_56 rfl (lv_at hl 0 rfl) ?_
          refine lv_iload_n hx hb d_K_kindOfName_57 rfl (lv_at hl 1 rfl) ?_
          refine lv_iload_n hx hb d_K_kindOfName_58 rfl (lv_at hl 2 rfl) ?_
          refine va_ldcS hx hb hown (hG.2.1 5 (R_K, 81, "descending") rfl) d_K_kindOfName_59 ?_
          refine li_callr ((va_runV (As := [.int (iI st), .int (iI en), .ref (dI 101 5)]) (rest := []) ⟨hx, hb, hml, hown, hts⟩ (c_K_isWritten l dC dI kA ko la nl lc kn ga gb gc kz gk gs ge st en 5 (by exact hKR) (by exact hse) (by decide)) (cw_K_71 hts rfl rfl ⟨Nat.le_of_ble_eq_true rfl, Nat.le_of_ble_eq_true rfl⟩) (li_preV (va_recv hK hP (ci := 8) (q0 := 0) rfl rfl) (hP.sub [0, 1, 2, 3, 4] rfl) hK hN hG.rd) rfl rfl hl.1 rfl (lv_room (Nat.le_of_ble_eq_true rfl)) d_K_kindOfName_61 ⟨(by show 0 + 0 ≤ 0; omega), (by show 0 + 0 ≤ 0; omega)⟩).run) ?_
          refine li_bz (tgt := 72) hx hb d_K_kindOfName_64 (by decide) (fun c5 => ?_) (fun c5 => ?_)
          · have _q := c5
            refine lv_iconst (v := iI 1) hx hb d_K_kindOfName_72 rfl ?_
            exact fin _ _ _ (by unfold knF; simp only [*]; rfl) d_K_kindOfName_73
          · have _q := c5
            refine lv_bipush (v := iI 8) hx hb d_K_kindOfName_67 (by decide) ?_
            refine lv_goto (tgt := 73) hx hb d_K_kindOfName_69 (by decide) ?_
            exact fin _ _ _ (by unfold knF; simp only [*]; rfl) d_K_kindOfName_73
        · have _q := c4
          refine lv_bipush (v := iI 7) hx hb d_K_kindOfName_53 (by decide) ?_
          exact fin _ _ _ (by unfold knF; simp only [*]; rfl) d_K_kindOfName_55
      · have _q := c3
        refine lv_bipush (v := iI 13) hx hb d_K_kindOfName_39 (by decide) ?_
        exact fin _ _ _ (by unfold knF; simp only [*]; rfl) d_K_kindOfName_41
    · have _q := c2
      refine lv_bipush (v := iI 12) hx hb d_K_kindOfName_25 (by decide) ?_
      exact fin _ _ _ (by unfold knF; simp only [*]; rfl) d_K_kindOfName_27
  · have _q := c1
    refine lv_bipush (v := iI 11) hx hb d_K_kindOfName_11 (by decide) ?_
    exact fin _ _ _ (by unfold knF; simp only [*]; rfl) d_K_kindOfName_13
theorem d_K_indexName_0 : decode b_K_indexName 0 = .ok (.iload_n 0, 1) := by decide +kernel
theorem d_K_indexName_1 : decode b_K_indexName 1 = .ok (.tableswitch 50 0 4 #[35, 38, 41, 44, 47], 35) := by decide +kernel
theorem d_K_indexName_36 : decode b_K_indexName 36 = .ok (.ldc 105, 2) := by decide +kernel
theorem d_K_indexName_38 : decode b_K_indexName 38 = .ok (.areturn, 1) := by decide +kernel
theorem d_K_indexName_39 : decode b_K_indexName 39 = .ok (.ldc 107, 2) := by decide +kernel
theorem d_K_indexName_41 : decode b_K_indexName 41 = .ok (.areturn, 1) := by decide +kernel
theorem d_K_indexName_42 : decode b_K_indexName 42 = .ok (.ldc 109, 2) := by decide +kernel
theorem d_K_indexName_44 : decode b_K_indexName 44 = .ok (.areturn, 1) := by decide +kernel
theorem d_K_indexName_45 : decode b_K_indexName 45 = .ok (.ldc 111, 2) := by decide +kernel
theorem d_K_indexName_47 : decode b_K_indexName 47 = .ok (.areturn, 1) := by decide +kernel
theorem d_K_indexName_48 : decode b_K_indexName 48 = .ok (.ldc 113, 2) := by decide +kernel
theorem d_K_indexName_50 : decode b_K_indexName 50 = .ok (.areturn, 1) := by decide +kernel
theorem d_K_indexName_51 : decode b_K_indexName 51 = .ok (.ldc 115, 2) := by decide +kernel
theorem d_K_indexName_53 : decode b_K_indexName 53 = .ok (.areturn, 1) := by decide +kernel
set_option maxHeartbeats 4000000 in
set_option maxRecDepth 100000 in
theorem c_K_indexName (l : Launch) (dC : Nat → ClassId) (dI : Nat → Nat → Nat) (kA : Nat → ClassId) (x : Int) (hx0 : -2147483648 ≤ x ∧ x < 2147483648) : Met l y_K_indexName (wsy y_K_indexName b_K_indexName 1 (some (.object "java/lang/String"))) (rmd 0 0 0) (li_Pr (dC, dI) CL (TY kA) [.int (iI x)] (va_P (dC, dI) CL [])) (k2_QcV (.ref (dI 101 (nmI x)))) 0 0 (fun _ => False) := by
  refine li_ma (by decide) (Nat.le_of_ble_eq_true rfl) ?_
  intro p e s m args below meth c Q C hP hK hN hG fin ls hl
  obtain ⟨hx, hb, hr, hml, hown, hts, hlocks, hin⟩ := C
  have hown : s.vm.findClass R_K = some m.cls := hown
  have hP : va_P (dC, dI) CL [] s.heap := hP
  have hl : lv_has ls 1 [(0, .int (iI x))] := hl
  refine lv_iload_n hx hb d_K_indexName_0 rfl (lv_at hl 0 rfl) ?_
  by_cases w1 : x = 0
  · refine li_to (z := 0) w1 ?_
    refine lv_tableIn (x := iI 0) (off := 35) (tgt := 36) hx hb d_K_indexName_1 (by decide) (by decide) (by decide) (by decide) ?_
    refine va_ldcS hx hb hown (hG.2.1 6 (R_K, 105, "any") rfl) d_K_indexName_36 ?_
    exact fin _ _ _ (by subst_vars; first | rfl | (unfold nmI; repeat (first | rfl | (rw [if_neg (by omega)])))) d_K_indexName_38
  by_cases w2 : x = 1
  · refine li_to (z := 1) w2 ?_
    refine lv_tableIn (x := iI 1) (off := 38) (tgt := 39) hx hb d_K_indexName_1 (by decide) (by decide) (by decide) (by decide) ?_
    refine va_ldcS hx hb hown (hG.2.1 10 (R_K, 107, "title") rfl) d_K_indexName_39 ?_
    exact fin _ _ _ (by subst_vars; first | rfl | (unfold nmI; repeat (first | rfl | (rw [if_neg (by omega)])))) d_K_indexName_41
  by_cases w3 : x = 2
  · refine li_to (z := 2) w3 ?_
    refine lv_tableIn (x := iI 2) (off := 41) (tgt := 42) hx hb d_K_indexName_1 (by decide) (by decide) (by decide) (by decide) ?_
    refine va_ldcS hx hb hown (hG.2.1 11 (R_K, 109, "author") rfl) d_K_indexName_42 ?_
    exact fin _ _ _ (by subst_vars; first | rfl | (unfold nmI; repeat (first | rfl | (rw [if_neg (by omega)])))) d_K_indexName_44
  by_cases w4 : x = 3
  · refine li_to (z := 3) w4 ?_
    refine lv_tableIn (x := iI 3) (off := 44) (tgt := 45) hx hb d_K_indexName_1 (by decide) (by decide) (by decide) (by decide) ?_
    refine va_ldcS hx hb hown (hG.2.1 12 (R_K, 111, "subject") rfl) d_K_indexName_45 ?_
    exact fin _ _ _ (by subst_vars; first | rfl | (unfold nmI; repeat (first | rfl | (rw [if_neg (by omega)])))) d_K_indexName_47
  by_cases w5 : x = 4
  · refine li_to (z := 4) w5 ?_
    refine lv_tableIn (x := iI 4) (off := 47) (tgt := 48) hx hb d_K_indexName_1 (by decide) (by decide) (by decide) (by decide) ?_
    refine va_ldcS hx hb hown (hG.2.1 13 (R_K, 113, "date") rfl) d_K_indexName_48 ?_
    exact fin _ _ _ (by subst_vars; first | rfl | (unfold nmI; repeat (first | rfl | (rw [if_neg (by omega)])))) d_K_indexName_50
  refine lv_tableOut (tgt := 51) hx hb d_K_indexName_1 (by rw [iI_toInt (by omega)]; omega) (by decide) ?_
  refine va_ldcS hx hb hown (hG.2.1 14 (R_K, 115, "id") rfl) d_K_indexName_51 ?_
  exact fin _ _ _ (by subst_vars; first | rfl | (unfold nmI; repeat (first | rfl | (rw [if_neg (by omega)])))) d_K_indexName_53
theorem d_K_indexAt_0 : decode b_K_indexAt 0 = .ok (.iconst 0, 1) := by decide +kernel
theorem d_K_indexAt_1 : decode b_K_indexAt 1 = .ok (.istore_n 2, 1) := by decide +kernel
theorem d_K_indexAt_2 : decode b_K_indexAt 2 = .ok (.iload_n 2, 1) := by decide +kernel
theorem d_K_indexAt_3 : decode b_K_indexAt 3 = .ok (.bipush 6, 2) := by decide +kernel
theorem d_K_indexAt_5 : decode b_K_indexAt 5 = .ok (.if_icmp .ge 32, 3) := by decide +kernel
theorem d_K_indexAt_8 : decode b_K_indexAt 8 = .ok (.aload_n 0, 1) := by decide +kernel
theorem d_K_indexAt_9 : decode b_K_indexAt 9 = .ok (.aload_n 0, 1) := by decide +kernel
theorem d_K_indexAt_10 : decode b_K_indexAt 10 = .ok (.iload_n 1, 1) := by decide +kernel
theorem d_K_indexAt_11 : decode b_K_indexAt 11 = .ok (.invokevirtual 95, 3) := by decide +kernel
theorem d_K_indexAt_14 : decode b_K_indexAt 14 = .ok (.aload_n 0, 1) := by decide +kernel
theorem d_K_indexAt_15 : decode b_K_indexAt 15 = .ok (.iload_n 1, 1) := by decide +kernel
theorem d_K_indexAt_16 : decode b_K_indexAt 16 = .ok (.invokevirtual 98, 3) := by decide +kernel
theorem d_K_indexAt_19 : decode b_K_indexAt 19 = .ok (.iload_n 2, 1) := by decide +kernel
theorem d_K_indexAt_20 : decode b_K_indexAt 20 = .ok (.invokestatic 101, 3) := by decide +kernel
theorem d_K_indexAt_23 : decode b_K_indexAt 23 = .ok (.invokevirtual 71, 3) := by decide +kernel
theorem d_K_indexAt_26 : decode b_K_indexAt 26 = .ok (.ifCond .eq 5, 3) := by decide +kernel
theorem d_K_indexAt_29 : decode b_K_indexAt 29 = .ok (.iload_n 2, 1) := by decide +kernel
theorem d_K_indexAt_30 : decode b_K_indexAt 30 = .ok (.ireturn, 1) := by decide +kernel
theorem d_K_indexAt_31 : decode b_K_indexAt 31 = .ok (.iinc 2 1, 3) := by decide +kernel
theorem d_K_indexAt_34 : decode b_K_indexAt 34 = .ok (.goto (-32), 3) := by decide +kernel
theorem d_K_indexAt_37 : decode b_K_indexAt 37 = .ok (.iconst (-1), 1) := by decide +kernel
theorem d_K_indexAt_38 : decode b_K_indexAt 38 = .ok (.ireturn, 1) := by decide +kernel
set_option maxHeartbeats 4000000 in
set_option maxRecDepth 100000 in
theorem c_K_indexAt (l : Launch) (dC : Nat → ClassId) (dI : Nat → Nat → Nat) (kA : Nat → ClassId) (ko : Nat) (la : Nat) (nl : Nat) (lc : Nat → Int) (kn : Int) (ga : Nat) (gb : Nat) (gc : Nat) (kz : Int) (gk : Nat → Int) (gs : Nat → Int) (ge : Nat → Int) (x : Int) (hKR : KR nl lc kn kz gk gs ge) (hx0 : -2147483648 ≤ x ∧ x < 2147483648) : Met l y_K_indexAt (wsy y_K_indexAt b_K_indexAt 3 (some .int)) (rmd 5 0 0) (li_Pr (dC, dI) CL (TY kA) [.ref ko, .int (iI x)] (va_P (dC, dI) CL [(ko, .inr (8, [.ref la, .int (iI kn), .ref ga, .ref gb, .ref gc, .int (iI kz)])), (ga, .inl (kA 0, 100, .inl (aI gk))), (gb, .inl (kA 0, 100, .inl (aI gs))), (gc, .inl (kA 0, 100, .inl (aI ge))), (la, .inl (kA 1, nl, .inl (aI lc)))])) (k2_QcV (.int (iI (ixL lc kn (seF gs kz kn x) (seF ge kz kn x) 6 0)))) 0 0 (fun _ => False) := by
  refine li_mr (by decide) (Nat.le_of_ble_eq_true rfl) (by rfl) ?_
  intro p e s m args below meth c Q C hP hK hN hG fin ls hl
  obtain ⟨hx, hb, hr, hml, hown, hts, hlocks, hin⟩ := C
  have hown : s.vm.findClass R_K = some m.cls := hown
  have hP : va_P (dC, dI) CL [(ko, .inr (8, [.ref la, .int (iI kn), .ref ga, .ref gb, .ref gc, .int (iI kz)])), (ga, .inl (kA 0, 100, .inl (aI gk))), (gb, .inl (kA 0, 100, .inl (aI gs))), (gc, .inl (kA 0, 100, .inl (aI ge))), (la, .inl (kA 1, nl, .inl (aI lc)))] s.heap := hP
  have hl : lv_has ls 3 [(0, .ref ko), (1, .int (iI x))] := hl
  obtain ⟨hnl, hkn, hkz, hlc, hgk, hgs, hge⟩ := id hKR
  have K_2 : ∀ (nn : Nat) (i : Int), (0 ≤ i ∧ i ≤ 6) → (ixL lc kn (seF gs kz kn x) (seF ge kz kn x) (6 - i.toNat) i = ixL lc kn (seF gs kz kn x) (seF ge kz kn x) 6 0) → (6 - i.toNat < nn) → ∀ ls : Array Slot, lv_has ls 3 [(0, .ref ko), (1, .int (iI x)), (2, .int (iI i))] → W p l e (rmd 5 0 0) s m args below meth c s.heap [] 0 0 Q (F0 m 2 ls []) := by
    intro nn
    induction nn with
    | zero => intro i hi9 hres hm; exact absurd hm (Nat.not_lt_zero _)
    | succ nn ih =>
      intro i hi9 hres hm ls hl
      refine lv_iload_n hx hb d_K_indexAt_2 rfl (lv_at hl 2 rfl) ?_
      refine lv_bipush (v := iI 6) hx hb d_K_indexAt_3 (by decide) ?_
      refine li_icmp_ge (tgt := 37) hx hb d_K_indexAt_5 (by decide) (by omega) (by omega) (fun c1 => ?_) (fun c1 => ?_)
      · have _q := c1
        refine lv_iconst (v := iI (-1)) hx hb d_K_indexAt_37 rfl ?_
        exact fin _ _ _ (by first | (rw [← hres, show 6 - i.toNat = 0 by omega]; rfl) | (rw [← hres, show 6 - i.toNat = (6 - (i + 1).toNat) + 1 by omega]; simp only [ixL]; rw [if_pos (by assumption)])) d_K_indexAt_38
      · have _q := c1
        refine lv_aload_n hx hb d_K_indexAt_8 rfl (lv_at hl 0 rfl) ?_
        refine lv_aload_n hx hb d_K_indexAt_9 rfl (lv_at hl 0 rfl) ?_
        refine lv_iload_n hx hb d_K_indexAt_10 rfl (lv_at hl 1 rfl) ?_
        refine li_callr ((va_runV (As := [.int (iI x)]) (rest := [.ref ko]) ⟨hx, hb, hml, hown, hts⟩ (c_K_startAt l dC dI kA ko la nl lc kn ga gb gc kz gk gs ge x (by exact hKR) (by omega)) (cw_K_95 hts rfl rfl ⟨Nat.le_of_ble_eq_true rfl, Nat.le_of_ble_eq_true rfl⟩) (li_preV (va_recv hK hP (ci := 8) (q0 := 0) rfl rfl) (hP.sub [0, 1, 2, 3, 4] rfl) hK hN hG.rd) rfl rfl hl.1 rfl (lv_room (Nat.le_of_ble_eq_true rfl)) d_K_indexAt_11 ⟨(by show 0 + 0 ≤ 0; omega), (by show 0 + 0 ≤ 0; omega)⟩).run) ?_
        refine lv_aload_n hx hb d_K_indexAt_14 rfl (lv_at hl 0 rfl) ?_
        refine lv_iload_n hx hb d_K_indexAt_15 rfl (lv_at hl 1 rfl) ?_
        refine li_callr ((va_runV (As := [.int (iI x)]) (rest := [.int (iI (seF gs kz kn x)), .ref ko]) ⟨hx, hb, hml, hown, hts⟩ (c_K_endAt l dC dI kA ko la nl lc kn ga gb gc kz gk gs ge x (by exact hKR) (by omega)) (cw_K_98 hts rfl rfl ⟨Nat.le_of_ble_eq_true rfl, Nat.le_of_ble_eq_true rfl⟩) (li_preV (va_recv hK hP (ci := 8) (q0 := 0) rfl rfl) (hP.sub [0, 1, 2, 3, 4] rfl) hK hN hG.rd) rfl rfl hl.1 rfl (lv_room (Nat.le_of_ble_eq_true rfl)) d_K_indexAt_16 ⟨(by show 0 + 0 ≤ 0; omega), (by show 0 + 0 ≤ 0; omega)⟩).run) ?_
        refine lv_iload_n hx hb d_K_indexAt_19 rfl (lv_at hl 2 rfl) ?_
        refine li_callr ((va_runS (As := [.int (iI i)]) (rest := [.int (iI (seF ge kz kn x)), .int (iI (seF gs kz kn x)), .ref ko]) ⟨hx, hb, hml, hown, hts⟩ (c_K_indexName l dC dI kA i (by omega)) (cw_K_101 hts rfl rfl ⟨Nat.le_of_ble_eq_true rfl, Nat.le_of_ble_eq_true rfl⟩) (li_preS va_Pnil hK hN hG.rd) rfl rfl hl.1 rfl (lv_room (Nat.le_of_ble_eq_true rfl)) d_K_indexAt_20 ⟨(by show 0 + 0 ≤ 0; omega), (by show 0 + 0 ≤ 0; omega)⟩).run) ?_
        refine li_callr ((va_runV (As := [.int (iI (seF gs kz kn x)), .int (iI (seF ge kz kn x)), .ref (dI 101 (nmI i))]) (rest := []) ⟨hx, hb, hml, hown, hts⟩ (c_K_isWritten l dC dI kA ko la nl lc kn ga gb gc kz gk gs ge (seF gs kz kn x) (seF ge kz kn x) (nmI i) (by exact hKR) (by have h8 := seF_r (kz := kz) (kn := kn) (x := x) hgs (by omega); have h9 := seF_r (kz := kz) (kn := kn) (x := x) hge (by omega); omega) (by unfold nmI; (repeat' split) <;> omega)) (cw_K_71 hts rfl rfl ⟨Nat.le_of_ble_eq_true rfl, Nat.le_of_ble_eq_true rfl⟩) (li_preV (va_recv hK hP (ci := 8) (q0 := 0) rfl rfl) (hP.sub [0, 1, 2, 3, 4] rfl) hK hN hG.rd) rfl rfl hl.1 rfl (lv_room (Nat.le_of_ble_eq_true rfl)) d_K_indexAt_23 ⟨(by show 0 + 0 ≤ 0; omega), (by show 0 + 0 ≤ 0; omega)⟩).run) ?_
        refine li_bz (tgt := 31) hx hb d_K_indexAt_26 (by decide) (fun c2 => ?_) (fun c2 => ?_)
        · have _q := c2
          obtain ⟨x3, ex3⟩ : ∃ y : Int, y = i + 1 := ⟨_, rfl⟩
          refine lv_iinc (v := iI x3) (lv' := [(2, .int (iI x3)), (0, .ref ko), (1, .int (iI x))]) hx hb d_K_indexAt_31 hl (k := 2) rfl (by rw [ex3]; exact iI_add _ _) (by decide) rfl (fun ls hl => ?_)
          refine lv_goto (tgt := 2) hx hb d_K_indexAt_34 (by decide) ?_
          exact ih x3 (by first | omega | (subst_vars; omega)) (by first | rfl | (subst_vars; rw [← hres, show 6 - i.toNat = (6 - (i + 1).toNat) + 1 by omega]; simp only [ixL]; rw [if_neg (by simp_all)])) (by first | omega | (subst_vars; omega)) _ (lv_sub hl [1, 2, 0] rfl)
        · have _q := c2
          refine lv_iload_n hx hb d_K_indexAt_29 rfl (lv_at hl 2 rfl) ?_
          exact fin _ _ _ (by first | (rw [← hres, show 6 - i.toNat = 0 by omega]; rfl) | (rw [← hres, show 6 - i.toNat = (6 - (i + 1).toNat) + 1 by omega]; simp only [ixL]; rw [if_pos (by assumption)])) d_K_indexAt_30
  refine lv_iconst (v := iI 0) hx hb d_K_indexAt_0 rfl ?_
  refine lv_istore_n (lv' := [(2, .int (iI 0)), (0, .ref ko), (1, .int (iI x))]) hx hb d_K_indexAt_1 rfl hl (by decide) rfl (fun ls hl => ?_)
  exact K_2 (6 - (0 : Int).toNat + 1) 0 (by first | omega | (subst_vars; omega)) (by first | rfl | (subst_vars; rw [← hres, show 6 - i.toNat = (6 - (i + 1).toNat) + 1 by omega]; simp only [ixL]; rw [if_neg (by simp_all)])) (Nat.lt_succ_self _) _ (lv_sub hl [1, 2, 0] rfl)

/-! a RECORD of the class: its texts -/
def HR (n mx : Nat) (t ti ts te tl : Nat → Int) (tc : Int) : Prop := n ≤ 400 ∧ mx ≤ 1000 ∧ (0 ≤ tc ∧ tc ≤ mx) ∧ (∀ j, 0 ≤ t j ∧ t j < 256) ∧ (∀ j, 0 ≤ ti j ∧ ti j ≤ 5) ∧ (∀ j, 0 ≤ ts j ∧ ts j ≤ 1000) ∧ (∀ j, 0 ≤ te j ∧ te j ≤ 1000) ∧ (∀ j, 0 ≤ tl j ∧ tl j ≤ 9)
def txIn (ti : Nat → Int) (tc i ix : Int) : Bool := decide (0 ≤ i ∧ i < tc ∧ ((ix = 0 ∧ ti i.toNat ≠ 5) ∨ (ix ≠ 0 ∧ ti i.toNat = ix)))
def txSt (ts te tl : Nat → Int) (tc i ix : Int) : Int := if 0 ≤ i ∧ i < tc then (if ix = 1 then min (ts i.toNat + tl i.toNat) (te i.toNat) else ts i.toNat) else 0
def txEn (te : Nat → Int) (tc i : Int) : Int := if 0 ≤ i ∧ i < tc then te i.toNat else 0
def txCnt (ti : Nat → Int) (tc ix : Int) : Nat → Int → Int → Int
  | 0, _, v => v
  | k + 1, i, v => txCnt ti tc ix k (i + 1) (if txIn ti tc i ix = true then v + 1 else v)
def txFst (ti : Nat → Int) (tc ix : Int) : Nat → Int → Int
  | 0, _ => -1
  | k + 1, i => if txIn ti tc i ix = true then i else txFst ti tc ix k (i + 1)
theorem txFst_r (ti : Nat → Int) (tc ix : Int) : ∀ (k : Nat) (i : Int), txFst ti tc ix k i = -1 ∨ (txIn ti tc (txFst ti tc ix k i) ix = true) := by
  intro k
  induction k with
  | zero => intro i; exact Or.inl rfl
  | succ k ih =>
    intro i
    simp only [txFst]
    split
    · exact Or.inr (by assumption)
    · exact ih (i + 1)
theorem txIn_r {ti : Nat → Int} {tc i ix : Int} (h : txIn ti tc i ix = true) : 0 ≤ i ∧ i < tc := by have := of_decide_eq_true h; omega
theorem yrL_r (t : Nat → Int) (n : Nat) (ht : ∀ j, 0 ≤ t j ∧ t j < 65536) : ∀ (k : Nat) (p v d : Int), ((d = 0 ∧ v = 0) ∨ (d = 1 ∧ 0 ≤ v ∧ v ≤ 9) ∨ (d = 2 ∧ 0 ≤ v ∧ v ≤ 99) ∨ (d = 3 ∧ 0 ≤ v ∧ v ≤ 999)) → -1 ≤ yrL t n k p v d ∧ yrL t n k p v d ≤ 9999 := by
  intro k
  induction k with
  | zero => intro p v d _; simp [yrL]
  | succ k ih =>
    intro p v d h
    simp only [yrL]
    split
    · rename_i q
      have := of_decide_eq_true q.2.2
      split
      · omega
      · exact ih _ _ _ (by omega)
    · exact ih _ _ _ (by omega)
theorem yearF_r {t : Nat → Int} {n : Nat} (ht : ∀ j, 0 ≤ t j ∧ t j < 65536) (x y : Int) : -1 ≤ yearF t n x y ∧ yearF t n x y ≤ 9999 := yrL_r t n ht _ _ _ _ (Or.inl ⟨rfl, rfl⟩)
def dtL (t : Nat → Int) (n : Nat) (ti ts te : Nat → Int) (tc : Int) : Nat → Int → Int
  | 0, _ => -1
  | k + 1, i => if txIn ti tc i 4 = true ∧ yearF t n (ts i.toNat) (te i.toNat) ≠ -1 then yearF t n (ts i.toNat) (te i.toNat) else dtL t n ti ts te tc k (i + 1)
def dateF (t : Nat → Int) (n : Nat) (ti ts te : Nat → Int) (tc : Int) : Int := dtL t n ti ts te tc tc.toNat 0
theorem cmpL_r {f g : Nat → Int} (hf : ∀ j, 0 ≤ f j ∧ f j < 65536) (hg : ∀ j, 0 ≤ g j ∧ g j < 65536) {d : Int} (hd : -1000000 ≤ d ∧ d ≤ 1000000) : ∀ (k i : Nat), -1000000 ≤ cmpL f g k i d ∧ cmpL f g k i d ≤ 1000000 := by
  intro k
  induction k with
  | zero => intro i; exact hd
  | succ k ih =>
    intro i
    simp only [cmpL]
    have h1 := hf i
    have h2 := hg i
    split
    · exact ih (i + 1)
    · omega
theorem cmpF_r {a b : Nat → Int} {n n2 : Nat} {x xe y ye : Int} (ha : ∀ j, 0 ≤ a j ∧ a j < 65536) (hb : ∀ j, 0 ≤ b j ∧ b j < 65536) (hx : -100000 ≤ x ∧ x ≤ 100000 ∧ -100000 ≤ xe ∧ xe ≤ 100000) (hy : -100000 ≤ y ∧ y ≤ 100000 ∧ -100000 ≤ ye ∧ ye ≤ 100000) : -2147483648 ≤ cmpF a n x xe b n2 y ye ∧ cmpF a n x xe b n2 y ye < 2147483648 := by
  unfold cmpF
  split
  · omega
  · have := cmpL_r (f := fun i => a (x.toNat + i)) (g := fun i => b (y.toNat + i)) (fun j => ha _) (fun j => hb _) (d := (xe - x) - (ye - y)) (by omega) (min (xe - x) (ye - y)).toNat 0
    omega

theorem d_H_isTextIn_0 : decode b_H_isTextIn 0 = .ok (.iload_n 1, 1) := by decide +kernel
theorem d_H_isTextIn_1 : decode b_H_isTextIn 1 = .ok (.ifCond .lt 11, 3) := by decide +kernel
theorem d_H_isTextIn_4 : decode b_H_isTextIn 4 = .ok (.iload_n 1, 1) := by decide +kernel
theorem d_H_isTextIn_5 : decode b_H_isTextIn 5 = .ok (.aload_n 0, 1) := by decide +kernel
theorem d_H_isTextIn_6 : decode b_H_isTextIn 6 = .ok (.getfield 80, 3) := by decide +kernel
theorem d_H_isTextIn_9 : decode b_H_isTextIn 9 = .ok (.if_icmp .lt 5, 3) := by decide +kernel
theorem d_H_isTextIn_12 : decode b_H_isTextIn 12 = .ok (.iconst 0, 1) := by decide +kernel
theorem d_H_isTextIn_13 : decode b_H_isTextIn 13 = .ok (.ireturn, 1) := by decide +kernel
theorem d_H_isTextIn_14 : decode b_H_isTextIn 14 = .ok (.iload_n 2, 1) := by decide +kernel
theorem d_H_isTextIn_15 : decode b_H_isTextIn 15 = .ok (.ifCond .ne 21, 3) := by decide +kernel
theorem d_H_isTextIn_18 : decode b_H_isTextIn 18 = .ok (.aload_n 0, 1) := by decide +kernel
theorem d_H_isTextIn_19 : decode b_H_isTextIn 19 = .ok (.getfield 38, 3) := by decide +kernel
theorem d_H_isTextIn_22 : decode b_H_isTextIn 22 = .ok (.iload_n 1, 1) := by decide +kernel
theorem d_H_isTextIn_23 : decode b_H_isTextIn 23 = .ok (.iaload, 1) := by decide +kernel
theorem d_H_isTextIn_24 : decode b_H_isTextIn 24 = .ok (.iconst 5, 1) := by decide +kernel
theorem d_H_isTextIn_25 : decode b_H_isTextIn 25 = .ok (.if_icmp .eq 7, 3) := by decide +kernel
theorem d_H_isTextIn_28 : decode b_H_isTextIn 28 = .ok (.iconst 1, 1) := by decide +kernel
theorem d_H_isTextIn_29 : decode b_H_isTextIn 29 = .ok (.goto 22, 3) := by decide +kernel
theorem d_H_isTextIn_32 : decode b_H_isTextIn 32 = .ok (.iconst 0, 1) := by decide +kernel
theorem d_H_isTextIn_33 : decode b_H_isTextIn 33 = .ok (.goto 18, 3) := by decide +kernel
theorem d_H_isTextIn_36 : decode b_H_isTextIn 36 = .ok (.aload_n 0, 1) := by decide +kernel
theorem d_H_isTextIn_37 : decode b_H_isTextIn 37 = .ok (.getfield 38, 3) := by decide +kernel
theorem d_H_isTextIn_40 : decode b_H_isTextIn 40 = .ok (.iload_n 1, 1) := by decide +kernel
theorem d_H_isTextIn_41 : decode b_H_isTextIn 41 = .ok (.iaload, 1) := by decide +kernel
theorem d_H_isTextIn_42 : decode b_H_isTextIn 42 = .ok (.iload_n 2, 1) := by decide +kernel
theorem d_H_isTextIn_43 : decode b_H_isTextIn 43 = .ok (.if_icmp .ne 7, 3) := by decide +kernel
theorem d_H_isTextIn_46 : decode b_H_isTextIn 46 = .ok (.iconst 1, 1) := by decide +kernel
theorem d_H_isTextIn_47 : decode b_H_isTextIn 47 = .ok (.goto 4, 3) := by decide +kernel
theorem d_H_isTextIn_50 : decode b_H_isTextIn 50 = .ok (.iconst 0, 1) := by decide +kernel
theorem d_H_isTextIn_51 : decode b_H_isTextIn 51 = .ok (.ireturn, 1) := by decide +kernel
set_option maxHeartbeats 4000000 in
set_option maxRecDepth 100000 in
theorem c_H_isTextIn (l : Launch) (dC : Nat → ClassId) (dI : Nat → Nat → Nat) (kA : Nat → ClassId) (ho : Nat) (oc : Nat) (xi : Nat) (xs : Nat) (xe : Nat) (xl : Nat) (n : Nat) (mx : Nat) (fd : Int) (tc : Int) (t : Nat → Int) (ti : Nat → Int) (ts : Nat → Int) (te : Nat → Int) (tl : Nat → Int) (i : Int) (ix : Int) (hH : HR n mx t ti ts te tl tc) (hi : -2147483648 ≤ i ∧ i < 2147483648) (hix : -2147483648 ≤ ix ∧ ix < 2147483648) : Met l y_H_isTextIn (wsy y_H_isTextIn b_H_isTextIn 3 (some .boolean)) (rmd 0 0 0) (li_Pr (dC, dI) CL (TY kA) [.ref ho, .int (iI i), .int (iI ix)] (va_P (dC, dI) CL [(ho, .inr (2, [.ref oc, .int (iI fd), .ref xi, .ref xs, .ref xe, .ref xl, .int (iI tc)])), (oc, .inl (kA 1, n, .inl (aI t))), (xi, .inl (kA 0, mx, .inl (aI ti))), (xs, .inl (kA 0, mx, .inl (aI ts))), (xe, .inl (kA 0, mx, .inl (aI te))), (xl, .inl (kA 0, mx, .inl (aI tl)))])) (k2_QcV (.int (iI (bI (txIn ti tc i ix))))) 0 0 (fun _ => False) := by
  refine li_mr (by decide) (Nat.le_of_ble_eq_true rfl) (by exact li_narZ2 _) ?_
  intro p e s m args below meth c Q C hP hK hN hG fin ls hl
  obtain ⟨hx, hb, hr, hml, hown, hts, hlocks, hin⟩ := C
  have hown : s.vm.findClass R_H = some m.cls := hown
  have hP : va_P (dC, dI) CL [(ho, .inr (2, [.ref oc, .int (iI fd), .ref xi, .ref xs, .ref xe, .ref xl, .int (iI tc)])), (oc, .inl (kA 1, n, .inl (aI t))), (xi, .inl (kA 0, mx, .inl (aI ti))), (xs, .inl (kA 0, mx, .inl (aI ts))), (xe, .inl (kA 0, mx, .inl (aI te))), (xl, .inl (kA 0, mx, .inl (aI tl)))] s.heap := hP
  have hl : lv_has ls 3 [(0, .ref ho), (1, .int (iI i)), (2, .int (iI ix))] := hl
  obtain ⟨hn, hmx, htc, ht, hti, hxs, hxe, hxl⟩ := id hH
  refine lv_iload_n hx hb d_H_isTextIn_0 rfl (lv_at hl 1 rfl) ?_
  refine li_if_lt (tgt := 12) hx hb d_H_isTextIn_1 (by decide) (by omega) (fun c1 => ?_) (fun c1 => ?_)
  · have _q := c1
    refine lv_iconst (v := iI 0) hx hb d_H_isTextIn_12 rfl ?_
    exact fin _ _ _ (by first | exact bI_t (decide_eq_true (by omega)) | exact bI_f (decide_eq_false (by omega))) d_H_isTextIn_13
  · have _q := c1
    refine lv_iload_n hx hb d_H_isTextIn_4 rfl (lv_at hl 1 rfl) ?_
    refine lv_aload_n hx hb d_H_isTextIn_5 rfl (lv_at hl 0 rfl) ?_
    refine gf_H_80 hx hb hts hown hK hP 0 rfl rfl d_H_isTextIn_6 ?_
    refine li_icmp_lt (tgt := 14) hx hb d_H_isTextIn_9 (by decide) (by omega) (by omega) (fun c2 => ?_) (fun c2 => ?_)
    · have _q := c2
      refine lv_iload_n hx hb d_H_isTextIn_14 rfl (lv_at hl 2 rfl) ?_
      refine li_if_ne (tgt := 36) hx hb d_H_isTextIn_15 (by decide) (by omega) (fun c3 => ?_) (fun c3 => ?_)
      · have _q := c3
        refine lv_aload_n hx hb d_H_isTextIn_36 rfl (lv_at hl 0 rfl) ?_
        refine gf_H_38 hx hb hts hown hK hP 0 rfl rfl d_H_isTextIn_37 ?_
        refine lv_iload_n hx hb d_H_isTextIn_40 rfl (lv_at hl 1 rfl) ?_
        refine li_iald hx hb hK hP 2 0 rfl rfl (by omega) (by omega) (by omega) d_H_isTextIn_41 ?_
        have f4 := hti i.toNat
        refine lv_iload_n hx hb d_H_isTextIn_42 rfl (lv_at hl 2 rfl) ?_
        refine li_icmp_ne (tgt := 50) hx hb d_H_isTextIn_43 (by decide) (by omega) (by omega) (fun c5 => ?_) (fun c5 => ?_)
        · have _q := c5
          refine lv_iconst (v := iI 0) hx hb d_H_isTextIn_50 rfl ?_
          exact fin _ _ _ (by first | exact bI_t (decide_eq_true (by omega)) | exact bI_f (decide_eq_false (by omega))) d_H_isTextIn_51
        · have _q := c5
          refine lv_iconst (v := iI 1) hx hb d_H_isTextIn_46 rfl ?_
          refine lv_goto (tgt := 51) hx hb d_H_isTextIn_47 (by decide) ?_
          exact fin _ _ _ (by first | exact bI_t (decide_eq_true (by omega)) | exact bI_f (decide_eq_false (by omega))) d_H_isTextIn_51
      · have _q := c3
        refine lv_aload_n hx hb d_H_isTextIn_18 rfl (lv_at hl 0 rfl) ?_
        refine gf_H_38 hx hb hts hown hK hP 0 rfl rfl d_H_isTextIn_19 ?_
        refine lv_iload_n hx hb d_H_isTextIn_22 rfl (lv_at hl 1 rfl) ?_
        refine li_iald hx hb hK hP 2 0 rfl rfl (by omega) (by omega) (by omega) d_H_isTextIn_23 ?_
        have f6 := hti i.toNat
        refine lv_iconst (v := iI 5) hx hb d_H_isTextIn_24 rfl ?_
        refine li_icmp_eq (tgt := 32) hx hb d_H_isTextIn_25 (by decide) (by omega) (by omega) (fun c7 => ?_) (fun c7 => ?_)
        · have _q := c7
          refine lv_iconst (v := iI 0) hx hb d_H_isTextIn_32 rfl ?_
          refine lv_goto (tgt := 51) hx hb d_H_isTextIn_33 (by decide) ?_
          exact fin _ _ _ (by first | exact bI_t (decide_eq_true (by omega)) | exact bI_f (decide_eq_false (by omega))) d_H_isTextIn_51
        · have _q := c7
          refine lv_iconst (v := iI 1) hx hb d_H_isTextIn_28 rfl ?_
          refine lv_goto (tgt := 51) hx hb d_H_isTextIn_29 (by decide) ?_
          exact fin _ _ _ (by first | exact bI_t (decide_eq_true (by omega)) | exact bI_f (decide_eq_false (by omega))) d_H_isTextIn_51
    · have _q := c2
      refine lv_iconst (v := iI 0) hx hb d_H_isTextIn_12 rfl ?_
      exact fin _ _ _ (by first | exact bI_t (decide_eq_true (by omega)) | exact bI_f (decide_eq_false (by omega))) d_H_isTextIn_13
theorem d_H_textStart_0 : decode b_H_textStart 0 = .ok (.iload_n 1, 1) := by decide +kernel
theorem d_H_textStart_1 : decode b_H_textStart 1 = .ok (.ifCond .lt 11, 3) := by decide +kernel
theorem d_H_textStart_4 : decode b_H_textStart 4 = .ok (.iload_n 1, 1) := by decide +kernel
theorem d_H_textStart_5 : decode b_H_textStart 5 = .ok (.aload_n 0, 1) := by decide +kernel
theorem d_H_textStart_6 : decode b_H_textStart 6 = .ok (.getfield 80, 3) := by decide +kernel
theorem d_H_textStart_9 : decode b_H_textStart 9 = .ok (.if_icmp .lt 5, 3) := by decide +kernel
theorem d_H_textStart_12 : decode b_H_textStart 12 = .ok (.iconst 0, 1) := by decide +kernel
theorem d_H_textStart_13 : decode b_H_textStart 13 = .ok (.ireturn, 1) := by decide +kernel
theorem d_H_textStart_14 : decode b_H_textStart 14 = .ok (.aload_n 0, 1) := by decide +kernel
theorem d_H_textStart_15 : decode b_H_textStart 15 = .ok (.getfield 42, 3) := by decide +kernel
theorem d_H_textStart_18 : decode b_H_textStart 18 = .ok (.iload_n 1, 1) := by decide +kernel
theorem d_H_textStart_19 : decode b_H_textStart 19 = .ok (.iaload, 1) := by decide +kernel
theorem d_H_textStart_20 : decode b_H_textStart 20 = .ok (.istore_n 3, 1) := by decide +kernel
theorem d_H_textStart_21 : decode b_H_textStart 21 = .ok (.iload_n 2, 1) := by decide +kernel
theorem d_H_textStart_22 : decode b_H_textStart 22 = .ok (.iconst 1, 1) := by decide +kernel
theorem d_H_textStart_23 : decode b_H_textStart 23 = .ok (.if_icmp .ne 23, 3) := by decide +kernel
theorem d_H_textStart_26 : decode b_H_textStart 26 = .ok (.iload_n 3, 1) := by decide +kernel
theorem d_H_textStart_27 : decode b_H_textStart 27 = .ok (.aload_n 0, 1) := by decide +kernel
theorem d_H_textStart_28 : decode b_H_textStart 28 = .ok (.getfield 48, 3) := by decide +kernel
theorem d_H_textStart_31 : decode b_H_textStart 31 = .ok (.iload_n 1, 1) := by decide +kernel
theorem d_H_textStart_32 : decode b_H_textStart 32 = .ok (.iaload, 1) := by decide +kernel
theorem d_H_textStart_33 : decode b_H_textStart 33 = .ok (.iadd, 1) := by decide +kernel
theorem d_H_textStart_34 : decode b_H_textStart 34 = .ok (.aload_n 0, 1) := by decide +kernel
theorem d_H_textStart_35 : decode b_H_textStart 35 = .ok (.getfield 45, 3) := by decide +kernel
theorem d_H_textStart_38 : decode b_H_textStart 38 = .ok (.iload_n 1, 1) := by decide +kernel
theorem d_H_textStart_39 : decode b_H_textStart 39 = .ok (.iaload, 1) := by decide +kernel
theorem d_H_textStart_40 : decode b_H_textStart 40 = .ok (.invokestatic 9, 3) := by decide +kernel
theorem d_H_textStart_43 : decode b_H_textStart 43 = .ok (.goto 4, 3) := by decide +kernel
theorem d_H_textStart_46 : decode b_H_textStart 46 = .ok (.iload_n 3, 1) := by decide +kernel
theorem d_H_textStart_47 : decode b_H_textStart 47 = .ok (.ireturn, 1) := by decide +kernel
set_option maxHeartbeats 4000000 in
set_option maxRecDepth 100000 in
theorem c_H_textStart (l : Launch) (dC : Nat → ClassId) (dI : Nat → Nat → Nat) (kA : Nat → ClassId) (ho : Nat) (oc : Nat) (xi : Nat) (xs : Nat) (xe : Nat) (xl : Nat) (n : Nat) (mx : Nat) (fd : Int) (tc : Int) (t : Nat → Int) (ti : Nat → Int) (ts : Nat → Int) (te : Nat → Int) (tl : Nat → Int) (i : Int) (ix : Int) (hH : HR n mx t ti ts te tl tc) (hi : -2147483648 ≤ i ∧ i < 2147483648) (hix : -2147483648 ≤ ix ∧ ix < 2147483648) : Met l y_H_textStart (wsy y_H_textStart b_H_textStart 4 (some .int)) (rmd 1 0 0) (li_Pr (dC, dI) CL (TY kA) [.ref ho, .int (iI i), .int (iI ix)] (va_P (dC, dI) CL [(ho, .inr (2, [.ref oc, .int (iI fd), .ref xi, .ref xs, .ref xe, .ref xl, .int (iI tc)])), (oc, .inl (kA 1, n, .inl (aI t))), (xi, .inl (kA 0, mx, .inl (aI ti))), (xs, .inl (kA 0, mx, .inl (aI ts))), (xe, .inl (kA 0, mx, .inl (aI te))), (xl, .inl (kA 0, mx, .inl (aI tl)))])) (k2_QcV (.int (iI (txSt ts te tl tc i ix)))) 0 0 (fun _ => False) := by
  refine li_mr (by decide) (Nat.le_of_ble_eq_true rfl) (by rfl) ?_
  intro p e s m args below meth c Q C hP hK hN hG fin ls hl
  obtain ⟨hx, hb, hr, hml, hown, hts, hlocks, hin⟩ := C
  have hown : s.vm.findClass R_H = some m.cls := hown
  have hP : va_P (dC, dI) CL [(ho, .inr (2, [.ref oc, .int (iI fd), .ref xi, .ref xs, .ref xe, .ref xl, .int (iI tc)])), (oc, .inl (kA 1, n, .inl (aI t))), (xi, .inl (kA 0, mx, .inl (aI ti))), (xs, .inl (kA 0, mx, .inl (aI ts))), (xe, .inl (kA 0, mx, .inl (aI te))), (xl, .inl (kA 0, mx, .inl (aI tl)))] s.heap := hP
  have hl : lv_has ls 4 [(0, .ref ho), (1, .int (iI i)), (2, .int (iI ix))] := hl
  obtain ⟨hn, hmx, htc, ht, hti, hxs, hxe, hxl⟩ := id hH
  refine lv_iload_n hx hb d_H_textStart_0 rfl (lv_at hl 1 rfl) ?_
  refine li_if_lt (tgt := 12) hx hb d_H_textStart_1 (by decide) (by omega) (fun c1 => ?_) (fun c1 => ?_)
  · have _q := c1
    refine lv_iconst (v := iI 0) hx hb d_H_textStart_12 rfl ?_
    exact fin _ _ _ (by subst_vars; unfold txSt; first | (rw [if_neg (by omega)]; done) | (rw [if_pos (by omega), if_pos (by omega)]; done) | (rw [if_pos (by omega), if_neg (by omega)]; done)) d_H_textStart_13
  · have _q := c1
    refine lv_iload_n hx hb d_H_textStart_4 rfl (lv_at hl 1 rfl) ?_
    refine lv_aload_n hx hb d_H_textStart_5 rfl (lv_at hl 0 rfl) ?_
    refine gf_H_80 hx hb hts hown hK hP 0 rfl rfl d_H_textStart_6 ?_
    refine li_icmp_lt (tgt := 14) hx hb d_H_textStart_9 (by decide) (by omega) (by omega) (fun c2 => ?_) (fun c2 => ?_)
    · have _q := c2
      refine lv_aload_n hx hb d_H_textStart_14 rfl (lv_at hl 0 rfl) ?_
      refine gf_H_42 hx hb hts hown hK hP 0 rfl rfl d_H_textStart_15 ?_
      refine lv_iload_n hx hb d_H_textStart_18 rfl (lv_at hl 1 rfl) ?_
      refine li_iald hx hb hK hP 3 0 rfl rfl (by omega) (by omega) (by omega) d_H_textStart_19 ?_
      have f3 := hxs i.toNat
      refine li_nm (fun x4 ex4 => ?_)
      refine lv_istore_n (lv' := [(3, .int (iI x4)), (0, .ref ho), (1, .int (iI i)), (2, .int (iI ix))]) hx hb d_H_textStart_20 rfl hl (by decide) rfl (fun ls hl => ?_)
      refine lv_iload_n hx hb d_H_textStart_21 rfl (lv_at hl 3 rfl) ?_
      refine lv_iconst (v := iI 1) hx hb d_H_textStart_22 rfl ?_
      refine li_icmp_ne (tgt := 46) hx hb d_H_textStart_23 (by decide) (by omega) (by omega) (fun c5 => ?_) (fun c5 => ?_)
      · have _q := c5
        refine lv_iload_n hx hb d_H_textStart_46 rfl (lv_at hl 0 rfl) ?_
        exact fin _ _ _ (by subst_vars; unfold txSt; first | (rw [if_neg (by omega)]; done) | (rw [if_pos (by omega), if_pos (by omega)]; done) | (rw [if_pos (by omega), if_neg (by omega)]; done)) d_H_textStart_47
      · have _q := c5
        refine lv_iload_n hx hb d_H_textStart_26 rfl (lv_at hl 0 rfl) ?_
        refine lv_aload_n hx hb d_H_textStart_27 rfl (lv_at hl 1 rfl) ?_
        refine gf_H_48 hx hb hts hown hK hP 0 rfl rfl d_H_textStart_28 ?_
        refine lv_iload_n hx hb d_H_textStart_31 rfl (lv_at hl 2 rfl) ?_
        refine li_iald hx hb hK hP 5 0 rfl rfl (by omega) (by omega) (by omega) d_H_textStart_32 ?_
        have f6 := hxl i.toNat
        refine li_iadd hx hb d_H_textStart_33 ?_
        refine lv_aload_n hx hb d_H_textStart_34 rfl (lv_at hl 1 rfl) ?_
        refine gf_H_45 hx hb hts hown hK hP 0 rfl rfl d_H_textStart_35 ?_
        refine lv_iload_n hx hb d_H_textStart_38 rfl (lv_at hl 2 rfl) ?_
        refine li_iald hx hb hK hP 4 0 rfl rfl (by omega) (by omega) (by omega) d_H_textStart_39 ?_
        have f7 := hxe i.toNat
        refine li_mmin hx hb (hml.trans hl.1.symm) hown (hts (Cond.methodLink R_H 9 Lib.Math.min.name) (tk2 222 rfl rfl)) (hts (Cond.static Lib.Math.min.name) (tk2 85 rfl rfl)) (hts (Cond.initialized "java/lang/Math") (tk1 8 rfl rfl)) (hts (Cond.code Lib.Math.min.name Lib.Math.min.code 2 (some .int)) (tk2 86 rfl rfl)) (by decide) (by decide) (by decide) (by decide) (by omega) (by omega) d_H_textStart_40 ?_
        refine lv_goto (tgt := 47) hx hb d_H_textStart_43 (by decide) ?_
        exact fin _ _ _ (by subst_vars; unfold txSt; first | (rw [if_neg (by omega)]; done) | (rw [if_pos (by omega), if_pos (by omega)]; done) | (rw [if_pos (by omega), if_neg (by omega)]; done)) d_H_textStart_47
    · have _q := c2
      refine lv_iconst (v := iI 0) hx hb d_H_textStart_12 rfl ?_
      exact fin _ _ _ (by subst_vars; unfold txSt; first | (rw [if_neg (by omega)]; done) | (rw [if_pos (by omega), if_pos (by omega)]; done) | (rw [if_pos (by omega), if_neg (by omega)]; done)) d_H_textStart_13
theorem d_H_textEnd_0 : decode b_H_textEnd 0 = .ok (.iload_n 1, 1) := by decide +kernel
theorem d_H_textEnd_1 : decode b_H_textEnd 1 = .ok (.ifCond .lt 20, 3) := by decide +kernel
theorem d_H_textEnd_4 : decode b_H_textEnd 4 = .ok (.iload_n 1, 1) := by decide +kernel
theorem d_H_textEnd_5 : decode b_H_textEnd 5 = .ok (.aload_n 0, 1) := by decide +kernel
theorem d_H_textEnd_6 : decode b_H_textEnd 6 = .ok (.getfield 80, 3) := by decide +kernel
theorem d_H_textEnd_9 : decode b_H_textEnd 9 = .ok (.if_icmp .ge 12, 3) := by decide +kernel
theorem d_H_textEnd_12 : decode b_H_textEnd 12 = .ok (.aload_n 0, 1) := by decide +kernel
theorem d_H_textEnd_13 : decode b_H_textEnd 13 = .ok (.getfield 45, 3) := by decide +kernel
theorem d_H_textEnd_16 : decode b_H_textEnd 16 = .ok (.iload_n 1, 1) := by decide +kernel
theorem d_H_textEnd_17 : decode b_H_textEnd 17 = .ok (.iaload, 1) := by decide +kernel
theorem d_H_textEnd_18 : decode b_H_textEnd 18 = .ok (.goto 4, 3) := by decide +kernel
theorem d_H_textEnd_21 : decode b_H_textEnd 21 = .ok (.iconst 0, 1) := by decide +kernel
theorem d_H_textEnd_22 : decode b_H_textEnd 22 = .ok (.ireturn, 1) := by decide +kernel
set_option maxHeartbeats 4000000 in
set_option maxRecDepth 100000 in
theorem c_H_textEnd (l : Launch) (dC : Nat → ClassId) (dI : Nat → Nat → Nat) (kA : Nat → ClassId) (ho : Nat) (oc : Nat) (xi : Nat) (xs : Nat) (xe : Nat) (xl : Nat) (n : Nat) (mx : Nat) (fd : Int) (tc : Int) (t : Nat → Int) (ti : Nat → Int) (ts : Nat → Int) (te : Nat → Int) (tl : Nat → Int) (i : Int) (hH : HR n mx t ti ts te tl tc) (hi : -2147483648 ≤ i ∧ i < 2147483648) : Met l y_H_textEnd (wsy y_H_textEnd b_H_textEnd 2 (some .int)) (rmd 0 0 0) (li_Pr (dC, dI) CL (TY kA) [.ref ho, .int (iI i)] (va_P (dC, dI) CL [(ho, .inr (2, [.ref oc, .int (iI fd), .ref xi, .ref xs, .ref xe, .ref xl, .int (iI tc)])), (oc, .inl (kA 1, n, .inl (aI t))), (xi, .inl (kA 0, mx, .inl (aI ti))), (xs, .inl (kA 0, mx, .inl (aI ts))), (xe, .inl (kA 0, mx, .inl (aI te))), (xl, .inl (kA 0, mx, .inl (aI tl)))])) (k2_QcV (.int (iI (txEn te tc i)))) 0 0 (fun _ => False) := by
  refine li_mr (by decide) (Nat.le_of_ble_eq_true rfl) (by rfl) ?_
  intro p e s m args below meth c Q C hP hK hN hG fin ls hl
  obtain ⟨hx, hb, hr, hml, hown, hts, hlocks, hin⟩ := C
  have hown : s.vm.findClass R_H = some m.cls := hown
  have hP : va_P (dC, dI) CL [(ho, .inr (2, [.ref oc, .int (iI fd), .ref xi, .ref xs, .ref xe, .ref xl, .int (iI tc)])), (oc, .inl (kA 1, n, .inl (aI t))), (xi, .inl (kA 0, mx, .inl (aI ti))), (xs, .inl (kA 0, mx, .inl (aI ts))), (xe, .inl (kA 0, mx, .inl (aI te))), (xl, .inl (kA 0, mx, .inl (aI tl)))] s.heap := hP
  have hl : lv_has ls 2 [(0, .ref ho), (1, .int (iI i))] := hl
  obtain ⟨hn, hmx, htc, ht, hti, hxs, hxe, hxl⟩ := id hH
  refine lv_iload_n hx hb d_H_textEnd_0 rfl (lv_at hl 1 rfl) ?_
  refine li_if_lt (tgt := 21) hx hb d_H_textEnd_1 (by decide) (by omega) (fun c1 => ?_) (fun c1 => ?_)
  · have _q := c1
    refine lv_iconst (v := iI 0) hx hb d_H_textEnd_21 rfl ?_
    exact fin _ _ _ (by unfold txEn; first | (rw [if_neg (by omega)]; done) | (rw [if_pos (by omega)]; done)) d_H_textEnd_22
  · have _q := c1
    refine lv_iload_n hx hb d_H_textEnd_4 rfl (lv_at hl 1 rfl) ?_
    refine lv_aload_n hx hb d_H_textEnd_5 rfl (lv_at hl 0 rfl) ?_
    refine gf_H_80 hx hb hts hown hK hP 0 rfl rfl d_H_textEnd_6 ?_
    refine li_icmp_ge (tgt := 21) hx hb d_H_textEnd_9 (by decide) (by omega) (by omega) (fun c2 => ?_) (fun c2 => ?_)
    · have _q := c2
      refine lv_iconst (v := iI 0) hx hb d_H_textEnd_21 rfl ?_
      exact fin _ _ _ (by unfold txEn; first | (rw [if_neg (by omega)]; done) | (rw [if_pos (by omega)]; done)) d_H_textEnd_22
    · have _q := c2
      refine lv_aload_n hx hb d_H_textEnd_12 rfl (lv_at hl 0 rfl) ?_
      refine gf_H_45 hx hb hts hown hK hP 0 rfl rfl d_H_textEnd_13 ?_
      refine lv_iload_n hx hb d_H_textEnd_16 rfl (lv_at hl 1 rfl) ?_
      refine li_iald hx hb hK hP 4 0 rfl rfl (by omega) (by omega) (by omega) d_H_textEnd_17 ?_
      have f3 := hxe i.toNat
      refine lv_goto (tgt := 22) hx hb d_H_textEnd_18 (by decide) ?_
      exact fin _ _ _ (by unfold txEn; first | (rw [if_neg (by omega)]; done) | (rw [if_pos (by omega)]; done)) d_H_textEnd_22
theorem d_H_textsIn_0 : decode b_H_textsIn 0 = .ok (.iconst 0, 1) := by decide +kernel
theorem d_H_textsIn_1 : decode b_H_textsIn 1 = .ok (.istore_n 2, 1) := by decide +kernel
theorem d_H_textsIn_2 : decode b_H_textsIn 2 = .ok (.iconst 0, 1) := by decide +kernel
theorem d_H_textsIn_3 : decode b_H_textsIn 3 = .ok (.istore_n 3, 1) := by decide +kernel
theorem d_H_textsIn_4 : decode b_H_textsIn 4 = .ok (.iload_n 3, 1) := by decide +kernel
theorem d_H_textsIn_5 : decode b_H_textsIn 5 = .ok (.aload_n 0, 1) := by decide +kernel
theorem d_H_textsIn_6 : decode b_H_textsIn 6 = .ok (.getfield 80, 3) := by decide +kernel
theorem d_H_textsIn_9 : decode b_H_textsIn 9 = .ok (.if_icmp .ge 21, 3) := by decide +kernel
theorem d_H_textsIn_12 : decode b_H_textsIn 12 = .ok (.aload_n 0, 1) := by decide +kernel
theorem d_H_textsIn_13 : decode b_H_textsIn 13 = .ok (.iload_n 3, 1) := by decide +kernel
theorem d_H_textsIn_14 : decode b_H_textsIn 14 = .ok (.iload_n 1, 1) := by decide +kernel
theorem d_H_textsIn_15 : decode b_H_textsIn 15 = .ok (.invokevirtual 83, 3) := by decide +kernel
theorem d_H_textsIn_18 : decode b_H_textsIn 18 = .ok (.ifCond .eq 6, 3) := by decide +kernel
theorem d_H_textsIn_21 : decode b_H_textsIn 21 = .ok (.iinc 2 1, 3) := by decide +kernel
theorem d_H_textsIn_24 : decode b_H_textsIn 24 = .ok (.iinc 3 1, 3) := by decide +kernel
theorem d_H_textsIn_27 : decode b_H_textsIn 27 = .ok (.goto (-23), 3) := by decide +kernel
theorem d_H_textsIn_30 : decode b_H_textsIn 30 = .ok (.iload_n 2, 1) := by decide +kernel
theorem d_H_textsIn_31 : decode b_H_textsIn 31 = .ok (.ireturn, 1) := by decide +kernel
set_option maxHeartbeats 4000000 in
set_option maxRecDepth 100000 in
theorem c_H_textsIn (l : Launch) (dC : Nat → ClassId) (dI : Nat → Nat → Nat) (kA : Nat → ClassId) (ho : Nat) (oc : Nat) (xi : Nat) (xs : Nat) (xe : Nat) (xl : Nat) (n : Nat) (mx : Nat) (fd : Int) (tc : Int) (t : Nat → Int) (ti : Nat → Int) (ts : Nat → Int) (te : Nat → Int) (tl : Nat → Int) (ix : Int) (hH : HR n mx t ti ts te tl tc) (hix : -2147483648 ≤ ix ∧ ix < 2147483648) : Met l y_H_textsIn (wsy y_H_textsIn b_H_textsIn 4 (some .int)) (rmd 1 0 0) (li_Pr (dC, dI) CL (TY kA) [.ref ho, .int (iI ix)] (va_P (dC, dI) CL [(ho, .inr (2, [.ref oc, .int (iI fd), .ref xi, .ref xs, .ref xe, .ref xl, .int (iI tc)])), (oc, .inl (kA 1, n, .inl (aI t))), (xi, .inl (kA 0, mx, .inl (aI ti))), (xs, .inl (kA 0, mx, .inl (aI ts))), (xe, .inl (kA 0, mx, .inl (aI te))), (xl, .inl (kA 0, mx, .inl (aI tl)))])) (k2_QcV (.int (iI (txCnt ti tc ix tc.toNat 0 0)))) 0 0 (fun _ => False) := by
  refine li_mr (by decide) (Nat.le_of_ble_eq_true rfl) (by rfl) ?_
  intro p e s m args below meth c Q C hP hK hN hG fin ls hl
  obtain ⟨hx, hb, hr, hml, hown, hts, hlocks, hin⟩ := C
  have hown : s.vm.findClass R_H = some m.cls := hown
  have hP : va_P (dC, dI) CL [(ho, .inr (2, [.ref oc, .int (iI fd), .ref xi, .ref xs, .ref xe, .ref xl, .int (iI tc)])), (oc, .inl (kA 1, n, .inl (aI t))), (xi, .inl (kA 0, mx, .inl (aI ti))), (xs, .inl (kA 0, mx, .inl (aI ts))), (xe, .inl (kA 0, mx, .inl (aI te))), (xl, .inl (kA 0, mx, .inl (aI tl)))] s.heap := hP
  have hl : lv_has ls 4 [(0, .ref ho), (1, .int (iI ix))] := hl
  obtain ⟨hn, hmx, htc, ht, hti, hxs, hxe, hxl⟩ := id hH
  have K_4 : ∀ (nn : Nat) (v : Int) (i : Int), (0 ≤ i ∧ i ≤ tc) → (txCnt ti tc ix (tc - i).toNat i v = txCnt ti tc ix tc.toNat 0 0) → ((tc - i).toNat < nn) → ∀ ls : Array Slot, lv_has ls 4 [(0, .ref ho), (1, .int (iI ix)), (2, .int (iI v)), (3, .int (iI i))] → W p l e (rmd 1 0 0) s m args below meth c s.heap [] 0 0 Q (F0 m 4 ls []) := by
    intro nn
    induction nn with
    | zero => intro v i hi hres hm; exact absurd hm (Nat.not_lt_zero _)
    | succ nn ih =>
      intro v i hi hres hm ls hl
      refine lv_iload_n hx hb d_H_textsIn_4 rfl (lv_at hl 3 rfl) ?_
      refine lv_aload_n hx hb d_H_textsIn_5 rfl (lv_at hl 0 rfl) ?_
      refine gf_H_80 hx hb hts hown hK hP 0 rfl rfl d_H_textsIn_6 ?_
      refine li_icmp_ge (tgt := 30) hx hb d_H_textsIn_9 (by decide) (by omega) (by omega) (fun c1 => ?_) (fun c1 => ?_)
      · have _q := c1
        refine lv_iload_n hx hb d_H_textsIn_30 rfl (lv_at hl 2 rfl) ?_
        exact fin _ _ _ (by rw [← hres, show (tc - i).toNat = 0 by omega]; rfl) d_H_textsIn_31
      · have _q := c1
        refine lv_aload_n hx hb d_H_textsIn_12 rfl (lv_at hl 0 rfl) ?_
        refine lv_iload_n hx hb d_H_textsIn_13 rfl (lv_at hl 3 rfl) ?_
        refine lv_iload_n hx hb d_H_textsIn_14 rfl (lv_at hl 1 rfl) ?_
        refine li_callr ((va_runV (As := [.int (iI i), .int (iI ix)]) (rest := []) ⟨hx, hb, hml, hown, hts⟩ (c_H_isTextIn l dC dI kA ho oc xi xs xe xl n mx fd tc t ti ts te tl i ix (by omega) (by omega) (by omega)) (cw_H_83 hts rfl rfl ⟨by decide, by decide⟩) (li_preV (va_recv hK hP (ci := 2) (q0 := 0) rfl rfl) (hP.sub [0, 1, 2, 3, 4, 5] rfl) hK hN hG.rd) rfl rfl hl.1 rfl (lv_room (Nat.le_of_ble_eq_true rfl)) d_H_textsIn_15 ⟨by decide, by decide⟩).run) ?_
        refine li_bz (tgt := 24) hx hb d_H_textsIn_18 (by decide) (fun c2 => ?_) (fun c2 => ?_)
        · have _q := c2
          obtain ⟨x3, ex3⟩ : ∃ y : Int, y = i + 1 := ⟨_, rfl⟩
          refine lv_iinc (v := iI x3) (lv' := [(3, .int (iI x3)), (0, .ref ho), (1, .int (iI ix)), (2, .int (iI v))]) hx hb d_H_textsIn_24 hl (k := 3) rfl (by rw [ex3]; exact iI_add _ _) (by decide) rfl (fun ls hl => ?_)
          refine lv_goto (tgt := 4) hx hb d_H_textsIn_27 (by decide) ?_
          exact ih v x3 (by omega) (by first | (rw [show tc - 0 = tc by omega]; done) | (subst_vars; rw [← hres, show (tc - i).toNat = (tc - (i + 1)).toNat + 1 by omega]; simp only [txCnt]; simp_all)) (by omega) _ (lv_sub hl [1, 2, 3, 0] rfl)
        · have _q := c2
          obtain ⟨x4, ex4⟩ : ∃ y : Int, y = v + 1 := ⟨_, rfl⟩
          refine lv_iinc (v := iI x4) (lv' := [(2, .int (iI x4)), (0, .ref ho), (1, .int (iI ix)), (3, .int (iI i))]) hx hb d_H_textsIn_21 hl (k := 2) rfl (by rw [ex4]; exact iI_add _ _) (by decide) rfl (fun ls hl => ?_)
          obtain ⟨x5, ex5⟩ : ∃ y : Int, y = i + 1 := ⟨_, rfl⟩
          refine lv_iinc (v := iI x5) (lv' := [(3, .int (iI x5)), (2, .int (iI x4)), (0, .ref ho), (1, .int (iI ix))]) hx hb d_H_textsIn_24 hl (k := 3) rfl (by rw [ex5]; exact iI_add _ _) (by decide) rfl (fun ls hl => ?_)
          refine lv_goto (tgt := 4) hx hb d_H_textsIn_27 (by decide) ?_
          exact ih x4 x5 (by omega) (by first | (rw [show tc - 0 = tc by omega]; done) | (subst_vars; rw [← hres, show (tc - i).toNat = (tc - (i + 1)).toNat + 1 by omega]; simp only [txCnt]; simp_all)) (by omega) _ (lv_sub hl [2, 3, 1, 0] rfl)
  refine lv_iconst (v := iI 0) hx hb d_H_textsIn_0 rfl ?_
  refine lv_istore_n (lv' := [(2, .int (iI 0)), (0, .ref ho), (1, .int (iI ix))]) hx hb d_H_textsIn_1 rfl hl (by decide) rfl (fun ls hl => ?_)
  refine lv_iconst (v := iI 0) hx hb d_H_textsIn_2 rfl ?_
  refine lv_istore_n (lv' := [(3, .int (iI 0)), (2, .int (iI 0)), (0, .ref ho), (1, .int (iI ix))]) hx hb d_H_textsIn_3 rfl hl (by decide) rfl (fun ls hl => ?_)
  exact K_4 ((tc - 0).toNat + 1) 0 0 (by omega) (by first | (rw [show tc - 0 = tc by omega]; done) | (subst_vars; rw [← hres, show (tc - i).toNat = (tc - (i + 1)).toNat + 1 by omega]; simp only [txCnt]; simp_all)) (Nat.lt_succ_self _) _ (lv_sub hl [2, 3, 1, 0] rfl)
theorem d_H_firstTextIn_0 : decode b_H_firstTextIn 0 = .ok (.iconst 0, 1) := by decide +kernel
theorem d_H_firstTextIn_1 : decode b_H_firstTextIn 1 = .ok (.istore_n 2, 1) := by decide +kernel
theorem d_H_firstTextIn_2 : decode b_H_firstTextIn 2 = .ok (.iload_n 2, 1) := by decide +kernel
theorem d_H_firstTextIn_3 : decode b_H_firstTextIn 3 = .ok (.aload_n 0, 1) := by decide +kernel
theorem d_H_firstTextIn_4 : decode b_H_firstTextIn 4 = .ok (.getfield 80, 3) := by decide +kernel
theorem d_H_firstTextIn_7 : decode b_H_firstTextIn 7 = .ok (.if_icmp .ge 20, 3) := by decide +kernel
theorem d_H_firstTextIn_10 : decode b_H_firstTextIn 10 = .ok (.aload_n 0, 1) := by decide +kernel
theorem d_H_firstTextIn_11 : decode b_H_firstTextIn 11 = .ok (.iload_n 2, 1) := by decide +kernel
theorem d_H_firstTextIn_12 : decode b_H_firstTextIn 12 = .ok (.iload_n 1, 1) := by decide +kernel
theorem d_H_firstTextIn_13 : decode b_H_firstTextIn 13 = .ok (.invokevirtual 83, 3) := by decide +kernel
theorem d_H_firstTextIn_16 : decode b_H_firstTextIn 16 = .ok (.ifCond .eq 5, 3) := by decide +kernel
theorem d_H_firstTextIn_19 : decode b_H_firstTextIn 19 = .ok (.iload_n 2, 1) := by decide +kernel
theorem d_H_firstTextIn_20 : decode b_H_firstTextIn 20 = .ok (.ireturn, 1) := by decide +kernel
theorem d_H_firstTextIn_21 : decode b_H_firstTextIn 21 = .ok (.iinc 2 1, 3) := by decide +kernel
theorem d_H_firstTextIn_24 : decode b_H_firstTextIn 24 = .ok (.goto (-22), 3) := by decide +kernel
theorem d_H_firstTextIn_27 : decode b_H_firstTextIn 27 = .ok (.iconst (-1), 1) := by decide +kernel
theorem d_H_firstTextIn_28 : decode b_H_firstTextIn 28 = .ok (.ireturn, 1) := by decide +kernel
set_option maxHeartbeats 4000000 in
set_option maxRecDepth 100000 in
theorem c_H_firstTextIn (l : Launch) (dC : Nat → ClassId) (dI : Nat → Nat → Nat) (kA : Nat → ClassId) (ho : Nat) (oc : Nat) (xi : Nat) (xs : Nat) (xe : Nat) (xl : Nat) (n : Nat) (mx : Nat) (fd : Int) (tc : Int) (t : Nat → Int) (ti : Nat → Int) (ts : Nat → Int) (te : Nat → Int) (tl : Nat → Int) (ix : Int) (hH : HR n mx t ti ts te tl tc) (hix : -2147483648 ≤ ix ∧ ix < 2147483648) : Met l y_H_firstTextIn (wsy y_H_firstTextIn b_H_firstTextIn 3 (some .int)) (rmd 1 0 0) (li_Pr (dC, dI) CL (TY kA) [.ref ho, .int (iI ix)] (va_P (dC, dI) CL [(ho, .inr (2, [.ref oc, .int (iI fd), .ref xi, .ref xs, .ref xe, .ref xl, .int (iI tc)])), (oc, .inl (kA 1, n, .inl (aI t))), (xi, .inl (kA 0, mx, .inl (aI ti))), (xs, .inl (kA 0, mx, .inl (aI ts))), (xe, .inl (kA 0, mx, .inl (aI te))), (xl, .inl (kA 0, mx, .inl (aI tl)))])) (k2_QcV (.int (iI (txFst ti tc ix tc.toNat 0)))) 0 0 (fun _ => False) := by
  refine li_mr (by decide) (Nat.le_of_ble_eq_true rfl) (by rfl) ?_
  intro p e s m args below meth c Q C hP hK hN hG fin ls hl
  obtain ⟨hx, hb, hr, hml, hown, hts, hlocks, hin⟩ := C
  have hown : s.vm.findClass R_H = some m.cls := hown
  have hP : va_P (dC, dI) CL [(ho, .inr (2, [.ref oc, .int (iI fd), .ref xi, .ref xs, .ref xe, .ref xl, .int (iI tc)])), (oc, .inl (kA 1, n, .inl (aI t))), (xi, .inl (kA 0, mx, .inl (aI ti))), (xs, .inl (kA 0, mx, .inl (aI ts))), (xe, .inl (kA 0, mx, .inl (aI te))), (xl, .inl (kA 0, mx, .inl (aI tl)))] s.heap := hP
  have hl : lv_has ls 3 [(0, .ref ho), (1, .int (iI ix))] := hl
  obtain ⟨hn, hmx, htc, ht, hti, hxs, hxe, hxl⟩ := id hH
  have K_2 : ∀ (nn : Nat) (i : Int), (0 ≤ i ∧ i ≤ tc) → (txFst ti tc ix (tc - i).toNat i = txFst ti tc ix tc.toNat 0) → ((tc - i).toNat < nn) → ∀ ls : Array Slot, lv_has ls 3 [(0, .ref ho), (1, .int (iI ix)), (2, .int (iI i))] → W p l e (rmd 1 0 0) s m args below meth c s.heap [] 0 0 Q (F0 m 2 ls []) := by
    intro nn
    induction nn with
    | zero => intro i hi hres hm; exact absurd hm (Nat.not_lt_zero _)
    | succ nn ih =>
      intro i hi hres hm ls hl
      refine lv_iload_n hx hb d_H_firstTextIn_2 rfl (lv_at hl 2 rfl) ?_
      refine lv_aload_n hx hb d_H_firstTextIn_3 rfl (lv_at hl 0 rfl) ?_
      refine gf_H_80 hx hb hts hown hK hP 0 rfl rfl d_H_firstTextIn_4 ?_
      refine li_icmp_ge (tgt := 27) hx hb d_H_firstTextIn_7 (by decide) (by omega) (by omega) (fun c1 => ?_) (fun c1 => ?_)
      · have _q := c1
        refine lv_iconst (v := iI (-1)) hx hb d_H_firstTextIn_27 rfl ?_
        exact fin _ _ _ (by first | (rw [← hres, show (tc - i).toNat = 0 by omega]; rfl) | (rw [← hres, show (tc - i).toNat = (tc - (i + 1)).toNat + 1 by omega]; simp only [txFst]; simp_all)) d_H_firstTextIn_28
      · have _q := c1
        refine lv_aload_n hx hb d_H_firstTextIn_10 rfl (lv_at hl 0 rfl) ?_
        refine lv_iload_n hx hb d_H_firstTextIn_11 rfl (lv_at hl 2 rfl) ?_
        refine lv_iload_n hx hb d_H_firstTextIn_12 rfl (lv_at hl 1 rfl) ?_
        refine li_callr ((va_runV (As := [.int (iI i), .int (iI ix)]) (rest := []) ⟨hx, hb, hml, hown, hts⟩ (c_H_isTextIn l dC dI kA ho oc xi xs xe xl n mx fd tc t ti ts te tl i ix (by omega) (by omega) (by omega)) (cw_H_83 hts rfl rfl ⟨by decide, by decide⟩) (li_preV (va_recv hK hP (ci := 2) (q0 := 0) rfl rfl) (hP.sub [0, 1, 2, 3, 4, 5] rfl) hK hN hG.rd) rfl rfl hl.1 rfl (lv_room (Nat.le_of_ble_eq_true rfl)) d_H_firstTextIn_13 ⟨by decide, by decide⟩).run) ?_
        refine li_bz (tgt := 21) hx hb d_H_firstTextIn_16 (by decide) (fun c2 => ?_) (fun c2 => ?_)
        · have _q := c2
          obtain ⟨x3, ex3⟩ : ∃ y : Int, y = i + 1 := ⟨_, rfl⟩
          refine lv_iinc (v := iI x3) (lv' := [(2, .int (iI x3)), (0, .ref ho), (1, .int (iI ix))]) hx hb d_H_firstTextIn_21 hl (k := 2) rfl (by rw [ex3]; exact iI_add _ _) (by decide) rfl (fun ls hl => ?_)
          refine lv_goto (tgt := 2) hx hb d_H_firstTextIn_24 (by decide) ?_
          exact ih x3 (by omega) (by first | (rw [show tc - 0 = tc by omega]; done) | (subst_vars; rw [← hres, show (tc - i).toNat = (tc - (i + 1)).toNat + 1 by omega]; simp only [txFst]; simp_all)) (by omega) _ (lv_sub hl [1, 2, 0] rfl)
        · have _q := c2
          refine lv_iload_n hx hb d_H_firstTextIn_19 rfl (lv_at hl 2 rfl) ?_
          exact fin _ _ _ (by first | (rw [← hres, show (tc - i).toNat = 0 by omega]; rfl) | (rw [← hres, show (tc - i).toNat = (tc - (i + 1)).toNat + 1 by omega]; simp only [txFst]; simp_all)) d_H_firstTextIn_20
  refine lv_iconst (v := iI 0) hx hb d_H_firstTextIn_0 rfl ?_
  refine lv_istore_n (lv' := [(2, .int (iI 0)), (0, .ref ho), (1, .int (iI ix))]) hx hb d_H_firstTextIn_1 rfl hl (by decide) rfl (fun ls hl => ?_)
  exact K_2 ((tc - 0).toNat + 1) 0 (by omega) (by first | (rw [show tc - 0 = tc by omega]; done) | (subst_vars; rw [← hres, show (tc - i).toNat = (tc - (i + 1)).toNat + 1 by omega]; simp only [txFst]; simp_all)) (Nat.lt_succ_self _) _ (lv_sub hl [1, 2, 0] rfl)
theorem d_H_date_0 : decode b_H_date 0 = .ok (.iconst 0, 1) := by decide +kernel
theorem d_H_date_1 : decode b_H_date 1 = .ok (.istore_n 1, 1) := by decide +kernel
theorem d_H_date_2 : decode b_H_date 2 = .ok (.iload_n 1, 1) := by decide +kernel
theorem d_H_date_3 : decode b_H_date 3 = .ok (.aload_n 0, 1) := by decide +kernel
theorem d_H_date_4 : decode b_H_date 4 = .ok (.getfield 80, 3) := by decide +kernel
theorem d_H_date_7 : decode b_H_date 7 = .ok (.if_icmp .ge 49, 3) := by decide +kernel
theorem d_H_date_10 : decode b_H_date 10 = .ok (.aload_n 0, 1) := by decide +kernel
theorem d_H_date_11 : decode b_H_date 11 = .ok (.iload_n 1, 1) := by decide +kernel
theorem d_H_date_12 : decode b_H_date 12 = .ok (.iconst 4, 1) := by decide +kernel
theorem d_H_date_13 : decode b_H_date 13 = .ok (.invokevirtual 83, 3) := by decide +kernel
theorem d_H_date_16 : decode b_H_date 16 = .ok (.ifCond .eq 25, 3) := by decide +kernel
theorem d_H_date_19 : decode b_H_date 19 = .ok (.aload_n 0, 1) := by decide +kernel
theorem d_H_date_20 : decode b_H_date 20 = .ok (.getfield 18, 3) := by decide +kernel
theorem d_H_date_23 : decode b_H_date 23 = .ok (.aload_n 0, 1) := by decide +kernel
theorem d_H_date_24 : decode b_H_date 24 = .ok (.getfield 42, 3) := by decide +kernel
theorem d_H_date_27 : decode b_H_date 27 = .ok (.iload_n 1, 1) := by decide +kernel
theorem d_H_date_28 : decode b_H_date 28 = .ok (.iaload, 1) := by decide +kernel
theorem d_H_date_29 : decode b_H_date 29 = .ok (.aload_n 0, 1) := by decide +kernel
theorem d_H_date_30 : decode b_H_date 30 = .ok (.getfield 45, 3) := by decide +kernel
theorem d_H_date_33 : decode b_H_date 33 = .ok (.iload_n 1, 1) := by decide +kernel
theorem d_H_date_34 : decode b_H_date 34 = .ok (.iaload, 1) := by decide +kernel
theorem d_H_date_35 : decode b_H_date 35 = .ok (.invokestatic 87, 3) := by decide +kernel
theorem d_H_date_38 : decode b_H_date 38 = .ok (.goto 4, 3) := by decide +kernel
theorem d_H_date_41 : decode b_H_date 41 = .ok (.iconst (-1), 1) := by decide +kernel
theorem d_H_date_42 : decode b_H_date 42 = .ok (.istore_n 2, 1) := by decide +kernel
theorem d_H_date_43 : decode b_H_date 43 = .ok (.iload_n 2, 1) := by decide +kernel
theorem d_H_date_44 : decode b_H_date 44 = .ok (.iconst (-1), 1) := by decide +kernel
theorem d_H_date_45 : decode b_H_date 45 = .ok (.if_icmp .eq 5, 3) := by decide +kernel
theorem d_H_date_48 : decode b_H_date 48 = .ok (.iload_n 2, 1) := by decide +kernel
theorem d_H_date_49 : decode b_H_date 49 = .ok (.ireturn, 1) := by decide +kernel
theorem d_H_date_50 : decode b_H_date 50 = .ok (.iinc 1 1, 3) := by decide +kernel
theorem d_H_date_53 : decode b_H_date 53 = .ok (.goto (-51), 3) := by decide +kernel
theorem d_H_date_56 : decode b_H_date 56 = .ok (.iconst (-1), 1) := by decide +kernel
theorem d_H_date_57 : decode b_H_date 57 = .ok (.ireturn, 1) := by decide +kernel
set_option maxHeartbeats 4000000 in
set_option maxRecDepth 100000 in
theorem c_H_date (l : Launch) (dC : Nat → ClassId) (dI : Nat → Nat → Nat) (kA : Nat → ClassId) (ho : Nat) (oc : Nat) (xi : Nat) (xs : Nat) (xe : Nat) (xl : Nat) (n : Nat) (mx : Nat) (fd : Int) (tc : Int) (t : Nat → Int) (ti : Nat → Int) (ts : Nat → Int) (te : Nat → Int) (tl : Nat → Int) (hH : HR n mx t ti ts te tl tc) : Met l y_H_date (wsy y_H_date b_H_date 3 (some .int)) (rmd 2 0 0) (li_Pr (dC, dI) CL (TY kA) [.ref ho] (va_P (dC, dI) CL [(ho, .inr (2, [.ref oc, .int (iI fd), .ref xi, .ref xs, .ref xe, .ref xl, .int (iI tc)])), (oc, .inl (kA 1, n, .inl (aI t))), (xi, .inl (kA 0, mx, .inl (aI ti))), (xs, .inl (kA 0, mx, .inl (aI ts))), (xe, .inl (kA 0, mx, .inl (aI te))), (xl, .inl (kA 0, mx, .inl (aI tl)))])) (k2_QcV (.int (iI (dateF t n ti ts te tc)))) 0 0 (fun _ => False) := by
  refine li_mr (by decide) (Nat.le_of_ble_eq_true rfl) (by rfl) ?_
  intro p e s m args below meth c Q C hP hK hN hG fin ls hl
  obtain ⟨hx, hb, hr, hml, hown, hts, hlocks, hin⟩ := C
  have hown : s.vm.findClass R_H = some m.cls := hown
  have hP : va_P (dC, dI) CL [(ho, .inr (2, [.ref oc, .int (iI fd), .ref xi, .ref xs, .ref xe, .ref xl, .int (iI tc)])), (oc, .inl (kA 1, n, .inl (aI t))), (xi, .inl (kA 0, mx, .inl (aI ti))), (xs, .inl (kA 0, mx, .inl (aI ts))), (xe, .inl (kA 0, mx, .inl (aI te))), (xl, .inl (kA 0, mx, .inl (aI tl)))] s.heap := hP
  have hl : lv_has ls 3 [(0, .ref ho)] := hl
  obtain ⟨hn, hmx, htc, ht, hti, hxs, hxe, hxl⟩ := id hH
  have K_2 : ∀ (nn : Nat) (i : Int), (0 ≤ i ∧ i ≤ tc) → (dtL t n ti ts te tc (tc - i).toNat i = dateF t n ti ts te tc) → ((tc - i).toNat < nn) → ∀ ls : Array Slot, lv_has ls 3 [(0, .ref ho), (1, .int (iI i))] → W p l e (rmd 2 0 0) s m args below meth c s.heap [] 0 0 Q (F0 m 2 ls []) := by
    intro nn
    induction nn with
    | zero => intro i hi hres hm; exact absurd hm (Nat.not_lt_zero _)
    | succ nn ih =>
      intro i hi hres hm ls hl
      refine lv_iload_n hx hb d_H_date_2 rfl (lv_at hl 1 rfl) ?_
      refine lv_aload_n hx hb d_H_date_3 rfl (lv_at hl 0 rfl) ?_
      refine gf_H_80 hx hb hts hown hK hP 0 rfl rfl d_H_date_4 ?_
      refine li_icmp_ge (tgt := 56) hx hb d_H_date_7 (by decide) (by first | omega | (have := yearF_r (t := t) (n := n) (fun j => by have := ht j; omega) (ts i.toNat) (te i.toNat); omega)) (by first | omega | (have := yearF_r (t := t) (n := n) (fun j => by have := ht j; omega) (ts i.toNat) (te i.toNat); omega)) (fun c1 => ?_) (fun c1 => ?_)
      · have _q := c1
        refine lv_iconst (v := iI (-1)) hx hb d_H_date_56 rfl ?_
        exact fin _ _ _ (by first | (rw [← hres, show (tc - i).toNat = 0 by omega]; rfl) | (rw [← hres, show (tc - i).toNat = (tc - (i + 1)).toNat + 1 by omega]; simp only [dtL]; simp_all)) d_H_date_57
      · have _q := c1
        refine lv_aload_n hx hb d_H_date_10 rfl (lv_at hl 0 rfl) ?_
        refine lv_iload_n hx hb d_H_date_11 rfl (lv_at hl 1 rfl) ?_
        refine lv_iconst (v := iI 4) hx hb d_H_date_12 rfl ?_
        refine li_callr ((va_runV (As := [.int (iI i), .int (iI 4)]) (rest := []) ⟨hx, hb, hml, hown, hts⟩ (c_H_isTextIn l dC dI kA ho oc xi xs xe xl n mx fd tc t ti ts te tl i 4 (by omega) (by omega) (by omega)) (cw_H_83 hts rfl rfl ⟨by decide, by decide⟩) (li_preV (va_recv hK hP (ci := 2) (q0 := 0) rfl rfl) (hP.sub [0, 1, 2, 3, 4, 5] rfl) hK hN hG.rd) rfl rfl hl.1 rfl (lv_room (Nat.le_of_ble_eq_true rfl)) d_H_date_13 ⟨by decide, by decide⟩).run) ?_
        refine li_bz (tgt := 41) hx hb d_H_date_16 (by decide) (fun c2 => ?_) (fun c2 => ?_)
        · have _q := c2
          refine lv_iconst (v := iI (-1)) hx hb d_H_date_41 rfl ?_
          refine lv_istore_n (lv' := [(2, .int (iI (-1))), (0, .ref ho), (1, .int (iI i))]) hx hb d_H_date_42 rfl hl (by decide) rfl (fun ls hl => ?_)
          refine lv_iload_n hx hb d_H_date_43 rfl (lv_at hl 0 rfl) ?_
          refine lv_iconst (v := iI (-1)) hx hb d_H_date_44 rfl ?_
          refine li_icmp_eq (tgt := 50) hx hb d_H_date_45 (by decide) (by first | omega | (have := yearF_r (t := t) (n := n) (fun j => by have := ht j; omega) (ts i.toNat) (te i.toNat); omega)) (by first | omega | (have := yearF_r (t := t) (n := n) (fun j => by have := ht j; omega) (ts i.toNat) (te i.toNat); omega)) (fun c3 => ?_) (fun c3 => ?_)
          · have _q := c3
            obtain ⟨x4, ex4⟩ : ∃ y : Int, y = i + 1 := ⟨_, rfl⟩
            refine lv_iinc (v := iI x4) (lv' := [(1, .int (iI x4)), (2, .int (iI (-1))), (0, .ref ho)]) hx hb d_H_date_50 hl (k := 2) rfl (by rw [ex4]; exact iI_add _ _) (by decide) rfl (fun ls hl => ?_)
            refine lv_goto (tgt := 2) hx hb d_H_date_53 (by decide) ?_
            exact ih x4 (by omega) (by first | (rw [show tc - 0 = tc by omega]; rfl) | (subst_vars; rw [← hres, show (tc - i).toNat = (tc - (i + 1)).toNat + 1 by omega]; simp only [dtL]; simp_all)) (by omega) _ (lv_sub hl [2, 0] rfl)
          · have _q := c3
            refine lv_iload_n hx hb d_H_date_48 rfl (lv_at hl 0 rfl) ?_
            exact fin _ _ _ (by first | (rw [← hres, show (tc - i).toNat = 0 by omega]; rfl) | (rw [← hres, show (tc - i).toNat = (tc - (i + 1)).toNat + 1 by omega]; simp only [dtL]; simp_all)) d_H_date_49
        · have _q := c2
          refine lv_aload_n hx hb d_H_date_19 rfl (lv_at hl 0 rfl) ?_
          refine gf_H_18 hx hb hts hown hK hP 0 rfl rfl d_H_date_20 ?_
          refine lv_aload_n hx hb d_H_date_23 rfl (lv_at hl 0 rfl) ?_
          refine gf_H_42 hx hb hts hown hK hP 0 rfl rfl d_H_date_24 ?_
          refine lv_iload_n hx hb d_H_date_27 rfl (lv_at hl 1 rfl) ?_
          refine li_iald hx hb hK hP 3 0 rfl rfl (by omega) (by omega) (by omega) d_H_date_28 ?_
          have f5 := hxs i.toNat
          refine lv_aload_n hx hb d_H_date_29 rfl (lv_at hl 0 rfl) ?_
          refine gf_H_45 hx hb hts hown hK hP 0 rfl rfl d_H_date_30 ?_
          refine lv_iload_n hx hb d_H_date_33 rfl (lv_at hl 1 rfl) ?_
          refine li_iald hx hb hK hP 4 0 rfl rfl (by omega) (by omega) (by omega) d_H_date_34 ?_
          have f6 := hxe i.toNat
          refine li_callr ((va_runSN (As := [.ref oc, .int (iI (ts i.toNat)), .int (iI (te i.toNat))]) (rest := []) ⟨hx, hb, hml, hown, hts⟩ (c_Q_yearIn l dC dI kA oc n t (ts i.toNat) (te i.toNat) (by omega) (by intro j; have := ht j; omega) (by omega) (by omega)) (cw_H_87 hts hN rfl rfl ⟨by decide, by decide⟩) (li_preS (hP.sub [1] rfl) hK hN hG.rd) rfl rfl hl.1 rfl (lv_room (Nat.le_of_ble_eq_true rfl)) d_H_date_35 ⟨by decide, by decide⟩).run) ?_
          refine lv_goto (tgt := 42) hx hb d_H_date_38 (by decide) ?_
          refine li_nm (fun x7 ex7 => ?_)
          refine lv_istore_n (lv' := [(2, .int (iI x7)), (0, .ref ho), (1, .int (iI i))]) hx hb d_H_date_42 rfl hl (by decide) rfl (fun ls hl => ?_)
          refine lv_iload_n hx hb d_H_date_43 rfl (lv_at hl 0 rfl) ?_
          refine lv_iconst (v := iI (-1)) hx hb d_H_date_44 rfl ?_
          refine li_icmp_eq (tgt := 50) hx hb d_H_date_45 (by decide) (by first | omega | (have := yearF_r (t := t) (n := n) (fun j => by have := ht j; omega) (ts i.toNat) (te i.toNat); omega)) (by first | omega | (have := yearF_r (t := t) (n := n) (fun j => by have := ht j; omega) (ts i.toNat) (te i.toNat); omega)) (fun c8 => ?_) (fun c8 => ?_)
          · have _q := c8
            obtain ⟨x9, ex9⟩ : ∃ y : Int, y = i + 1 := ⟨_, rfl⟩
            refine lv_iinc (v := iI x9) (lv' := [(1, .int (iI x9)), (2, .int (iI x7)), (0, .ref ho)]) hx hb d_H_date_50 hl (k := 2) rfl (by rw [ex9]; exact iI_add _ _) (by decide) rfl (fun ls hl => ?_)
            refine lv_goto (tgt := 2) hx hb d_H_date_53 (by decide) ?_
            exact ih x9 (by omega) (by first | (rw [show tc - 0 = tc by omega]; rfl) | (subst_vars; rw [← hres, show (tc - i).toNat = (tc - (i + 1)).toNat + 1 by omega]; simp only [dtL]; simp_all)) (by omega) _ (lv_sub hl [2, 0] rfl)
          · have _q := c8
            refine lv_iload_n hx hb d_H_date_48 rfl (lv_at hl 0 rfl) ?_
            exact fin _ _ _ (by first | (rw [← hres, show (tc - i).toNat = 0 by omega]; rfl) | (rw [← hres, show (tc - i).toNat = (tc - (i + 1)).toNat + 1 by omega]; simp only [dtL]; simp_all)) d_H_date_49
  refine lv_iconst (v := iI 0) hx hb d_H_date_0 rfl ?_
  refine lv_istore_n (lv' := [(1, .int (iI 0)), (0, .ref ho)]) hx hb d_H_date_1 rfl hl (by decide) rfl (fun ls hl => ?_)
  exact K_2 ((tc - 0).toNat + 1) 0 (by omega) (by first | (rw [show tc - 0 = tc by omega]; rfl) | (subst_vars; rw [← hres, show (tc - i).toNat = (tc - (i + 1)).toNat + 1 by omega]; simp only [dtL]; simp_all)) (Nat.lt_succ_self _) _ (lv_sub hl [1, 0] rfl)
theorem d_H_hasId_0 : decode b_H_hasId 0 = .ok (.aload_n 0, 1) := by decide +kernel
theorem d_H_hasId_1 : decode b_H_hasId 1 = .ok (.iconst 5, 1) := by decide +kernel
theorem d_H_hasId_2 : decode b_H_hasId 2 = .ok (.invokevirtual 90, 3) := by decide +kernel
theorem d_H_hasId_5 : decode b_H_hasId 5 = .ok (.istore 4, 2) := by decide +kernel
theorem d_H_hasId_7 : decode b_H_hasId 7 = .ok (.iload 4, 2) := by decide +kernel
theorem d_H_hasId_9 : decode b_H_hasId 9 = .ok (.iconst (-1), 1) := by decide +kernel
theorem d_H_hasId_10 : decode b_H_hasId 10 = .ok (.if_icmp .eq 34, 3) := by decide +kernel
theorem d_H_hasId_13 : decode b_H_hasId 13 = .ok (.aload_n 0, 1) := by decide +kernel
theorem d_H_hasId_14 : decode b_H_hasId 14 = .ok (.getfield 18, 3) := by decide +kernel
theorem d_H_hasId_17 : decode b_H_hasId 17 = .ok (.aload_n 0, 1) := by decide +kernel
theorem d_H_hasId_18 : decode b_H_hasId 18 = .ok (.getfield 42, 3) := by decide +kernel
theorem d_H_hasId_21 : decode b_H_hasId 21 = .ok (.iload 4, 2) := by decide +kernel
theorem d_H_hasId_23 : decode b_H_hasId 23 = .ok (.iaload, 1) := by decide +kernel
theorem d_H_hasId_24 : decode b_H_hasId 24 = .ok (.aload_n 0, 1) := by decide +kernel
theorem d_H_hasId_25 : decode b_H_hasId 25 = .ok (.getfield 45, 3) := by decide +kernel
theorem d_H_hasId_28 : decode b_H_hasId 28 = .ok (.iload 4, 2) := by decide +kernel
theorem d_H_hasId_30 : decode b_H_hasId 30 = .ok (.iaload, 1) := by decide +kernel
theorem d_H_hasId_31 : decode b_H_hasId 31 = .ok (.aload_n 1, 1) := by decide +kernel
theorem d_H_hasId_32 : decode b_H_hasId 32 = .ok (.iload_n 2, 1) := by decide +kernel
theorem d_H_hasId_33 : decode b_H_hasId 33 = .ok (.iload_n 3, 1) := by decide +kernel
theorem d_H_hasId_34 : decode b_H_hasId 34 = .ok (.invokestatic 94, 3) := by decide +kernel
theorem d_H_hasId_37 : decode b_H_hasId 37 = .ok (.ifCond .ne 7, 3) := by decide +kernel
theorem d_H_hasId_40 : decode b_H_hasId 40 = .ok (.iconst 1, 1) := by decide +kernel
theorem d_H_hasId_41 : decode b_H_hasId 41 = .ok (.goto 4, 3) := by decide +kernel
theorem d_H_hasId_44 : decode b_H_hasId 44 = .ok (.iconst 0, 1) := by decide +kernel
theorem d_H_hasId_45 : decode b_H_hasId 45 = .ok (.ireturn, 1) := by decide +kernel
set_option maxHeartbeats 4000000 in
set_option maxRecDepth 100000 in
theorem c_H_hasId (l : Launch) (dC : Nat → ClassId) (dI : Nat → Nat → Nat) (kA : Nat → ClassId) (ho : Nat) (oc : Nat) (xi : Nat) (xs : Nat) (xe : Nat) (xl : Nat) (n : Nat) (mx : Nat) (fd : Int) (tc : Int) (t : Nat → Int) (ti : Nat → Int) (ts : Nat → Int) (te : Nat → Int) (tl : Nat → Int) (b : Nat) (n2 : Nat) (t2 : Nat → Int) (y : Int) (ye : Int) (hH : HR n mx t ti ts te tl tc) (hn2 : n2 ≤ 1000) (ht2 : ∀ j, 0 ≤ t2 j ∧ t2 j < 256) (hy0 : 0 ≤ y ∧ y ≤ 1000 ∧ 0 ≤ ye ∧ ye ≤ 1000) : Met l y_H_hasId (wsy y_H_hasId b_H_hasId 5 (some .boolean)) (rmd 2 0 0) (li_Pr (dC, dI) CL (TY kA) [.ref ho, .ref b, .int (iI y), .int (iI ye)] (va_P (dC, dI) CL [(ho, .inr (2, [.ref oc, .int (iI fd), .ref xi, .ref xs, .ref xe, .ref xl, .int (iI tc)])), (oc, .inl (kA 1, n, .inl (aI t))), (xi, .inl (kA 0, mx, .inl (aI ti))), (xs, .inl (kA 0, mx, .inl (aI ts))), (xe, .inl (kA 0, mx, .inl (aI te))), (xl, .inl (kA 0, mx, .inl (aI tl))), (b, .inl (kA 1, n2, .inl (aI t2)))])) (k2_QcV (.int (iI (bI (decide (txFst ti tc 5 tc.toNat 0 ≠ -1 ∧ cmpF t n (ts (txFst ti tc 5 tc.toNat 0).toNat) (te (txFst ti tc 5 tc.toNat 0).toNat) t2 n2 y ye = 0)))))) 0 0 (fun _ => False) := by
  refine li_mr (by decide) (Nat.le_of_ble_eq_true rfl) (by exact li_narZ2 _) ?_
  intro p e s m args below meth c Q C hP hK hN hG fin ls hl
  obtain ⟨hx, hb, hr, hml, hown, hts, hlocks, hin⟩ := C
  have hown : s.vm.findClass R_H = some m.cls := hown
  have hP : va_P (dC, dI) CL [(ho, .inr (2, [.ref oc, .int (iI fd), .ref xi, .ref xs, .ref xe, .ref xl, .int (iI tc)])), (oc, .inl (kA 1, n, .inl (aI t))), (xi, .inl (kA 0, mx, .inl (aI ti))), (xs, .inl (kA 0, mx, .inl (aI ts))), (xe, .inl (kA 0, mx, .inl (aI te))), (xl, .inl (kA 0, mx, .inl (aI tl))), (b, .inl (kA 1, n2, .inl (aI t2)))] s.heap := hP
  have hl : lv_has ls 5 [(0, .ref ho), (1, .ref b), (2, .int (iI y)), (3, .int (iI ye))] := hl
  obtain ⟨hn, hmx, htc, ht, hti, hxs, hxe, hxl⟩ := id hH
  refine lv_aload_n hx hb d_H_hasId_0 rfl (lv_at hl 0 rfl) ?_
  refine lv_iconst (v := iI 5) hx hb d_H_hasId_1 rfl ?_
  refine li_callr ((va_runV (As := [.int (iI 5)]) (rest := []) ⟨hx, hb, hml, hown, hts⟩ (c_H_firstTextIn l dC dI kA ho oc xi xs xe xl n mx fd tc t ti ts te tl 5 (by omega) (by omega)) (cw_H_90 hts rfl rfl ⟨by decide, by decide⟩) (li_preV (va_recv hK hP (ci := 2) (q0 := 0) rfl rfl) (hP.sub [0, 1, 2, 3, 4, 5] rfl) hK hN hG.rd) rfl rfl hl.1 rfl (lv_room (Nat.le_of_ble_eq_true rfl)) d_H_hasId_2 ⟨by decide, by decide⟩).run) ?_
  refine li_nm (fun x1 ex1 => ?_)
  refine lv_istore (lv' := [(4, .int (iI x1)), (0, .ref ho), (1, .ref b), (2, .int (iI y)), (3, .int (iI ye))]) hx hb d_H_hasId_5 hl (by decide) rfl (fun ls hl => ?_)
  have hx1 : x1 = -1 ∨ (0 ≤ x1 ∧ x1 < tc) := by rw [ex1]; rcases txFst_r ti tc 5 tc.toNat 0 with h | h; (exact Or.inl h); exact Or.inr (txIn_r h)
  refine lv_iload hx hb d_H_hasId_7 (lv_at hl 0 rfl) ?_
  refine lv_iconst (v := iI (-1)) hx hb d_H_hasId_9 rfl ?_
  refine li_icmp_eq (tgt := 44) hx hb d_H_hasId_10 (by decide) (by omega) (by omega) (fun c2 => ?_) (fun c2 => ?_)
  · have _q := c2
    refine lv_iconst (v := iI 0) hx hb d_H_hasId_44 rfl ?_
    exact fin _ _ _ (by subst_vars; first | exact bI_t (decide_eq_true (by constructor <;> assumption)) | exact bI_f (decide_eq_false (by intro q; omega)) | exact bI_f (decide_eq_false (by intro q; exact absurd q.2 (by assumption)))) d_H_hasId_45
  · have _q := c2
    refine lv_aload_n hx hb d_H_hasId_13 rfl (lv_at hl 1 rfl) ?_
    refine gf_H_18 hx hb hts hown hK hP 0 rfl rfl d_H_hasId_14 ?_
    refine lv_aload_n hx hb d_H_hasId_17 rfl (lv_at hl 1 rfl) ?_
    refine gf_H_42 hx hb hts hown hK hP 0 rfl rfl d_H_hasId_18 ?_
    refine lv_iload hx hb d_H_hasId_21 (lv_at hl 0 rfl) ?_
    refine li_iald hx hb hK hP 3 0 rfl rfl (by omega) (by omega) (by omega) d_H_hasId_23 ?_
    have f3 := hxs x1.toNat
    refine lv_aload_n hx hb d_H_hasId_24 rfl (lv_at hl 1 rfl) ?_
    refine gf_H_45 hx hb hts hown hK hP 0 rfl rfl d_H_hasId_25 ?_
    refine lv_iload hx hb d_H_hasId_28 (lv_at hl 0 rfl) ?_
    refine li_iald hx hb hK hP 4 0 rfl rfl (by omega) (by omega) (by omega) d_H_hasId_30 ?_
    have f4 := hxe x1.toNat
    refine lv_aload_n hx hb d_H_hasId_31 rfl (lv_at hl 2 rfl) ?_
    refine lv_iload_n hx hb d_H_hasId_32 rfl (lv_at hl 3 rfl) ?_
    refine lv_iload_n hx hb d_H_hasId_33 rfl (lv_at hl 4 rfl) ?_
    refine li_callr ((va_runSN (As := [.ref oc, .int (iI (ts x1.toNat)), .int (iI (te x1.toNat)), .ref b, .int (iI y), .int (iI ye)]) (rest := []) ⟨hx, hb, hml, hown, hts⟩ (c_Q_compareSpans l dC dI kA oc n t (ts x1.toNat) (te x1.toNat) b n2 t2 y ye (by omega) (by intro j; have := ht j; omega) (by intro j; have := ht2 j; omega) (by omega) (by omega)) (cw_H_94 hts hN rfl rfl ⟨by decide, by decide⟩) (li_preS (hP.sub [1, 6] rfl) hK hN hG.rd) rfl rfl hl.1 rfl (lv_room (Nat.le_of_ble_eq_true rfl)) d_H_hasId_34 ⟨by decide, by decide⟩).run) ?_
    refine li_if_ne (tgt := 44) hx hb d_H_hasId_37 (by decide) (by exact cmpF_r (fun j => by have := ht j; omega) (fun j => by have := ht2 j; omega) (by omega) (by omega)) (fun c5 => ?_) (fun c5 => ?_)
    · have _q := c5
      refine lv_iconst (v := iI 0) hx hb d_H_hasId_44 rfl ?_
      exact fin _ _ _ (by subst_vars; first | exact bI_t (decide_eq_true (by constructor <;> assumption)) | exact bI_f (decide_eq_false (by intro q; omega)) | exact bI_f (decide_eq_false (by intro q; exact absurd q.2 (by assumption)))) d_H_hasId_45
    · have _q := c5
      refine lv_iconst (v := iI 1) hx hb d_H_hasId_40 rfl ?_
      refine lv_goto (tgt := 45) hx hb d_H_hasId_41 (by decide) ?_
      exact fin _ _ _ (by subst_vars; first | exact bI_t (decide_eq_true (by constructor <;> assumption)) | exact bI_f (decide_eq_false (by intro q; omega)) | exact bI_f (decide_eq_false (by intro q; exact absurd q.2 (by assumption)))) d_H_hasId_45

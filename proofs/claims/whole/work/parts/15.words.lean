/-! WORDS of a text, in an object of the class -/
def WR (wn wk : Nat) (wz : Int) (lt sb se : Nat → Int) : Prop := wn ≤ 1000 ∧ wk ≤ 1000 ∧ (0 ≤ wz ∧ wz ≤ wk) ∧ (∀ j, 0 ≤ lt j ∧ lt j < 256) ∧ (∀ j, 0 ≤ sb j ∧ sb j ≤ wn) ∧ (∀ j, 0 ≤ se j ∧ se j ≤ wn)
def cwF (wn : Nat) (wz : Int) (lt sb se : Nat → Int) (i : Int) (wn2 : Nat) (wz2 : Int) (lt2 sb2 se2 : Nat → Int) (j : Int) : Int := if 0 ≤ i ∧ i < wz ∧ 0 ≤ j ∧ j < wz2 then cmpF lt wn (sb i.toNat) (se i.toNat) lt2 wn2 (sb2 j.toNat) (se2 j.toNat) else 1
theorem cwF_r {wn wk : Nat} {wz : Int} {lt sb se : Nat → Int} {i : Int} {wn2 wk2 : Nat} {wz2 : Int} {lt2 sb2 se2 : Nat → Int} {j : Int} (h : WR wn wk wz lt sb se) (h2 : WR wn2 wk2 wz2 lt2 sb2 se2) : -2147483648 ≤ cwF wn wz lt sb se i wn2 wz2 lt2 sb2 se2 j ∧ cwF wn wz lt sb se i wn2 wz2 lt2 sb2 se2 j < 2147483648 := by
  obtain ⟨h1, -, -, hl, hs, he⟩ := h
  obtain ⟨h1', -, -, hl', hs', he'⟩ := h2
  unfold cwF
  split
  · have a := hs i.toNat; have b := he i.toNat; have c := hs' j.toNat; have d := he' j.toNat
    exact cmpF_r (fun j => by have := hl j; omega) (fun j => by have := hl' j; omega) (by omega) (by omega)
  · omega
def caL (f : Int → Int) (d : Int) : Nat → Int → Int
  | 0, _ => d
  | k + 1, i => if f i = 0 then caL f d k (i + 1) else f i
def sgL (t : Nat → Int) : Nat → Nat → Bool
  | 0, _ => false
  | k + 1, i => decide (t i = 42 ∨ t i = 63) || sgL t k (i + 1)
def hsF (wz : Int) (lt sb se : Nat → Int) (i : Int) : Bool := if 0 ≤ i ∧ i < wz then sgL lt (se i.toNat - sb i.toNat).toNat (sb i.toNat).toNat else false
/-! the WORDS of an INDEX -/
def LR (xn xk : Nat) (xc xz : Int) (lx bx ex hd : Nat → Int) : Prop := xn ≤ 100000 ∧ xk ≤ 100000 ∧ (0 ≤ xz ∧ xz ≤ xk) ∧ (0 ≤ xc ∧ xc ≤ xn) ∧ (∀ j, 0 ≤ lx j ∧ lx j < 256) ∧ (∀ j, 0 ≤ bx j ∧ bx j ≤ xn) ∧ (∀ j, 0 ≤ ex j ∧ ex j ≤ xn) ∧ (∀ j, 0 ≤ hd j ∧ hd j < 1024)
def bsL (f : Int → Int) : Nat → Int → Int → Int
  | 0, lo, _ => lo
  | k + 1, lo, hi => if lo < hi then (if f ((lo + hi) / 2) < 0 then bsL f k ((lo + hi) / 2 + 1) hi else bsL f k lo ((lo + hi) / 2)) else lo
def lwF (xn : Nat) (lx bx ex : Nat → Int) (wn : Nat) (lt sb se : Nat → Int) (i : Int) (k : Int) : Int := cmpF lx xn (bx k.toNat) (ex k.toNat) lt wn (sb i.toNat) (se i.toNat)
theorem lwF_r {xn xk : Nat} {xc xz : Int} {lx bx ex hd : Nat → Int} {wn wk : Nat} {wz : Int} {lt sb se : Nat → Int} {i k : Int} (h : LR xn xk xc xz lx bx ex hd) (h2 : WR wn wk wz lt sb se) : -2147483648 ≤ lwF xn lx bx ex wn lt sb se i k ∧ lwF xn lx bx ex wn lt sb se i k < 2147483648 := by
  obtain ⟨h1, -, -, -, hl, hs, he, -⟩ := h
  obtain ⟨h1', -, -, hl', hs', he'⟩ := h2
  unfold lwF
  have a := hs k.toNat; have b := he k.toNat; have c := hs' i.toNat; have d := he' i.toNat
  exact cmpF_r (fun j => by have := hl j; omega) (fun j => by have := hl' j; omega) (by omega) (by omega)
def lwG (xz : Int) (xn : Nat) (lx bx ex : Nat → Int) (wn : Nat) (lt sb se : Nat → Int) (i : Int) (k : Int) : Int := if k < xz then lwF xn lx bx ex wn lt sb se i k else 1
theorem lwG_p {xz : Int} {xn : Nat} {lx bx ex : Nat → Int} {wn : Nat} {lt sb se : Nat → Int} {i k : Int} (h : k < xz) : lwG xz xn lx bx ex wn lt sb se i k = lwF xn lx bx ex wn lt sb se i k := by unfold lwG; exact if_pos h
theorem lwG_z {xz : Int} {xn : Nat} {lx bx ex : Nat → Int} {wn : Nat} {lt sb se : Nat → Int} {i k : Int} (h : lwG xz xn lx bx ex wn lt sb se i k = 0) : k < xz ∧ lwF xn lx bx ex wn lt sb se i k = 0 := by
  by_cases q : k < xz
  · rw [lwG_p q] at h; exact ⟨q, h⟩
  · unfold lwG at h; rw [if_neg q] at h; exact absurd h (by decide)
theorem lwG_r {xn xk : Nat} {xc xz : Int} {lx bx ex hd : Nat → Int} {wn wk : Nat} {wz : Int} {lt sb se : Nat → Int} {i k : Int} (h : LR xn xk xc xz lx bx ex hd) (h2 : WR wn wk wz lt sb se) : -2147483648 ≤ lwG xz xn lx bx ex wn lt sb se i k ∧ lwG xz xn lx bx ex wn lt sb se i k < 2147483648 := by
  by_cases q : k < xz
  · rw [lwG_p q]; exact lwF_r h h2
  · unfold lwG; rw [if_neg q]; exact ⟨by decide, by decide⟩
def chF (xz : Int) (lx bx ex : Nat → Int) (k i : Int) : Int := if 0 ≤ k ∧ k < xz ∧ 0 ≤ i ∧ i < ex k.toNat - bx k.toNat then lx (bx k.toNat + i).toNat else 32

theorem d_W_compareWord_0 : decode b_W_compareWord 0 = .ok (.iload_n 1, 1) := by decide +kernel
theorem d_W_compareWord_1 : decode b_W_compareWord 1 = .ok (.ifCond .lt 23, 3) := by decide +kernel
theorem d_W_compareWord_4 : decode b_W_compareWord 4 = .ok (.iload_n 1, 1) := by decide +kernel
theorem d_W_compareWord_5 : decode b_W_compareWord 5 = .ok (.aload_n 0, 1) := by decide +kernel
theorem d_W_compareWord_6 : decode b_W_compareWord 6 = .ok (.getfield 28, 3) := by decide +kernel
theorem d_W_compareWord_9 : decode b_W_compareWord 9 = .ok (.if_icmp .ge 15, 3) := by decide +kernel
theorem d_W_compareWord_12 : decode b_W_compareWord 12 = .ok (.iload_n 3, 1) := by decide +kernel
theorem d_W_compareWord_13 : decode b_W_compareWord 13 = .ok (.ifCond .lt 11, 3) := by decide +kernel
theorem d_W_compareWord_16 : decode b_W_compareWord 16 = .ok (.iload_n 3, 1) := by decide +kernel
theorem d_W_compareWord_17 : decode b_W_compareWord 17 = .ok (.aload_n 2, 1) := by decide +kernel
theorem d_W_compareWord_18 : decode b_W_compareWord 18 = .ok (.getfield 28, 3) := by decide +kernel
theorem d_W_compareWord_21 : decode b_W_compareWord 21 = .ok (.if_icmp .lt 5, 3) := by decide +kernel
theorem d_W_compareWord_24 : decode b_W_compareWord 24 = .ok (.iconst 1, 1) := by decide +kernel
theorem d_W_compareWord_25 : decode b_W_compareWord 25 = .ok (.ireturn, 1) := by decide +kernel
theorem d_W_compareWord_26 : decode b_W_compareWord 26 = .ok (.aload_n 0, 1) := by decide +kernel
theorem d_W_compareWord_27 : decode b_W_compareWord 27 = .ok (.getfield 15, 3) := by decide +kernel
theorem d_W_compareWord_30 : decode b_W_compareWord 30 = .ok (.aload_n 0, 1) := by decide +kernel
theorem d_W_compareWord_31 : decode b_W_compareWord 31 = .ok (.getfield 21, 3) := by decide +kernel
theorem d_W_compareWord_34 : decode b_W_compareWord 34 = .ok (.iload_n 1, 1) := by decide +kernel
theorem d_W_compareWord_35 : decode b_W_compareWord 35 = .ok (.iaload, 1) := by decide +kernel
theorem d_W_compareWord_36 : decode b_W_compareWord 36 = .ok (.aload_n 0, 1) := by decide +kernel
theorem d_W_compareWord_37 : decode b_W_compareWord 37 = .ok (.getfield 25, 3) := by decide +kernel
theorem d_W_compareWord_40 : decode b_W_compareWord 40 = .ok (.iload_n 1, 1) := by decide +kernel
theorem d_W_compareWord_41 : decode b_W_compareWord 41 = .ok (.iaload, 1) := by decide +kernel
theorem d_W_compareWord_42 : decode b_W_compareWord 42 = .ok (.aload_n 2, 1) := by decide +kernel
theorem d_W_compareWord_43 : decode b_W_compareWord 43 = .ok (.getfield 15, 3) := by decide +kernel
theorem d_W_compareWord_46 : decode b_W_compareWord 46 = .ok (.aload_n 2, 1) := by decide +kernel
theorem d_W_compareWord_47 : decode b_W_compareWord 47 = .ok (.getfield 21, 3) := by decide +kernel
theorem d_W_compareWord_50 : decode b_W_compareWord 50 = .ok (.iload_n 3, 1) := by decide +kernel
theorem d_W_compareWord_51 : decode b_W_compareWord 51 = .ok (.iaload, 1) := by decide +kernel
theorem d_W_compareWord_52 : decode b_W_compareWord 52 = .ok (.aload_n 2, 1) := by decide +kernel
theorem d_W_compareWord_53 : decode b_W_compareWord 53 = .ok (.getfield 25, 3) := by decide +kernel
theorem d_W_compareWord_56 : decode b_W_compareWord 56 = .ok (.iload_n 3, 1) := by decide +kernel
theorem d_W_compareWord_57 : decode b_W_compareWord 57 = .ok (.iaload, 1) := by decide +kernel
theorem d_W_compareWord_58 : decode b_W_compareWord 58 = .ok (.invokestatic 66, 3) := by decide +kernel
theorem d_W_compareWord_61 : decode b_W_compareWord 61 = .ok (.ireturn, 1) := by decide +kernel
set_option maxHeartbeats 4000000 in
set_option maxRecDepth 100000 in
theorem c_W_compareWord (l : Launch) (dC : Nat → ClassId) (dI : Nat → Nat → Nat) (kA : Nat → ClassId) (wo : Nat) (wl : Nat) (wb : Nat) (we : Nat) (wn : Nat) (wk : Nat) (wz : Int) (lt : Nat → Int) (sb : Nat → Int) (se : Nat → Int) (i : Int) (wo2 : Nat) (wl2 : Nat) (wb2 : Nat) (we2 : Nat) (wn2 : Nat) (wk2 : Nat) (wz2 : Int) (lt2 : Nat → Int) (sb2 : Nat → Int) (se2 : Nat → Int) (j : Int) (hW : WR wn wk wz lt sb se) (hW2 : WR wn2 wk2 wz2 lt2 sb2 se2) (hi : -2147483648 ≤ i ∧ i < 2147483648) (hj : -2147483648 ≤ j ∧ j < 2147483648) : Met l y_W_compareWord (wsy y_W_compareWord b_W_compareWord 4 (some .int)) (rmd 1 0 0) (li_Pr (dC, dI) CL (TY kA) [.ref wo, .int (iI i), .ref wo2, .int (iI j)] (va_P (dC, dI) CL [(wo, .inr (9, [.ref wl, .ref wb, .ref we, .int (iI wz)])), (wl, .inl (kA 1, wn, .inl (aI lt))), (wb, .inl (kA 0, wk, .inl (aI sb))), (we, .inl (kA 0, wk, .inl (aI se))), (wo2, .inr (9, [.ref wl2, .ref wb2, .ref we2, .int (iI wz2)])), (wl2, .inl (kA 1, wn2, .inl (aI lt2))), (wb2, .inl (kA 0, wk2, .inl (aI sb2))), (we2, .inl (kA 0, wk2, .inl (aI se2)))])) (k2_QcV (.int (iI (cwF wn wz lt sb se i wn2 wz2 lt2 sb2 se2 j)))) 0 0 (fun _ => False) := by
  refine li_mr (by decide) (Nat.le_of_ble_eq_true rfl) (by rfl) ?_
  intro p e s m args below meth c Q C hP hK hN hG fin ls hl
  obtain ⟨hx, hb, hr, hml, hown, hts, hlocks, hin⟩ := C
  have hown : s.vm.findClass R_W = some m.cls := hown
  have hP : va_P (dC, dI) CL [(wo, .inr (9, [.ref wl, .ref wb, .ref we, .int (iI wz)])), (wl, .inl (kA 1, wn, .inl (aI lt))), (wb, .inl (kA 0, wk, .inl (aI sb))), (we, .inl (kA 0, wk, .inl (aI se))), (wo2, .inr (9, [.ref wl2, .ref wb2, .ref we2, .int (iI wz2)])), (wl2, .inl (kA 1, wn2, .inl (aI lt2))), (wb2, .inl (kA 0, wk2, .inl (aI sb2))), (we2, .inl (kA 0, wk2, .inl (aI se2)))] s.heap := hP
  have hl : lv_has ls 4 [(0, .ref wo), (1, .int (iI i)), (2, .ref wo2), (3, .int (iI j))] := hl
  obtain ⟨hwn, hwk, hwz, hlt, hsb, hse⟩ := id hW
  obtain ⟨hwn2, hwk2, hwz2, hlt2, hsb2, hse2⟩ := id hW2
  refine lv_iload_n hx hb d_W_compareWord_0 rfl (lv_at hl 1 rfl) ?_
  refine li_if_lt (tgt := 24) hx hb d_W_compareWord_1 (by decide) (by omega) (fun c1 => ?_) (fun c1 => ?_)
  · have _q := c1
    refine lv_iconst (v := iI 1) hx hb d_W_compareWord_24 rfl ?_
    exact fin _ _ _ (by unfold cwF; first | (rw [if_pos (by omega)]; done) | (rw [if_neg (by omega)]; done)) d_W_compareWord_25
  · have _q := c1
    refine lv_iload_n hx hb d_W_compareWord_4 rfl (lv_at hl 1 rfl) ?_
    refine lv_aload_n hx hb d_W_compareWord_5 rfl (lv_at hl 0 rfl) ?_
    refine gf_W_28 hx hb hts hown hK hP 0 rfl rfl d_W_compareWord_6 ?_
    refine li_icmp_ge (tgt := 24) hx hb d_W_compareWord_9 (by decide) (by omega) (by omega) (fun c2 => ?_) (fun c2 => ?_)
    · have _q := c2
      refine lv_iconst (v := iI 1) hx hb d_W_compareWord_24 rfl ?_
      exact fin _ _ _ (by unfold cwF; first | (rw [if_pos (by omega)]; done) | (rw [if_neg (by omega)]; done)) d_W_compareWord_25
    · have _q := c2
      refine lv_iload_n hx hb d_W_compareWord_12 rfl (lv_at hl 3 rfl) ?_
      refine li_if_lt (tgt := 24) hx hb d_W_compareWord_13 (by decide) (by omega) (fun c3 => ?_) (fun c3 => ?_)
      · have _q := c3
        refine lv_iconst (v := iI 1) hx hb d_W_compareWord_24 rfl ?_
        exact fin _ _ _ (by unfold cwF; first | (rw [if_pos (by omega)]; done) | (rw [if_neg (by omega)]; done)) d_W_compareWord_25
      · have _q := c3
        refine lv_iload_n hx hb d_W_compareWord_16 rfl (lv_at hl 3 rfl) ?_
        refine lv_aload_n hx hb d_W_compareWord_17 rfl (lv_at hl 2 rfl) ?_
        refine gf_W_28 hx hb hts hown hK hP 4 rfl rfl d_W_compareWord_18 ?_
        refine li_icmp_lt (tgt := 26) hx hb d_W_compareWord_21 (by decide) (by omega) (by omega) (fun c4 => ?_) (fun c4 => ?_)
        · have _q := c4
          refine lv_aload_n hx hb d_W_compareWord_26 rfl (lv_at hl 0 rfl) ?_
          refine gf_W_15 hx hb hts hown hK hP 0 rfl rfl d_W_compareWord_27 ?_
          refine lv_aload_n hx hb d_W_compareWord_30 rfl (lv_at hl 0 rfl) ?_
          refine gf_W_21 hx hb hts hown hK hP 0 rfl rfl d_W_compareWord_31 ?_
          refine lv_iload_n hx hb d_W_compareWord_34 rfl (lv_at hl 1 rfl) ?_
          refine li_iald hx hb hK hP 2 0 rfl rfl (by omega) (by omega) (by omega) d_W_compareWord_35 ?_
          have f5 := hsb i.toNat
          refine lv_aload_n hx hb d_W_compareWord_36 rfl (lv_at hl 0 rfl) ?_
          refine gf_W_25 hx hb hts hown hK hP 0 rfl rfl d_W_compareWord_37 ?_
          refine lv_iload_n hx hb d_W_compareWord_40 rfl (lv_at hl 1 rfl) ?_
          refine li_iald hx hb hK hP 3 0 rfl rfl (by omega) (by omega) (by omega) d_W_compareWord_41 ?_
          have f6 := hse i.toNat
          refine lv_aload_n hx hb d_W_compareWord_42 rfl (lv_at hl 2 rfl) ?_
          refine gf_W_15 hx hb hts hown hK hP 4 rfl rfl d_W_compareWord_43 ?_
          refine lv_aload_n hx hb d_W_compareWord_46 rfl (lv_at hl 2 rfl) ?_
          refine gf_W_21 hx hb hts hown hK hP 4 rfl rfl d_W_compareWord_47 ?_
          refine lv_iload_n hx hb d_W_compareWord_50 rfl (lv_at hl 3 rfl) ?_
          refine li_iald hx hb hK hP 6 0 rfl rfl (by omega) (by omega) (by omega) d_W_compareWord_51 ?_
          have f7 := hsb2 j.toNat
          refine lv_aload_n hx hb d_W_compareWord_52 rfl (lv_at hl 2 rfl) ?_
          refine gf_W_25 hx hb hts hown hK hP 4 rfl rfl d_W_compareWord_53 ?_
          refine lv_iload_n hx hb d_W_compareWord_56 rfl (lv_at hl 3 rfl) ?_
          refine li_iald hx hb hK hP 7 0 rfl rfl (by omega) (by omega) (by omega) d_W_compareWord_57 ?_
          have f8 := hse2 j.toNat
          refine li_callr ((va_runSN (As := [.ref wl, .int (iI (sb i.toNat)), .int (iI (se i.toNat)), .ref wl2, .int (iI (sb2 j.toNat)), .int (iI (se2 j.toNat))]) (rest := []) ⟨hx, hb, hml, hown, hts⟩ (c_Q_compareSpans l dC dI kA wl wn lt (sb i.toNat) (se i.toNat) wl2 wn2 lt2 (sb2 j.toNat) (se2 j.toNat) (by omega) (by intro q; have := hlt q; omega) (by intro q; have := hlt2 q; omega) (by omega) (by omega)) (cw_W_66 hts hN rfl rfl ⟨by decide, by decide⟩) (li_preS (hP.sub [1, 5] rfl) hK hN hG.rd) rfl rfl hl.1 rfl (lv_room (Nat.le_of_ble_eq_true rfl)) d_W_compareWord_58 ⟨by decide, by decide⟩).run) ?_
          exact fin _ _ _ (by unfold cwF; first | (rw [if_pos (by omega)]; done) | (rw [if_neg (by omega)]; done)) d_W_compareWord_61
        · have _q := c4
          refine lv_iconst (v := iI 1) hx hb d_W_compareWord_24 rfl ?_
          exact fin _ _ _ (by unfold cwF; first | (rw [if_pos (by omega)]; done) | (rw [if_neg (by omega)]; done)) d_W_compareWord_25
theorem d_W_compareAll_0 : decode b_W_compareAll 0 = .ok (.iconst 0, 1) := by decide +kernel
theorem d_W_compareAll_1 : decode b_W_compareAll 1 = .ok (.istore_n 2, 1) := by decide +kernel
theorem d_W_compareAll_2 : decode b_W_compareAll 2 = .ok (.iload_n 2, 1) := by decide +kernel
theorem d_W_compareAll_3 : decode b_W_compareAll 3 = .ok (.aload_n 0, 1) := by decide +kernel
theorem d_W_compareAll_4 : decode b_W_compareAll 4 = .ok (.getfield 28, 3) := by decide +kernel
theorem d_W_compareAll_7 : decode b_W_compareAll 7 = .ok (.if_icmp .ge 31, 3) := by decide +kernel
theorem d_W_compareAll_10 : decode b_W_compareAll 10 = .ok (.iload_n 2, 1) := by decide +kernel
theorem d_W_compareAll_11 : decode b_W_compareAll 11 = .ok (.aload_n 1, 1) := by decide +kernel
theorem d_W_compareAll_12 : decode b_W_compareAll 12 = .ok (.getfield 28, 3) := by decide +kernel
theorem d_W_compareAll_15 : decode b_W_compareAll 15 = .ok (.if_icmp .ge 23, 3) := by decide +kernel
theorem d_W_compareAll_18 : decode b_W_compareAll 18 = .ok (.aload_n 0, 1) := by decide +kernel
theorem d_W_compareAll_19 : decode b_W_compareAll 19 = .ok (.iload_n 2, 1) := by decide +kernel
theorem d_W_compareAll_20 : decode b_W_compareAll 20 = .ok (.aload_n 1, 1) := by decide +kernel
theorem d_W_compareAll_21 : decode b_W_compareAll 21 = .ok (.iload_n 2, 1) := by decide +kernel
theorem d_W_compareAll_22 : decode b_W_compareAll 22 = .ok (.invokevirtual 70, 3) := by decide +kernel
theorem d_W_compareAll_25 : decode b_W_compareAll 25 = .ok (.istore_n 3, 1) := by decide +kernel
theorem d_W_compareAll_26 : decode b_W_compareAll 26 = .ok (.iload_n 3, 1) := by decide +kernel
theorem d_W_compareAll_27 : decode b_W_compareAll 27 = .ok (.ifCond .eq 5, 3) := by decide +kernel
theorem d_W_compareAll_30 : decode b_W_compareAll 30 = .ok (.iload_n 3, 1) := by decide +kernel
theorem d_W_compareAll_31 : decode b_W_compareAll 31 = .ok (.ireturn, 1) := by decide +kernel
theorem d_W_compareAll_32 : decode b_W_compareAll 32 = .ok (.iinc 2 1, 3) := by decide +kernel
theorem d_W_compareAll_35 : decode b_W_compareAll 35 = .ok (.goto (-33), 3) := by decide +kernel
theorem d_W_compareAll_38 : decode b_W_compareAll 38 = .ok (.aload_n 0, 1) := by decide +kernel
theorem d_W_compareAll_39 : decode b_W_compareAll 39 = .ok (.getfield 28, 3) := by decide +kernel
theorem d_W_compareAll_42 : decode b_W_compareAll 42 = .ok (.aload_n 1, 1) := by decide +kernel
theorem d_W_compareAll_43 : decode b_W_compareAll 43 = .ok (.getfield 28, 3) := by decide +kernel
theorem d_W_compareAll_46 : decode b_W_compareAll 46 = .ok (.invokestatic 74, 3) := by decide +kernel
theorem d_W_compareAll_49 : decode b_W_compareAll 49 = .ok (.ireturn, 1) := by decide +kernel
set_option maxHeartbeats 4000000 in
set_option maxRecDepth 100000 in
theorem c_W_compareAll (l : Launch) (dC : Nat → ClassId) (dI : Nat → Nat → Nat) (kA : Nat → ClassId) (wo : Nat) (wl : Nat) (wb : Nat) (we : Nat) (wn : Nat) (wk : Nat) (wz : Int) (lt : Nat → Int) (sb : Nat → Int) (se : Nat → Int) (wo2 : Nat) (wl2 : Nat) (wb2 : Nat) (we2 : Nat) (wn2 : Nat) (wk2 : Nat) (wz2 : Int) (lt2 : Nat → Int) (sb2 : Nat → Int) (se2 : Nat → Int) (hW : WR wn wk wz lt sb se) (hW2 : WR wn2 wk2 wz2 lt2 sb2 se2) : Met l y_W_compareAll (wsy y_W_compareAll b_W_compareAll 4 (some .int)) (rmd 2 0 0) (li_Pr (dC, dI) CL (TY kA) [.ref wo, .ref wo2] (va_P (dC, dI) CL [(wo, .inr (9, [.ref wl, .ref wb, .ref we, .int (iI wz)])), (wl, .inl (kA 1, wn, .inl (aI lt))), (wb, .inl (kA 0, wk, .inl (aI sb))), (we, .inl (kA 0, wk, .inl (aI se))), (wo2, .inr (9, [.ref wl2, .ref wb2, .ref we2, .int (iI wz2)])), (wl2, .inl (kA 1, wn2, .inl (aI lt2))), (wb2, .inl (kA 0, wk2, .inl (aI sb2))), (we2, .inl (kA 0, wk2, .inl (aI se2)))])) (k2_QcV (.int (iI (caL (fun i => cwF wn wz lt sb se i wn2 wz2 lt2 sb2 se2 i) (icmp wz wz2) (min wz wz2).toNat 0)))) 0 0 (fun _ => False) := by
  refine li_mr (by decide) (Nat.le_of_ble_eq_true rfl) (by rfl) ?_
  intro p e s m args below meth c Q C hP hK hN hG fin ls hl
  obtain ⟨hx, hb, hr, hml, hown, hts, hlocks, hin⟩ := C
  have hown : s.vm.findClass R_W = some m.cls := hown
  have hP : va_P (dC, dI) CL [(wo, .inr (9, [.ref wl, .ref wb, .ref we, .int (iI wz)])), (wl, .inl (kA 1, wn, .inl (aI lt))), (wb, .inl (kA 0, wk, .inl (aI sb))), (we, .inl (kA 0, wk, .inl (aI se))), (wo2, .inr (9, [.ref wl2, .ref wb2, .ref we2, .int (iI wz2)])), (wl2, .inl (kA 1, wn2, .inl (aI lt2))), (wb2, .inl (kA 0, wk2, .inl (aI sb2))), (we2, .inl (kA 0, wk2, .inl (aI se2)))] s.heap := hP
  have hl : lv_has ls 4 [(0, .ref wo), (1, .ref wo2)] := hl
  obtain ⟨hwn, hwk, hwz, hlt, hsb, hse⟩ := id hW
  obtain ⟨hwn2, hwk2, hwz2, hlt2, hsb2, hse2⟩ := id hW2
  have K_2 : ∀ (nn : Nat) (i : Int), (0 ≤ i ∧ i ≤ wz ∧ i ≤ wz2) → (caL (fun i => cwF wn wz lt sb se i wn2 wz2 lt2 sb2 se2 i) (icmp wz wz2) (min wz wz2 - i).toNat i = caL (fun i => cwF wn wz lt sb se i wn2 wz2 lt2 sb2 se2 i) (icmp wz wz2) (min wz wz2).toNat 0) → ((min wz wz2 - i).toNat < nn) → ∀ ls : Array Slot, lv_has ls 4 [(0, .ref wo), (1, .ref wo2), (2, .int (iI i))] → W p l e (rmd 2 0 0) s m args below meth c s.heap [] 0 0 Q (F0 m 2 ls []) := by
    intro nn
    induction nn with
    | zero => intro i hi hres hm; exact absurd hm (Nat.not_lt_zero _)
    | succ nn ih =>
      intro i hi hres hm ls hl
      refine lv_iload_n hx hb d_W_compareAll_2 rfl (lv_at hl 2 rfl) ?_
      refine lv_aload_n hx hb d_W_compareAll_3 rfl (lv_at hl 0 rfl) ?_
      refine gf_W_28 hx hb hts hown hK hP 0 rfl rfl d_W_compareAll_4 ?_
      refine li_icmp_ge (tgt := 38) hx hb d_W_compareAll_7 (by decide) (by omega) (by omega) (fun c1 => ?_) (fun c1 => ?_)
      · have _q := c1
        refine lv_aload_n hx hb d_W_compareAll_38 rfl (lv_at hl 0 rfl) ?_
        refine gf_W_28 hx hb hts hown hK hP 0 rfl rfl d_W_compareAll_39 ?_
        refine lv_aload_n hx hb d_W_compareAll_42 rfl (lv_at hl 1 rfl) ?_
        refine gf_W_28 hx hb hts hown hK hP 4 rfl rfl d_W_compareAll_43 ?_
        refine li_callr ((va_runS (As := [.int (iI wz), .int (iI wz2)]) (rest := []) ⟨hx, hb, hml, hown, hts⟩ (c_N_compare l dC dI kA wz wz2 (by omega) (by omega)) (cw_W_74 hts rfl rfl ⟨by decide, by decide⟩) (li_preS (hP.sub [] rfl) hK hN hG.rd) rfl rfl hl.1 rfl (lv_room (Nat.le_of_ble_eq_true rfl)) d_W_compareAll_46 ⟨by decide, by decide⟩).run) ?_
        exact fin _ _ _ (by first | (rw [← hres, show (min wz wz2 - i).toNat = 0 by omega]; rfl) | (subst_vars; rw [← hres, show (min wz wz2 - i).toNat = (min wz wz2 - (i + 1)).toNat + 1 by omega]; simp only [caL]; simp_all)) d_W_compareAll_49
      · have _q := c1
        refine lv_iload_n hx hb d_W_compareAll_10 rfl (lv_at hl 2 rfl) ?_
        refine lv_aload_n hx hb d_W_compareAll_11 rfl (lv_at hl 1 rfl) ?_
        refine gf_W_28 hx hb hts hown hK hP 4 rfl rfl d_W_compareAll_12 ?_
        refine li_icmp_ge (tgt := 38) hx hb d_W_compareAll_15 (by decide) (by omega) (by omega) (fun c2 => ?_) (fun c2 => ?_)
        · have _q := c2
          refine lv_aload_n hx hb d_W_compareAll_38 rfl (lv_at hl 0 rfl) ?_
          refine gf_W_28 hx hb hts hown hK hP 0 rfl rfl d_W_compareAll_39 ?_
          refine lv_aload_n hx hb d_W_compareAll_42 rfl (lv_at hl 1 rfl) ?_
          refine gf_W_28 hx hb hts hown hK hP 4 rfl rfl d_W_compareAll_43 ?_
          refine li_callr ((va_runS (As := [.int (iI wz), .int (iI wz2)]) (rest := []) ⟨hx, hb, hml, hown, hts⟩ (c_N_compare l dC dI kA wz wz2 (by omega) (by omega)) (cw_W_74 hts rfl rfl ⟨by decide, by decide⟩) (li_preS (hP.sub [] rfl) hK hN hG.rd) rfl rfl hl.1 rfl (lv_room (Nat.le_of_ble_eq_true rfl)) d_W_compareAll_46 ⟨by decide, by decide⟩).run) ?_
          exact fin _ _ _ (by first | (rw [← hres, show (min wz wz2 - i).toNat = 0 by omega]; rfl) | (subst_vars; rw [← hres, show (min wz wz2 - i).toNat = (min wz wz2 - (i + 1)).toNat + 1 by omega]; simp only [caL]; simp_all)) d_W_compareAll_49
        · have _q := c2
          refine lv_aload_n hx hb d_W_compareAll_18 rfl (lv_at hl 0 rfl) ?_
          refine lv_iload_n hx hb d_W_compareAll_19 rfl (lv_at hl 2 rfl) ?_
          refine lv_aload_n hx hb d_W_compareAll_20 rfl (lv_at hl 1 rfl) ?_
          refine lv_iload_n hx hb d_W_compareAll_21 rfl (lv_at hl 2 rfl) ?_
          refine li_callr ((va_runV (As := [.int (iI i), .ref wo2, .int (iI i)]) (rest := []) ⟨hx, hb, hml, hown, hts⟩ (c_W_compareWord l dC dI kA wo wl wb we wn wk wz lt sb se i wo2 wl2 wb2 we2 wn2 wk2 wz2 lt2 sb2 se2 i (by exact hW) (by exact hW2) (by omega) (by omega)) (cw_W_70 hts rfl rfl ⟨by decide, by decide⟩) (li_preV (va_recv hK hP (ci := 9) (q0 := 0) rfl rfl) (hP.sub [0, 1, 2, 3, 4, 5, 6, 7] rfl) hK hN hG.rd) rfl rfl hl.1 rfl (lv_room (Nat.le_of_ble_eq_true rfl)) d_W_compareAll_22 ⟨by decide, by decide⟩).run) ?_
          refine li_nm (fun x3 ex3 => ?_)
          refine lv_istore_n (lv' := [(3, .int (iI x3)), (0, .ref wo), (1, .ref wo2), (2, .int (iI i))]) hx hb d_W_compareAll_25 rfl hl (by decide) rfl (fun ls hl => ?_)
          refine lv_iload_n hx hb d_W_compareAll_26 rfl (lv_at hl 0 rfl) ?_
          refine li_if_eq (tgt := 32) hx hb d_W_compareAll_27 (by decide) (by subst_vars; exact cwF_r hW hW2) (fun c4 => ?_) (fun c4 => ?_)
          · have _q := c4
            obtain ⟨x5, ex5⟩ : ∃ y : Int, y = i + 1 := ⟨_, rfl⟩
            refine lv_iinc (v := iI x5) (lv' := [(2, .int (iI x5)), (3, .int (iI x3)), (0, .ref wo), (1, .ref wo2)]) hx hb d_W_compareAll_32 hl (k := 3) rfl (by rw [ex5]; exact iI_add _ _) (by decide) rfl (fun ls hl => ?_)
            refine lv_goto (tgt := 2) hx hb d_W_compareAll_35 (by decide) ?_
            exact ih x5 (by omega) (by first | (rw [show min wz wz2 - 0 = min wz wz2 by omega]; done) | (subst_vars; rw [← hres, show (min wz wz2 - i).toNat = (min wz wz2 - (i + 1)).toNat + 1 by omega]; simp only [caL]; simp_all)) (by omega) _ (lv_sub hl [2, 3, 0] rfl)
          · have _q := c4
            refine lv_iload_n hx hb d_W_compareAll_30 rfl (lv_at hl 0 rfl) ?_
            exact fin _ _ _ (by first | (rw [← hres, show (min wz wz2 - i).toNat = 0 by omega]; rfl) | (subst_vars; rw [← hres, show (min wz wz2 - i).toNat = (min wz wz2 - (i + 1)).toNat + 1 by omega]; simp only [caL]; simp_all)) d_W_compareAll_31
  refine lv_iconst (v := iI 0) hx hb d_W_compareAll_0 rfl ?_
  refine lv_istore_n (lv' := [(2, .int (iI 0)), (0, .ref wo), (1, .ref wo2)]) hx hb d_W_compareAll_1 rfl hl (by decide) rfl (fun ls hl => ?_)
  exact K_2 ((min wz wz2 - 0).toNat + 1) 0 (by omega) (by first | (rw [show min wz wz2 - 0 = min wz wz2 by omega]; done) | (subst_vars; rw [← hres, show (min wz wz2 - i).toNat = (min wz wz2 - (i + 1)).toNat + 1 by omega]; simp only [caL]; simp_all)) (Nat.lt_succ_self _) _ (lv_sub hl [1, 2, 0] rfl)
theorem d_W_hasSigns_0 : decode b_W_hasSigns 0 = .ok (.iload_n 1, 1) := by decide +kernel
theorem d_W_hasSigns_1 : decode b_W_hasSigns 1 = .ok (.ifCond .lt 11, 3) := by decide +kernel
theorem d_W_hasSigns_4 : decode b_W_hasSigns 4 = .ok (.iload_n 1, 1) := by decide +kernel
theorem d_W_hasSigns_5 : decode b_W_hasSigns 5 = .ok (.aload_n 0, 1) := by decide +kernel
theorem d_W_hasSigns_6 : decode b_W_hasSigns 6 = .ok (.getfield 28, 3) := by decide +kernel
theorem d_W_hasSigns_9 : decode b_W_hasSigns 9 = .ok (.if_icmp .lt 5, 3) := by decide +kernel
theorem d_W_hasSigns_12 : decode b_W_hasSigns 12 = .ok (.iconst 0, 1) := by decide +kernel
theorem d_W_hasSigns_13 : decode b_W_hasSigns 13 = .ok (.ireturn, 1) := by decide +kernel
theorem d_W_hasSigns_14 : decode b_W_hasSigns 14 = .ok (.aload_n 0, 1) := by decide +kernel
theorem d_W_hasSigns_15 : decode b_W_hasSigns 15 = .ok (.getfield 21, 3) := by decide +kernel
theorem d_W_hasSigns_18 : decode b_W_hasSigns 18 = .ok (.iload_n 1, 1) := by decide +kernel
theorem d_W_hasSigns_19 : decode b_W_hasSigns 19 = .ok (.iaload, 1) := by decide +kernel
theorem d_W_hasSigns_20 : decode b_W_hasSigns 20 = .ok (.istore_n 2, 1) := by decide +kernel
theorem d_W_hasSigns_21 : decode b_W_hasSigns 21 = .ok (.iload_n 2, 1) := by decide +kernel
theorem d_W_hasSigns_22 : decode b_W_hasSigns 22 = .ok (.aload_n 0, 1) := by decide +kernel
theorem d_W_hasSigns_23 : decode b_W_hasSigns 23 = .ok (.getfield 25, 3) := by decide +kernel
theorem d_W_hasSigns_26 : decode b_W_hasSigns 26 = .ok (.iload_n 1, 1) := by decide +kernel
theorem d_W_hasSigns_27 : decode b_W_hasSigns 27 = .ok (.iaload, 1) := by decide +kernel
theorem d_W_hasSigns_28 : decode b_W_hasSigns 28 = .ok (.if_icmp .ge 33, 3) := by decide +kernel
theorem d_W_hasSigns_31 : decode b_W_hasSigns 31 = .ok (.aload_n 0, 1) := by decide +kernel
theorem d_W_hasSigns_32 : decode b_W_hasSigns 32 = .ok (.getfield 15, 3) := by decide +kernel
theorem d_W_hasSigns_35 : decode b_W_hasSigns 35 = .ok (.iload_n 2, 1) := by decide +kernel
theorem d_W_hasSigns_36 : decode b_W_hasSigns 36 = .ok (.caload, 1) := by decide +kernel
theorem d_W_hasSigns_37 : decode b_W_hasSigns 37 = .ok (.bipush 42, 2) := by decide +kernel
theorem d_W_hasSigns_39 : decode b_W_hasSigns 39 = .ok (.if_icmp .eq 14, 3) := by decide +kernel
theorem d_W_hasSigns_42 : decode b_W_hasSigns 42 = .ok (.aload_n 0, 1) := by decide +kernel
theorem d_W_hasSigns_43 : decode b_W_hasSigns 43 = .ok (.getfield 15, 3) := by decide +kernel
theorem d_W_hasSigns_46 : decode b_W_hasSigns 46 = .ok (.iload_n 2, 1) := by decide +kernel
theorem d_W_hasSigns_47 : decode b_W_hasSigns 47 = .ok (.caload, 1) := by decide +kernel
theorem d_W_hasSigns_48 : decode b_W_hasSigns 48 = .ok (.bipush 63, 2) := by decide +kernel
theorem d_W_hasSigns_50 : decode b_W_hasSigns 50 = .ok (.if_icmp .ne 5, 3) := by decide +kernel
theorem d_W_hasSigns_53 : decode b_W_hasSigns 53 = .ok (.iconst 1, 1) := by decide +kernel
theorem d_W_hasSigns_54 : decode b_W_hasSigns 54 = .ok (.ireturn, 1) := by decide +kernel
theorem d_W_hasSigns_55 : decode b_W_hasSigns 55 = .ok (.iinc 2 1, 3) := by decide +kernel
theorem d_W_hasSigns_58 : decode b_W_hasSigns 58 = .ok (.goto (-37), 3) := by decide +kernel
theorem d_W_hasSigns_61 : decode b_W_hasSigns 61 = .ok (.iconst 0, 1) := by decide +kernel
theorem d_W_hasSigns_62 : decode b_W_hasSigns 62 = .ok (.ireturn, 1) := by decide +kernel
set_option maxHeartbeats 4000000 in
set_option maxRecDepth 100000 in
theorem c_W_hasSigns (l : Launch) (dC : Nat → ClassId) (dI : Nat → Nat → Nat) (kA : Nat → ClassId) (wo : Nat) (wl : Nat) (wb : Nat) (we : Nat) (wn : Nat) (wk : Nat) (wz : Int) (lt : Nat → Int) (sb : Nat → Int) (se : Nat → Int) (i : Int) (hW : WR wn wk wz lt sb se) (hi : -2147483648 ≤ i ∧ i < 2147483648) : Met l y_W_hasSigns (wsy y_W_hasSigns b_W_hasSigns 3 (some .boolean)) (rmd 0 0 0) (li_Pr (dC, dI) CL (TY kA) [.ref wo, .int (iI i)] (va_P (dC, dI) CL [(wo, .inr (9, [.ref wl, .ref wb, .ref we, .int (iI wz)])), (wl, .inl (kA 1, wn, .inl (aI lt))), (wb, .inl (kA 0, wk, .inl (aI sb))), (we, .inl (kA 0, wk, .inl (aI se)))])) (k2_QcV (.int (iI (bI (hsF wz lt sb se i))))) 0 0 (fun _ => False) := by
  refine li_mr (by decide) (Nat.le_of_ble_eq_true rfl) (by exact li_narZ2 _) ?_
  intro p e s m args below meth c Q C hP hK hN hG fin ls hl
  obtain ⟨hx, hb, hr, hml, hown, hts, hlocks, hin⟩ := C
  have hown : s.vm.findClass R_W = some m.cls := hown
  have hP : va_P (dC, dI) CL [(wo, .inr (9, [.ref wl, .ref wb, .ref we, .int (iI wz)])), (wl, .inl (kA 1, wn, .inl (aI lt))), (wb, .inl (kA 0, wk, .inl (aI sb))), (we, .inl (kA 0, wk, .inl (aI se)))] s.heap := hP
  have hl : lv_has ls 3 [(0, .ref wo), (1, .int (iI i))] := hl
  obtain ⟨hwn, hwk, hwz, hlt, hsb, hse⟩ := id hW
  have K_21 : ∀ (nn : Nat) (k : Int), (0 ≤ i ∧ i < wz) → (0 ≤ k ∧ k ≤ 1000) → (sgL lt (se i.toNat - k).toNat k.toNat = hsF wz lt sb se i) → ((se i.toNat - k).toNat < nn) → ∀ ls : Array Slot, lv_has ls 3 [(0, .ref wo), (1, .int (iI i)), (2, .int (iI k))] → W p l e (rmd 0 0 0) s m args below meth c s.heap [] 0 0 Q (F0 m 21 ls []) := by
    intro nn
    induction nn with
    | zero => intro k hii hk hres hm; exact absurd hm (Nat.not_lt_zero _)
    | succ nn ih =>
      intro k hii hk hres hm ls hl
      refine lv_iload_n hx hb d_W_hasSigns_21 rfl (lv_at hl 2 rfl) ?_
      refine lv_aload_n hx hb d_W_hasSigns_22 rfl (lv_at hl 0 rfl) ?_
      refine gf_W_25 hx hb hts hown hK hP 0 rfl rfl d_W_hasSigns_23 ?_
      refine lv_iload_n hx hb d_W_hasSigns_26 rfl (lv_at hl 1 rfl) ?_
      refine li_iald hx hb hK hP 3 0 rfl rfl (by omega) (by omega) (by omega) d_W_hasSigns_27 ?_
      have f1 := hse i.toNat
      refine li_icmp_ge (tgt := 61) hx hb d_W_hasSigns_28 (by decide) (by omega) (by omega) (fun c2 => ?_) (fun c2 => ?_)
      · have _q := c2
        refine lv_iconst (v := iI 0) hx hb d_W_hasSigns_61 rfl ?_
        exact fin _ _ _ (by first | (rw [← hres, show (se i.toNat - k).toNat = 0 by omega]; rfl) | (unfold hsF; rw [if_neg (by omega)]; rfl) | (rw [← hres, show (se i.toNat - k).toNat = (se i.toNat - (k + 1)).toNat + 1 by omega]; simp only [sgL]; simp_all [bI])) d_W_hasSigns_62
      · have _q := c2
        refine lv_aload_n hx hb d_W_hasSigns_31 rfl (lv_at hl 0 rfl) ?_
        refine gf_W_15 hx hb hts hown hK hP 0 rfl rfl d_W_hasSigns_32 ?_
        refine lv_iload_n hx hb d_W_hasSigns_35 rfl (lv_at hl 2 rfl) ?_
        refine li_cald hx hb hK hP 1 1 rfl rfl (by omega) (by omega) (by omega) d_W_hasSigns_36 ?_
        have f3 := hlt k.toNat
        refine lv_bipush (v := iI 42) hx hb d_W_hasSigns_37 (by decide) ?_
        refine li_icmp_eq (tgt := 53) hx hb d_W_hasSigns_39 (by decide) (by omega) (by omega) (fun c4 => ?_) (fun c4 => ?_)
        · have _q := c4
          refine lv_iconst (v := iI 1) hx hb d_W_hasSigns_53 rfl ?_
          exact fin _ _ _ (by first | (rw [← hres, show (se i.toNat - k).toNat = 0 by omega]; rfl) | (unfold hsF; rw [if_neg (by omega)]; rfl) | (rw [← hres, show (se i.toNat - k).toNat = (se i.toNat - (k + 1)).toNat + 1 by omega]; simp only [sgL]; simp_all [bI])) d_W_hasSigns_54
        · have _q := c4
          refine lv_aload_n hx hb d_W_hasSigns_42 rfl (lv_at hl 0 rfl) ?_
          refine gf_W_15 hx hb hts hown hK hP 0 rfl rfl d_W_hasSigns_43 ?_
          refine lv_iload_n hx hb d_W_hasSigns_46 rfl (lv_at hl 2 rfl) ?_
          refine li_cald hx hb hK hP 1 1 rfl rfl (by omega) (by omega) (by omega) d_W_hasSigns_47 ?_
          have f5 := hlt k.toNat
          refine lv_bipush (v := iI 63) hx hb d_W_hasSigns_48 (by decide) ?_
          refine li_icmp_ne (tgt := 55) hx hb d_W_hasSigns_50 (by decide) (by omega) (by omega) (fun c6 => ?_) (fun c6 => ?_)
          · have _q := c6
            obtain ⟨x7, ex7⟩ : ∃ y : Int, y = k + 1 := ⟨_, rfl⟩
            refine lv_iinc (v := iI x7) (lv' := [(2, .int (iI x7)), (0, .ref wo), (1, .int (iI i))]) hx hb d_W_hasSigns_55 hl (k := 2) rfl (by rw [ex7]; exact iI_add _ _) (by decide) rfl (fun ls hl => ?_)
            refine lv_goto (tgt := 21) hx hb d_W_hasSigns_58 (by decide) ?_
            exact ih x7 (by omega) (by omega) (by first | (subst_vars; unfold hsF; rw [if_pos (by omega)]; done) | (subst_vars; rw [← hres, show (se i.toNat - k).toNat = (se i.toNat - (k + 1)).toNat + 1 by omega, show (k + 1).toNat = k.toNat + 1 by omega]; simp only [sgL]; simp_all)) (by omega) _ (lv_sub hl [1, 2, 0] rfl)
          · have _q := c6
            refine lv_iconst (v := iI 1) hx hb d_W_hasSigns_53 rfl ?_
            exact fin _ _ _ (by first | (rw [← hres, show (se i.toNat - k).toNat = 0 by omega]; rfl) | (unfold hsF; rw [if_neg (by omega)]; rfl) | (rw [← hres, show (se i.toNat - k).toNat = (se i.toNat - (k + 1)).toNat + 1 by omega]; simp only [sgL]; simp_all [bI])) d_W_hasSigns_54
  refine lv_iload_n hx hb d_W_hasSigns_0 rfl (lv_at hl 1 rfl) ?_
  refine li_if_lt (tgt := 12) hx hb d_W_hasSigns_1 (by decide) (by omega) (fun c8 => ?_) (fun c8 => ?_)
  · have _q := c8
    refine lv_iconst (v := iI 0) hx hb d_W_hasSigns_12 rfl ?_
    exact fin _ _ _ (by first | (rw [← hres, show (se i.toNat - k).toNat = 0 by omega]; rfl) | (unfold hsF; rw [if_neg (by omega)]; rfl) | (rw [← hres, show (se i.toNat - k).toNat = (se i.toNat - (k + 1)).toNat + 1 by omega]; simp only [sgL]; simp_all [bI])) d_W_hasSigns_13
  · have _q := c8
    refine lv_iload_n hx hb d_W_hasSigns_4 rfl (lv_at hl 1 rfl) ?_
    refine lv_aload_n hx hb d_W_hasSigns_5 rfl (lv_at hl 0 rfl) ?_
    refine gf_W_28 hx hb hts hown hK hP 0 rfl rfl d_W_hasSigns_6 ?_
    refine li_icmp_lt (tgt := 14) hx hb d_W_hasSigns_9 (by decide) (by omega) (by omega) (fun c9 => ?_) (fun c9 => ?_)
    · have _q := c9
      refine lv_aload_n hx hb d_W_hasSigns_14 rfl (lv_at hl 0 rfl) ?_
      refine gf_W_21 hx hb hts hown hK hP 0 rfl rfl d_W_hasSigns_15 ?_
      refine lv_iload_n hx hb d_W_hasSigns_18 rfl (lv_at hl 1 rfl) ?_
      refine li_iald hx hb hK hP 2 0 rfl rfl (by omega) (by omega) (by omega) d_W_hasSigns_19 ?_
      have f10 := hsb i.toNat
      refine li_nm (fun x11 ex11 => ?_)
      refine lv_istore_n (lv' := [(2, .int (iI x11)), (0, .ref wo), (1, .int (iI i))]) hx hb d_W_hasSigns_20 rfl hl (by decide) rfl (fun ls hl => ?_)
      exact K_21 ((se i.toNat - x11).toNat + 1) x11 (by omega) (by omega) (by first | (subst_vars; unfold hsF; rw [if_pos (by omega)]; done) | (subst_vars; rw [← hres, show (se i.toNat - k).toNat = (se i.toNat - (k + 1)).toNat + 1 by omega, show (k + 1).toNat = k.toNat + 1 by omega]; simp only [sgL]; simp_all)) (Nat.lt_succ_self _) _ (lv_sub hl [1, 2, 0] rfl)
    · have _q := c9
      refine lv_iconst (v := iI 0) hx hb d_W_hasSigns_12 rfl ?_
      exact fin _ _ _ (by first | (rw [← hres, show (se i.toNat - k).toNat = 0 by omega]; rfl) | (unfold hsF; rw [if_neg (by omega)]; rfl) | (rw [← hres, show (se i.toNat - k).toNat = (se i.toNat - (k + 1)).toNat + 1 by omega]; simp only [sgL]; simp_all [bI])) d_W_hasSigns_13
theorem d_L_compareWord_0 : decode b_L_compareWord 0 = .ok (.iload_n 1, 1) := by decide +kernel
theorem d_L_compareWord_1 : decode b_L_compareWord 1 = .ok (.ifCond .lt 23, 3) := by decide +kernel
theorem d_L_compareWord_4 : decode b_L_compareWord 4 = .ok (.iload_n 1, 1) := by decide +kernel
theorem d_L_compareWord_5 : decode b_L_compareWord 5 = .ok (.aload_n 0, 1) := by decide +kernel
theorem d_L_compareWord_6 : decode b_L_compareWord 6 = .ok (.getfield 25, 3) := by decide +kernel
theorem d_L_compareWord_9 : decode b_L_compareWord 9 = .ok (.if_icmp .ge 15, 3) := by decide +kernel
theorem d_L_compareWord_12 : decode b_L_compareWord 12 = .ok (.iload_n 3, 1) := by decide +kernel
theorem d_L_compareWord_13 : decode b_L_compareWord 13 = .ok (.ifCond .lt 11, 3) := by decide +kernel
theorem d_L_compareWord_16 : decode b_L_compareWord 16 = .ok (.iload_n 3, 1) := by decide +kernel
theorem d_L_compareWord_17 : decode b_L_compareWord 17 = .ok (.aload_n 2, 1) := by decide +kernel
theorem d_L_compareWord_18 : decode b_L_compareWord 18 = .ok (.getfield 55, 3) := by decide +kernel
theorem d_L_compareWord_21 : decode b_L_compareWord 21 = .ok (.if_icmp .lt 5, 3) := by decide +kernel
theorem d_L_compareWord_24 : decode b_L_compareWord 24 = .ok (.iconst 1, 1) := by decide +kernel
theorem d_L_compareWord_25 : decode b_L_compareWord 25 = .ok (.ireturn, 1) := by decide +kernel
theorem d_L_compareWord_26 : decode b_L_compareWord 26 = .ok (.aload_n 0, 1) := by decide +kernel
theorem d_L_compareWord_27 : decode b_L_compareWord 27 = .ok (.getfield 11, 3) := by decide +kernel
theorem d_L_compareWord_30 : decode b_L_compareWord 30 = .ok (.aload_n 0, 1) := by decide +kernel
theorem d_L_compareWord_31 : decode b_L_compareWord 31 = .ok (.getfield 15, 3) := by decide +kernel
theorem d_L_compareWord_34 : decode b_L_compareWord 34 = .ok (.iload_n 1, 1) := by decide +kernel
theorem d_L_compareWord_35 : decode b_L_compareWord 35 = .ok (.iaload, 1) := by decide +kernel
theorem d_L_compareWord_36 : decode b_L_compareWord 36 = .ok (.aload_n 0, 1) := by decide +kernel
theorem d_L_compareWord_37 : decode b_L_compareWord 37 = .ok (.getfield 19, 3) := by decide +kernel
theorem d_L_compareWord_40 : decode b_L_compareWord 40 = .ok (.iload_n 1, 1) := by decide +kernel
theorem d_L_compareWord_41 : decode b_L_compareWord 41 = .ok (.iaload, 1) := by decide +kernel
theorem d_L_compareWord_42 : decode b_L_compareWord 42 = .ok (.aload_n 2, 1) := by decide +kernel
theorem d_L_compareWord_43 : decode b_L_compareWord 43 = .ok (.getfield 64, 3) := by decide +kernel
theorem d_L_compareWord_46 : decode b_L_compareWord 46 = .ok (.aload_n 2, 1) := by decide +kernel
theorem d_L_compareWord_47 : decode b_L_compareWord 47 = .ok (.getfield 65, 3) := by decide +kernel
theorem d_L_compareWord_50 : decode b_L_compareWord 50 = .ok (.iload_n 3, 1) := by decide +kernel
theorem d_L_compareWord_51 : decode b_L_compareWord 51 = .ok (.iaload, 1) := by decide +kernel
theorem d_L_compareWord_52 : decode b_L_compareWord 52 = .ok (.aload_n 2, 1) := by decide +kernel
theorem d_L_compareWord_53 : decode b_L_compareWord 53 = .ok (.getfield 66, 3) := by decide +kernel
theorem d_L_compareWord_56 : decode b_L_compareWord 56 = .ok (.iload_n 3, 1) := by decide +kernel
theorem d_L_compareWord_57 : decode b_L_compareWord 57 = .ok (.iaload, 1) := by decide +kernel
theorem d_L_compareWord_58 : decode b_L_compareWord 58 = .ok (.invokestatic 87, 3) := by decide +kernel
theorem d_L_compareWord_61 : decode b_L_compareWord 61 = .ok (.ireturn, 1) := by decide +kernel
set_option maxHeartbeats 4000000 in
set_option maxRecDepth 100000 in
theorem c_L_compareWord (l : Launch) (dC : Nat → ClassId) (dI : Nat → Nat → Nat) (kA : Nat → ClassId) (xo : Nat) (xl : Nat) (xb : Nat) (xe : Nat) (xh : Nat) (xn : Nat) (xk : Nat) (xc : Int) (xz : Int) (xs : Bool) (lx : Nat → Int) (bx : Nat → Int) (ex : Nat → Int) (hd : Nat → Int) (k : Int) (wo : Nat) (wl : Nat) (wb : Nat) (we : Nat) (wn : Nat) (wk : Nat) (wz : Int) (lt : Nat → Int) (sb : Nat → Int) (se : Nat → Int) (i : Int) (hL : LR xn xk xc xz lx bx ex hd) (hW : WR wn wk wz lt sb se) (hk : 0 ≤ k ∧ k ≤ xz) (hi : 0 ≤ i ∧ i < wz) : Met l y_L_compareWord (wsy y_L_compareWord b_L_compareWord 4 (some .int)) (rmd 1 0 0) (li_Pr (dC, dI) CL (TY kA) [.ref xo, .int (iI k), .ref wo, .int (iI i)] (va_P (dC, dI) CL [(xo, .inr (5, [.ref xl, .int (iI xc), .ref xb, .ref xe, .ref xh, .int (iI xz), .int (iI (bI xs))])), (xl, .inl (kA 1, xn, .inl (aI lx))), (xb, .inl (kA 0, xk, .inl (aI bx))), (xe, .inl (kA 0, xk, .inl (aI ex))), (xh, .inl (kA 0, xk, .inl (aI hd))), (wo, .inr (9, [.ref wl, .ref wb, .ref we, .int (iI wz)])), (wl, .inl (kA 1, wn, .inl (aI lt))), (wb, .inl (kA 0, wk, .inl (aI sb))), (we, .inl (kA 0, wk, .inl (aI se)))])) (k2_QcV (.int (iI (lwG xz xn lx bx ex wn lt sb se i k)))) 0 0 (fun _ => False) := by
  refine li_mr (by decide) (Nat.le_of_ble_eq_true rfl) (by rfl) ?_
  intro p e s m args below meth c Q C hP hK hN hG fin ls hl
  obtain ⟨hx, hb, hr, hml, hown, hts, hlocks, hin⟩ := C
  have hown : s.vm.findClass R_L = some m.cls := hown
  have hP : va_P (dC, dI) CL [(xo, .inr (5, [.ref xl, .int (iI xc), .ref xb, .ref xe, .ref xh, .int (iI xz), .int (iI (bI xs))])), (xl, .inl (kA 1, xn, .inl (aI lx))), (xb, .inl (kA 0, xk, .inl (aI bx))), (xe, .inl (kA 0, xk, .inl (aI ex))), (xh, .inl (kA 0, xk, .inl (aI hd))), (wo, .inr (9, [.ref wl, .ref wb, .ref we, .int (iI wz)])), (wl, .inl (kA 1, wn, .inl (aI lt))), (wb, .inl (kA 0, wk, .inl (aI sb))), (we, .inl (kA 0, wk, .inl (aI se)))] s.heap := hP
  have hl : lv_has ls 4 [(0, .ref xo), (1, .int (iI k)), (2, .ref wo), (3, .int (iI i))] := hl
  obtain ⟨hxn, hxk, hxz, hxc, hlx, hbx, hex, hhd⟩ := id hL
  obtain ⟨hwn, hwk, hwz, hlt, hsb, hse⟩ := id hW
  refine lv_iload_n hx hb d_L_compareWord_0 rfl (lv_at hl 1 rfl) ?_
  refine li_if_lt (tgt := 24) hx hb d_L_compareWord_1 (by decide) (by omega) (fun c1 => ?_) (fun c1 => ?_)
  · have _q := c1
    exact absurd c1 (by omega)
  · have _q := c1
    refine lv_iload_n hx hb d_L_compareWord_4 rfl (lv_at hl 1 rfl) ?_
    refine lv_aload_n hx hb d_L_compareWord_5 rfl (lv_at hl 0 rfl) ?_
    refine gf_L_25 hx hb hts hown hK hP 0 rfl rfl d_L_compareWord_6 ?_
    refine li_icmp_ge (tgt := 24) hx hb d_L_compareWord_9 (by decide) (by omega) (by omega) (fun c2 => ?_) (fun c2 => ?_)
    · have _q := c2
      refine lv_iconst (v := iI 1) hx hb d_L_compareWord_24 rfl ?_
      exact fin _ _ _ (by unfold lwG; first | (rw [if_pos (by omega)]; rfl) | (rw [if_pos (by omega)]; done) | (rw [if_neg (by omega)]; done)) d_L_compareWord_25
    · have _q := c2
      refine lv_iload_n hx hb d_L_compareWord_12 rfl (lv_at hl 3 rfl) ?_
      refine li_if_lt (tgt := 24) hx hb d_L_compareWord_13 (by decide) (by omega) (fun c3 => ?_) (fun c3 => ?_)
      · have _q := c3
        exact absurd c3 (by omega)
      · have _q := c3
        refine lv_iload_n hx hb d_L_compareWord_16 rfl (lv_at hl 3 rfl) ?_
        refine lv_aload_n hx hb d_L_compareWord_17 rfl (lv_at hl 2 rfl) ?_
        refine gf_L_55 hx hb hts hN hown hK hP 5 rfl rfl d_L_compareWord_18 ?_
        refine li_icmp_lt (tgt := 26) hx hb d_L_compareWord_21 (by decide) (by omega) (by omega) (fun c4 => ?_) (fun c4 => ?_)
        · have _q := c4
          refine lv_aload_n hx hb d_L_compareWord_26 rfl (lv_at hl 0 rfl) ?_
          refine gf_L_11 hx hb hts hown hK hP 0 rfl rfl d_L_compareWord_27 ?_
          refine lv_aload_n hx hb d_L_compareWord_30 rfl (lv_at hl 0 rfl) ?_
          refine gf_L_15 hx hb hts hown hK hP 0 rfl rfl d_L_compareWord_31 ?_
          refine lv_iload_n hx hb d_L_compareWord_34 rfl (lv_at hl 1 rfl) ?_
          refine li_iald hx hb hK hP 2 0 rfl rfl (by omega) (by omega) (by omega) d_L_compareWord_35 ?_
          have f5 := hbx k.toNat
          refine lv_aload_n hx hb d_L_compareWord_36 rfl (lv_at hl 0 rfl) ?_
          refine gf_L_19 hx hb hts hown hK hP 0 rfl rfl d_L_compareWord_37 ?_
          refine lv_iload_n hx hb d_L_compareWord_40 rfl (lv_at hl 1 rfl) ?_
          refine li_iald hx hb hK hP 3 0 rfl rfl (by omega) (by omega) (by omega) d_L_compareWord_41 ?_
          have f6 := hex k.toNat
          refine lv_aload_n hx hb d_L_compareWord_42 rfl (lv_at hl 2 rfl) ?_
          refine gf_L_64 hx hb hts hN hown hK hP 5 rfl rfl d_L_compareWord_43 ?_
          refine lv_aload_n hx hb d_L_compareWord_46 rfl (lv_at hl 2 rfl) ?_
          refine gf_L_65 hx hb hts hN hown hK hP 5 rfl rfl d_L_compareWord_47 ?_
          refine lv_iload_n hx hb d_L_compareWord_50 rfl (lv_at hl 3 rfl) ?_
          refine li_iald hx hb hK hP 7 0 rfl rfl (by omega) (by omega) (by omega) d_L_compareWord_51 ?_
          have f7 := hsb i.toNat
          refine lv_aload_n hx hb d_L_compareWord_52 rfl (lv_at hl 2 rfl) ?_
          refine gf_L_66 hx hb hts hN hown hK hP 5 rfl rfl d_L_compareWord_53 ?_
          refine lv_iload_n hx hb d_L_compareWord_56 rfl (lv_at hl 3 rfl) ?_
          refine li_iald hx hb hK hP 8 0 rfl rfl (by omega) (by omega) (by omega) d_L_compareWord_57 ?_
          have f8 := hse i.toNat
          refine li_callr ((va_runSN (As := [.ref xl, .int (iI (bx k.toNat)), .int (iI (ex k.toNat)), .ref wl, .int (iI (sb i.toNat)), .int (iI (se i.toNat))]) (rest := []) ⟨hx, hb, hml, hown, hts⟩ (c_Q_compareSpans l dC dI kA xl xn lx (bx k.toNat) (ex k.toNat) wl wn lt (sb i.toNat) (se i.toNat) (by omega) (by intro q; have := hlx q; omega) (by intro q; have := hlt q; omega) (by omega) (by omega)) (cw_L_87 hts hN rfl rfl ⟨Nat.le_of_ble_eq_true rfl, Nat.le_of_ble_eq_true rfl⟩) (li_preS (hP.sub [1, 6] rfl) hK hN hG.rd) rfl rfl hl.1 rfl (lv_room (Nat.le_of_ble_eq_true rfl)) d_L_compareWord_58 ⟨(by show 0 + 0 ≤ 0; omega), (by show 0 + 0 ≤ 0; omega)⟩).run) ?_
          exact fin _ _ _ (by unfold lwG; first | (rw [if_pos (by omega)]; rfl) | (rw [if_pos (by omega)]; done) | (rw [if_neg (by omega)]; done)) d_L_compareWord_61
        · have _q := c4
          exact absurd c4 (by omega)
theorem d_L_countBefore_0 : decode b_L_countBefore 0 = .ok (.iconst 0, 1) := by decide +kernel
theorem d_L_countBefore_1 : decode b_L_countBefore 1 = .ok (.istore_n 3, 1) := by decide +kernel
theorem d_L_countBefore_2 : decode b_L_countBefore 2 = .ok (.aload_n 0, 1) := by decide +kernel
theorem d_L_countBefore_3 : decode b_L_countBefore 3 = .ok (.getfield 25, 3) := by decide +kernel
theorem d_L_countBefore_6 : decode b_L_countBefore 6 = .ok (.istore 4, 2) := by decide +kernel
theorem d_L_countBefore_8 : decode b_L_countBefore 8 = .ok (.iconst 0, 1) := by decide +kernel
theorem d_L_countBefore_9 : decode b_L_countBefore 9 = .ok (.istore 5, 2) := by decide +kernel
theorem d_L_countBefore_11 : decode b_L_countBefore 11 = .ok (.iload 5, 2) := by decide +kernel
theorem d_L_countBefore_13 : decode b_L_countBefore 13 = .ok (.bipush 32, 2) := by decide +kernel
theorem d_L_countBefore_15 : decode b_L_countBefore 15 = .ok (.if_icmp .ge 46, 3) := by decide +kernel
theorem d_L_countBefore_18 : decode b_L_countBefore 18 = .ok (.iload_n 3, 1) := by decide +kernel
theorem d_L_countBefore_19 : decode b_L_countBefore 19 = .ok (.iload 4, 2) := by decide +kernel
theorem d_L_countBefore_21 : decode b_L_countBefore 21 = .ok (.if_icmp .ge 40, 3) := by decide +kernel
theorem d_L_countBefore_24 : decode b_L_countBefore 24 = .ok (.iload_n 3, 1) := by decide +kernel
theorem d_L_countBefore_25 : decode b_L_countBefore 25 = .ok (.iload 4, 2) := by decide +kernel
theorem d_L_countBefore_27 : decode b_L_countBefore 27 = .ok (.iadd, 1) := by decide +kernel
theorem d_L_countBefore_28 : decode b_L_countBefore 28 = .ok (.iconst 2, 1) := by decide +kernel
theorem d_L_countBefore_29 : decode b_L_countBefore 29 = .ok (.idiv, 1) := by decide +kernel
theorem d_L_countBefore_30 : decode b_L_countBefore 30 = .ok (.istore 6, 2) := by decide +kernel
theorem d_L_countBefore_32 : decode b_L_countBefore 32 = .ok (.aload_n 0, 1) := by decide +kernel
theorem d_L_countBefore_33 : decode b_L_countBefore 33 = .ok (.iload 6, 2) := by decide +kernel
theorem d_L_countBefore_35 : decode b_L_countBefore 35 = .ok (.aload_n 1, 1) := by decide +kernel
theorem d_L_countBefore_36 : decode b_L_countBefore 36 = .ok (.iload_n 2, 1) := by decide +kernel
theorem d_L_countBefore_37 : decode b_L_countBefore 37 = .ok (.invokevirtual 60, 3) := by decide +kernel
theorem d_L_countBefore_40 : decode b_L_countBefore 40 = .ok (.ifCond .ge 11, 3) := by decide +kernel
theorem d_L_countBefore_43 : decode b_L_countBefore 43 = .ok (.iload 6, 2) := by decide +kernel
theorem d_L_countBefore_45 : decode b_L_countBefore 45 = .ok (.iconst 1, 1) := by decide +kernel
theorem d_L_countBefore_46 : decode b_L_countBefore 46 = .ok (.iadd, 1) := by decide +kernel
theorem d_L_countBefore_47 : decode b_L_countBefore 47 = .ok (.istore_n 3, 1) := by decide +kernel
theorem d_L_countBefore_48 : decode b_L_countBefore 48 = .ok (.goto 7, 3) := by decide +kernel
theorem d_L_countBefore_51 : decode b_L_countBefore 51 = .ok (.iload 6, 2) := by decide +kernel
theorem d_L_countBefore_53 : decode b_L_countBefore 53 = .ok (.istore 4, 2) := by decide +kernel
theorem d_L_countBefore_55 : decode b_L_countBefore 55 = .ok (.iinc 5 1, 3) := by decide +kernel
theorem d_L_countBefore_58 : decode b_L_countBefore 58 = .ok (.goto (-47), 3) := by decide +kernel
theorem d_L_countBefore_61 : decode b_L_countBefore 61 = .ok (.iload_n 3, 1) := by decide +kernel
theorem d_L_countBefore_62 : decode b_L_countBefore 62 = .ok (.ireturn, 1) := by decide +kernel
set_option maxHeartbeats 4000000 in
set_option maxRecDepth 100000 in
theorem c_L_countBefore (l : Launch) (dC : Nat → ClassId) (dI : Nat → Nat → Nat) (kA : Nat → ClassId) (xo : Nat) (xl : Nat) (xb : Nat) (xe : Nat) (xh : Nat) (xn : Nat) (xk : Nat) (xc : Int) (xz : Int) (xs : Bool) (lx : Nat → Int) (bx : Nat → Int) (ex : Nat → Int) (hd : Nat → Int) (wo : Nat) (wl : Nat) (wb : Nat) (we : Nat) (wn : Nat) (wk : Nat) (wz : Int) (lt : Nat → Int) (sb : Nat → Int) (se : Nat → Int) (i : Int) (hL : LR xn xk xc xz lx bx ex hd) (hW : WR wn wk wz lt sb se) (hi : 0 ≤ i ∧ i < wz) : Met l y_L_countBefore (wsy y_L_countBefore b_L_countBefore 7 (some .int)) (rmd 2 0 0) (li_Pr (dC, dI) CL (TY kA) [.ref xo, .ref wo, .int (iI i)] (va_P (dC, dI) CL [(xo, .inr (5, [.ref xl, .int (iI xc), .ref xb, .ref xe, .ref xh, .int (iI xz), .int (iI (bI xs))])), (xl, .inl (kA 1, xn, .inl (aI lx))), (xb, .inl (kA 0, xk, .inl (aI bx))), (xe, .inl (kA 0, xk, .inl (aI ex))), (xh, .inl (kA 0, xk, .inl (aI hd))), (wo, .inr (9, [.ref wl, .ref wb, .ref we, .int (iI wz)])), (wl, .inl (kA 1, wn, .inl (aI lt))), (wb, .inl (kA 0, wk, .inl (aI sb))), (we, .inl (kA 0, wk, .inl (aI se)))])) (k2_QcV (.int (iI (bsL (lwF xn lx bx ex wn lt sb se i) 32 0 xz)))) 0 0 (fun _ => False) := by
  refine li_mr (by decide) (Nat.le_of_ble_eq_true rfl) (by rfl) ?_
  intro p e s m args below meth c Q C hP hK hN hG fin ls hl
  obtain ⟨hx, hb, hr, hml, hown, hts, hlocks, hin⟩ := C
  have hown : s.vm.findClass R_L = some m.cls := hown
  have hP : va_P (dC, dI) CL [(xo, .inr (5, [.ref xl, .int (iI xc), .ref xb, .ref xe, .ref xh, .int (iI xz), .int (iI (bI xs))])), (xl, .inl (kA 1, xn, .inl (aI lx))), (xb, .inl (kA 0, xk, .inl (aI bx))), (xe, .inl (kA 0, xk, .inl (aI ex))), (xh, .inl (kA 0, xk, .inl (aI hd))), (wo, .inr (9, [.ref wl, .ref wb, .ref we, .int (iI wz)])), (wl, .inl (kA 1, wn, .inl (aI lt))), (wb, .inl (kA 0, wk, .inl (aI sb))), (we, .inl (kA 0, wk, .inl (aI se)))] s.heap := hP
  have hl : lv_has ls 7 [(0, .ref xo), (1, .ref wo), (2, .int (iI i))] := hl
  obtain ⟨hxn, hxk, hxz, hxc, hlx, hbx, hex, hhd⟩ := id hL
  obtain ⟨hwn, hwk, hwz, hlt, hsb, hse⟩ := id hW
  have K_11 : ∀ (nn : Nat) (lo : Int) (hi : Int) (tn : Int), (0 ≤ lo ∧ lo ≤ hi ∧ hi ≤ xz ∧ 0 ≤ tn ∧ tn ≤ 32) → (bsL (lwF xn lx bx ex wn lt sb se i) ((32 : Int) - tn).toNat lo hi = bsL (lwF xn lx bx ex wn lt sb se i) 32 0 xz) → (((32 : Int) - tn).toNat < nn) → ∀ ls : Array Slot, lv_has ls 7 [(0, .ref xo), (1, .ref wo), (2, .int (iI i)), (3, .int (iI lo)), (4, .int (iI hi)), (5, .int (iI tn))] → W p l e (rmd 2 0 0) s m args below meth c s.heap [] 0 0 Q (F0 m 11 ls []) := by
    intro nn
    induction nn with
    | zero => intro lo hi tn hlo hres hm; exact absurd hm (Nat.not_lt_zero _)
    | succ nn ih =>
      intro lo hi tn hlo hres hm ls hl
      refine lv_iload hx hb d_L_countBefore_11 (lv_at hl 5 rfl) ?_
      refine lv_bipush (v := iI 32) hx hb d_L_countBefore_13 (by decide) ?_
      refine li_icmp_ge (tgt := 61) hx hb d_L_countBefore_15 (by decide) (by omega) (by omega) (fun c1 => ?_) (fun c1 => ?_)
      · have _q := c1
        refine lv_iload_n hx hb d_L_countBefore_61 rfl (lv_at hl 3 rfl) ?_
        exact fin _ _ _ (by first | (rw [← hres, show (32 - tn).toNat = 0 by omega]; rfl) | (rw [← hres, show (32 - tn).toNat = (32 - (tn + 1)).toNat + 1 by omega]; simp only [bsL]; rw [if_neg (by omega)])) d_L_countBefore_62
      · have _q := c1
        refine lv_iload_n hx hb d_L_countBefore_18 rfl (lv_at hl 3 rfl) ?_
        refine lv_iload hx hb d_L_countBefore_19 (lv_at hl 4 rfl) ?_
        refine li_icmp_ge (tgt := 61) hx hb d_L_countBefore_21 (by decide) (by omega) (by omega) (fun c2 => ?_) (fun c2 => ?_)
        · have _q := c2
          refine lv_iload_n hx hb d_L_countBefore_61 rfl (lv_at hl 3 rfl) ?_
          exact fin _ _ _ (by first | (rw [← hres, show (32 - tn).toNat = 0 by omega]; rfl) | (rw [← hres, show (32 - tn).toNat = (32 - (tn + 1)).toNat + 1 by omega]; simp only [bsL]; rw [if_neg (by omega)])) d_L_countBefore_62
        · have _q := c2
          refine lv_iload_n hx hb d_L_countBefore_24 rfl (lv_at hl 3 rfl) ?_
          refine lv_iload hx hb d_L_countBefore_25 (lv_at hl 4 rfl) ?_
          refine li_iadd hx hb d_L_countBefore_27 ?_
          refine lv_iconst (v := iI 2) hx hb d_L_countBefore_28 rfl ?_
          refine li_idiv hx hb d_L_countBefore_29 (by omega) (by omega) (by omega) (by omega) ?_
          refine li_nm (fun x3 ex3 => ?_)
          refine lv_istore (lv' := [(6, .int (iI x3)), (0, .ref xo), (1, .ref wo), (2, .int (iI i)), (3, .int (iI lo)), (4, .int (iI hi)), (5, .int (iI tn))]) hx hb d_L_countBefore_30 hl (by decide) rfl (fun ls hl => ?_)
          refine lv_aload_n hx hb d_L_countBefore_32 rfl (lv_at hl 1 rfl) ?_
          refine lv_iload hx hb d_L_countBefore_33 (lv_at hl 0 rfl) ?_
          refine lv_aload_n hx hb d_L_countBefore_35 rfl (lv_at hl 2 rfl) ?_
          refine lv_iload_n hx hb d_L_countBefore_36 rfl (lv_at hl 3 rfl) ?_
          refine li_callr ((va_runV (As := [.int (iI x3), .ref wo, .int (iI i)]) (rest := []) ⟨hx, hb, hml, hown, hts⟩ (c_L_compareWord l dC dI kA xo xl xb xe xh xn xk xc xz xs lx bx ex hd x3 wo wl wb we wn wk wz lt sb se i (by omega) (by omega) (by omega) (by omega)) (cw_L_60 hts rfl rfl ⟨by decide, by decide⟩) (li_preV (va_recv hK hP (ci := 5) (q0 := 0) rfl rfl) (hP.sub [0, 1, 2, 3, 4, 5, 6, 7, 8] rfl) hK hN hG.rd) rfl rfl hl.1 rfl (lv_room (Nat.le_of_ble_eq_true rfl)) d_L_countBefore_37 ⟨by decide, by decide⟩).run) ?_
          rw [lwG_p (by omega)]
          refine li_if_ge (tgt := 51) hx hb d_L_countBefore_40 (by decide) (by exact lwF_r hL hW) (fun c4 => ?_) (fun c4 => ?_)
          · have _q := c4
            refine lv_iload hx hb d_L_countBefore_51 (lv_at hl 0 rfl) ?_
            refine lv_istore (lv' := [(4, .int (iI x3)), (6, .int (iI x3)), (0, .ref xo), (1, .ref wo), (2, .int (iI i)), (3, .int (iI lo)), (5, .int (iI tn))]) hx hb d_L_countBefore_53 hl (by decide) rfl (fun ls hl => ?_)
            obtain ⟨x5, ex5⟩ : ∃ y : Int, y = tn + 1 := ⟨_, rfl⟩
            refine lv_iinc (v := iI x5) (lv' := [(5, .int (iI x5)), (4, .int (iI x3)), (6, .int (iI x3)), (0, .ref xo), (1, .ref wo), (2, .int (iI i)), (3, .int (iI lo))]) hx hb d_L_countBefore_55 hl (k := 6) rfl (by rw [ex5]; exact iI_add _ _) (by decide) rfl (fun ls hl => ?_)
            refine lv_goto (tgt := 11) hx hb d_L_countBefore_58 (by decide) ?_
            exact ih lo x3 x5 (by omega) (by first | rfl | (subst_vars; rw [← hres, show (32 - tn).toNat = (32 - (tn + 1)).toNat + 1 by omega]; simp only [bsL]; rw [if_pos (by omega)]; first | rw [if_pos (by omega)] | rw [if_neg (by omega)])) (by omega) _ (lv_sub hl [3, 4, 5, 6, 1, 0] rfl)
          · have _q := c4
            refine lv_iload hx hb d_L_countBefore_43 (lv_at hl 0 rfl) ?_
            refine lv_iconst (v := iI 1) hx hb d_L_countBefore_45 rfl ?_
            refine li_iadd hx hb d_L_countBefore_46 ?_
            refine li_nm (fun x6 ex6 => ?_)
            refine lv_istore_n (lv' := [(3, .int (iI x6)), (6, .int (iI x3)), (0, .ref xo), (1, .ref wo), (2, .int (iI i)), (4, .int (iI hi)), (5, .int (iI tn))]) hx hb d_L_countBefore_47 rfl hl (by decide) rfl (fun ls hl => ?_)
            refine lv_goto (tgt := 55) hx hb d_L_countBefore_48 (by decide) ?_
            obtain ⟨x7, ex7⟩ : ∃ y : Int, y = tn + 1 := ⟨_, rfl⟩
            refine lv_iinc (v := iI x7) (lv' := [(5, .int (iI x7)), (3, .int (iI x6)), (6, .int (iI x3)), (0, .ref xo), (1, .ref wo), (2, .int (iI i)), (4, .int (iI hi))]) hx hb d_L_countBefore_55 hl (k := 6) rfl (by rw [ex7]; exact iI_add _ _) (by decide) rfl (fun ls hl => ?_)
            refine lv_goto (tgt := 11) hx hb d_L_countBefore_58 (by decide) ?_
            exact ih x6 hi x7 (by omega) (by first | rfl | (subst_vars; rw [← hres, show (32 - tn).toNat = (32 - (tn + 1)).toNat + 1 by omega]; simp only [bsL]; rw [if_pos (by omega)]; first | rw [if_pos (by omega)] | rw [if_neg (by omega)])) (by omega) _ (lv_sub hl [3, 4, 5, 1, 6, 0] rfl)
  refine lv_iconst (v := iI 0) hx hb d_L_countBefore_0 rfl ?_
  refine lv_istore_n (lv' := [(3, .int (iI 0)), (0, .ref xo), (1, .ref wo), (2, .int (iI i))]) hx hb d_L_countBefore_1 rfl hl (by decide) rfl (fun ls hl => ?_)
  refine lv_aload_n hx hb d_L_countBefore_2 rfl (lv_at hl 1 rfl) ?_
  refine gf_L_25 hx hb hts hown hK hP 0 rfl rfl d_L_countBefore_3 ?_
  refine lv_istore (lv' := [(4, .int (iI xz)), (3, .int (iI 0)), (0, .ref xo), (1, .ref wo), (2, .int (iI i))]) hx hb d_L_countBefore_6 hl (by decide) rfl (fun ls hl => ?_)
  refine lv_iconst (v := iI 0) hx hb d_L_countBefore_8 rfl ?_
  refine lv_istore (lv' := [(5, .int (iI 0)), (4, .int (iI xz)), (3, .int (iI 0)), (0, .ref xo), (1, .ref wo), (2, .int (iI i))]) hx hb d_L_countBefore_9 hl (by decide) rfl (fun ls hl => ?_)
  exact K_11 (((32 : Int) - 0).toNat + 1) 0 xz 0 (by omega) (by first | rfl | (subst_vars; rw [← hres, show (32 - tn).toNat = (32 - (tn + 1)).toNat + 1 by omega]; simp only [bsL]; rw [if_pos (by omega)]; first | rw [if_pos (by omega)] | rw [if_neg (by omega)])) (Nat.lt_succ_self _) _ (lv_sub hl [3, 4, 5, 2, 1, 0] rfl)
theorem d_L_character_0 : decode b_L_character 0 = .ok (.iload_n 1, 1) := by decide +kernel
theorem d_L_character_1 : decode b_L_character 1 = .ok (.ifCond .lt 32, 3) := by decide +kernel
theorem d_L_character_4 : decode b_L_character 4 = .ok (.iload_n 1, 1) := by decide +kernel
theorem d_L_character_5 : decode b_L_character 5 = .ok (.aload_n 0, 1) := by decide +kernel
theorem d_L_character_6 : decode b_L_character 6 = .ok (.getfield 25, 3) := by decide +kernel
theorem d_L_character_9 : decode b_L_character 9 = .ok (.if_icmp .ge 24, 3) := by decide +kernel
theorem d_L_character_12 : decode b_L_character 12 = .ok (.iload_n 2, 1) := by decide +kernel
theorem d_L_character_13 : decode b_L_character 13 = .ok (.ifCond .lt 20, 3) := by decide +kernel
theorem d_L_character_16 : decode b_L_character 16 = .ok (.iload_n 2, 1) := by decide +kernel
theorem d_L_character_17 : decode b_L_character 17 = .ok (.aload_n 0, 1) := by decide +kernel
theorem d_L_character_18 : decode b_L_character 18 = .ok (.getfield 19, 3) := by decide +kernel
theorem d_L_character_21 : decode b_L_character 21 = .ok (.iload_n 1, 1) := by decide +kernel
theorem d_L_character_22 : decode b_L_character 22 = .ok (.iaload, 1) := by decide +kernel
theorem d_L_character_23 : decode b_L_character 23 = .ok (.aload_n 0, 1) := by decide +kernel
theorem d_L_character_24 : decode b_L_character 24 = .ok (.getfield 15, 3) := by decide +kernel
theorem d_L_character_27 : decode b_L_character 27 = .ok (.iload_n 1, 1) := by decide +kernel
theorem d_L_character_28 : decode b_L_character 28 = .ok (.iaload, 1) := by decide +kernel
theorem d_L_character_29 : decode b_L_character 29 = .ok (.isub, 1) := by decide +kernel
theorem d_L_character_30 : decode b_L_character 30 = .ok (.if_icmp .lt 6, 3) := by decide +kernel
theorem d_L_character_33 : decode b_L_character 33 = .ok (.bipush 32, 2) := by decide +kernel
theorem d_L_character_35 : decode b_L_character 35 = .ok (.ireturn, 1) := by decide +kernel
theorem d_L_character_36 : decode b_L_character 36 = .ok (.aload_n 0, 1) := by decide +kernel
theorem d_L_character_37 : decode b_L_character 37 = .ok (.getfield 11, 3) := by decide +kernel
theorem d_L_character_40 : decode b_L_character 40 = .ok (.aload_n 0, 1) := by decide +kernel
theorem d_L_character_41 : decode b_L_character 41 = .ok (.getfield 15, 3) := by decide +kernel
theorem d_L_character_44 : decode b_L_character 44 = .ok (.iload_n 1, 1) := by decide +kernel
theorem d_L_character_45 : decode b_L_character 45 = .ok (.iaload, 1) := by decide +kernel
theorem d_L_character_46 : decode b_L_character 46 = .ok (.iload_n 2, 1) := by decide +kernel
theorem d_L_character_47 : decode b_L_character 47 = .ok (.iadd, 1) := by decide +kernel
theorem d_L_character_48 : decode b_L_character 48 = .ok (.caload, 1) := by decide +kernel
theorem d_L_character_49 : decode b_L_character 49 = .ok (.ireturn, 1) := by decide +kernel
set_option maxHeartbeats 4000000 in
set_option maxRecDepth 100000 in
theorem c_L_character (l : Launch) (dC : Nat → ClassId) (dI : Nat → Nat → Nat) (kA : Nat → ClassId) (xo : Nat) (xl : Nat) (xb : Nat) (xe : Nat) (xh : Nat) (xn : Nat) (xk : Nat) (xc : Int) (xz : Int) (xs : Bool) (lx : Nat → Int) (bx : Nat → Int) (ex : Nat → Int) (hd : Nat → Int) (k : Int) (i : Int) (hL : LR xn xk xc xz lx bx ex hd) (hk : -2147483648 ≤ k ∧ k < 2147483648) (hi : -2147483648 ≤ i ∧ i < 2147483648) : Met l y_L_character (wsy y_L_character b_L_character 3 (some .char)) (rmd 0 0 0) (li_Pr (dC, dI) CL (TY kA) [.ref xo, .int (iI k), .int (iI i)] (va_P (dC, dI) CL [(xo, .inr (5, [.ref xl, .int (iI xc), .ref xb, .ref xe, .ref xh, .int (iI xz), .int (iI (bI xs))])), (xl, .inl (kA 1, xn, .inl (aI lx))), (xb, .inl (kA 0, xk, .inl (aI bx))), (xe, .inl (kA 0, xk, .inl (aI ex))), (xh, .inl (kA 0, xk, .inl (aI hd)))])) (k2_QcV (.int (iI (chF xz lx bx ex k i)))) 0 0 (fun _ => False) := by
  refine li_mr (by decide) (Nat.le_of_ble_eq_true rfl) (by unfold chF; split; (have := (show LR _ _ _ _ _ _ _ _ from hL).2.2.2.2.1 (bx k.toNat + i).toNat; exact li_narC2 this.1 (by omega)); exact li_narC2 (by omega) (by omega)) ?_
  intro p e s m args below meth c Q C hP hK hN hG fin ls hl
  obtain ⟨hx, hb, hr, hml, hown, hts, hlocks, hin⟩ := C
  have hown : s.vm.findClass R_L = some m.cls := hown
  have hP : va_P (dC, dI) CL [(xo, .inr (5, [.ref xl, .int (iI xc), .ref xb, .ref xe, .ref xh, .int (iI xz), .int (iI (bI xs))])), (xl, .inl (kA 1, xn, .inl (aI lx))), (xb, .inl (kA 0, xk, .inl (aI bx))), (xe, .inl (kA 0, xk, .inl (aI ex))), (xh, .inl (kA 0, xk, .inl (aI hd)))] s.heap := hP
  have hl : lv_has ls 3 [(0, .ref xo), (1, .int (iI k)), (2, .int (iI i))] := hl
  obtain ⟨hxn, hxk, hxz, hxc, hlx, hbx, hex, hhd⟩ := id hL
  refine lv_iload_n hx hb d_L_character_0 rfl (lv_at hl 1 rfl) ?_
  refine li_if_lt (tgt := 33) hx hb d_L_character_1 (by decide) (by omega) (fun c1 => ?_) (fun c1 => ?_)
  · have _q := c1
    refine lv_bipush (v := iI 32) hx hb d_L_character_33 (by decide) ?_
    exact fin _ _ _ (by unfold chF; first | (rw [if_neg (by omega)]; done) | (rw [if_pos (by omega)]; done)) d_L_character_35
  · have _q := c1
    refine lv_iload_n hx hb d_L_character_4 rfl (lv_at hl 1 rfl) ?_
    refine lv_aload_n hx hb d_L_character_5 rfl (lv_at hl 0 rfl) ?_
    refine gf_L_25 hx hb hts hown hK hP 0 rfl rfl d_L_character_6 ?_
    refine li_icmp_ge (tgt := 33) hx hb d_L_character_9 (by decide) (by omega) (by omega) (fun c2 => ?_) (fun c2 => ?_)
    · have _q := c2
      refine lv_bipush (v := iI 32) hx hb d_L_character_33 (by decide) ?_
      exact fin _ _ _ (by unfold chF; first | (rw [if_neg (by omega)]; done) | (rw [if_pos (by omega)]; done)) d_L_character_35
    · have _q := c2
      refine lv_iload_n hx hb d_L_character_12 rfl (lv_at hl 2 rfl) ?_
      refine li_if_lt (tgt := 33) hx hb d_L_character_13 (by decide) (by omega) (fun c3 => ?_) (fun c3 => ?_)
      · have _q := c3
        refine lv_bipush (v := iI 32) hx hb d_L_character_33 (by decide) ?_
        exact fin _ _ _ (by unfold chF; first | (rw [if_neg (by omega)]; done) | (rw [if_pos (by omega)]; done)) d_L_character_35
      · have _q := c3
        refine lv_iload_n hx hb d_L_character_16 rfl (lv_at hl 2 rfl) ?_
        refine lv_aload_n hx hb d_L_character_17 rfl (lv_at hl 0 rfl) ?_
        refine gf_L_19 hx hb hts hown hK hP 0 rfl rfl d_L_character_18 ?_
        refine lv_iload_n hx hb d_L_character_21 rfl (lv_at hl 1 rfl) ?_
        refine li_iald hx hb hK hP 3 0 rfl rfl (by omega) (by omega) (by omega) d_L_character_22 ?_
        have f4 := hex k.toNat
        refine lv_aload_n hx hb d_L_character_23 rfl (lv_at hl 0 rfl) ?_
        refine gf_L_15 hx hb hts hown hK hP 0 rfl rfl d_L_character_24 ?_
        refine lv_iload_n hx hb d_L_character_27 rfl (lv_at hl 1 rfl) ?_
        refine li_iald hx hb hK hP 2 0 rfl rfl (by omega) (by omega) (by omega) d_L_character_28 ?_
        have f5 := hbx k.toNat
        refine li_isub hx hb d_L_character_29 ?_
        refine li_icmp_lt (tgt := 36) hx hb d_L_character_30 (by decide) (by omega) (by omega) (fun c6 => ?_) (fun c6 => ?_)
        · have _q := c6
          refine lv_aload_n hx hb d_L_character_36 rfl (lv_at hl 0 rfl) ?_
          refine gf_L_11 hx hb hts hown hK hP 0 rfl rfl d_L_character_37 ?_
          refine lv_aload_n hx hb d_L_character_40 rfl (lv_at hl 0 rfl) ?_
          refine gf_L_15 hx hb hts hown hK hP 0 rfl rfl d_L_character_41 ?_
          refine lv_iload_n hx hb d_L_character_44 rfl (lv_at hl 1 rfl) ?_
          refine li_iald hx hb hK hP 2 0 rfl rfl (by omega) (by omega) (by omega) d_L_character_45 ?_
          have f7 := hbx k.toNat
          refine lv_iload_n hx hb d_L_character_46 rfl (lv_at hl 2 rfl) ?_
          refine li_iadd hx hb d_L_character_47 ?_
          refine li_cald hx hb hK hP 1 1 rfl rfl (by omega) (by omega) (by omega) d_L_character_48 ?_
          have f8 := hlx (((bx k.toNat) + i).toNat)
          exact fin _ _ _ (by unfold chF; first | (rw [if_neg (by omega)]; done) | (rw [if_pos (by omega)]; done)) d_L_character_49
        · have _q := c6
          refine lv_bipush (v := iI 32) hx hb d_L_character_33 (by decide) ?_
          exact fin _ _ _ (by unfold chF; first | (rw [if_neg (by omega)]; done) | (rw [if_pos (by omega)]; done)) d_L_character_35

def isCmp (ch : Int) : Bool := decide (ch = 60 ∨ ch = 61 ∨ ch = 62)
def cmpR (ch : Int) (b : Bool) : Int := if ch = 60 then (if b then 6 else 4) else if ch = 62 then (if b then 7 else 5) else (if b then 3 else 2)
def ixOf (tag cd : Int) : Int := if tag = 245 ∧ (cd = 97 ∨ cd = 98) then 1 else if (tag = 100 ∨ tag = 700) ∧ cd = 97 then 2 else if tag = 650 ∧ cd = 97 then 3 else if tag = 260 ∧ cd = 99 then 4 else 0
def mkL (t : Nat → Int) : Nat → Nat → Int → Int
  | 0, _, v => v
  | k + 1, x, v => mkL t k (x + 1) (if t x = 31 then v + 1 else v)
def letF (ch : Int) (wild : Bool) : Int := if isLow (sml ch) = true ∨ isDig (sml ch) = true then sml ch else if wild = true ∧ (ch = 42 ∨ ch = 63) then ch else 0
theorem letF_r {ch : Int} {w : Bool} (h : 0 ≤ ch ∧ ch < 65536) : 0 ≤ letF ch w ∧ letF ch w < 65536 := by
  have := sml_r h
  unfold letF; split
  · omega
  · split <;> omega
def jnF (x : Int) : Bool := decide (x = 11 ∨ x = 12 ∨ x = 13)
def behF (x : Int) : Bool := decide (24 < x ∧ (x - 24) % 12 = 0)

theorem d_Q_compareSpans_0 : decode b_Q_compareSpans 0 = .ok (.iload_n 1, 1) := by decide +kernel
theorem d_Q_compareSpans_1 : decode b_Q_compareSpans 1 = .ok (.ifCond .lt 21, 3) := by decide +kernel
theorem d_Q_compareSpans_4 : decode b_Q_compareSpans 4 = .ok (.iload_n 2, 1) := by decide +kernel
theorem d_Q_compareSpans_5 : decode b_Q_compareSpans 5 = .ok (.aload_n 0, 1) := by decide +kernel
theorem d_Q_compareSpans_6 : decode b_Q_compareSpans 6 = .ok (.arraylength, 1) := by decide +kernel
theorem d_Q_compareSpans_7 : decode b_Q_compareSpans 7 = .ok (.if_icmp .gt 15, 3) := by decide +kernel
theorem d_Q_compareSpans_10 : decode b_Q_compareSpans 10 = .ok (.iload 4, 2) := by decide +kernel
theorem d_Q_compareSpans_12 : decode b_Q_compareSpans 12 = .ok (.ifCond .lt 10, 3) := by decide +kernel
theorem d_Q_compareSpans_15 : decode b_Q_compareSpans 15 = .ok (.iload 5, 2) := by decide +kernel
theorem d_Q_compareSpans_17 : decode b_Q_compareSpans 17 = .ok (.aload_n 3, 1) := by decide +kernel
theorem d_Q_compareSpans_18 : decode b_Q_compareSpans 18 = .ok (.arraylength, 1) := by decide +kernel
theorem d_Q_compareSpans_19 : decode b_Q_compareSpans 19 = .ok (.if_icmp .le 5, 3) := by decide +kernel
theorem d_Q_compareSpans_22 : decode b_Q_compareSpans 22 = .ok (.iconst 1, 1) := by decide +kernel
theorem d_Q_compareSpans_23 : decode b_Q_compareSpans 23 = .ok (.ireturn, 1) := by decide +kernel
theorem d_Q_compareSpans_24 : decode b_Q_compareSpans 24 = .ok (.iload_n 2, 1) := by decide +kernel
theorem d_Q_compareSpans_25 : decode b_Q_compareSpans 25 = .ok (.iload_n 1, 1) := by decide +kernel
theorem d_Q_compareSpans_26 : decode b_Q_compareSpans 26 = .ok (.isub, 1) := by decide +kernel
theorem d_Q_compareSpans_27 : decode b_Q_compareSpans 27 = .ok (.istore 6, 2) := by decide +kernel
theorem d_Q_compareSpans_29 : decode b_Q_compareSpans 29 = .ok (.iload 5, 2) := by decide +kernel
theorem d_Q_compareSpans_31 : decode b_Q_compareSpans 31 = .ok (.iload 4, 2) := by decide +kernel
theorem d_Q_compareSpans_33 : decode b_Q_compareSpans 33 = .ok (.isub, 1) := by decide +kernel
theorem d_Q_compareSpans_34 : decode b_Q_compareSpans 34 = .ok (.istore 7, 2) := by decide +kernel
theorem d_Q_compareSpans_36 : decode b_Q_compareSpans 36 = .ok (.iconst 0, 1) := by decide +kernel
theorem d_Q_compareSpans_37 : decode b_Q_compareSpans 37 = .ok (.istore 8, 2) := by decide +kernel
theorem d_Q_compareSpans_39 : decode b_Q_compareSpans 39 = .ok (.iload 8, 2) := by decide +kernel
theorem d_Q_compareSpans_41 : decode b_Q_compareSpans 41 = .ok (.iload 6, 2) := by decide +kernel
theorem d_Q_compareSpans_43 : decode b_Q_compareSpans 43 = .ok (.if_icmp .ge 47, 3) := by decide +kernel
theorem d_Q_compareSpans_46 : decode b_Q_compareSpans 46 = .ok (.iload 8, 2) := by decide +kernel
theorem d_Q_compareSpans_48 : decode b_Q_compareSpans 48 = .ok (.iload 7, 2) := by decide +kernel
theorem d_Q_compareSpans_50 : decode b_Q_compareSpans 50 = .ok (.if_icmp .ge 40, 3) := by decide +kernel
theorem d_Q_compareSpans_53 : decode b_Q_compareSpans 53 = .ok (.aload_n 0, 1) := by decide +kernel
theorem d_Q_compareSpans_54 : decode b_Q_compareSpans 54 = .ok (.iload_n 1, 1) := by decide +kernel
theorem d_Q_compareSpans_55 : decode b_Q_compareSpans 55 = .ok (.iload 8, 2) := by decide +kernel
theorem d_Q_compareSpans_57 : decode b_Q_compareSpans 57 = .ok (.iadd, 1) := by decide +kernel
theorem d_Q_compareSpans_58 : decode b_Q_compareSpans 58 = .ok (.caload, 1) := by decide +kernel
theorem d_Q_compareSpans_59 : decode b_Q_compareSpans 59 = .ok (.aload_n 3, 1) := by decide +kernel
theorem d_Q_compareSpans_60 : decode b_Q_compareSpans 60 = .ok (.iload 4, 2) := by decide +kernel
theorem d_Q_compareSpans_62 : decode b_Q_compareSpans 62 = .ok (.iload 8, 2) := by decide +kernel
theorem d_Q_compareSpans_64 : decode b_Q_compareSpans 64 = .ok (.iadd, 1) := by decide +kernel
theorem d_Q_compareSpans_65 : decode b_Q_compareSpans 65 = .ok (.caload, 1) := by decide +kernel
theorem d_Q_compareSpans_66 : decode b_Q_compareSpans 66 = .ok (.if_icmp .eq 18, 3) := by decide +kernel
theorem d_Q_compareSpans_69 : decode b_Q_compareSpans 69 = .ok (.aload_n 0, 1) := by decide +kernel
theorem d_Q_compareSpans_70 : decode b_Q_compareSpans 70 = .ok (.iload_n 1, 1) := by decide +kernel
theorem d_Q_compareSpans_71 : decode b_Q_compareSpans 71 = .ok (.iload 8, 2) := by decide +kernel
theorem d_Q_compareSpans_73 : decode b_Q_compareSpans 73 = .ok (.iadd, 1) := by decide +kernel
theorem d_Q_compareSpans_74 : decode b_Q_compareSpans 74 = .ok (.caload, 1) := by decide +kernel
theorem d_Q_compareSpans_75 : decode b_Q_compareSpans 75 = .ok (.aload_n 3, 1) := by decide +kernel
theorem d_Q_compareSpans_76 : decode b_Q_compareSpans 76 = .ok (.iload 4, 2) := by decide +kernel
theorem d_Q_compareSpans_78 : decode b_Q_compareSpans 78 = .ok (.iload 8, 2) := by decide +kernel
theorem d_Q_compareSpans_80 : decode b_Q_compareSpans 80 = .ok (.iadd, 1) := by decide +kernel
theorem d_Q_compareSpans_81 : decode b_Q_compareSpans 81 = .ok (.caload, 1) := by decide +kernel
theorem d_Q_compareSpans_82 : decode b_Q_compareSpans 82 = .ok (.isub, 1) := by decide +kernel
theorem d_Q_compareSpans_83 : decode b_Q_compareSpans 83 = .ok (.ireturn, 1) := by decide +kernel
theorem d_Q_compareSpans_84 : decode b_Q_compareSpans 84 = .ok (.iinc 8 1, 3) := by decide +kernel
theorem d_Q_compareSpans_87 : decode b_Q_compareSpans 87 = .ok (.goto (-48), 3) := by decide +kernel
theorem d_Q_compareSpans_90 : decode b_Q_compareSpans 90 = .ok (.iload 6, 2) := by decide +kernel
theorem d_Q_compareSpans_92 : decode b_Q_compareSpans 92 = .ok (.iload 7, 2) := by decide +kernel
theorem d_Q_compareSpans_94 : decode b_Q_compareSpans 94 = .ok (.isub, 1) := by decide +kernel
theorem d_Q_compareSpans_95 : decode b_Q_compareSpans 95 = .ok (.ireturn, 1) := by decide +kernel
set_option maxHeartbeats 4000000 in
set_option maxRecDepth 100000 in
theorem c_Q_compareSpans (l : Launch) (dC : Nat → ClassId) (dI : Nat → Nat → Nat) (kA : Nat → ClassId) (a : Nat) (n : Nat) (t : Nat → Int) (x : Int) (xe : Int) (b : Nat) (n2 : Nat) (t2 : Nat → Int) (y : Int) (ye : Int) (hn : n < 2147483648 ∧ n2 < 2147483648) (ht : ∀ j, 0 ≤ t j ∧ t j < 65536) (ht2 : ∀ j, 0 ≤ t2 j ∧ t2 j < 65536) (hx0 : -100000 ≤ x ∧ x ≤ 100000 ∧ -100000 ≤ xe ∧ xe ≤ 100000) (hy0 : -100000 ≤ y ∧ y ≤ 100000 ∧ -100000 ≤ ye ∧ ye ≤ 100000) : Met l y_Q_compareSpans (wsy y_Q_compareSpans b_Q_compareSpans 9 (some .int)) (rmd 0 0 0) (li_Pr (dC, dI) CL (TY kA) [.ref a, .int (iI x), .int (iI xe), .ref b, .int (iI y), .int (iI ye)] (va_P (dC, dI) CL [(a, .inl (kA 1, n, .inl (aI t))), (b, .inl (kA 1, n2, .inl (aI t2)))])) (k2_QcV (.int (iI (cmpF t n x xe t2 n2 y ye)))) 0 0 (fun _ => False) := by
  refine li_mr (by decide) (Nat.le_of_ble_eq_true rfl) (by rfl) ?_
  intro p e s m args below meth c Q C hP hK hN hG fin ls hl
  obtain ⟨hx, hb, hr, hml, hown, hts, hlocks, hin⟩ := C
  have hown : s.vm.findClass R_Q = some m.cls := hown
  have hP : va_P (dC, dI) CL [(a, .inl (kA 1, n, .inl (aI t))), (b, .inl (kA 1, n2, .inl (aI t2)))] s.heap := hP
  have hl : lv_has ls 9 [(0, .ref a), (1, .int (iI x)), (2, .int (iI xe)), (3, .ref b), (4, .int (iI y)), (5, .int (iI ye))] := hl
  have K_39 : ∀ (nn : Nat) (i : Int) (dx : Int) (dy : Int), (0 ≤ x ∧ xe ≤ n ∧ 0 ≤ y ∧ ye ≤ n2 ∧ dx = xe - x ∧ dy = ye - y) → (0 ≤ i ∧ (i = 0 ∨ i ≤ dx ∧ i ≤ dy)) → (cmpL (fun i => t (x.toNat + i)) (fun i => t2 (y.toNat + i)) (min dx dy - i).toNat i.toNat (dx - dy) = cmpF t n x xe t2 n2 y ye) → ((min dx dy - i).toNat < nn) → ∀ ls : Array Slot, lv_has ls 9 [(0, .ref a), (1, .int (iI x)), (2, .int (iI xe)), (3, .ref b), (4, .int (iI y)), (5, .int (iI ye)), (6, .int (iI dx)), (7, .int (iI dy)), (8, .int (iI i))] → W p l e (rmd 0 0 0) s m args below meth c s.heap [] 0 0 Q (F0 m 39 ls []) := by
    intro nn
    induction nn with
    | zero => intro i dx dy hok hi hres hm; exact absurd hm (Nat.not_lt_zero _)
    | succ nn ih =>
      intro i dx dy hok hi hres hm ls hl
      refine lv_iload hx hb d_Q_compareSpans_39 (lv_at hl 8 rfl) ?_
      refine lv_iload hx hb d_Q_compareSpans_41 (lv_at hl 6 rfl) ?_
      refine li_icmp_ge (tgt := 90) hx hb d_Q_compareSpans_43 (by decide) (by first | omega | (have := ht (x + i).toNat; omega) | (have := ht2 (y + i).toNat; omega)) (by first | omega | (have := ht (x + i).toNat; omega) | (have := ht2 (y + i).toNat; omega)) (fun c1 => ?_) (fun c1 => ?_)
      · have _q := c1
        refine lv_iload hx hb d_Q_compareSpans_90 (lv_at hl 6 rfl) ?_
        refine lv_iload hx hb d_Q_compareSpans_92 (lv_at hl 7 rfl) ?_
        refine li_isub hx hb d_Q_compareSpans_94 ?_
        exact fin _ _ _ (by first | (subst_vars; unfold cmpF; rw [if_pos (by omega)]; done) | (rw [← hres, show (min dx dy - i).toNat = 0 by omega]; rfl) | (rw [← hres, show (min dx dy - i).toNat = (min dx dy - (i + 1)).toNat + 1 by omega]; simp only [cmpL]; rw [show x.toNat + i.toNat = (x + i).toNat by omega, show y.toNat + i.toNat = (y + i).toNat by omega, if_neg (by assumption)])) d_Q_compareSpans_95
      · have _q := c1
        refine lv_iload hx hb d_Q_compareSpans_46 (lv_at hl 8 rfl) ?_
        refine lv_iload hx hb d_Q_compareSpans_48 (lv_at hl 7 rfl) ?_
        refine li_icmp_ge (tgt := 90) hx hb d_Q_compareSpans_50 (by decide) (by first | omega | (have := ht (x + i).toNat; omega) | (have := ht2 (y + i).toNat; omega)) (by first | omega | (have := ht (x + i).toNat; omega) | (have := ht2 (y + i).toNat; omega)) (fun c2 => ?_) (fun c2 => ?_)
        · have _q := c2
          refine lv_iload hx hb d_Q_compareSpans_90 (lv_at hl 6 rfl) ?_
          refine lv_iload hx hb d_Q_compareSpans_92 (lv_at hl 7 rfl) ?_
          refine li_isub hx hb d_Q_compareSpans_94 ?_
          exact fin _ _ _ (by first | (subst_vars; unfold cmpF; rw [if_pos (by omega)]; done) | (rw [← hres, show (min dx dy - i).toNat = 0 by omega]; rfl) | (rw [← hres, show (min dx dy - i).toNat = (min dx dy - (i + 1)).toNat + 1 by omega]; simp only [cmpL]; rw [show x.toNat + i.toNat = (x + i).toNat by omega, show y.toNat + i.toNat = (y + i).toNat by omega, if_neg (by assumption)])) d_Q_compareSpans_95
        · have _q := c2
          refine lv_aload_n hx hb d_Q_compareSpans_53 rfl (lv_at hl 0 rfl) ?_
          refine lv_iload_n hx hb d_Q_compareSpans_54 rfl (lv_at hl 1 rfl) ?_
          refine lv_iload hx hb d_Q_compareSpans_55 (lv_at hl 8 rfl) ?_
          refine li_iadd hx hb d_Q_compareSpans_57 ?_
          refine li_cald hx hb hK hP 0 1 rfl rfl (by omega) (by omega) (by omega) d_Q_compareSpans_58 ?_
          refine lv_aload_n hx hb d_Q_compareSpans_59 rfl (lv_at hl 3 rfl) ?_
          refine lv_iload hx hb d_Q_compareSpans_60 (lv_at hl 4 rfl) ?_
          refine lv_iload hx hb d_Q_compareSpans_62 (lv_at hl 8 rfl) ?_
          refine li_iadd hx hb d_Q_compareSpans_64 ?_
          refine li_cald hx hb hK hP 1 1 rfl rfl (by omega) (by omega) (by omega) d_Q_compareSpans_65 ?_
          refine li_icmp_eq (tgt := 84) hx hb d_Q_compareSpans_66 (by decide) (by first | omega | (have := ht (x + i).toNat; omega) | (have := ht2 (y + i).toNat; omega)) (by first | omega | (have := ht (x + i).toNat; omega) | (have := ht2 (y + i).toNat; omega)) (fun c3 => ?_) (fun c3 => ?_)
          · have _q := c3
            obtain ⟨x4, ex4⟩ : ∃ y : Int, y = i + 1 := ⟨_, rfl⟩
            refine lv_iinc (v := iI x4) (lv' := [(8, .int (iI x4)), (0, .ref a), (1, .int (iI x)), (2, .int (iI xe)), (3, .ref b), (4, .int (iI y)), (5, .int (iI ye)), (6, .int (iI dx)), (7, .int (iI dy))]) hx hb d_Q_compareSpans_84 hl (k := 8) rfl (by rw [ex4]; exact iI_add _ _) (by decide) rfl (fun ls hl => ?_)
            refine lv_goto (tgt := 39) hx hb d_Q_compareSpans_87 (by decide) ?_
            exact ih x4 dx dy (by omega) (by omega) (by first | (subst_vars; unfold cmpF; rw [if_neg (by omega)]; simp; done) | (subst_vars; rw [← hres, show (min dx dy - i).toNat = (min dx dy - (i + 1)).toNat + 1 by omega, show (i + 1).toNat = i.toNat + 1 by omega]; simp only [cmpL]; rw [if_pos (by rw [show x.toNat + i.toNat = (x + i).toNat by omega, show y.toNat + i.toNat = (y + i).toNat by omega]; assumption)])) (by omega) _ (lv_sub hl [1, 2, 3, 4, 5, 6, 7, 8, 0] rfl)
          · have _q := c3
            refine lv_aload_n hx hb d_Q_compareSpans_69 rfl (lv_at hl 0 rfl) ?_
            refine lv_iload_n hx hb d_Q_compareSpans_70 rfl (lv_at hl 1 rfl) ?_
            refine lv_iload hx hb d_Q_compareSpans_71 (lv_at hl 8 rfl) ?_
            refine li_iadd hx hb d_Q_compareSpans_73 ?_
            refine li_cald hx hb hK hP 0 1 rfl rfl (by omega) (by omega) (by omega) d_Q_compareSpans_74 ?_
            refine lv_aload_n hx hb d_Q_compareSpans_75 rfl (lv_at hl 3 rfl) ?_
            refine lv_iload hx hb d_Q_compareSpans_76 (lv_at hl 4 rfl) ?_
            refine lv_iload hx hb d_Q_compareSpans_78 (lv_at hl 8 rfl) ?_
            refine li_iadd hx hb d_Q_compareSpans_80 ?_
            refine li_cald hx hb hK hP 1 1 rfl rfl (by omega) (by omega) (by omega) d_Q_compareSpans_81 ?_
            refine li_isub hx hb d_Q_compareSpans_82 ?_
            exact fin _ _ _ (by first | (subst_vars; unfold cmpF; rw [if_pos (by omega)]; done) | (rw [← hres, show (min dx dy - i).toNat = 0 by omega]; rfl) | (rw [← hres, show (min dx dy - i).toNat = (min dx dy - (i + 1)).toNat + 1 by omega]; simp only [cmpL]; rw [show x.toNat + i.toNat = (x + i).toNat by omega, show y.toNat + i.toNat = (y + i).toNat by omega, if_neg (by assumption)])) d_Q_compareSpans_83
  refine lv_iload_n hx hb d_Q_compareSpans_0 rfl (lv_at hl 1 rfl) ?_
  refine li_if_lt (tgt := 22) hx hb d_Q_compareSpans_1 (by decide) (by first | omega | (have := ht (x + i).toNat; omega) | (have := ht2 (y + i).toNat; omega)) (fun c5 => ?_) (fun c5 => ?_)
  · have _q := c5
    refine lv_iconst (v := iI 1) hx hb d_Q_compareSpans_22 rfl ?_
    exact fin _ _ _ (by first | (subst_vars; unfold cmpF; rw [if_pos (by omega)]; done) | (rw [← hres, show (min dx dy - i).toNat = 0 by omega]; rfl) | (rw [← hres, show (min dx dy - i).toNat = (min dx dy - (i + 1)).toNat + 1 by omega]; simp only [cmpL]; rw [show x.toNat + i.toNat = (x + i).toNat by omega, show y.toNat + i.toNat = (y + i).toNat by omega, if_neg (by assumption)])) d_Q_compareSpans_23
  · have _q := c5
    refine lv_iload_n hx hb d_Q_compareSpans_4 rfl (lv_at hl 2 rfl) ?_
    refine lv_aload_n hx hb d_Q_compareSpans_5 rfl (lv_at hl 0 rfl) ?_
    refine li_alen hx hb hK hP 0 1 rfl rfl d_Q_compareSpans_6 ?_
    refine li_icmp_gt (tgt := 22) hx hb d_Q_compareSpans_7 (by decide) (by first | omega | (have := ht (x + i).toNat; omega) | (have := ht2 (y + i).toNat; omega)) (by first | omega | (have := ht (x + i).toNat; omega) | (have := ht2 (y + i).toNat; omega)) (fun c6 => ?_) (fun c6 => ?_)
    · have _q := c6
      refine lv_iconst (v := iI 1) hx hb d_Q_compareSpans_22 rfl ?_
      exact fin _ _ _ (by first | (subst_vars; unfold cmpF; rw [if_pos (by omega)]; done) | (rw [← hres, show (min dx dy - i).toNat = 0 by omega]; rfl) | (rw [← hres, show (min dx dy - i).toNat = (min dx dy - (i + 1)).toNat + 1 by omega]; simp only [cmpL]; rw [show x.toNat + i.toNat = (x + i).toNat by omega, show y.toNat + i.toNat = (y + i).toNat by omega, if_neg (by assumption)])) d_Q_compareSpans_23
    · have _q := c6
      refine lv_iload hx hb d_Q_compareSpans_10 (lv_at hl 4 rfl) ?_
      refine li_if_lt (tgt := 22) hx hb d_Q_compareSpans_12 (by decide) (by first | omega | (have := ht (x + i).toNat; omega) | (have := ht2 (y + i).toNat; omega)) (fun c7 => ?_) (fun c7 => ?_)
      · have _q := c7
        refine lv_iconst (v := iI 1) hx hb d_Q_compareSpans_22 rfl ?_
        exact fin _ _ _ (by first | (subst_vars; unfold cmpF; rw [if_pos (by omega)]; done) | (rw [← hres, show (min dx dy - i).toNat = 0 by omega]; rfl) | (rw [← hres, show (min dx dy - i).toNat = (min dx dy - (i + 1)).toNat + 1 by omega]; simp only [cmpL]; rw [show x.toNat + i.toNat = (x + i).toNat by omega, show y.toNat + i.toNat = (y + i).toNat by omega, if_neg (by assumption)])) d_Q_compareSpans_23
      · have _q := c7
        refine lv_iload hx hb d_Q_compareSpans_15 (lv_at hl 5 rfl) ?_
        refine lv_aload_n hx hb d_Q_compareSpans_17 rfl (lv_at hl 3 rfl) ?_
        refine li_alen hx hb hK hP 1 1 rfl rfl d_Q_compareSpans_18 ?_
        refine li_icmp_le (tgt := 24) hx hb d_Q_compareSpans_19 (by decide) (by first | omega | (have := ht (x + i).toNat; omega) | (have := ht2 (y + i).toNat; omega)) (by first | omega | (have := ht (x + i).toNat; omega) | (have := ht2 (y + i).toNat; omega)) (fun c8 => ?_) (fun c8 => ?_)
        · have _q := c8
          refine lv_iload_n hx hb d_Q_compareSpans_24 rfl (lv_at hl 2 rfl) ?_
          refine lv_iload_n hx hb d_Q_compareSpans_25 rfl (lv_at hl 1 rfl) ?_
          refine li_isub hx hb d_Q_compareSpans_26 ?_
          refine li_nm (fun x9 ex9 => ?_)
          refine lv_istore (lv' := [(6, .int (iI x9)), (0, .ref a), (1, .int (iI x)), (2, .int (iI xe)), (3, .ref b), (4, .int (iI y)), (5, .int (iI ye))]) hx hb d_Q_compareSpans_27 hl (by decide) rfl (fun ls hl => ?_)
          refine lv_iload hx hb d_Q_compareSpans_29 (lv_at hl 6 rfl) ?_
          refine lv_iload hx hb d_Q_compareSpans_31 (lv_at hl 5 rfl) ?_
          refine li_isub hx hb d_Q_compareSpans_33 ?_
          refine li_nm (fun x10 ex10 => ?_)
          refine lv_istore (lv' := [(7, .int (iI x10)), (6, .int (iI x9)), (0, .ref a), (1, .int (iI x)), (2, .int (iI xe)), (3, .ref b), (4, .int (iI y)), (5, .int (iI ye))]) hx hb d_Q_compareSpans_34 hl (by decide) rfl (fun ls hl => ?_)
          refine lv_iconst (v := iI 0) hx hb d_Q_compareSpans_36 rfl ?_
          refine lv_istore (lv' := [(8, .int (iI 0)), (7, .int (iI x10)), (6, .int (iI x9)), (0, .ref a), (1, .int (iI x)), (2, .int (iI xe)), (3, .ref b), (4, .int (iI y)), (5, .int (iI ye))]) hx hb d_Q_compareSpans_37 hl (by decide) rfl (fun ls hl => ?_)
          exact K_39 ((min x9 x10 - 0).toNat + 1) 0 x9 x10 (by omega) (by omega) (by first | (subst_vars; unfold cmpF; rw [if_neg (by omega)]; simp; done) | (subst_vars; rw [← hres, show (min dx dy - i).toNat = (min dx dy - (i + 1)).toNat + 1 by omega, show (i + 1).toNat = i.toNat + 1 by omega]; simp only [cmpL]; rw [if_pos (by rw [show x.toNat + i.toNat = (x + i).toNat by omega, show y.toNat + i.toNat = (y + i).toNat by omega]; assumption)])) (Nat.lt_succ_self _) _ (lv_sub hl [3, 4, 5, 6, 7, 8, 2, 1, 0] rfl)
        · have _q := c8
          refine lv_iconst (v := iI 1) hx hb d_Q_compareSpans_22 rfl ?_
          exact fin _ _ _ (by first | (subst_vars; unfold cmpF; rw [if_pos (by omega)]; done) | (rw [← hres, show (min dx dy - i).toNat = 0 by omega]; rfl) | (rw [← hres, show (min dx dy - i).toNat = (min dx dy - (i + 1)).toNat + 1 by omega]; simp only [cmpL]; rw [show x.toNat + i.toNat = (x + i).toNat by omega, show y.toNat + i.toNat = (y + i).toNat by omega, if_neg (by assumption)])) d_Q_compareSpans_23
theorem d_K_isComparison_0 : decode b_K_isComparison 0 = .ok (.iload_n 0, 1) := by decide +kernel
theorem d_K_isComparison_1 : decode b_K_isComparison 1 = .ok (.bipush 60, 2) := by decide +kernel
theorem d_K_isComparison_3 : decode b_K_isComparison 3 = .ok (.if_icmp .eq 15, 3) := by decide +kernel
theorem d_K_isComparison_6 : decode b_K_isComparison 6 = .ok (.iload_n 0, 1) := by decide +kernel
theorem d_K_isComparison_7 : decode b_K_isComparison 7 = .ok (.bipush 61, 2) := by decide +kernel
theorem d_K_isComparison_9 : decode b_K_isComparison 9 = .ok (.if_icmp .eq 9, 3) := by decide +kernel
theorem d_K_isComparison_12 : decode b_K_isComparison 12 = .ok (.iload_n 0, 1) := by decide +kernel
theorem d_K_isComparison_13 : decode b_K_isComparison 13 = .ok (.bipush 62, 2) := by decide +kernel
theorem d_K_isComparison_15 : decode b_K_isComparison 15 = .ok (.if_icmp .ne 7, 3) := by decide +kernel
theorem d_K_isComparison_18 : decode b_K_isComparison 18 = .ok (.iconst 1, 1) := by decide +kernel
theorem d_K_isComparison_19 : decode b_K_isComparison 19 = .ok (.goto 4, 3) := by decide +kernel
theorem d_K_isComparison_22 : decode b_K_isComparison 22 = .ok (.iconst 0, 1) := by decide +kernel
theorem d_K_isComparison_23 : decode b_K_isComparison 23 = .ok (.ireturn, 1) := by decide +kernel
set_option maxHeartbeats 4000000 in
set_option maxRecDepth 100000 in
theorem c_K_isComparison (l : Launch) (dC : Nat → ClassId) (dI : Nat → Nat → Nat) (kA : Nat → ClassId) (ch : Int) (hc : 0 ≤ ch ∧ ch < 65536) : Met l y_K_isComparison (wsy y_K_isComparison b_K_isComparison 1 (some .boolean)) (rmd 0 0 0) (li_Pr (dC, dI) CL (TY kA) [.int (iI ch)] (va_P (dC, dI) CL [])) (k2_QcV (.int (iI (bI (isCmp ch))))) 0 0 (fun _ => False) := by
  refine li_mr (by decide) (Nat.le_of_ble_eq_true rfl) (by exact li_narZ2 _) ?_
  intro p e s m args below meth c Q C hP hK hN hG fin ls hl
  obtain ⟨hx, hb, hr, hml, hown, hts, hlocks, hin⟩ := C
  have hown : s.vm.findClass R_K = some m.cls := hown
  have hP : va_P (dC, dI) CL [] s.heap := hP
  have hl : lv_has ls 1 [(0, .int (iI ch))] := hl
  refine lv_iload_n hx hb d_K_isComparison_0 rfl (lv_at hl 0 rfl) ?_
  refine lv_bipush (v := iI 60) hx hb d_K_isComparison_1 (by decide) ?_
  refine li_icmp_eq (tgt := 18) hx hb d_K_isComparison_3 (by decide) (by omega) (by omega) (fun c1 => ?_) (fun c1 => ?_)
  · have _q := c1
    refine lv_iconst (v := iI 1) hx hb d_K_isComparison_18 rfl ?_
    refine lv_goto (tgt := 23) hx hb d_K_isComparison_19 (by decide) ?_
    exact fin _ _ _ (by first | exact bI_t (decide_eq_true (by omega)) | exact bI_f (decide_eq_false (by omega))) d_K_isComparison_23
  · have _q := c1
    refine lv_iload_n hx hb d_K_isComparison_6 rfl (lv_at hl 0 rfl) ?_
    refine lv_bipush (v := iI 61) hx hb d_K_isComparison_7 (by decide) ?_
    refine li_icmp_eq (tgt := 18) hx hb d_K_isComparison_9 (by decide) (by omega) (by omega) (fun c2 => ?_) (fun c2 => ?_)
    · have _q := c2
      refine lv_iconst (v := iI 1) hx hb d_K_isComparison_18 rfl ?_
      refine lv_goto (tgt := 23) hx hb d_K_isComparison_19 (by decide) ?_
      exact fin _ _ _ (by first | exact bI_t (decide_eq_true (by omega)) | exact bI_f (decide_eq_false (by omega))) d_K_isComparison_23
    · have _q := c2
      refine lv_iload_n hx hb d_K_isComparison_12 rfl (lv_at hl 0 rfl) ?_
      refine lv_bipush (v := iI 62) hx hb d_K_isComparison_13 (by decide) ?_
      refine li_icmp_ne (tgt := 22) hx hb d_K_isComparison_15 (by decide) (by omega) (by omega) (fun c3 => ?_) (fun c3 => ?_)
      · have _q := c3
        refine lv_iconst (v := iI 0) hx hb d_K_isComparison_22 rfl ?_
        exact fin _ _ _ (by first | exact bI_t (decide_eq_true (by omega)) | exact bI_f (decide_eq_false (by omega))) d_K_isComparison_23
      · have _q := c3
        refine lv_iconst (v := iI 1) hx hb d_K_isComparison_18 rfl ?_
        refine lv_goto (tgt := 23) hx hb d_K_isComparison_19 (by decide) ?_
        exact fin _ _ _ (by first | exact bI_t (decide_eq_true (by omega)) | exact bI_f (decide_eq_false (by omega))) d_K_isComparison_23
theorem d_K_isInName_0 : decode b_K_isInName 0 = .ok (.iload_n 0, 1) := by decide +kernel
theorem d_K_isInName_1 : decode b_K_isInName 1 = .ok (.bipush 32, 2) := by decide +kernel
theorem d_K_isInName_3 : decode b_K_isInName 3 = .ok (.if_icmp .eq 38, 3) := by decide +kernel
theorem d_K_isInName_6 : decode b_K_isInName 6 = .ok (.iload_n 0, 1) := by decide +kernel
theorem d_K_isInName_7 : decode b_K_isInName 7 = .ok (.bipush 34, 2) := by decide +kernel
theorem d_K_isInName_9 : decode b_K_isInName 9 = .ok (.if_icmp .eq 32, 3) := by decide +kernel
theorem d_K_isInName_12 : decode b_K_isInName 12 = .ok (.iload_n 0, 1) := by decide +kernel
theorem d_K_isInName_13 : decode b_K_isInName 13 = .ok (.bipush 40, 2) := by decide +kernel
theorem d_K_isInName_15 : decode b_K_isInName 15 = .ok (.if_icmp .eq 26, 3) := by decide +kernel
theorem d_K_isInName_18 : decode b_K_isInName 18 = .ok (.iload_n 0, 1) := by decide +kernel
theorem d_K_isInName_19 : decode b_K_isInName 19 = .ok (.bipush 41, 2) := by decide +kernel
theorem d_K_isInName_21 : decode b_K_isInName 21 = .ok (.if_icmp .eq 20, 3) := by decide +kernel
theorem d_K_isInName_24 : decode b_K_isInName 24 = .ok (.iload_n 0, 1) := by decide +kernel
theorem d_K_isInName_25 : decode b_K_isInName 25 = .ok (.bipush 47, 2) := by decide +kernel
theorem d_K_isInName_27 : decode b_K_isInName 27 = .ok (.if_icmp .eq 14, 3) := by decide +kernel
theorem d_K_isInName_30 : decode b_K_isInName 30 = .ok (.iload_n 0, 1) := by decide +kernel
theorem d_K_isInName_31 : decode b_K_isInName 31 = .ok (.invokestatic 59, 3) := by decide +kernel
theorem d_K_isInName_34 : decode b_K_isInName 34 = .ok (.ifCond .ne 7, 3) := by decide +kernel
theorem d_K_isInName_37 : decode b_K_isInName 37 = .ok (.iconst 1, 1) := by decide +kernel
theorem d_K_isInName_38 : decode b_K_isInName 38 = .ok (.goto 4, 3) := by decide +kernel
theorem d_K_isInName_41 : decode b_K_isInName 41 = .ok (.iconst 0, 1) := by decide +kernel
theorem d_K_isInName_42 : decode b_K_isInName 42 = .ok (.ireturn, 1) := by decide +kernel
set_option maxHeartbeats 4000000 in
set_option maxRecDepth 100000 in
theorem c_K_isInName (l : Launch) (dC : Nat → ClassId) (dI : Nat → Nat → Nat) (kA : Nat → ClassId) (ch : Int) (hc : 0 ≤ ch ∧ ch < 65536) : Met l y_K_isInName (wsy y_K_isInName b_K_isInName 1 (some .boolean)) (rmd 1 0 0) (li_Pr (dC, dI) CL (TY kA) [.int (iI ch)] (va_P (dC, dI) CL [])) (k2_QcV (.int (iI (bI (isNam ch))))) 0 0 (fun _ => False) := by
  refine li_mr (by decide) (Nat.le_of_ble_eq_true rfl) (by exact li_narZ2 _) ?_
  intro p e s m args below meth c Q C hP hK hN hG fin ls hl
  obtain ⟨hx, hb, hr, hml, hown, hts, hlocks, hin⟩ := C
  have hown : s.vm.findClass R_K = some m.cls := hown
  have hP : va_P (dC, dI) CL [] s.heap := hP
  have hl : lv_has ls 1 [(0, .int (iI ch))] := hl
  refine lv_iload_n hx hb d_K_isInName_0 rfl (lv_at hl 0 rfl) ?_
  refine lv_bipush (v := iI 32) hx hb d_K_isInName_1 (by decide) ?_
  refine li_icmp_eq (tgt := 41) hx hb d_K_isInName_3 (by decide) (by omega) (by omega) (fun c1 => ?_) (fun c1 => ?_)
  · have _q := c1
    refine lv_iconst (v := iI 0) hx hb d_K_isInName_41 rfl ?_
    exact fin _ _ _ (by first | exact bI_f (decide_eq_false (by omega)) | exact bI_t (decide_eq_true (by have := of_decide_eq_false c6; omega)) | exact bI_f (decide_eq_false (by have := of_decide_eq_true c6; omega))) d_K_isInName_42
  · have _q := c1
    refine lv_iload_n hx hb d_K_isInName_6 rfl (lv_at hl 0 rfl) ?_
    refine lv_bipush (v := iI 34) hx hb d_K_isInName_7 (by decide) ?_
    refine li_icmp_eq (tgt := 41) hx hb d_K_isInName_9 (by decide) (by omega) (by omega) (fun c2 => ?_) (fun c2 => ?_)
    · have _q := c2
      refine lv_iconst (v := iI 0) hx hb d_K_isInName_41 rfl ?_
      exact fin _ _ _ (by first | exact bI_f (decide_eq_false (by omega)) | exact bI_t (decide_eq_true (by have := of_decide_eq_false c6; omega)) | exact bI_f (decide_eq_false (by have := of_decide_eq_true c6; omega))) d_K_isInName_42
    · have _q := c2
      refine lv_iload_n hx hb d_K_isInName_12 rfl (lv_at hl 0 rfl) ?_
      refine lv_bipush (v := iI 40) hx hb d_K_isInName_13 (by decide) ?_
      refine li_icmp_eq (tgt := 41) hx hb d_K_isInName_15 (by decide) (by omega) (by omega) (fun c3 => ?_) (fun c3 => ?_)
      · have _q := c3
        refine lv_iconst (v := iI 0) hx hb d_K_isInName_41 rfl ?_
        exact fin _ _ _ (by first | exact bI_f (decide_eq_false (by omega)) | exact bI_t (decide_eq_true (by have := of_decide_eq_false c6; omega)) | exact bI_f (decide_eq_false (by have := of_decide_eq_true c6; omega))) d_K_isInName_42
      · have _q := c3
        refine lv_iload_n hx hb d_K_isInName_18 rfl (lv_at hl 0 rfl) ?_
        refine lv_bipush (v := iI 41) hx hb d_K_isInName_19 (by decide) ?_
        refine li_icmp_eq (tgt := 41) hx hb d_K_isInName_21 (by decide) (by omega) (by omega) (fun c4 => ?_) (fun c4 => ?_)
        · have _q := c4
          refine lv_iconst (v := iI 0) hx hb d_K_isInName_41 rfl ?_
          exact fin _ _ _ (by first | exact bI_f (decide_eq_false (by omega)) | exact bI_t (decide_eq_true (by have := of_decide_eq_false c6; omega)) | exact bI_f (decide_eq_false (by have := of_decide_eq_true c6; omega))) d_K_isInName_42
        · have _q := c4
          refine lv_iload_n hx hb d_K_isInName_24 rfl (lv_at hl 0 rfl) ?_
          refine lv_bipush (v := iI 47) hx hb d_K_isInName_25 (by decide) ?_
          refine li_icmp_eq (tgt := 41) hx hb d_K_isInName_27 (by decide) (by omega) (by omega) (fun c5 => ?_) (fun c5 => ?_)
          · have _q := c5
            refine lv_iconst (v := iI 0) hx hb d_K_isInName_41 rfl ?_
            exact fin _ _ _ (by first | exact bI_f (decide_eq_false (by omega)) | exact bI_t (decide_eq_true (by have := of_decide_eq_false c6; omega)) | exact bI_f (decide_eq_false (by have := of_decide_eq_true c6; omega))) d_K_isInName_42
          · have _q := c5
            refine lv_iload_n hx hb d_K_isInName_30 rfl (lv_at hl 0 rfl) ?_
            refine li_callr ((va_runS (As := [.int (iI ch)]) (rest := []) ⟨hx, hb, hml, hown, hts⟩ (c_K_isComparison l dC dI kA ch (by omega)) (cw_K_59 hts rfl rfl ⟨by decide, by decide⟩) (li_preS (hP.sub [] rfl) hK hN hG.rd) rfl rfl hl.1 rfl (lv_room (Nat.le_of_ble_eq_true rfl)) d_K_isInName_31 ⟨by decide, by decide⟩).run) ?_
            refine li_bnz (tgt := 41) hx hb d_K_isInName_34 (by decide) (fun c6 => ?_) (fun c6 => ?_)
            · have _q := c6
              refine lv_iconst (v := iI 0) hx hb d_K_isInName_41 rfl ?_
              exact fin _ _ _ (by first | exact bI_f (decide_eq_false (by omega)) | exact bI_t (decide_eq_true (by have := of_decide_eq_false c6; omega)) | exact bI_f (decide_eq_false (by have := of_decide_eq_true c6; omega))) d_K_isInName_42
            · have _q := c6
              refine lv_iconst (v := iI 1) hx hb d_K_isInName_37 rfl ?_
              refine lv_goto (tgt := 42) hx hb d_K_isInName_38 (by decide) ?_
              exact fin _ _ _ (by first | exact bI_f (decide_eq_false (by omega)) | exact bI_t (decide_eq_true (by have := of_decide_eq_false c6; omega)) | exact bI_f (decide_eq_false (by have := of_decide_eq_true c6; omega))) d_K_isInName_42
theorem d_K_comparison_0 : decode b_K_comparison 0 = .ok (.iload_n 0, 1) := by decide +kernel
theorem d_K_comparison_1 : decode b_K_comparison 1 = .ok (.bipush 60, 2) := by decide +kernel
theorem d_K_comparison_3 : decode b_K_comparison 3 = .ok (.if_icmp .ne 14, 3) := by decide +kernel
theorem d_K_comparison_6 : decode b_K_comparison 6 = .ok (.iload_n 1, 1) := by decide +kernel
theorem d_K_comparison_7 : decode b_K_comparison 7 = .ok (.ifCond .eq 8, 3) := by decide +kernel
theorem d_K_comparison_10 : decode b_K_comparison 10 = .ok (.bipush 6, 2) := by decide +kernel
theorem d_K_comparison_12 : decode b_K_comparison 12 = .ok (.goto 4, 3) := by decide +kernel
theorem d_K_comparison_15 : decode b_K_comparison 15 = .ok (.iconst 4, 1) := by decide +kernel
theorem d_K_comparison_16 : decode b_K_comparison 16 = .ok (.ireturn, 1) := by decide +kernel
theorem d_K_comparison_17 : decode b_K_comparison 17 = .ok (.iload_n 0, 1) := by decide +kernel
theorem d_K_comparison_18 : decode b_K_comparison 18 = .ok (.bipush 62, 2) := by decide +kernel
theorem d_K_comparison_20 : decode b_K_comparison 20 = .ok (.if_icmp .ne 14, 3) := by decide +kernel
theorem d_K_comparison_23 : decode b_K_comparison 23 = .ok (.iload_n 1, 1) := by decide +kernel
theorem d_K_comparison_24 : decode b_K_comparison 24 = .ok (.ifCond .eq 8, 3) := by decide +kernel
theorem d_K_comparison_27 : decode b_K_comparison 27 = .ok (.bipush 7, 2) := by decide +kernel
theorem d_K_comparison_29 : decode b_K_comparison 29 = .ok (.goto 4, 3) := by decide +kernel
theorem d_K_comparison_32 : decode b_K_comparison 32 = .ok (.iconst 5, 1) := by decide +kernel
theorem d_K_comparison_33 : decode b_K_comparison 33 = .ok (.ireturn, 1) := by decide +kernel
theorem d_K_comparison_34 : decode b_K_comparison 34 = .ok (.iload_n 1, 1) := by decide +kernel
theorem d_K_comparison_35 : decode b_K_comparison 35 = .ok (.ifCond .eq 7, 3) := by decide +kernel
theorem d_K_comparison_38 : decode b_K_comparison 38 = .ok (.iconst 3, 1) := by decide +kernel
theorem d_K_comparison_39 : decode b_K_comparison 39 = .ok (.goto 4, 3) := by decide +kernel
theorem d_K_comparison_42 : decode b_K_comparison 42 = .ok (.iconst 2, 1) := by decide +kernel
theorem d_K_comparison_43 : decode b_K_comparison 43 = .ok (.ireturn, 1) := by decide +kernel
set_option maxHeartbeats 4000000 in
set_option maxRecDepth 100000 in
theorem c_K_comparison (l : Launch) (dC : Nat → ClassId) (dI : Nat → Nat → Nat) (kA : Nat → ClassId) (ch : Int) (b : Bool) (hc : 0 ≤ ch ∧ ch < 65536) : Met l y_K_comparison (wsy y_K_comparison b_K_comparison 2 (some .int)) (rmd 0 0 0) (li_Pr (dC, dI) CL (TY kA) [.int (iI ch), .int (iI (bI b))] (va_P (dC, dI) CL [])) (k2_QcV (.int (iI (cmpR ch b)))) 0 0 (fun _ => False) := by
  refine li_mr (by decide) (Nat.le_of_ble_eq_true rfl) (by rfl) ?_
  intro p e s m args below meth c Q C hP hK hN hG fin ls hl
  obtain ⟨hx, hb, hr, hml, hown, hts, hlocks, hin⟩ := C
  have hown : s.vm.findClass R_K = some m.cls := hown
  have hP : va_P (dC, dI) CL [] s.heap := hP
  have hl : lv_has ls 2 [(0, .int (iI ch)), (1, .int (iI (bI b)))] := hl
  refine lv_iload_n hx hb d_K_comparison_0 rfl (lv_at hl 0 rfl) ?_
  refine lv_bipush (v := iI 60) hx hb d_K_comparison_1 (by decide) ?_
  refine li_icmp_ne (tgt := 17) hx hb d_K_comparison_3 (by decide) (by omega) (by omega) (fun c1 => ?_) (fun c1 => ?_)
  · have _q := c1
    refine lv_iload_n hx hb d_K_comparison_17 rfl (lv_at hl 0 rfl) ?_
    refine lv_bipush (v := iI 62) hx hb d_K_comparison_18 (by decide) ?_
    refine li_icmp_ne (tgt := 34) hx hb d_K_comparison_20 (by decide) (by omega) (by omega) (fun c2 => ?_) (fun c2 => ?_)
    · have _q := c2
      refine lv_iload_n hx hb d_K_comparison_34 rfl (lv_at hl 1 rfl) ?_
      refine li_bz (tgt := 42) hx hb d_K_comparison_35 (by decide) (fun c3 => ?_) (fun c3 => ?_)
      · have _q := c3
        refine lv_iconst (v := iI 2) hx hb d_K_comparison_42 rfl ?_
        exact fin _ _ _ (by unfold cmpR; simp_all) d_K_comparison_43
      · have _q := c3
        refine lv_iconst (v := iI 3) hx hb d_K_comparison_38 rfl ?_
        refine lv_goto (tgt := 43) hx hb d_K_comparison_39 (by decide) ?_
        exact fin _ _ _ (by unfold cmpR; simp_all) d_K_comparison_43
    · have _q := c2
      refine lv_iload_n hx hb d_K_comparison_23 rfl (lv_at hl 1 rfl) ?_
      refine li_bz (tgt := 32) hx hb d_K_comparison_24 (by decide) (fun c4 => ?_) (fun c4 => ?_)
      · have _q := c4
        refine lv_iconst (v := iI 5) hx hb d_K_comparison_32 rfl ?_
        exact fin _ _ _ (by unfold cmpR; simp_all) d_K_comparison_33
      · have _q := c4
        refine lv_bipush (v := iI 7) hx hb d_K_comparison_27 (by decide) ?_
        refine lv_goto (tgt := 33) hx hb d_K_comparison_29 (by decide) ?_
        exact fin _ _ _ (by unfold cmpR; simp_all) d_K_comparison_33
  · have _q := c1
    refine lv_iload_n hx hb d_K_comparison_6 rfl (lv_at hl 1 rfl) ?_
    refine li_bz (tgt := 15) hx hb d_K_comparison_7 (by decide) (fun c5 => ?_) (fun c5 => ?_)
    · have _q := c5
      refine lv_iconst (v := iI 4) hx hb d_K_comparison_15 rfl ?_
      exact fin _ _ _ (by unfold cmpR; simp_all) d_K_comparison_16
    · have _q := c5
      refine lv_bipush (v := iI 6) hx hb d_K_comparison_10 (by decide) ?_
      refine lv_goto (tgt := 16) hx hb d_K_comparison_12 (by decide) ?_
      exact fin _ _ _ (by unfold cmpR; simp_all) d_K_comparison_16
theorem d_H_indexOf_0 : decode b_H_indexOf 0 = .ok (.iload_n 0, 1) := by decide +kernel
theorem d_H_indexOf_1 : decode b_H_indexOf 1 = .ok (.sipush 245, 3) := by decide +kernel
theorem d_H_indexOf_4 : decode b_H_indexOf 4 = .ok (.if_icmp .ne 17, 3) := by decide +kernel
theorem d_H_indexOf_7 : decode b_H_indexOf 7 = .ok (.iload_n 1, 1) := by decide +kernel
theorem d_H_indexOf_8 : decode b_H_indexOf 8 = .ok (.bipush 97, 2) := by decide +kernel
theorem d_H_indexOf_10 : decode b_H_indexOf 10 = .ok (.if_icmp .eq 9, 3) := by decide +kernel
theorem d_H_indexOf_13 : decode b_H_indexOf 13 = .ok (.iload_n 1, 1) := by decide +kernel
theorem d_H_indexOf_14 : decode b_H_indexOf 14 = .ok (.bipush 98, 2) := by decide +kernel
theorem d_H_indexOf_16 : decode b_H_indexOf 16 = .ok (.if_icmp .ne 5, 3) := by decide +kernel
theorem d_H_indexOf_19 : decode b_H_indexOf 19 = .ok (.iconst 1, 1) := by decide +kernel
theorem d_H_indexOf_20 : decode b_H_indexOf 20 = .ok (.ireturn, 1) := by decide +kernel
theorem d_H_indexOf_21 : decode b_H_indexOf 21 = .ok (.iload_n 0, 1) := by decide +kernel
theorem d_H_indexOf_22 : decode b_H_indexOf 22 = .ok (.bipush 100, 2) := by decide +kernel
theorem d_H_indexOf_24 : decode b_H_indexOf 24 = .ok (.if_icmp .eq 10, 3) := by decide +kernel
theorem d_H_indexOf_27 : decode b_H_indexOf 27 = .ok (.iload_n 0, 1) := by decide +kernel
theorem d_H_indexOf_28 : decode b_H_indexOf 28 = .ok (.sipush 700, 3) := by decide +kernel
theorem d_H_indexOf_31 : decode b_H_indexOf 31 = .ok (.if_icmp .ne 11, 3) := by decide +kernel
theorem d_H_indexOf_34 : decode b_H_indexOf 34 = .ok (.iload_n 1, 1) := by decide +kernel
theorem d_H_indexOf_35 : decode b_H_indexOf 35 = .ok (.bipush 97, 2) := by decide +kernel
theorem d_H_indexOf_37 : decode b_H_indexOf 37 = .ok (.if_icmp .ne 5, 3) := by decide +kernel
theorem d_H_indexOf_40 : decode b_H_indexOf 40 = .ok (.iconst 2, 1) := by decide +kernel
theorem d_H_indexOf_41 : decode b_H_indexOf 41 = .ok (.ireturn, 1) := by decide +kernel
theorem d_H_indexOf_42 : decode b_H_indexOf 42 = .ok (.iload_n 0, 1) := by decide +kernel
theorem d_H_indexOf_43 : decode b_H_indexOf 43 = .ok (.sipush 650, 3) := by decide +kernel
theorem d_H_indexOf_46 : decode b_H_indexOf 46 = .ok (.if_icmp .ne 11, 3) := by decide +kernel
theorem d_H_indexOf_49 : decode b_H_indexOf 49 = .ok (.iload_n 1, 1) := by decide +kernel
theorem d_H_indexOf_50 : decode b_H_indexOf 50 = .ok (.bipush 97, 2) := by decide +kernel
theorem d_H_indexOf_52 : decode b_H_indexOf 52 = .ok (.if_icmp .ne 5, 3) := by decide +kernel
theorem d_H_indexOf_55 : decode b_H_indexOf 55 = .ok (.iconst 3, 1) := by decide +kernel
theorem d_H_indexOf_56 : decode b_H_indexOf 56 = .ok (.ireturn, 1) := by decide +kernel
theorem d_H_indexOf_57 : decode b_H_indexOf 57 = .ok (.iload_n 0, 1) := by decide +kernel
theorem d_H_indexOf_58 : decode b_H_indexOf 58 = .ok (.sipush 260, 3) := by decide +kernel
theorem d_H_indexOf_61 : decode b_H_indexOf 61 = .ok (.if_icmp .ne 13, 3) := by decide +kernel
theorem d_H_indexOf_64 : decode b_H_indexOf 64 = .ok (.iload_n 1, 1) := by decide +kernel
theorem d_H_indexOf_65 : decode b_H_indexOf 65 = .ok (.bipush 99, 2) := by decide +kernel
theorem d_H_indexOf_67 : decode b_H_indexOf 67 = .ok (.if_icmp .ne 7, 3) := by decide +kernel
theorem d_H_indexOf_70 : decode b_H_indexOf 70 = .ok (.iconst 4, 1) := by decide +kernel
theorem d_H_indexOf_71 : decode b_H_indexOf 71 = .ok (.goto 4, 3) := by decide +kernel
theorem d_H_indexOf_74 : decode b_H_indexOf 74 = .ok (.iconst 0, 1) := by decide +kernel
theorem d_H_indexOf_75 : decode b_H_indexOf 75 = .ok (.ireturn, 1) := by decide +kernel
set_option maxHeartbeats 4000000 in
set_option maxRecDepth 100000 in
theorem c_H_indexOf (l : Launch) (dC : Nat → ClassId) (dI : Nat → Nat → Nat) (kA : Nat → ClassId) (tag : Int) (cd : Int) (htag : -2147483648 ≤ tag ∧ tag < 2147483648) (hcd : 0 ≤ cd ∧ cd < 65536) : Met l y_H_indexOf (wsy y_H_indexOf b_H_indexOf 2 (some .int)) (rmd 0 0 0) (li_Pr (dC, dI) CL (TY kA) [.int (iI tag), .int (iI cd)] (va_P (dC, dI) CL [])) (k2_QcV (.int (iI (ixOf tag cd)))) 0 0 (fun _ => False) := by
  refine li_mr (by decide) (Nat.le_of_ble_eq_true rfl) (by rfl) ?_
  intro p e s m args below meth c Q C hP hK hN hG fin ls hl
  obtain ⟨hx, hb, hr, hml, hown, hts, hlocks, hin⟩ := C
  have hown : s.vm.findClass R_H = some m.cls := hown
  have hP : va_P (dC, dI) CL [] s.heap := hP
  have hl : lv_has ls 2 [(0, .int (iI tag)), (1, .int (iI cd))] := hl
  refine lv_iload_n hx hb d_H_indexOf_0 rfl (lv_at hl 0 rfl) ?_
  refine lv_sipush (v := iI 245) hx hb d_H_indexOf_1 (by decide) ?_
  refine li_icmp_ne (tgt := 21) hx hb d_H_indexOf_4 (by decide) (by omega) (by omega) (fun c1 => ?_) (fun c1 => ?_)
  · have _q := c1
    refine lv_iload_n hx hb d_H_indexOf_21 rfl (lv_at hl 0 rfl) ?_
    refine lv_bipush (v := iI 100) hx hb d_H_indexOf_22 (by decide) ?_
    refine li_icmp_eq (tgt := 34) hx hb d_H_indexOf_24 (by decide) (by omega) (by omega) (fun c2 => ?_) (fun c2 => ?_)
    · have _q := c2
      refine lv_iload_n hx hb d_H_indexOf_34 rfl (lv_at hl 1 rfl) ?_
      refine lv_bipush (v := iI 97) hx hb d_H_indexOf_35 (by decide) ?_
      refine li_icmp_ne (tgt := 42) hx hb d_H_indexOf_37 (by decide) (by omega) (by omega) (fun c3 => ?_) (fun c3 => ?_)
      · have _q := c3
        refine lv_iload_n hx hb d_H_indexOf_42 rfl (lv_at hl 0 rfl) ?_
        refine lv_sipush (v := iI 650) hx hb d_H_indexOf_43 (by decide) ?_
        refine li_icmp_ne (tgt := 57) hx hb d_H_indexOf_46 (by decide) (by omega) (by omega) (fun c4 => ?_) (fun c4 => ?_)
        · have _q := c4
          refine lv_iload_n hx hb d_H_indexOf_57 rfl (lv_at hl 0 rfl) ?_
          refine lv_sipush (v := iI 260) hx hb d_H_indexOf_58 (by decide) ?_
          refine li_icmp_ne (tgt := 74) hx hb d_H_indexOf_61 (by decide) (by omega) (by omega) (fun c5 => ?_) (fun c5 => ?_)
          · have _q := c5
            refine lv_iconst (v := iI 0) hx hb d_H_indexOf_74 rfl ?_
            exact fin _ _ _ (by unfold ixOf; repeat (first | omega | (rw [if_pos (by omega)]) | (rw [if_neg (by omega)]))) d_H_indexOf_75
          · have _q := c5
            refine lv_iload_n hx hb d_H_indexOf_64 rfl (lv_at hl 1 rfl) ?_
            refine lv_bipush (v := iI 99) hx hb d_H_indexOf_65 (by decide) ?_
            refine li_icmp_ne (tgt := 74) hx hb d_H_indexOf_67 (by decide) (by omega) (by omega) (fun c6 => ?_) (fun c6 => ?_)
            · have _q := c6
              refine lv_iconst (v := iI 0) hx hb d_H_indexOf_74 rfl ?_
              exact fin _ _ _ (by unfold ixOf; repeat (first | omega | (rw [if_pos (by omega)]) | (rw [if_neg (by omega)]))) d_H_indexOf_75
            · have _q := c6
              refine lv_iconst (v := iI 4) hx hb d_H_indexOf_70 rfl ?_
              refine lv_goto (tgt := 75) hx hb d_H_indexOf_71 (by decide) ?_
              exact fin _ _ _ (by unfold ixOf; repeat (first | omega | (rw [if_pos (by omega)]) | (rw [if_neg (by omega)]))) d_H_indexOf_75
        · have _q := c4
          refine lv_iload_n hx hb d_H_indexOf_49 rfl (lv_at hl 1 rfl) ?_
          refine lv_bipush (v := iI 97) hx hb d_H_indexOf_50 (by decide) ?_
          refine li_icmp_ne (tgt := 57) hx hb d_H_indexOf_52 (by decide) (by omega) (by omega) (fun c7 => ?_) (fun c7 => ?_)
          · have _q := c7
            refine lv_iload_n hx hb d_H_indexOf_57 rfl (lv_at hl 0 rfl) ?_
            refine lv_sipush (v := iI 260) hx hb d_H_indexOf_58 (by decide) ?_
            refine li_icmp_ne (tgt := 74) hx hb d_H_indexOf_61 (by decide) (by omega) (by omega) (fun c8 => ?_) (fun c8 => ?_)
            · have _q := c8
              refine lv_iconst (v := iI 0) hx hb d_H_indexOf_74 rfl ?_
              exact fin _ _ _ (by unfold ixOf; repeat (first | omega | (rw [if_pos (by omega)]) | (rw [if_neg (by omega)]))) d_H_indexOf_75
            · have _q := c8
              refine lv_iload_n hx hb d_H_indexOf_64 rfl (lv_at hl 1 rfl) ?_
              refine lv_bipush (v := iI 99) hx hb d_H_indexOf_65 (by decide) ?_
              refine li_icmp_ne (tgt := 74) hx hb d_H_indexOf_67 (by decide) (by omega) (by omega) (fun c9 => ?_) (fun c9 => ?_)
              · have _q := c9
                refine lv_iconst (v := iI 0) hx hb d_H_indexOf_74 rfl ?_
                exact fin _ _ _ (by unfold ixOf; repeat (first | omega | (rw [if_pos (by omega)]) | (rw [if_neg (by omega)]))) d_H_indexOf_75
              · have _q := c9
                refine lv_iconst (v := iI 4) hx hb d_H_indexOf_70 rfl ?_
                refine lv_goto (tgt := 75) hx hb d_H_indexOf_71 (by decide) ?_
                exact fin _ _ _ (by unfold ixOf; repeat (first | omega | (rw [if_pos (by omega)]) | (rw [if_neg (by omega)]))) d_H_indexOf_75
          · have _q := c7
            refine lv_iconst (v := iI 3) hx hb d_H_indexOf_55 rfl ?_
            exact fin _ _ _ (by unfold ixOf; repeat (first | omega | (rw [if_pos (by omega)]) | (rw [if_neg (by omega)]))) d_H_indexOf_56
      · have _q := c3
        refine lv_iconst (v := iI 2) hx hb d_H_indexOf_40 rfl ?_
        exact fin _ _ _ (by unfold ixOf; repeat (first | omega | (rw [if_pos (by omega)]) | (rw [if_neg (by omega)]))) d_H_indexOf_41
    · have _q := c2
      refine lv_iload_n hx hb d_H_indexOf_27 rfl (lv_at hl 0 rfl) ?_
      refine lv_sipush (v := iI 700) hx hb d_H_indexOf_28 (by decide) ?_
      refine li_icmp_ne (tgt := 42) hx hb d_H_indexOf_31 (by decide) (by omega) (by omega) (fun c10 => ?_) (fun c10 => ?_)
      · have _q := c10
        refine lv_iload_n hx hb d_H_indexOf_42 rfl (lv_at hl 0 rfl) ?_
        refine lv_sipush (v := iI 650) hx hb d_H_indexOf_43 (by decide) ?_
        refine li_icmp_ne (tgt := 57) hx hb d_H_indexOf_46 (by decide) (by omega) (by omega) (fun c11 => ?_) (fun c11 => ?_)
        · have _q := c11
          refine lv_iload_n hx hb d_H_indexOf_57 rfl (lv_at hl 0 rfl) ?_
          refine lv_sipush (v := iI 260) hx hb d_H_indexOf_58 (by decide) ?_
          refine li_icmp_ne (tgt := 74) hx hb d_H_indexOf_61 (by decide) (by omega) (by omega) (fun c12 => ?_) (fun c12 => ?_)
          · have _q := c12
            refine lv_iconst (v := iI 0) hx hb d_H_indexOf_74 rfl ?_
            exact fin _ _ _ (by unfold ixOf; repeat (first | omega | (rw [if_pos (by omega)]) | (rw [if_neg (by omega)]))) d_H_indexOf_75
          · have _q := c12
            refine lv_iload_n hx hb d_H_indexOf_64 rfl (lv_at hl 1 rfl) ?_
            refine lv_bipush (v := iI 99) hx hb d_H_indexOf_65 (by decide) ?_
            refine li_icmp_ne (tgt := 74) hx hb d_H_indexOf_67 (by decide) (by omega) (by omega) (fun c13 => ?_) (fun c13 => ?_)
            · have _q := c13
              refine lv_iconst (v := iI 0) hx hb d_H_indexOf_74 rfl ?_
              exact fin _ _ _ (by unfold ixOf; repeat (first | omega | (rw [if_pos (by omega)]) | (rw [if_neg (by omega)]))) d_H_indexOf_75
            · have _q := c13
              refine lv_iconst (v := iI 4) hx hb d_H_indexOf_70 rfl ?_
              refine lv_goto (tgt := 75) hx hb d_H_indexOf_71 (by decide) ?_
              exact fin _ _ _ (by unfold ixOf; repeat (first | omega | (rw [if_pos (by omega)]) | (rw [if_neg (by omega)]))) d_H_indexOf_75
        · have _q := c11
          refine lv_iload_n hx hb d_H_indexOf_49 rfl (lv_at hl 1 rfl) ?_
          refine lv_bipush (v := iI 97) hx hb d_H_indexOf_50 (by decide) ?_
          refine li_icmp_ne (tgt := 57) hx hb d_H_indexOf_52 (by decide) (by omega) (by omega) (fun c14 => ?_) (fun c14 => ?_)
          · have _q := c14
            refine lv_iload_n hx hb d_H_indexOf_57 rfl (lv_at hl 0 rfl) ?_
            refine lv_sipush (v := iI 260) hx hb d_H_indexOf_58 (by decide) ?_
            refine li_icmp_ne (tgt := 74) hx hb d_H_indexOf_61 (by decide) (by omega) (by omega) (fun c15 => ?_) (fun c15 => ?_)
            · have _q := c15
              refine lv_iconst (v := iI 0) hx hb d_H_indexOf_74 rfl ?_
              exact fin _ _ _ (by unfold ixOf; repeat (first | omega | (rw [if_pos (by omega)]) | (rw [if_neg (by omega)]))) d_H_indexOf_75
            · have _q := c15
              refine lv_iload_n hx hb d_H_indexOf_64 rfl (lv_at hl 1 rfl) ?_
              refine lv_bipush (v := iI 99) hx hb d_H_indexOf_65 (by decide) ?_
              refine li_icmp_ne (tgt := 74) hx hb d_H_indexOf_67 (by decide) (by omega) (by omega) (fun c16 => ?_) (fun c16 => ?_)
              · have _q := c16
                refine lv_iconst (v := iI 0) hx hb d_H_indexOf_74 rfl ?_
                exact fin _ _ _ (by unfold ixOf; repeat (first | omega | (rw [if_pos (by omega)]) | (rw [if_neg (by omega)]))) d_H_indexOf_75
              · have _q := c16
                refine lv_iconst (v := iI 4) hx hb d_H_indexOf_70 rfl ?_
                refine lv_goto (tgt := 75) hx hb d_H_indexOf_71 (by decide) ?_
                exact fin _ _ _ (by unfold ixOf; repeat (first | omega | (rw [if_pos (by omega)]) | (rw [if_neg (by omega)]))) d_H_indexOf_75
          · have _q := c14
            refine lv_iconst (v := iI 3) hx hb d_H_indexOf_55 rfl ?_
            exact fin _ _ _ (by unfold ixOf; repeat (first | omega | (rw [if_pos (by omega)]) | (rw [if_neg (by omega)]))) d_H_indexOf_56
      · have _q := c10
        refine lv_iload_n hx hb d_H_indexOf_34 rfl (lv_at hl 1 rfl) ?_
        refine lv_bipush (v := iI 97) hx hb d_H_indexOf_35 (by decide) ?_
        refine li_icmp_ne (tgt := 42) hx hb d_H_indexOf_37 (by decide) (by omega) (by omega) (fun c17 => ?_) (fun c17 => ?_)
        · have _q := c17
          refine lv_iload_n hx hb d_H_indexOf_42 rfl (lv_at hl 0 rfl) ?_
          refine lv_sipush (v := iI 650) hx hb d_H_indexOf_43 (by decide) ?_
          refine li_icmp_ne (tgt := 57) hx hb d_H_indexOf_46 (by decide) (by omega) (by omega) (fun c18 => ?_) (fun c18 => ?_)
          · have _q := c18
            refine lv_iload_n hx hb d_H_indexOf_57 rfl (lv_at hl 0 rfl) ?_
            refine lv_sipush (v := iI 260) hx hb d_H_indexOf_58 (by decide) ?_
            refine li_icmp_ne (tgt := 74) hx hb d_H_indexOf_61 (by decide) (by omega) (by omega) (fun c19 => ?_) (fun c19 => ?_)
            · have _q := c19
              refine lv_iconst (v := iI 0) hx hb d_H_indexOf_74 rfl ?_
              exact fin _ _ _ (by unfold ixOf; repeat (first | omega | (rw [if_pos (by omega)]) | (rw [if_neg (by omega)]))) d_H_indexOf_75
            · have _q := c19
              refine lv_iload_n hx hb d_H_indexOf_64 rfl (lv_at hl 1 rfl) ?_
              refine lv_bipush (v := iI 99) hx hb d_H_indexOf_65 (by decide) ?_
              refine li_icmp_ne (tgt := 74) hx hb d_H_indexOf_67 (by decide) (by omega) (by omega) (fun c20 => ?_) (fun c20 => ?_)
              · have _q := c20
                refine lv_iconst (v := iI 0) hx hb d_H_indexOf_74 rfl ?_
                exact fin _ _ _ (by unfold ixOf; repeat (first | omega | (rw [if_pos (by omega)]) | (rw [if_neg (by omega)]))) d_H_indexOf_75
              · have _q := c20
                refine lv_iconst (v := iI 4) hx hb d_H_indexOf_70 rfl ?_
                refine lv_goto (tgt := 75) hx hb d_H_indexOf_71 (by decide) ?_
                exact fin _ _ _ (by unfold ixOf; repeat (first | omega | (rw [if_pos (by omega)]) | (rw [if_neg (by omega)]))) d_H_indexOf_75
          · have _q := c18
            refine lv_iload_n hx hb d_H_indexOf_49 rfl (lv_at hl 1 rfl) ?_
            refine lv_bipush (v := iI 97) hx hb d_H_indexOf_50 (by decide) ?_
            refine li_icmp_ne (tgt := 57) hx hb d_H_indexOf_52 (by decide) (by omega) (by omega) (fun c21 => ?_) (fun c21 => ?_)
            · have _q := c21
              refine lv_iload_n hx hb d_H_indexOf_57 rfl (lv_at hl 0 rfl) ?_
              refine lv_sipush (v := iI 260) hx hb d_H_indexOf_58 (by decide) ?_
              refine li_icmp_ne (tgt := 74) hx hb d_H_indexOf_61 (by decide) (by omega) (by omega) (fun c22 => ?_) (fun c22 => ?_)
              · have _q := c22
                refine lv_iconst (v := iI 0) hx hb d_H_indexOf_74 rfl ?_
                exact fin _ _ _ (by unfold ixOf; repeat (first | omega | (rw [if_pos (by omega)]) | (rw [if_neg (by omega)]))) d_H_indexOf_75
              · have _q := c22
                refine lv_iload_n hx hb d_H_indexOf_64 rfl (lv_at hl 1 rfl) ?_
                refine lv_bipush (v := iI 99) hx hb d_H_indexOf_65 (by decide) ?_
                refine li_icmp_ne (tgt := 74) hx hb d_H_indexOf_67 (by decide) (by omega) (by omega) (fun c23 => ?_) (fun c23 => ?_)
                · have _q := c23
                  refine lv_iconst (v := iI 0) hx hb d_H_indexOf_74 rfl ?_
                  exact fin _ _ _ (by unfold ixOf; repeat (first | omega | (rw [if_pos (by omega)]) | (rw [if_neg (by omega)]))) d_H_indexOf_75
                · have _q := c23
                  refine lv_iconst (v := iI 4) hx hb d_H_indexOf_70 rfl ?_
                  refine lv_goto (tgt := 75) hx hb d_H_indexOf_71 (by decide) ?_
                  exact fin _ _ _ (by unfold ixOf; repeat (first | omega | (rw [if_pos (by omega)]) | (rw [if_neg (by omega)]))) d_H_indexOf_75
            · have _q := c21
              refine lv_iconst (v := iI 3) hx hb d_H_indexOf_55 rfl ?_
              exact fin _ _ _ (by unfold ixOf; repeat (first | omega | (rw [if_pos (by omega)]) | (rw [if_neg (by omega)]))) d_H_indexOf_56
        · have _q := c17
          refine lv_iconst (v := iI 2) hx hb d_H_indexOf_40 rfl ?_
          exact fin _ _ _ (by unfold ixOf; repeat (first | omega | (rw [if_pos (by omega)]) | (rw [if_neg (by omega)]))) d_H_indexOf_41
  · have _q := c1
    refine lv_iload_n hx hb d_H_indexOf_7 rfl (lv_at hl 1 rfl) ?_
    refine lv_bipush (v := iI 97) hx hb d_H_indexOf_8 (by decide) ?_
    refine li_icmp_eq (tgt := 19) hx hb d_H_indexOf_10 (by decide) (by omega) (by omega) (fun c24 => ?_) (fun c24 => ?_)
    · have _q := c24
      refine lv_iconst (v := iI 1) hx hb d_H_indexOf_19 rfl ?_
      exact fin _ _ _ (by unfold ixOf; repeat (first | omega | (rw [if_pos (by omega)]) | (rw [if_neg (by omega)]))) d_H_indexOf_20
    · have _q := c24
      refine lv_iload_n hx hb d_H_indexOf_13 rfl (lv_at hl 1 rfl) ?_
      refine lv_bipush (v := iI 98) hx hb d_H_indexOf_14 (by decide) ?_
      refine li_icmp_ne (tgt := 21) hx hb d_H_indexOf_16 (by decide) (by omega) (by omega) (fun c25 => ?_) (fun c25 => ?_)
      · have _q := c25
        refine lv_iload_n hx hb d_H_indexOf_21 rfl (lv_at hl 0 rfl) ?_
        refine lv_bipush (v := iI 100) hx hb d_H_indexOf_22 (by decide) ?_
        refine li_icmp_eq (tgt := 34) hx hb d_H_indexOf_24 (by decide) (by omega) (by omega) (fun c26 => ?_) (fun c26 => ?_)
        · have _q := c26
          refine lv_iload_n hx hb d_H_indexOf_34 rfl (lv_at hl 1 rfl) ?_
          refine lv_bipush (v := iI 97) hx hb d_H_indexOf_35 (by decide) ?_
          refine li_icmp_ne (tgt := 42) hx hb d_H_indexOf_37 (by decide) (by omega) (by omega) (fun c27 => ?_) (fun c27 => ?_)
          · have _q := c27
            refine lv_iload_n hx hb d_H_indexOf_42 rfl (lv_at hl 0 rfl) ?_
            refine lv_sipush (v := iI 650) hx hb d_H_indexOf_43 (by decide) ?_
            refine li_icmp_ne (tgt := 57) hx hb d_H_indexOf_46 (by decide) (by omega) (by omega) (fun c28 => ?_) (fun c28 => ?_)
            · have _q := c28
              refine lv_iload_n hx hb d_H_indexOf_57 rfl (lv_at hl 0 rfl) ?_
              refine lv_sipush (v := iI 260) hx hb d_H_indexOf_58 (by decide) ?_
              refine li_icmp_ne (tgt := 74) hx hb d_H_indexOf_61 (by decide) (by omega) (by omega) (fun c29 => ?_) (fun c29 => ?_)
              · have _q := c29
                refine lv_iconst (v := iI 0) hx hb d_H_indexOf_74 rfl ?_
                exact fin _ _ _ (by unfold ixOf; repeat (first | omega | (rw [if_pos (by omega)]) | (rw [if_neg (by omega)]))) d_H_indexOf_75
              · have _q := c29
                refine lv_iload_n hx hb d_H_indexOf_64 rfl (lv_at hl 1 rfl) ?_
                refine lv_bipush (v := iI 99) hx hb d_H_indexOf_65 (by decide) ?_
                refine li_icmp_ne (tgt := 74) hx hb d_H_indexOf_67 (by decide) (by omega) (by omega) (fun c30 => ?_) (fun c30 => ?_)
                · have _q := c30
                  refine lv_iconst (v := iI 0) hx hb d_H_indexOf_74 rfl ?_
                  exact fin _ _ _ (by unfold ixOf; repeat (first | omega | (rw [if_pos (by omega)]) | (rw [if_neg (by omega)]))) d_H_indexOf_75
                · have _q := c30
                  refine lv_iconst (v := iI 4) hx hb d_H_indexOf_70 rfl ?_
                  refine lv_goto (tgt := 75) hx hb d_H_indexOf_71 (by decide) ?_
                  exact fin _ _ _ (by unfold ixOf; repeat (first | omega | (rw [if_pos (by omega)]) | (rw [if_neg (by omega)]))) d_H_indexOf_75
            · have _q := c28
              refine lv_iload_n hx hb d_H_indexOf_49 rfl (lv_at hl 1 rfl) ?_
              refine lv_bipush (v := iI 97) hx hb d_H_indexOf_50 (by decide) ?_
              refine li_icmp_ne (tgt := 57) hx hb d_H_indexOf_52 (by decide) (by omega) (by omega) (fun c31 => ?_) (fun c31 => ?_)
              · have _q := c31
                refine lv_iload_n hx hb d_H_indexOf_57 rfl (lv_at hl 0 rfl) ?_
                refine lv_sipush (v := iI 260) hx hb d_H_indexOf_58 (by decide) ?_
                refine li_icmp_ne (tgt := 74) hx hb d_H_indexOf_61 (by decide) (by omega) (by omega) (fun c32 => ?_) (fun c32 => ?_)
                · have _q := c32
                  refine lv_iconst (v := iI 0) hx hb d_H_indexOf_74 rfl ?_
                  exact fin _ _ _ (by unfold ixOf; repeat (first | omega | (rw [if_pos (by omega)]) | (rw [if_neg (by omega)]))) d_H_indexOf_75
                · have _q := c32
                  refine lv_iload_n hx hb d_H_indexOf_64 rfl (lv_at hl 1 rfl) ?_
                  refine lv_bipush (v := iI 99) hx hb d_H_indexOf_65 (by decide) ?_
                  refine li_icmp_ne (tgt := 74) hx hb d_H_indexOf_67 (by decide) (by omega) (by omega) (fun c33 => ?_) (fun c33 => ?_)
                  · have _q := c33
                    refine lv_iconst (v := iI 0) hx hb d_H_indexOf_74 rfl ?_
                    exact fin _ _ _ (by unfold ixOf; repeat (first | omega | (rw [if_pos (by omega)]) | (rw [if_neg (by omega)]))) d_H_indexOf_75
                  · have _q := c33
                    refine lv_iconst (v := iI 4) hx hb d_H_indexOf_70 rfl ?_
                    refine lv_goto (tgt := 75) hx hb d_H_indexOf_71 (by decide) ?_
                    exact fin _ _ _ (by unfold ixOf; repeat (first | omega | (rw [if_pos (by omega)]) | (rw [if_neg (by omega)]))) d_H_indexOf_75
              · have _q := c31
                refine lv_iconst (v := iI 3) hx hb d_H_indexOf_55 rfl ?_
                exact fin _ _ _ (by unfold ixOf; repeat (first | omega | (rw [if_pos (by omega)]) | (rw [if_neg (by omega)]))) d_H_indexOf_56
          · have _q := c27
            refine lv_iconst (v := iI 2) hx hb d_H_indexOf_40 rfl ?_
            exact fin _ _ _ (by unfold ixOf; repeat (first | omega | (rw [if_pos (by omega)]) | (rw [if_neg (by omega)]))) d_H_indexOf_41
        · have _q := c26
          refine lv_iload_n hx hb d_H_indexOf_27 rfl (lv_at hl 0 rfl) ?_
          refine lv_sipush (v := iI 700) hx hb d_H_indexOf_28 (by decide) ?_
          refine li_icmp_ne (tgt := 42) hx hb d_H_indexOf_31 (by decide) (by omega) (by omega) (fun c34 => ?_) (fun c34 => ?_)
          · have _q := c34
            refine lv_iload_n hx hb d_H_indexOf_42 rfl (lv_at hl 0 rfl) ?_
            refine lv_sipush (v := iI 650) hx hb d_H_indexOf_43 (by decide) ?_
            refine li_icmp_ne (tgt := 57) hx hb d_H_indexOf_46 (by decide) (by omega) (by omega) (fun c35 => ?_) (fun c35 => ?_)
            · have _q := c35
              refine lv_iload_n hx hb d_H_indexOf_57 rfl (lv_at hl 0 rfl) ?_
              refine lv_sipush (v := iI 260) hx hb d_H_indexOf_58 (by decide) ?_
              refine li_icmp_ne (tgt := 74) hx hb d_H_indexOf_61 (by decide) (by omega) (by omega) (fun c36 => ?_) (fun c36 => ?_)
              · have _q := c36
                refine lv_iconst (v := iI 0) hx hb d_H_indexOf_74 rfl ?_
                exact fin _ _ _ (by unfold ixOf; repeat (first | omega | (rw [if_pos (by omega)]) | (rw [if_neg (by omega)]))) d_H_indexOf_75
              · have _q := c36
                refine lv_iload_n hx hb d_H_indexOf_64 rfl (lv_at hl 1 rfl) ?_
                refine lv_bipush (v := iI 99) hx hb d_H_indexOf_65 (by decide) ?_
                refine li_icmp_ne (tgt := 74) hx hb d_H_indexOf_67 (by decide) (by omega) (by omega) (fun c37 => ?_) (fun c37 => ?_)
                · have _q := c37
                  refine lv_iconst (v := iI 0) hx hb d_H_indexOf_74 rfl ?_
                  exact fin _ _ _ (by unfold ixOf; repeat (first | omega | (rw [if_pos (by omega)]) | (rw [if_neg (by omega)]))) d_H_indexOf_75
                · have _q := c37
                  refine lv_iconst (v := iI 4) hx hb d_H_indexOf_70 rfl ?_
                  refine lv_goto (tgt := 75) hx hb d_H_indexOf_71 (by decide) ?_
                  exact fin _ _ _ (by unfold ixOf; repeat (first | omega | (rw [if_pos (by omega)]) | (rw [if_neg (by omega)]))) d_H_indexOf_75
            · have _q := c35
              refine lv_iload_n hx hb d_H_indexOf_49 rfl (lv_at hl 1 rfl) ?_
              refine lv_bipush (v := iI 97) hx hb d_H_indexOf_50 (by decide) ?_
              refine li_icmp_ne (tgt := 57) hx hb d_H_indexOf_52 (by decide) (by omega) (by omega) (fun c38 => ?_) (fun c38 => ?_)
              · have _q := c38
                refine lv_iload_n hx hb d_H_indexOf_57 rfl (lv_at hl 0 rfl) ?_
                refine lv_sipush (v := iI 260) hx hb d_H_indexOf_58 (by decide) ?_
                refine li_icmp_ne (tgt := 74) hx hb d_H_indexOf_61 (by decide) (by omega) (by omega) (fun c39 => ?_) (fun c39 => ?_)
                · have _q := c39
                  refine lv_iconst (v := iI 0) hx hb d_H_indexOf_74 rfl ?_
                  exact fin _ _ _ (by unfold ixOf; repeat (first | omega | (rw [if_pos (by omega)]) | (rw [if_neg (by omega)]))) d_H_indexOf_75
                · have _q := c39
                  refine lv_iload_n hx hb d_H_indexOf_64 rfl (lv_at hl 1 rfl) ?_
                  refine lv_bipush (v := iI 99) hx hb d_H_indexOf_65 (by decide) ?_
                  refine li_icmp_ne (tgt := 74) hx hb d_H_indexOf_67 (by decide) (by omega) (by omega) (fun c40 => ?_) (fun c40 => ?_)
                  · have _q := c40
                    refine lv_iconst (v := iI 0) hx hb d_H_indexOf_74 rfl ?_
                    exact fin _ _ _ (by unfold ixOf; repeat (first | omega | (rw [if_pos (by omega)]) | (rw [if_neg (by omega)]))) d_H_indexOf_75
                  · have _q := c40
                    refine lv_iconst (v := iI 4) hx hb d_H_indexOf_70 rfl ?_
                    refine lv_goto (tgt := 75) hx hb d_H_indexOf_71 (by decide) ?_
                    exact fin _ _ _ (by unfold ixOf; repeat (first | omega | (rw [if_pos (by omega)]) | (rw [if_neg (by omega)]))) d_H_indexOf_75
              · have _q := c38
                refine lv_iconst (v := iI 3) hx hb d_H_indexOf_55 rfl ?_
                exact fin _ _ _ (by unfold ixOf; repeat (first | omega | (rw [if_pos (by omega)]) | (rw [if_neg (by omega)]))) d_H_indexOf_56
          · have _q := c34
            refine lv_iload_n hx hb d_H_indexOf_34 rfl (lv_at hl 1 rfl) ?_
            refine lv_bipush (v := iI 97) hx hb d_H_indexOf_35 (by decide) ?_
            refine li_icmp_ne (tgt := 42) hx hb d_H_indexOf_37 (by decide) (by omega) (by omega) (fun c41 => ?_) (fun c41 => ?_)
            · have _q := c41
              refine lv_iload_n hx hb d_H_indexOf_42 rfl (lv_at hl 0 rfl) ?_
              refine lv_sipush (v := iI 650) hx hb d_H_indexOf_43 (by decide) ?_
              refine li_icmp_ne (tgt := 57) hx hb d_H_indexOf_46 (by decide) (by omega) (by omega) (fun c42 => ?_) (fun c42 => ?_)
              · have _q := c42
                refine lv_iload_n hx hb d_H_indexOf_57 rfl (lv_at hl 0 rfl) ?_
                refine lv_sipush (v := iI 260) hx hb d_H_indexOf_58 (by decide) ?_
                refine li_icmp_ne (tgt := 74) hx hb d_H_indexOf_61 (by decide) (by omega) (by omega) (fun c43 => ?_) (fun c43 => ?_)
                · have _q := c43
                  refine lv_iconst (v := iI 0) hx hb d_H_indexOf_74 rfl ?_
                  exact fin _ _ _ (by unfold ixOf; repeat (first | omega | (rw [if_pos (by omega)]) | (rw [if_neg (by omega)]))) d_H_indexOf_75
                · have _q := c43
                  refine lv_iload_n hx hb d_H_indexOf_64 rfl (lv_at hl 1 rfl) ?_
                  refine lv_bipush (v := iI 99) hx hb d_H_indexOf_65 (by decide) ?_
                  refine li_icmp_ne (tgt := 74) hx hb d_H_indexOf_67 (by decide) (by omega) (by omega) (fun c44 => ?_) (fun c44 => ?_)
                  · have _q := c44
                    refine lv_iconst (v := iI 0) hx hb d_H_indexOf_74 rfl ?_
                    exact fin _ _ _ (by unfold ixOf; repeat (first | omega | (rw [if_pos (by omega)]) | (rw [if_neg (by omega)]))) d_H_indexOf_75
                  · have _q := c44
                    refine lv_iconst (v := iI 4) hx hb d_H_indexOf_70 rfl ?_
                    refine lv_goto (tgt := 75) hx hb d_H_indexOf_71 (by decide) ?_
                    exact fin _ _ _ (by unfold ixOf; repeat (first | omega | (rw [if_pos (by omega)]) | (rw [if_neg (by omega)]))) d_H_indexOf_75
              · have _q := c42
                refine lv_iload_n hx hb d_H_indexOf_49 rfl (lv_at hl 1 rfl) ?_
                refine lv_bipush (v := iI 97) hx hb d_H_indexOf_50 (by decide) ?_
                refine li_icmp_ne (tgt := 57) hx hb d_H_indexOf_52 (by decide) (by omega) (by omega) (fun c45 => ?_) (fun c45 => ?_)
                · have _q := c45
                  refine lv_iload_n hx hb d_H_indexOf_57 rfl (lv_at hl 0 rfl) ?_
                  refine lv_sipush (v := iI 260) hx hb d_H_indexOf_58 (by decide) ?_
                  refine li_icmp_ne (tgt := 74) hx hb d_H_indexOf_61 (by decide) (by omega) (by omega) (fun c46 => ?_) (fun c46 => ?_)
                  · have _q := c46
                    refine lv_iconst (v := iI 0) hx hb d_H_indexOf_74 rfl ?_
                    exact fin _ _ _ (by unfold ixOf; repeat (first | omega | (rw [if_pos (by omega)]) | (rw [if_neg (by omega)]))) d_H_indexOf_75
                  · have _q := c46
                    refine lv_iload_n hx hb d_H_indexOf_64 rfl (lv_at hl 1 rfl) ?_
                    refine lv_bipush (v := iI 99) hx hb d_H_indexOf_65 (by decide) ?_
                    refine li_icmp_ne (tgt := 74) hx hb d_H_indexOf_67 (by decide) (by omega) (by omega) (fun c47 => ?_) (fun c47 => ?_)
                    · have _q := c47
                      refine lv_iconst (v := iI 0) hx hb d_H_indexOf_74 rfl ?_
                      exact fin _ _ _ (by unfold ixOf; repeat (first | omega | (rw [if_pos (by omega)]) | (rw [if_neg (by omega)]))) d_H_indexOf_75
                    · have _q := c47
                      refine lv_iconst (v := iI 4) hx hb d_H_indexOf_70 rfl ?_
                      refine lv_goto (tgt := 75) hx hb d_H_indexOf_71 (by decide) ?_
                      exact fin _ _ _ (by unfold ixOf; repeat (first | omega | (rw [if_pos (by omega)]) | (rw [if_neg (by omega)]))) d_H_indexOf_75
                · have _q := c45
                  refine lv_iconst (v := iI 3) hx hb d_H_indexOf_55 rfl ?_
                  exact fin _ _ _ (by unfold ixOf; repeat (first | omega | (rw [if_pos (by omega)]) | (rw [if_neg (by omega)]))) d_H_indexOf_56
            · have _q := c41
              refine lv_iconst (v := iI 2) hx hb d_H_indexOf_40 rfl ?_
              exact fin _ _ _ (by unfold ixOf; repeat (first | omega | (rw [if_pos (by omega)]) | (rw [if_neg (by omega)]))) d_H_indexOf_41
      · have _q := c25
        refine lv_iconst (v := iI 1) hx hb d_H_indexOf_19 rfl ?_
        exact fin _ _ _ (by unfold ixOf; repeat (first | omega | (rw [if_pos (by omega)]) | (rw [if_neg (by omega)]))) d_H_indexOf_20
theorem d_H_marksIn_0 : decode b_H_marksIn 0 = .ok (.iconst 0, 1) := by decide +kernel
theorem d_H_marksIn_1 : decode b_H_marksIn 1 = .ok (.istore_n 1, 1) := by decide +kernel
theorem d_H_marksIn_2 : decode b_H_marksIn 2 = .ok (.iconst 0, 1) := by decide +kernel
theorem d_H_marksIn_3 : decode b_H_marksIn 3 = .ok (.istore_n 2, 1) := by decide +kernel
theorem d_H_marksIn_4 : decode b_H_marksIn 4 = .ok (.iload_n 2, 1) := by decide +kernel
theorem d_H_marksIn_5 : decode b_H_marksIn 5 = .ok (.aload_n 0, 1) := by decide +kernel
theorem d_H_marksIn_6 : decode b_H_marksIn 6 = .ok (.arraylength, 1) := by decide +kernel
theorem d_H_marksIn_7 : decode b_H_marksIn 7 = .ok (.if_icmp .ge 20, 3) := by decide +kernel
theorem d_H_marksIn_10 : decode b_H_marksIn 10 = .ok (.aload_n 0, 1) := by decide +kernel
theorem d_H_marksIn_11 : decode b_H_marksIn 11 = .ok (.iload_n 2, 1) := by decide +kernel
theorem d_H_marksIn_12 : decode b_H_marksIn 12 = .ok (.caload, 1) := by decide +kernel
theorem d_H_marksIn_13 : decode b_H_marksIn 13 = .ok (.bipush 31, 2) := by decide +kernel
theorem d_H_marksIn_15 : decode b_H_marksIn 15 = .ok (.if_icmp .ne 6, 3) := by decide +kernel
theorem d_H_marksIn_18 : decode b_H_marksIn 18 = .ok (.iinc 1 1, 3) := by decide +kernel
theorem d_H_marksIn_21 : decode b_H_marksIn 21 = .ok (.iinc 2 1, 3) := by decide +kernel
theorem d_H_marksIn_24 : decode b_H_marksIn 24 = .ok (.goto (-20), 3) := by decide +kernel
theorem d_H_marksIn_27 : decode b_H_marksIn 27 = .ok (.iload_n 1, 1) := by decide +kernel
theorem d_H_marksIn_28 : decode b_H_marksIn 28 = .ok (.ireturn, 1) := by decide +kernel
set_option maxHeartbeats 4000000 in
set_option maxRecDepth 100000 in
theorem c_H_marksIn (l : Launch) (dC : Nat → ClassId) (dI : Nat → Nat → Nat) (kA : Nat → ClassId) (a : Nat) (n : Nat) (t : Nat → Int) (hn : n ≤ 100000) (ht : ∀ j, 0 ≤ t j ∧ t j < 65536) : Met l y_H_marksIn (wsy y_H_marksIn b_H_marksIn 3 (some .int)) (rmd 0 0 0) (li_Pr (dC, dI) CL (TY kA) [.ref a] (va_P (dC, dI) CL [(a, .inl (kA 1, n, .inl (aI t)))])) (k2_QcV (.int (iI (mkL t n 0 0)))) 0 0 (fun _ => False) := by
  refine li_mr (by decide) (Nat.le_of_ble_eq_true rfl) (by rfl) ?_
  intro p e s m args below meth c Q C hP hK hN hG fin ls hl
  obtain ⟨hx, hb, hr, hml, hown, hts, hlocks, hin⟩ := C
  have hown : s.vm.findClass R_H = some m.cls := hown
  have hP : va_P (dC, dI) CL [(a, .inl (kA 1, n, .inl (aI t)))] s.heap := hP
  have hl : lv_has ls 3 [(0, .ref a)] := hl
  have K_4 : ∀ (nn : Nat) (v : Int) (i : Int), (0 ≤ i ∧ i ≤ n) → (mkL t (n - i.toNat) i.toNat v = mkL t n 0 0) → (n - i.toNat < nn) → ∀ ls : Array Slot, lv_has ls 3 [(0, .ref a), (1, .int (iI v)), (2, .int (iI i))] → W p l e (rmd 0 0 0) s m args below meth c s.heap [] 0 0 Q (F0 m 4 ls []) := by
    intro nn
    induction nn with
    | zero => intro v i hi hres hm; exact absurd hm (Nat.not_lt_zero _)
    | succ nn ih =>
      intro v i hi hres hm ls hl
      refine lv_iload_n hx hb d_H_marksIn_4 rfl (lv_at hl 2 rfl) ?_
      refine lv_aload_n hx hb d_H_marksIn_5 rfl (lv_at hl 0 rfl) ?_
      refine li_alen hx hb hK hP 0 1 rfl rfl d_H_marksIn_6 ?_
      refine li_icmp_ge (tgt := 27) hx hb d_H_marksIn_7 (by decide) (by first | omega | (have := ht i.toNat; omega)) (by first | omega | (have := ht i.toNat; omega)) (fun c1 => ?_) (fun c1 => ?_)
      · have _q := c1
        refine lv_iload_n hx hb d_H_marksIn_27 rfl (lv_at hl 1 rfl) ?_
        exact fin _ _ _ (by rw [← hres, show n - i.toNat = 0 by omega]; rfl) d_H_marksIn_28
      · have _q := c1
        refine lv_aload_n hx hb d_H_marksIn_10 rfl (lv_at hl 0 rfl) ?_
        refine lv_iload_n hx hb d_H_marksIn_11 rfl (lv_at hl 2 rfl) ?_
        refine li_cald hx hb hK hP 0 1 rfl rfl (by omega) (by omega) (by omega) d_H_marksIn_12 ?_
        refine lv_bipush (v := iI 31) hx hb d_H_marksIn_13 (by decide) ?_
        refine li_icmp_ne (tgt := 21) hx hb d_H_marksIn_15 (by decide) (by first | omega | (have := ht i.toNat; omega)) (by first | omega | (have := ht i.toNat; omega)) (fun c2 => ?_) (fun c2 => ?_)
        · have _q := c2
          obtain ⟨x3, ex3⟩ : ∃ y : Int, y = i + 1 := ⟨_, rfl⟩
          refine lv_iinc (v := iI x3) (lv' := [(2, .int (iI x3)), (0, .ref a), (1, .int (iI v))]) hx hb d_H_marksIn_21 hl (k := 2) rfl (by rw [ex3]; exact iI_add _ _) (by decide) rfl (fun ls hl => ?_)
          refine lv_goto (tgt := 4) hx hb d_H_marksIn_24 (by decide) ?_
          exact ih v x3 (by omega) (by first | rfl | (subst_vars; rw [← hres, show n - i.toNat = (n - (i + 1).toNat) + 1 by omega, show (i + 1).toNat = i.toNat + 1 by omega]; simp only [mkL]; first | rw [if_pos (by assumption)] | rw [if_neg (by assumption)])) (by omega) _ (lv_sub hl [1, 2, 0] rfl)
        · have _q := c2
          obtain ⟨x4, ex4⟩ : ∃ y : Int, y = v + 1 := ⟨_, rfl⟩
          refine lv_iinc (v := iI x4) (lv' := [(1, .int (iI x4)), (0, .ref a), (2, .int (iI i))]) hx hb d_H_marksIn_18 hl (k := 1) rfl (by rw [ex4]; exact iI_add _ _) (by decide) rfl (fun ls hl => ?_)
          obtain ⟨x5, ex5⟩ : ∃ y : Int, y = i + 1 := ⟨_, rfl⟩
          refine lv_iinc (v := iI x5) (lv' := [(2, .int (iI x5)), (1, .int (iI x4)), (0, .ref a)]) hx hb d_H_marksIn_21 hl (k := 2) rfl (by rw [ex5]; exact iI_add _ _) (by decide) rfl (fun ls hl => ?_)
          refine lv_goto (tgt := 4) hx hb d_H_marksIn_24 (by decide) ?_
          exact ih x4 x5 (by omega) (by first | rfl | (subst_vars; rw [← hres, show n - i.toNat = (n - (i + 1).toNat) + 1 by omega, show (i + 1).toNat = i.toNat + 1 by omega]; simp only [mkL]; first | rw [if_pos (by assumption)] | rw [if_neg (by assumption)])) (by omega) _ (lv_sub hl [2, 1, 0] rfl)
  refine lv_iconst (v := iI 0) hx hb d_H_marksIn_0 rfl ?_
  refine lv_istore_n (lv' := [(1, .int (iI 0)), (0, .ref a)]) hx hb d_H_marksIn_1 rfl hl (by decide) rfl (fun ls hl => ?_)
  refine lv_iconst (v := iI 0) hx hb d_H_marksIn_2 rfl ?_
  refine lv_istore_n (lv' := [(2, .int (iI 0)), (1, .int (iI 0)), (0, .ref a)]) hx hb d_H_marksIn_3 rfl hl (by decide) rfl (fun ls hl => ?_)
  exact K_4 (n - (0 : Int).toNat + 1) 0 0 (by omega) (by first | rfl | (subst_vars; rw [← hres, show n - i.toNat = (n - (i + 1).toNat) + 1 by omega, show (i + 1).toNat = i.toNat + 1 by omega]; simp only [mkL]; first | rw [if_pos (by assumption)] | rw [if_neg (by assumption)])) (Nat.lt_succ_self _) _ (lv_sub hl [2, 1, 0] rfl)
theorem d_I_isText_0 : decode b_I_isText 0 = .ok (.iload_n 0, 1) := by decide +kernel
theorem d_I_isText_1 : decode b_I_isText 1 = .ok (.bipush 32, 2) := by decide +kernel
theorem d_I_isText_3 : decode b_I_isText 3 = .ok (.if_icmp .lt 13, 3) := by decide +kernel
theorem d_I_isText_6 : decode b_I_isText 6 = .ok (.iload_n 0, 1) := by decide +kernel
theorem d_I_isText_7 : decode b_I_isText 7 = .ok (.bipush 126, 2) := by decide +kernel
theorem d_I_isText_9 : decode b_I_isText 9 = .ok (.if_icmp .gt 7, 3) := by decide +kernel
theorem d_I_isText_12 : decode b_I_isText 12 = .ok (.iconst 1, 1) := by decide +kernel
theorem d_I_isText_13 : decode b_I_isText 13 = .ok (.goto 4, 3) := by decide +kernel
theorem d_I_isText_16 : decode b_I_isText 16 = .ok (.iconst 0, 1) := by decide +kernel
theorem d_I_isText_17 : decode b_I_isText 17 = .ok (.ireturn, 1) := by decide +kernel
set_option maxHeartbeats 4000000 in
set_option maxRecDepth 100000 in
theorem c_I_isText (l : Launch) (dC : Nat → ClassId) (dI : Nat → Nat → Nat) (kA : Nat → ClassId) (ch : Int) (hc : -2147483648 ≤ ch ∧ ch < 2147483648) : Met l y_I_isText (wsy y_I_isText b_I_isText 1 (some .boolean)) (rmd 0 0 0) (li_Pr (dC, dI) CL (TY kA) [.int (iI ch)] (va_P (dC, dI) CL [])) (k2_QcV (.int (iI (bI (isTxt ch))))) 0 0 (fun _ => False) := by
  refine li_mr (by decide) (Nat.le_of_ble_eq_true rfl) (by exact li_narZ2 _) ?_
  intro p e s m args below meth c Q C hP hK hN hG fin ls hl
  obtain ⟨hx, hb, hr, hml, hown, hts, hlocks, hin⟩ := C
  have hown : s.vm.findClass R_I = some m.cls := hown
  have hP : va_P (dC, dI) CL [] s.heap := hP
  have hl : lv_has ls 1 [(0, .int (iI ch))] := hl
  refine lv_iload_n hx hb d_I_isText_0 rfl (lv_at hl 0 rfl) ?_
  refine lv_bipush (v := iI 32) hx hb d_I_isText_1 (by decide) ?_
  refine li_icmp_lt (tgt := 16) hx hb d_I_isText_3 (by decide) (by omega) (by omega) (fun c1 => ?_) (fun c1 => ?_)
  · have _q := c1
    refine lv_iconst (v := iI 0) hx hb d_I_isText_16 rfl ?_
    exact fin _ _ _ (by first | exact bI_t (decide_eq_true (by omega)) | exact bI_f (decide_eq_false (by omega))) d_I_isText_17
  · have _q := c1
    refine lv_iload_n hx hb d_I_isText_6 rfl (lv_at hl 0 rfl) ?_
    refine lv_bipush (v := iI 126) hx hb d_I_isText_7 (by decide) ?_
    refine li_icmp_gt (tgt := 16) hx hb d_I_isText_9 (by decide) (by omega) (by omega) (fun c2 => ?_) (fun c2 => ?_)
    · have _q := c2
      refine lv_iconst (v := iI 0) hx hb d_I_isText_16 rfl ?_
      exact fin _ _ _ (by first | exact bI_t (decide_eq_true (by omega)) | exact bI_f (decide_eq_false (by omega))) d_I_isText_17
    · have _q := c2
      refine lv_iconst (v := iI 1) hx hb d_I_isText_12 rfl ?_
      refine lv_goto (tgt := 17) hx hb d_I_isText_13 (by decide) ?_
      exact fin _ _ _ (by first | exact bI_t (decide_eq_true (by omega)) | exact bI_f (decide_eq_false (by omega))) d_I_isText_17
theorem d_I_isBehindEntry_0 : decode b_I_isBehindEntry 0 = .ok (.iload_n 0, 1) := by decide +kernel
theorem d_I_isBehindEntry_1 : decode b_I_isBehindEntry 1 = .ok (.bipush 24, 2) := by decide +kernel
theorem d_I_isBehindEntry_3 : decode b_I_isBehindEntry 3 = .ok (.if_icmp .le 17, 3) := by decide +kernel
theorem d_I_isBehindEntry_6 : decode b_I_isBehindEntry 6 = .ok (.iload_n 0, 1) := by decide +kernel
theorem d_I_isBehindEntry_7 : decode b_I_isBehindEntry 7 = .ok (.bipush 24, 2) := by decide +kernel
theorem d_I_isBehindEntry_9 : decode b_I_isBehindEntry 9 = .ok (.isub, 1) := by decide +kernel
theorem d_I_isBehindEntry_10 : decode b_I_isBehindEntry 10 = .ok (.bipush 12, 2) := by decide +kernel
theorem d_I_isBehindEntry_12 : decode b_I_isBehindEntry 12 = .ok (.irem, 1) := by decide +kernel
theorem d_I_isBehindEntry_13 : decode b_I_isBehindEntry 13 = .ok (.ifCond .ne 7, 3) := by decide +kernel
theorem d_I_isBehindEntry_16 : decode b_I_isBehindEntry 16 = .ok (.iconst 1, 1) := by decide +kernel
theorem d_I_isBehindEntry_17 : decode b_I_isBehindEntry 17 = .ok (.goto 4, 3) := by decide +kernel
theorem d_I_isBehindEntry_20 : decode b_I_isBehindEntry 20 = .ok (.iconst 0, 1) := by decide +kernel
theorem d_I_isBehindEntry_21 : decode b_I_isBehindEntry 21 = .ok (.ireturn, 1) := by decide +kernel
set_option maxHeartbeats 4000000 in
set_option maxRecDepth 100000 in
theorem c_I_isBehindEntry (l : Launch) (dC : Nat → ClassId) (dI : Nat → Nat → Nat) (kA : Nat → ClassId) (x : Int) (hx0 : 0 ≤ x ∧ x ≤ 100000) : Met l y_I_isBehindEntry (wsy y_I_isBehindEntry b_I_isBehindEntry 1 (some .boolean)) (rmd 0 0 0) (li_Pr (dC, dI) CL (TY kA) [.int (iI x)] (va_P (dC, dI) CL [])) (k2_QcV (.int (iI (bI (behF x))))) 0 0 (fun _ => False) := by
  refine li_mr (by decide) (Nat.le_of_ble_eq_true rfl) (by exact li_narZ2 _) ?_
  intro p e s m args below meth c Q C hP hK hN hG fin ls hl
  obtain ⟨hx, hb, hr, hml, hown, hts, hlocks, hin⟩ := C
  have hown : s.vm.findClass R_I = some m.cls := hown
  have hP : va_P (dC, dI) CL [] s.heap := hP
  have hl : lv_has ls 1 [(0, .int (iI x))] := hl
  refine lv_iload_n hx hb d_I_isBehindEntry_0 rfl (lv_at hl 0 rfl) ?_
  refine lv_bipush (v := iI 24) hx hb d_I_isBehindEntry_1 (by decide) ?_
  refine li_icmp_le (tgt := 20) hx hb d_I_isBehindEntry_3 (by decide) (by omega) (by omega) (fun c1 => ?_) (fun c1 => ?_)
  · have _q := c1
    refine lv_iconst (v := iI 0) hx hb d_I_isBehindEntry_20 rfl ?_
    exact fin _ _ _ (by first | exact bI_t (decide_eq_true (by omega)) | exact bI_f (decide_eq_false (by omega))) d_I_isBehindEntry_21
  · have _q := c1
    refine lv_iload_n hx hb d_I_isBehindEntry_6 rfl (lv_at hl 0 rfl) ?_
    refine lv_bipush (v := iI 24) hx hb d_I_isBehindEntry_7 (by decide) ?_
    refine li_isub hx hb d_I_isBehindEntry_9 ?_
    refine lv_bipush (v := iI 12) hx hb d_I_isBehindEntry_10 (by decide) ?_
    refine li_irem hx hb d_I_isBehindEntry_12 (by omega) (by omega) (by omega) (by omega) ?_
    refine li_if_ne (tgt := 20) hx hb d_I_isBehindEntry_13 (by decide) (by omega) (fun c2 => ?_) (fun c2 => ?_)
    · have _q := c2
      refine lv_iconst (v := iI 0) hx hb d_I_isBehindEntry_20 rfl ?_
      exact fin _ _ _ (by first | exact bI_t (decide_eq_true (by omega)) | exact bI_f (decide_eq_false (by omega))) d_I_isBehindEntry_21
    · have _q := c2
      refine lv_iconst (v := iI 1) hx hb d_I_isBehindEntry_16 rfl ?_
      refine lv_goto (tgt := 21) hx hb d_I_isBehindEntry_17 (by decide) ?_
      exact fin _ _ _ (by first | exact bI_t (decide_eq_true (by omega)) | exact bI_f (decide_eq_false (by omega))) d_I_isBehindEntry_21
theorem d_Y_isJoin_0 : decode b_Y_isJoin 0 = .ok (.iload_n 0, 1) := by decide +kernel
theorem d_Y_isJoin_1 : decode b_Y_isJoin 1 = .ok (.bipush 11, 2) := by decide +kernel
theorem d_Y_isJoin_3 : decode b_Y_isJoin 3 = .ok (.if_icmp .eq 15, 3) := by decide +kernel
theorem d_Y_isJoin_6 : decode b_Y_isJoin 6 = .ok (.iload_n 0, 1) := by decide +kernel
theorem d_Y_isJoin_7 : decode b_Y_isJoin 7 = .ok (.bipush 12, 2) := by decide +kernel
theorem d_Y_isJoin_9 : decode b_Y_isJoin 9 = .ok (.if_icmp .eq 9, 3) := by decide +kernel
theorem d_Y_isJoin_12 : decode b_Y_isJoin 12 = .ok (.iload_n 0, 1) := by decide +kernel
theorem d_Y_isJoin_13 : decode b_Y_isJoin 13 = .ok (.bipush 13, 2) := by decide +kernel
theorem d_Y_isJoin_15 : decode b_Y_isJoin 15 = .ok (.if_icmp .ne 7, 3) := by decide +kernel
theorem d_Y_isJoin_18 : decode b_Y_isJoin 18 = .ok (.iconst 1, 1) := by decide +kernel
theorem d_Y_isJoin_19 : decode b_Y_isJoin 19 = .ok (.goto 4, 3) := by decide +kernel
theorem d_Y_isJoin_22 : decode b_Y_isJoin 22 = .ok (.iconst 0, 1) := by decide +kernel
theorem d_Y_isJoin_23 : decode b_Y_isJoin 23 = .ok (.ireturn, 1) := by decide +kernel
set_option maxHeartbeats 4000000 in
set_option maxRecDepth 100000 in
theorem c_Y_isJoin (l : Launch) (dC : Nat → ClassId) (dI : Nat → Nat → Nat) (kA : Nat → ClassId) (x : Int) (hx0 : -2147483648 ≤ x ∧ x < 2147483648) : Met l y_Y_isJoin (wsy y_Y_isJoin b_Y_isJoin 1 (some .boolean)) (rmd 0 0 0) (li_Pr (dC, dI) CL (TY kA) [.int (iI x)] (va_P (dC, dI) CL [])) (k2_QcV (.int (iI (bI (jnF x))))) 0 0 (fun _ => False) := by
  refine li_mr (by decide) (Nat.le_of_ble_eq_true rfl) (by exact li_narZ2 _) ?_
  intro p e s m args below meth c Q C hP hK hN hG fin ls hl
  obtain ⟨hx, hb, hr, hml, hown, hts, hlocks, hin⟩ := C
  have hown : s.vm.findClass R_Y = some m.cls := hown
  have hP : va_P (dC, dI) CL [] s.heap := hP
  have hl : lv_has ls 1 [(0, .int (iI x))] := hl
  refine lv_iload_n hx hb d_Y_isJoin_0 rfl (lv_at hl 0 rfl) ?_
  refine lv_bipush (v := iI 11) hx hb d_Y_isJoin_1 (by decide) ?_
  refine li_icmp_eq (tgt := 18) hx hb d_Y_isJoin_3 (by decide) (by omega) (by omega) (fun c1 => ?_) (fun c1 => ?_)
  · have _q := c1
    refine lv_iconst (v := iI 1) hx hb d_Y_isJoin_18 rfl ?_
    refine lv_goto (tgt := 23) hx hb d_Y_isJoin_19 (by decide) ?_
    exact fin _ _ _ (by first | exact bI_t (decide_eq_true (by omega)) | exact bI_f (decide_eq_false (by omega))) d_Y_isJoin_23
  · have _q := c1
    refine lv_iload_n hx hb d_Y_isJoin_6 rfl (lv_at hl 0 rfl) ?_
    refine lv_bipush (v := iI 12) hx hb d_Y_isJoin_7 (by decide) ?_
    refine li_icmp_eq (tgt := 18) hx hb d_Y_isJoin_9 (by decide) (by omega) (by omega) (fun c2 => ?_) (fun c2 => ?_)
    · have _q := c2
      refine lv_iconst (v := iI 1) hx hb d_Y_isJoin_18 rfl ?_
      refine lv_goto (tgt := 23) hx hb d_Y_isJoin_19 (by decide) ?_
      exact fin _ _ _ (by first | exact bI_t (decide_eq_true (by omega)) | exact bI_f (decide_eq_false (by omega))) d_Y_isJoin_23
    · have _q := c2
      refine lv_iload_n hx hb d_Y_isJoin_12 rfl (lv_at hl 0 rfl) ?_
      refine lv_bipush (v := iI 13) hx hb d_Y_isJoin_13 (by decide) ?_
      refine li_icmp_ne (tgt := 22) hx hb d_Y_isJoin_15 (by decide) (by omega) (by omega) (fun c3 => ?_) (fun c3 => ?_)
      · have _q := c3
        refine lv_iconst (v := iI 0) hx hb d_Y_isJoin_22 rfl ?_
        exact fin _ _ _ (by first | exact bI_t (decide_eq_true (by omega)) | exact bI_f (decide_eq_false (by omega))) d_Y_isJoin_23
      · have _q := c3
        refine lv_iconst (v := iI 1) hx hb d_Y_isJoin_18 rfl ?_
        refine lv_goto (tgt := 23) hx hb d_Y_isJoin_19 (by decide) ?_
        exact fin _ _ _ (by first | exact bI_t (decide_eq_true (by omega)) | exact bI_f (decide_eq_false (by omega))) d_Y_isJoin_23
theorem d_W_letterOf_0 : decode b_W_letterOf 0 = .ok (.iload_n 0, 1) := by decide +kernel
theorem d_W_letterOf_1 : decode b_W_letterOf 1 = .ok (.invokestatic 55, 3) := by decide +kernel
theorem d_W_letterOf_4 : decode b_W_letterOf 4 = .ok (.istore_n 2, 1) := by decide +kernel
theorem d_W_letterOf_5 : decode b_W_letterOf 5 = .ok (.iload_n 2, 1) := by decide +kernel
theorem d_W_letterOf_6 : decode b_W_letterOf 6 = .ok (.invokestatic 59, 3) := by decide +kernel
theorem d_W_letterOf_9 : decode b_W_letterOf 9 = .ok (.ifCond .ne 10, 3) := by decide +kernel
theorem d_W_letterOf_12 : decode b_W_letterOf 12 = .ok (.iload_n 2, 1) := by decide +kernel
theorem d_W_letterOf_13 : decode b_W_letterOf 13 = .ok (.invokestatic 63, 3) := by decide +kernel
theorem d_W_letterOf_16 : decode b_W_letterOf 16 = .ok (.ifCond .eq 5, 3) := by decide +kernel
theorem d_W_letterOf_19 : decode b_W_letterOf 19 = .ok (.iload_n 2, 1) := by decide +kernel
theorem d_W_letterOf_20 : decode b_W_letterOf 20 = .ok (.ireturn, 1) := by decide +kernel
theorem d_W_letterOf_21 : decode b_W_letterOf 21 = .ok (.iload_n 1, 1) := by decide +kernel
theorem d_W_letterOf_22 : decode b_W_letterOf 22 = .ok (.ifCond .eq 19, 3) := by decide +kernel
theorem d_W_letterOf_25 : decode b_W_letterOf 25 = .ok (.iload_n 0, 1) := by decide +kernel
theorem d_W_letterOf_26 : decode b_W_letterOf 26 = .ok (.bipush 42, 2) := by decide +kernel
theorem d_W_letterOf_28 : decode b_W_letterOf 28 = .ok (.if_icmp .eq 9, 3) := by decide +kernel
theorem d_W_letterOf_31 : decode b_W_letterOf 31 = .ok (.iload_n 0, 1) := by decide +kernel
theorem d_W_letterOf_32 : decode b_W_letterOf 32 = .ok (.bipush 63, 2) := by decide +kernel
theorem d_W_letterOf_34 : decode b_W_letterOf 34 = .ok (.if_icmp .ne 7, 3) := by decide +kernel
theorem d_W_letterOf_37 : decode b_W_letterOf 37 = .ok (.iload_n 0, 1) := by decide +kernel
theorem d_W_letterOf_38 : decode b_W_letterOf 38 = .ok (.goto 4, 3) := by decide +kernel
theorem d_W_letterOf_41 : decode b_W_letterOf 41 = .ok (.iconst 0, 1) := by decide +kernel
theorem d_W_letterOf_42 : decode b_W_letterOf 42 = .ok (.ireturn, 1) := by decide +kernel
set_option maxHeartbeats 4000000 in
set_option maxRecDepth 100000 in
theorem c_W_letterOf (l : Launch) (dC : Nat → ClassId) (dI : Nat → Nat → Nat) (kA : Nat → ClassId) (ch : Int) (b : Bool) (hc : 0 ≤ ch ∧ ch < 65536) : Met l y_W_letterOf (wsy y_W_letterOf b_W_letterOf 3 (some .char)) (rmd 1 0 0) (li_Pr (dC, dI) CL (TY kA) [.int (iI ch), .int (iI (bI b))] (va_P (dC, dI) CL [])) (k2_QcV (.int (iI (letF ch b)))) 0 0 (fun _ => False) := by
  refine li_mr (by decide) (Nat.le_of_ble_eq_true rfl) (by exact li_narC2 (letF_r hc).1 (letF_r hc).2) ?_
  intro p e s m args below meth c Q C hP hK hN hG fin ls hl
  obtain ⟨hx, hb, hr, hml, hown, hts, hlocks, hin⟩ := C
  have hown : s.vm.findClass R_W = some m.cls := hown
  have hP : va_P (dC, dI) CL [] s.heap := hP
  have hl : lv_has ls 3 [(0, .int (iI ch)), (1, .int (iI (bI b)))] := hl
  refine lv_iload_n hx hb d_W_letterOf_0 rfl (lv_at hl 0 rfl) ?_
  refine li_callr ((va_runSN (As := [.int (iI ch)]) (rest := []) ⟨hx, hb, hml, hown, hts⟩ (c_Q_small l dC dI kA ch (by first | omega | (have := sml_r hc; omega))) (cw_W_55 hts hN rfl rfl ⟨by decide, by decide⟩) (li_preS (hP.sub [] rfl) hK hN hG.rd) rfl rfl hl.1 rfl (lv_room (Nat.le_of_ble_eq_true rfl)) d_W_letterOf_1 ⟨by decide, by decide⟩).run) ?_
  refine li_nm (fun x1 ex1 => ?_)
  refine lv_istore_n (lv' := [(2, .int (iI x1)), (0, .int (iI ch)), (1, .int (iI (bI b)))]) hx hb d_W_letterOf_4 rfl hl (by decide) rfl (fun ls hl => ?_)
  refine lv_iload_n hx hb d_W_letterOf_5 rfl (lv_at hl 0 rfl) ?_
  refine li_callr ((va_runSN (As := [.int (iI x1)]) (rest := []) ⟨hx, hb, hml, hown, hts⟩ (c_Q_isSmallLetter l dC dI kA x1 (by first | omega | (have := sml_r hc; omega))) (cw_W_59 hts hN rfl rfl ⟨by decide, by decide⟩) (li_preS (hP.sub [] rfl) hK hN hG.rd) rfl rfl hl.1 rfl (lv_room (Nat.le_of_ble_eq_true rfl)) d_W_letterOf_6 ⟨by decide, by decide⟩).run) ?_
  refine li_bnz (tgt := 19) hx hb d_W_letterOf_9 (by decide) (fun c2 => ?_) (fun c2 => ?_)
  · have _q := c2
    refine lv_iload_n hx hb d_W_letterOf_19 rfl (lv_at hl 0 rfl) ?_
    exact fin _ _ _ (by subst_vars; unfold letF; first | (rw [if_pos (by simp_all)]; done) | (rw [if_neg (by simp_all), if_pos (by simp_all)]; done) | (rw [if_neg (by simp_all), if_neg (by simp_all)]; done) | (rw [if_neg (by simp_all), if_neg (by intro q; rcases q with ⟨q1, q2⟩; first | omega | simp_all)]; done)) d_W_letterOf_20
  · have _q := c2
    refine lv_iload_n hx hb d_W_letterOf_12 rfl (lv_at hl 0 rfl) ?_
    refine li_callr ((va_runSN (As := [.int (iI x1)]) (rest := []) ⟨hx, hb, hml, hown, hts⟩ (c_Q_isDigit l dC dI kA x1 (by first | omega | (have := sml_r hc; omega))) (cw_W_63 hts hN rfl rfl ⟨by decide, by decide⟩) (li_preS (hP.sub [] rfl) hK hN hG.rd) rfl rfl hl.1 rfl (lv_room (Nat.le_of_ble_eq_true rfl)) d_W_letterOf_13 ⟨by decide, by decide⟩).run) ?_
    refine li_bz (tgt := 21) hx hb d_W_letterOf_16 (by decide) (fun c3 => ?_) (fun c3 => ?_)
    · have _q := c3
      refine lv_iload_n hx hb d_W_letterOf_21 rfl (lv_at hl 2 rfl) ?_
      refine li_bz (tgt := 41) hx hb d_W_letterOf_22 (by decide) (fun c4 => ?_) (fun c4 => ?_)
      · have _q := c4
        refine lv_iconst (v := iI 0) hx hb d_W_letterOf_41 rfl ?_
        exact fin _ _ _ (by subst_vars; unfold letF; first | (rw [if_pos (by simp_all)]; done) | (rw [if_neg (by simp_all), if_pos (by simp_all)]; done) | (rw [if_neg (by simp_all), if_neg (by simp_all)]; done) | (rw [if_neg (by simp_all), if_neg (by intro q; rcases q with ⟨q1, q2⟩; first | omega | simp_all)]; done)) d_W_letterOf_42
      · have _q := c4
        refine lv_iload_n hx hb d_W_letterOf_25 rfl (lv_at hl 1 rfl) ?_
        refine lv_bipush (v := iI 42) hx hb d_W_letterOf_26 (by decide) ?_
        refine li_icmp_eq (tgt := 37) hx hb d_W_letterOf_28 (by decide) (by omega) (by omega) (fun c5 => ?_) (fun c5 => ?_)
        · have _q := c5
          refine lv_iload_n hx hb d_W_letterOf_37 rfl (lv_at hl 1 rfl) ?_
          refine lv_goto (tgt := 42) hx hb d_W_letterOf_38 (by decide) ?_
          exact fin _ _ _ (by subst_vars; unfold letF; first | (rw [if_pos (by simp_all)]; done) | (rw [if_neg (by simp_all), if_pos (by simp_all)]; done) | (rw [if_neg (by simp_all), if_neg (by simp_all)]; done) | (rw [if_neg (by simp_all), if_neg (by intro q; rcases q with ⟨q1, q2⟩; first | omega | simp_all)]; done)) d_W_letterOf_42
        · have _q := c5
          refine lv_iload_n hx hb d_W_letterOf_31 rfl (lv_at hl 1 rfl) ?_
          refine lv_bipush (v := iI 63) hx hb d_W_letterOf_32 (by decide) ?_
          refine li_icmp_ne (tgt := 41) hx hb d_W_letterOf_34 (by decide) (by omega) (by omega) (fun c6 => ?_) (fun c6 => ?_)
          · have _q := c6
            refine lv_iconst (v := iI 0) hx hb d_W_letterOf_41 rfl ?_
            exact fin _ _ _ (by subst_vars; unfold letF; first | (rw [if_pos (by simp_all)]; done) | (rw [if_neg (by simp_all), if_pos (by simp_all)]; done) | (rw [if_neg (by simp_all), if_neg (by simp_all)]; done) | (rw [if_neg (by simp_all), if_neg (by intro q; rcases q with ⟨q1, q2⟩; first | omega | simp_all)]; done)) d_W_letterOf_42
          · have _q := c6
            refine lv_iload_n hx hb d_W_letterOf_37 rfl (lv_at hl 1 rfl) ?_
            refine lv_goto (tgt := 42) hx hb d_W_letterOf_38 (by decide) ?_
            exact fin _ _ _ (by subst_vars; unfold letF; first | (rw [if_pos (by simp_all)]; done) | (rw [if_neg (by simp_all), if_pos (by simp_all)]; done) | (rw [if_neg (by simp_all), if_neg (by simp_all)]; done) | (rw [if_neg (by simp_all), if_neg (by intro q; rcases q with ⟨q1, q2⟩; first | omega | simp_all)]; done)) d_W_letterOf_42
    · have _q := c3
      refine lv_iload_n hx hb d_W_letterOf_19 rfl (lv_at hl 0 rfl) ?_
      exact fin _ _ _ (by subst_vars; unfold letF; first | (rw [if_pos (by simp_all)]; done) | (rw [if_neg (by simp_all), if_pos (by simp_all)]; done) | (rw [if_neg (by simp_all), if_neg (by simp_all)]; done) | (rw [if_neg (by simp_all), if_neg (by intro q; rcases q with ⟨q1, q2⟩; first | omega | simp_all)]; done)) d_W_letterOf_20

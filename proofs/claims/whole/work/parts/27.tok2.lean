abbrev St6 : Type := Int × (Nat → Int) × (Nat → Int) × (Nat → Int)
/-- THE LINE cut: fuel, place, what is cut -/
def tkL (lc : Nat → Int) (kn : Int) : Nat → Int → St6 → St6
  | 0, _, u => u
  | k + 1, x, u => if kn ≤ x then u else if lc x.toNat = 32 then tkL lc kn k (x + 1) u else tkL lc kn k (max (x + 1) (etF lc kn x)) (u.1 + 1, va_up u.2.1 u.1.toNat (koF lc kn x (max (x + 1) (etF lc kn x))), va_up u.2.2.1 u.1.toNat x, va_up u.2.2.2 u.1.toNat (max (x + 1) (etF lc kn x)))
def tkF (lc : Nat → Int) (kn : Int) (gk gs ge : Nat → Int) : St6 := tkL lc kn 200 0 (0, gk, gs, ge)
theorem nmL_r {lc : Nat → Int} {kn : Int} : ∀ (k : Nat) (x : Int), x + k ≤ kn → x ≤ nmL lc kn k x ∧ nmL lc kn k x ≤ kn := by
  intro k
  induction k with
  | zero => intro x h; simp only [nmL]; omega
  | succ k ih => intro x h; simp only [nmL]; have := ih (x + 1) (by omega); split <;> omega
theorem quL_r {lc : Nat → Int} {kn : Int} : ∀ (k : Nat) (x : Int), x + k ≤ kn → x ≤ quL lc kn k x ∧ quL lc kn k x ≤ kn := by
  intro k
  induction k with
  | zero => intro x h; simp only [quL]; omega
  | succ k ih => intro x h; simp only [quL]; have := ih (x + 1) (by omega); split <;> omega
theorem etF_r {lc : Nat → Int} {kn x : Int} (h : 0 ≤ x ∧ x < kn) : x ≤ etF lc kn x ∧ etF lc kn x ≤ kn := by
  unfold etF
  split
  · have := quL_r (lc := lc) (kn := kn) (kn - (x + 1)).toNat (x + 1) (by omega); omega
  · split
    · split
      · rename_i h3
        have h4 : x + 1 < kn := by
          by_cases q : x + 1 < kn
          · exact q
          · exfalso; unfold chL at h3; rw [if_neg (by omega)] at h3; omega
        omega
      · omega
    · exact nmL_r (lc := lc) (kn := kn) (kn - x).toNat x (by omega)
theorem knF_r {lc : Nat → Int} {kn st en : Int} : 0 ≤ knF lc kn st en ∧ knF lc kn st en ≤ 20 := by unfold knF; (repeat' split) <;> omega
theorem koF_r {lc : Nat → Int} {kn st en : Int} : 0 ≤ koF lc kn st en ∧ koF lc kn st en ≤ 20 := by
  have := knF_r (lc := lc) (kn := kn) (st := st) (en := en)
  unfold koF; (repeat' split) <;> omega

theorem d_K_endOfQuoted_0 : decode b_K_endOfQuoted 0 = .ok (.iload_n 1, 1) := by decide +kernel
theorem d_K_endOfQuoted_1 : decode b_K_endOfQuoted 1 = .ok (.iconst 1, 1) := by decide +kernel
theorem d_K_endOfQuoted_2 : decode b_K_endOfQuoted 2 = .ok (.iadd, 1) := by decide +kernel
theorem d_K_endOfQuoted_3 : decode b_K_endOfQuoted 3 = .ok (.istore_n 2, 1) := by decide +kernel
theorem d_K_endOfQuoted_4 : decode b_K_endOfQuoted 4 = .ok (.iload_n 2, 1) := by decide +kernel
theorem d_K_endOfQuoted_5 : decode b_K_endOfQuoted 5 = .ok (.aload_n 0, 1) := by decide +kernel
theorem d_K_endOfQuoted_6 : decode b_K_endOfQuoted 6 = .ok (.getfield 31, 3) := by decide +kernel
theorem d_K_endOfQuoted_9 : decode b_K_endOfQuoted 9 = .ok (.if_icmp .ge 23, 3) := by decide +kernel
theorem d_K_endOfQuoted_12 : decode b_K_endOfQuoted 12 = .ok (.aload_n 0, 1) := by decide +kernel
theorem d_K_endOfQuoted_13 : decode b_K_endOfQuoted 13 = .ok (.iload_n 2, 1) := by decide +kernel
theorem d_K_endOfQuoted_14 : decode b_K_endOfQuoted 14 = .ok (.invokevirtual 52, 3) := by decide +kernel
theorem d_K_endOfQuoted_17 : decode b_K_endOfQuoted 17 = .ok (.bipush 34, 2) := by decide +kernel
theorem d_K_endOfQuoted_19 : decode b_K_endOfQuoted 19 = .ok (.if_icmp .ne 7, 3) := by decide +kernel
theorem d_K_endOfQuoted_22 : decode b_K_endOfQuoted 22 = .ok (.iload_n 2, 1) := by decide +kernel
theorem d_K_endOfQuoted_23 : decode b_K_endOfQuoted 23 = .ok (.iconst 1, 1) := by decide +kernel
theorem d_K_endOfQuoted_24 : decode b_K_endOfQuoted 24 = .ok (.iadd, 1) := by decide +kernel
theorem d_K_endOfQuoted_25 : decode b_K_endOfQuoted 25 = .ok (.ireturn, 1) := by decide +kernel
theorem d_K_endOfQuoted_26 : decode b_K_endOfQuoted 26 = .ok (.iinc 2 1, 3) := by decide +kernel
theorem d_K_endOfQuoted_29 : decode b_K_endOfQuoted 29 = .ok (.goto (-25), 3) := by decide +kernel
theorem d_K_endOfQuoted_32 : decode b_K_endOfQuoted 32 = .ok (.aload_n 0, 1) := by decide +kernel
theorem d_K_endOfQuoted_33 : decode b_K_endOfQuoted 33 = .ok (.getfield 31, 3) := by decide +kernel
theorem d_K_endOfQuoted_36 : decode b_K_endOfQuoted 36 = .ok (.ireturn, 1) := by decide +kernel
set_option maxHeartbeats 4000000 in
set_option maxRecDepth 100000 in
theorem c_K_endOfQuoted (l : Launch) (dC : Nat → ClassId) (dI : Nat → Nat → Nat) (kA : Nat → ClassId) (ko : Nat) (la : Nat) (nl : Nat) (lc : Nat → Int) (kn : Int) (ga : Nat) (gb : Nat) (gc : Nat) (kz : Int) (gk : Nat → Int) (gs : Nat → Int) (ge : Nat → Int) (x : Int) (hKR : KR nl lc kn kz gk gs ge) (hx0 : 0 ≤ x ∧ x < kn) : Met l y_K_endOfQuoted (wsy y_K_endOfQuoted b_K_endOfQuoted 3 (some .int)) (rmd 1 0 0) (li_Pr (dC, dI) CL (TY kA) [.ref ko, .int (iI x)] (va_P (dC, dI) CL [(ko, .inr (8, [.ref la, .int (iI kn), .ref ga, .ref gb, .ref gc, .int (iI kz)])), (ga, .inl (kA 0, 100, .inl (aI gk))), (gb, .inl (kA 0, 100, .inl (aI gs))), (gc, .inl (kA 0, 100, .inl (aI ge))), (la, .inl (kA 1, nl, .inl (aI lc)))])) (k2_QcV (.int (iI (quL lc kn (kn - (x + 1)).toNat (x + 1))))) 0 0 (fun _ => False) := by
  refine li_mr (by decide) (Nat.le_of_ble_eq_true rfl) (by rfl) ?_
  intro p e s m args below meth c Q C hP hK hN hG fin ls hl
  obtain ⟨hx, hb, hr, hml, hown, hts, hlocks, hin⟩ := C
  have hown : s.vm.findClass R_K = some m.cls := hown
  have hP : va_P (dC, dI) CL [(ko, .inr (8, [.ref la, .int (iI kn), .ref ga, .ref gb, .ref gc, .int (iI kz)])), (ga, .inl (kA 0, 100, .inl (aI gk))), (gb, .inl (kA 0, 100, .inl (aI gs))), (gc, .inl (kA 0, 100, .inl (aI ge))), (la, .inl (kA 1, nl, .inl (aI lc)))] s.heap := hP
  have hl : lv_has ls 3 [(0, .ref ko), (1, .int (iI x))] := hl
  obtain ⟨hnl, hkn, hkz, hlc, hgk, hgs, hge⟩ := id hKR
  have K_4 : ∀ (nn : Nat) (y : Int), (x + 1 ≤ y ∧ y ≤ kn) → (quL lc kn (kn - y).toNat y = quL lc kn (kn - (x + 1)).toNat (x + 1)) → ((kn - y).toNat < nn) → ∀ ls : Array Slot, lv_has ls 3 [(0, .ref ko), (1, .int (iI x)), (2, .int (iI y))] → W p l e (rmd 1 0 0) s m args below meth c s.heap [] 0 0 Q (F0 m 4 ls []) := by
    intro nn
    induction nn with
    | zero => intro y hy9 hres hm; exact absurd hm (Nat.not_lt_zero _)
    | succ nn ih =>
      intro y hy9 hres hm ls hl
      refine lv_iload_n hx hb d_K_endOfQuoted_4 rfl (lv_at hl 2 rfl) ?_
      refine lv_aload_n hx hb d_K_endOfQuoted_5 rfl (lv_at hl 0 rfl) ?_
      refine gf_K_31 hx hb hts hown hK hP 0 rfl rfl d_K_endOfQuoted_6 ?_
      refine li_icmp_ge (tgt := 32) hx hb d_K_endOfQuoted_9 (by decide) (by first | omega | (have h9 := chL_r (kn := kn) (x := y) hlc; omega)) (by first | omega | (have h9 := chL_r (kn := kn) (x := y) hlc; omega)) (fun c1 => ?_) (fun c1 => ?_)
      · have _q := c1
        refine lv_aload_n hx hb d_K_endOfQuoted_32 rfl (lv_at hl 0 rfl) ?_
        refine gf_K_31 hx hb hts hown hK hP 0 rfl rfl d_K_endOfQuoted_33 ?_
        exact fin _ _ _ (by first | (rw [← hres, show (kn - y).toNat = 0 by omega]; rfl) | (rw [← hres, show (kn - y).toNat = (kn - (y + 1)).toNat + 1 by omega]; simp only [quL]; rw [if_pos (by assumption)])) d_K_endOfQuoted_36
      · have _q := c1
        refine lv_aload_n hx hb d_K_endOfQuoted_12 rfl (lv_at hl 0 rfl) ?_
        refine lv_iload_n hx hb d_K_endOfQuoted_13 rfl (lv_at hl 2 rfl) ?_
        refine li_callr ((va_runV (As := [.int (iI y)]) (rest := []) ⟨hx, hb, hml, hown, hts⟩ (c_K_characterAt l dC dI kA ko la nl lc kn ga gb gc kz gk gs ge y (by exact hKR) (by omega)) (cw_K_52 hts rfl rfl ⟨Nat.le_of_ble_eq_true rfl, Nat.le_of_ble_eq_true rfl⟩) (li_preV (va_recv hK hP (ci := 8) (q0 := 0) rfl rfl) (hP.sub [0, 1, 2, 3, 4] rfl) hK hN hG.rd) rfl rfl hl.1 rfl (lv_room (Nat.le_of_ble_eq_true rfl)) d_K_endOfQuoted_14 ⟨(by show 0 + 0 ≤ 0; omega), (by show 0 + 0 ≤ 0; omega)⟩).run) ?_
        refine lv_bipush (v := iI 34) hx hb d_K_endOfQuoted_17 (by decide) ?_
        refine li_icmp_ne (tgt := 26) hx hb d_K_endOfQuoted_19 (by decide) (by first | omega | (have h9 := chL_r (kn := kn) (x := y) hlc; omega)) (by first | omega | (have h9 := chL_r (kn := kn) (x := y) hlc; omega)) (fun c2 => ?_) (fun c2 => ?_)
        · have _q := c2
          obtain ⟨x3, ex3⟩ : ∃ y_9 : Int, y_9 = y + 1 := ⟨_, rfl⟩
          refine lv_iinc (v := iI x3) (lv' := [(2, .int (iI x3)), (0, .ref ko), (1, .int (iI x))]) hx hb d_K_endOfQuoted_26 hl (k := 2) rfl (by rw [ex3]; exact iI_add _ _) (by decide) rfl (fun ls hl => ?_)
          refine lv_goto (tgt := 4) hx hb d_K_endOfQuoted_29 (by decide) ?_
          exact ih x3 (by first | omega | (subst_vars; omega)) (by first | (subst_vars; rfl) | (subst_vars; rw [← hres, show (kn - y).toNat = (kn - (y + 1)).toNat + 1 by omega]; simp only [quL]; rw [if_neg (by assumption)])) (by first | omega | (subst_vars; omega)) _ (lv_sub hl [1, 2, 0] rfl)
        · have _q := c2
          refine lv_iload_n hx hb d_K_endOfQuoted_22 rfl (lv_at hl 2 rfl) ?_
          refine lv_iconst (v := iI 1) hx hb d_K_endOfQuoted_23 rfl ?_
          refine li_iadd hx hb d_K_endOfQuoted_24 ?_
          exact fin _ _ _ (by first | (rw [← hres, show (kn - y).toNat = 0 by omega]; rfl) | (rw [← hres, show (kn - y).toNat = (kn - (y + 1)).toNat + 1 by omega]; simp only [quL]; rw [if_pos (by assumption)])) d_K_endOfQuoted_25
  refine lv_iload_n hx hb d_K_endOfQuoted_0 rfl (lv_at hl 1 rfl) ?_
  refine lv_iconst (v := iI 1) hx hb d_K_endOfQuoted_1 rfl ?_
  refine li_iadd hx hb d_K_endOfQuoted_2 ?_
  refine li_nm (fun x4 ex4 => ?_)
  refine lv_istore_n (lv' := [(2, .int (iI x4)), (0, .ref ko), (1, .int (iI x))]) hx hb d_K_endOfQuoted_3 rfl hl (by decide) rfl (fun ls hl => ?_)
  exact K_4 ((kn - x4).toNat + 1) x4 (by first | omega | (subst_vars; omega)) (by first | (subst_vars; rfl) | (subst_vars; rw [← hres, show (kn - y).toNat = (kn - (y + 1)).toNat + 1 by omega]; simp only [quL]; rw [if_neg (by assumption)])) (Nat.lt_succ_self _) _ (lv_sub hl [1, 2, 0] rfl)
theorem d_K_endOfToken_0 : decode b_K_endOfToken 0 = .ok (.aload_n 0, 1) := by decide +kernel
theorem d_K_endOfToken_1 : decode b_K_endOfToken 1 = .ok (.iload_n 1, 1) := by decide +kernel
theorem d_K_endOfToken_2 : decode b_K_endOfToken 2 = .ok (.invokevirtual 52, 3) := by decide +kernel
theorem d_K_endOfToken_5 : decode b_K_endOfToken 5 = .ok (.istore_n 2, 1) := by decide +kernel
theorem d_K_endOfToken_6 : decode b_K_endOfToken 6 = .ok (.iload_n 2, 1) := by decide +kernel
theorem d_K_endOfToken_7 : decode b_K_endOfToken 7 = .ok (.bipush 34, 2) := by decide +kernel
theorem d_K_endOfToken_9 : decode b_K_endOfToken 9 = .ok (.if_icmp .ne 9, 3) := by decide +kernel
theorem d_K_endOfToken_12 : decode b_K_endOfToken 12 = .ok (.aload_n 0, 1) := by decide +kernel
theorem d_K_endOfToken_13 : decode b_K_endOfToken 13 = .ok (.iload_n 1, 1) := by decide +kernel
theorem d_K_endOfToken_14 : decode b_K_endOfToken 14 = .ok (.invokevirtual 56, 3) := by decide +kernel
theorem d_K_endOfToken_17 : decode b_K_endOfToken 17 = .ok (.ireturn, 1) := by decide +kernel
theorem d_K_endOfToken_18 : decode b_K_endOfToken 18 = .ok (.iload_n 2, 1) := by decide +kernel
theorem d_K_endOfToken_19 : decode b_K_endOfToken 19 = .ok (.invokestatic 59, 3) := by decide +kernel
theorem d_K_endOfToken_22 : decode b_K_endOfToken 22 = .ok (.ifCond .eq 25, 3) := by decide +kernel
theorem d_K_endOfToken_25 : decode b_K_endOfToken 25 = .ok (.aload_n 0, 1) := by decide +kernel
theorem d_K_endOfToken_26 : decode b_K_endOfToken 26 = .ok (.iload_n 1, 1) := by decide +kernel
theorem d_K_endOfToken_27 : decode b_K_endOfToken 27 = .ok (.iconst 1, 1) := by decide +kernel
theorem d_K_endOfToken_28 : decode b_K_endOfToken 28 = .ok (.iadd, 1) := by decide +kernel
theorem d_K_endOfToken_29 : decode b_K_endOfToken 29 = .ok (.invokevirtual 52, 3) := by decide +kernel
theorem d_K_endOfToken_32 : decode b_K_endOfToken 32 = .ok (.bipush 61, 2) := by decide +kernel
theorem d_K_endOfToken_34 : decode b_K_endOfToken 34 = .ok (.if_icmp .ne 9, 3) := by decide +kernel
theorem d_K_endOfToken_37 : decode b_K_endOfToken 37 = .ok (.iload_n 1, 1) := by decide +kernel
theorem d_K_endOfToken_38 : decode b_K_endOfToken 38 = .ok (.iconst 2, 1) := by decide +kernel
theorem d_K_endOfToken_39 : decode b_K_endOfToken 39 = .ok (.iadd, 1) := by decide +kernel
theorem d_K_endOfToken_40 : decode b_K_endOfToken 40 = .ok (.goto 6, 3) := by decide +kernel
theorem d_K_endOfToken_43 : decode b_K_endOfToken 43 = .ok (.iload_n 1, 1) := by decide +kernel
theorem d_K_endOfToken_44 : decode b_K_endOfToken 44 = .ok (.iconst 1, 1) := by decide +kernel
theorem d_K_endOfToken_45 : decode b_K_endOfToken 45 = .ok (.iadd, 1) := by decide +kernel
theorem d_K_endOfToken_46 : decode b_K_endOfToken 46 = .ok (.ireturn, 1) := by decide +kernel
theorem d_K_endOfToken_47 : decode b_K_endOfToken 47 = .ok (.iload_n 1, 1) := by decide +kernel
theorem d_K_endOfToken_48 : decode b_K_endOfToken 48 = .ok (.istore_n 3, 1) := by decide +kernel
theorem d_K_endOfToken_49 : decode b_K_endOfToken 49 = .ok (.iload_n 3, 1) := by decide +kernel
theorem d_K_endOfToken_50 : decode b_K_endOfToken 50 = .ok (.aload_n 0, 1) := by decide +kernel
theorem d_K_endOfToken_51 : decode b_K_endOfToken 51 = .ok (.getfield 31, 3) := by decide +kernel
theorem d_K_endOfToken_54 : decode b_K_endOfToken 54 = .ok (.if_icmp .ge 20, 3) := by decide +kernel
theorem d_K_endOfToken_57 : decode b_K_endOfToken 57 = .ok (.aload_n 0, 1) := by decide +kernel
theorem d_K_endOfToken_58 : decode b_K_endOfToken 58 = .ok (.iload_n 3, 1) := by decide +kernel
theorem d_K_endOfToken_59 : decode b_K_endOfToken 59 = .ok (.invokevirtual 52, 3) := by decide +kernel
theorem d_K_endOfToken_62 : decode b_K_endOfToken 62 = .ok (.invokestatic 63, 3) := by decide +kernel
theorem d_K_endOfToken_65 : decode b_K_endOfToken 65 = .ok (.ifCond .eq 9, 3) := by decide +kernel
theorem d_K_endOfToken_68 : decode b_K_endOfToken 68 = .ok (.iinc 3 1, 3) := by decide +kernel
theorem d_K_endOfToken_71 : decode b_K_endOfToken 71 = .ok (.goto (-22), 3) := by decide +kernel
theorem d_K_endOfToken_74 : decode b_K_endOfToken 74 = .ok (.iload_n 3, 1) := by decide +kernel
theorem d_K_endOfToken_75 : decode b_K_endOfToken 75 = .ok (.ireturn, 1) := by decide +kernel
set_option maxHeartbeats 4000000 in
set_option maxRecDepth 100000 in
theorem c_K_endOfToken (l : Launch) (dC : Nat → ClassId) (dI : Nat → Nat → Nat) (kA : Nat → ClassId) (ko : Nat) (la : Nat) (nl : Nat) (lc : Nat → Int) (kn : Int) (ga : Nat) (gb : Nat) (gc : Nat) (kz : Int) (gk : Nat → Int) (gs : Nat → Int) (ge : Nat → Int) (x : Int) (hKR : KR nl lc kn kz gk gs ge) (hx0 : 0 ≤ x ∧ x < kn) : Met l y_K_endOfToken (wsy y_K_endOfToken b_K_endOfToken 4 (some .int)) (rmd 2 0 0) (li_Pr (dC, dI) CL (TY kA) [.ref ko, .int (iI x)] (va_P (dC, dI) CL [(ko, .inr (8, [.ref la, .int (iI kn), .ref ga, .ref gb, .ref gc, .int (iI kz)])), (ga, .inl (kA 0, 100, .inl (aI gk))), (gb, .inl (kA 0, 100, .inl (aI gs))), (gc, .inl (kA 0, 100, .inl (aI ge))), (la, .inl (kA 1, nl, .inl (aI lc)))])) (k2_QcV (.int (iI (etF lc kn x)))) 0 0 (fun _ => False) := by
  refine li_mr (by decide) (Nat.le_of_ble_eq_true rfl) (by rfl) ?_
  intro p e s m args below meth c Q C hP hK hN hG fin ls hl
  obtain ⟨hx, hb, hr, hml, hown, hts, hlocks, hin⟩ := C
  have hown : s.vm.findClass R_K = some m.cls := hown
  have hP : va_P (dC, dI) CL [(ko, .inr (8, [.ref la, .int (iI kn), .ref ga, .ref gb, .ref gc, .int (iI kz)])), (ga, .inl (kA 0, 100, .inl (aI gk))), (gb, .inl (kA 0, 100, .inl (aI gs))), (gc, .inl (kA 0, 100, .inl (aI ge))), (la, .inl (kA 1, nl, .inl (aI lc)))] s.heap := hP
  have hl : lv_has ls 4 [(0, .ref ko), (1, .int (iI x))] := hl
  obtain ⟨hnl, hkn, hkz, hlc, hgk, hgs, hge⟩ := id hKR
  have K_49 : ∀ (nn : Nat) (y : Int) (cx : Int), (x ≤ y ∧ y ≤ kn) → (nmL lc kn (kn - y).toNat y = etF lc kn x) → ((kn - y).toNat < nn) → ∀ ls : Array Slot, lv_has ls 4 [(0, .ref ko), (1, .int (iI x)), (2, .int (iI cx)), (3, .int (iI y))] → W p l e (rmd 2 0 0) s m args below meth c s.heap [] 0 0 Q (F0 m 49 ls []) := by
    intro nn
    induction nn with
    | zero => intro y cx hy9 hres hm; exact absurd hm (Nat.not_lt_zero _)
    | succ nn ih =>
      intro y cx hy9 hres hm ls hl
      refine lv_iload_n hx hb d_K_endOfToken_49 rfl (lv_at hl 3 rfl) ?_
      refine lv_aload_n hx hb d_K_endOfToken_50 rfl (lv_at hl 0 rfl) ?_
      refine gf_K_31 hx hb hts hown hK hP 0 rfl rfl d_K_endOfToken_51 ?_
      refine li_icmp_ge (tgt := 74) hx hb d_K_endOfToken_54 (by decide) (by first | omega | (have h9 := chL_r (kn := kn) (x := x) hlc; omega) | (have h9 := chL_r (kn := kn) (x := x + 1) hlc; omega)) (by first | omega | (have h9 := chL_r (kn := kn) (x := x) hlc; omega) | (have h9 := chL_r (kn := kn) (x := x + 1) hlc; omega)) (fun c1 => ?_) (fun c1 => ?_)
      · have _q := c1
        refine lv_iload_n hx hb d_K_endOfToken_74 rfl (lv_at hl 3 rfl) ?_
        exact fin _ _ _ (by first | (rw [← hres, show (kn - y).toNat = 0 by omega]; rfl) | (rw [← hres, show (kn - y).toNat = (kn - (y + 1)).toNat + 1 by omega]; simp only [nmL]; rw [if_neg (by simp_all)])) d_K_endOfToken_75
      · have _q := c1
        refine lv_aload_n hx hb d_K_endOfToken_57 rfl (lv_at hl 0 rfl) ?_
        refine lv_iload_n hx hb d_K_endOfToken_58 rfl (lv_at hl 3 rfl) ?_
        refine li_callr ((va_runV (As := [.int (iI y)]) (rest := []) ⟨hx, hb, hml, hown, hts⟩ (c_K_characterAt l dC dI kA ko la nl lc kn ga gb gc kz gk gs ge y (by exact hKR) (by omega)) (cw_K_52 hts rfl rfl ⟨Nat.le_of_ble_eq_true rfl, Nat.le_of_ble_eq_true rfl⟩) (li_preV (va_recv hK hP (ci := 8) (q0 := 0) rfl rfl) (hP.sub [0, 1, 2, 3, 4] rfl) hK hN hG.rd) rfl rfl hl.1 rfl (lv_room (Nat.le_of_ble_eq_true rfl)) d_K_endOfToken_59 ⟨(by show 0 + 0 ≤ 0; omega), (by show 0 + 0 ≤ 0; omega)⟩).run) ?_
        refine li_callr ((va_runS (As := [.int (iI (chL lc kn y))]) (rest := []) ⟨hx, hb, hml, hown, hts⟩ (c_K_isInName l dC dI kA (chL lc kn y) (by have h9 := chL_r (kn := kn) (x := y) hlc; omega)) (cw_K_63 hts rfl rfl ⟨Nat.le_of_ble_eq_true rfl, Nat.le_of_ble_eq_true rfl⟩) (li_preS va_Pnil hK hN hG.rd) rfl rfl hl.1 rfl (lv_room (Nat.le_of_ble_eq_true rfl)) d_K_endOfToken_62 ⟨(by show 0 + 0 ≤ 0; omega), (by show 0 + 0 ≤ 0; omega)⟩).run) ?_
        refine li_bz (tgt := 74) hx hb d_K_endOfToken_65 (by decide) (fun c2 => ?_) (fun c2 => ?_)
        · have _q := c2
          refine lv_iload_n hx hb d_K_endOfToken_74 rfl (lv_at hl 3 rfl) ?_
          exact fin _ _ _ (by first | (rw [← hres, show (kn - y).toNat = 0 by omega]; rfl) | (rw [← hres, show (kn - y).toNat = (kn - (y + 1)).toNat + 1 by omega]; simp only [nmL]; rw [if_neg (by simp_all)])) d_K_endOfToken_75
        · have _q := c2
          obtain ⟨x3, ex3⟩ : ∃ y_9 : Int, y_9 = y + 1 := ⟨_, rfl⟩
          refine lv_iinc (v := iI x3) (lv' := [(3, .int (iI x3)), (0, .ref ko), (1, .int (iI x)), (2, .int (iI cx))]) hx hb d_K_endOfToken_68 hl (k := 3) rfl (by rw [ex3]; exact iI_add _ _) (by decide) rfl (fun ls hl => ?_)
          refine lv_goto (tgt := 49) hx hb d_K_endOfToken_71 (by decide) ?_
          exact ih x3 cx (by first | omega | (subst_vars; omega)) (by first | (subst_vars; unfold etF; rw [if_neg (by assumption), if_neg (by simp_all)]; done) | (subst_vars; rw [← hres, show (kn - y).toNat = (kn - (y + 1)).toNat + 1 by omega]; simp only [nmL]; rw [if_pos (by assumption)])) (by first | omega | (subst_vars; omega)) _ (lv_sub hl [1, 2, 3, 0] rfl)
  refine lv_aload_n hx hb d_K_endOfToken_0 rfl (lv_at hl 0 rfl) ?_
  refine lv_iload_n hx hb d_K_endOfToken_1 rfl (lv_at hl 1 rfl) ?_
  refine li_callr ((va_runV (As := [.int (iI x)]) (rest := []) ⟨hx, hb, hml, hown, hts⟩ (c_K_characterAt l dC dI kA ko la nl lc kn ga gb gc kz gk gs ge x (by exact hKR) (by omega)) (cw_K_52 hts rfl rfl ⟨Nat.le_of_ble_eq_true rfl, Nat.le_of_ble_eq_true rfl⟩) (li_preV (va_recv hK hP (ci := 8) (q0 := 0) rfl rfl) (hP.sub [0, 1, 2, 3, 4] rfl) hK hN hG.rd) rfl rfl hl.1 rfl (lv_room (Nat.le_of_ble_eq_true rfl)) d_K_endOfToken_2 ⟨(by show 0 + 0 ≤ 0; omega), (by show 0 + 0 ≤ 0; omega)⟩).run) ?_
  refine li_nm (fun cx ecx => ?_)
  refine lv_istore_n (lv' := [(2, .int (iI cx)), (0, .ref ko), (1, .int (iI x))]) hx hb d_K_endOfToken_5 rfl hl (by decide) rfl (fun ls hl => ?_)
  refine lv_iload_n hx hb d_K_endOfToken_6 rfl (lv_at hl 0 rfl) ?_
  refine lv_bipush (v := iI 34) hx hb d_K_endOfToken_7 (by decide) ?_
  refine li_icmp_ne (tgt := 18) hx hb d_K_endOfToken_9 (by decide) (by first | omega | (have h9 := chL_r (kn := kn) (x := x) hlc; omega) | (have h9 := chL_r (kn := kn) (x := x + 1) hlc; omega)) (by first | omega | (have h9 := chL_r (kn := kn) (x := x) hlc; omega) | (have h9 := chL_r (kn := kn) (x := x + 1) hlc; omega)) (fun c4 => ?_) (fun c4 => ?_)
  · have _q := c4
    refine lv_iload_n hx hb d_K_endOfToken_18 rfl (lv_at hl 0 rfl) ?_
    refine li_callr ((va_runS (As := [.int (iI cx)]) (rest := []) ⟨hx, hb, hml, hown, hts⟩ (c_K_isComparison l dC dI kA cx (by have h9 := chL_r (kn := kn) (x := x) hlc; omega)) (cw_K_59 hts rfl rfl ⟨Nat.le_of_ble_eq_true rfl, Nat.le_of_ble_eq_true rfl⟩) (li_preS va_Pnil hK hN hG.rd) rfl rfl hl.1 rfl (lv_room (Nat.le_of_ble_eq_true rfl)) d_K_endOfToken_19 ⟨(by show 0 + 0 ≤ 0; omega), (by show 0 + 0 ≤ 0; omega)⟩).run) ?_
    refine li_bz (tgt := 47) hx hb d_K_endOfToken_22 (by decide) (fun c5 => ?_) (fun c5 => ?_)
    · have _q := c5
      refine lv_iload_n hx hb d_K_endOfToken_47 rfl (lv_at hl 2 rfl) ?_
      refine lv_istore_n (lv' := [(3, .int (iI x)), (2, .int (iI cx)), (0, .ref ko), (1, .int (iI x))]) hx hb d_K_endOfToken_48 rfl hl (by decide) rfl (fun ls hl => ?_)
      exact K_49 ((kn - x).toNat + 1) x cx (by first | omega | (subst_vars; omega)) (by first | (subst_vars; unfold etF; rw [if_neg (by assumption), if_neg (by simp_all)]; done) | (subst_vars; rw [← hres, show (kn - y).toNat = (kn - (y + 1)).toNat + 1 by omega]; simp only [nmL]; rw [if_pos (by assumption)])) (Nat.lt_succ_self _) _ (lv_sub hl [2, 3, 1, 0] rfl)
    · have _q := c5
      refine lv_aload_n hx hb d_K_endOfToken_25 rfl (lv_at hl 1 rfl) ?_
      refine lv_iload_n hx hb d_K_endOfToken_26 rfl (lv_at hl 2 rfl) ?_
      refine lv_iconst (v := iI 1) hx hb d_K_endOfToken_27 rfl ?_
      refine li_iadd hx hb d_K_endOfToken_28 ?_
      refine li_callr ((va_runV (As := [.int (iI (x + 1))]) (rest := []) ⟨hx, hb, hml, hown, hts⟩ (c_K_characterAt l dC dI kA ko la nl lc kn ga gb gc kz gk gs ge (x + 1) (by exact hKR) (by omega)) (cw_K_52 hts rfl rfl ⟨Nat.le_of_ble_eq_true rfl, Nat.le_of_ble_eq_true rfl⟩) (li_preV (va_recv hK hP (ci := 8) (q0 := 0) rfl rfl) (hP.sub [0, 1, 2, 3, 4] rfl) hK hN hG.rd) rfl rfl hl.1 rfl (lv_room (Nat.le_of_ble_eq_true rfl)) d_K_endOfToken_29 ⟨(by show 0 + 0 ≤ 0; omega), (by show 0 + 0 ≤ 0; omega)⟩).run) ?_
      refine lv_bipush (v := iI 61) hx hb d_K_endOfToken_32 (by decide) ?_
      refine li_icmp_ne (tgt := 43) hx hb d_K_endOfToken_34 (by decide) (by first | omega | (have h9 := chL_r (kn := kn) (x := x) hlc; omega) | (have h9 := chL_r (kn := kn) (x := x + 1) hlc; omega)) (by first | omega | (have h9 := chL_r (kn := kn) (x := x) hlc; omega) | (have h9 := chL_r (kn := kn) (x := x + 1) hlc; omega)) (fun c6 => ?_) (fun c6 => ?_)
      · have _q := c6
        refine lv_iload_n hx hb d_K_endOfToken_43 rfl (lv_at hl 2 rfl) ?_
        refine lv_iconst (v := iI 1) hx hb d_K_endOfToken_44 rfl ?_
        refine li_iadd hx hb d_K_endOfToken_45 ?_
        exact fin _ _ _ (by subst_vars; unfold etF; rw [if_neg (by assumption), if_pos (by assumption)]; first | (rw [if_pos (by assumption)]; done) | (rw [if_neg (by assumption)]; done)) d_K_endOfToken_46
      · have _q := c6
        refine lv_iload_n hx hb d_K_endOfToken_37 rfl (lv_at hl 2 rfl) ?_
        refine lv_iconst (v := iI 2) hx hb d_K_endOfToken_38 rfl ?_
        refine li_iadd hx hb d_K_endOfToken_39 ?_
        refine lv_goto (tgt := 46) hx hb d_K_endOfToken_40 (by decide) ?_
        exact fin _ _ _ (by subst_vars; unfold etF; rw [if_neg (by assumption), if_pos (by assumption)]; first | (rw [if_pos (by assumption)]; done) | (rw [if_neg (by assumption)]; done)) d_K_endOfToken_46
  · have _q := c4
    refine lv_aload_n hx hb d_K_endOfToken_12 rfl (lv_at hl 1 rfl) ?_
    refine lv_iload_n hx hb d_K_endOfToken_13 rfl (lv_at hl 2 rfl) ?_
    refine li_callr ((va_runV (As := [.int (iI x)]) (rest := []) ⟨hx, hb, hml, hown, hts⟩ (c_K_endOfQuoted l dC dI kA ko la nl lc kn ga gb gc kz gk gs ge x (by exact hKR) (by omega)) (cw_K_56 hts rfl rfl ⟨Nat.le_of_ble_eq_true rfl, Nat.le_of_ble_eq_true rfl⟩) (li_preV (va_recv hK hP (ci := 8) (q0 := 0) rfl rfl) (hP.sub [0, 1, 2, 3, 4] rfl) hK hN hG.rd) rfl rfl hl.1 rfl (lv_room (Nat.le_of_ble_eq_true rfl)) d_K_endOfToken_14 ⟨(by show 0 + 0 ≤ 0; omega), (by show 0 + 0 ≤ 0; omega)⟩).run) ?_
    exact fin _ _ _ (by subst_vars; unfold etF; rw [if_pos (by assumption)]) d_K_endOfToken_17
theorem d_K_kindOf_0 : decode b_K_kindOf 0 = .ok (.aload_n 0, 1) := by decide +kernel
theorem d_K_kindOf_1 : decode b_K_kindOf 1 = .ok (.iload_n 1, 1) := by decide +kernel
theorem d_K_kindOf_2 : decode b_K_kindOf 2 = .ok (.invokevirtual 52, 3) := by decide +kernel
theorem d_K_kindOf_5 : decode b_K_kindOf 5 = .ok (.istore_n 3, 1) := by decide +kernel
theorem d_K_kindOf_6 : decode b_K_kindOf 6 = .ok (.iload_n 3, 1) := by decide +kernel
theorem d_K_kindOf_7 : decode b_K_kindOf 7 = .ok (.invokestatic 63, 3) := by decide +kernel
theorem d_K_kindOf_10 : decode b_K_kindOf 10 = .ok (.ifCond .eq 10, 3) := by decide +kernel
theorem d_K_kindOf_13 : decode b_K_kindOf 13 = .ok (.aload_n 0, 1) := by decide +kernel
theorem d_K_kindOf_14 : decode b_K_kindOf 14 = .ok (.iload_n 1, 1) := by decide +kernel
theorem d_K_kindOf_15 : decode b_K_kindOf 15 = .ok (.iload_n 2, 1) := by decide +kernel
theorem d_K_kindOf_16 : decode b_K_kindOf 16 = .ok (.invokevirtual 66, 3) := by decide +kernel
theorem d_K_kindOf_19 : decode b_K_kindOf 19 = .ok (.ireturn, 1) := by decide +kernel
theorem d_K_kindOf_20 : decode b_K_kindOf 20 = .ok (.iload_n 3, 1) := by decide +kernel
theorem d_K_kindOf_21 : decode b_K_kindOf 21 = .ok (.invokestatic 59, 3) := by decide +kernel
theorem d_K_kindOf_24 : decode b_K_kindOf 24 = .ok (.ifCond .eq 5, 3) := by decide +kernel
theorem d_K_kindOf_27 : decode b_K_kindOf 27 = .ok (.iconst 4, 1) := by decide +kernel
theorem d_K_kindOf_28 : decode b_K_kindOf 28 = .ok (.ireturn, 1) := by decide +kernel
theorem d_K_kindOf_29 : decode b_K_kindOf 29 = .ok (.iload_n 3, 1) := by decide +kernel
theorem d_K_kindOf_30 : decode b_K_kindOf 30 = .ok (.bipush 34, 2) := by decide +kernel
theorem d_K_kindOf_32 : decode b_K_kindOf 32 = .ok (.if_icmp .ne 28, 3) := by decide +kernel
theorem d_K_kindOf_35 : decode b_K_kindOf 35 = .ok (.iload_n 2, 1) := by decide +kernel
theorem d_K_kindOf_36 : decode b_K_kindOf 36 = .ok (.iload_n 1, 1) := by decide +kernel
theorem d_K_kindOf_37 : decode b_K_kindOf 37 = .ok (.isub, 1) := by decide +kernel
theorem d_K_kindOf_38 : decode b_K_kindOf 38 = .ok (.iconst 1, 1) := by decide +kernel
theorem d_K_kindOf_39 : decode b_K_kindOf 39 = .ok (.if_icmp .le 19, 3) := by decide +kernel
theorem d_K_kindOf_42 : decode b_K_kindOf 42 = .ok (.aload_n 0, 1) := by decide +kernel
theorem d_K_kindOf_43 : decode b_K_kindOf 43 = .ok (.iload_n 2, 1) := by decide +kernel
theorem d_K_kindOf_44 : decode b_K_kindOf 44 = .ok (.iconst 1, 1) := by decide +kernel
theorem d_K_kindOf_45 : decode b_K_kindOf 45 = .ok (.isub, 1) := by decide +kernel
theorem d_K_kindOf_46 : decode b_K_kindOf 46 = .ok (.invokevirtual 52, 3) := by decide +kernel
theorem d_K_kindOf_49 : decode b_K_kindOf 49 = .ok (.bipush 34, 2) := by decide +kernel
theorem d_K_kindOf_51 : decode b_K_kindOf 51 = .ok (.if_icmp .ne 7, 3) := by decide +kernel
theorem d_K_kindOf_54 : decode b_K_kindOf 54 = .ok (.iconst 2, 1) := by decide +kernel
theorem d_K_kindOf_55 : decode b_K_kindOf 55 = .ok (.goto 4, 3) := by decide +kernel
theorem d_K_kindOf_58 : decode b_K_kindOf 58 = .ok (.iconst 3, 1) := by decide +kernel
theorem d_K_kindOf_59 : decode b_K_kindOf 59 = .ok (.ireturn, 1) := by decide +kernel
theorem d_K_kindOf_60 : decode b_K_kindOf 60 = .ok (.iload_n 3, 1) := by decide +kernel
theorem d_K_kindOf_61 : decode b_K_kindOf 61 = .ok (.bipush 40, 2) := by decide +kernel
theorem d_K_kindOf_63 : decode b_K_kindOf 63 = .ok (.if_icmp .ne 8, 3) := by decide +kernel
theorem d_K_kindOf_66 : decode b_K_kindOf 66 = .ok (.bipush 9, 2) := by decide +kernel
theorem d_K_kindOf_68 : decode b_K_kindOf 68 = .ok (.goto 15, 3) := by decide +kernel
theorem d_K_kindOf_71 : decode b_K_kindOf 71 = .ok (.iload_n 3, 1) := by decide +kernel
theorem d_K_kindOf_72 : decode b_K_kindOf 72 = .ok (.bipush 41, 2) := by decide +kernel
theorem d_K_kindOf_74 : decode b_K_kindOf 74 = .ok (.if_icmp .ne 8, 3) := by decide +kernel
theorem d_K_kindOf_77 : decode b_K_kindOf 77 = .ok (.bipush 10, 2) := by decide +kernel
theorem d_K_kindOf_79 : decode b_K_kindOf 79 = .ok (.goto 4, 3) := by decide +kernel
theorem d_K_kindOf_82 : decode b_K_kindOf 82 = .ok (.iconst 5, 1) := by decide +kernel
theorem d_K_kindOf_83 : decode b_K_kindOf 83 = .ok (.ireturn, 1) := by decide +kernel
set_option maxHeartbeats 4000000 in
set_option maxRecDepth 100000 in
theorem c_K_kindOf (l : Launch) (dC : Nat → ClassId) (dI : Nat → Nat → Nat) (kA : Nat → ClassId) (ko : Nat) (la : Nat) (nl : Nat) (lc : Nat → Int) (kn : Int) (ga : Nat) (gb : Nat) (gc : Nat) (kz : Int) (gk : Nat → Int) (gs : Nat → Int) (ge : Nat → Int) (st : Int) (en : Int) (hKR : KR nl lc kn kz gk gs ge) (hse : -1000 ≤ st ∧ st ≤ 1000 ∧ -1000 ≤ en ∧ en ≤ 1000) : Met l y_K_kindOf (wsy y_K_kindOf b_K_kindOf 4 (some .int)) (rmd 6 0 0) (li_Pr (dC, dI) CL (TY kA) [.ref ko, .int (iI st), .int (iI en)] (va_P (dC, dI) CL [(ko, .inr (8, [.ref la, .int (iI kn), .ref ga, .ref gb, .ref gc, .int (iI kz)])), (ga, .inl (kA 0, 100, .inl (aI gk))), (gb, .inl (kA 0, 100, .inl (aI gs))), (gc, .inl (kA 0, 100, .inl (aI ge))), (la, .inl (kA 1, nl, .inl (aI lc)))])) (k2_QcV (.int (iI (koF lc kn st en)))) 0 0 (fun _ => False) := by
  refine li_mr (by decide) (Nat.le_of_ble_eq_true rfl) (by rfl) ?_
  intro p e s m args below meth c Q C hP hK hN hG fin ls hl
  obtain ⟨hx, hb, hr, hml, hown, hts, hlocks, hin⟩ := C
  have hown : s.vm.findClass R_K = some m.cls := hown
  have hP : va_P (dC, dI) CL [(ko, .inr (8, [.ref la, .int (iI kn), .ref ga, .ref gb, .ref gc, .int (iI kz)])), (ga, .inl (kA 0, 100, .inl (aI gk))), (gb, .inl (kA 0, 100, .inl (aI gs))), (gc, .inl (kA 0, 100, .inl (aI ge))), (la, .inl (kA 1, nl, .inl (aI lc)))] s.heap := hP
  have hl : lv_has ls 4 [(0, .ref ko), (1, .int (iI st)), (2, .int (iI en))] := hl
  obtain ⟨hnl, hkn, hkz, hlc, hgk, hgs, hge⟩ := id hKR
  refine lv_aload_n hx hb d_K_kindOf_0 rfl (lv_at hl 0 rfl) ?_
  refine lv_iload_n hx hb d_K_kindOf_1 rfl (lv_at hl 1 rfl) ?_
  refine li_callr ((va_runV (As := [.int (iI st)]) (rest := []) ⟨hx, hb, hml, hown, hts⟩ (c_K_characterAt l dC dI kA ko la nl lc kn ga gb gc kz gk gs ge st (by exact hKR) (by omega)) (cw_K_52 hts rfl rfl ⟨Nat.le_of_ble_eq_true rfl, Nat.le_of_ble_eq_true rfl⟩) (li_preV (va_recv hK hP (ci := 8) (q0 := 0) rfl rfl) (hP.sub [0, 1, 2, 3, 4] rfl) hK hN hG.rd) rfl rfl hl.1 rfl (lv_room (Nat.le_of_ble_eq_true rfl)) d_K_kindOf_2 ⟨(by show 0 + 0 ≤ 0; omega), (by show 0 + 0 ≤ 0; omega)⟩).run) ?_
  refine li_nm (fun cx ecx => ?_)
  refine lv_istore_n (lv' := [(3, .int (iI cx)), (0, .ref ko), (1, .int (iI st)), (2, .int (iI en))]) hx hb d_K_kindOf_5 rfl hl (by decide) rfl (fun ls hl => ?_)
  refine lv_iload_n hx hb d_K_kindOf_6 rfl (lv_at hl 0 rfl) ?_
  refine li_callr ((va_runS (As := [.int (iI cx)]) (rest := []) ⟨hx, hb, hml, hown, hts⟩ (c_K_isInName l dC dI kA cx (by have h9 := chL_r (kn := kn) (x := st) hlc; omega)) (cw_K_63 hts rfl rfl ⟨Nat.le_of_ble_eq_true rfl, Nat.le_of_ble_eq_true rfl⟩) (li_preS va_Pnil hK hN hG.rd) rfl rfl hl.1 rfl (lv_room (Nat.le_of_ble_eq_true rfl)) d_K_kindOf_7 ⟨(by show 0 + 0 ≤ 0; omega), (by show 0 + 0 ≤ 0; omega)⟩).run) ?_
  refine li_bz (tgt := 20) hx hb d_K_kindOf_10 (by decide) (fun c1 => ?_) (fun c1 => ?_)
  · have _q := c1
    refine lv_iload_n hx hb d_K_kindOf_20 rfl (lv_at hl 0 rfl) ?_
    refine li_callr ((va_runS (As := [.int (iI cx)]) (rest := []) ⟨hx, hb, hml, hown, hts⟩ (c_K_isComparison l dC dI kA cx (by have h9 := chL_r (kn := kn) (x := st) hlc; omega)) (cw_K_59 hts rfl rfl ⟨Nat.le_of_ble_eq_true rfl, Nat.le_of_ble_eq_true rfl⟩) (li_preS va_Pnil hK hN hG.rd) rfl rfl hl.1 rfl (lv_room (Nat.le_of_ble_eq_true rfl)) d_K_kindOf_21 ⟨(by show 0 + 0 ≤ 0; omega), (by show 0 + 0 ≤ 0; omega)⟩).run) ?_
    refine li_bz (tgt := 29) hx hb d_K_kindOf_24 (by decide) (fun c2 => ?_) (fun c2 => ?_)
    · have _q := c2
      refine lv_iload_n hx hb d_K_kindOf_29 rfl (lv_at hl 0 rfl) ?_
      refine lv_bipush (v := iI 34) hx hb d_K_kindOf_30 (by decide) ?_
      refine li_icmp_ne (tgt := 60) hx hb d_K_kindOf_32 (by decide) (by first | omega | (have h9 := chL_r (kn := kn) (x := st) hlc; omega) | (have h9 := chL_r (kn := kn) (x := en - 1) hlc; omega)) (by first | omega | (have h9 := chL_r (kn := kn) (x := st) hlc; omega) | (have h9 := chL_r (kn := kn) (x := en - 1) hlc; omega)) (fun c3 => ?_) (fun c3 => ?_)
      · have _q := c3
        refine lv_iload_n hx hb d_K_kindOf_60 rfl (lv_at hl 0 rfl) ?_
        refine lv_bipush (v := iI 40) hx hb d_K_kindOf_61 (by decide) ?_
        refine li_icmp_ne (tgt := 71) hx hb d_K_kindOf_63 (by decide) (by first | omega | (have h9 := chL_r (kn := kn) (x := st) hlc; omega) | (have h9 := chL_r (kn := kn) (x := en - 1) hlc; omega)) (by first | omega | (have h9 := chL_r (kn := kn) (x := st) hlc; omega) | (have h9 := chL_r (kn := kn) (x := en - 1) hlc; omega)) (fun c4 => ?_) (fun c4 => ?_)
        · have _q := c4
          refine lv_iload_n hx hb d_K_kindOf_71 rfl (lv_at hl 0 rfl) ?_
          refine lv_bipush (v := iI 41) hx hb d_K_kindOf_72 (by decide) ?_
          refine li_icmp_ne (tgt := 82) hx hb d_K_kindOf_74 (by decide) (by first | omega | (have h9 := chL_r (kn := kn) (x := st) hlc; omega) | (have h9 := chL_r (kn := kn) (x := en - 1) hlc; omega)) (by first | omega | (have h9 := chL_r (kn := kn) (x := st) hlc; omega) | (have h9 := chL_r (kn := kn) (x := en - 1) hlc; omega)) (fun c5 => ?_) (fun c5 => ?_)
          · have _q := c5
            refine lv_iconst (v := iI 5) hx hb d_K_kindOf_82 rfl ?_
            exact fin _ _ _ (by subst_vars; unfold koF; rw [if_neg (by simp_all), if_neg (by simp_all), if_neg (by assumption)]; first | (rw [if_pos (by assumption)]; done) | (rw [if_neg (by assumption), if_pos (by assumption)]; done) | (rw [if_neg (by assumption), if_neg (by assumption)]; done)) d_K_kindOf_83
          · have _q := c5
            refine lv_bipush (v := iI 10) hx hb d_K_kindOf_77 (by decide) ?_
            refine lv_goto (tgt := 83) hx hb d_K_kindOf_79 (by decide) ?_
            exact fin _ _ _ (by subst_vars; unfold koF; rw [if_neg (by simp_all), if_neg (by simp_all), if_neg (by assumption)]; first | (rw [if_pos (by assumption)]; done) | (rw [if_neg (by assumption), if_pos (by assumption)]; done) | (rw [if_neg (by assumption), if_neg (by assumption)]; done)) d_K_kindOf_83
        · have _q := c4
          refine lv_bipush (v := iI 9) hx hb d_K_kindOf_66 (by decide) ?_
          refine lv_goto (tgt := 83) hx hb d_K_kindOf_68 (by decide) ?_
          exact fin _ _ _ (by subst_vars; unfold koF; rw [if_neg (by simp_all), if_neg (by simp_all), if_neg (by assumption)]; first | (rw [if_pos (by assumption)]; done) | (rw [if_neg (by assumption), if_pos (by assumption)]; done) | (rw [if_neg (by assumption), if_neg (by assumption)]; done)) d_K_kindOf_83
      · have _q := c3
        refine lv_iload_n hx hb d_K_kindOf_35 rfl (lv_at hl 3 rfl) ?_
        refine lv_iload_n hx hb d_K_kindOf_36 rfl (lv_at hl 2 rfl) ?_
        refine li_isub hx hb d_K_kindOf_37 ?_
        refine lv_iconst (v := iI 1) hx hb d_K_kindOf_38 rfl ?_
        refine li_icmp_le (tgt := 58) hx hb d_K_kindOf_39 (by decide) (by first | omega | (have h9 := chL_r (kn := kn) (x := st) hlc; omega) | (have h9 := chL_r (kn := kn) (x := en - 1) hlc; omega)) (by first | omega | (have h9 := chL_r (kn := kn) (x := st) hlc; omega) | (have h9 := chL_r (kn := kn) (x := en - 1) hlc; omega)) (fun c6 => ?_) (fun c6 => ?_)
        · have _q := c6
          refine lv_iconst (v := iI 3) hx hb d_K_kindOf_58 rfl ?_
          exact fin _ _ _ (by subst_vars; unfold koF; rw [if_neg (by simp_all), if_neg (by simp_all), if_pos (by assumption)]; first | (rw [if_pos ⟨by omega, by assumption⟩]; done) | (rw [if_neg (by intro q; first | omega | exact absurd q.2 (by assumption))]; done)) d_K_kindOf_59
        · have _q := c6
          refine lv_aload_n hx hb d_K_kindOf_42 rfl (lv_at hl 1 rfl) ?_
          refine lv_iload_n hx hb d_K_kindOf_43 rfl (lv_at hl 3 rfl) ?_
          refine lv_iconst (v := iI 1) hx hb d_K_kindOf_44 rfl ?_
          refine li_isub hx hb d_K_kindOf_45 ?_
          refine li_callr ((va_runV (As := [.int (iI (en - 1))]) (rest := []) ⟨hx, hb, hml, hown, hts⟩ (c_K_characterAt l dC dI kA ko la nl lc kn ga gb gc kz gk gs ge (en - 1) (by exact hKR) (by omega)) (cw_K_52 hts rfl rfl ⟨Nat.le_of_ble_eq_true rfl, Nat.le_of_ble_eq_true rfl⟩) (li_preV (va_recv hK hP (ci := 8) (q0 := 0) rfl rfl) (hP.sub [0, 1, 2, 3, 4] rfl) hK hN hG.rd) rfl rfl hl.1 rfl (lv_room (Nat.le_of_ble_eq_true rfl)) d_K_kindOf_46 ⟨(by show 0 + 0 ≤ 0; omega), (by show 0 + 0 ≤ 0; omega)⟩).run) ?_
          refine lv_bipush (v := iI 34) hx hb d_K_kindOf_49 (by decide) ?_
          refine li_icmp_ne (tgt := 58) hx hb d_K_kindOf_51 (by decide) (by first | omega | (have h9 := chL_r (kn := kn) (x := st) hlc; omega) | (have h9 := chL_r (kn := kn) (x := en - 1) hlc; omega)) (by first | omega | (have h9 := chL_r (kn := kn) (x := st) hlc; omega) | (have h9 := chL_r (kn := kn) (x := en - 1) hlc; omega)) (fun c7 => ?_) (fun c7 => ?_)
          · have _q := c7
            refine lv_iconst (v := iI 3) hx hb d_K_kindOf_58 rfl ?_
            exact fin _ _ _ (by subst_vars; unfold koF; rw [if_neg (by simp_all), if_neg (by simp_all), if_pos (by assumption)]; first | (rw [if_pos ⟨by omega, by assumption⟩]; done) | (rw [if_neg (by intro q; first | omega | exact absurd q.2 (by assumption))]; done)) d_K_kindOf_59
          · have _q := c7
            refine lv_iconst (v := iI 2) hx hb d_K_kindOf_54 rfl ?_
            refine lv_goto (tgt := 59) hx hb d_K_kindOf_55 (by decide) ?_
            exact fin _ _ _ (by subst_vars; unfold koF; rw [if_neg (by simp_all), if_neg (by simp_all), if_pos (by assumption)]; first | (rw [if_pos ⟨by omega, by assumption⟩]; done) | (rw [if_neg (by intro q; first | omega | exact absurd q.2 (by assumption))]; done)) d_K_kindOf_59
    · have _q := c2
      refine lv_iconst (v := iI 4) hx hb d_K_kindOf_27 rfl ?_
      exact fin _ _ _ (by subst_vars; unfold koF; rw [if_neg (by simp_all), if_pos (by assumption)]) d_K_kindOf_28
  · have _q := c1
    refine lv_aload_n hx hb d_K_kindOf_13 rfl (lv_at hl 1 rfl) ?_
    refine lv_iload_n hx hb d_K_kindOf_14 rfl (lv_at hl 2 rfl) ?_
    refine lv_iload_n hx hb d_K_kindOf_15 rfl (lv_at hl 3 rfl) ?_
    refine li_callr ((va_runV (As := [.int (iI st), .int (iI en)]) (rest := []) ⟨hx, hb, hml, hown, hts⟩ (c_K_kindOfName l dC dI kA ko la nl lc kn ga gb gc kz gk gs ge st en (by exact hKR) (by exact hse)) (cw_K_66 hts rfl rfl ⟨Nat.le_of_ble_eq_true rfl, Nat.le_of_ble_eq_true rfl⟩) (li_preV (va_recv hK hP (ci := 8) (q0 := 0) rfl rfl) (hP.sub [0, 1, 2, 3, 4] rfl) hK hN hG.rd) rfl rfl hl.1 rfl (lv_room (Nat.le_of_ble_eq_true rfl)) d_K_kindOf_16 ⟨(by show 0 + 0 ≤ 0; omega), (by show 0 + 0 ≤ 0; omega)⟩).run) ?_
    exact fin _ _ _ (by subst_vars; unfold koF; rw [if_pos (by assumption)]) d_K_kindOf_19
theorem d_K_relationAt_0 : decode b_K_relationAt 0 = .ok (.aload_n 0, 1) := by decide +kernel
theorem d_K_relationAt_1 : decode b_K_relationAt 1 = .ok (.iload_n 1, 1) := by decide +kernel
theorem d_K_relationAt_2 : decode b_K_relationAt 2 = .ok (.invokevirtual 95, 3) := by decide +kernel
theorem d_K_relationAt_5 : decode b_K_relationAt 5 = .ok (.istore_n 2, 1) := by decide +kernel
theorem d_K_relationAt_6 : decode b_K_relationAt 6 = .ok (.aload_n 0, 1) := by decide +kernel
theorem d_K_relationAt_7 : decode b_K_relationAt 7 = .ok (.iload_n 1, 1) := by decide +kernel
theorem d_K_relationAt_8 : decode b_K_relationAt 8 = .ok (.invokevirtual 98, 3) := by decide +kernel
theorem d_K_relationAt_11 : decode b_K_relationAt 11 = .ok (.istore_n 3, 1) := by decide +kernel
theorem d_K_relationAt_12 : decode b_K_relationAt 12 = .ok (.aload_n 0, 1) := by decide +kernel
theorem d_K_relationAt_13 : decode b_K_relationAt 13 = .ok (.iload_n 1, 1) := by decide +kernel
theorem d_K_relationAt_14 : decode b_K_relationAt 14 = .ok (.invokevirtual 117, 3) := by decide +kernel
theorem d_K_relationAt_17 : decode b_K_relationAt 17 = .ok (.iconst 4, 1) := by decide +kernel
theorem d_K_relationAt_18 : decode b_K_relationAt 18 = .ok (.if_icmp .ne 24, 3) := by decide +kernel
theorem d_K_relationAt_21 : decode b_K_relationAt 21 = .ok (.aload_n 0, 1) := by decide +kernel
theorem d_K_relationAt_22 : decode b_K_relationAt 22 = .ok (.iload_n 2, 1) := by decide +kernel
theorem d_K_relationAt_23 : decode b_K_relationAt 23 = .ok (.invokevirtual 52, 3) := by decide +kernel
theorem d_K_relationAt_26 : decode b_K_relationAt 26 = .ok (.iload_n 3, 1) := by decide +kernel
theorem d_K_relationAt_27 : decode b_K_relationAt 27 = .ok (.iload_n 2, 1) := by decide +kernel
theorem d_K_relationAt_28 : decode b_K_relationAt 28 = .ok (.isub, 1) := by decide +kernel
theorem d_K_relationAt_29 : decode b_K_relationAt 29 = .ok (.iconst 2, 1) := by decide +kernel
theorem d_K_relationAt_30 : decode b_K_relationAt 30 = .ok (.if_icmp .ne 7, 3) := by decide +kernel
theorem d_K_relationAt_33 : decode b_K_relationAt 33 = .ok (.iconst 1, 1) := by decide +kernel
theorem d_K_relationAt_34 : decode b_K_relationAt 34 = .ok (.goto 4, 3) := by decide +kernel
theorem d_K_relationAt_37 : decode b_K_relationAt 37 = .ok (.iconst 0, 1) := by decide +kernel
theorem d_K_relationAt_38 : decode b_K_relationAt 38 = .ok (.invokestatic 120, 3) := by decide +kernel
theorem d_K_relationAt_41 : decode b_K_relationAt 41 = .ok (.ireturn, 1) := by decide +kernel
theorem d_K_relationAt_42 : decode b_K_relationAt 42 = .ok (.aload_n 0, 1) := by decide +kernel
theorem d_K_relationAt_43 : decode b_K_relationAt 43 = .ok (.iload_n 1, 1) := by decide +kernel
theorem d_K_relationAt_44 : decode b_K_relationAt 44 = .ok (.invokevirtual 117, 3) := by decide +kernel
theorem d_K_relationAt_47 : decode b_K_relationAt 47 = .ok (.iconst 1, 1) := by decide +kernel
theorem d_K_relationAt_48 : decode b_K_relationAt 48 = .ok (.if_icmp .eq 5, 3) := by decide +kernel
theorem d_K_relationAt_51 : decode b_K_relationAt 51 = .ok (.iconst (-1), 1) := by decide +kernel
theorem d_K_relationAt_52 : decode b_K_relationAt 52 = .ok (.ireturn, 1) := by decide +kernel
theorem d_K_relationAt_53 : decode b_K_relationAt 53 = .ok (.aload_n 0, 1) := by decide +kernel
theorem d_K_relationAt_54 : decode b_K_relationAt 54 = .ok (.iload_n 2, 1) := by decide +kernel
theorem d_K_relationAt_55 : decode b_K_relationAt 55 = .ok (.iload_n 3, 1) := by decide +kernel
theorem d_K_relationAt_56 : decode b_K_relationAt 56 = .ok (.ldc 105, 2) := by decide +kernel
theorem d_K_relationAt_58 : decode b_K_relationAt 58 = .ok (.invokevirtual 71, 3) := by decide +kernel
theorem d_K_relationAt_61 : decode b_K_relationAt 61 = .ok (.ifCond .eq 5, 3) := by decide +kernel
theorem d_K_relationAt_64 : decode b_K_relationAt 64 = .ok (.iconst 0, 1) := by decide +kernel
theorem d_K_relationAt_65 : decode b_K_relationAt 65 = .ok (.ireturn, 1) := by decide +kernel
theorem d_K_relationAt_66 : decode b_K_relationAt 66 = .ok (.aload_n 0, 1) := by decide +kernel
theorem d_K_relationAt_67 : decode b_K_relationAt 67 = .ok (.iload_n 2, 1) := by decide +kernel
theorem d_K_relationAt_68 : decode b_K_relationAt 68 = .ok (.iload_n 3, 1) := by decide +kernel
theorem d_K_relationAt_69 : decode b_K_relationAt 69 = .ok (.ldc 124, 2) := by decide +kernel
theorem d_K_relationAt_71 : decode b_K_relationAt 71 = .ok (.invokevirtual 71, 3) := by decide +kernel
theorem d_K_relationAt_74 : decode b_K_relationAt 74 = .ok (.ifCond .eq 5, 3) := by decide +kernel
theorem d_K_relationAt_77 : decode b_K_relationAt 77 = .ok (.iconst 1, 1) := by decide +kernel
theorem d_K_relationAt_78 : decode b_K_relationAt 78 = .ok (.ireturn, 1) := by decide +kernel
theorem d_K_relationAt_79 : decode b_K_relationAt 79 = .ok (.aload_n 0, 1) := by decide +kernel
theorem d_K_relationAt_80 : decode b_K_relationAt 80 = .ok (.iload_n 2, 1) := by decide +kernel
theorem d_K_relationAt_81 : decode b_K_relationAt 81 = .ok (.iload_n 3, 1) := by decide +kernel
theorem d_K_relationAt_82 : decode b_K_relationAt 82 = .ok (.ldc 126, 2) := by decide +kernel
theorem d_K_relationAt_84 : decode b_K_relationAt 84 = .ok (.invokevirtual 71, 3) := by decide +kernel
theorem d_K_relationAt_87 : decode b_K_relationAt 87 = .ok (.ifCond .eq 5, 3) := by decide +kernel
theorem d_K_relationAt_90 : decode b_K_relationAt 90 = .ok (.iconst 2, 1) := by decide +kernel
theorem d_K_relationAt_91 : decode b_K_relationAt 91 = .ok (.ireturn, 1) := by decide +kernel
theorem d_K_relationAt_92 : decode b_K_relationAt 92 = .ok (.aload_n 0, 1) := by decide +kernel
theorem d_K_relationAt_93 : decode b_K_relationAt 93 = .ok (.iload_n 2, 1) := by decide +kernel
theorem d_K_relationAt_94 : decode b_K_relationAt 94 = .ok (.iload_n 3, 1) := by decide +kernel
theorem d_K_relationAt_95 : decode b_K_relationAt 95 = .ok (.ldc 128, 2) := by decide +kernel
theorem d_K_relationAt_97 : decode b_K_relationAt 97 = .ok (.invokevirtual 71, 3) := by decide +kernel
theorem d_K_relationAt_100 : decode b_K_relationAt 100 = .ok (.ifCond .eq 7, 3) := by decide +kernel
theorem d_K_relationAt_103 : decode b_K_relationAt 103 = .ok (.iconst 3, 1) := by decide +kernel
theorem d_K_relationAt_104 : decode b_K_relationAt 104 = .ok (.goto 4, 3) := by decide +kernel
theorem d_K_relationAt_107 : decode b_K_relationAt 107 = .ok (.iconst (-1), 1) := by decide +kernel
theorem d_K_relationAt_108 : decode b_K_relationAt 108 = .ok (.ireturn, 1) := by decide +kernel
set_option maxHeartbeats 4000000 in
set_option maxRecDepth 100000 in
theorem c_K_relationAt (l : Launch) (dC : Nat → ClassId) (dI : Nat → Nat → Nat) (kA : Nat → ClassId) (ko : Nat) (la : Nat) (nl : Nat) (lc : Nat → Int) (kn : Int) (ga : Nat) (gb : Nat) (gc : Nat) (kz : Int) (gk : Nat → Int) (gs : Nat → Int) (ge : Nat → Int) (x : Int) (hKR : KR nl lc kn kz gk gs ge) (hx0 : -2147483648 ≤ x ∧ x < 2147483648) : Met l y_K_relationAt (wsy y_K_relationAt b_K_relationAt 4 (some .int)) (rmd 5 0 0) (li_Pr (dC, dI) CL (TY kA) [.ref ko, .int (iI x)] (va_P (dC, dI) CL [(ko, .inr (8, [.ref la, .int (iI kn), .ref ga, .ref gb, .ref gc, .int (iI kz)])), (ga, .inl (kA 0, 100, .inl (aI gk))), (gb, .inl (kA 0, 100, .inl (aI gs))), (gc, .inl (kA 0, 100, .inl (aI ge))), (la, .inl (kA 1, nl, .inl (aI lc)))])) (k2_QcV (.int (iI (rlF lc kn (kdF gk kz x) (seF gs kz kn x) (seF ge kz kn x))))) 0 0 (fun _ => False) := by
  refine li_mr (by decide) (Nat.le_of_ble_eq_true rfl) (by rfl) ?_
  intro p e s m args below meth c Q C hP hK hN hG fin ls hl
  obtain ⟨hx, hb, hr, hml, hown, hts, hlocks, hin⟩ := C
  have hown : s.vm.findClass R_K = some m.cls := hown
  have hP : va_P (dC, dI) CL [(ko, .inr (8, [.ref la, .int (iI kn), .ref ga, .ref gb, .ref gc, .int (iI kz)])), (ga, .inl (kA 0, 100, .inl (aI gk))), (gb, .inl (kA 0, 100, .inl (aI gs))), (gc, .inl (kA 0, 100, .inl (aI ge))), (la, .inl (kA 1, nl, .inl (aI lc)))] s.heap := hP
  have hl : lv_has ls 4 [(0, .ref ko), (1, .int (iI x))] := hl
  obtain ⟨hnl, hkn, hkz, hlc, hgk, hgs, hge⟩ := id hKR
  refine lv_aload_n hx hb d_K_relationAt_0 rfl (lv_at hl 0 rfl) ?_
  refine lv_iload_n hx hb d_K_relationAt_1 rfl (lv_at hl 1 rfl) ?_
  refine li_callr ((va_runV (As := [.int (iI x)]) (rest := []) ⟨hx, hb, hml, hown, hts⟩ (c_K_startAt l dC dI kA ko la nl lc kn ga gb gc kz gk gs ge x (by exact hKR) (by omega)) (cw_K_95 hts rfl rfl ⟨Nat.le_of_ble_eq_true rfl, Nat.le_of_ble_eq_true rfl⟩) (li_preV (va_recv hK hP (ci := 8) (q0 := 0) rfl rfl) (hP.sub [0, 1, 2, 3, 4] rfl) hK hN hG.rd) rfl rfl hl.1 rfl (lv_room (Nat.le_of_ble_eq_true rfl)) d_K_relationAt_2 ⟨(by show 0 + 0 ≤ 0; omega), (by show 0 + 0 ≤ 0; omega)⟩).run) ?_
  refine li_nm (fun st est => ?_)
  refine lv_istore_n (lv' := [(2, .int (iI st)), (0, .ref ko), (1, .int (iI x))]) hx hb d_K_relationAt_5 rfl hl (by decide) rfl (fun ls hl => ?_)
  have hs8 := seF_r (kz := kz) (kn := kn) (x := x) hgs (by omega)
  rw [← est] at hs8
  refine lv_aload_n hx hb d_K_relationAt_6 rfl (lv_at hl 1 rfl) ?_
  refine lv_iload_n hx hb d_K_relationAt_7 rfl (lv_at hl 2 rfl) ?_
  refine li_callr ((va_runV (As := [.int (iI x)]) (rest := []) ⟨hx, hb, hml, hown, hts⟩ (c_K_endAt l dC dI kA ko la nl lc kn ga gb gc kz gk gs ge x (by exact hKR) (by omega)) (cw_K_98 hts rfl rfl ⟨Nat.le_of_ble_eq_true rfl, Nat.le_of_ble_eq_true rfl⟩) (li_preV (va_recv hK hP (ci := 8) (q0 := 0) rfl rfl) (hP.sub [0, 1, 2, 3, 4] rfl) hK hN hG.rd) rfl rfl hl.1 rfl (lv_room (Nat.le_of_ble_eq_true rfl)) d_K_relationAt_8 ⟨(by show 0 + 0 ≤ 0; omega), (by show 0 + 0 ≤ 0; omega)⟩).run) ?_
  refine li_nm (fun en een => ?_)
  refine lv_istore_n (lv' := [(3, .int (iI en)), (2, .int (iI st)), (0, .ref ko), (1, .int (iI x))]) hx hb d_K_relationAt_11 rfl hl (by decide) rfl (fun ls hl => ?_)
  have hs9 := seF_r (kz := kz) (kn := kn) (x := x) hge (by omega)
  rw [← een] at hs9
  refine lv_aload_n hx hb d_K_relationAt_12 rfl (lv_at hl 2 rfl) ?_
  refine lv_iload_n hx hb d_K_relationAt_13 rfl (lv_at hl 3 rfl) ?_
  refine li_callr ((va_runV (As := [.int (iI x)]) (rest := []) ⟨hx, hb, hml, hown, hts⟩ (c_K_kindAt l dC dI kA ko la nl lc kn ga gb gc kz gk gs ge x (by exact hKR) (by omega)) (cw_K_117 hts rfl rfl ⟨Nat.le_of_ble_eq_true rfl, Nat.le_of_ble_eq_true rfl⟩) (li_preV (va_recv hK hP (ci := 8) (q0 := 0) rfl rfl) (hP.sub [0, 1, 2, 3, 4] rfl) hK hN hG.rd) rfl rfl hl.1 rfl (lv_room (Nat.le_of_ble_eq_true rfl)) d_K_relationAt_14 ⟨(by show 0 + 0 ≤ 0; omega), (by show 0 + 0 ≤ 0; omega)⟩).run) ?_
  have hd9 := kdF_r (kz := kz) (x := x) hgk
  refine lv_iconst (v := iI 4) hx hb d_K_relationAt_17 rfl ?_
  refine li_icmp_ne (tgt := 42) hx hb d_K_relationAt_18 (by decide) (by omega) (by omega) (fun c1 => ?_) (fun c1 => ?_)
  · have _q := c1
    refine lv_aload_n hx hb d_K_relationAt_42 rfl (lv_at hl 2 rfl) ?_
    refine lv_iload_n hx hb d_K_relationAt_43 rfl (lv_at hl 3 rfl) ?_
    refine li_callr ((va_runV (As := [.int (iI x)]) (rest := []) ⟨hx, hb, hml, hown, hts⟩ (c_K_kindAt l dC dI kA ko la nl lc kn ga gb gc kz gk gs ge x (by exact hKR) (by omega)) (cw_K_117 hts rfl rfl ⟨Nat.le_of_ble_eq_true rfl, Nat.le_of_ble_eq_true rfl⟩) (li_preV (va_recv hK hP (ci := 8) (q0 := 0) rfl rfl) (hP.sub [0, 1, 2, 3, 4] rfl) hK hN hG.rd) rfl rfl hl.1 rfl (lv_room (Nat.le_of_ble_eq_true rfl)) d_K_relationAt_44 ⟨(by show 0 + 0 ≤ 0; omega), (by show 0 + 0 ≤ 0; omega)⟩).run) ?_
    have hd9 := kdF_r (kz := kz) (x := x) hgk
    refine lv_iconst (v := iI 1) hx hb d_K_relationAt_47 rfl ?_
    refine li_icmp_eq (tgt := 53) hx hb d_K_relationAt_48 (by decide) (by omega) (by omega) (fun c2 => ?_) (fun c2 => ?_)
    · have _q := c2
      refine lv_aload_n hx hb d_K_relationAt_53 rfl (lv_at hl 2 rfl) ?_
      refine lv_iload_n hx hb d_K_relationAt_54 rfl (lv_at hl 1 rfl) ?_
      refine lv_iload_n hx hb d_K_relationAt_55 rfl (lv_at hl 0 rfl) ?_
      refine va_ldcS hx hb hown (hG.2.1 6 (R_K, 105, "any") rfl) d_K_relationAt_56 ?_
      refine li_callr ((va_runV (As := [.int (iI st), .int (iI en), .ref (dI 101 6)]) (rest := []) ⟨hx, hb, hml, hown, hts⟩ (c_K_isWritten l dC dI kA ko la nl lc kn ga gb gc kz gk gs ge st en 6 (by exact hKR) (by omega) (by decide)) (cw_K_71 hts rfl rfl ⟨Nat.le_of_ble_eq_true rfl, Nat.le_of_ble_eq_true rfl⟩) (li_preV (va_recv hK hP (ci := 8) (q0 := 0) rfl rfl) (hP.sub [0, 1, 2, 3, 4] rfl) hK hN hG.rd) rfl rfl hl.1 rfl (lv_room (Nat.le_of_ble_eq_true rfl)) d_K_relationAt_58 ⟨(by show 0 + 0 ≤ 0; omega), (by show 0 + 0 ≤ 0; omega)⟩).run) ?_
      refine li_bz (tgt := 66) hx hb d_K_relationAt_61 (by decide) (fun c3 => ?_) (fun c3 => ?_)
      · have _q := c3
        refine lv_aload_n hx hb d_K_relationAt_66 rfl (lv_at hl 2 rfl) ?_
        refine lv_iload_n hx hb d_K_relationAt_67 rfl (lv_at hl 1 rfl) ?_
        refine lv_iload_n hx hb d_K_relationAt_68 rfl (lv_at hl 0 rfl) ?_
        refine va_ldcS hx hb hown (hG.2.1 7 (R_K, 124, "all") rfl) d_K_relationAt_69 ?_
        refine li_callr ((va_runV (As := [.int (iI st), .int (iI en), .ref (dI 101 7)]) (rest := []) ⟨hx, hb, hml, hown, hts⟩ (c_K_isWritten l dC dI kA ko la nl lc kn ga gb gc kz gk gs ge st en 7 (by exact hKR) (by omega) (by decide)) (cw_K_71 hts rfl rfl ⟨Nat.le_of_ble_eq_true rfl, Nat.le_of_ble_eq_true rfl⟩) (li_preV (va_recv hK hP (ci := 8) (q0 := 0) rfl rfl) (hP.sub [0, 1, 2, 3, 4] rfl) hK hN hG.rd) rfl rfl hl.1 rfl (lv_room (Nat.le_of_ble_eq_true rfl)) d_K_relationAt_71 ⟨(by show 0 + 0 ≤ 0; omega), (by show 0 + 0 ≤ 0; omega)⟩).run) ?_
        refine li_bz (tgt := 79) hx hb d_K_relationAt_74 (by decide) (fun c4 => ?_) (fun c4 => ?_)
        · have _q := c4
          refine lv_aload_n hx hb d_K_relationAt_79 rfl (lv_at hl 2 rfl) ?_
          refine lv_iload_n hx hb d_K_relationAt_80 rfl (lv_at hl 1 rfl) ?_
          refine lv_iload_n hx hb d_K_relationAt_81 rfl (lv_at hl 0 rfl) ?_
          refine va_ldcS hx hb hown (hG.2.1 8 (R_K, 126, "adj") rfl) d_K_relationAt_82 ?_
          refine li_callr ((va_runV (As := [.int (iI st), .int (iI en), .ref (dI 101 8)]) (rest := []) ⟨hx, hb, hml, hown, hts⟩ (c_K_isWritten l dC dI kA ko la nl lc kn ga gb gc kz gk gs ge st en 8 (by exact hKR) (by omega) (by decide)) (cw_K_71 hts rfl rfl ⟨Nat.le_of_ble_eq_true rfl, Nat.le_of_ble_eq_true rfl⟩) (li_preV (va_recv hK hP (ci := 8) (q0 := 0) rfl rfl) (hP.sub [0, 1, 2, 3, 4] rfl) hK hN hG.rd) rfl rfl hl.1 rfl (lv_room (Nat.le_of_ble_eq_true rfl)) d_K_relationAt_84 ⟨(by show 0 + 0 ≤ 0; omega), (by show 0 + 0 ≤ 0; omega)⟩).run) ?_
          refine li_bz (tgt := 92) hx hb d_K_relationAt_87 (by decide) (fun c5 => ?_) (fun c5 => ?_)
          · have _q := c5
            refine lv_aload_n hx hb d_K_relationAt_92 rfl (lv_at hl 2 rfl) ?_
            refine lv_iload_n hx hb d_K_relationAt_93 rfl (lv_at hl 1 rfl) ?_
            refine lv_iload_n hx hb d_K_relationAt_94 rfl (lv_at hl 0 rfl) ?_
            refine va_ldcS hx hb hown (hG.2.1 9 (R_K, 128, "exact") rfl) d_K_relationAt_95 ?_
            refine li_callr ((va_runV (As := [.int (iI st), .int (iI en), .ref (dI 101 9)]) (rest := []) ⟨hx, hb, hml, hown, hts⟩ (c_K_isWritten l dC dI kA ko la nl lc kn ga gb gc kz gk gs ge st en 9 (by exact hKR) (by omega) (by decide)) (cw_K_71 hts rfl rfl ⟨Nat.le_of_ble_eq_true rfl, Nat.le_of_ble_eq_true rfl⟩) (li_preV (va_recv hK hP (ci := 8) (q0 := 0) rfl rfl) (hP.sub [0, 1, 2, 3, 4] rfl) hK hN hG.rd) rfl rfl hl.1 rfl (lv_room (Nat.le_of_ble_eq_true rfl)) d_K_relationAt_97 ⟨(by show 0 + 0 ≤ 0; omega), (by show 0 + 0 ≤ 0; omega)⟩).run) ?_
            refine li_bz (tgt := 107) hx hb d_K_relationAt_100 (by decide) (fun c6 => ?_) (fun c6 => ?_)
            · have _q := c6
              refine lv_iconst (v := iI (-1)) hx hb d_K_relationAt_107 rfl ?_
              exact fin _ _ _ (by unfold rlF; rw [if_neg (by assumption), if_pos (by assumption), ← est, ← een]; clear est een; simp only [*]; rfl) d_K_relationAt_108
            · have _q := c6
              refine lv_iconst (v := iI 3) hx hb d_K_relationAt_103 rfl ?_
              refine lv_goto (tgt := 108) hx hb d_K_relationAt_104 (by decide) ?_
              exact fin _ _ _ (by unfold rlF; rw [if_neg (by assumption), if_pos (by assumption), ← est, ← een]; clear est een; simp only [*]; rfl) d_K_relationAt_108
          · have _q := c5
            refine lv_iconst (v := iI 2) hx hb d_K_relationAt_90 rfl ?_
            exact fin _ _ _ (by unfold rlF; rw [if_neg (by assumption), if_pos (by assumption), ← est, ← een]; clear est een; simp only [*]; rfl) d_K_relationAt_91
        · have _q := c4
          refine lv_iconst (v := iI 1) hx hb d_K_relationAt_77 rfl ?_
          exact fin _ _ _ (by unfold rlF; rw [if_neg (by assumption), if_pos (by assumption), ← est, ← een]; clear est een; simp only [*]; rfl) d_K_relationAt_78
      · have _q := c3
        refine lv_iconst (v := iI 0) hx hb d_K_relationAt_64 rfl ?_
        exact fin _ _ _ (by unfold rlF; rw [if_neg (by assumption), if_pos (by assumption), ← est, ← een]; clear est een; simp only [*]; rfl) d_K_relationAt_65
    · have _q := c2
      refine lv_iconst (v := iI (-1)) hx hb d_K_relationAt_51 rfl ?_
      exact fin _ _ _ (by unfold rlF; rw [if_neg (by assumption), if_neg (by assumption)]) d_K_relationAt_52
  · have _q := c1
    refine lv_aload_n hx hb d_K_relationAt_21 rfl (lv_at hl 2 rfl) ?_
    refine lv_iload_n hx hb d_K_relationAt_22 rfl (lv_at hl 1 rfl) ?_
    refine li_callr ((va_runV (As := [.int (iI st)]) (rest := []) ⟨hx, hb, hml, hown, hts⟩ (c_K_characterAt l dC dI kA ko la nl lc kn ga gb gc kz gk gs ge st (by exact hKR) (by omega)) (cw_K_52 hts rfl rfl ⟨Nat.le_of_ble_eq_true rfl, Nat.le_of_ble_eq_true rfl⟩) (li_preV (va_recv hK hP (ci := 8) (q0 := 0) rfl rfl) (hP.sub [0, 1, 2, 3, 4] rfl) hK hN hG.rd) rfl rfl hl.1 rfl (lv_room (Nat.le_of_ble_eq_true rfl)) d_K_relationAt_23 ⟨(by show 0 + 0 ≤ 0; omega), (by show 0 + 0 ≤ 0; omega)⟩).run) ?_
    refine lv_iload_n hx hb d_K_relationAt_26 rfl (lv_at hl 0 rfl) ?_
    refine lv_iload_n hx hb d_K_relationAt_27 rfl (lv_at hl 1 rfl) ?_
    refine li_isub hx hb d_K_relationAt_28 ?_
    refine lv_iconst (v := iI 2) hx hb d_K_relationAt_29 rfl ?_
    refine li_icmp_ne (tgt := 37) hx hb d_K_relationAt_30 (by decide) (by omega) (by omega) (fun c7 => ?_) (fun c7 => ?_)
    · have _q := c7
      refine lv_iconst (v := iI 0) hx hb d_K_relationAt_37 rfl ?_
      refine li_callr ((va_runS (As := [.int (iI (chL lc kn st)), .int (iI 0)]) (rest := []) ⟨hx, hb, hml, hown, hts⟩ (c_K_comparison l dC dI kA (chL lc kn st) false (by have h9 := chL_r (kn := kn) (x := st) hlc; omega)) (cw_K_120 hts rfl rfl ⟨Nat.le_of_ble_eq_true rfl, Nat.le_of_ble_eq_true rfl⟩) (li_preS va_Pnil hK hN hG.rd) rfl rfl hl.1 rfl (lv_room (Nat.le_of_ble_eq_true rfl)) d_K_relationAt_38 ⟨(by show 0 + 0 ≤ 0; omega), (by show 0 + 0 ≤ 0; omega)⟩).run) ?_
      exact fin _ _ _ (by unfold rlF; rw [if_pos (by assumption), ← est, ← een]; first | (rw [show decide (en - st = 2) = true from decide_eq_true (by assumption)]; done) | (rw [show decide (en - st = 2) = false from decide_eq_false (by assumption)]; done)) d_K_relationAt_41
    · have _q := c7
      refine lv_iconst (v := iI 1) hx hb d_K_relationAt_33 rfl ?_
      refine lv_goto (tgt := 38) hx hb d_K_relationAt_34 (by decide) ?_
      refine li_callr ((va_runS (As := [.int (iI (chL lc kn st)), .int (iI 1)]) (rest := []) ⟨hx, hb, hml, hown, hts⟩ (c_K_comparison l dC dI kA (chL lc kn st) true (by have h9 := chL_r (kn := kn) (x := st) hlc; omega)) (cw_K_120 hts rfl rfl ⟨Nat.le_of_ble_eq_true rfl, Nat.le_of_ble_eq_true rfl⟩) (li_preS va_Pnil hK hN hG.rd) rfl rfl hl.1 rfl (lv_room (Nat.le_of_ble_eq_true rfl)) d_K_relationAt_38 ⟨(by show 0 + 0 ≤ 0; omega), (by show 0 + 0 ≤ 0; omega)⟩).run) ?_
      exact fin _ _ _ (by unfold rlF; rw [if_pos (by assumption), ← est, ← een]; first | (rw [show decide (en - st = 2) = true from decide_eq_true (by assumption)]; done) | (rw [show decide (en - st = 2) = false from decide_eq_false (by assumption)]; done)) d_K_relationAt_41
theorem d_K_add_0 : decode b_K_add 0 = .ok (.aload_n 0, 1) := by decide +kernel
theorem d_K_add_1 : decode b_K_add 1 = .ok (.getfield 35, 3) := by decide +kernel
theorem d_K_add_4 : decode b_K_add 4 = .ok (.aload_n 0, 1) := by decide +kernel
theorem d_K_add_5 : decode b_K_add 5 = .ok (.getfield 15, 3) := by decide +kernel
theorem d_K_add_8 : decode b_K_add 8 = .ok (.arraylength, 1) := by decide +kernel
theorem d_K_add_9 : decode b_K_add 9 = .ok (.if_icmp .ge 43, 3) := by decide +kernel
theorem d_K_add_12 : decode b_K_add 12 = .ok (.aload_n 0, 1) := by decide +kernel
theorem d_K_add_13 : decode b_K_add 13 = .ok (.getfield 15, 3) := by decide +kernel
theorem d_K_add_16 : decode b_K_add 16 = .ok (.aload_n 0, 1) := by decide +kernel
theorem d_K_add_17 : decode b_K_add 17 = .ok (.getfield 35, 3) := by decide +kernel
theorem d_K_add_20 : decode b_K_add 20 = .ok (.iload_n 1, 1) := by decide +kernel
theorem d_K_add_21 : decode b_K_add 21 = .ok (.iastore, 1) := by decide +kernel
theorem d_K_add_22 : decode b_K_add 22 = .ok (.aload_n 0, 1) := by decide +kernel
theorem d_K_add_23 : decode b_K_add 23 = .ok (.getfield 19, 3) := by decide +kernel
theorem d_K_add_26 : decode b_K_add 26 = .ok (.aload_n 0, 1) := by decide +kernel
theorem d_K_add_27 : decode b_K_add 27 = .ok (.getfield 35, 3) := by decide +kernel
theorem d_K_add_30 : decode b_K_add 30 = .ok (.iload_n 2, 1) := by decide +kernel
theorem d_K_add_31 : decode b_K_add 31 = .ok (.iastore, 1) := by decide +kernel
theorem d_K_add_32 : decode b_K_add 32 = .ok (.aload_n 0, 1) := by decide +kernel
theorem d_K_add_33 : decode b_K_add 33 = .ok (.getfield 22, 3) := by decide +kernel
theorem d_K_add_36 : decode b_K_add 36 = .ok (.aload_n 0, 1) := by decide +kernel
theorem d_K_add_37 : decode b_K_add 37 = .ok (.getfield 35, 3) := by decide +kernel
theorem d_K_add_40 : decode b_K_add 40 = .ok (.iload_n 3, 1) := by decide +kernel
theorem d_K_add_41 : decode b_K_add 41 = .ok (.iastore, 1) := by decide +kernel
theorem d_K_add_42 : decode b_K_add 42 = .ok (.aload_n 0, 1) := by decide +kernel
theorem d_K_add_43 : decode b_K_add 43 = .ok (.dup, 1) := by decide +kernel
theorem d_K_add_44 : decode b_K_add 44 = .ok (.getfield 35, 3) := by decide +kernel
theorem d_K_add_47 : decode b_K_add 47 = .ok (.iconst 1, 1) := by decide +kernel
theorem d_K_add_48 : decode b_K_add 48 = .ok (.iadd, 1) := by decide +kernel
theorem d_K_add_49 : decode b_K_add 49 = .ok (.putfield 35, 3) := by decide +kernel
theorem d_K_add_52 : decode b_K_add 52 = .ok (.return_, 1) := by decide +kernel
set_option maxHeartbeats 4000000 in
set_option maxRecDepth 100000 in
theorem c_K_add (l : Launch) (dC : Nat → ClassId) (dI : Nat → Nat → Nat) (kA : Nat → ClassId) (sz : Nat) (ko : Nat) (la : Nat) (kn : Int) (ga : Nat) (gb : Nat) (gc : Nat) (kz : Int) (gk : Nat → Int) (gs : Nat → Int) (ge : Nat → Int) (a0 : Int) (a1 : Int) (a2 : Int) (hz : 0 ≤ kz ∧ kz < 100) (ha : -2147483648 ≤ a0 ∧ a0 < 2147483648) : Met l y_K_add (wsy y_K_add b_K_add 4 none) (rmd 0 0 0) (li_Pr (dC, dI) CL (TY kA) [.ref ko, .int (iI a0), .int (iI a1), .int (iI a2)] (fun h => h.size = sz ∧ va_P (dC, dI) CL [(ko, .inr (8, [.ref la, .int (iI kn), .ref ga, .ref gb, .ref gc, .int (iI kz)])), (ga, .inl (kA 0, 100, .inl (aI gk))), (gb, .inl (kA 0, 100, .inl (aI gs))), (gc, .inl (kA 0, 100, .inl (aI ge)))] h ∧ va_D (fun q => dI 100 0 ≤ q) [(ko, .inr (8, [.ref la, .int (iI kn), .ref ga, .ref gb, .ref gc, .int (iI kz)])), (ga, .inl (kA 0, 100, .inl (aI gk))), (gb, .inl (kA 0, 100, .inl (aI gs))), (gc, .inl (kA 0, 100, .inl (aI ge)))] ∧ (fun _ => True) h)) (li_Qw (S := Unit) (dC, dI) CL (fun _ => True) (fun _ => none) (fun _ => [(ko, .inr (8, [.ref la, .int (iI kn), .ref ga, .ref gb, .ref gc, .int (iI (kz + 1))])), (ga, .inl (kA 0, 100, .inl (aI (va_up gk kz.toNat a0)))), (gb, .inl (kA 0, 100, .inl (aI (va_up gs kz.toNat a1)))), (gc, .inl (kA 0, 100, .inl (aI (va_up ge kz.toNat a2))))]) (va_A [(ko, .inr (8, [.ref la, .int (iI kn), .ref ga, .ref gb, .ref gc, .int (iI kz)])), (ga, .inl (kA 0, 100, .inl (aI gk))), (gb, .inl (kA 0, 100, .inl (aI gs))), (gc, .inl (kA 0, 100, .inl (aI ge)))] sz)) 0 0 (va_A [(ko, .inr (8, [.ref la, .int (iI kn), .ref ga, .ref gb, .ref gc, .int (iI kz)])), (ga, .inl (kA 0, 100, .inl (aI gk))), (gb, .inl (kA 0, 100, .inl (aI gs))), (gc, .inl (kA 0, 100, .inl (aI ge)))] sz) := by
  refine li_mwv (by decide) (Nat.le_of_ble_eq_true rfl) ?_
  intro p e s m args below meth c Q A C hP hD hBx hK hN hG hA hAi hAN fin ls hl
  obtain ⟨hx, hb, hr, hml, hown, hts, hlocks, hin⟩ := C
  have hown : s.vm.findClass R_K = some m.cls := hown
  have hl : lv_has ls 4 [(0, .ref ko), (1, .int (iI a0)), (2, .int (iI a1)), (3, .int (iI a2))] := hl
  suffices h9 : ∀ (H : Heap) (locs : List Loc), H = s.heap → locs = [] → W p l e (rmd 0 0 0) s m args below meth c H locs 0 0 Q (F0 m 0 ls []) from h9 _ _ rfl rfl
  intro H locs eH eL
  have hP : va_P (dC, dI) CL [(ko, .inr (8, [.ref la, .int (iI kn), .ref ga, .ref gb, .ref gc, .int (iI kz)])), (ga, .inl (kA 0, 100, .inl (aI gk))), (gb, .inl (kA 0, 100, .inl (aI gs))), (gc, .inl (kA 0, 100, .inl (aI ge)))] H := by rw [eH]; exact hP
  have hS : va_S A s.heap H locs := by rw [eH, eL]; exact va_S.rf
  refine lv_aload_n hx hb d_K_add_0 rfl (lv_at hl 0 rfl) ?_
  refine gf_K_35 hx hb hts hown hK hP 0 rfl rfl d_K_add_1 ?_
  refine lv_aload_n hx hb d_K_add_4 rfl (lv_at hl 0 rfl) ?_
  refine gf_K_15 hx hb hts hown hK hP 0 rfl rfl d_K_add_5 ?_
  refine li_alen hx hb hK hP 1 0 rfl rfl d_K_add_8 ?_
  refine li_icmp_ge (tgt := 52) hx hb d_K_add_9 (by decide) (by omega) (by omega) (fun c1 => ?_) (fun c1 => ?_)
  · have _q := c1
    exact absurd c1 (by omega)
  · have _q := c1
    refine lv_aload_n hx hb d_K_add_12 rfl (lv_at hl 0 rfl) ?_
    refine gf_K_15 hx hb hts hown hK hP 0 rfl rfl d_K_add_13 ?_
    refine lv_aload_n hx hb d_K_add_16 rfl (lv_at hl 0 rfl) ?_
    refine gf_K_35 hx hb hts hown hK hP 0 rfl rfl d_K_add_17 ?_
    refine lv_iload_n hx hb d_K_add_20 rfl (lv_at hl 1 rfl) ?_
    refine li_iast hx hb hK hP hD hS 1 0 rfl rfl (by omega) (by omega) (by omega) d_K_add_21 (fun H locs hP hD hS => ?_)
    have hP : va_P (dC, dI) CL [(ko, .inr (8, [.ref la, .int (iI kn), .ref ga, .ref gb, .ref gc, .int (iI kz)])), (ga, .inl (kA 0, 100, .inl (aI (va_up gk kz.toNat a0)))), (gb, .inl (kA 0, 100, .inl (aI gs))), (gc, .inl (kA 0, 100, .inl (aI ge)))] H := hP
    have hD : va_D A [(ko, .inr (8, [.ref la, .int (iI kn), .ref ga, .ref gb, .ref gc, .int (iI kz)])), (ga, .inl (kA 0, 100, .inl (aI (va_up gk kz.toNat a0)))), (gb, .inl (kA 0, 100, .inl (aI gs))), (gc, .inl (kA 0, 100, .inl (aI ge)))] := hD
    refine lv_aload_n hx hb d_K_add_22 rfl (lv_at hl 0 rfl) ?_
    refine gf_K_19 hx hb hts hown hK hP 0 rfl rfl d_K_add_23 ?_
    refine lv_aload_n hx hb d_K_add_26 rfl (lv_at hl 0 rfl) ?_
    refine gf_K_35 hx hb hts hown hK hP 0 rfl rfl d_K_add_27 ?_
    refine lv_iload_n hx hb d_K_add_30 rfl (lv_at hl 2 rfl) ?_
    refine li_iast hx hb hK hP hD hS 2 0 rfl rfl (by omega) (by omega) (by omega) d_K_add_31 (fun H locs hP hD hS => ?_)
    have hP : va_P (dC, dI) CL [(ko, .inr (8, [.ref la, .int (iI kn), .ref ga, .ref gb, .ref gc, .int (iI kz)])), (ga, .inl (kA 0, 100, .inl (aI (va_up gk kz.toNat a0)))), (gb, .inl (kA 0, 100, .inl (aI (va_up gs kz.toNat a1)))), (gc, .inl (kA 0, 100, .inl (aI ge)))] H := hP
    have hD : va_D A [(ko, .inr (8, [.ref la, .int (iI kn), .ref ga, .ref gb, .ref gc, .int (iI kz)])), (ga, .inl (kA 0, 100, .inl (aI (va_up gk kz.toNat a0)))), (gb, .inl (kA 0, 100, .inl (aI (va_up gs kz.toNat a1)))), (gc, .inl (kA 0, 100, .inl (aI ge)))] := hD
    refine lv_aload_n hx hb d_K_add_32 rfl (lv_at hl 0 rfl) ?_
    refine gf_K_22 hx hb hts hown hK hP 0 rfl rfl d_K_add_33 ?_
    refine lv_aload_n hx hb d_K_add_36 rfl (lv_at hl 0 rfl) ?_
    refine gf_K_35 hx hb hts hown hK hP 0 rfl rfl d_K_add_37 ?_
    refine lv_iload_n hx hb d_K_add_40 rfl (lv_at hl 3 rfl) ?_
    refine li_iast hx hb hK hP hD hS 3 0 rfl rfl (by omega) (by omega) (by omega) d_K_add_41 (fun H locs hP hD hS => ?_)
    have hP : va_P (dC, dI) CL [(ko, .inr (8, [.ref la, .int (iI kn), .ref ga, .ref gb, .ref gc, .int (iI kz)])), (ga, .inl (kA 0, 100, .inl (aI (va_up gk kz.toNat a0)))), (gb, .inl (kA 0, 100, .inl (aI (va_up gs kz.toNat a1)))), (gc, .inl (kA 0, 100, .inl (aI (va_up ge kz.toNat a2))))] H := hP
    have hD : va_D A [(ko, .inr (8, [.ref la, .int (iI kn), .ref ga, .ref gb, .ref gc, .int (iI kz)])), (ga, .inl (kA 0, 100, .inl (aI (va_up gk kz.toNat a0)))), (gb, .inl (kA 0, 100, .inl (aI (va_up gs kz.toNat a1)))), (gc, .inl (kA 0, 100, .inl (aI (va_up ge kz.toNat a2))))] := hD
    refine lv_aload_n hx hb d_K_add_42 rfl (lv_at hl 0 rfl) ?_
    refine lv_dup hx hb d_K_add_43 rfl ?_
    refine gf_K_35 hx hb hts hown hK hP 0 rfl rfl d_K_add_44 ?_
    refine lv_iconst (v := iI 1) hx hb d_K_add_47 rfl ?_
    refine li_iadd hx hb d_K_add_48 ?_
    refine li_nm (fun x2 ex2 => ?_)
    refine pf_K_35 hx hb hts hown hK hP hD hS 0 rfl (Nat.le_of_ble_eq_true rfl) d_K_add_49 (fun H locs hP hD hS => ?_)
    have hP : va_P (dC, dI) CL [(ko, .inr (8, [.ref la, .int (iI kn), .ref ga, .ref gb, .ref gc, .int (iI x2)])), (ga, .inl (kA 0, 100, .inl (aI (va_up gk kz.toNat a0)))), (gb, .inl (kA 0, 100, .inl (aI (va_up gs kz.toNat a1)))), (gc, .inl (kA 0, 100, .inl (aI (va_up ge kz.toNat a2))))] H := hP
    have hD : va_D A [(ko, .inr (8, [.ref la, .int (iI kn), .ref ga, .ref gb, .ref gc, .int (iI x2)])), (ga, .inl (kA 0, 100, .inl (aI (va_up gk kz.toNat a0)))), (gb, .inl (kA 0, 100, .inl (aI (va_up gs kz.toNat a1)))), (gc, .inl (kA 0, 100, .inl (aI (va_up ge kz.toNat a2))))] := hD
    exact fin () _ _ _ _ (by trivial) (by first | exact hP | (subst_vars; exact hP)) (by first | exact hD | (subst_vars; exact hD)) hS d_K_add_52
theorem d_K_read_0 : decode b_K_read 0 = .ok (.aload_n 0, 1) := by decide +kernel
theorem d_K_read_1 : decode b_K_read 1 = .ok (.aload_n 1, 1) := by decide +kernel
theorem d_K_read_2 : decode b_K_read 2 = .ok (.putfield 9, 3) := by decide +kernel
theorem d_K_read_5 : decode b_K_read 5 = .ok (.aload_n 0, 1) := by decide +kernel
theorem d_K_read_6 : decode b_K_read 6 = .ok (.iload_n 2, 1) := by decide +kernel
theorem d_K_read_7 : decode b_K_read 7 = .ok (.aload_n 1, 1) := by decide +kernel
theorem d_K_read_8 : decode b_K_read 8 = .ok (.arraylength, 1) := by decide +kernel
theorem d_K_read_9 : decode b_K_read 9 = .ok (.invokestatic 25, 3) := by decide +kernel
theorem d_K_read_12 : decode b_K_read 12 = .ok (.putfield 31, 3) := by decide +kernel
theorem d_K_read_15 : decode b_K_read 15 = .ok (.aload_n 0, 1) := by decide +kernel
theorem d_K_read_16 : decode b_K_read 16 = .ok (.iconst 0, 1) := by decide +kernel
theorem d_K_read_17 : decode b_K_read 17 = .ok (.putfield 35, 3) := by decide +kernel
theorem d_K_read_20 : decode b_K_read 20 = .ok (.iconst 0, 1) := by decide +kernel
theorem d_K_read_21 : decode b_K_read 21 = .ok (.istore_n 3, 1) := by decide +kernel
theorem d_K_read_22 : decode b_K_read 22 = .ok (.iload_n 3, 1) := by decide +kernel
theorem d_K_read_23 : decode b_K_read 23 = .ok (.aload_n 0, 1) := by decide +kernel
theorem d_K_read_24 : decode b_K_read 24 = .ok (.getfield 31, 3) := by decide +kernel
theorem d_K_read_27 : decode b_K_read 27 = .ok (.if_icmp .ge 53, 3) := by decide +kernel
theorem d_K_read_30 : decode b_K_read 30 = .ok (.aload_n 0, 1) := by decide +kernel
theorem d_K_read_31 : decode b_K_read 31 = .ok (.getfield 9, 3) := by decide +kernel
theorem d_K_read_34 : decode b_K_read 34 = .ok (.iload_n 3, 1) := by decide +kernel
theorem d_K_read_35 : decode b_K_read 35 = .ok (.caload, 1) := by decide +kernel
theorem d_K_read_36 : decode b_K_read 36 = .ok (.bipush 32, 2) := by decide +kernel
theorem d_K_read_38 : decode b_K_read 38 = .ok (.if_icmp .ne 9, 3) := by decide +kernel
theorem d_K_read_41 : decode b_K_read 41 = .ok (.iinc 3 1, 3) := by decide +kernel
theorem d_K_read_44 : decode b_K_read 44 = .ok (.goto (-22), 3) := by decide +kernel
theorem d_K_read_47 : decode b_K_read 47 = .ok (.iload_n 3, 1) := by decide +kernel
theorem d_K_read_48 : decode b_K_read 48 = .ok (.iconst 1, 1) := by decide +kernel
theorem d_K_read_49 : decode b_K_read 49 = .ok (.iadd, 1) := by decide +kernel
theorem d_K_read_50 : decode b_K_read 50 = .ok (.aload_n 0, 1) := by decide +kernel
theorem d_K_read_51 : decode b_K_read 51 = .ok (.iload_n 3, 1) := by decide +kernel
theorem d_K_read_52 : decode b_K_read 52 = .ok (.invokevirtual 38, 3) := by decide +kernel
theorem d_K_read_55 : decode b_K_read 55 = .ok (.invokestatic 42, 3) := by decide +kernel
theorem d_K_read_58 : decode b_K_read 58 = .ok (.istore 4, 2) := by decide +kernel
theorem d_K_read_60 : decode b_K_read 60 = .ok (.aload_n 0, 1) := by decide +kernel
theorem d_K_read_61 : decode b_K_read 61 = .ok (.aload_n 0, 1) := by decide +kernel
theorem d_K_read_62 : decode b_K_read 62 = .ok (.iload_n 3, 1) := by decide +kernel
theorem d_K_read_63 : decode b_K_read 63 = .ok (.iload 4, 2) := by decide +kernel
theorem d_K_read_65 : decode b_K_read 65 = .ok (.invokevirtual 45, 3) := by decide +kernel
theorem d_K_read_68 : decode b_K_read 68 = .ok (.iload_n 3, 1) := by decide +kernel
theorem d_K_read_69 : decode b_K_read 69 = .ok (.iload 4, 2) := by decide +kernel
theorem d_K_read_71 : decode b_K_read 71 = .ok (.invokevirtual 48, 3) := by decide +kernel
theorem d_K_read_74 : decode b_K_read 74 = .ok (.iload 4, 2) := by decide +kernel
theorem d_K_read_76 : decode b_K_read 76 = .ok (.istore_n 3, 1) := by decide +kernel
theorem d_K_read_77 : decode b_K_read 77 = .ok (.goto (-55), 3) := by decide +kernel
theorem d_K_read_80 : decode b_K_read 80 = .ok (.return_, 1) := by decide +kernel
set_option maxHeartbeats 4000000 in
set_option maxRecDepth 100000 in
theorem c_K_read (l : Launch) (dC : Nat → ClassId) (dI : Nat → Nat → Nat) (kA : Nat → ClassId) (sz : Nat) (ko : Nat) (la : Nat) (nl : Nat) (lc : Nat → Int) (kn : Int) (ga : Nat) (gb : Nat) (gc : Nat) (kz : Int) (gk : Nat → Int) (gs : Nat → Int) (ge : Nat → Int) (b0 : Nat) (n0 : Int) (hKR : KR nl lc kn kz gk gs ge) : Met l y_K_read (wsy y_K_read b_K_read 5 none) (rmd 7 0 0) (li_Pr (dC, dI) CL (TY kA) [.ref ko, .ref la, .int (iI kn)] (fun h => h.size = sz ∧ va_P (dC, dI) CL [(ko, .inr (8, [.ref b0, .int (iI n0), .ref ga, .ref gb, .ref gc, .int (iI kz)])), (ga, .inl (kA 0, 100, .inl (aI gk))), (gb, .inl (kA 0, 100, .inl (aI gs))), (gc, .inl (kA 0, 100, .inl (aI ge)))] h ∧ va_D (fun q => dI 100 0 ≤ q) [(ko, .inr (8, [.ref b0, .int (iI n0), .ref ga, .ref gb, .ref gc, .int (iI kz)])), (ga, .inl (kA 0, 100, .inl (aI gk))), (gb, .inl (kA 0, 100, .inl (aI gs))), (gc, .inl (kA 0, 100, .inl (aI ge)))] ∧ (fun h => va_P (dC, dI) CL [(la, .inl (kA 1, nl, .inl (aI lc)))] h ∧ Dsj [(la, .inl (kA 1, nl, .inl (aI lc)))] [(ko, .inr (8, [.ref b0, .int (iI n0), .ref ga, .ref gb, .ref gc, .int (iI kz)])), (ga, .inl (kA 0, 100, .inl (aI gk))), (gb, .inl (kA 0, 100, .inl (aI gs))), (gc, .inl (kA 0, 100, .inl (aI ge)))]) h)) (li_Qw (S := Unit) (dC, dI) CL (fun _ => KR nl lc kn (tkF lc kn gk gs ge).1 (tkF lc kn gk gs ge).2.1 (tkF lc kn gk gs ge).2.2.1 (tkF lc kn gk gs ge).2.2.2) (fun _ => none) (fun _ => [(ko, .inr (8, [.ref la, .int (iI kn), .ref ga, .ref gb, .ref gc, .int (iI ((tkF lc kn gk gs ge).1))])), (ga, .inl (kA 0, 100, .inl (aI ((tkF lc kn gk gs ge).2.1)))), (gb, .inl (kA 0, 100, .inl (aI ((tkF lc kn gk gs ge).2.2.1)))), (gc, .inl (kA 0, 100, .inl (aI ((tkF lc kn gk gs ge).2.2.2))))]) (va_A [(ko, .inr (8, [.ref b0, .int (iI n0), .ref ga, .ref gb, .ref gc, .int (iI kz)])), (ga, .inl (kA 0, 100, .inl (aI gk))), (gb, .inl (kA 0, 100, .inl (aI gs))), (gc, .inl (kA 0, 100, .inl (aI ge)))] sz)) 0 0 (va_A [(ko, .inr (8, [.ref b0, .int (iI n0), .ref ga, .ref gb, .ref gc, .int (iI kz)])), (ga, .inl (kA 0, 100, .inl (aI gk))), (gb, .inl (kA 0, 100, .inl (aI gs))), (gc, .inl (kA 0, 100, .inl (aI ge)))] sz) := by
  refine li_mwv (by decide) (Nat.le_of_ble_eq_true rfl) ?_
  intro p e s m args below meth c Q A C hP hD hBx hK hN hG hA hAi hAN fin ls hl
  obtain ⟨hx, hb, hr, hml, hown, hts, hlocks, hin⟩ := C
  have hown : s.vm.findClass R_K = some m.cls := hown
  obtain ⟨hRo, hDj⟩ := hBx
  have hRo : va_P (dC, dI) CL [(la, .inl (kA 1, nl, .inl (aI lc)))] s.heap := hRo
  have hRoN := li_roN (A := A) hRo hDj hAi
  have hl : lv_has ls 5 [(0, .ref ko), (1, .ref la), (2, .int (iI kn))] := hl
  obtain ⟨hnl, hkn, hkz, hlc, hgk, hgs, hge⟩ := id hKR
  have K_22 : ∀ (nn : Nat) (x : Int) (f : Nat) (vz : Int) (vk : Nat → Int) (vs : Nat → Int) (ve : Nat → Int), (0 ≤ x ∧ x ≤ kn ∧ 0 ≤ vz ∧ vz ≤ x) → ((kn - x).toNat < f) → (KR nl lc kn vz vk vs ve) → (tkL lc kn f x (vz, vk, vs, ve) = tkF lc kn gk gs ge) → ((kn - x).toNat < nn) → ∀ (H : Heap) (locs : List Loc), va_P (dC, dI) CL [(ko, .inr (8, [.ref la, .int (iI kn), .ref ga, .ref gb, .ref gc, .int (iI vz)])), (ga, .inl (kA 0, 100, .inl (aI vk))), (gb, .inl (kA 0, 100, .inl (aI vs))), (gc, .inl (kA 0, 100, .inl (aI ve)))] H → va_D A [(ko, .inr (8, [.ref la, .int (iI kn), .ref ga, .ref gb, .ref gc, .int (iI vz)])), (ga, .inl (kA 0, 100, .inl (aI vk))), (gb, .inl (kA 0, 100, .inl (aI vs))), (gc, .inl (kA 0, 100, .inl (aI ve)))] → va_S A s.heap H locs → ∀ ls : Array Slot, lv_has ls 5 [(0, .ref ko), (1, .ref la), (2, .int (iI kn)), (3, .int (iI x))] → W p l e (rmd 7 0 0) s m args below meth c H locs 0 0 Q (F0 m 22 ls []) := by
    intro nn
    induction nn with
    | zero => intro x f vz vk vs ve hx9 hff hKc hres hm; exact absurd hm (Nat.not_lt_zero _)
    | succ nn ih =>
      intro x f vz vk vs ve hx9 hff hKc hres hm H locs hP hD hS ls hl
      obtain ⟨_, _, hvz, _, hvk, hvs, hve⟩ := id hKc
      obtain ⟨g, rfl⟩ : ∃ g, f = g + 1 := ⟨f - 1, by omega⟩
      refine lv_iload_n hx hb d_K_read_22 rfl (lv_at hl 3 rfl) ?_
      refine lv_aload_n hx hb d_K_read_23 rfl (lv_at hl 0 rfl) ?_
      refine gf_K_31 hx hb hts hown hK hP 0 rfl rfl d_K_read_24 ?_
      refine li_icmp_ge (tgt := 80) hx hb d_K_read_27 (by decide) (by omega) (by omega) (fun c1 => ?_) (fun c1 => ?_)
      · have _q := c1
        simp only [tkL] at hres
        rw [if_pos (by assumption)] at hres
        exact fin () _ _ _ _ (by rw [← hres]; exact hKc) (by rw [← hres]; exact hP) (by rw [← hres]; exact hD) hS d_K_read_80
      · have _q := c1
        refine lv_aload_n hx hb d_K_read_30 rfl (lv_at hl 0 rfl) ?_
        refine gf_K_9 hx hb hts hown hK hP 0 rfl rfl d_K_read_31 ?_
        refine lv_iload_n hx hb d_K_read_34 rfl (lv_at hl 3 rfl) ?_
        refine li_cald hx hb hK (li_ro hRo hRoN hS) 0 1 rfl rfl (by omega) (by omega) (by omega) d_K_read_35 ?_
        have f2 := hlc x.toNat
        refine lv_bipush (v := iI 32) hx hb d_K_read_36 (by decide) ?_
        refine li_icmp_ne (tgt := 47) hx hb d_K_read_38 (by decide) (by omega) (by omega) (fun c3 => ?_) (fun c3 => ?_)
        · have _q := c3
          simp only [tkL] at hres
          rw [if_neg (by omega), if_neg (by assumption)] at hres
          have het := etF_r (lc := lc) (kn := kn) (x := x) (by omega)
          have hko := koF_r (lc := lc) (kn := kn) (st := x) (en := max (x + 1) (etF lc kn x))
          refine lv_iload_n hx hb d_K_read_47 rfl (lv_at hl 3 rfl) ?_
          refine lv_iconst (v := iI 1) hx hb d_K_read_48 rfl ?_
          refine li_iadd hx hb d_K_read_49 ?_
          refine lv_aload_n hx hb d_K_read_50 rfl (lv_at hl 0 rfl) ?_
          refine lv_iload_n hx hb d_K_read_51 rfl (lv_at hl 3 rfl) ?_
          refine li_callr ((va_runV (As := [.int (iI x)]) (rest := [.int (iI (x + 1))]) ⟨hx, hb, hml, hown, hts⟩ (c_K_endOfToken l dC dI kA ko la nl lc kn ga gb gc vz vk vs ve x (by exact ⟨hnl, hkn, hvz, hlc, hvk, hvs, hve⟩) (by omega)) (cw_K_38 hts rfl rfl ⟨Nat.le_of_ble_eq_true rfl, Nat.le_of_ble_eq_true rfl⟩) (li_preV (va_recv hK hP (ci := 8) (q0 := 0) rfl rfl) (va_P.app (hP.sub [0] rfl) (va_P.app (hP.sub [1] rfl) (va_P.app (hP.sub [2] rfl) (va_P.app (hP.sub [3] rfl) ((li_ro hRo hRoN hS).sub [0] rfl))))) hK hN (hG.go hS hAN)) rfl rfl hl.1 rfl (lv_room (Nat.le_of_ble_eq_true rfl)) d_K_read_52 ⟨(by show 0 + 0 ≤ 0; omega), (by show 0 + 0 ≤ 0; omega)⟩).run) ?_
          refine li_mmax hx hb (hml.trans hl.1.symm) hown (hts (Cond.methodLink R_K 42 Lib.Math.max.name) (tk3 82 rfl rfl)) (hts (Cond.static Lib.Math.max.name) (tk1 184 rfl rfl)) (hts (Cond.initialized "java/lang/Math") (tk1 8 rfl rfl)) (hts (Cond.code Lib.Math.max.name Lib.Math.max.code 2 (some .int)) (tk1 185 rfl rfl)) (Nat.le_of_ble_eq_true rfl) (Nat.le_of_ble_eq_true rfl) (by show 0 ≤ 0; omega) (by show 0 ≤ 0; omega) (by omega) (by omega) d_K_read_55 ?_
          refine li_nm (fun zd ezd => ?_)
          refine lv_istore (lv' := [(4, .int (iI zd)), (0, .ref ko), (1, .ref la), (2, .int (iI kn)), (3, .int (iI x))]) hx hb d_K_read_58 hl (by decide) rfl (fun ls hl => ?_)
          rw [← ezd] at hres hko
          refine lv_aload_n hx hb d_K_read_60 rfl (lv_at hl 1 rfl) ?_
          refine lv_aload_n hx hb d_K_read_61 rfl (lv_at hl 1 rfl) ?_
          refine lv_iload_n hx hb d_K_read_62 rfl (lv_at hl 4 rfl) ?_
          refine lv_iload hx hb d_K_read_63 (lv_at hl 0 rfl) ?_
          refine li_callr ((va_runV (As := [.int (iI x), .int (iI zd)]) (rest := [.ref ko]) ⟨hx, hb, hml, hown, hts⟩ (c_K_kindOf l dC dI kA ko la nl lc kn ga gb gc vz vk vs ve x zd (by exact ⟨hnl, hkn, hvz, hlc, hvk, hvs, hve⟩) (by omega)) (cw_K_45 hts rfl rfl ⟨Nat.le_of_ble_eq_true rfl, Nat.le_of_ble_eq_true rfl⟩) (li_preV (va_recv hK hP (ci := 8) (q0 := 0) rfl rfl) (va_P.app (hP.sub [0] rfl) (va_P.app (hP.sub [1] rfl) (va_P.app (hP.sub [2] rfl) (va_P.app (hP.sub [3] rfl) ((li_ro hRo hRoN hS).sub [0] rfl))))) hK hN (hG.go hS hAN)) rfl rfl hl.1 rfl (lv_room (Nat.le_of_ble_eq_true rfl)) d_K_read_65 ⟨(by show 0 + 0 ≤ 0; omega), (by show 0 + 0 ≤ 0; omega)⟩).run) ?_
          refine lv_iload_n hx hb d_K_read_68 rfl (lv_at hl 4 rfl) ?_
          refine lv_iload hx hb d_K_read_69 (lv_at hl 0 rfl) ?_
          refine li_callw (wc := [(ko, .inr (8, [.ref la, .int (iI kn), .ref ga, .ref gb, .ref gc, .int (iI vz)])), (ga, .inl (kA 0, 100, .inl (aI vk))), (gb, .inl (kA 0, 100, .inl (aI vs))), (gc, .inl (kA 0, 100, .inl (aI ve)))]) (wr := []) (va_runV (As := [.int (iI (koF lc kn x zd)), .int (iI x), .int (iI zd)]) (rest := []) ⟨hx, hb, hml, hown, hts⟩ (c_K_add l dC dI kA H.size ko la kn ga gb gc vz vk vs ve (koF lc kn x zd) x zd (by omega) (by omega)) (cw_K_48 hts rfl rfl ⟨Nat.le_of_ble_eq_true rfl, Nat.le_of_ble_eq_true rfl⟩) (li_preV (va_recv hK hP (ci := 8) (q0 := 0) rfl rfl) ⟨rfl, hP.sub [0, 1, 2, 3] rfl, (hD.sub [0, 1, 2, 3] (by decide) rfl).weaken (fun _ _ _ h => hAN _ h), trivial⟩ hK hN (hG.go hS hAN)) rfl rfl hl.1 rfl (lv_room (Nat.le_of_ble_eq_true rfl)) d_K_read_71 ⟨(by show 0 + 0 ≤ 0; omega), (by show 0 + 0 ≤ 0; omega)⟩) hP hD hS hA [0, 1, 2, 3] [] rfl rfl (by decide) (by decide) (fun u4 H locs hu4 hP hD hS _hk => ?_)
          have hP : va_P (dC, dI) CL [(ko, .inr (8, [.ref la, .int (iI kn), .ref ga, .ref gb, .ref gc, .int (iI (vz + 1))])), (ga, .inl (kA 0, 100, .inl (aI (va_up vk vz.toNat (koF lc kn x zd))))), (gb, .inl (kA 0, 100, .inl (aI (va_up vs vz.toNat x)))), (gc, .inl (kA 0, 100, .inl (aI (va_up ve vz.toNat zd))))] H := hP
          have hD : va_D A [(ko, .inr (8, [.ref la, .int (iI kn), .ref ga, .ref gb, .ref gc, .int (iI (vz + 1))])), (ga, .inl (kA 0, 100, .inl (aI (va_up vk vz.toNat (koF lc kn x zd))))), (gb, .inl (kA 0, 100, .inl (aI (va_up vs vz.toNat x)))), (gc, .inl (kA 0, 100, .inl (aI (va_up ve vz.toNat zd))))] := hD
          refine lv_iload hx hb d_K_read_74 (lv_at hl 0 rfl) ?_
          refine lv_istore_n (lv' := [(3, .int (iI zd)), (4, .int (iI zd)), (0, .ref ko), (1, .ref la), (2, .int (iI kn))]) hx hb d_K_read_76 rfl hl (by decide) rfl (fun ls hl => ?_)
          refine lv_goto (tgt := 22) hx hb d_K_read_77 (by decide) ?_
          exact ih zd g (vz + 1) (va_up vk vz.toNat (koF lc kn x zd)) (va_up vs vz.toNat x) (va_up ve vz.toNat zd) (by first | omega | (subst_vars; omega)) (by first | omega | (subst_vars; omega)) (by first | exact ⟨hnl, hkn, by omega, hlc, hgk, hgs, hge⟩ | exact hKc | exact ⟨hnl, hkn, by omega, hlc, up_r hvk (by omega), up_r hvs (by omega), up_r hve (by omega)⟩) (by first | rfl | exact hres | (subst_vars; exact hres)) (by first | omega | (subst_vars; omega)) _ _ hP hD hS _ (lv_sub hl [2, 3, 4, 0] rfl)
        · have _q := c3
          simp only [tkL] at hres
          rw [if_neg (by omega), if_pos (by assumption)] at hres
          obtain ⟨x_1, ex_1⟩ : ∃ y_9 : Int, y_9 = x + 1 := ⟨_, rfl⟩
          refine lv_iinc (v := iI x_1) (lv' := [(3, .int (iI x_1)), (0, .ref ko), (1, .ref la), (2, .int (iI kn))]) hx hb d_K_read_41 hl (k := 3) rfl (by rw [ex_1]; exact iI_add _ _) (by decide) rfl (fun ls hl => ?_)
          refine lv_goto (tgt := 22) hx hb d_K_read_44 (by decide) ?_
          exact ih x_1 g vz vk vs ve (by first | omega | (subst_vars; omega)) (by first | omega | (subst_vars; omega)) (by first | exact ⟨hnl, hkn, by omega, hlc, hgk, hgs, hge⟩ | exact hKc | exact ⟨hnl, hkn, by omega, hlc, up_r hvk (by omega), up_r hvs (by omega), up_r hve (by omega)⟩) (by first | rfl | exact hres | (subst_vars; exact hres)) (by first | omega | (subst_vars; omega)) _ _ hP hD hS _ (lv_sub hl [1, 2, 3, 0] rfl)
  suffices h9 : ∀ (H : Heap) (locs : List Loc), H = s.heap → locs = [] → W p l e (rmd 7 0 0) s m args below meth c H locs 0 0 Q (F0 m 0 ls []) from h9 _ _ rfl rfl
  intro H locs eH eL
  have hP : va_P (dC, dI) CL [(ko, .inr (8, [.ref b0, .int (iI n0), .ref ga, .ref gb, .ref gc, .int (iI kz)])), (ga, .inl (kA 0, 100, .inl (aI gk))), (gb, .inl (kA 0, 100, .inl (aI gs))), (gc, .inl (kA 0, 100, .inl (aI ge)))] H := by rw [eH]; exact hP
  have hS : va_S A s.heap H locs := by rw [eH, eL]; exact va_S.rf
  refine lv_aload_n hx hb d_K_read_0 rfl (lv_at hl 0 rfl) ?_
  refine lv_aload_n hx hb d_K_read_1 rfl (lv_at hl 1 rfl) ?_
  refine pf_K_9 hx hb hts hown hK hP hD hS 0 rfl (Nat.le_of_ble_eq_true rfl) d_K_read_2 (fun H locs hP hD hS => ?_)
  have hP : va_P (dC, dI) CL [(ko, .inr (8, [.ref la, .int (iI n0), .ref ga, .ref gb, .ref gc, .int (iI kz)])), (ga, .inl (kA 0, 100, .inl (aI gk))), (gb, .inl (kA 0, 100, .inl (aI gs))), (gc, .inl (kA 0, 100, .inl (aI ge)))] H := hP
  have hD : va_D A [(ko, .inr (8, [.ref la, .int (iI n0), .ref ga, .ref gb, .ref gc, .int (iI kz)])), (ga, .inl (kA 0, 100, .inl (aI gk))), (gb, .inl (kA 0, 100, .inl (aI gs))), (gc, .inl (kA 0, 100, .inl (aI ge)))] := hD
  refine lv_aload_n hx hb d_K_read_5 rfl (lv_at hl 0 rfl) ?_
  refine lv_iload_n hx hb d_K_read_6 rfl (lv_at hl 2 rfl) ?_
  refine lv_aload_n hx hb d_K_read_7 rfl (lv_at hl 1 rfl) ?_
  refine li_alen hx hb hK (li_ro hRo hRoN hS) 0 1 rfl rfl d_K_read_8 ?_
  refine li_mmin hx hb (hml.trans hl.1.symm) hown (hts (Cond.methodLink R_K 25 Lib.Math.min.name) (tk3 63 rfl rfl)) (hts (Cond.static Lib.Math.min.name) (tk2 85 rfl rfl)) (hts (Cond.initialized "java/lang/Math") (tk1 8 rfl rfl)) (hts (Cond.code Lib.Math.min.name Lib.Math.min.code 2 (some .int)) (tk2 86 rfl rfl)) (Nat.le_of_ble_eq_true rfl) (Nat.le_of_ble_eq_true rfl) (by show 0 ≤ 0; omega) (by show 0 ≤ 0; omega) (by omega) (by omega) d_K_read_9 ?_
  refine li_nm (fun km ekm => ?_)
  refine pf_K_31 hx hb hts hown hK hP hD hS 0 rfl (Nat.le_of_ble_eq_true rfl) d_K_read_12 (fun H locs hP hD hS => ?_)
  have hP : va_P (dC, dI) CL [(ko, .inr (8, [.ref la, .int (iI km), .ref ga, .ref gb, .ref gc, .int (iI kz)])), (ga, .inl (kA 0, 100, .inl (aI gk))), (gb, .inl (kA 0, 100, .inl (aI gs))), (gc, .inl (kA 0, 100, .inl (aI ge)))] H := hP
  have hD : va_D A [(ko, .inr (8, [.ref la, .int (iI km), .ref ga, .ref gb, .ref gc, .int (iI kz)])), (ga, .inl (kA 0, 100, .inl (aI gk))), (gb, .inl (kA 0, 100, .inl (aI gs))), (gc, .inl (kA 0, 100, .inl (aI ge)))] := hD
  have ekm2 : kn = km := by omega
  subst ekm2
  have hP : va_P (dC, dI) CL [(ko, .inr (8, [.ref la, .int (iI kn), .ref ga, .ref gb, .ref gc, .int (iI kz)])), (ga, .inl (kA 0, 100, .inl (aI gk))), (gb, .inl (kA 0, 100, .inl (aI gs))), (gc, .inl (kA 0, 100, .inl (aI ge)))] H := hP
  have hD : va_D A [(ko, .inr (8, [.ref la, .int (iI kn), .ref ga, .ref gb, .ref gc, .int (iI kz)])), (ga, .inl (kA 0, 100, .inl (aI gk))), (gb, .inl (kA 0, 100, .inl (aI gs))), (gc, .inl (kA 0, 100, .inl (aI ge)))] := hD
  refine lv_aload_n hx hb d_K_read_15 rfl (lv_at hl 0 rfl) ?_
  refine lv_iconst (v := iI 0) hx hb d_K_read_16 rfl ?_
  refine pf_K_35 hx hb hts hown hK hP hD hS 0 rfl (Nat.le_of_ble_eq_true rfl) d_K_read_17 (fun H locs hP hD hS => ?_)
  have hP : va_P (dC, dI) CL [(ko, .inr (8, [.ref la, .int (iI kn), .ref ga, .ref gb, .ref gc, .int (iI 0)])), (ga, .inl (kA 0, 100, .inl (aI gk))), (gb, .inl (kA 0, 100, .inl (aI gs))), (gc, .inl (kA 0, 100, .inl (aI ge)))] H := hP
  have hD : va_D A [(ko, .inr (8, [.ref la, .int (iI kn), .ref ga, .ref gb, .ref gc, .int (iI 0)])), (ga, .inl (kA 0, 100, .inl (aI gk))), (gb, .inl (kA 0, 100, .inl (aI gs))), (gc, .inl (kA 0, 100, .inl (aI ge)))] := hD
  refine lv_iconst (v := iI 0) hx hb d_K_read_20 rfl ?_
  refine lv_istore_n (lv' := [(3, .int (iI 0)), (0, .ref ko), (1, .ref la), (2, .int (iI kn))]) hx hb d_K_read_21 rfl hl (by decide) rfl (fun ls hl => ?_)
  exact K_22 ((kn - 0).toNat + 1) 0 200 0 gk gs ge (by first | omega | (subst_vars; omega)) (by first | omega | (subst_vars; omega)) (by first | exact ⟨hnl, hkn, by omega, hlc, hgk, hgs, hge⟩ | exact hKc | exact ⟨hnl, hkn, by omega, hlc, up_r hvk (by omega), up_r hvs (by omega), up_r hve (by omega)⟩) (by first | rfl | exact hres | (subst_vars; exact hres)) (Nat.lt_succ_self _) _ _ hP hD hS _ (lv_sub hl [1, 2, 3, 0] rfl)
theorem d_K_init_0 : decode b_K_init 0 = .ok (.aload_n 0, 1) := by decide +kernel
theorem d_K_init_1 : decode b_K_init 1 = .ok (.invokespecial 3, 3) := by decide +kernel
theorem d_K_init_4 : decode b_K_init 4 = .ok (.aload_n 0, 1) := by decide +kernel
theorem d_K_init_5 : decode b_K_init 5 = .ok (.iconst 0, 1) := by decide +kernel
theorem d_K_init_6 : decode b_K_init 6 = .ok (.newarray .char, 2) := by decide +kernel
theorem d_K_init_8 : decode b_K_init 8 = .ok (.putfield 9, 3) := by decide +kernel
theorem d_K_init_11 : decode b_K_init 11 = .ok (.aload_n 0, 1) := by decide +kernel
theorem d_K_init_12 : decode b_K_init 12 = .ok (.bipush 100, 2) := by decide +kernel
theorem d_K_init_14 : decode b_K_init 14 = .ok (.newarray .int, 2) := by decide +kernel
theorem d_K_init_16 : decode b_K_init 16 = .ok (.putfield 15, 3) := by decide +kernel
theorem d_K_init_19 : decode b_K_init 19 = .ok (.aload_n 0, 1) := by decide +kernel
theorem d_K_init_20 : decode b_K_init 20 = .ok (.bipush 100, 2) := by decide +kernel
theorem d_K_init_22 : decode b_K_init 22 = .ok (.newarray .int, 2) := by decide +kernel
theorem d_K_init_24 : decode b_K_init 24 = .ok (.putfield 19, 3) := by decide +kernel
theorem d_K_init_27 : decode b_K_init 27 = .ok (.aload_n 0, 1) := by decide +kernel
theorem d_K_init_28 : decode b_K_init 28 = .ok (.bipush 100, 2) := by decide +kernel
theorem d_K_init_30 : decode b_K_init 30 = .ok (.newarray .int, 2) := by decide +kernel
theorem d_K_init_32 : decode b_K_init 32 = .ok (.putfield 22, 3) := by decide +kernel
theorem d_K_init_35 : decode b_K_init 35 = .ok (.return_, 1) := by decide +kernel
set_option maxHeartbeats 4000000 in
set_option maxRecDepth 100000 in
theorem c_K_init (l : Launch) (dC : Nat → ClassId) (dI : Nat → Nat → Nat) (kA : Nat → ClassId) (sz : Nat) (ko : Nat)  : Met l y_K_init (wsy y_K_init b_K_init 1 none) (rmd 1 4 300) (li_Pr (dC, dI) CL (TY kA) [.ref ko] (fun h => h.size = sz ∧ va_P (dC, dI) CL [(ko, .inr (8, [.null, .int (iI 0), .null, .null, .null, .int (iI 0)]))] h ∧ va_D (fun q => dI 100 0 ≤ q) [(ko, .inr (8, [.null, .int (iI 0), .null, .null, .null, .int (iI 0)]))] ∧ (fun _ => True) h)) (li_Qw (S := Nat × Nat × Nat × Nat) (dC, dI) CL (fun _ => True) (fun _ => none) (fun u => [(ko, .inr (8, [.ref u.1, .int (iI 0), .ref u.2.1, .ref u.2.2.1, .ref u.2.2.2, .int (iI 0)])), (u.1, .inl (kA 1, 0, .inl (aI (fun _ => 0)))), (u.2.1, .inl (kA 0, 100, .inl (aI (fun _ => 0)))), (u.2.2.1, .inl (kA 0, 100, .inl (aI (fun _ => 0)))), (u.2.2.2, .inl (kA 0, 100, .inl (aI (fun _ => 0))))]) (va_A [(ko, .inr (8, [.null, .int (iI 0), .null, .null, .null, .int (iI 0)]))] sz)) 4 300 (va_A [(ko, .inr (8, [.null, .int (iI 0), .null, .null, .null, .int (iI 0)]))] sz) := by
  refine li_mwv (by decide) (Nat.le_of_ble_eq_true rfl) ?_
  intro p e s m args below meth c Q A C hP hD hBx hK hN hG hA hAi hAN fin ls hl
  obtain ⟨hx, hb, hr, hml, hown, hts, hlocks, hin⟩ := C
  have hown : s.vm.findClass R_K = some m.cls := hown
  have hl : lv_has ls 1 [(0, .ref ko)] := hl
  have hin : meth.name = "<init>" := hin
  suffices h9 : ∀ (H : Heap) (locs : List Loc), H = s.heap → locs = [] → W p l e (rmd 1 4 300) s m args below meth c H locs 0 0 Q (F0 m 0 ls []) from h9 _ _ rfl rfl
  intro H locs eH eL
  have hP : va_P (dC, dI) CL [(ko, .inr (8, [.null, .int (iI 0), .null, .null, .null, .int (iI 0)]))] H := by rw [eH]; exact hP
  have hS : va_S A s.heap H locs := by rw [eH, eL]; exact va_S.rf
  refine lv_aload_n hx hb d_K_init_0 rfl (lv_at hl 0 rfl) ?_
  refine W.objInit hx hb hown (hts (Cond.methodLink R_K 3 Lib.objectInit) (tk1 80 rfl rfl)) (hts (Cond.instanceMethod Lib.objectInit) (tk1 31 rfl rfl)) (hts (Cond.code Lib.objectInit ⟨#[0xb1]⟩ 1 none) (tk1 32 rfl rfl)) rfl (hl.1.trans hml.symm) rfl d_K_init_1 (Nat.le_of_ble_eq_true rfl) (Nat.le_of_ble_eq_true rfl) ?_
  refine W.eq (g2 := F0 m 4 ls []) rfl ?_
  refine lv_aload_n hx hb d_K_init_4 rfl (lv_at hl 0 rfl) ?_
  refine lv_iconst (v := iI 0) hx hb d_K_init_5 rfl ?_
  refine li_newC hx hb (hts (Cond.arrayClass .char) (tk1 67 rfl rfl)) hK hP hD hS hA 1 rfl 0 (by omega) (by omega) (by show 0 + 1 ≤ 4; omega) (by show 0 + 0 ≤ 300; omega) d_K_init_6 (fun q0 H hP hD hS => ?_)
  have hP : va_P (dC, dI) CL [(ko, .inr (8, [.null, .int (iI 0), .null, .null, .null, .int (iI 0)])), (q0, .inl (kA 1, 0, .inl (aI (fun _ => 0))))] H := hP
  have hD : va_D A [(ko, .inr (8, [.null, .int (iI 0), .null, .null, .null, .int (iI 0)])), (q0, .inl (kA 1, 0, .inl (aI (fun _ => 0))))] := hD
  refine pf_K_9 hx hb hts hown hK hP hD hS 0 rfl (Nat.le_of_ble_eq_true rfl) d_K_init_8 (fun H locs hP hD hS => ?_)
  have hP : va_P (dC, dI) CL [(ko, .inr (8, [.ref q0, .int (iI 0), .null, .null, .null, .int (iI 0)])), (q0, .inl (kA 1, 0, .inl (aI (fun _ => 0))))] H := hP
  have hD : va_D A [(ko, .inr (8, [.ref q0, .int (iI 0), .null, .null, .null, .int (iI 0)])), (q0, .inl (kA 1, 0, .inl (aI (fun _ => 0))))] := hD
  refine lv_aload_n hx hb d_K_init_11 rfl (lv_at hl 0 rfl) ?_
  refine lv_bipush (v := iI 100) hx hb d_K_init_12 (by decide) ?_
  refine li_newI hx hb (hts (Cond.arrayClass .int) (tk1 68 rfl rfl)) hK hP hD hS hA 0 rfl 100 (by omega) (by omega) (by show 0 + 1 + 1 ≤ 4; omega) (by show 0 + 0 + 100 ≤ 300; omega) d_K_init_14 (fun q1 H hP hD hS => ?_)
  have hP : va_P (dC, dI) CL [(ko, .inr (8, [.ref q0, .int (iI 0), .null, .null, .null, .int (iI 0)])), (q0, .inl (kA 1, 0, .inl (aI (fun _ => 0)))), (q1, .inl (kA 0, 100, .inl (aI (fun _ => 0))))] H := hP
  have hD : va_D A [(ko, .inr (8, [.ref q0, .int (iI 0), .null, .null, .null, .int (iI 0)])), (q0, .inl (kA 1, 0, .inl (aI (fun _ => 0)))), (q1, .inl (kA 0, 100, .inl (aI (fun _ => 0))))] := hD
  refine pf_K_15 hx hb hts hin hown hK hP hD hS 0 rfl (Nat.le_of_ble_eq_true rfl) d_K_init_16 (fun H locs hP hD hS => ?_)
  have hP : va_P (dC, dI) CL [(ko, .inr (8, [.ref q0, .int (iI 0), .ref q1, .null, .null, .int (iI 0)])), (q0, .inl (kA 1, 0, .inl (aI (fun _ => 0)))), (q1, .inl (kA 0, 100, .inl (aI (fun _ => 0))))] H := hP
  have hD : va_D A [(ko, .inr (8, [.ref q0, .int (iI 0), .ref q1, .null, .null, .int (iI 0)])), (q0, .inl (kA 1, 0, .inl (aI (fun _ => 0)))), (q1, .inl (kA 0, 100, .inl (aI (fun _ => 0))))] := hD
  refine lv_aload_n hx hb d_K_init_19 rfl (lv_at hl 0 rfl) ?_
  refine lv_bipush (v := iI 100) hx hb d_K_init_20 (by decide) ?_
  refine li_newI hx hb (hts (Cond.arrayClass .int) (tk1 68 rfl rfl)) hK hP hD hS hA 0 rfl 100 (by omega) (by omega) (by show 0 + 1 + 1 + 1 ≤ 4; omega) (by show 0 + 0 + 100 + 100 ≤ 300; omega) d_K_init_22 (fun q2 H hP hD hS => ?_)
  have hP : va_P (dC, dI) CL [(ko, .inr (8, [.ref q0, .int (iI 0), .ref q1, .null, .null, .int (iI 0)])), (q0, .inl (kA 1, 0, .inl (aI (fun _ => 0)))), (q1, .inl (kA 0, 100, .inl (aI (fun _ => 0)))), (q2, .inl (kA 0, 100, .inl (aI (fun _ => 0))))] H := hP
  have hD : va_D A [(ko, .inr (8, [.ref q0, .int (iI 0), .ref q1, .null, .null, .int (iI 0)])), (q0, .inl (kA 1, 0, .inl (aI (fun _ => 0)))), (q1, .inl (kA 0, 100, .inl (aI (fun _ => 0)))), (q2, .inl (kA 0, 100, .inl (aI (fun _ => 0))))] := hD
  refine pf_K_19 hx hb hts hin hown hK hP hD hS 0 rfl (Nat.le_of_ble_eq_true rfl) d_K_init_24 (fun H locs hP hD hS => ?_)
  have hP : va_P (dC, dI) CL [(ko, .inr (8, [.ref q0, .int (iI 0), .ref q1, .ref q2, .null, .int (iI 0)])), (q0, .inl (kA 1, 0, .inl (aI (fun _ => 0)))), (q1, .inl (kA 0, 100, .inl (aI (fun _ => 0)))), (q2, .inl (kA 0, 100, .inl (aI (fun _ => 0))))] H := hP
  have hD : va_D A [(ko, .inr (8, [.ref q0, .int (iI 0), .ref q1, .ref q2, .null, .int (iI 0)])), (q0, .inl (kA 1, 0, .inl (aI (fun _ => 0)))), (q1, .inl (kA 0, 100, .inl (aI (fun _ => 0)))), (q2, .inl (kA 0, 100, .inl (aI (fun _ => 0))))] := hD
  refine lv_aload_n hx hb d_K_init_27 rfl (lv_at hl 0 rfl) ?_
  refine lv_bipush (v := iI 100) hx hb d_K_init_28 (by decide) ?_
  refine li_newI hx hb (hts (Cond.arrayClass .int) (tk1 68 rfl rfl)) hK hP hD hS hA 0 rfl 100 (by omega) (by omega) (by show 0 + 1 + 1 + 1 + 1 ≤ 4; omega) (by show 0 + 0 + 100 + 100 + 100 ≤ 300; omega) d_K_init_30 (fun q3 H hP hD hS => ?_)
  have hP : va_P (dC, dI) CL [(ko, .inr (8, [.ref q0, .int (iI 0), .ref q1, .ref q2, .null, .int (iI 0)])), (q0, .inl (kA 1, 0, .inl (aI (fun _ => 0)))), (q1, .inl (kA 0, 100, .inl (aI (fun _ => 0)))), (q2, .inl (kA 0, 100, .inl (aI (fun _ => 0)))), (q3, .inl (kA 0, 100, .inl (aI (fun _ => 0))))] H := hP
  have hD : va_D A [(ko, .inr (8, [.ref q0, .int (iI 0), .ref q1, .ref q2, .null, .int (iI 0)])), (q0, .inl (kA 1, 0, .inl (aI (fun _ => 0)))), (q1, .inl (kA 0, 100, .inl (aI (fun _ => 0)))), (q2, .inl (kA 0, 100, .inl (aI (fun _ => 0)))), (q3, .inl (kA 0, 100, .inl (aI (fun _ => 0))))] := hD
  refine pf_K_22 hx hb hts hin hown hK hP hD hS 0 rfl (Nat.le_of_ble_eq_true rfl) d_K_init_32 (fun H locs hP hD hS => ?_)
  have hP : va_P (dC, dI) CL [(ko, .inr (8, [.ref q0, .int (iI 0), .ref q1, .ref q2, .ref q3, .int (iI 0)])), (q0, .inl (kA 1, 0, .inl (aI (fun _ => 0)))), (q1, .inl (kA 0, 100, .inl (aI (fun _ => 0)))), (q2, .inl (kA 0, 100, .inl (aI (fun _ => 0)))), (q3, .inl (kA 0, 100, .inl (aI (fun _ => 0))))] H := hP
  have hD : va_D A [(ko, .inr (8, [.ref q0, .int (iI 0), .ref q1, .ref q2, .ref q3, .int (iI 0)])), (q0, .inl (kA 1, 0, .inl (aI (fun _ => 0)))), (q1, .inl (kA 0, 100, .inl (aI (fun _ => 0)))), (q2, .inl (kA 0, 100, .inl (aI (fun _ => 0)))), (q3, .inl (kA 0, 100, .inl (aI (fun _ => 0))))] := hD
  refine W.widen (k := 4) (n := 300) (by omega) (by omega) ?_
  exact fin (q0, q1, q2, q3) _ _ _ _ (by trivial) (by first | exact hP | (subst_vars; exact hP)) (by first | exact hD | (subst_vars; exact hD)) hS d_K_init_35

theorem rng256 {v : Int} (h : -1 ≤ v ∧ v < 256) : -2147483648 ≤ v ∧ v < 2147483648 := by omega
theorem byM_lt {cb : Nat → Int} {mz k v : Int} (h : byM cb mz k = v) (hv : 0 ≤ v) : k < mz := by
  by_cases q : k < mz
  · exact q
  · rw [byM_e (by omega)] at h; omega
theorem txt_lt {cb : Nat → Int} {mz k : Int} (h : isTxt (byM cb mz k) = true) : k < mz := byM_lt (cb := cb) rfl (by have := of_decide_eq_true h; omega)
theorem dig_lt {cb : Nat → Int} {mz k : Int} (h : isDig (byM cb mz k) = true) : k < mz := byM_lt (cb := cb) rfl (by have := of_decide_eq_true h; omega)
/-- a field's parts: where a text ends -/
def toL (f : Nat → Int) : Nat → Int → Int
  | 0, x => x
  | k + 1, x => if f x.toNat = 30 ∨ f x.toNat = 31 then x else toL f k (x + 1)
def toA (f : Nat → Int) (x : Int) : Int := toL f 500 x
def skF (f : Nat → Int) (ix x cd : Int) : Int := if ix = 1 ∧ cd = 97 ∧ isDig (f (x + 1).toNat) = true then f (x + 1).toNat - 48 else 0
def gp1 (f : Nat → Int) (ix tag x q to : Int) : List (Int × Int) := if isOfF ix tag (f (q + 1).toNat) = true then [(if q + 2 + skF f ix x (f (q + 1).toNat) < to then q + 2 + skF f ix x (f (q + 1).toNat) else to, to)] else []
def gpT (f : Nat → Int) (ix tag x y : Int) : Nat → Int → List (Int × Int)
  | 0, _ => []
  | k + 1, q => if y ≤ q then [] else gp1 f ix tag x q (toA f (q + 2)) ++ gpT f ix tag x y k (toA f (q + 2))
def gpA (f : Nat → Int) (ix tag x y : Int) : List (Int × Int) := gpT f ix tag x y 500 (x + 2)

theorem d_M_along_0 : decode b_M_along 0 = .ok (.iload_n 1, 1) := by decide +kernel
theorem d_M_along_1 : decode b_M_along 1 = .ok (.istore_n 3, 1) := by decide +kernel
theorem d_M_along_2 : decode b_M_along 2 = .ok (.iload_n 2, 1) := by decide +kernel
theorem d_M_along_3 : decode b_M_along 3 = .ok (.ifCond .ne 60, 3) := by decide +kernel
theorem d_M_along_6 : decode b_M_along 6 = .ok (.iconst 0, 1) := by decide +kernel
theorem d_M_along_7 : decode b_M_along 7 = .ok (.istore 4, 2) := by decide +kernel
theorem d_M_along_9 : decode b_M_along 9 = .ok (.iload 4, 2) := by decide +kernel
theorem d_M_along_11 : decode b_M_along 11 = .ok (.iconst 2, 1) := by decide +kernel
theorem d_M_along_12 : decode b_M_along 12 = .ok (.if_icmp .ge 37, 3) := by decide +kernel
theorem d_M_along_15 : decode b_M_along 15 = .ok (.aload_n 0, 1) := by decide +kernel
theorem d_M_along_16 : decode b_M_along 16 = .ok (.iload_n 3, 1) := by decide +kernel
theorem d_M_along_17 : decode b_M_along 17 = .ok (.invokevirtual 73, 3) := by decide +kernel
theorem d_M_along_20 : decode b_M_along 20 = .ok (.bipush 32, 2) := by decide +kernel
theorem d_M_along_22 : decode b_M_along 22 = .ok (.if_icmp .eq 18, 3) := by decide +kernel
theorem d_M_along_25 : decode b_M_along 25 = .ok (.aload_n 0, 1) := by decide +kernel
theorem d_M_along_26 : decode b_M_along 26 = .ok (.iload_n 3, 1) := by decide +kernel
theorem d_M_along_27 : decode b_M_along 27 = .ok (.invokevirtual 73, 3) := by decide +kernel
theorem d_M_along_30 : decode b_M_along 30 = .ok (.invokestatic 77, 3) := by decide +kernel
theorem d_M_along_33 : decode b_M_along 33 = .ok (.ifCond .ne 7, 3) := by decide +kernel
theorem d_M_along_36 : decode b_M_along 36 = .ok (.iconst (-1), 1) := by decide +kernel
theorem d_M_along_37 : decode b_M_along 37 = .ok (.iload_n 3, 1) := by decide +kernel
theorem d_M_along_38 : decode b_M_along 38 = .ok (.isub, 1) := by decide +kernel
theorem d_M_along_39 : decode b_M_along 39 = .ok (.ireturn, 1) := by decide +kernel
theorem d_M_along_40 : decode b_M_along 40 = .ok (.iinc 3 1, 3) := by decide +kernel
theorem d_M_along_43 : decode b_M_along 43 = .ok (.iinc 4 1, 3) := by decide +kernel
theorem d_M_along_46 : decode b_M_along 46 = .ok (.goto (-37), 3) := by decide +kernel
theorem d_M_along_49 : decode b_M_along 49 = .ok (.aload_n 0, 1) := by decide +kernel
theorem d_M_along_50 : decode b_M_along 50 = .ok (.iload_n 3, 1) := by decide +kernel
theorem d_M_along_51 : decode b_M_along 51 = .ok (.invokevirtual 73, 3) := by decide +kernel
theorem d_M_along_54 : decode b_M_along 54 = .ok (.bipush 31, 2) := by decide +kernel
theorem d_M_along_56 : decode b_M_along 56 = .ok (.if_icmp .eq 7, 3) := by decide +kernel
theorem d_M_along_59 : decode b_M_along 59 = .ok (.iconst (-1), 1) := by decide +kernel
theorem d_M_along_60 : decode b_M_along 60 = .ok (.iload_n 3, 1) := by decide +kernel
theorem d_M_along_61 : decode b_M_along 61 = .ok (.isub, 1) := by decide +kernel
theorem d_M_along_62 : decode b_M_along 62 = .ok (.ireturn, 1) := by decide +kernel
theorem d_M_along_63 : decode b_M_along 63 = .ok (.aload_n 0, 1) := by decide +kernel
theorem d_M_along_64 : decode b_M_along 64 = .ok (.iload_n 3, 1) := by decide +kernel
theorem d_M_along_65 : decode b_M_along 65 = .ok (.invokevirtual 73, 3) := by decide +kernel
theorem d_M_along_68 : decode b_M_along 68 = .ok (.bipush 30, 2) := by decide +kernel
theorem d_M_along_70 : decode b_M_along 70 = .ok (.if_icmp .eq 75, 3) := by decide +kernel
theorem d_M_along_73 : decode b_M_along 73 = .ok (.aload_n 0, 1) := by decide +kernel
theorem d_M_along_74 : decode b_M_along 74 = .ok (.iload_n 3, 1) := by decide +kernel
theorem d_M_along_75 : decode b_M_along 75 = .ok (.invokevirtual 73, 3) := by decide +kernel
theorem d_M_along_78 : decode b_M_along 78 = .ok (.istore 4, 2) := by decide +kernel
theorem d_M_along_80 : decode b_M_along 80 = .ok (.iload_n 2, 1) := by decide +kernel
theorem d_M_along_81 : decode b_M_along 81 = .ok (.ifCond .ne 46, 3) := by decide +kernel
theorem d_M_along_84 : decode b_M_along 84 = .ok (.iload 4, 2) := by decide +kernel
theorem d_M_along_86 : decode b_M_along 86 = .ok (.bipush 31, 2) := by decide +kernel
theorem d_M_along_88 : decode b_M_along 88 = .ok (.if_icmp .ne 39, 3) := by decide +kernel
theorem d_M_along_91 : decode b_M_along 91 = .ok (.iinc 3 1, 3) := by decide +kernel
theorem d_M_along_94 : decode b_M_along 94 = .ok (.aload_n 0, 1) := by decide +kernel
theorem d_M_along_95 : decode b_M_along 95 = .ok (.iload_n 3, 1) := by decide +kernel
theorem d_M_along_96 : decode b_M_along 96 = .ok (.invokevirtual 73, 3) := by decide +kernel
theorem d_M_along_99 : decode b_M_along 99 = .ok (.istore 4, 2) := by decide +kernel
theorem d_M_along_101 : decode b_M_along 101 = .ok (.iload 4, 2) := by decide +kernel
theorem d_M_along_103 : decode b_M_along 103 = .ok (.invokestatic 77, 3) := by decide +kernel
theorem d_M_along_106 : decode b_M_along 106 = .ok (.ifCond .ne 33, 3) := by decide +kernel
theorem d_M_along_109 : decode b_M_along 109 = .ok (.iload 4, 2) := by decide +kernel
theorem d_M_along_111 : decode b_M_along 111 = .ok (.bipush 97, 2) := by decide +kernel
theorem d_M_along_113 : decode b_M_along 113 = .ok (.if_icmp .lt 10, 3) := by decide +kernel
theorem d_M_along_116 : decode b_M_along 116 = .ok (.iload 4, 2) := by decide +kernel
theorem d_M_along_118 : decode b_M_along 118 = .ok (.bipush 122, 2) := by decide +kernel
theorem d_M_along_120 : decode b_M_along 120 = .ok (.if_icmp .le 19, 3) := by decide +kernel
theorem d_M_along_123 : decode b_M_along 123 = .ok (.iconst (-1), 1) := by decide +kernel
theorem d_M_along_124 : decode b_M_along 124 = .ok (.iload_n 3, 1) := by decide +kernel
theorem d_M_along_125 : decode b_M_along 125 = .ok (.isub, 1) := by decide +kernel
theorem d_M_along_126 : decode b_M_along 126 = .ok (.ireturn, 1) := by decide +kernel
theorem d_M_along_127 : decode b_M_along 127 = .ok (.iload 4, 2) := by decide +kernel
theorem d_M_along_129 : decode b_M_along 129 = .ok (.invokestatic 80, 3) := by decide +kernel
theorem d_M_along_132 : decode b_M_along 132 = .ok (.ifCond .ne 7, 3) := by decide +kernel
theorem d_M_along_135 : decode b_M_along 135 = .ok (.iconst (-1), 1) := by decide +kernel
theorem d_M_along_136 : decode b_M_along 136 = .ok (.iload_n 3, 1) := by decide +kernel
theorem d_M_along_137 : decode b_M_along 137 = .ok (.isub, 1) := by decide +kernel
theorem d_M_along_138 : decode b_M_along 138 = .ok (.ireturn, 1) := by decide +kernel
theorem d_M_along_139 : decode b_M_along 139 = .ok (.iinc 3 1, 3) := by decide +kernel
theorem d_M_along_142 : decode b_M_along 142 = .ok (.goto (-79), 3) := by decide +kernel
theorem d_M_along_145 : decode b_M_along 145 = .ok (.iload_n 3, 1) := by decide +kernel
theorem d_M_along_146 : decode b_M_along 146 = .ok (.iconst 1, 1) := by decide +kernel
theorem d_M_along_147 : decode b_M_along 147 = .ok (.iadd, 1) := by decide +kernel
theorem d_M_along_148 : decode b_M_along 148 = .ok (.ireturn, 1) := by decide +kernel
set_option maxHeartbeats 4000000 in
set_option maxRecDepth 100000 in
theorem c_M_along (l : Launch) (dC : Nat → ClassId) (dI : Nat → Nat → Nat) (kA : Nat → ClassId) (mo : Nat) (ma : Nat → Nat) (mrf : Int) (mz : Int) (mls : Int) (mfp : Int) (mfm : Int) (mtx : Int) (mwd : Int) (mak : Int) (mli : Int) (mlx : Int) (mat : Int) (mtk : Int) (mtf : Int) (mtt : Int) (mfa : Int) (mla : Int) (mlp : Int) (mdp : Int) (msi : Int) (mpf : Int) (mpt : Int) (mdn : Bool) (cb : Nat → Int) (x : Int) (b : Bool) (hcb : C2 cb) (hz : 0 ≤ mz ∧ mz ≤ 400) (hx0 : 0 ≤ x ∧ x ≤ 1000) : Met l y_M_along (wsy y_M_along b_M_along 5 (some .int)) (rmd 1 0 0) (li_Pr (dC, dI) CL (TY kA) [.ref mo, .int (iI x), .int (iI (bI b))] (va_P (dC, dI) CL [(mo, .inr (10, [.int (iI mrf), .ref (ma 0), .int (iI mz), .ref (ma 1), .ref (ma 2), .int (iI mls), .int (iI mfp), .int (iI mfm), .ref (ma 3), .int (iI mtx), .ref (ma 4), .ref (ma 5), .int (iI mwd), .ref (ma 6), .ref (ma 7), .int (iI mak), .ref (ma 8), .ref (ma 9), .int (iI mli), .int (iI mlx), .ref (ma 10), .ref (ma 11), .int (iI mat), .int (iI mtk), .int (iI mtf), .int (iI mtt), .int (iI mfa), .int (iI mla), .int (iI mlp), .int (iI mdp), .ref (ma 12), .ref (ma 13), .int (iI msi), .int (iI (bI mdn)), .int (iI mpf), .int (iI mpt)])), (ma 0, .inl (kA 0, 400, .inl (aI cb)))])) (k2_QcV (.int (iI (alM cb mz b x)))) 0 0 (fun _ => False) := by
  refine li_mr (by decide) (Nat.le_of_ble_eq_true rfl) (by rfl) ?_
  intro p e s m args below meth c Q C hP hK hN hG fin ls hl
  obtain ⟨hx, hb, hr, hml, hown, hts, hlocks, hin⟩ := C
  have hown : s.vm.findClass R_M = some m.cls := hown
  have hP : va_P (dC, dI) CL [(mo, .inr (10, [.int (iI mrf), .ref (ma 0), .int (iI mz), .ref (ma 1), .ref (ma 2), .int (iI mls), .int (iI mfp), .int (iI mfm), .ref (ma 3), .int (iI mtx), .ref (ma 4), .ref (ma 5), .int (iI mwd), .ref (ma 6), .ref (ma 7), .int (iI mak), .ref (ma 8), .ref (ma 9), .int (iI mli), .int (iI mlx), .ref (ma 10), .ref (ma 11), .int (iI mat), .int (iI mtk), .int (iI mtf), .int (iI mtt), .int (iI mfa), .int (iI mla), .int (iI mlp), .int (iI mdp), .ref (ma 12), .ref (ma 13), .int (iI msi), .int (iI (bI mdn)), .int (iI mpf), .int (iI mpt)])), (ma 0, .inl (kA 0, 400, .inl (aI cb)))] s.heap := hP
  have hl : lv_has ls 5 [(0, .ref mo), (1, .int (iI x)), (2, .int (iI (bI b)))] := hl
  have hy0 := byM_r (mz := mz) (x := x) hcb
  have hy1 := byM_r (mz := mz) (x := x + 1) hcb
  have hy2 := byM_r (mz := mz) (x := x + 2) hcb
  have K_63 : ∀ (nn_63 : Nat) (k : Int) (f : Nat), (0 ≤ k ∧ k ≤ 1100) → ((mz + 2 - k).toNat < f) → (alW cb mz b f k = alM cb mz b x) → ((mz + 2 - k).toNat < nn_63) → ∀ ls : Array Slot, lv_has ls 5 [(0, .ref mo), (1, .int (iI x)), (2, .int (iI (bI b))), (3, .int (iI k))] → W p l e (rmd 1 0 0) s m args below meth c s.heap [] 0 0 Q (F0 m 63 ls []) := by
    intro nn_63
    induction nn_63 with
    | zero => intro k f hk9 hff hres hm; exact absurd hm (Nat.not_lt_zero _)
    | succ nn_63 ih_63 =>
      intro k f hk9 hff hres hm_63 ls hl
      obtain ⟨g, rfl⟩ : ∃ g, f = g + 1 := ⟨f - 1, by omega⟩
      have hbk := byM_r (mz := mz) (x := k) hcb
      have hbk1 := byM_r (mz := mz) (x := k + 1) hcb
      refine lv_aload_n hx hb d_M_along_63 rfl (lv_at hl 0 rfl) ?_
      refine lv_iload_n hx hb d_M_along_64 rfl (lv_at hl 3 rfl) ?_
      refine li_callr ((va_runV (As := [.int (iI k)]) (rest := []) ⟨hx, hb, hml, hown, hts⟩ (c_M_byteAt l dC dI kA mo ma mrf mz mls mfp mfm mtx mwd mak mli mlx mat mtk mtf mtt mfa mla mlp mdp msi mpf mpt mdn cb k (by exact hcb) (by exact hz) (by omega)) (cw_M_73 hts rfl rfl ⟨Nat.le_of_ble_eq_true rfl, Nat.le_of_ble_eq_true rfl⟩) (li_preV (va_recv hK hP (ci := 10) (q0 := 0) rfl rfl) (hP.sub [0, 1] rfl) hK hN hG.rd) rfl rfl hl.1 rfl (lv_room (Nat.le_of_ble_eq_true rfl)) d_M_along_65 ⟨(by show 0 + 0 ≤ 0; omega), (by show 0 + 0 ≤ 0; omega)⟩).run) ?_
      refine lv_bipush (v := iI 30) hx hb d_M_along_68 (by decide) ?_
      refine li_icmp_eq (tgt := 145) hx hb d_M_along_70 (by decide) (by first | omega | (subst_vars; omega) | exact rng256 (byM_r hcb)) (by first | omega | (subst_vars; omega) | exact rng256 (byM_r hcb)) (fun c1 => ?_) (fun c1 => ?_)
      · have _q := c1
        simp only [alW] at hres
        rw [if_pos (by assumption)] at hres
        refine lv_iload_n hx hb d_M_along_145 rfl (lv_at hl 3 rfl) ?_
        refine lv_iconst (v := iI 1) hx hb d_M_along_146 rfl ?_
        refine li_iadd hx hb d_M_along_147 ?_
        exact fin _ _ _ (by rw [← hres]) d_M_along_148
      · have _q := c1
        simp only [alW] at hres
        rw [if_neg (by assumption)] at hres
        refine lv_aload_n hx hb d_M_along_73 rfl (lv_at hl 0 rfl) ?_
        refine lv_iload_n hx hb d_M_along_74 rfl (lv_at hl 3 rfl) ?_
        refine li_callr ((va_runV (As := [.int (iI k)]) (rest := []) ⟨hx, hb, hml, hown, hts⟩ (c_M_byteAt l dC dI kA mo ma mrf mz mls mfp mfm mtx mwd mak mli mlx mat mtk mtf mtt mfa mla mlp mdp msi mpf mpt mdn cb k (by exact hcb) (by exact hz) (by omega)) (cw_M_73 hts rfl rfl ⟨Nat.le_of_ble_eq_true rfl, Nat.le_of_ble_eq_true rfl⟩) (li_preV (va_recv hK hP (ci := 10) (q0 := 0) rfl rfl) (hP.sub [0, 1] rfl) hK hN hG.rd) rfl rfl hl.1 rfl (lv_room (Nat.le_of_ble_eq_true rfl)) d_M_along_75 ⟨(by show 0 + 0 ≤ 0; omega), (by show 0 + 0 ≤ 0; omega)⟩).run) ?_
        refine li_nm (fun cy ecy => ?_)
        refine lv_istore (lv' := [(4, .int (iI cy)), (0, .ref mo), (1, .int (iI x)), (2, .int (iI (bI b))), (3, .int (iI k))]) hx hb d_M_along_78 hl (by decide) rfl (fun ls hl => ?_)
        refine lv_iload_n hx hb d_M_along_80 rfl (lv_at hl 3 rfl) ?_
        refine li_bnz (tgt := 127) hx hb d_M_along_81 (by decide) (fun c2 => ?_) (fun c2 => ?_)
        · have _q := c2
          rw [if_neg (by rintro ⟨q, -⟩; simp_all)] at hres
          refine lv_iload hx hb d_M_along_127 (lv_at hl 0 rfl) ?_
          refine li_callr ((va_runS (As := [.int (iI cy)]) (rest := []) ⟨hx, hb, hml, hown, hts⟩ (c_M_isText l dC dI kA cy (by first | omega | (subst_vars; omega))) (cw_M_80 hts rfl rfl ⟨Nat.le_of_ble_eq_true rfl, Nat.le_of_ble_eq_true rfl⟩) (li_preS va_Pnil hK hN hG.rd) rfl rfl hl.1 rfl (lv_room (Nat.le_of_ble_eq_true rfl)) d_M_along_129 ⟨(by show 0 + 0 ≤ 0; omega), (by show 0 + 0 ≤ 0; omega)⟩).run) ?_
          refine li_bnz (tgt := 139) hx hb d_M_along_132 (by decide) (fun c3 => ?_) (fun c3 => ?_)
          · have _q := c3
            rw [if_pos (by rw [← ecy]; assumption)] at hres
            have hlt := txt_lt (mz := mz) (k := k) (by rw [← ecy]; assumption)
            obtain ⟨x_n, ex_n⟩ : ∃ y_9 : Int, y_9 = k + 1 := ⟨_, rfl⟩
            refine lv_iinc (v := iI x_n) (lv' := [(3, .int (iI x_n)), (4, .int (iI cy)), (0, .ref mo), (1, .int (iI x)), (2, .int (iI (bI b)))]) hx hb d_M_along_139 hl (k := 4) rfl (by rw [ex_n]; exact iI_add _ _) (by decide) rfl (fun ls hl => ?_)
            refine lv_goto (tgt := 63) hx hb d_M_along_142 (by decide) ?_
            exact ih_63 x_n g (by first | omega | (subst_vars; omega)) (by first | omega | (subst_vars; omega)) (by first | (rw [ex_n]; exact hres) | (rw [ex_n, ex_k, show k + 1 + 1 = k + 2 by omega]; exact hres)) (by first | omega | (subst_vars; omega)) _ (lv_sub hl [2, 3, 4, 0] rfl)
          · have _q := c3
            rw [if_neg (by rw [← ecy]; simp_all)] at hres
            refine lv_iconst (v := iI (-1)) hx hb d_M_along_135 rfl ?_
            refine lv_iload_n hx hb d_M_along_136 rfl (lv_at hl 4 rfl) ?_
            refine li_isub hx hb d_M_along_137 ?_
            exact fin _ _ _ (by rw [← hres]) d_M_along_138
        · have _q := c2
          refine lv_iload hx hb d_M_along_84 (lv_at hl 0 rfl) ?_
          refine lv_bipush (v := iI 31) hx hb d_M_along_86 (by decide) ?_
          refine li_icmp_ne (tgt := 127) hx hb d_M_along_88 (by decide) (by first | omega | (subst_vars; omega) | exact rng256 (byM_r hcb)) (by first | omega | (subst_vars; omega) | exact rng256 (byM_r hcb)) (fun c4 => ?_) (fun c4 => ?_)
          · have _q := c4
            rw [if_neg (fun q => absurd (ecy.trans q.2) (by assumption))] at hres
            refine lv_iload hx hb d_M_along_127 (lv_at hl 0 rfl) ?_
            refine li_callr ((va_runS (As := [.int (iI cy)]) (rest := []) ⟨hx, hb, hml, hown, hts⟩ (c_M_isText l dC dI kA cy (by first | omega | (subst_vars; omega))) (cw_M_80 hts rfl rfl ⟨Nat.le_of_ble_eq_true rfl, Nat.le_of_ble_eq_true rfl⟩) (li_preS va_Pnil hK hN hG.rd) rfl rfl hl.1 rfl (lv_room (Nat.le_of_ble_eq_true rfl)) d_M_along_129 ⟨(by show 0 + 0 ≤ 0; omega), (by show 0 + 0 ≤ 0; omega)⟩).run) ?_
            refine li_bnz (tgt := 139) hx hb d_M_along_132 (by decide) (fun c5 => ?_) (fun c5 => ?_)
            · have _q := c5
              rw [if_pos (by rw [← ecy]; assumption)] at hres
              have hlt := txt_lt (mz := mz) (k := k) (by rw [← ecy]; assumption)
              obtain ⟨x_n, ex_n⟩ : ∃ y_9 : Int, y_9 = k + 1 := ⟨_, rfl⟩
              refine lv_iinc (v := iI x_n) (lv' := [(3, .int (iI x_n)), (4, .int (iI cy)), (0, .ref mo), (1, .int (iI x)), (2, .int (iI (bI b)))]) hx hb d_M_along_139 hl (k := 4) rfl (by rw [ex_n]; exact iI_add _ _) (by decide) rfl (fun ls hl => ?_)
              refine lv_goto (tgt := 63) hx hb d_M_along_142 (by decide) ?_
              exact ih_63 x_n g (by first | omega | (subst_vars; omega)) (by first | omega | (subst_vars; omega)) (by first | (rw [ex_n]; exact hres) | (rw [ex_n, ex_k, show k + 1 + 1 = k + 2 by omega]; exact hres)) (by first | omega | (subst_vars; omega)) _ (lv_sub hl [2, 3, 4, 0] rfl)
            · have _q := c5
              rw [if_neg (by rw [← ecy]; simp_all)] at hres
              refine lv_iconst (v := iI (-1)) hx hb d_M_along_135 rfl ?_
              refine lv_iload_n hx hb d_M_along_136 rfl (lv_at hl 4 rfl) ?_
              refine li_isub hx hb d_M_along_137 ?_
              exact fin _ _ _ (by rw [← hres]) d_M_along_138
          · have _q := c4
            rw [if_pos ⟨by assumption, by rw [← ecy]; assumption⟩] at hres
            have hlt := byM_lt (cb := cb) (mz := mz) (k := k) (v := 31) (by rw [← ecy]; assumption) (by omega)
            obtain ⟨x_k, ex_k⟩ : ∃ y_9 : Int, y_9 = k + 1 := ⟨_, rfl⟩
            refine lv_iinc (v := iI x_k) (lv' := [(3, .int (iI x_k)), (4, .int (iI cy)), (0, .ref mo), (1, .int (iI x)), (2, .int (iI (bI b)))]) hx hb d_M_along_91 hl (k := 4) rfl (by rw [ex_k]; exact iI_add _ _) (by decide) rfl (fun ls hl => ?_)
            have hx_k := ex_k
            refine lv_aload_n hx hb d_M_along_94 rfl (lv_at hl 2 rfl) ?_
            refine lv_iload_n hx hb d_M_along_95 rfl (lv_at hl 0 rfl) ?_
            refine li_callr ((va_runV (As := [.int (iI x_k)]) (rest := []) ⟨hx, hb, hml, hown, hts⟩ (c_M_byteAt l dC dI kA mo ma mrf mz mls mfp mfm mtx mwd mak mli mlx mat mtk mtf mtt mfa mla mlp mdp msi mpf mpt mdn cb x_k (by exact hcb) (by exact hz) (by omega)) (cw_M_73 hts rfl rfl ⟨Nat.le_of_ble_eq_true rfl, Nat.le_of_ble_eq_true rfl⟩) (li_preV (va_recv hK hP (ci := 10) (q0 := 0) rfl rfl) (hP.sub [0, 1] rfl) hK hN hG.rd) rfl rfl hl.1 rfl (lv_room (Nat.le_of_ble_eq_true rfl)) d_M_along_96 ⟨(by show 0 + 0 ≤ 0; omega), (by show 0 + 0 ≤ 0; omega)⟩).run) ?_
            refine li_nm (fun cz ecz => ?_)
            refine lv_istore (lv' := [(4, .int (iI cz)), (3, .int (iI x_k)), (0, .ref mo), (1, .int (iI x)), (2, .int (iI (bI b)))]) hx hb d_M_along_99 hl (by decide) rfl (fun ls hl => ?_)
            rw [ex_k] at ecz
            refine lv_iload hx hb d_M_along_101 (lv_at hl 0 rfl) ?_
            refine li_callr ((va_runS (As := [.int (iI cz)]) (rest := []) ⟨hx, hb, hml, hown, hts⟩ (c_M_isDigit l dC dI kA cz (by first | omega | (subst_vars; omega))) (cw_M_77 hts rfl rfl ⟨Nat.le_of_ble_eq_true rfl, Nat.le_of_ble_eq_true rfl⟩) (li_preS va_Pnil hK hN hG.rd) rfl rfl hl.1 rfl (lv_room (Nat.le_of_ble_eq_true rfl)) d_M_along_103 ⟨(by show 0 + 0 ≤ 0; omega), (by show 0 + 0 ≤ 0; omega)⟩).run) ?_
            refine li_bnz (tgt := 139) hx hb d_M_along_106 (by decide) (fun c6 => ?_) (fun c6 => ?_)
            · have _q := c6
              rw [if_pos (Or.inl (by rw [← ecz]; assumption))] at hres
              obtain ⟨x_n, ex_n⟩ : ∃ y_9 : Int, y_9 = x_k + 1 := ⟨_, rfl⟩
              refine lv_iinc (v := iI x_n) (lv' := [(3, .int (iI x_n)), (4, .int (iI cz)), (0, .ref mo), (1, .int (iI x)), (2, .int (iI (bI b)))]) hx hb d_M_along_139 hl (k := 1) rfl (by rw [ex_n]; exact iI_add _ _) (by decide) rfl (fun ls hl => ?_)
              refine lv_goto (tgt := 63) hx hb d_M_along_142 (by decide) ?_
              exact ih_63 x_n g (by first | omega | (subst_vars; omega)) (by first | omega | (subst_vars; omega)) (by first | (rw [ex_n]; exact hres) | (rw [ex_n, ex_k, show k + 1 + 1 = k + 2 by omega]; exact hres)) (by first | omega | (subst_vars; omega)) _ (lv_sub hl [2, 3, 4, 0] rfl)
            · have _q := c6
              refine lv_iload hx hb d_M_along_109 (lv_at hl 0 rfl) ?_
              refine lv_bipush (v := iI 97) hx hb d_M_along_111 (by decide) ?_
              refine li_icmp_lt (tgt := 123) hx hb d_M_along_113 (by decide) (by first | omega | (subst_vars; omega) | exact rng256 (byM_r hcb)) (by first | omega | (subst_vars; omega) | exact rng256 (byM_r hcb)) (fun c7 => ?_) (fun c7 => ?_)
              · have _q := c7
                rw [if_neg (by rw [← ecz]; intro q; rcases q with q | q <;> first | omega | simp_all)] at hres
                refine lv_iconst (v := iI (-1)) hx hb d_M_along_123 rfl ?_
                refine lv_iload_n hx hb d_M_along_124 rfl (lv_at hl 1 rfl) ?_
                refine li_isub hx hb d_M_along_125 ?_
                exact fin _ _ _ (by rw [← hres, ex_k]) d_M_along_126
              · have _q := c7
                refine lv_iload hx hb d_M_along_116 (lv_at hl 0 rfl) ?_
                refine lv_bipush (v := iI 122) hx hb d_M_along_118 (by decide) ?_
                refine li_icmp_le (tgt := 139) hx hb d_M_along_120 (by decide) (by first | omega | (subst_vars; omega) | exact rng256 (byM_r hcb)) (by first | omega | (subst_vars; omega) | exact rng256 (byM_r hcb)) (fun c8 => ?_) (fun c8 => ?_)
                · have _q := c8
                  rw [if_pos (Or.inr (by omega))] at hres
                  obtain ⟨x_n, ex_n⟩ : ∃ y_9 : Int, y_9 = x_k + 1 := ⟨_, rfl⟩
                  refine lv_iinc (v := iI x_n) (lv' := [(3, .int (iI x_n)), (4, .int (iI cz)), (0, .ref mo), (1, .int (iI x)), (2, .int (iI (bI b)))]) hx hb d_M_along_139 hl (k := 1) rfl (by rw [ex_n]; exact iI_add _ _) (by decide) rfl (fun ls hl => ?_)
                  refine lv_goto (tgt := 63) hx hb d_M_along_142 (by decide) ?_
                  exact ih_63 x_n g (by first | omega | (subst_vars; omega)) (by first | omega | (subst_vars; omega)) (by first | (rw [ex_n]; exact hres) | (rw [ex_n, ex_k, show k + 1 + 1 = k + 2 by omega]; exact hres)) (by first | omega | (subst_vars; omega)) _ (lv_sub hl [2, 3, 4, 0] rfl)
                · have _q := c8
                  rw [if_neg (by rw [← ecz]; intro q; rcases q with q | q <;> first | omega | simp_all)] at hres
                  refine lv_iconst (v := iI (-1)) hx hb d_M_along_123 rfl ?_
                  refine lv_iload_n hx hb d_M_along_124 rfl (lv_at hl 1 rfl) ?_
                  refine li_isub hx hb d_M_along_125 ?_
                  exact fin _ _ _ (by rw [← hres, ex_k]) d_M_along_126
  refine lv_iload_n hx hb d_M_along_0 rfl (lv_at hl 1 rfl) ?_
  refine lv_istore_n (lv' := [(3, .int (iI x)), (0, .ref mo), (1, .int (iI x)), (2, .int (iI (bI b)))]) hx hb d_M_along_1 rfl hl (by decide) rfl (fun ls hl => ?_)
  refine lv_iload_n hx hb d_M_along_2 rfl (lv_at hl 3 rfl) ?_
  refine li_bnz (tgt := 63) hx hb d_M_along_3 (by decide) (fun c9 => ?_) (fun c9 => ?_)
  · have _q := c9
    exact K_63 ((mz + 2 - x).toNat + 1) x 1000 (by first | omega | (subst_vars; omega)) (by first | omega | (subst_vars; omega)) (by first | (unfold alM; rw [if_pos (by assumption)]; done) | (subst_vars; unfold alM inJ; rw [show x + 1 + 1 = x + 2 by omega] at *; simp_all; done)) (Nat.lt_succ_self _) _ (lv_sub hl [1, 2, 3, 0] rfl)
  · have _q := c9
    refine lv_iconst (v := iI 0) hx hb d_M_along_6 rfl ?_
    refine lv_istore (lv' := [(4, .int (iI 0)), (3, .int (iI x)), (0, .ref mo), (1, .int (iI x)), (2, .int (iI (bI b)))]) hx hb d_M_along_7 hl (by decide) rfl (fun ls hl => ?_)
    refine lv_iload hx hb d_M_along_9 (lv_at hl 0 rfl) ?_
    refine lv_iconst (v := iI 2) hx hb d_M_along_11 rfl ?_
    refine li_icmp_ge (tgt := 49) hx hb d_M_along_12 (by decide) (by first | omega | (subst_vars; omega) | exact rng256 (byM_r hcb)) (by first | omega | (subst_vars; omega) | exact rng256 (byM_r hcb)) (fun c10 => ?_) (fun c10 => ?_)
    · have _q := c10
      exact absurd c10 (by omega)
    · have _q := c10
      refine lv_aload_n hx hb d_M_along_15 rfl (lv_at hl 2 rfl) ?_
      refine lv_iload_n hx hb d_M_along_16 rfl (lv_at hl 1 rfl) ?_
      refine li_callr ((va_runV (As := [.int (iI x)]) (rest := []) ⟨hx, hb, hml, hown, hts⟩ (c_M_byteAt l dC dI kA mo ma mrf mz mls mfp mfm mtx mwd mak mli mlx mat mtk mtf mtt mfa mla mlp mdp msi mpf mpt mdn cb x (by exact hcb) (by exact hz) (by omega)) (cw_M_73 hts rfl rfl ⟨Nat.le_of_ble_eq_true rfl, Nat.le_of_ble_eq_true rfl⟩) (li_preV (va_recv hK hP (ci := 10) (q0 := 0) rfl rfl) (hP.sub [0, 1] rfl) hK hN hG.rd) rfl rfl hl.1 rfl (lv_room (Nat.le_of_ble_eq_true rfl)) d_M_along_17 ⟨(by show 0 + 0 ≤ 0; omega), (by show 0 + 0 ≤ 0; omega)⟩).run) ?_
      refine lv_bipush (v := iI 32) hx hb d_M_along_20 (by decide) ?_
      refine li_icmp_eq (tgt := 40) hx hb d_M_along_22 (by decide) (by first | omega | (subst_vars; omega) | exact rng256 (byM_r hcb)) (by first | omega | (subst_vars; omega) | exact rng256 (byM_r hcb)) (fun c11 => ?_) (fun c11 => ?_)
      · have _q := c11
        obtain ⟨x12, ex12⟩ : ∃ y_9 : Int, y_9 = x + 1 := ⟨_, rfl⟩
        refine lv_iinc (v := iI x12) (lv' := [(3, .int (iI x12)), (4, .int (iI 0)), (0, .ref mo), (1, .int (iI x)), (2, .int (iI (bI b)))]) hx hb d_M_along_40 hl (k := 1) rfl (by rw [ex12]; exact iI_add _ _) (by decide) rfl (fun ls hl => ?_)
        refine lv_iinc (v := iI 1) (lv' := [(4, .int (iI 1)), (3, .int (iI x12)), (0, .ref mo), (1, .int (iI x)), (2, .int (iI (bI b)))]) hx hb d_M_along_43 hl (k := 1) rfl (by decide) (by decide) rfl (fun ls hl => ?_)
        refine lv_goto (tgt := 9) hx hb d_M_along_46 (by decide) ?_
        refine lv_iload hx hb d_M_along_9 (lv_at hl 0 rfl) ?_
        refine lv_iconst (v := iI 2) hx hb d_M_along_11 rfl ?_
        refine li_icmp_ge (tgt := 49) hx hb d_M_along_12 (by decide) (by first | omega | (subst_vars; omega) | exact rng256 (byM_r hcb)) (by first | omega | (subst_vars; omega) | exact rng256 (byM_r hcb)) (fun c13 => ?_) (fun c13 => ?_)
        · have _q := c13
          exact absurd c13 (by omega)
        · have _q := c13
          refine lv_aload_n hx hb d_M_along_15 rfl (lv_at hl 2 rfl) ?_
          refine lv_iload_n hx hb d_M_along_16 rfl (lv_at hl 1 rfl) ?_
          refine li_callr ((va_runV (As := [.int (iI x12)]) (rest := []) ⟨hx, hb, hml, hown, hts⟩ (c_M_byteAt l dC dI kA mo ma mrf mz mls mfp mfm mtx mwd mak mli mlx mat mtk mtf mtt mfa mla mlp mdp msi mpf mpt mdn cb x12 (by exact hcb) (by exact hz) (by omega)) (cw_M_73 hts rfl rfl ⟨Nat.le_of_ble_eq_true rfl, Nat.le_of_ble_eq_true rfl⟩) (li_preV (va_recv hK hP (ci := 10) (q0 := 0) rfl rfl) (hP.sub [0, 1] rfl) hK hN hG.rd) rfl rfl hl.1 rfl (lv_room (Nat.le_of_ble_eq_true rfl)) d_M_along_17 ⟨(by show 0 + 0 ≤ 0; omega), (by show 0 + 0 ≤ 0; omega)⟩).run) ?_
          refine lv_bipush (v := iI 32) hx hb d_M_along_20 (by decide) ?_
          refine li_icmp_eq (tgt := 40) hx hb d_M_along_22 (by decide) (by first | omega | (subst_vars; omega) | exact rng256 (byM_r hcb)) (by first | omega | (subst_vars; omega) | exact rng256 (byM_r hcb)) (fun c14 => ?_) (fun c14 => ?_)
          · have _q := c14
            obtain ⟨x15, ex15⟩ : ∃ y_9 : Int, y_9 = x12 + 1 := ⟨_, rfl⟩
            refine lv_iinc (v := iI x15) (lv' := [(3, .int (iI x15)), (4, .int (iI 1)), (0, .ref mo), (1, .int (iI x)), (2, .int (iI (bI b)))]) hx hb d_M_along_40 hl (k := 1) rfl (by rw [ex15]; exact iI_add _ _) (by decide) rfl (fun ls hl => ?_)
            refine lv_iinc (v := iI 2) (lv' := [(4, .int (iI 2)), (3, .int (iI x15)), (0, .ref mo), (1, .int (iI x)), (2, .int (iI (bI b)))]) hx hb d_M_along_43 hl (k := 1) rfl (by decide) (by decide) rfl (fun ls hl => ?_)
            refine lv_goto (tgt := 9) hx hb d_M_along_46 (by decide) ?_
            refine lv_iload hx hb d_M_along_9 (lv_at hl 0 rfl) ?_
            refine lv_iconst (v := iI 2) hx hb d_M_along_11 rfl ?_
            refine li_icmp_ge (tgt := 49) hx hb d_M_along_12 (by decide) (by first | omega | (subst_vars; omega) | exact rng256 (byM_r hcb)) (by first | omega | (subst_vars; omega) | exact rng256 (byM_r hcb)) (fun c16 => ?_) (fun c16 => ?_)
            · have _q := c16
              refine lv_aload_n hx hb d_M_along_49 rfl (lv_at hl 2 rfl) ?_
              refine lv_iload_n hx hb d_M_along_50 rfl (lv_at hl 1 rfl) ?_
              refine li_callr ((va_runV (As := [.int (iI x15)]) (rest := []) ⟨hx, hb, hml, hown, hts⟩ (c_M_byteAt l dC dI kA mo ma mrf mz mls mfp mfm mtx mwd mak mli mlx mat mtk mtf mtt mfa mla mlp mdp msi mpf mpt mdn cb x15 (by exact hcb) (by exact hz) (by omega)) (cw_M_73 hts rfl rfl ⟨Nat.le_of_ble_eq_true rfl, Nat.le_of_ble_eq_true rfl⟩) (li_preV (va_recv hK hP (ci := 10) (q0 := 0) rfl rfl) (hP.sub [0, 1] rfl) hK hN hG.rd) rfl rfl hl.1 rfl (lv_room (Nat.le_of_ble_eq_true rfl)) d_M_along_51 ⟨(by show 0 + 0 ≤ 0; omega), (by show 0 + 0 ≤ 0; omega)⟩).run) ?_
              refine lv_bipush (v := iI 31) hx hb d_M_along_54 (by decide) ?_
              refine li_icmp_eq (tgt := 63) hx hb d_M_along_56 (by decide) (by first | omega | (subst_vars; omega) | exact rng256 (byM_r hcb)) (by first | omega | (subst_vars; omega) | exact rng256 (byM_r hcb)) (fun c17 => ?_) (fun c17 => ?_)
              · have _q := c17
                exact K_63 ((mz + 2 - x15).toNat + 1) x15 1000 (by first | omega | (subst_vars; omega)) (by first | omega | (subst_vars; omega)) (by first | (unfold alM; rw [if_pos (by assumption)]; done) | (subst_vars; unfold alM inJ; rw [show x + 1 + 1 = x + 2 by omega] at *; simp_all; done)) (Nat.lt_succ_self _) _ (lv_sub hl [2, 3, 4, 1] rfl)
              · have _q := c17
                refine lv_iconst (v := iI (-1)) hx hb d_M_along_59 rfl ?_
                refine lv_iload_n hx hb d_M_along_60 rfl (lv_at hl 1 rfl) ?_
                refine li_isub hx hb d_M_along_61 ?_
                exact fin _ _ _ (by first | (subst_vars; unfold alM inJ; simp_all; done) | (subst_vars; unfold alM inJ; rw [show x + 1 + 1 = x + 2 by omega] at *; simp_all; done)) d_M_along_62
            · have _q := c16
              exact absurd c16 (by omega)
          · have _q := c14
            refine lv_aload_n hx hb d_M_along_25 rfl (lv_at hl 2 rfl) ?_
            refine lv_iload_n hx hb d_M_along_26 rfl (lv_at hl 1 rfl) ?_
            refine li_callr ((va_runV (As := [.int (iI x12)]) (rest := []) ⟨hx, hb, hml, hown, hts⟩ (c_M_byteAt l dC dI kA mo ma mrf mz mls mfp mfm mtx mwd mak mli mlx mat mtk mtf mtt mfa mla mlp mdp msi mpf mpt mdn cb x12 (by exact hcb) (by exact hz) (by omega)) (cw_M_73 hts rfl rfl ⟨Nat.le_of_ble_eq_true rfl, Nat.le_of_ble_eq_true rfl⟩) (li_preV (va_recv hK hP (ci := 10) (q0 := 0) rfl rfl) (hP.sub [0, 1] rfl) hK hN hG.rd) rfl rfl hl.1 rfl (lv_room (Nat.le_of_ble_eq_true rfl)) d_M_along_27 ⟨(by show 0 + 0 ≤ 0; omega), (by show 0 + 0 ≤ 0; omega)⟩).run) ?_
            refine li_callr ((va_runS (As := [.int (iI (byM cb mz x12))]) (rest := []) ⟨hx, hb, hml, hown, hts⟩ (c_M_isDigit l dC dI kA (byM cb mz x12) (by first | omega | (subst_vars; omega))) (cw_M_77 hts rfl rfl ⟨Nat.le_of_ble_eq_true rfl, Nat.le_of_ble_eq_true rfl⟩) (li_preS va_Pnil hK hN hG.rd) rfl rfl hl.1 rfl (lv_room (Nat.le_of_ble_eq_true rfl)) d_M_along_30 ⟨(by show 0 + 0 ≤ 0; omega), (by show 0 + 0 ≤ 0; omega)⟩).run) ?_
            refine li_bnz (tgt := 40) hx hb d_M_along_33 (by decide) (fun c18 => ?_) (fun c18 => ?_)
            · have _q := c18
              obtain ⟨x19, ex19⟩ : ∃ y_9 : Int, y_9 = x12 + 1 := ⟨_, rfl⟩
              refine lv_iinc (v := iI x19) (lv' := [(3, .int (iI x19)), (4, .int (iI 1)), (0, .ref mo), (1, .int (iI x)), (2, .int (iI (bI b)))]) hx hb d_M_along_40 hl (k := 1) rfl (by rw [ex19]; exact iI_add _ _) (by decide) rfl (fun ls hl => ?_)
              refine lv_iinc (v := iI 2) (lv' := [(4, .int (iI 2)), (3, .int (iI x19)), (0, .ref mo), (1, .int (iI x)), (2, .int (iI (bI b)))]) hx hb d_M_along_43 hl (k := 1) rfl (by decide) (by decide) rfl (fun ls hl => ?_)
              refine lv_goto (tgt := 9) hx hb d_M_along_46 (by decide) ?_
              refine lv_iload hx hb d_M_along_9 (lv_at hl 0 rfl) ?_
              refine lv_iconst (v := iI 2) hx hb d_M_along_11 rfl ?_
              refine li_icmp_ge (tgt := 49) hx hb d_M_along_12 (by decide) (by first | omega | (subst_vars; omega) | exact rng256 (byM_r hcb)) (by first | omega | (subst_vars; omega) | exact rng256 (byM_r hcb)) (fun c20 => ?_) (fun c20 => ?_)
              · have _q := c20
                refine lv_aload_n hx hb d_M_along_49 rfl (lv_at hl 2 rfl) ?_
                refine lv_iload_n hx hb d_M_along_50 rfl (lv_at hl 1 rfl) ?_
                refine li_callr ((va_runV (As := [.int (iI x19)]) (rest := []) ⟨hx, hb, hml, hown, hts⟩ (c_M_byteAt l dC dI kA mo ma mrf mz mls mfp mfm mtx mwd mak mli mlx mat mtk mtf mtt mfa mla mlp mdp msi mpf mpt mdn cb x19 (by exact hcb) (by exact hz) (by omega)) (cw_M_73 hts rfl rfl ⟨Nat.le_of_ble_eq_true rfl, Nat.le_of_ble_eq_true rfl⟩) (li_preV (va_recv hK hP (ci := 10) (q0 := 0) rfl rfl) (hP.sub [0, 1] rfl) hK hN hG.rd) rfl rfl hl.1 rfl (lv_room (Nat.le_of_ble_eq_true rfl)) d_M_along_51 ⟨(by show 0 + 0 ≤ 0; omega), (by show 0 + 0 ≤ 0; omega)⟩).run) ?_
                refine lv_bipush (v := iI 31) hx hb d_M_along_54 (by decide) ?_
                refine li_icmp_eq (tgt := 63) hx hb d_M_along_56 (by decide) (by first | omega | (subst_vars; omega) | exact rng256 (byM_r hcb)) (by first | omega | (subst_vars; omega) | exact rng256 (byM_r hcb)) (fun c21 => ?_) (fun c21 => ?_)
                · have _q := c21
                  exact K_63 ((mz + 2 - x19).toNat + 1) x19 1000 (by first | omega | (subst_vars; omega)) (by first | omega | (subst_vars; omega)) (by first | (unfold alM; rw [if_pos (by assumption)]; done) | (subst_vars; unfold alM inJ; rw [show x + 1 + 1 = x + 2 by omega] at *; simp_all; done)) (Nat.lt_succ_self _) _ (lv_sub hl [2, 3, 4, 1] rfl)
                · have _q := c21
                  refine lv_iconst (v := iI (-1)) hx hb d_M_along_59 rfl ?_
                  refine lv_iload_n hx hb d_M_along_60 rfl (lv_at hl 1 rfl) ?_
                  refine li_isub hx hb d_M_along_61 ?_
                  exact fin _ _ _ (by first | (subst_vars; unfold alM inJ; simp_all; done) | (subst_vars; unfold alM inJ; rw [show x + 1 + 1 = x + 2 by omega] at *; simp_all; done)) d_M_along_62
              · have _q := c20
                exact absurd c20 (by omega)
            · have _q := c18
              refine lv_iconst (v := iI (-1)) hx hb d_M_along_36 rfl ?_
              refine lv_iload_n hx hb d_M_along_37 rfl (lv_at hl 1 rfl) ?_
              refine li_isub hx hb d_M_along_38 ?_
              exact fin _ _ _ (by first | (subst_vars; unfold alM inJ; simp_all; done) | (subst_vars; unfold alM inJ; rw [show x + 1 + 1 = x + 2 by omega] at *; simp_all; done)) d_M_along_39
      · have _q := c11
        refine lv_aload_n hx hb d_M_along_25 rfl (lv_at hl 2 rfl) ?_
        refine lv_iload_n hx hb d_M_along_26 rfl (lv_at hl 1 rfl) ?_
        refine li_callr ((va_runV (As := [.int (iI x)]) (rest := []) ⟨hx, hb, hml, hown, hts⟩ (c_M_byteAt l dC dI kA mo ma mrf mz mls mfp mfm mtx mwd mak mli mlx mat mtk mtf mtt mfa mla mlp mdp msi mpf mpt mdn cb x (by exact hcb) (by exact hz) (by omega)) (cw_M_73 hts rfl rfl ⟨Nat.le_of_ble_eq_true rfl, Nat.le_of_ble_eq_true rfl⟩) (li_preV (va_recv hK hP (ci := 10) (q0 := 0) rfl rfl) (hP.sub [0, 1] rfl) hK hN hG.rd) rfl rfl hl.1 rfl (lv_room (Nat.le_of_ble_eq_true rfl)) d_M_along_27 ⟨(by show 0 + 0 ≤ 0; omega), (by show 0 + 0 ≤ 0; omega)⟩).run) ?_
        refine li_callr ((va_runS (As := [.int (iI (byM cb mz x))]) (rest := []) ⟨hx, hb, hml, hown, hts⟩ (c_M_isDigit l dC dI kA (byM cb mz x) (by first | omega | (subst_vars; omega))) (cw_M_77 hts rfl rfl ⟨Nat.le_of_ble_eq_true rfl, Nat.le_of_ble_eq_true rfl⟩) (li_preS va_Pnil hK hN hG.rd) rfl rfl hl.1 rfl (lv_room (Nat.le_of_ble_eq_true rfl)) d_M_along_30 ⟨(by show 0 + 0 ≤ 0; omega), (by show 0 + 0 ≤ 0; omega)⟩).run) ?_
        refine li_bnz (tgt := 40) hx hb d_M_along_33 (by decide) (fun c22 => ?_) (fun c22 => ?_)
        · have _q := c22
          obtain ⟨x23, ex23⟩ : ∃ y_9 : Int, y_9 = x + 1 := ⟨_, rfl⟩
          refine lv_iinc (v := iI x23) (lv' := [(3, .int (iI x23)), (4, .int (iI 0)), (0, .ref mo), (1, .int (iI x)), (2, .int (iI (bI b)))]) hx hb d_M_along_40 hl (k := 1) rfl (by rw [ex23]; exact iI_add _ _) (by decide) rfl (fun ls hl => ?_)
          refine lv_iinc (v := iI 1) (lv' := [(4, .int (iI 1)), (3, .int (iI x23)), (0, .ref mo), (1, .int (iI x)), (2, .int (iI (bI b)))]) hx hb d_M_along_43 hl (k := 1) rfl (by decide) (by decide) rfl (fun ls hl => ?_)
          refine lv_goto (tgt := 9) hx hb d_M_along_46 (by decide) ?_
          refine lv_iload hx hb d_M_along_9 (lv_at hl 0 rfl) ?_
          refine lv_iconst (v := iI 2) hx hb d_M_along_11 rfl ?_
          refine li_icmp_ge (tgt := 49) hx hb d_M_along_12 (by decide) (by first | omega | (subst_vars; omega) | exact rng256 (byM_r hcb)) (by first | omega | (subst_vars; omega) | exact rng256 (byM_r hcb)) (fun c24 => ?_) (fun c24 => ?_)
          · have _q := c24
            exact absurd c24 (by omega)
          · have _q := c24
            refine lv_aload_n hx hb d_M_along_15 rfl (lv_at hl 2 rfl) ?_
            refine lv_iload_n hx hb d_M_along_16 rfl (lv_at hl 1 rfl) ?_
            refine li_callr ((va_runV (As := [.int (iI x23)]) (rest := []) ⟨hx, hb, hml, hown, hts⟩ (c_M_byteAt l dC dI kA mo ma mrf mz mls mfp mfm mtx mwd mak mli mlx mat mtk mtf mtt mfa mla mlp mdp msi mpf mpt mdn cb x23 (by exact hcb) (by exact hz) (by omega)) (cw_M_73 hts rfl rfl ⟨Nat.le_of_ble_eq_true rfl, Nat.le_of_ble_eq_true rfl⟩) (li_preV (va_recv hK hP (ci := 10) (q0 := 0) rfl rfl) (hP.sub [0, 1] rfl) hK hN hG.rd) rfl rfl hl.1 rfl (lv_room (Nat.le_of_ble_eq_true rfl)) d_M_along_17 ⟨(by show 0 + 0 ≤ 0; omega), (by show 0 + 0 ≤ 0; omega)⟩).run) ?_
            refine lv_bipush (v := iI 32) hx hb d_M_along_20 (by decide) ?_
            refine li_icmp_eq (tgt := 40) hx hb d_M_along_22 (by decide) (by first | omega | (subst_vars; omega) | exact rng256 (byM_r hcb)) (by first | omega | (subst_vars; omega) | exact rng256 (byM_r hcb)) (fun c25 => ?_) (fun c25 => ?_)
            · have _q := c25
              obtain ⟨x26, ex26⟩ : ∃ y_9 : Int, y_9 = x23 + 1 := ⟨_, rfl⟩
              refine lv_iinc (v := iI x26) (lv' := [(3, .int (iI x26)), (4, .int (iI 1)), (0, .ref mo), (1, .int (iI x)), (2, .int (iI (bI b)))]) hx hb d_M_along_40 hl (k := 1) rfl (by rw [ex26]; exact iI_add _ _) (by decide) rfl (fun ls hl => ?_)
              refine lv_iinc (v := iI 2) (lv' := [(4, .int (iI 2)), (3, .int (iI x26)), (0, .ref mo), (1, .int (iI x)), (2, .int (iI (bI b)))]) hx hb d_M_along_43 hl (k := 1) rfl (by decide) (by decide) rfl (fun ls hl => ?_)
              refine lv_goto (tgt := 9) hx hb d_M_along_46 (by decide) ?_
              refine lv_iload hx hb d_M_along_9 (lv_at hl 0 rfl) ?_
              refine lv_iconst (v := iI 2) hx hb d_M_along_11 rfl ?_
              refine li_icmp_ge (tgt := 49) hx hb d_M_along_12 (by decide) (by first | omega | (subst_vars; omega) | exact rng256 (byM_r hcb)) (by first | omega | (subst_vars; omega) | exact rng256 (byM_r hcb)) (fun c27 => ?_) (fun c27 => ?_)
              · have _q := c27
                refine lv_aload_n hx hb d_M_along_49 rfl (lv_at hl 2 rfl) ?_
                refine lv_iload_n hx hb d_M_along_50 rfl (lv_at hl 1 rfl) ?_
                refine li_callr ((va_runV (As := [.int (iI x26)]) (rest := []) ⟨hx, hb, hml, hown, hts⟩ (c_M_byteAt l dC dI kA mo ma mrf mz mls mfp mfm mtx mwd mak mli mlx mat mtk mtf mtt mfa mla mlp mdp msi mpf mpt mdn cb x26 (by exact hcb) (by exact hz) (by omega)) (cw_M_73 hts rfl rfl ⟨Nat.le_of_ble_eq_true rfl, Nat.le_of_ble_eq_true rfl⟩) (li_preV (va_recv hK hP (ci := 10) (q0 := 0) rfl rfl) (hP.sub [0, 1] rfl) hK hN hG.rd) rfl rfl hl.1 rfl (lv_room (Nat.le_of_ble_eq_true rfl)) d_M_along_51 ⟨(by show 0 + 0 ≤ 0; omega), (by show 0 + 0 ≤ 0; omega)⟩).run) ?_
                refine lv_bipush (v := iI 31) hx hb d_M_along_54 (by decide) ?_
                refine li_icmp_eq (tgt := 63) hx hb d_M_along_56 (by decide) (by first | omega | (subst_vars; omega) | exact rng256 (byM_r hcb)) (by first | omega | (subst_vars; omega) | exact rng256 (byM_r hcb)) (fun c28 => ?_) (fun c28 => ?_)
                · have _q := c28
                  exact K_63 ((mz + 2 - x26).toNat + 1) x26 1000 (by first | omega | (subst_vars; omega)) (by first | omega | (subst_vars; omega)) (by first | (unfold alM; rw [if_pos (by assumption)]; done) | (subst_vars; unfold alM inJ; rw [show x + 1 + 1 = x + 2 by omega] at *; simp_all; done)) (Nat.lt_succ_self _) _ (lv_sub hl [2, 3, 4, 1] rfl)
                · have _q := c28
                  refine lv_iconst (v := iI (-1)) hx hb d_M_along_59 rfl ?_
                  refine lv_iload_n hx hb d_M_along_60 rfl (lv_at hl 1 rfl) ?_
                  refine li_isub hx hb d_M_along_61 ?_
                  exact fin _ _ _ (by first | (subst_vars; unfold alM inJ; simp_all; done) | (subst_vars; unfold alM inJ; rw [show x + 1 + 1 = x + 2 by omega] at *; simp_all; done)) d_M_along_62
              · have _q := c27
                exact absurd c27 (by omega)
            · have _q := c25
              refine lv_aload_n hx hb d_M_along_25 rfl (lv_at hl 2 rfl) ?_
              refine lv_iload_n hx hb d_M_along_26 rfl (lv_at hl 1 rfl) ?_
              refine li_callr ((va_runV (As := [.int (iI x23)]) (rest := []) ⟨hx, hb, hml, hown, hts⟩ (c_M_byteAt l dC dI kA mo ma mrf mz mls mfp mfm mtx mwd mak mli mlx mat mtk mtf mtt mfa mla mlp mdp msi mpf mpt mdn cb x23 (by exact hcb) (by exact hz) (by omega)) (cw_M_73 hts rfl rfl ⟨Nat.le_of_ble_eq_true rfl, Nat.le_of_ble_eq_true rfl⟩) (li_preV (va_recv hK hP (ci := 10) (q0 := 0) rfl rfl) (hP.sub [0, 1] rfl) hK hN hG.rd) rfl rfl hl.1 rfl (lv_room (Nat.le_of_ble_eq_true rfl)) d_M_along_27 ⟨(by show 0 + 0 ≤ 0; omega), (by show 0 + 0 ≤ 0; omega)⟩).run) ?_
              refine li_callr ((va_runS (As := [.int (iI (byM cb mz x23))]) (rest := []) ⟨hx, hb, hml, hown, hts⟩ (c_M_isDigit l dC dI kA (byM cb mz x23) (by first | omega | (subst_vars; omega))) (cw_M_77 hts rfl rfl ⟨Nat.le_of_ble_eq_true rfl, Nat.le_of_ble_eq_true rfl⟩) (li_preS va_Pnil hK hN hG.rd) rfl rfl hl.1 rfl (lv_room (Nat.le_of_ble_eq_true rfl)) d_M_along_30 ⟨(by show 0 + 0 ≤ 0; omega), (by show 0 + 0 ≤ 0; omega)⟩).run) ?_
              refine li_bnz (tgt := 40) hx hb d_M_along_33 (by decide) (fun c29 => ?_) (fun c29 => ?_)
              · have _q := c29
                obtain ⟨x30, ex30⟩ : ∃ y_9 : Int, y_9 = x23 + 1 := ⟨_, rfl⟩
                refine lv_iinc (v := iI x30) (lv' := [(3, .int (iI x30)), (4, .int (iI 1)), (0, .ref mo), (1, .int (iI x)), (2, .int (iI (bI b)))]) hx hb d_M_along_40 hl (k := 1) rfl (by rw [ex30]; exact iI_add _ _) (by decide) rfl (fun ls hl => ?_)
                refine lv_iinc (v := iI 2) (lv' := [(4, .int (iI 2)), (3, .int (iI x30)), (0, .ref mo), (1, .int (iI x)), (2, .int (iI (bI b)))]) hx hb d_M_along_43 hl (k := 1) rfl (by decide) (by decide) rfl (fun ls hl => ?_)
                refine lv_goto (tgt := 9) hx hb d_M_along_46 (by decide) ?_
                refine lv_iload hx hb d_M_along_9 (lv_at hl 0 rfl) ?_
                refine lv_iconst (v := iI 2) hx hb d_M_along_11 rfl ?_
                refine li_icmp_ge (tgt := 49) hx hb d_M_along_12 (by decide) (by first | omega | (subst_vars; omega) | exact rng256 (byM_r hcb)) (by first | omega | (subst_vars; omega) | exact rng256 (byM_r hcb)) (fun c31 => ?_) (fun c31 => ?_)
                · have _q := c31
                  refine lv_aload_n hx hb d_M_along_49 rfl (lv_at hl 2 rfl) ?_
                  refine lv_iload_n hx hb d_M_along_50 rfl (lv_at hl 1 rfl) ?_
                  refine li_callr ((va_runV (As := [.int (iI x30)]) (rest := []) ⟨hx, hb, hml, hown, hts⟩ (c_M_byteAt l dC dI kA mo ma mrf mz mls mfp mfm mtx mwd mak mli mlx mat mtk mtf mtt mfa mla mlp mdp msi mpf mpt mdn cb x30 (by exact hcb) (by exact hz) (by omega)) (cw_M_73 hts rfl rfl ⟨Nat.le_of_ble_eq_true rfl, Nat.le_of_ble_eq_true rfl⟩) (li_preV (va_recv hK hP (ci := 10) (q0 := 0) rfl rfl) (hP.sub [0, 1] rfl) hK hN hG.rd) rfl rfl hl.1 rfl (lv_room (Nat.le_of_ble_eq_true rfl)) d_M_along_51 ⟨(by show 0 + 0 ≤ 0; omega), (by show 0 + 0 ≤ 0; omega)⟩).run) ?_
                  refine lv_bipush (v := iI 31) hx hb d_M_along_54 (by decide) ?_
                  refine li_icmp_eq (tgt := 63) hx hb d_M_along_56 (by decide) (by first | omega | (subst_vars; omega) | exact rng256 (byM_r hcb)) (by first | omega | (subst_vars; omega) | exact rng256 (byM_r hcb)) (fun c32 => ?_) (fun c32 => ?_)
                  · have _q := c32
                    exact K_63 ((mz + 2 - x30).toNat + 1) x30 1000 (by first | omega | (subst_vars; omega)) (by first | omega | (subst_vars; omega)) (by first | (unfold alM; rw [if_pos (by assumption)]; done) | (subst_vars; unfold alM inJ; rw [show x + 1 + 1 = x + 2 by omega] at *; simp_all; done)) (Nat.lt_succ_self _) _ (lv_sub hl [2, 3, 4, 1] rfl)
                  · have _q := c32
                    refine lv_iconst (v := iI (-1)) hx hb d_M_along_59 rfl ?_
                    refine lv_iload_n hx hb d_M_along_60 rfl (lv_at hl 1 rfl) ?_
                    refine li_isub hx hb d_M_along_61 ?_
                    exact fin _ _ _ (by first | (subst_vars; unfold alM inJ; simp_all; done) | (subst_vars; unfold alM inJ; rw [show x + 1 + 1 = x + 2 by omega] at *; simp_all; done)) d_M_along_62
                · have _q := c31
                  exact absurd c31 (by omega)
              · have _q := c29
                refine lv_iconst (v := iI (-1)) hx hb d_M_along_36 rfl ?_
                refine lv_iload_n hx hb d_M_along_37 rfl (lv_at hl 1 rfl) ?_
                refine li_isub hx hb d_M_along_38 ?_
                exact fin _ _ _ (by first | (subst_vars; unfold alM inJ; simp_all; done) | (subst_vars; unfold alM inJ; rw [show x + 1 + 1 = x + 2 by omega] at *; simp_all; done)) d_M_along_39
        · have _q := c22
          refine lv_iconst (v := iI (-1)) hx hb d_M_along_36 rfl ?_
          refine lv_iload_n hx hb d_M_along_37 rfl (lv_at hl 1 rfl) ?_
          refine li_isub hx hb d_M_along_38 ?_
          exact fin _ _ _ (by first | (subst_vars; unfold alM inJ; simp_all; done) | (subst_vars; unfold alM inJ; rw [show x + 1 + 1 = x + 2 by omega] at *; simp_all; done)) d_M_along_39
theorem d_M_gatherParts_0 : decode b_M_gatherParts 0 = .ok (.iload_n 3, 1) := by decide +kernel
theorem d_M_gatherParts_1 : decode b_M_gatherParts 1 = .ok (.iconst 2, 1) := by decide +kernel
theorem d_M_gatherParts_2 : decode b_M_gatherParts 2 = .ok (.iadd, 1) := by decide +kernel
theorem d_M_gatherParts_3 : decode b_M_gatherParts 3 = .ok (.istore 5, 2) := by decide +kernel
theorem d_M_gatherParts_5 : decode b_M_gatherParts 5 = .ok (.iload 5, 2) := by decide +kernel
theorem d_M_gatherParts_7 : decode b_M_gatherParts 7 = .ok (.iload 4, 2) := by decide +kernel
theorem d_M_gatherParts_9 : decode b_M_gatherParts 9 = .ok (.if_icmp .ge 140, 3) := by decide +kernel
theorem d_M_gatherParts_12 : decode b_M_gatherParts 12 = .ok (.aload_n 0, 1) := by decide +kernel
theorem d_M_gatherParts_13 : decode b_M_gatherParts 13 = .ok (.getfield 13, 3) := by decide +kernel
theorem d_M_gatherParts_16 : decode b_M_gatherParts 16 = .ok (.iload 5, 2) := by decide +kernel
theorem d_M_gatherParts_18 : decode b_M_gatherParts 18 = .ok (.iconst 1, 1) := by decide +kernel
theorem d_M_gatherParts_19 : decode b_M_gatherParts 19 = .ok (.iadd, 1) := by decide +kernel
theorem d_M_gatherParts_20 : decode b_M_gatherParts 20 = .ok (.iaload, 1) := by decide +kernel
theorem d_M_gatherParts_21 : decode b_M_gatherParts 21 = .ok (.istore 6, 2) := by decide +kernel
theorem d_M_gatherParts_23 : decode b_M_gatherParts 23 = .ok (.iload 5, 2) := by decide +kernel
theorem d_M_gatherParts_25 : decode b_M_gatherParts 25 = .ok (.iconst 2, 1) := by decide +kernel
theorem d_M_gatherParts_26 : decode b_M_gatherParts 26 = .ok (.iadd, 1) := by decide +kernel
theorem d_M_gatherParts_27 : decode b_M_gatherParts 27 = .ok (.istore 7, 2) := by decide +kernel
theorem d_M_gatherParts_29 : decode b_M_gatherParts 29 = .ok (.iload 7, 2) := by decide +kernel
theorem d_M_gatherParts_31 : decode b_M_gatherParts 31 = .ok (.istore 8, 2) := by decide +kernel
theorem d_M_gatherParts_33 : decode b_M_gatherParts 33 = .ok (.aload_n 0, 1) := by decide +kernel
theorem d_M_gatherParts_34 : decode b_M_gatherParts 34 = .ok (.getfield 13, 3) := by decide +kernel
theorem d_M_gatherParts_37 : decode b_M_gatherParts 37 = .ok (.iload 8, 2) := by decide +kernel
theorem d_M_gatherParts_39 : decode b_M_gatherParts 39 = .ok (.iaload, 1) := by decide +kernel
theorem d_M_gatherParts_40 : decode b_M_gatherParts 40 = .ok (.bipush 30, 2) := by decide +kernel
theorem d_M_gatherParts_42 : decode b_M_gatherParts 42 = .ok (.if_icmp .eq 21, 3) := by decide +kernel
theorem d_M_gatherParts_45 : decode b_M_gatherParts 45 = .ok (.aload_n 0, 1) := by decide +kernel
theorem d_M_gatherParts_46 : decode b_M_gatherParts 46 = .ok (.getfield 13, 3) := by decide +kernel
theorem d_M_gatherParts_49 : decode b_M_gatherParts 49 = .ok (.iload 8, 2) := by decide +kernel
theorem d_M_gatherParts_51 : decode b_M_gatherParts 51 = .ok (.iaload, 1) := by decide +kernel
theorem d_M_gatherParts_52 : decode b_M_gatherParts 52 = .ok (.bipush 31, 2) := by decide +kernel
theorem d_M_gatherParts_54 : decode b_M_gatherParts 54 = .ok (.if_icmp .eq 9, 3) := by decide +kernel
theorem d_M_gatherParts_57 : decode b_M_gatherParts 57 = .ok (.iinc 8 1, 3) := by decide +kernel
theorem d_M_gatherParts_60 : decode b_M_gatherParts 60 = .ok (.goto (-27), 3) := by decide +kernel
theorem d_M_gatherParts_63 : decode b_M_gatherParts 63 = .ok (.iload_n 1, 1) := by decide +kernel
theorem d_M_gatherParts_64 : decode b_M_gatherParts 64 = .ok (.iload_n 2, 1) := by decide +kernel
theorem d_M_gatherParts_65 : decode b_M_gatherParts 65 = .ok (.iload 6, 2) := by decide +kernel
theorem d_M_gatherParts_67 : decode b_M_gatherParts 67 = .ok (.invokestatic 127, 3) := by decide +kernel
theorem d_M_gatherParts_70 : decode b_M_gatherParts 70 = .ok (.ifCond .eq 72, 3) := by decide +kernel
theorem d_M_gatherParts_73 : decode b_M_gatherParts 73 = .ok (.iload_n 1, 1) := by decide +kernel
theorem d_M_gatherParts_74 : decode b_M_gatherParts 74 = .ok (.iconst 1, 1) := by decide +kernel
theorem d_M_gatherParts_75 : decode b_M_gatherParts 75 = .ok (.if_icmp .ne 38, 3) := by decide +kernel
theorem d_M_gatherParts_78 : decode b_M_gatherParts 78 = .ok (.iload 6, 2) := by decide +kernel
theorem d_M_gatherParts_80 : decode b_M_gatherParts 80 = .ok (.bipush 97, 2) := by decide +kernel
theorem d_M_gatherParts_82 : decode b_M_gatherParts 82 = .ok (.if_icmp .ne 31, 3) := by decide +kernel
theorem d_M_gatherParts_85 : decode b_M_gatherParts 85 = .ok (.aload_n 0, 1) := by decide +kernel
theorem d_M_gatherParts_86 : decode b_M_gatherParts 86 = .ok (.getfield 13, 3) := by decide +kernel
theorem d_M_gatherParts_89 : decode b_M_gatherParts 89 = .ok (.iload_n 3, 1) := by decide +kernel
theorem d_M_gatherParts_90 : decode b_M_gatherParts 90 = .ok (.iconst 1, 1) := by decide +kernel
theorem d_M_gatherParts_91 : decode b_M_gatherParts 91 = .ok (.iadd, 1) := by decide +kernel
theorem d_M_gatherParts_92 : decode b_M_gatherParts 92 = .ok (.iaload, 1) := by decide +kernel
theorem d_M_gatherParts_93 : decode b_M_gatherParts 93 = .ok (.invokestatic 77, 3) := by decide +kernel
theorem d_M_gatherParts_96 : decode b_M_gatherParts 96 = .ok (.ifCond .eq 17, 3) := by decide +kernel
theorem d_M_gatherParts_99 : decode b_M_gatherParts 99 = .ok (.aload_n 0, 1) := by decide +kernel
theorem d_M_gatherParts_100 : decode b_M_gatherParts 100 = .ok (.getfield 13, 3) := by decide +kernel
theorem d_M_gatherParts_103 : decode b_M_gatherParts 103 = .ok (.iload_n 3, 1) := by decide +kernel
theorem d_M_gatherParts_104 : decode b_M_gatherParts 104 = .ok (.iconst 1, 1) := by decide +kernel
theorem d_M_gatherParts_105 : decode b_M_gatherParts 105 = .ok (.iadd, 1) := by decide +kernel
theorem d_M_gatherParts_106 : decode b_M_gatherParts 106 = .ok (.iaload, 1) := by decide +kernel
theorem d_M_gatherParts_107 : decode b_M_gatherParts 107 = .ok (.bipush 48, 2) := by decide +kernel
theorem d_M_gatherParts_109 : decode b_M_gatherParts 109 = .ok (.isub, 1) := by decide +kernel
theorem d_M_gatherParts_110 : decode b_M_gatherParts 110 = .ok (.goto 4, 3) := by decide +kernel
theorem d_M_gatherParts_113 : decode b_M_gatherParts 113 = .ok (.iconst 0, 1) := by decide +kernel
theorem d_M_gatherParts_114 : decode b_M_gatherParts 114 = .ok (.istore 9, 2) := by decide +kernel
theorem d_M_gatherParts_116 : decode b_M_gatherParts 116 = .ok (.aload_n 0, 1) := by decide +kernel
theorem d_M_gatherParts_117 : decode b_M_gatherParts 117 = .ok (.iload 7, 2) := by decide +kernel
theorem d_M_gatherParts_119 : decode b_M_gatherParts 119 = .ok (.iload 9, 2) := by decide +kernel
theorem d_M_gatherParts_121 : decode b_M_gatherParts 121 = .ok (.iadd, 1) := by decide +kernel
theorem d_M_gatherParts_122 : decode b_M_gatherParts 122 = .ok (.iload 8, 2) := by decide +kernel
theorem d_M_gatherParts_124 : decode b_M_gatherParts 124 = .ok (.if_icmp .ge 11, 3) := by decide +kernel
theorem d_M_gatherParts_127 : decode b_M_gatherParts 127 = .ok (.iload 7, 2) := by decide +kernel
theorem d_M_gatherParts_129 : decode b_M_gatherParts 129 = .ok (.iload 9, 2) := by decide +kernel
theorem d_M_gatherParts_131 : decode b_M_gatherParts 131 = .ok (.iadd, 1) := by decide +kernel
theorem d_M_gatherParts_132 : decode b_M_gatherParts 132 = .ok (.goto 5, 3) := by decide +kernel
theorem d_M_gatherParts_135 : decode b_M_gatherParts 135 = .ok (.iload 8, 2) := by decide +kernel
theorem d_M_gatherParts_137 : decode b_M_gatherParts 137 = .ok (.iload 8, 2) := by decide +kernel
theorem d_M_gatherParts_139 : decode b_M_gatherParts 139 = .ok (.invokevirtual 119, 3) := by decide +kernel
theorem d_M_gatherParts_142 : decode b_M_gatherParts 142 = .ok (.iload 8, 2) := by decide +kernel
theorem d_M_gatherParts_144 : decode b_M_gatherParts 144 = .ok (.istore 5, 2) := by decide +kernel
theorem d_M_gatherParts_146 : decode b_M_gatherParts 146 = .ok (.goto (-141), 3) := by decide +kernel
theorem d_M_gatherParts_149 : decode b_M_gatherParts 149 = .ok (.return_, 1) := by decide +kernel
set_option maxHeartbeats 4000000 in
set_option maxRecDepth 100000 in
theorem c_M_gatherParts (l : Launch) (dC : Nat → ClassId) (dI : Nat → Nat → Nat) (kA : Nat → ClassId) (sz : Nat) (mo : Nat) (ma : Nat → Nat) (mrf : Int) (mz : Int) (mls : Int) (mfp : Int) (mfm : Int) (mtx : Int) (mwd : Int) (mak : Int) (mli : Int) (mlx : Int) (mat : Int) (mtk : Int) (mtf : Int) (mtt : Int) (mfa : Int) (mla : Int) (mlp : Int) (mdp : Int) (msi : Int) (mpf : Int) (mpt : Int) (mdn : Bool) (ca : Nat → Int) (ctf : Nat → Int) (ctt : Nat → Int) (ix : Int) (tag : Int) (x : Int) (y : Int) (ol : List (Int × Int)) (lo : Int) (hi : Int) (hca : C2 ca) (hix : -2147483648 ≤ ix ∧ ix < 2147483648) (htag : -2147483648 ≤ tag ∧ tag < 2147483648) (hx0 : 0 ≤ x ∧ x + 2 < y ∧ y < 4000 ∧ y < x + 400 ∧ lo ≤ x ∧ y ≤ hi) (hy30 : ca y.toNat = 30) (hfr : (∀ z : Int, x ≤ z → z < y → ca z.toNat ≠ 30 ∧ (ca z.toNat = 31 → x + 2 ≤ z ∧ z + 1 < y ∧ ca (z + 1).toNat ≠ 31))) (h31 : ca (x + 2).toNat = 31) (hHL : HL ol mtx ctf ctt) (hLB : LB ol lo hi) (hcp : mtx + (y - x) ≤ 400) : Met l y_M_gatherParts (wsy y_M_gatherParts b_M_gatherParts 10 none) (rmd 1 0 0) (li_Pr (dC, dI) CL (TY kA) [.ref mo, .int (iI ix), .int (iI tag), .int (iI x), .int (iI y)] (fun h => h.size = sz ∧ va_P (dC, dI) CL [(mo, .inr (10, [.int (iI mrf), .ref (ma 0), .int (iI mz), .ref (ma 1), .ref (ma 2), .int (iI mls), .int (iI mfp), .int (iI mfm), .ref (ma 3), .int (iI mtx), .ref (ma 4), .ref (ma 5), .int (iI mwd), .ref (ma 6), .ref (ma 7), .int (iI mak), .ref (ma 8), .ref (ma 9), .int (iI mli), .int (iI mlx), .ref (ma 10), .ref (ma 11), .int (iI mat), .int (iI mtk), .int (iI mtf), .int (iI mtt), .int (iI mfa), .int (iI mla), .int (iI mlp), .int (iI mdp), .ref (ma 12), .ref (ma 13), .int (iI msi), .int (iI (bI mdn)), .int (iI mpf), .int (iI mpt)])), (ma 1, .inl (kA 0, 4120, .inl (aI ca))), (ma 4, .inl (kA 0, 400, .inl (aI ctf))), (ma 5, .inl (kA 0, 400, .inl (aI ctt)))] h ∧ va_D (fun q => dI 100 0 ≤ q) [(mo, .inr (10, [.int (iI mrf), .ref (ma 0), .int (iI mz), .ref (ma 1), .ref (ma 2), .int (iI mls), .int (iI mfp), .int (iI mfm), .ref (ma 3), .int (iI mtx), .ref (ma 4), .ref (ma 5), .int (iI mwd), .ref (ma 6), .ref (ma 7), .int (iI mak), .ref (ma 8), .ref (ma 9), .int (iI mli), .int (iI mlx), .ref (ma 10), .ref (ma 11), .int (iI mat), .int (iI mtk), .int (iI mtf), .int (iI mtt), .int (iI mfa), .int (iI mla), .int (iI mlp), .int (iI mdp), .ref (ma 12), .ref (ma 13), .int (iI msi), .int (iI (bI mdn)), .int (iI mpf), .int (iI mpt)])), (ma 1, .inl (kA 0, 4120, .inl (aI ca))), (ma 4, .inl (kA 0, 400, .inl (aI ctf))), (ma 5, .inl (kA 0, 400, .inl (aI ctt)))] ∧ (fun _ => True) h)) (li_Qw (S := (Int) × (Nat → Int) × (Nat → Int)) (dC, dI) CL (fun u => HL (ol ++ gpA ca ix tag x y) u.1 u.2.1 u.2.2 ∧ LB (ol ++ gpA ca ix tag x y) lo hi ∧ u.1 ≤ mtx + (y - x)) (fun _ => none) (fun u => [(mo, .inr (10, [.int (iI mrf), .ref (ma 0), .int (iI mz), .ref (ma 1), .ref (ma 2), .int (iI mls), .int (iI mfp), .int (iI mfm), .ref (ma 3), .int (iI u.1), .ref (ma 4), .ref (ma 5), .int (iI mwd), .ref (ma 6), .ref (ma 7), .int (iI mak), .ref (ma 8), .ref (ma 9), .int (iI mli), .int (iI mlx), .ref (ma 10), .ref (ma 11), .int (iI mat), .int (iI mtk), .int (iI mtf), .int (iI mtt), .int (iI mfa), .int (iI mla), .int (iI mlp), .int (iI mdp), .ref (ma 12), .ref (ma 13), .int (iI msi), .int (iI (bI mdn)), .int (iI mpf), .int (iI mpt)])), (ma 1, .inl (kA 0, 4120, .inl (aI ca))), (ma 4, .inl (kA 0, 400, .inl (aI u.2.1))), (ma 5, .inl (kA 0, 400, .inl (aI u.2.2)))]) (va_A [(mo, .inr (10, [.int (iI mrf), .ref (ma 0), .int (iI mz), .ref (ma 1), .ref (ma 2), .int (iI mls), .int (iI mfp), .int (iI mfm), .ref (ma 3), .int (iI mtx), .ref (ma 4), .ref (ma 5), .int (iI mwd), .ref (ma 6), .ref (ma 7), .int (iI mak), .ref (ma 8), .ref (ma 9), .int (iI mli), .int (iI mlx), .ref (ma 10), .ref (ma 11), .int (iI mat), .int (iI mtk), .int (iI mtf), .int (iI mtt), .int (iI mfa), .int (iI mla), .int (iI mlp), .int (iI mdp), .ref (ma 12), .ref (ma 13), .int (iI msi), .int (iI (bI mdn)), .int (iI mpf), .int (iI mpt)])), (ma 1, .inl (kA 0, 4120, .inl (aI ca))), (ma 4, .inl (kA 0, 400, .inl (aI ctf))), (ma 5, .inl (kA 0, 400, .inl (aI ctt)))] sz)) 0 0 (va_A [(mo, .inr (10, [.int (iI mrf), .ref (ma 0), .int (iI mz), .ref (ma 1), .ref (ma 2), .int (iI mls), .int (iI mfp), .int (iI mfm), .ref (ma 3), .int (iI mtx), .ref (ma 4), .ref (ma 5), .int (iI mwd), .ref (ma 6), .ref (ma 7), .int (iI mak), .ref (ma 8), .ref (ma 9), .int (iI mli), .int (iI mlx), .ref (ma 10), .ref (ma 11), .int (iI mat), .int (iI mtk), .int (iI mtf), .int (iI mtt), .int (iI mfa), .int (iI mla), .int (iI mlp), .int (iI mdp), .ref (ma 12), .ref (ma 13), .int (iI msi), .int (iI (bI mdn)), .int (iI mpf), .int (iI mpt)])), (ma 1, .inl (kA 0, 4120, .inl (aI ca))), (ma 4, .inl (kA 0, 400, .inl (aI ctf))), (ma 5, .inl (kA 0, 400, .inl (aI ctt)))] sz) := by
  refine li_mwv (by decide) (Nat.le_of_ble_eq_true rfl) ?_
  intro p e s m args below meth c Q A C hP hD hBx hK hN hG hA hAi hAN fin ls hl
  obtain ⟨hx, hb, hr, hml, hown, hts, hlocks, hin⟩ := C
  have hown : s.vm.findClass R_M = some m.cls := hown
  have hl : lv_has ls 10 [(0, .ref mo), (1, .int (iI ix)), (2, .int (iI tag)), (3, .int (iI x)), (4, .int (iI y))] := hl
  have K_5 : ∀ (nn_5 : Nat) (q : Int) (f : Nat) (vn : Int) (vf : Nat → Int) (vt : Nat → Int) (tl : List (Int × Int)), (x + 2 ≤ q ∧ q ≤ y) → (q < y → ca q.toNat = 31) → ((y - q).toNat < f) → (HL tl vn vf vt) → (LB tl lo hi) → (vn + (y - q) ≤ mtx + (y - x)) → (tl ++ gpT ca ix tag x y f q = ol ++ gpA ca ix tag x y) → ((y - q).toNat < nn_5) → ∀ (H : Heap) (locs : List Loc), va_P (dC, dI) CL [(mo, .inr (10, [.int (iI mrf), .ref (ma 0), .int (iI mz), .ref (ma 1), .ref (ma 2), .int (iI mls), .int (iI mfp), .int (iI mfm), .ref (ma 3), .int (iI vn), .ref (ma 4), .ref (ma 5), .int (iI mwd), .ref (ma 6), .ref (ma 7), .int (iI mak), .ref (ma 8), .ref (ma 9), .int (iI mli), .int (iI mlx), .ref (ma 10), .ref (ma 11), .int (iI mat), .int (iI mtk), .int (iI mtf), .int (iI mtt), .int (iI mfa), .int (iI mla), .int (iI mlp), .int (iI mdp), .ref (ma 12), .ref (ma 13), .int (iI msi), .int (iI (bI mdn)), .int (iI mpf), .int (iI mpt)])), (ma 1, .inl (kA 0, 4120, .inl (aI ca))), (ma 4, .inl (kA 0, 400, .inl (aI vf))), (ma 5, .inl (kA 0, 400, .inl (aI vt)))] H → va_D A [(mo, .inr (10, [.int (iI mrf), .ref (ma 0), .int (iI mz), .ref (ma 1), .ref (ma 2), .int (iI mls), .int (iI mfp), .int (iI mfm), .ref (ma 3), .int (iI vn), .ref (ma 4), .ref (ma 5), .int (iI mwd), .ref (ma 6), .ref (ma 7), .int (iI mak), .ref (ma 8), .ref (ma 9), .int (iI mli), .int (iI mlx), .ref (ma 10), .ref (ma 11), .int (iI mat), .int (iI mtk), .int (iI mtf), .int (iI mtt), .int (iI mfa), .int (iI mla), .int (iI mlp), .int (iI mdp), .ref (ma 12), .ref (ma 13), .int (iI msi), .int (iI (bI mdn)), .int (iI mpf), .int (iI mpt)])), (ma 1, .inl (kA 0, 4120, .inl (aI ca))), (ma 4, .inl (kA 0, 400, .inl (aI vf))), (ma 5, .inl (kA 0, 400, .inl (aI vt)))] → va_S A s.heap H locs → ∀ ls : Array Slot, lv_has ls 10 [(0, .ref mo), (1, .int (iI ix)), (2, .int (iI tag)), (3, .int (iI x)), (4, .int (iI y)), (5, .int (iI q))] → W p l e (rmd 1 0 0) s m args below meth c H locs 0 0 Q (F0 m 5 ls []) := by
    intro nn_5
    induction nn_5 with
    | zero => intro q f vn vf vt tl hq9 hq31 hff hHc hLc hcc hres hm; exact absurd hm (Nat.not_lt_zero _)
    | succ nn_5 ih_5 =>
      intro q f vn vf vt tl hq9 hq31 hff hHc hLc hcc hres hm_5 H locs hP hD hS ls hl
      obtain ⟨g, rfl⟩ : ∃ g, f = g + 1 := ⟨f - 1, by omega⟩
      have hvn := hHc.nn
      refine lv_iload hx hb d_M_gatherParts_5 (lv_at hl 5 rfl) ?_
      refine lv_iload hx hb d_M_gatherParts_7 (lv_at hl 4 rfl) ?_
      refine li_icmp_ge (tgt := 149) hx hb d_M_gatherParts_9 (by decide) (by omega) (by omega) (fun c1 => ?_) (fun c1 => ?_)
      · have _q := c1
        exact fin (vn, vf, vt) _ _ _ _ (by show HL (ol ++ gpA ca ix tag x y) vn vf vt ∧ LB (ol ++ gpA ca ix tag x y) lo hi ∧ vn ≤ mtx + (y - x); have e9 := hres; simp only [gpT] at e9; rw [if_pos (by omega), List.append_nil] at e9; rw [← e9]; exact ⟨hHc, hLc, by omega⟩) (by first | exact hP | (subst_vars; exact hP)) (by first | exact hD | (subst_vars; exact hD)) hS d_M_gatherParts_149
      · have _q := c1
        have hqq := hq31 (by omega)
        obtain ⟨hf1, hf2⟩ := hfr q (by omega) (by omega)
        have hf3 := hf2 hqq
        refine lv_aload_n hx hb d_M_gatherParts_12 rfl (lv_at hl 0 rfl) ?_
        refine gf_M_13 hx hb hts hown hK hP 0 rfl rfl d_M_gatherParts_13 ?_
        refine lv_iload hx hb d_M_gatherParts_16 (lv_at hl 5 rfl) ?_
        refine lv_iconst (v := iI 1) hx hb d_M_gatherParts_18 rfl ?_
        refine li_iadd hx hb d_M_gatherParts_19 ?_
        refine li_iald hx hb hK hP 1 0 rfl rfl (by omega) (by omega) (by omega) d_M_gatherParts_20 ?_
        have f2 := hca ((q + 1).toNat)
        refine li_nm (fun cd ecd => ?_)
        refine lv_istore (lv' := [(6, .int (iI cd)), (0, .ref mo), (1, .int (iI ix)), (2, .int (iI tag)), (3, .int (iI x)), (4, .int (iI y)), (5, .int (iI q))]) hx hb d_M_gatherParts_21 hl (by decide) rfl (fun ls hl => ?_)
        refine lv_iload hx hb d_M_gatherParts_23 (lv_at hl 6 rfl) ?_
        refine lv_iconst (v := iI 2) hx hb d_M_gatherParts_25 rfl ?_
        refine li_iadd hx hb d_M_gatherParts_26 ?_
        refine li_nm (fun fr efr => ?_)
        refine lv_istore (lv' := [(7, .int (iI fr)), (6, .int (iI cd)), (0, .ref mo), (1, .int (iI ix)), (2, .int (iI tag)), (3, .int (iI x)), (4, .int (iI y)), (5, .int (iI q))]) hx hb d_M_gatherParts_27 hl (by decide) rfl (fun ls hl => ?_)
        refine lv_iload hx hb d_M_gatherParts_29 (lv_at hl 0 rfl) ?_
        refine lv_istore (lv' := [(8, .int (iI fr)), (7, .int (iI fr)), (6, .int (iI cd)), (0, .ref mo), (1, .int (iI ix)), (2, .int (iI tag)), (3, .int (iI x)), (4, .int (iI y)), (5, .int (iI q))]) hx hb d_M_gatherParts_31 hl (by decide) rfl (fun ls hl => ?_)
        have K_33 : ∀ (nn_33 : Nat) (zt : Int) (h : Nat), (q + 2 ≤ zt ∧ zt ≤ y) → ((y - zt).toNat < h) → (toL ca h zt = toA ca (q + 2)) → ((y - zt).toNat < nn_33) → ∀ (H : Heap) (locs : List Loc), va_P (dC, dI) CL [(mo, .inr (10, [.int (iI mrf), .ref (ma 0), .int (iI mz), .ref (ma 1), .ref (ma 2), .int (iI mls), .int (iI mfp), .int (iI mfm), .ref (ma 3), .int (iI vn), .ref (ma 4), .ref (ma 5), .int (iI mwd), .ref (ma 6), .ref (ma 7), .int (iI mak), .ref (ma 8), .ref (ma 9), .int (iI mli), .int (iI mlx), .ref (ma 10), .ref (ma 11), .int (iI mat), .int (iI mtk), .int (iI mtf), .int (iI mtt), .int (iI mfa), .int (iI mla), .int (iI mlp), .int (iI mdp), .ref (ma 12), .ref (ma 13), .int (iI msi), .int (iI (bI mdn)), .int (iI mpf), .int (iI mpt)])), (ma 1, .inl (kA 0, 4120, .inl (aI ca))), (ma 4, .inl (kA 0, 400, .inl (aI vf))), (ma 5, .inl (kA 0, 400, .inl (aI vt)))] H → va_D A [(mo, .inr (10, [.int (iI mrf), .ref (ma 0), .int (iI mz), .ref (ma 1), .ref (ma 2), .int (iI mls), .int (iI mfp), .int (iI mfm), .ref (ma 3), .int (iI vn), .ref (ma 4), .ref (ma 5), .int (iI mwd), .ref (ma 6), .ref (ma 7), .int (iI mak), .ref (ma 8), .ref (ma 9), .int (iI mli), .int (iI mlx), .ref (ma 10), .ref (ma 11), .int (iI mat), .int (iI mtk), .int (iI mtf), .int (iI mtt), .int (iI mfa), .int (iI mla), .int (iI mlp), .int (iI mdp), .ref (ma 12), .ref (ma 13), .int (iI msi), .int (iI (bI mdn)), .int (iI mpf), .int (iI mpt)])), (ma 1, .inl (kA 0, 4120, .inl (aI ca))), (ma 4, .inl (kA 0, 400, .inl (aI vf))), (ma 5, .inl (kA 0, 400, .inl (aI vt)))] → va_S A s.heap H locs → ∀ ls : Array Slot, lv_has ls 10 [(8, .int (iI zt)), (7, .int (iI fr)), (6, .int (iI cd)), (0, .ref mo), (1, .int (iI ix)), (2, .int (iI tag)), (3, .int (iI x)), (4, .int (iI y)), (5, .int (iI q))] → W p l e (rmd 1 0 0) s m args below meth c H locs 0 0 Q (F0 m 33 ls []) := by
          intro nn_33
          induction nn_33 with
          | zero => intro zt h hzt hhf hto hm; exact absurd hm (Nat.not_lt_zero _)
          | succ nn_33 ih_33 =>
            intro zt h hzt hhf hto hm_33 H locs hP hD hS ls hl
            obtain ⟨h, rfl⟩ : ∃ g, h = g + 1 := ⟨h - 1, by omega⟩
            refine lv_aload_n hx hb d_M_gatherParts_33 rfl (lv_at hl 3 rfl) ?_
            refine gf_M_13 hx hb hts hown hK hP 0 rfl rfl d_M_gatherParts_34 ?_
            refine lv_iload hx hb d_M_gatherParts_37 (lv_at hl 0 rfl) ?_
            refine li_iald hx hb hK hP 1 0 rfl rfl (by omega) (by omega) (by omega) d_M_gatherParts_39 ?_
            have f3 := hca zt.toNat
            refine lv_bipush (v := iI 30) hx hb d_M_gatherParts_40 (by decide) ?_
            refine li_icmp_eq (tgt := 63) hx hb d_M_gatherParts_42 (by decide) (by omega) (by omega) (fun c4 => ?_) (fun c4 => ?_)
            · have _q := c4
              have hzt2 : zt = toA ca (q + 2) := by rw [← hto]; simp only [toL]; rw [if_pos (Or.inl (by assumption))]
              refine lv_iload_n hx hb d_M_gatherParts_63 rfl (lv_at hl 4 rfl) ?_
              refine lv_iload_n hx hb d_M_gatherParts_64 rfl (lv_at hl 5 rfl) ?_
              refine lv_iload hx hb d_M_gatherParts_65 (lv_at hl 2 rfl) ?_
              refine li_callr ((va_runS (As := [.int (iI ix), .int (iI tag), .int (iI cd)]) (rest := []) ⟨hx, hb, hml, hown, hts⟩ (c_M_isOf l dC dI kA ix tag cd (by omega) (by omega) (by omega)) (cw_M_127 hts rfl rfl ⟨Nat.le_of_ble_eq_true rfl, Nat.le_of_ble_eq_true rfl⟩) (li_preS va_Pnil hK hN (hG.go hS hAN)) rfl rfl hl.1 rfl (lv_room (Nat.le_of_ble_eq_true rfl)) d_M_gatherParts_67 ⟨(by show 0 + 0 ≤ 0; omega), (by show 0 + 0 ≤ 0; omega)⟩).run) ?_
              refine li_bz (tgt := 142) hx hb d_M_gatherParts_70 (by decide) (fun c5 => ?_) (fun c5 => ?_)
              · have _q := c5
                have hof : isOfF ix tag (ca (q + 1).toNat) = false := by rw [← ecd]; assumption
                refine lv_iload hx hb d_M_gatherParts_142 (lv_at hl 0 rfl) ?_
                refine lv_istore (lv' := [(5, .int (iI zt)), (8, .int (iI zt)), (7, .int (iI fr)), (6, .int (iI cd)), (0, .ref mo), (1, .int (iI ix)), (2, .int (iI tag)), (3, .int (iI x)), (4, .int (iI y))]) hx hb d_M_gatherParts_144 hl (by decide) rfl (fun ls hl => ?_)
                refine lv_goto (tgt := 5) hx hb d_M_gatherParts_146 (by decide) ?_
                exact ih_5 zt g vn vf vt (tl ++ gp1 ca ix tag x q zt) (by first | omega | (subst_vars; omega)) (by first | (intro _; rw [eq0_]; exact h31) | (intro h7; rcases (show ca zt.toNat = 30 ∨ ca zt.toNat = 31 by first | exact Or.inl (by assumption) | exact Or.inr (by assumption)) with h8 | h8; (exact absurd h8 (hfr zt (by omega) h7).1); exact h8)) (by first | omega | (subst_vars; omega)) (by first | exact hHL | (unfold gp1; rw [if_neg (by rw [hof]; decide), List.append_nil]; exact hHc) | (unfold gp1; rw [if_pos hof, ← hsk, ← efr]; first | (rw [if_pos (by omega)]; exact hHc.push _ _) | (rw [if_neg (by omega)]; exact hHc.push _ _))) (by first | exact hLB | (unfold gp1; rw [if_neg (by rw [hof]; decide), List.append_nil]; exact hLc) | (unfold gp1; rw [if_pos hof, ← hsk, ← efr]; first | (rw [if_pos (by omega)]; exact hLc.app (LB.one (by omega))) | (rw [if_neg (by omega)]; exact hLc.app (LB.one (by omega))))) (by omega) (by first | (rw [eq0_]; rfl) | (rw [← hres]; simp only [gpT]; rw [if_neg (by omega), ← hzt2, List.append_assoc])) (by omega) _ _ hP hD hS _ (lv_sub hl [4, 5, 6, 7, 8, 0] rfl)
              · have _q := c5
                have hof : isOfF ix tag (ca (q + 1).toNat) = true := by rw [← ecd]; assumption
                refine lv_iload_n hx hb d_M_gatherParts_73 rfl (lv_at hl 4 rfl) ?_
                refine lv_iconst (v := iI 1) hx hb d_M_gatherParts_74 rfl ?_
                refine li_icmp_ne (tgt := 113) hx hb d_M_gatherParts_75 (by decide) (by omega) (by omega) (fun c6 => ?_) (fun c6 => ?_)
                · have _q := c6
                  refine lv_iconst (v := iI 0) hx hb d_M_gatherParts_113 rfl ?_
                  refine li_nm (fun sk esk => ?_)
                  refine lv_istore (lv' := [(9, .int (iI sk)), (8, .int (iI zt)), (7, .int (iI fr)), (6, .int (iI cd)), (0, .ref mo), (1, .int (iI ix)), (2, .int (iI tag)), (3, .int (iI x)), (4, .int (iI y)), (5, .int (iI q))]) hx hb d_M_gatherParts_114 hl (by decide) rfl (fun ls hl => ?_)
                  have hsk : sk = skF ca ix x (ca (q + 1).toNat) := by unfold skF; rw [← ecd]; first | (rw [if_pos ⟨by assumption, by assumption, by assumption⟩]; exact esk) | (rw [if_neg (by simp_all)]; exact esk) | (rw [if_neg (by simp_all)])
                  refine lv_aload_n hx hb d_M_gatherParts_116 rfl (lv_at hl 4 rfl) ?_
                  refine lv_iload hx hb d_M_gatherParts_117 (lv_at hl 2 rfl) ?_
                  refine lv_iload hx hb d_M_gatherParts_119 (lv_at hl 0 rfl) ?_
                  refine li_iadd hx hb d_M_gatherParts_121 ?_
                  refine lv_iload hx hb d_M_gatherParts_122 (lv_at hl 1 rfl) ?_
                  refine li_icmp_ge (tgt := 135) hx hb d_M_gatherParts_124 (by decide) (by omega) (by omega) (fun c7 => ?_) (fun c7 => ?_)
                  · have _q := c7
                    refine lv_iload hx hb d_M_gatherParts_135 (lv_at hl 1 rfl) ?_
                    refine lv_iload hx hb d_M_gatherParts_137 (lv_at hl 1 rfl) ?_
                    refine li_callw (wc := [(mo, .inr (10, [.int (iI mrf), .ref (ma 0), .int (iI mz), .ref (ma 1), .ref (ma 2), .int (iI mls), .int (iI mfp), .int (iI mfm), .ref (ma 3), .int (iI vn), .ref (ma 4), .ref (ma 5), .int (iI mwd), .ref (ma 6), .ref (ma 7), .int (iI mak), .ref (ma 8), .ref (ma 9), .int (iI mli), .int (iI mlx), .ref (ma 10), .ref (ma 11), .int (iI mat), .int (iI mtk), .int (iI mtf), .int (iI mtt), .int (iI mfa), .int (iI mla), .int (iI mlp), .int (iI mdp), .ref (ma 12), .ref (ma 13), .int (iI msi), .int (iI (bI mdn)), .int (iI mpf), .int (iI mpt)])), (ma 4, .inl (kA 0, 400, .inl (aI vf))), (ma 5, .inl (kA 0, 400, .inl (aI vt)))]) (wr := [(ma 1, .inl (kA 0, 4120, .inl (aI ca)))]) (va_runV (As := [.int (iI zt), .int (iI zt)]) (rest := []) ⟨hx, hb, hml, hown, hts⟩ (c_M_addText l dC dI kA H.size mo ma mrf mz mls mfp mfm vn mwd mak mli mlx mat mtk mtf mtt mfa mla mlp mdp msi mpf mpt mdn vf vt zt zt (by omega)) (cw_M_119 hts rfl rfl ⟨Nat.le_of_ble_eq_true rfl, Nat.le_of_ble_eq_true rfl⟩) (li_preV (va_recv hK hP (ci := 10) (q0 := 0) rfl rfl) ⟨rfl, hP.sub [0, 2, 3] rfl, (hD.sub [0, 2, 3] (by decide) rfl).weaken (fun _ _ _ h => hAN _ h), trivial⟩ hK hN (hG.go hS hAN)) rfl rfl hl.1 rfl (lv_room (Nat.le_of_ble_eq_true rfl)) d_M_gatherParts_139 ⟨(by show 0 + 0 ≤ 0; omega), (by show 0 + 0 ≤ 0; omega)⟩) hP hD hS hA [0, 2, 3] [1] rfl rfl (by decide) (by decide) (fun u8 H locs hu8 hP hD hS _hk => ?_)
                    have hP : va_P (dC, dI) CL [(ma 1, .inl (kA 0, 4120, .inl (aI ca))), (mo, .inr (10, [.int (iI mrf), .ref (ma 0), .int (iI mz), .ref (ma 1), .ref (ma 2), .int (iI mls), .int (iI mfp), .int (iI mfm), .ref (ma 3), .int (iI (vn + 1)), .ref (ma 4), .ref (ma 5), .int (iI mwd), .ref (ma 6), .ref (ma 7), .int (iI mak), .ref (ma 8), .ref (ma 9), .int (iI mli), .int (iI mlx), .ref (ma 10), .ref (ma 11), .int (iI mat), .int (iI mtk), .int (iI mtf), .int (iI mtt), .int (iI mfa), .int (iI mla), .int (iI mlp), .int (iI mdp), .ref (ma 12), .ref (ma 13), .int (iI msi), .int (iI (bI mdn)), .int (iI mpf), .int (iI mpt)])), (ma 4, .inl (kA 0, 400, .inl (aI (va_up vf vn.toNat zt)))), (ma 5, .inl (kA 0, 400, .inl (aI (va_up vt vn.toNat zt))))] H := hP
                    have hD : va_D A [(ma 1, .inl (kA 0, 4120, .inl (aI ca))), (mo, .inr (10, [.int (iI mrf), .ref (ma 0), .int (iI mz), .ref (ma 1), .ref (ma 2), .int (iI mls), .int (iI mfp), .int (iI mfm), .ref (ma 3), .int (iI (vn + 1)), .ref (ma 4), .ref (ma 5), .int (iI mwd), .ref (ma 6), .ref (ma 7), .int (iI mak), .ref (ma 8), .ref (ma 9), .int (iI mli), .int (iI mlx), .ref (ma 10), .ref (ma 11), .int (iI mat), .int (iI mtk), .int (iI mtf), .int (iI mtt), .int (iI mfa), .int (iI mla), .int (iI mlp), .int (iI mdp), .ref (ma 12), .ref (ma 13), .int (iI msi), .int (iI (bI mdn)), .int (iI mpf), .int (iI mpt)])), (ma 4, .inl (kA 0, 400, .inl (aI (va_up vf vn.toNat zt)))), (ma 5, .inl (kA 0, 400, .inl (aI (va_up vt vn.toNat zt))))] := hD
                    refine lv_iload hx hb d_M_gatherParts_142 (lv_at hl 1 rfl) ?_
                    refine lv_istore (lv' := [(5, .int (iI zt)), (9, .int (iI sk)), (8, .int (iI zt)), (7, .int (iI fr)), (6, .int (iI cd)), (0, .ref mo), (1, .int (iI ix)), (2, .int (iI tag)), (3, .int (iI x)), (4, .int (iI y))]) hx hb d_M_gatherParts_144 hl (by decide) rfl (fun ls hl => ?_)
                    refine lv_goto (tgt := 5) hx hb d_M_gatherParts_146 (by decide) ?_
                    exact ih_5 zt g (vn + 1) (va_up vf vn.toNat zt) (va_up vt vn.toNat zt) (tl ++ gp1 ca ix tag x q zt) (by first | omega | (subst_vars; omega)) (by first | (intro _; rw [eq0_]; exact h31) | (intro h7; rcases (show ca zt.toNat = 30 ∨ ca zt.toNat = 31 by first | exact Or.inl (by assumption) | exact Or.inr (by assumption)) with h8 | h8; (exact absurd h8 (hfr zt (by omega) h7).1); exact h8)) (by first | omega | (subst_vars; omega)) (by first | exact hHL | (unfold gp1; rw [if_neg (by rw [hof]; decide), List.append_nil]; exact hHc) | (unfold gp1; rw [if_pos hof, ← hsk, ← efr]; first | (rw [if_pos (by omega)]; exact hHc.push _ _) | (rw [if_neg (by omega)]; exact hHc.push _ _))) (by first | exact hLB | (unfold gp1; rw [if_neg (by rw [hof]; decide), List.append_nil]; exact hLc) | (unfold gp1; rw [if_pos hof, ← hsk, ← efr]; first | (rw [if_pos (by omega)]; exact hLc.app (LB.one (by omega))) | (rw [if_neg (by omega)]; exact hLc.app (LB.one (by omega))))) (by omega) (by first | (rw [eq0_]; rfl) | (rw [← hres]; simp only [gpT]; rw [if_neg (by omega), ← hzt2, List.append_assoc])) (by omega) _ _ (hP.sub [1, 0, 2, 3] rfl) (hD.sub [1, 0, 2, 3] (by decide) rfl) hS _ (lv_sub hl [5, 6, 7, 8, 9, 0] rfl)
                  · have _q := c7
                    refine lv_iload hx hb d_M_gatherParts_127 (lv_at hl 2 rfl) ?_
                    refine lv_iload hx hb d_M_gatherParts_129 (lv_at hl 0 rfl) ?_
                    refine li_iadd hx hb d_M_gatherParts_131 ?_
                    refine lv_goto (tgt := 137) hx hb d_M_gatherParts_132 (by decide) ?_
                    refine lv_iload hx hb d_M_gatherParts_137 (lv_at hl 1 rfl) ?_
                    refine li_callw (wc := [(mo, .inr (10, [.int (iI mrf), .ref (ma 0), .int (iI mz), .ref (ma 1), .ref (ma 2), .int (iI mls), .int (iI mfp), .int (iI mfm), .ref (ma 3), .int (iI vn), .ref (ma 4), .ref (ma 5), .int (iI mwd), .ref (ma 6), .ref (ma 7), .int (iI mak), .ref (ma 8), .ref (ma 9), .int (iI mli), .int (iI mlx), .ref (ma 10), .ref (ma 11), .int (iI mat), .int (iI mtk), .int (iI mtf), .int (iI mtt), .int (iI mfa), .int (iI mla), .int (iI mlp), .int (iI mdp), .ref (ma 12), .ref (ma 13), .int (iI msi), .int (iI (bI mdn)), .int (iI mpf), .int (iI mpt)])), (ma 4, .inl (kA 0, 400, .inl (aI vf))), (ma 5, .inl (kA 0, 400, .inl (aI vt)))]) (wr := [(ma 1, .inl (kA 0, 4120, .inl (aI ca)))]) (va_runV (As := [.int (iI (fr + sk)), .int (iI zt)]) (rest := []) ⟨hx, hb, hml, hown, hts⟩ (c_M_addText l dC dI kA H.size mo ma mrf mz mls mfp mfm vn mwd mak mli mlx mat mtk mtf mtt mfa mla mlp mdp msi mpf mpt mdn vf vt (fr + sk) zt (by omega)) (cw_M_119 hts rfl rfl ⟨Nat.le_of_ble_eq_true rfl, Nat.le_of_ble_eq_true rfl⟩) (li_preV (va_recv hK hP (ci := 10) (q0 := 0) rfl rfl) ⟨rfl, hP.sub [0, 2, 3] rfl, (hD.sub [0, 2, 3] (by decide) rfl).weaken (fun _ _ _ h => hAN _ h), trivial⟩ hK hN (hG.go hS hAN)) rfl rfl hl.1 rfl (lv_room (Nat.le_of_ble_eq_true rfl)) d_M_gatherParts_139 ⟨(by show 0 + 0 ≤ 0; omega), (by show 0 + 0 ≤ 0; omega)⟩) hP hD hS hA [0, 2, 3] [1] rfl rfl (by decide) (by decide) (fun u9 H locs hu9 hP hD hS _hk => ?_)
                    have hP : va_P (dC, dI) CL [(ma 1, .inl (kA 0, 4120, .inl (aI ca))), (mo, .inr (10, [.int (iI mrf), .ref (ma 0), .int (iI mz), .ref (ma 1), .ref (ma 2), .int (iI mls), .int (iI mfp), .int (iI mfm), .ref (ma 3), .int (iI (vn + 1)), .ref (ma 4), .ref (ma 5), .int (iI mwd), .ref (ma 6), .ref (ma 7), .int (iI mak), .ref (ma 8), .ref (ma 9), .int (iI mli), .int (iI mlx), .ref (ma 10), .ref (ma 11), .int (iI mat), .int (iI mtk), .int (iI mtf), .int (iI mtt), .int (iI mfa), .int (iI mla), .int (iI mlp), .int (iI mdp), .ref (ma 12), .ref (ma 13), .int (iI msi), .int (iI (bI mdn)), .int (iI mpf), .int (iI mpt)])), (ma 4, .inl (kA 0, 400, .inl (aI (va_up vf vn.toNat (fr + sk))))), (ma 5, .inl (kA 0, 400, .inl (aI (va_up vt vn.toNat zt))))] H := hP
                    have hD : va_D A [(ma 1, .inl (kA 0, 4120, .inl (aI ca))), (mo, .inr (10, [.int (iI mrf), .ref (ma 0), .int (iI mz), .ref (ma 1), .ref (ma 2), .int (iI mls), .int (iI mfp), .int (iI mfm), .ref (ma 3), .int (iI (vn + 1)), .ref (ma 4), .ref (ma 5), .int (iI mwd), .ref (ma 6), .ref (ma 7), .int (iI mak), .ref (ma 8), .ref (ma 9), .int (iI mli), .int (iI mlx), .ref (ma 10), .ref (ma 11), .int (iI mat), .int (iI mtk), .int (iI mtf), .int (iI mtt), .int (iI mfa), .int (iI mla), .int (iI mlp), .int (iI mdp), .ref (ma 12), .ref (ma 13), .int (iI msi), .int (iI (bI mdn)), .int (iI mpf), .int (iI mpt)])), (ma 4, .inl (kA 0, 400, .inl (aI (va_up vf vn.toNat (fr + sk))))), (ma 5, .inl (kA 0, 400, .inl (aI (va_up vt vn.toNat zt))))] := hD
                    refine lv_iload hx hb d_M_gatherParts_142 (lv_at hl 1 rfl) ?_
                    refine lv_istore (lv' := [(5, .int (iI zt)), (9, .int (iI sk)), (8, .int (iI zt)), (7, .int (iI fr)), (6, .int (iI cd)), (0, .ref mo), (1, .int (iI ix)), (2, .int (iI tag)), (3, .int (iI x)), (4, .int (iI y))]) hx hb d_M_gatherParts_144 hl (by decide) rfl (fun ls hl => ?_)
                    refine lv_goto (tgt := 5) hx hb d_M_gatherParts_146 (by decide) ?_
                    exact ih_5 zt g (vn + 1) (va_up vf vn.toNat (fr + sk)) (va_up vt vn.toNat zt) (tl ++ gp1 ca ix tag x q zt) (by first | omega | (subst_vars; omega)) (by first | (intro _; rw [eq0_]; exact h31) | (intro h7; rcases (show ca zt.toNat = 30 ∨ ca zt.toNat = 31 by first | exact Or.inl (by assumption) | exact Or.inr (by assumption)) with h8 | h8; (exact absurd h8 (hfr zt (by omega) h7).1); exact h8)) (by first | omega | (subst_vars; omega)) (by first | exact hHL | (unfold gp1; rw [if_neg (by rw [hof]; decide), List.append_nil]; exact hHc) | (unfold gp1; rw [if_pos hof, ← hsk, ← efr]; first | (rw [if_pos (by omega)]; exact hHc.push _ _) | (rw [if_neg (by omega)]; exact hHc.push _ _))) (by first | exact hLB | (unfold gp1; rw [if_neg (by rw [hof]; decide), List.append_nil]; exact hLc) | (unfold gp1; rw [if_pos hof, ← hsk, ← efr]; first | (rw [if_pos (by omega)]; exact hLc.app (LB.one (by omega))) | (rw [if_neg (by omega)]; exact hLc.app (LB.one (by omega))))) (by omega) (by first | (rw [eq0_]; rfl) | (rw [← hres]; simp only [gpT]; rw [if_neg (by omega), ← hzt2, List.append_assoc])) (by omega) _ _ (hP.sub [1, 0, 2, 3] rfl) (hD.sub [1, 0, 2, 3] (by decide) rfl) hS _ (lv_sub hl [5, 6, 7, 8, 9, 0] rfl)
                · have _q := c6
                  refine lv_iload hx hb d_M_gatherParts_78 (lv_at hl 2 rfl) ?_
                  refine lv_bipush (v := iI 97) hx hb d_M_gatherParts_80 (by decide) ?_
                  refine li_icmp_ne (tgt := 113) hx hb d_M_gatherParts_82 (by decide) (by omega) (by omega) (fun c10 => ?_) (fun c10 => ?_)
                  · have _q := c10
                    refine lv_iconst (v := iI 0) hx hb d_M_gatherParts_113 rfl ?_
                    refine li_nm (fun sk esk => ?_)
                    refine lv_istore (lv' := [(9, .int (iI sk)), (8, .int (iI zt)), (7, .int (iI fr)), (6, .int (iI cd)), (0, .ref mo), (1, .int (iI ix)), (2, .int (iI tag)), (3, .int (iI x)), (4, .int (iI y)), (5, .int (iI q))]) hx hb d_M_gatherParts_114 hl (by decide) rfl (fun ls hl => ?_)
                    have hsk : sk = skF ca ix x (ca (q + 1).toNat) := by unfold skF; rw [← ecd]; first | (rw [if_pos ⟨by assumption, by assumption, by assumption⟩]; exact esk) | (rw [if_neg (by simp_all)]; exact esk) | (rw [if_neg (by simp_all)])
                    refine lv_aload_n hx hb d_M_gatherParts_116 rfl (lv_at hl 4 rfl) ?_
                    refine lv_iload hx hb d_M_gatherParts_117 (lv_at hl 2 rfl) ?_
                    refine lv_iload hx hb d_M_gatherParts_119 (lv_at hl 0 rfl) ?_
                    refine li_iadd hx hb d_M_gatherParts_121 ?_
                    refine lv_iload hx hb d_M_gatherParts_122 (lv_at hl 1 rfl) ?_
                    refine li_icmp_ge (tgt := 135) hx hb d_M_gatherParts_124 (by decide) (by omega) (by omega) (fun c11 => ?_) (fun c11 => ?_)
                    · have _q := c11
                      refine lv_iload hx hb d_M_gatherParts_135 (lv_at hl 1 rfl) ?_
                      refine lv_iload hx hb d_M_gatherParts_137 (lv_at hl 1 rfl) ?_
                      refine li_callw (wc := [(mo, .inr (10, [.int (iI mrf), .ref (ma 0), .int (iI mz), .ref (ma 1), .ref (ma 2), .int (iI mls), .int (iI mfp), .int (iI mfm), .ref (ma 3), .int (iI vn), .ref (ma 4), .ref (ma 5), .int (iI mwd), .ref (ma 6), .ref (ma 7), .int (iI mak), .ref (ma 8), .ref (ma 9), .int (iI mli), .int (iI mlx), .ref (ma 10), .ref (ma 11), .int (iI mat), .int (iI mtk), .int (iI mtf), .int (iI mtt), .int (iI mfa), .int (iI mla), .int (iI mlp), .int (iI mdp), .ref (ma 12), .ref (ma 13), .int (iI msi), .int (iI (bI mdn)), .int (iI mpf), .int (iI mpt)])), (ma 4, .inl (kA 0, 400, .inl (aI vf))), (ma 5, .inl (kA 0, 400, .inl (aI vt)))]) (wr := [(ma 1, .inl (kA 0, 4120, .inl (aI ca)))]) (va_runV (As := [.int (iI zt), .int (iI zt)]) (rest := []) ⟨hx, hb, hml, hown, hts⟩ (c_M_addText l dC dI kA H.size mo ma mrf mz mls mfp mfm vn mwd mak mli mlx mat mtk mtf mtt mfa mla mlp mdp msi mpf mpt mdn vf vt zt zt (by omega)) (cw_M_119 hts rfl rfl ⟨Nat.le_of_ble_eq_true rfl, Nat.le_of_ble_eq_true rfl⟩) (li_preV (va_recv hK hP (ci := 10) (q0 := 0) rfl rfl) ⟨rfl, hP.sub [0, 2, 3] rfl, (hD.sub [0, 2, 3] (by decide) rfl).weaken (fun _ _ _ h => hAN _ h), trivial⟩ hK hN (hG.go hS hAN)) rfl rfl hl.1 rfl (lv_room (Nat.le_of_ble_eq_true rfl)) d_M_gatherParts_139 ⟨(by show 0 + 0 ≤ 0; omega), (by show 0 + 0 ≤ 0; omega)⟩) hP hD hS hA [0, 2, 3] [1] rfl rfl (by decide) (by decide) (fun u12 H locs hu12 hP hD hS _hk => ?_)
                      have hP : va_P (dC, dI) CL [(ma 1, .inl (kA 0, 4120, .inl (aI ca))), (mo, .inr (10, [.int (iI mrf), .ref (ma 0), .int (iI mz), .ref (ma 1), .ref (ma 2), .int (iI mls), .int (iI mfp), .int (iI mfm), .ref (ma 3), .int (iI (vn + 1)), .ref (ma 4), .ref (ma 5), .int (iI mwd), .ref (ma 6), .ref (ma 7), .int (iI mak), .ref (ma 8), .ref (ma 9), .int (iI mli), .int (iI mlx), .ref (ma 10), .ref (ma 11), .int (iI mat), .int (iI mtk), .int (iI mtf), .int (iI mtt), .int (iI mfa), .int (iI mla), .int (iI mlp), .int (iI mdp), .ref (ma 12), .ref (ma 13), .int (iI msi), .int (iI (bI mdn)), .int (iI mpf), .int (iI mpt)])), (ma 4, .inl (kA 0, 400, .inl (aI (va_up vf vn.toNat zt)))), (ma 5, .inl (kA 0, 400, .inl (aI (va_up vt vn.toNat zt))))] H := hP
                      have hD : va_D A [(ma 1, .inl (kA 0, 4120, .inl (aI ca))), (mo, .inr (10, [.int (iI mrf), .ref (ma 0), .int (iI mz), .ref (ma 1), .ref (ma 2), .int (iI mls), .int (iI mfp), .int (iI mfm), .ref (ma 3), .int (iI (vn + 1)), .ref (ma 4), .ref (ma 5), .int (iI mwd), .ref (ma 6), .ref (ma 7), .int (iI mak), .ref (ma 8), .ref (ma 9), .int (iI mli), .int (iI mlx), .ref (ma 10), .ref (ma 11), .int (iI mat), .int (iI mtk), .int (iI mtf), .int (iI mtt), .int (iI mfa), .int (iI mla), .int (iI mlp), .int (iI mdp), .ref (ma 12), .ref (ma 13), .int (iI msi), .int (iI (bI mdn)), .int (iI mpf), .int (iI mpt)])), (ma 4, .inl (kA 0, 400, .inl (aI (va_up vf vn.toNat zt)))), (ma 5, .inl (kA 0, 400, .inl (aI (va_up vt vn.toNat zt))))] := hD
                      refine lv_iload hx hb d_M_gatherParts_142 (lv_at hl 1 rfl) ?_
                      refine lv_istore (lv' := [(5, .int (iI zt)), (9, .int (iI sk)), (8, .int (iI zt)), (7, .int (iI fr)), (6, .int (iI cd)), (0, .ref mo), (1, .int (iI ix)), (2, .int (iI tag)), (3, .int (iI x)), (4, .int (iI y))]) hx hb d_M_gatherParts_144 hl (by decide) rfl (fun ls hl => ?_)
                      refine lv_goto (tgt := 5) hx hb d_M_gatherParts_146 (by decide) ?_
                      exact ih_5 zt g (vn + 1) (va_up vf vn.toNat zt) (va_up vt vn.toNat zt) (tl ++ gp1 ca ix tag x q zt) (by first | omega | (subst_vars; omega)) (by first | (intro _; rw [eq0_]; exact h31) | (intro h7; rcases (show ca zt.toNat = 30 ∨ ca zt.toNat = 31 by first | exact Or.inl (by assumption) | exact Or.inr (by assumption)) with h8 | h8; (exact absurd h8 (hfr zt (by omega) h7).1); exact h8)) (by first | omega | (subst_vars; omega)) (by first | exact hHL | (unfold gp1; rw [if_neg (by rw [hof]; decide), List.append_nil]; exact hHc) | (unfold gp1; rw [if_pos hof, ← hsk, ← efr]; first | (rw [if_pos (by omega)]; exact hHc.push _ _) | (rw [if_neg (by omega)]; exact hHc.push _ _))) (by first | exact hLB | (unfold gp1; rw [if_neg (by rw [hof]; decide), List.append_nil]; exact hLc) | (unfold gp1; rw [if_pos hof, ← hsk, ← efr]; first | (rw [if_pos (by omega)]; exact hLc.app (LB.one (by omega))) | (rw [if_neg (by omega)]; exact hLc.app (LB.one (by omega))))) (by omega) (by first | (rw [eq0_]; rfl) | (rw [← hres]; simp only [gpT]; rw [if_neg (by omega), ← hzt2, List.append_assoc])) (by omega) _ _ (hP.sub [1, 0, 2, 3] rfl) (hD.sub [1, 0, 2, 3] (by decide) rfl) hS _ (lv_sub hl [5, 6, 7, 8, 9, 0] rfl)
                    · have _q := c11
                      refine lv_iload hx hb d_M_gatherParts_127 (lv_at hl 2 rfl) ?_
                      refine lv_iload hx hb d_M_gatherParts_129 (lv_at hl 0 rfl) ?_
                      refine li_iadd hx hb d_M_gatherParts_131 ?_
                      refine lv_goto (tgt := 137) hx hb d_M_gatherParts_132 (by decide) ?_
                      refine lv_iload hx hb d_M_gatherParts_137 (lv_at hl 1 rfl) ?_
                      refine li_callw (wc := [(mo, .inr (10, [.int (iI mrf), .ref (ma 0), .int (iI mz), .ref (ma 1), .ref (ma 2), .int (iI mls), .int (iI mfp), .int (iI mfm), .ref (ma 3), .int (iI vn), .ref (ma 4), .ref (ma 5), .int (iI mwd), .ref (ma 6), .ref (ma 7), .int (iI mak), .ref (ma 8), .ref (ma 9), .int (iI mli), .int (iI mlx), .ref (ma 10), .ref (ma 11), .int (iI mat), .int (iI mtk), .int (iI mtf), .int (iI mtt), .int (iI mfa), .int (iI mla), .int (iI mlp), .int (iI mdp), .ref (ma 12), .ref (ma 13), .int (iI msi), .int (iI (bI mdn)), .int (iI mpf), .int (iI mpt)])), (ma 4, .inl (kA 0, 400, .inl (aI vf))), (ma 5, .inl (kA 0, 400, .inl (aI vt)))]) (wr := [(ma 1, .inl (kA 0, 4120, .inl (aI ca)))]) (va_runV (As := [.int (iI (fr + sk)), .int (iI zt)]) (rest := []) ⟨hx, hb, hml, hown, hts⟩ (c_M_addText l dC dI kA H.size mo ma mrf mz mls mfp mfm vn mwd mak mli mlx mat mtk mtf mtt mfa mla mlp mdp msi mpf mpt mdn vf vt (fr + sk) zt (by omega)) (cw_M_119 hts rfl rfl ⟨Nat.le_of_ble_eq_true rfl, Nat.le_of_ble_eq_true rfl⟩) (li_preV (va_recv hK hP (ci := 10) (q0 := 0) rfl rfl) ⟨rfl, hP.sub [0, 2, 3] rfl, (hD.sub [0, 2, 3] (by decide) rfl).weaken (fun _ _ _ h => hAN _ h), trivial⟩ hK hN (hG.go hS hAN)) rfl rfl hl.1 rfl (lv_room (Nat.le_of_ble_eq_true rfl)) d_M_gatherParts_139 ⟨(by show 0 + 0 ≤ 0; omega), (by show 0 + 0 ≤ 0; omega)⟩) hP hD hS hA [0, 2, 3] [1] rfl rfl (by decide) (by decide) (fun u13 H locs hu13 hP hD hS _hk => ?_)
                      have hP : va_P (dC, dI) CL [(ma 1, .inl (kA 0, 4120, .inl (aI ca))), (mo, .inr (10, [.int (iI mrf), .ref (ma 0), .int (iI mz), .ref (ma 1), .ref (ma 2), .int (iI mls), .int (iI mfp), .int (iI mfm), .ref (ma 3), .int (iI (vn + 1)), .ref (ma 4), .ref (ma 5), .int (iI mwd), .ref (ma 6), .ref (ma 7), .int (iI mak), .ref (ma 8), .ref (ma 9), .int (iI mli), .int (iI mlx), .ref (ma 10), .ref (ma 11), .int (iI mat), .int (iI mtk), .int (iI mtf), .int (iI mtt), .int (iI mfa), .int (iI mla), .int (iI mlp), .int (iI mdp), .ref (ma 12), .ref (ma 13), .int (iI msi), .int (iI (bI mdn)), .int (iI mpf), .int (iI mpt)])), (ma 4, .inl (kA 0, 400, .inl (aI (va_up vf vn.toNat (fr + sk))))), (ma 5, .inl (kA 0, 400, .inl (aI (va_up vt vn.toNat zt))))] H := hP
                      have hD : va_D A [(ma 1, .inl (kA 0, 4120, .inl (aI ca))), (mo, .inr (10, [.int (iI mrf), .ref (ma 0), .int (iI mz), .ref (ma 1), .ref (ma 2), .int (iI mls), .int (iI mfp), .int (iI mfm), .ref (ma 3), .int (iI (vn + 1)), .ref (ma 4), .ref (ma 5), .int (iI mwd), .ref (ma 6), .ref (ma 7), .int (iI mak), .ref (ma 8), .ref (ma 9), .int (iI mli), .int (iI mlx), .ref (ma 10), .ref (ma 11), .int (iI mat), .int (iI mtk), .int (iI mtf), .int (iI mtt), .int (iI mfa), .int (iI mla), .int (iI mlp), .int (iI mdp), .ref (ma 12), .ref (ma 13), .int (iI msi), .int (iI (bI mdn)), .int (iI mpf), .int (iI mpt)])), (ma 4, .inl (kA 0, 400, .inl (aI (va_up vf vn.toNat (fr + sk))))), (ma 5, .inl (kA 0, 400, .inl (aI (va_up vt vn.toNat zt))))] := hD
                      refine lv_iload hx hb d_M_gatherParts_142 (lv_at hl 1 rfl) ?_
                      refine lv_istore (lv' := [(5, .int (iI zt)), (9, .int (iI sk)), (8, .int (iI zt)), (7, .int (iI fr)), (6, .int (iI cd)), (0, .ref mo), (1, .int (iI ix)), (2, .int (iI tag)), (3, .int (iI x)), (4, .int (iI y))]) hx hb d_M_gatherParts_144 hl (by decide) rfl (fun ls hl => ?_)
                      refine lv_goto (tgt := 5) hx hb d_M_gatherParts_146 (by decide) ?_
                      exact ih_5 zt g (vn + 1) (va_up vf vn.toNat (fr + sk)) (va_up vt vn.toNat zt) (tl ++ gp1 ca ix tag x q zt) (by first | omega | (subst_vars; omega)) (by first | (intro _; rw [eq0_]; exact h31) | (intro h7; rcases (show ca zt.toNat = 30 ∨ ca zt.toNat = 31 by first | exact Or.inl (by assumption) | exact Or.inr (by assumption)) with h8 | h8; (exact absurd h8 (hfr zt (by omega) h7).1); exact h8)) (by first | omega | (subst_vars; omega)) (by first | exact hHL | (unfold gp1; rw [if_neg (by rw [hof]; decide), List.append_nil]; exact hHc) | (unfold gp1; rw [if_pos hof, ← hsk, ← efr]; first | (rw [if_pos (by omega)]; exact hHc.push _ _) | (rw [if_neg (by omega)]; exact hHc.push _ _))) (by first | exact hLB | (unfold gp1; rw [if_neg (by rw [hof]; decide), List.append_nil]; exact hLc) | (unfold gp1; rw [if_pos hof, ← hsk, ← efr]; first | (rw [if_pos (by omega)]; exact hLc.app (LB.one (by omega))) | (rw [if_neg (by omega)]; exact hLc.app (LB.one (by omega))))) (by omega) (by first | (rw [eq0_]; rfl) | (rw [← hres]; simp only [gpT]; rw [if_neg (by omega), ← hzt2, List.append_assoc])) (by omega) _ _ (hP.sub [1, 0, 2, 3] rfl) (hD.sub [1, 0, 2, 3] (by decide) rfl) hS _ (lv_sub hl [5, 6, 7, 8, 9, 0] rfl)
                  · have _q := c10
                    refine lv_aload_n hx hb d_M_gatherParts_85 rfl (lv_at hl 3 rfl) ?_
                    refine gf_M_13 hx hb hts hown hK hP 0 rfl rfl d_M_gatherParts_86 ?_
                    refine lv_iload_n hx hb d_M_gatherParts_89 rfl (lv_at hl 6 rfl) ?_
                    refine lv_iconst (v := iI 1) hx hb d_M_gatherParts_90 rfl ?_
                    refine li_iadd hx hb d_M_gatherParts_91 ?_
                    refine li_iald hx hb hK hP 1 0 rfl rfl (by omega) (by omega) (by omega) d_M_gatherParts_92 ?_
                    have f14 := hca ((x + 1).toNat)
                    refine li_callr ((va_runS (As := [.int (iI (ca ((x + 1).toNat)))]) (rest := []) ⟨hx, hb, hml, hown, hts⟩ (c_M_isDigit l dC dI kA (ca ((x + 1).toNat)) (by omega)) (cw_M_77 hts rfl rfl ⟨Nat.le_of_ble_eq_true rfl, Nat.le_of_ble_eq_true rfl⟩) (li_preS va_Pnil hK hN (hG.go hS hAN)) rfl rfl hl.1 rfl (lv_room (Nat.le_of_ble_eq_true rfl)) d_M_gatherParts_93 ⟨(by show 0 + 0 ≤ 0; omega), (by show 0 + 0 ≤ 0; omega)⟩).run) ?_
                    refine li_bz (tgt := 113) hx hb d_M_gatherParts_96 (by decide) (fun c15 => ?_) (fun c15 => ?_)
                    · have _q := c15
                      refine lv_iconst (v := iI 0) hx hb d_M_gatherParts_113 rfl ?_
                      refine li_nm (fun sk esk => ?_)
                      refine lv_istore (lv' := [(9, .int (iI sk)), (8, .int (iI zt)), (7, .int (iI fr)), (6, .int (iI cd)), (0, .ref mo), (1, .int (iI ix)), (2, .int (iI tag)), (3, .int (iI x)), (4, .int (iI y)), (5, .int (iI q))]) hx hb d_M_gatherParts_114 hl (by decide) rfl (fun ls hl => ?_)
                      have hsk : sk = skF ca ix x (ca (q + 1).toNat) := by unfold skF; rw [← ecd]; first | (rw [if_pos ⟨by assumption, by assumption, by assumption⟩]; exact esk) | (rw [if_neg (by simp_all)]; exact esk) | (rw [if_neg (by simp_all)])
                      refine lv_aload_n hx hb d_M_gatherParts_116 rfl (lv_at hl 4 rfl) ?_
                      refine lv_iload hx hb d_M_gatherParts_117 (lv_at hl 2 rfl) ?_
                      refine lv_iload hx hb d_M_gatherParts_119 (lv_at hl 0 rfl) ?_
                      refine li_iadd hx hb d_M_gatherParts_121 ?_
                      refine lv_iload hx hb d_M_gatherParts_122 (lv_at hl 1 rfl) ?_
                      refine li_icmp_ge (tgt := 135) hx hb d_M_gatherParts_124 (by decide) (by omega) (by omega) (fun c16 => ?_) (fun c16 => ?_)
                      · have _q := c16
                        refine lv_iload hx hb d_M_gatherParts_135 (lv_at hl 1 rfl) ?_
                        refine lv_iload hx hb d_M_gatherParts_137 (lv_at hl 1 rfl) ?_
                        refine li_callw (wc := [(mo, .inr (10, [.int (iI mrf), .ref (ma 0), .int (iI mz), .ref (ma 1), .ref (ma 2), .int (iI mls), .int (iI mfp), .int (iI mfm), .ref (ma 3), .int (iI vn), .ref (ma 4), .ref (ma 5), .int (iI mwd), .ref (ma 6), .ref (ma 7), .int (iI mak), .ref (ma 8), .ref (ma 9), .int (iI mli), .int (iI mlx), .ref (ma 10), .ref (ma 11), .int (iI mat), .int (iI mtk), .int (iI mtf), .int (iI mtt), .int (iI mfa), .int (iI mla), .int (iI mlp), .int (iI mdp), .ref (ma 12), .ref (ma 13), .int (iI msi), .int (iI (bI mdn)), .int (iI mpf), .int (iI mpt)])), (ma 4, .inl (kA 0, 400, .inl (aI vf))), (ma 5, .inl (kA 0, 400, .inl (aI vt)))]) (wr := [(ma 1, .inl (kA 0, 4120, .inl (aI ca)))]) (va_runV (As := [.int (iI zt), .int (iI zt)]) (rest := []) ⟨hx, hb, hml, hown, hts⟩ (c_M_addText l dC dI kA H.size mo ma mrf mz mls mfp mfm vn mwd mak mli mlx mat mtk mtf mtt mfa mla mlp mdp msi mpf mpt mdn vf vt zt zt (by omega)) (cw_M_119 hts rfl rfl ⟨Nat.le_of_ble_eq_true rfl, Nat.le_of_ble_eq_true rfl⟩) (li_preV (va_recv hK hP (ci := 10) (q0 := 0) rfl rfl) ⟨rfl, hP.sub [0, 2, 3] rfl, (hD.sub [0, 2, 3] (by decide) rfl).weaken (fun _ _ _ h => hAN _ h), trivial⟩ hK hN (hG.go hS hAN)) rfl rfl hl.1 rfl (lv_room (Nat.le_of_ble_eq_true rfl)) d_M_gatherParts_139 ⟨(by show 0 + 0 ≤ 0; omega), (by show 0 + 0 ≤ 0; omega)⟩) hP hD hS hA [0, 2, 3] [1] rfl rfl (by decide) (by decide) (fun u17 H locs hu17 hP hD hS _hk => ?_)
                        have hP : va_P (dC, dI) CL [(ma 1, .inl (kA 0, 4120, .inl (aI ca))), (mo, .inr (10, [.int (iI mrf), .ref (ma 0), .int (iI mz), .ref (ma 1), .ref (ma 2), .int (iI mls), .int (iI mfp), .int (iI mfm), .ref (ma 3), .int (iI (vn + 1)), .ref (ma 4), .ref (ma 5), .int (iI mwd), .ref (ma 6), .ref (ma 7), .int (iI mak), .ref (ma 8), .ref (ma 9), .int (iI mli), .int (iI mlx), .ref (ma 10), .ref (ma 11), .int (iI mat), .int (iI mtk), .int (iI mtf), .int (iI mtt), .int (iI mfa), .int (iI mla), .int (iI mlp), .int (iI mdp), .ref (ma 12), .ref (ma 13), .int (iI msi), .int (iI (bI mdn)), .int (iI mpf), .int (iI mpt)])), (ma 4, .inl (kA 0, 400, .inl (aI (va_up vf vn.toNat zt)))), (ma 5, .inl (kA 0, 400, .inl (aI (va_up vt vn.toNat zt))))] H := hP
                        have hD : va_D A [(ma 1, .inl (kA 0, 4120, .inl (aI ca))), (mo, .inr (10, [.int (iI mrf), .ref (ma 0), .int (iI mz), .ref (ma 1), .ref (ma 2), .int (iI mls), .int (iI mfp), .int (iI mfm), .ref (ma 3), .int (iI (vn + 1)), .ref (ma 4), .ref (ma 5), .int (iI mwd), .ref (ma 6), .ref (ma 7), .int (iI mak), .ref (ma 8), .ref (ma 9), .int (iI mli), .int (iI mlx), .ref (ma 10), .ref (ma 11), .int (iI mat), .int (iI mtk), .int (iI mtf), .int (iI mtt), .int (iI mfa), .int (iI mla), .int (iI mlp), .int (iI mdp), .ref (ma 12), .ref (ma 13), .int (iI msi), .int (iI (bI mdn)), .int (iI mpf), .int (iI mpt)])), (ma 4, .inl (kA 0, 400, .inl (aI (va_up vf vn.toNat zt)))), (ma 5, .inl (kA 0, 400, .inl (aI (va_up vt vn.toNat zt))))] := hD
                        refine lv_iload hx hb d_M_gatherParts_142 (lv_at hl 1 rfl) ?_
                        refine lv_istore (lv' := [(5, .int (iI zt)), (9, .int (iI sk)), (8, .int (iI zt)), (7, .int (iI fr)), (6, .int (iI cd)), (0, .ref mo), (1, .int (iI ix)), (2, .int (iI tag)), (3, .int (iI x)), (4, .int (iI y))]) hx hb d_M_gatherParts_144 hl (by decide) rfl (fun ls hl => ?_)
                        refine lv_goto (tgt := 5) hx hb d_M_gatherParts_146 (by decide) ?_
                        exact ih_5 zt g (vn + 1) (va_up vf vn.toNat zt) (va_up vt vn.toNat zt) (tl ++ gp1 ca ix tag x q zt) (by first | omega | (subst_vars; omega)) (by first | (intro _; rw [eq0_]; exact h31) | (intro h7; rcases (show ca zt.toNat = 30 ∨ ca zt.toNat = 31 by first | exact Or.inl (by assumption) | exact Or.inr (by assumption)) with h8 | h8; (exact absurd h8 (hfr zt (by omega) h7).1); exact h8)) (by first | omega | (subst_vars; omega)) (by first | exact hHL | (unfold gp1; rw [if_neg (by rw [hof]; decide), List.append_nil]; exact hHc) | (unfold gp1; rw [if_pos hof, ← hsk, ← efr]; first | (rw [if_pos (by omega)]; exact hHc.push _ _) | (rw [if_neg (by omega)]; exact hHc.push _ _))) (by first | exact hLB | (unfold gp1; rw [if_neg (by rw [hof]; decide), List.append_nil]; exact hLc) | (unfold gp1; rw [if_pos hof, ← hsk, ← efr]; first | (rw [if_pos (by omega)]; exact hLc.app (LB.one (by omega))) | (rw [if_neg (by omega)]; exact hLc.app (LB.one (by omega))))) (by omega) (by first | (rw [eq0_]; rfl) | (rw [← hres]; simp only [gpT]; rw [if_neg (by omega), ← hzt2, List.append_assoc])) (by omega) _ _ (hP.sub [1, 0, 2, 3] rfl) (hD.sub [1, 0, 2, 3] (by decide) rfl) hS _ (lv_sub hl [5, 6, 7, 8, 9, 0] rfl)
                      · have _q := c16
                        refine lv_iload hx hb d_M_gatherParts_127 (lv_at hl 2 rfl) ?_
                        refine lv_iload hx hb d_M_gatherParts_129 (lv_at hl 0 rfl) ?_
                        refine li_iadd hx hb d_M_gatherParts_131 ?_
                        refine lv_goto (tgt := 137) hx hb d_M_gatherParts_132 (by decide) ?_
                        refine lv_iload hx hb d_M_gatherParts_137 (lv_at hl 1 rfl) ?_
                        refine li_callw (wc := [(mo, .inr (10, [.int (iI mrf), .ref (ma 0), .int (iI mz), .ref (ma 1), .ref (ma 2), .int (iI mls), .int (iI mfp), .int (iI mfm), .ref (ma 3), .int (iI vn), .ref (ma 4), .ref (ma 5), .int (iI mwd), .ref (ma 6), .ref (ma 7), .int (iI mak), .ref (ma 8), .ref (ma 9), .int (iI mli), .int (iI mlx), .ref (ma 10), .ref (ma 11), .int (iI mat), .int (iI mtk), .int (iI mtf), .int (iI mtt), .int (iI mfa), .int (iI mla), .int (iI mlp), .int (iI mdp), .ref (ma 12), .ref (ma 13), .int (iI msi), .int (iI (bI mdn)), .int (iI mpf), .int (iI mpt)])), (ma 4, .inl (kA 0, 400, .inl (aI vf))), (ma 5, .inl (kA 0, 400, .inl (aI vt)))]) (wr := [(ma 1, .inl (kA 0, 4120, .inl (aI ca)))]) (va_runV (As := [.int (iI (fr + sk)), .int (iI zt)]) (rest := []) ⟨hx, hb, hml, hown, hts⟩ (c_M_addText l dC dI kA H.size mo ma mrf mz mls mfp mfm vn mwd mak mli mlx mat mtk mtf mtt mfa mla mlp mdp msi mpf mpt mdn vf vt (fr + sk) zt (by omega)) (cw_M_119 hts rfl rfl ⟨Nat.le_of_ble_eq_true rfl, Nat.le_of_ble_eq_true rfl⟩) (li_preV (va_recv hK hP (ci := 10) (q0 := 0) rfl rfl) ⟨rfl, hP.sub [0, 2, 3] rfl, (hD.sub [0, 2, 3] (by decide) rfl).weaken (fun _ _ _ h => hAN _ h), trivial⟩ hK hN (hG.go hS hAN)) rfl rfl hl.1 rfl (lv_room (Nat.le_of_ble_eq_true rfl)) d_M_gatherParts_139 ⟨(by show 0 + 0 ≤ 0; omega), (by show 0 + 0 ≤ 0; omega)⟩) hP hD hS hA [0, 2, 3] [1] rfl rfl (by decide) (by decide) (fun u18 H locs hu18 hP hD hS _hk => ?_)
                        have hP : va_P (dC, dI) CL [(ma 1, .inl (kA 0, 4120, .inl (aI ca))), (mo, .inr (10, [.int (iI mrf), .ref (ma 0), .int (iI mz), .ref (ma 1), .ref (ma 2), .int (iI mls), .int (iI mfp), .int (iI mfm), .ref (ma 3), .int (iI (vn + 1)), .ref (ma 4), .ref (ma 5), .int (iI mwd), .ref (ma 6), .ref (ma 7), .int (iI mak), .ref (ma 8), .ref (ma 9), .int (iI mli), .int (iI mlx), .ref (ma 10), .ref (ma 11), .int (iI mat), .int (iI mtk), .int (iI mtf), .int (iI mtt), .int (iI mfa), .int (iI mla), .int (iI mlp), .int (iI mdp), .ref (ma 12), .ref (ma 13), .int (iI msi), .int (iI (bI mdn)), .int (iI mpf), .int (iI mpt)])), (ma 4, .inl (kA 0, 400, .inl (aI (va_up vf vn.toNat (fr + sk))))), (ma 5, .inl (kA 0, 400, .inl (aI (va_up vt vn.toNat zt))))] H := hP
                        have hD : va_D A [(ma 1, .inl (kA 0, 4120, .inl (aI ca))), (mo, .inr (10, [.int (iI mrf), .ref (ma 0), .int (iI mz), .ref (ma 1), .ref (ma 2), .int (iI mls), .int (iI mfp), .int (iI mfm), .ref (ma 3), .int (iI (vn + 1)), .ref (ma 4), .ref (ma 5), .int (iI mwd), .ref (ma 6), .ref (ma 7), .int (iI mak), .ref (ma 8), .ref (ma 9), .int (iI mli), .int (iI mlx), .ref (ma 10), .ref (ma 11), .int (iI mat), .int (iI mtk), .int (iI mtf), .int (iI mtt), .int (iI mfa), .int (iI mla), .int (iI mlp), .int (iI mdp), .ref (ma 12), .ref (ma 13), .int (iI msi), .int (iI (bI mdn)), .int (iI mpf), .int (iI mpt)])), (ma 4, .inl (kA 0, 400, .inl (aI (va_up vf vn.toNat (fr + sk))))), (ma 5, .inl (kA 0, 400, .inl (aI (va_up vt vn.toNat zt))))] := hD
                        refine lv_iload hx hb d_M_gatherParts_142 (lv_at hl 1 rfl) ?_
                        refine lv_istore (lv' := [(5, .int (iI zt)), (9, .int (iI sk)), (8, .int (iI zt)), (7, .int (iI fr)), (6, .int (iI cd)), (0, .ref mo), (1, .int (iI ix)), (2, .int (iI tag)), (3, .int (iI x)), (4, .int (iI y))]) hx hb d_M_gatherParts_144 hl (by decide) rfl (fun ls hl => ?_)
                        refine lv_goto (tgt := 5) hx hb d_M_gatherParts_146 (by decide) ?_
                        exact ih_5 zt g (vn + 1) (va_up vf vn.toNat (fr + sk)) (va_up vt vn.toNat zt) (tl ++ gp1 ca ix tag x q zt) (by first | omega | (subst_vars; omega)) (by first | (intro _; rw [eq0_]; exact h31) | (intro h7; rcases (show ca zt.toNat = 30 ∨ ca zt.toNat = 31 by first | exact Or.inl (by assumption) | exact Or.inr (by assumption)) with h8 | h8; (exact absurd h8 (hfr zt (by omega) h7).1); exact h8)) (by first | omega | (subst_vars; omega)) (by first | exact hHL | (unfold gp1; rw [if_neg (by rw [hof]; decide), List.append_nil]; exact hHc) | (unfold gp1; rw [if_pos hof, ← hsk, ← efr]; first | (rw [if_pos (by omega)]; exact hHc.push _ _) | (rw [if_neg (by omega)]; exact hHc.push _ _))) (by first | exact hLB | (unfold gp1; rw [if_neg (by rw [hof]; decide), List.append_nil]; exact hLc) | (unfold gp1; rw [if_pos hof, ← hsk, ← efr]; first | (rw [if_pos (by omega)]; exact hLc.app (LB.one (by omega))) | (rw [if_neg (by omega)]; exact hLc.app (LB.one (by omega))))) (by omega) (by first | (rw [eq0_]; rfl) | (rw [← hres]; simp only [gpT]; rw [if_neg (by omega), ← hzt2, List.append_assoc])) (by omega) _ _ (hP.sub [1, 0, 2, 3] rfl) (hD.sub [1, 0, 2, 3] (by decide) rfl) hS _ (lv_sub hl [5, 6, 7, 8, 9, 0] rfl)
                    · have _q := c15
                      have hdg := isDig_r (by assumption)
                      refine lv_aload_n hx hb d_M_gatherParts_99 rfl (lv_at hl 3 rfl) ?_
                      refine gf_M_13 hx hb hts hown hK hP 0 rfl rfl d_M_gatherParts_100 ?_
                      refine lv_iload_n hx hb d_M_gatherParts_103 rfl (lv_at hl 6 rfl) ?_
                      refine lv_iconst (v := iI 1) hx hb d_M_gatherParts_104 rfl ?_
                      refine li_iadd hx hb d_M_gatherParts_105 ?_
                      refine li_iald hx hb hK hP 1 0 rfl rfl (by omega) (by omega) (by omega) d_M_gatherParts_106 ?_
                      have f19 := hca ((x + 1).toNat)
                      refine lv_bipush (v := iI 48) hx hb d_M_gatherParts_107 (by decide) ?_
                      refine li_isub hx hb d_M_gatherParts_109 ?_
                      refine lv_goto (tgt := 114) hx hb d_M_gatherParts_110 (by decide) ?_
                      refine li_nm (fun sk esk => ?_)
                      refine lv_istore (lv' := [(9, .int (iI sk)), (8, .int (iI zt)), (7, .int (iI fr)), (6, .int (iI cd)), (0, .ref mo), (1, .int (iI ix)), (2, .int (iI tag)), (3, .int (iI x)), (4, .int (iI y)), (5, .int (iI q))]) hx hb d_M_gatherParts_114 hl (by decide) rfl (fun ls hl => ?_)
                      have hsk : sk = skF ca ix x (ca (q + 1).toNat) := by unfold skF; rw [← ecd]; first | (rw [if_pos ⟨by assumption, by assumption, by assumption⟩]; exact esk) | (rw [if_neg (by simp_all)]; exact esk) | (rw [if_neg (by simp_all)])
                      refine lv_aload_n hx hb d_M_gatherParts_116 rfl (lv_at hl 4 rfl) ?_
                      refine lv_iload hx hb d_M_gatherParts_117 (lv_at hl 2 rfl) ?_
                      refine lv_iload hx hb d_M_gatherParts_119 (lv_at hl 0 rfl) ?_
                      refine li_iadd hx hb d_M_gatherParts_121 ?_
                      refine lv_iload hx hb d_M_gatherParts_122 (lv_at hl 1 rfl) ?_
                      refine li_icmp_ge (tgt := 135) hx hb d_M_gatherParts_124 (by decide) (by omega) (by omega) (fun c20 => ?_) (fun c20 => ?_)
                      · have _q := c20
                        refine lv_iload hx hb d_M_gatherParts_135 (lv_at hl 1 rfl) ?_
                        refine lv_iload hx hb d_M_gatherParts_137 (lv_at hl 1 rfl) ?_
                        refine li_callw (wc := [(mo, .inr (10, [.int (iI mrf), .ref (ma 0), .int (iI mz), .ref (ma 1), .ref (ma 2), .int (iI mls), .int (iI mfp), .int (iI mfm), .ref (ma 3), .int (iI vn), .ref (ma 4), .ref (ma 5), .int (iI mwd), .ref (ma 6), .ref (ma 7), .int (iI mak), .ref (ma 8), .ref (ma 9), .int (iI mli), .int (iI mlx), .ref (ma 10), .ref (ma 11), .int (iI mat), .int (iI mtk), .int (iI mtf), .int (iI mtt), .int (iI mfa), .int (iI mla), .int (iI mlp), .int (iI mdp), .ref (ma 12), .ref (ma 13), .int (iI msi), .int (iI (bI mdn)), .int (iI mpf), .int (iI mpt)])), (ma 4, .inl (kA 0, 400, .inl (aI vf))), (ma 5, .inl (kA 0, 400, .inl (aI vt)))]) (wr := [(ma 1, .inl (kA 0, 4120, .inl (aI ca)))]) (va_runV (As := [.int (iI zt), .int (iI zt)]) (rest := []) ⟨hx, hb, hml, hown, hts⟩ (c_M_addText l dC dI kA H.size mo ma mrf mz mls mfp mfm vn mwd mak mli mlx mat mtk mtf mtt mfa mla mlp mdp msi mpf mpt mdn vf vt zt zt (by omega)) (cw_M_119 hts rfl rfl ⟨Nat.le_of_ble_eq_true rfl, Nat.le_of_ble_eq_true rfl⟩) (li_preV (va_recv hK hP (ci := 10) (q0 := 0) rfl rfl) ⟨rfl, hP.sub [0, 2, 3] rfl, (hD.sub [0, 2, 3] (by decide) rfl).weaken (fun _ _ _ h => hAN _ h), trivial⟩ hK hN (hG.go hS hAN)) rfl rfl hl.1 rfl (lv_room (Nat.le_of_ble_eq_true rfl)) d_M_gatherParts_139 ⟨(by show 0 + 0 ≤ 0; omega), (by show 0 + 0 ≤ 0; omega)⟩) hP hD hS hA [0, 2, 3] [1] rfl rfl (by decide) (by decide) (fun u21 H locs hu21 hP hD hS _hk => ?_)
                        have hP : va_P (dC, dI) CL [(ma 1, .inl (kA 0, 4120, .inl (aI ca))), (mo, .inr (10, [.int (iI mrf), .ref (ma 0), .int (iI mz), .ref (ma 1), .ref (ma 2), .int (iI mls), .int (iI mfp), .int (iI mfm), .ref (ma 3), .int (iI (vn + 1)), .ref (ma 4), .ref (ma 5), .int (iI mwd), .ref (ma 6), .ref (ma 7), .int (iI mak), .ref (ma 8), .ref (ma 9), .int (iI mli), .int (iI mlx), .ref (ma 10), .ref (ma 11), .int (iI mat), .int (iI mtk), .int (iI mtf), .int (iI mtt), .int (iI mfa), .int (iI mla), .int (iI mlp), .int (iI mdp), .ref (ma 12), .ref (ma 13), .int (iI msi), .int (iI (bI mdn)), .int (iI mpf), .int (iI mpt)])), (ma 4, .inl (kA 0, 400, .inl (aI (va_up vf vn.toNat zt)))), (ma 5, .inl (kA 0, 400, .inl (aI (va_up vt vn.toNat zt))))] H := hP
                        have hD : va_D A [(ma 1, .inl (kA 0, 4120, .inl (aI ca))), (mo, .inr (10, [.int (iI mrf), .ref (ma 0), .int (iI mz), .ref (ma 1), .ref (ma 2), .int (iI mls), .int (iI mfp), .int (iI mfm), .ref (ma 3), .int (iI (vn + 1)), .ref (ma 4), .ref (ma 5), .int (iI mwd), .ref (ma 6), .ref (ma 7), .int (iI mak), .ref (ma 8), .ref (ma 9), .int (iI mli), .int (iI mlx), .ref (ma 10), .ref (ma 11), .int (iI mat), .int (iI mtk), .int (iI mtf), .int (iI mtt), .int (iI mfa), .int (iI mla), .int (iI mlp), .int (iI mdp), .ref (ma 12), .ref (ma 13), .int (iI msi), .int (iI (bI mdn)), .int (iI mpf), .int (iI mpt)])), (ma 4, .inl (kA 0, 400, .inl (aI (va_up vf vn.toNat zt)))), (ma 5, .inl (kA 0, 400, .inl (aI (va_up vt vn.toNat zt))))] := hD
                        refine lv_iload hx hb d_M_gatherParts_142 (lv_at hl 1 rfl) ?_
                        refine lv_istore (lv' := [(5, .int (iI zt)), (9, .int (iI sk)), (8, .int (iI zt)), (7, .int (iI fr)), (6, .int (iI cd)), (0, .ref mo), (1, .int (iI ix)), (2, .int (iI tag)), (3, .int (iI x)), (4, .int (iI y))]) hx hb d_M_gatherParts_144 hl (by decide) rfl (fun ls hl => ?_)
                        refine lv_goto (tgt := 5) hx hb d_M_gatherParts_146 (by decide) ?_
                        exact ih_5 zt g (vn + 1) (va_up vf vn.toNat zt) (va_up vt vn.toNat zt) (tl ++ gp1 ca ix tag x q zt) (by first | omega | (subst_vars; omega)) (by first | (intro _; rw [eq0_]; exact h31) | (intro h7; rcases (show ca zt.toNat = 30 ∨ ca zt.toNat = 31 by first | exact Or.inl (by assumption) | exact Or.inr (by assumption)) with h8 | h8; (exact absurd h8 (hfr zt (by omega) h7).1); exact h8)) (by first | omega | (subst_vars; omega)) (by first | exact hHL | (unfold gp1; rw [if_neg (by rw [hof]; decide), List.append_nil]; exact hHc) | (unfold gp1; rw [if_pos hof, ← hsk, ← efr]; first | (rw [if_pos (by omega)]; exact hHc.push _ _) | (rw [if_neg (by omega)]; exact hHc.push _ _))) (by first | exact hLB | (unfold gp1; rw [if_neg (by rw [hof]; decide), List.append_nil]; exact hLc) | (unfold gp1; rw [if_pos hof, ← hsk, ← efr]; first | (rw [if_pos (by omega)]; exact hLc.app (LB.one (by omega))) | (rw [if_neg (by omega)]; exact hLc.app (LB.one (by omega))))) (by omega) (by first | (rw [eq0_]; rfl) | (rw [← hres]; simp only [gpT]; rw [if_neg (by omega), ← hzt2, List.append_assoc])) (by omega) _ _ (hP.sub [1, 0, 2, 3] rfl) (hD.sub [1, 0, 2, 3] (by decide) rfl) hS _ (lv_sub hl [5, 6, 7, 8, 9, 0] rfl)
                      · have _q := c20
                        refine lv_iload hx hb d_M_gatherParts_127 (lv_at hl 2 rfl) ?_
                        refine lv_iload hx hb d_M_gatherParts_129 (lv_at hl 0 rfl) ?_
                        refine li_iadd hx hb d_M_gatherParts_131 ?_
                        refine lv_goto (tgt := 137) hx hb d_M_gatherParts_132 (by decide) ?_
                        refine lv_iload hx hb d_M_gatherParts_137 (lv_at hl 1 rfl) ?_
                        refine li_callw (wc := [(mo, .inr (10, [.int (iI mrf), .ref (ma 0), .int (iI mz), .ref (ma 1), .ref (ma 2), .int (iI mls), .int (iI mfp), .int (iI mfm), .ref (ma 3), .int (iI vn), .ref (ma 4), .ref (ma 5), .int (iI mwd), .ref (ma 6), .ref (ma 7), .int (iI mak), .ref (ma 8), .ref (ma 9), .int (iI mli), .int (iI mlx), .ref (ma 10), .ref (ma 11), .int (iI mat), .int (iI mtk), .int (iI mtf), .int (iI mtt), .int (iI mfa), .int (iI mla), .int (iI mlp), .int (iI mdp), .ref (ma 12), .ref (ma 13), .int (iI msi), .int (iI (bI mdn)), .int (iI mpf), .int (iI mpt)])), (ma 4, .inl (kA 0, 400, .inl (aI vf))), (ma 5, .inl (kA 0, 400, .inl (aI vt)))]) (wr := [(ma 1, .inl (kA 0, 4120, .inl (aI ca)))]) (va_runV (As := [.int (iI (fr + sk)), .int (iI zt)]) (rest := []) ⟨hx, hb, hml, hown, hts⟩ (c_M_addText l dC dI kA H.size mo ma mrf mz mls mfp mfm vn mwd mak mli mlx mat mtk mtf mtt mfa mla mlp mdp msi mpf mpt mdn vf vt (fr + sk) zt (by omega)) (cw_M_119 hts rfl rfl ⟨Nat.le_of_ble_eq_true rfl, Nat.le_of_ble_eq_true rfl⟩) (li_preV (va_recv hK hP (ci := 10) (q0 := 0) rfl rfl) ⟨rfl, hP.sub [0, 2, 3] rfl, (hD.sub [0, 2, 3] (by decide) rfl).weaken (fun _ _ _ h => hAN _ h), trivial⟩ hK hN (hG.go hS hAN)) rfl rfl hl.1 rfl (lv_room (Nat.le_of_ble_eq_true rfl)) d_M_gatherParts_139 ⟨(by show 0 + 0 ≤ 0; omega), (by show 0 + 0 ≤ 0; omega)⟩) hP hD hS hA [0, 2, 3] [1] rfl rfl (by decide) (by decide) (fun u22 H locs hu22 hP hD hS _hk => ?_)
                        have hP : va_P (dC, dI) CL [(ma 1, .inl (kA 0, 4120, .inl (aI ca))), (mo, .inr (10, [.int (iI mrf), .ref (ma 0), .int (iI mz), .ref (ma 1), .ref (ma 2), .int (iI mls), .int (iI mfp), .int (iI mfm), .ref (ma 3), .int (iI (vn + 1)), .ref (ma 4), .ref (ma 5), .int (iI mwd), .ref (ma 6), .ref (ma 7), .int (iI mak), .ref (ma 8), .ref (ma 9), .int (iI mli), .int (iI mlx), .ref (ma 10), .ref (ma 11), .int (iI mat), .int (iI mtk), .int (iI mtf), .int (iI mtt), .int (iI mfa), .int (iI mla), .int (iI mlp), .int (iI mdp), .ref (ma 12), .ref (ma 13), .int (iI msi), .int (iI (bI mdn)), .int (iI mpf), .int (iI mpt)])), (ma 4, .inl (kA 0, 400, .inl (aI (va_up vf vn.toNat (fr + sk))))), (ma 5, .inl (kA 0, 400, .inl (aI (va_up vt vn.toNat zt))))] H := hP
                        have hD : va_D A [(ma 1, .inl (kA 0, 4120, .inl (aI ca))), (mo, .inr (10, [.int (iI mrf), .ref (ma 0), .int (iI mz), .ref (ma 1), .ref (ma 2), .int (iI mls), .int (iI mfp), .int (iI mfm), .ref (ma 3), .int (iI (vn + 1)), .ref (ma 4), .ref (ma 5), .int (iI mwd), .ref (ma 6), .ref (ma 7), .int (iI mak), .ref (ma 8), .ref (ma 9), .int (iI mli), .int (iI mlx), .ref (ma 10), .ref (ma 11), .int (iI mat), .int (iI mtk), .int (iI mtf), .int (iI mtt), .int (iI mfa), .int (iI mla), .int (iI mlp), .int (iI mdp), .ref (ma 12), .ref (ma 13), .int (iI msi), .int (iI (bI mdn)), .int (iI mpf), .int (iI mpt)])), (ma 4, .inl (kA 0, 400, .inl (aI (va_up vf vn.toNat (fr + sk))))), (ma 5, .inl (kA 0, 400, .inl (aI (va_up vt vn.toNat zt))))] := hD
                        refine lv_iload hx hb d_M_gatherParts_142 (lv_at hl 1 rfl) ?_
                        refine lv_istore (lv' := [(5, .int (iI zt)), (9, .int (iI sk)), (8, .int (iI zt)), (7, .int (iI fr)), (6, .int (iI cd)), (0, .ref mo), (1, .int (iI ix)), (2, .int (iI tag)), (3, .int (iI x)), (4, .int (iI y))]) hx hb d_M_gatherParts_144 hl (by decide) rfl (fun ls hl => ?_)
                        refine lv_goto (tgt := 5) hx hb d_M_gatherParts_146 (by decide) ?_
                        exact ih_5 zt g (vn + 1) (va_up vf vn.toNat (fr + sk)) (va_up vt vn.toNat zt) (tl ++ gp1 ca ix tag x q zt) (by first | omega | (subst_vars; omega)) (by first | (intro _; rw [eq0_]; exact h31) | (intro h7; rcases (show ca zt.toNat = 30 ∨ ca zt.toNat = 31 by first | exact Or.inl (by assumption) | exact Or.inr (by assumption)) with h8 | h8; (exact absurd h8 (hfr zt (by omega) h7).1); exact h8)) (by first | omega | (subst_vars; omega)) (by first | exact hHL | (unfold gp1; rw [if_neg (by rw [hof]; decide), List.append_nil]; exact hHc) | (unfold gp1; rw [if_pos hof, ← hsk, ← efr]; first | (rw [if_pos (by omega)]; exact hHc.push _ _) | (rw [if_neg (by omega)]; exact hHc.push _ _))) (by first | exact hLB | (unfold gp1; rw [if_neg (by rw [hof]; decide), List.append_nil]; exact hLc) | (unfold gp1; rw [if_pos hof, ← hsk, ← efr]; first | (rw [if_pos (by omega)]; exact hLc.app (LB.one (by omega))) | (rw [if_neg (by omega)]; exact hLc.app (LB.one (by omega))))) (by omega) (by first | (rw [eq0_]; rfl) | (rw [← hres]; simp only [gpT]; rw [if_neg (by omega), ← hzt2, List.append_assoc])) (by omega) _ _ (hP.sub [1, 0, 2, 3] rfl) (hD.sub [1, 0, 2, 3] (by decide) rfl) hS _ (lv_sub hl [5, 6, 7, 8, 9, 0] rfl)
            · have _q := c4
              refine lv_aload_n hx hb d_M_gatherParts_45 rfl (lv_at hl 3 rfl) ?_
              refine gf_M_13 hx hb hts hown hK hP 0 rfl rfl d_M_gatherParts_46 ?_
              refine lv_iload hx hb d_M_gatherParts_49 (lv_at hl 0 rfl) ?_
              refine li_iald hx hb hK hP 1 0 rfl rfl (by omega) (by omega) (by omega) d_M_gatherParts_51 ?_
              have f23 := hca zt.toNat
              refine lv_bipush (v := iI 31) hx hb d_M_gatherParts_52 (by decide) ?_
              refine li_icmp_eq (tgt := 63) hx hb d_M_gatherParts_54 (by decide) (by omega) (by omega) (fun c24 => ?_) (fun c24 => ?_)
              · have _q := c24
                have hzt2 : zt = toA ca (q + 2) := by rw [← hto]; simp only [toL]; rw [if_pos (Or.inr (by assumption))]
                refine lv_iload_n hx hb d_M_gatherParts_63 rfl (lv_at hl 4 rfl) ?_
                refine lv_iload_n hx hb d_M_gatherParts_64 rfl (lv_at hl 5 rfl) ?_
                refine lv_iload hx hb d_M_gatherParts_65 (lv_at hl 2 rfl) ?_
                refine li_callr ((va_runS (As := [.int (iI ix), .int (iI tag), .int (iI cd)]) (rest := []) ⟨hx, hb, hml, hown, hts⟩ (c_M_isOf l dC dI kA ix tag cd (by omega) (by omega) (by omega)) (cw_M_127 hts rfl rfl ⟨Nat.le_of_ble_eq_true rfl, Nat.le_of_ble_eq_true rfl⟩) (li_preS va_Pnil hK hN (hG.go hS hAN)) rfl rfl hl.1 rfl (lv_room (Nat.le_of_ble_eq_true rfl)) d_M_gatherParts_67 ⟨(by show 0 + 0 ≤ 0; omega), (by show 0 + 0 ≤ 0; omega)⟩).run) ?_
                refine li_bz (tgt := 142) hx hb d_M_gatherParts_70 (by decide) (fun c25 => ?_) (fun c25 => ?_)
                · have _q := c25
                  have hof : isOfF ix tag (ca (q + 1).toNat) = false := by rw [← ecd]; assumption
                  refine lv_iload hx hb d_M_gatherParts_142 (lv_at hl 0 rfl) ?_
                  refine lv_istore (lv' := [(5, .int (iI zt)), (8, .int (iI zt)), (7, .int (iI fr)), (6, .int (iI cd)), (0, .ref mo), (1, .int (iI ix)), (2, .int (iI tag)), (3, .int (iI x)), (4, .int (iI y))]) hx hb d_M_gatherParts_144 hl (by decide) rfl (fun ls hl => ?_)
                  refine lv_goto (tgt := 5) hx hb d_M_gatherParts_146 (by decide) ?_
                  exact ih_5 zt g vn vf vt (tl ++ gp1 ca ix tag x q zt) (by first | omega | (subst_vars; omega)) (by first | (intro _; rw [eq0_]; exact h31) | (intro h7; rcases (show ca zt.toNat = 30 ∨ ca zt.toNat = 31 by first | exact Or.inl (by assumption) | exact Or.inr (by assumption)) with h8 | h8; (exact absurd h8 (hfr zt (by omega) h7).1); exact h8)) (by first | omega | (subst_vars; omega)) (by first | exact hHL | (unfold gp1; rw [if_neg (by rw [hof]; decide), List.append_nil]; exact hHc) | (unfold gp1; rw [if_pos hof, ← hsk, ← efr]; first | (rw [if_pos (by omega)]; exact hHc.push _ _) | (rw [if_neg (by omega)]; exact hHc.push _ _))) (by first | exact hLB | (unfold gp1; rw [if_neg (by rw [hof]; decide), List.append_nil]; exact hLc) | (unfold gp1; rw [if_pos hof, ← hsk, ← efr]; first | (rw [if_pos (by omega)]; exact hLc.app (LB.one (by omega))) | (rw [if_neg (by omega)]; exact hLc.app (LB.one (by omega))))) (by omega) (by first | (rw [eq0_]; rfl) | (rw [← hres]; simp only [gpT]; rw [if_neg (by omega), ← hzt2, List.append_assoc])) (by omega) _ _ hP hD hS _ (lv_sub hl [4, 5, 6, 7, 8, 0] rfl)
                · have _q := c25
                  have hof : isOfF ix tag (ca (q + 1).toNat) = true := by rw [← ecd]; assumption
                  refine lv_iload_n hx hb d_M_gatherParts_73 rfl (lv_at hl 4 rfl) ?_
                  refine lv_iconst (v := iI 1) hx hb d_M_gatherParts_74 rfl ?_
                  refine li_icmp_ne (tgt := 113) hx hb d_M_gatherParts_75 (by decide) (by omega) (by omega) (fun c26 => ?_) (fun c26 => ?_)
                  · have _q := c26
                    refine lv_iconst (v := iI 0) hx hb d_M_gatherParts_113 rfl ?_
                    refine li_nm (fun sk esk => ?_)
                    refine lv_istore (lv' := [(9, .int (iI sk)), (8, .int (iI zt)), (7, .int (iI fr)), (6, .int (iI cd)), (0, .ref mo), (1, .int (iI ix)), (2, .int (iI tag)), (3, .int (iI x)), (4, .int (iI y)), (5, .int (iI q))]) hx hb d_M_gatherParts_114 hl (by decide) rfl (fun ls hl => ?_)
                    have hsk : sk = skF ca ix x (ca (q + 1).toNat) := by unfold skF; rw [← ecd]; first | (rw [if_pos ⟨by assumption, by assumption, by assumption⟩]; exact esk) | (rw [if_neg (by simp_all)]; exact esk) | (rw [if_neg (by simp_all)])
                    refine lv_aload_n hx hb d_M_gatherParts_116 rfl (lv_at hl 4 rfl) ?_
                    refine lv_iload hx hb d_M_gatherParts_117 (lv_at hl 2 rfl) ?_
                    refine lv_iload hx hb d_M_gatherParts_119 (lv_at hl 0 rfl) ?_
                    refine li_iadd hx hb d_M_gatherParts_121 ?_
                    refine lv_iload hx hb d_M_gatherParts_122 (lv_at hl 1 rfl) ?_
                    refine li_icmp_ge (tgt := 135) hx hb d_M_gatherParts_124 (by decide) (by omega) (by omega) (fun c27 => ?_) (fun c27 => ?_)
                    · have _q := c27
                      refine lv_iload hx hb d_M_gatherParts_135 (lv_at hl 1 rfl) ?_
                      refine lv_iload hx hb d_M_gatherParts_137 (lv_at hl 1 rfl) ?_
                      refine li_callw (wc := [(mo, .inr (10, [.int (iI mrf), .ref (ma 0), .int (iI mz), .ref (ma 1), .ref (ma 2), .int (iI mls), .int (iI mfp), .int (iI mfm), .ref (ma 3), .int (iI vn), .ref (ma 4), .ref (ma 5), .int (iI mwd), .ref (ma 6), .ref (ma 7), .int (iI mak), .ref (ma 8), .ref (ma 9), .int (iI mli), .int (iI mlx), .ref (ma 10), .ref (ma 11), .int (iI mat), .int (iI mtk), .int (iI mtf), .int (iI mtt), .int (iI mfa), .int (iI mla), .int (iI mlp), .int (iI mdp), .ref (ma 12), .ref (ma 13), .int (iI msi), .int (iI (bI mdn)), .int (iI mpf), .int (iI mpt)])), (ma 4, .inl (kA 0, 400, .inl (aI vf))), (ma 5, .inl (kA 0, 400, .inl (aI vt)))]) (wr := [(ma 1, .inl (kA 0, 4120, .inl (aI ca)))]) (va_runV (As := [.int (iI zt), .int (iI zt)]) (rest := []) ⟨hx, hb, hml, hown, hts⟩ (c_M_addText l dC dI kA H.size mo ma mrf mz mls mfp mfm vn mwd mak mli mlx mat mtk mtf mtt mfa mla mlp mdp msi mpf mpt mdn vf vt zt zt (by omega)) (cw_M_119 hts rfl rfl ⟨Nat.le_of_ble_eq_true rfl, Nat.le_of_ble_eq_true rfl⟩) (li_preV (va_recv hK hP (ci := 10) (q0 := 0) rfl rfl) ⟨rfl, hP.sub [0, 2, 3] rfl, (hD.sub [0, 2, 3] (by decide) rfl).weaken (fun _ _ _ h => hAN _ h), trivial⟩ hK hN (hG.go hS hAN)) rfl rfl hl.1 rfl (lv_room (Nat.le_of_ble_eq_true rfl)) d_M_gatherParts_139 ⟨(by show 0 + 0 ≤ 0; omega), (by show 0 + 0 ≤ 0; omega)⟩) hP hD hS hA [0, 2, 3] [1] rfl rfl (by decide) (by decide) (fun u28 H locs hu28 hP hD hS _hk => ?_)
                      have hP : va_P (dC, dI) CL [(ma 1, .inl (kA 0, 4120, .inl (aI ca))), (mo, .inr (10, [.int (iI mrf), .ref (ma 0), .int (iI mz), .ref (ma 1), .ref (ma 2), .int (iI mls), .int (iI mfp), .int (iI mfm), .ref (ma 3), .int (iI (vn + 1)), .ref (ma 4), .ref (ma 5), .int (iI mwd), .ref (ma 6), .ref (ma 7), .int (iI mak), .ref (ma 8), .ref (ma 9), .int (iI mli), .int (iI mlx), .ref (ma 10), .ref (ma 11), .int (iI mat), .int (iI mtk), .int (iI mtf), .int (iI mtt), .int (iI mfa), .int (iI mla), .int (iI mlp), .int (iI mdp), .ref (ma 12), .ref (ma 13), .int (iI msi), .int (iI (bI mdn)), .int (iI mpf), .int (iI mpt)])), (ma 4, .inl (kA 0, 400, .inl (aI (va_up vf vn.toNat zt)))), (ma 5, .inl (kA 0, 400, .inl (aI (va_up vt vn.toNat zt))))] H := hP
                      have hD : va_D A [(ma 1, .inl (kA 0, 4120, .inl (aI ca))), (mo, .inr (10, [.int (iI mrf), .ref (ma 0), .int (iI mz), .ref (ma 1), .ref (ma 2), .int (iI mls), .int (iI mfp), .int (iI mfm), .ref (ma 3), .int (iI (vn + 1)), .ref (ma 4), .ref (ma 5), .int (iI mwd), .ref (ma 6), .ref (ma 7), .int (iI mak), .ref (ma 8), .ref (ma 9), .int (iI mli), .int (iI mlx), .ref (ma 10), .ref (ma 11), .int (iI mat), .int (iI mtk), .int (iI mtf), .int (iI mtt), .int (iI mfa), .int (iI mla), .int (iI mlp), .int (iI mdp), .ref (ma 12), .ref (ma 13), .int (iI msi), .int (iI (bI mdn)), .int (iI mpf), .int (iI mpt)])), (ma 4, .inl (kA 0, 400, .inl (aI (va_up vf vn.toNat zt)))), (ma 5, .inl (kA 0, 400, .inl (aI (va_up vt vn.toNat zt))))] := hD
                      refine lv_iload hx hb d_M_gatherParts_142 (lv_at hl 1 rfl) ?_
                      refine lv_istore (lv' := [(5, .int (iI zt)), (9, .int (iI sk)), (8, .int (iI zt)), (7, .int (iI fr)), (6, .int (iI cd)), (0, .ref mo), (1, .int (iI ix)), (2, .int (iI tag)), (3, .int (iI x)), (4, .int (iI y))]) hx hb d_M_gatherParts_144 hl (by decide) rfl (fun ls hl => ?_)
                      refine lv_goto (tgt := 5) hx hb d_M_gatherParts_146 (by decide) ?_
                      exact ih_5 zt g (vn + 1) (va_up vf vn.toNat zt) (va_up vt vn.toNat zt) (tl ++ gp1 ca ix tag x q zt) (by first | omega | (subst_vars; omega)) (by first | (intro _; rw [eq0_]; exact h31) | (intro h7; rcases (show ca zt.toNat = 30 ∨ ca zt.toNat = 31 by first | exact Or.inl (by assumption) | exact Or.inr (by assumption)) with h8 | h8; (exact absurd h8 (hfr zt (by omega) h7).1); exact h8)) (by first | omega | (subst_vars; omega)) (by first | exact hHL | (unfold gp1; rw [if_neg (by rw [hof]; decide), List.append_nil]; exact hHc) | (unfold gp1; rw [if_pos hof, ← hsk, ← efr]; first | (rw [if_pos (by omega)]; exact hHc.push _ _) | (rw [if_neg (by omega)]; exact hHc.push _ _))) (by first | exact hLB | (unfold gp1; rw [if_neg (by rw [hof]; decide), List.append_nil]; exact hLc) | (unfold gp1; rw [if_pos hof, ← hsk, ← efr]; first | (rw [if_pos (by omega)]; exact hLc.app (LB.one (by omega))) | (rw [if_neg (by omega)]; exact hLc.app (LB.one (by omega))))) (by omega) (by first | (rw [eq0_]; rfl) | (rw [← hres]; simp only [gpT]; rw [if_neg (by omega), ← hzt2, List.append_assoc])) (by omega) _ _ (hP.sub [1, 0, 2, 3] rfl) (hD.sub [1, 0, 2, 3] (by decide) rfl) hS _ (lv_sub hl [5, 6, 7, 8, 9, 0] rfl)
                    · have _q := c27
                      refine lv_iload hx hb d_M_gatherParts_127 (lv_at hl 2 rfl) ?_
                      refine lv_iload hx hb d_M_gatherParts_129 (lv_at hl 0 rfl) ?_
                      refine li_iadd hx hb d_M_gatherParts_131 ?_
                      refine lv_goto (tgt := 137) hx hb d_M_gatherParts_132 (by decide) ?_
                      refine lv_iload hx hb d_M_gatherParts_137 (lv_at hl 1 rfl) ?_
                      refine li_callw (wc := [(mo, .inr (10, [.int (iI mrf), .ref (ma 0), .int (iI mz), .ref (ma 1), .ref (ma 2), .int (iI mls), .int (iI mfp), .int (iI mfm), .ref (ma 3), .int (iI vn), .ref (ma 4), .ref (ma 5), .int (iI mwd), .ref (ma 6), .ref (ma 7), .int (iI mak), .ref (ma 8), .ref (ma 9), .int (iI mli), .int (iI mlx), .ref (ma 10), .ref (ma 11), .int (iI mat), .int (iI mtk), .int (iI mtf), .int (iI mtt), .int (iI mfa), .int (iI mla), .int (iI mlp), .int (iI mdp), .ref (ma 12), .ref (ma 13), .int (iI msi), .int (iI (bI mdn)), .int (iI mpf), .int (iI mpt)])), (ma 4, .inl (kA 0, 400, .inl (aI vf))), (ma 5, .inl (kA 0, 400, .inl (aI vt)))]) (wr := [(ma 1, .inl (kA 0, 4120, .inl (aI ca)))]) (va_runV (As := [.int (iI (fr + sk)), .int (iI zt)]) (rest := []) ⟨hx, hb, hml, hown, hts⟩ (c_M_addText l dC dI kA H.size mo ma mrf mz mls mfp mfm vn mwd mak mli mlx mat mtk mtf mtt mfa mla mlp mdp msi mpf mpt mdn vf vt (fr + sk) zt (by omega)) (cw_M_119 hts rfl rfl ⟨Nat.le_of_ble_eq_true rfl, Nat.le_of_ble_eq_true rfl⟩) (li_preV (va_recv hK hP (ci := 10) (q0 := 0) rfl rfl) ⟨rfl, hP.sub [0, 2, 3] rfl, (hD.sub [0, 2, 3] (by decide) rfl).weaken (fun _ _ _ h => hAN _ h), trivial⟩ hK hN (hG.go hS hAN)) rfl rfl hl.1 rfl (lv_room (Nat.le_of_ble_eq_true rfl)) d_M_gatherParts_139 ⟨(by show 0 + 0 ≤ 0; omega), (by show 0 + 0 ≤ 0; omega)⟩) hP hD hS hA [0, 2, 3] [1] rfl rfl (by decide) (by decide) (fun u29 H locs hu29 hP hD hS _hk => ?_)
                      have hP : va_P (dC, dI) CL [(ma 1, .inl (kA 0, 4120, .inl (aI ca))), (mo, .inr (10, [.int (iI mrf), .ref (ma 0), .int (iI mz), .ref (ma 1), .ref (ma 2), .int (iI mls), .int (iI mfp), .int (iI mfm), .ref (ma 3), .int (iI (vn + 1)), .ref (ma 4), .ref (ma 5), .int (iI mwd), .ref (ma 6), .ref (ma 7), .int (iI mak), .ref (ma 8), .ref (ma 9), .int (iI mli), .int (iI mlx), .ref (ma 10), .ref (ma 11), .int (iI mat), .int (iI mtk), .int (iI mtf), .int (iI mtt), .int (iI mfa), .int (iI mla), .int (iI mlp), .int (iI mdp), .ref (ma 12), .ref (ma 13), .int (iI msi), .int (iI (bI mdn)), .int (iI mpf), .int (iI mpt)])), (ma 4, .inl (kA 0, 400, .inl (aI (va_up vf vn.toNat (fr + sk))))), (ma 5, .inl (kA 0, 400, .inl (aI (va_up vt vn.toNat zt))))] H := hP
                      have hD : va_D A [(ma 1, .inl (kA 0, 4120, .inl (aI ca))), (mo, .inr (10, [.int (iI mrf), .ref (ma 0), .int (iI mz), .ref (ma 1), .ref (ma 2), .int (iI mls), .int (iI mfp), .int (iI mfm), .ref (ma 3), .int (iI (vn + 1)), .ref (ma 4), .ref (ma 5), .int (iI mwd), .ref (ma 6), .ref (ma 7), .int (iI mak), .ref (ma 8), .ref (ma 9), .int (iI mli), .int (iI mlx), .ref (ma 10), .ref (ma 11), .int (iI mat), .int (iI mtk), .int (iI mtf), .int (iI mtt), .int (iI mfa), .int (iI mla), .int (iI mlp), .int (iI mdp), .ref (ma 12), .ref (ma 13), .int (iI msi), .int (iI (bI mdn)), .int (iI mpf), .int (iI mpt)])), (ma 4, .inl (kA 0, 400, .inl (aI (va_up vf vn.toNat (fr + sk))))), (ma 5, .inl (kA 0, 400, .inl (aI (va_up vt vn.toNat zt))))] := hD
                      refine lv_iload hx hb d_M_gatherParts_142 (lv_at hl 1 rfl) ?_
                      refine lv_istore (lv' := [(5, .int (iI zt)), (9, .int (iI sk)), (8, .int (iI zt)), (7, .int (iI fr)), (6, .int (iI cd)), (0, .ref mo), (1, .int (iI ix)), (2, .int (iI tag)), (3, .int (iI x)), (4, .int (iI y))]) hx hb d_M_gatherParts_144 hl (by decide) rfl (fun ls hl => ?_)
                      refine lv_goto (tgt := 5) hx hb d_M_gatherParts_146 (by decide) ?_
                      exact ih_5 zt g (vn + 1) (va_up vf vn.toNat (fr + sk)) (va_up vt vn.toNat zt) (tl ++ gp1 ca ix tag x q zt) (by first | omega | (subst_vars; omega)) (by first | (intro _; rw [eq0_]; exact h31) | (intro h7; rcases (show ca zt.toNat = 30 ∨ ca zt.toNat = 31 by first | exact Or.inl (by assumption) | exact Or.inr (by assumption)) with h8 | h8; (exact absurd h8 (hfr zt (by omega) h7).1); exact h8)) (by first | omega | (subst_vars; omega)) (by first | exact hHL | (unfold gp1; rw [if_neg (by rw [hof]; decide), List.append_nil]; exact hHc) | (unfold gp1; rw [if_pos hof, ← hsk, ← efr]; first | (rw [if_pos (by omega)]; exact hHc.push _ _) | (rw [if_neg (by omega)]; exact hHc.push _ _))) (by first | exact hLB | (unfold gp1; rw [if_neg (by rw [hof]; decide), List.append_nil]; exact hLc) | (unfold gp1; rw [if_pos hof, ← hsk, ← efr]; first | (rw [if_pos (by omega)]; exact hLc.app (LB.one (by omega))) | (rw [if_neg (by omega)]; exact hLc.app (LB.one (by omega))))) (by omega) (by first | (rw [eq0_]; rfl) | (rw [← hres]; simp only [gpT]; rw [if_neg (by omega), ← hzt2, List.append_assoc])) (by omega) _ _ (hP.sub [1, 0, 2, 3] rfl) (hD.sub [1, 0, 2, 3] (by decide) rfl) hS _ (lv_sub hl [5, 6, 7, 8, 9, 0] rfl)
                  · have _q := c26
                    refine lv_iload hx hb d_M_gatherParts_78 (lv_at hl 2 rfl) ?_
                    refine lv_bipush (v := iI 97) hx hb d_M_gatherParts_80 (by decide) ?_
                    refine li_icmp_ne (tgt := 113) hx hb d_M_gatherParts_82 (by decide) (by omega) (by omega) (fun c30 => ?_) (fun c30 => ?_)
                    · have _q := c30
                      refine lv_iconst (v := iI 0) hx hb d_M_gatherParts_113 rfl ?_
                      refine li_nm (fun sk esk => ?_)
                      refine lv_istore (lv' := [(9, .int (iI sk)), (8, .int (iI zt)), (7, .int (iI fr)), (6, .int (iI cd)), (0, .ref mo), (1, .int (iI ix)), (2, .int (iI tag)), (3, .int (iI x)), (4, .int (iI y)), (5, .int (iI q))]) hx hb d_M_gatherParts_114 hl (by decide) rfl (fun ls hl => ?_)
                      have hsk : sk = skF ca ix x (ca (q + 1).toNat) := by unfold skF; rw [← ecd]; first | (rw [if_pos ⟨by assumption, by assumption, by assumption⟩]; exact esk) | (rw [if_neg (by simp_all)]; exact esk) | (rw [if_neg (by simp_all)])
                      refine lv_aload_n hx hb d_M_gatherParts_116 rfl (lv_at hl 4 rfl) ?_
                      refine lv_iload hx hb d_M_gatherParts_117 (lv_at hl 2 rfl) ?_
                      refine lv_iload hx hb d_M_gatherParts_119 (lv_at hl 0 rfl) ?_
                      refine li_iadd hx hb d_M_gatherParts_121 ?_
                      refine lv_iload hx hb d_M_gatherParts_122 (lv_at hl 1 rfl) ?_
                      refine li_icmp_ge (tgt := 135) hx hb d_M_gatherParts_124 (by decide) (by omega) (by omega) (fun c31 => ?_) (fun c31 => ?_)
                      · have _q := c31
                        refine lv_iload hx hb d_M_gatherParts_135 (lv_at hl 1 rfl) ?_
                        refine lv_iload hx hb d_M_gatherParts_137 (lv_at hl 1 rfl) ?_
                        refine li_callw (wc := [(mo, .inr (10, [.int (iI mrf), .ref (ma 0), .int (iI mz), .ref (ma 1), .ref (ma 2), .int (iI mls), .int (iI mfp), .int (iI mfm), .ref (ma 3), .int (iI vn), .ref (ma 4), .ref (ma 5), .int (iI mwd), .ref (ma 6), .ref (ma 7), .int (iI mak), .ref (ma 8), .ref (ma 9), .int (iI mli), .int (iI mlx), .ref (ma 10), .ref (ma 11), .int (iI mat), .int (iI mtk), .int (iI mtf), .int (iI mtt), .int (iI mfa), .int (iI mla), .int (iI mlp), .int (iI mdp), .ref (ma 12), .ref (ma 13), .int (iI msi), .int (iI (bI mdn)), .int (iI mpf), .int (iI mpt)])), (ma 4, .inl (kA 0, 400, .inl (aI vf))), (ma 5, .inl (kA 0, 400, .inl (aI vt)))]) (wr := [(ma 1, .inl (kA 0, 4120, .inl (aI ca)))]) (va_runV (As := [.int (iI zt), .int (iI zt)]) (rest := []) ⟨hx, hb, hml, hown, hts⟩ (c_M_addText l dC dI kA H.size mo ma mrf mz mls mfp mfm vn mwd mak mli mlx mat mtk mtf mtt mfa mla mlp mdp msi mpf mpt mdn vf vt zt zt (by omega)) (cw_M_119 hts rfl rfl ⟨Nat.le_of_ble_eq_true rfl, Nat.le_of_ble_eq_true rfl⟩) (li_preV (va_recv hK hP (ci := 10) (q0 := 0) rfl rfl) ⟨rfl, hP.sub [0, 2, 3] rfl, (hD.sub [0, 2, 3] (by decide) rfl).weaken (fun _ _ _ h => hAN _ h), trivial⟩ hK hN (hG.go hS hAN)) rfl rfl hl.1 rfl (lv_room (Nat.le_of_ble_eq_true rfl)) d_M_gatherParts_139 ⟨(by show 0 + 0 ≤ 0; omega), (by show 0 + 0 ≤ 0; omega)⟩) hP hD hS hA [0, 2, 3] [1] rfl rfl (by decide) (by decide) (fun u32 H locs hu32 hP hD hS _hk => ?_)
                        have hP : va_P (dC, dI) CL [(ma 1, .inl (kA 0, 4120, .inl (aI ca))), (mo, .inr (10, [.int (iI mrf), .ref (ma 0), .int (iI mz), .ref (ma 1), .ref (ma 2), .int (iI mls), .int (iI mfp), .int (iI mfm), .ref (ma 3), .int (iI (vn + 1)), .ref (ma 4), .ref (ma 5), .int (iI mwd), .ref (ma 6), .ref (ma 7), .int (iI mak), .ref (ma 8), .ref (ma 9), .int (iI mli), .int (iI mlx), .ref (ma 10), .ref (ma 11), .int (iI mat), .int (iI mtk), .int (iI mtf), .int (iI mtt), .int (iI mfa), .int (iI mla), .int (iI mlp), .int (iI mdp), .ref (ma 12), .ref (ma 13), .int (iI msi), .int (iI (bI mdn)), .int (iI mpf), .int (iI mpt)])), (ma 4, .inl (kA 0, 400, .inl (aI (va_up vf vn.toNat zt)))), (ma 5, .inl (kA 0, 400, .inl (aI (va_up vt vn.toNat zt))))] H := hP
                        have hD : va_D A [(ma 1, .inl (kA 0, 4120, .inl (aI ca))), (mo, .inr (10, [.int (iI mrf), .ref (ma 0), .int (iI mz), .ref (ma 1), .ref (ma 2), .int (iI mls), .int (iI mfp), .int (iI mfm), .ref (ma 3), .int (iI (vn + 1)), .ref (ma 4), .ref (ma 5), .int (iI mwd), .ref (ma 6), .ref (ma 7), .int (iI mak), .ref (ma 8), .ref (ma 9), .int (iI mli), .int (iI mlx), .ref (ma 10), .ref (ma 11), .int (iI mat), .int (iI mtk), .int (iI mtf), .int (iI mtt), .int (iI mfa), .int (iI mla), .int (iI mlp), .int (iI mdp), .ref (ma 12), .ref (ma 13), .int (iI msi), .int (iI (bI mdn)), .int (iI mpf), .int (iI mpt)])), (ma 4, .inl (kA 0, 400, .inl (aI (va_up vf vn.toNat zt)))), (ma 5, .inl (kA 0, 400, .inl (aI (va_up vt vn.toNat zt))))] := hD
                        refine lv_iload hx hb d_M_gatherParts_142 (lv_at hl 1 rfl) ?_
                        refine lv_istore (lv' := [(5, .int (iI zt)), (9, .int (iI sk)), (8, .int (iI zt)), (7, .int (iI fr)), (6, .int (iI cd)), (0, .ref mo), (1, .int (iI ix)), (2, .int (iI tag)), (3, .int (iI x)), (4, .int (iI y))]) hx hb d_M_gatherParts_144 hl (by decide) rfl (fun ls hl => ?_)
                        refine lv_goto (tgt := 5) hx hb d_M_gatherParts_146 (by decide) ?_
                        exact ih_5 zt g (vn + 1) (va_up vf vn.toNat zt) (va_up vt vn.toNat zt) (tl ++ gp1 ca ix tag x q zt) (by first | omega | (subst_vars; omega)) (by first | (intro _; rw [eq0_]; exact h31) | (intro h7; rcases (show ca zt.toNat = 30 ∨ ca zt.toNat = 31 by first | exact Or.inl (by assumption) | exact Or.inr (by assumption)) with h8 | h8; (exact absurd h8 (hfr zt (by omega) h7).1); exact h8)) (by first | omega | (subst_vars; omega)) (by first | exact hHL | (unfold gp1; rw [if_neg (by rw [hof]; decide), List.append_nil]; exact hHc) | (unfold gp1; rw [if_pos hof, ← hsk, ← efr]; first | (rw [if_pos (by omega)]; exact hHc.push _ _) | (rw [if_neg (by omega)]; exact hHc.push _ _))) (by first | exact hLB | (unfold gp1; rw [if_neg (by rw [hof]; decide), List.append_nil]; exact hLc) | (unfold gp1; rw [if_pos hof, ← hsk, ← efr]; first | (rw [if_pos (by omega)]; exact hLc.app (LB.one (by omega))) | (rw [if_neg (by omega)]; exact hLc.app (LB.one (by omega))))) (by omega) (by first | (rw [eq0_]; rfl) | (rw [← hres]; simp only [gpT]; rw [if_neg (by omega), ← hzt2, List.append_assoc])) (by omega) _ _ (hP.sub [1, 0, 2, 3] rfl) (hD.sub [1, 0, 2, 3] (by decide) rfl) hS _ (lv_sub hl [5, 6, 7, 8, 9, 0] rfl)
                      · have _q := c31
                        refine lv_iload hx hb d_M_gatherParts_127 (lv_at hl 2 rfl) ?_
                        refine lv_iload hx hb d_M_gatherParts_129 (lv_at hl 0 rfl) ?_
                        refine li_iadd hx hb d_M_gatherParts_131 ?_
                        refine lv_goto (tgt := 137) hx hb d_M_gatherParts_132 (by decide) ?_
                        refine lv_iload hx hb d_M_gatherParts_137 (lv_at hl 1 rfl) ?_
                        refine li_callw (wc := [(mo, .inr (10, [.int (iI mrf), .ref (ma 0), .int (iI mz), .ref (ma 1), .ref (ma 2), .int (iI mls), .int (iI mfp), .int (iI mfm), .ref (ma 3), .int (iI vn), .ref (ma 4), .ref (ma 5), .int (iI mwd), .ref (ma 6), .ref (ma 7), .int (iI mak), .ref (ma 8), .ref (ma 9), .int (iI mli), .int (iI mlx), .ref (ma 10), .ref (ma 11), .int (iI mat), .int (iI mtk), .int (iI mtf), .int (iI mtt), .int (iI mfa), .int (iI mla), .int (iI mlp), .int (iI mdp), .ref (ma 12), .ref (ma 13), .int (iI msi), .int (iI (bI mdn)), .int (iI mpf), .int (iI mpt)])), (ma 4, .inl (kA 0, 400, .inl (aI vf))), (ma 5, .inl (kA 0, 400, .inl (aI vt)))]) (wr := [(ma 1, .inl (kA 0, 4120, .inl (aI ca)))]) (va_runV (As := [.int (iI (fr + sk)), .int (iI zt)]) (rest := []) ⟨hx, hb, hml, hown, hts⟩ (c_M_addText l dC dI kA H.size mo ma mrf mz mls mfp mfm vn mwd mak mli mlx mat mtk mtf mtt mfa mla mlp mdp msi mpf mpt mdn vf vt (fr + sk) zt (by omega)) (cw_M_119 hts rfl rfl ⟨Nat.le_of_ble_eq_true rfl, Nat.le_of_ble_eq_true rfl⟩) (li_preV (va_recv hK hP (ci := 10) (q0 := 0) rfl rfl) ⟨rfl, hP.sub [0, 2, 3] rfl, (hD.sub [0, 2, 3] (by decide) rfl).weaken (fun _ _ _ h => hAN _ h), trivial⟩ hK hN (hG.go hS hAN)) rfl rfl hl.1 rfl (lv_room (Nat.le_of_ble_eq_true rfl)) d_M_gatherParts_139 ⟨(by show 0 + 0 ≤ 0; omega), (by show 0 + 0 ≤ 0; omega)⟩) hP hD hS hA [0, 2, 3] [1] rfl rfl (by decide) (by decide) (fun u33 H locs hu33 hP hD hS _hk => ?_)
                        have hP : va_P (dC, dI) CL [(ma 1, .inl (kA 0, 4120, .inl (aI ca))), (mo, .inr (10, [.int (iI mrf), .ref (ma 0), .int (iI mz), .ref (ma 1), .ref (ma 2), .int (iI mls), .int (iI mfp), .int (iI mfm), .ref (ma 3), .int (iI (vn + 1)), .ref (ma 4), .ref (ma 5), .int (iI mwd), .ref (ma 6), .ref (ma 7), .int (iI mak), .ref (ma 8), .ref (ma 9), .int (iI mli), .int (iI mlx), .ref (ma 10), .ref (ma 11), .int (iI mat), .int (iI mtk), .int (iI mtf), .int (iI mtt), .int (iI mfa), .int (iI mla), .int (iI mlp), .int (iI mdp), .ref (ma 12), .ref (ma 13), .int (iI msi), .int (iI (bI mdn)), .int (iI mpf), .int (iI mpt)])), (ma 4, .inl (kA 0, 400, .inl (aI (va_up vf vn.toNat (fr + sk))))), (ma 5, .inl (kA 0, 400, .inl (aI (va_up vt vn.toNat zt))))] H := hP
                        have hD : va_D A [(ma 1, .inl (kA 0, 4120, .inl (aI ca))), (mo, .inr (10, [.int (iI mrf), .ref (ma 0), .int (iI mz), .ref (ma 1), .ref (ma 2), .int (iI mls), .int (iI mfp), .int (iI mfm), .ref (ma 3), .int (iI (vn + 1)), .ref (ma 4), .ref (ma 5), .int (iI mwd), .ref (ma 6), .ref (ma 7), .int (iI mak), .ref (ma 8), .ref (ma 9), .int (iI mli), .int (iI mlx), .ref (ma 10), .ref (ma 11), .int (iI mat), .int (iI mtk), .int (iI mtf), .int (iI mtt), .int (iI mfa), .int (iI mla), .int (iI mlp), .int (iI mdp), .ref (ma 12), .ref (ma 13), .int (iI msi), .int (iI (bI mdn)), .int (iI mpf), .int (iI mpt)])), (ma 4, .inl (kA 0, 400, .inl (aI (va_up vf vn.toNat (fr + sk))))), (ma 5, .inl (kA 0, 400, .inl (aI (va_up vt vn.toNat zt))))] := hD
                        refine lv_iload hx hb d_M_gatherParts_142 (lv_at hl 1 rfl) ?_
                        refine lv_istore (lv' := [(5, .int (iI zt)), (9, .int (iI sk)), (8, .int (iI zt)), (7, .int (iI fr)), (6, .int (iI cd)), (0, .ref mo), (1, .int (iI ix)), (2, .int (iI tag)), (3, .int (iI x)), (4, .int (iI y))]) hx hb d_M_gatherParts_144 hl (by decide) rfl (fun ls hl => ?_)
                        refine lv_goto (tgt := 5) hx hb d_M_gatherParts_146 (by decide) ?_
                        exact ih_5 zt g (vn + 1) (va_up vf vn.toNat (fr + sk)) (va_up vt vn.toNat zt) (tl ++ gp1 ca ix tag x q zt) (by first | omega | (subst_vars; omega)) (by first | (intro _; rw [eq0_]; exact h31) | (intro h7; rcases (show ca zt.toNat = 30 ∨ ca zt.toNat = 31 by first | exact Or.inl (by assumption) | exact Or.inr (by assumption)) with h8 | h8; (exact absurd h8 (hfr zt (by omega) h7).1); exact h8)) (by first | omega | (subst_vars; omega)) (by first | exact hHL | (unfold gp1; rw [if_neg (by rw [hof]; decide), List.append_nil]; exact hHc) | (unfold gp1; rw [if_pos hof, ← hsk, ← efr]; first | (rw [if_pos (by omega)]; exact hHc.push _ _) | (rw [if_neg (by omega)]; exact hHc.push _ _))) (by first | exact hLB | (unfold gp1; rw [if_neg (by rw [hof]; decide), List.append_nil]; exact hLc) | (unfold gp1; rw [if_pos hof, ← hsk, ← efr]; first | (rw [if_pos (by omega)]; exact hLc.app (LB.one (by omega))) | (rw [if_neg (by omega)]; exact hLc.app (LB.one (by omega))))) (by omega) (by first | (rw [eq0_]; rfl) | (rw [← hres]; simp only [gpT]; rw [if_neg (by omega), ← hzt2, List.append_assoc])) (by omega) _ _ (hP.sub [1, 0, 2, 3] rfl) (hD.sub [1, 0, 2, 3] (by decide) rfl) hS _ (lv_sub hl [5, 6, 7, 8, 9, 0] rfl)
                    · have _q := c30
                      refine lv_aload_n hx hb d_M_gatherParts_85 rfl (lv_at hl 3 rfl) ?_
                      refine gf_M_13 hx hb hts hown hK hP 0 rfl rfl d_M_gatherParts_86 ?_
                      refine lv_iload_n hx hb d_M_gatherParts_89 rfl (lv_at hl 6 rfl) ?_
                      refine lv_iconst (v := iI 1) hx hb d_M_gatherParts_90 rfl ?_
                      refine li_iadd hx hb d_M_gatherParts_91 ?_
                      refine li_iald hx hb hK hP 1 0 rfl rfl (by omega) (by omega) (by omega) d_M_gatherParts_92 ?_
                      have f34 := hca ((x + 1).toNat)
                      refine li_callr ((va_runS (As := [.int (iI (ca ((x + 1).toNat)))]) (rest := []) ⟨hx, hb, hml, hown, hts⟩ (c_M_isDigit l dC dI kA (ca ((x + 1).toNat)) (by omega)) (cw_M_77 hts rfl rfl ⟨Nat.le_of_ble_eq_true rfl, Nat.le_of_ble_eq_true rfl⟩) (li_preS va_Pnil hK hN (hG.go hS hAN)) rfl rfl hl.1 rfl (lv_room (Nat.le_of_ble_eq_true rfl)) d_M_gatherParts_93 ⟨(by show 0 + 0 ≤ 0; omega), (by show 0 + 0 ≤ 0; omega)⟩).run) ?_
                      refine li_bz (tgt := 113) hx hb d_M_gatherParts_96 (by decide) (fun c35 => ?_) (fun c35 => ?_)
                      · have _q := c35
                        refine lv_iconst (v := iI 0) hx hb d_M_gatherParts_113 rfl ?_
                        refine li_nm (fun sk esk => ?_)
                        refine lv_istore (lv' := [(9, .int (iI sk)), (8, .int (iI zt)), (7, .int (iI fr)), (6, .int (iI cd)), (0, .ref mo), (1, .int (iI ix)), (2, .int (iI tag)), (3, .int (iI x)), (4, .int (iI y)), (5, .int (iI q))]) hx hb d_M_gatherParts_114 hl (by decide) rfl (fun ls hl => ?_)
                        have hsk : sk = skF ca ix x (ca (q + 1).toNat) := by unfold skF; rw [← ecd]; first | (rw [if_pos ⟨by assumption, by assumption, by assumption⟩]; exact esk) | (rw [if_neg (by simp_all)]; exact esk) | (rw [if_neg (by simp_all)])
                        refine lv_aload_n hx hb d_M_gatherParts_116 rfl (lv_at hl 4 rfl) ?_
                        refine lv_iload hx hb d_M_gatherParts_117 (lv_at hl 2 rfl) ?_
                        refine lv_iload hx hb d_M_gatherParts_119 (lv_at hl 0 rfl) ?_
                        refine li_iadd hx hb d_M_gatherParts_121 ?_
                        refine lv_iload hx hb d_M_gatherParts_122 (lv_at hl 1 rfl) ?_
                        refine li_icmp_ge (tgt := 135) hx hb d_M_gatherParts_124 (by decide) (by omega) (by omega) (fun c36 => ?_) (fun c36 => ?_)
                        · have _q := c36
                          refine lv_iload hx hb d_M_gatherParts_135 (lv_at hl 1 rfl) ?_
                          refine lv_iload hx hb d_M_gatherParts_137 (lv_at hl 1 rfl) ?_
                          refine li_callw (wc := [(mo, .inr (10, [.int (iI mrf), .ref (ma 0), .int (iI mz), .ref (ma 1), .ref (ma 2), .int (iI mls), .int (iI mfp), .int (iI mfm), .ref (ma 3), .int (iI vn), .ref (ma 4), .ref (ma 5), .int (iI mwd), .ref (ma 6), .ref (ma 7), .int (iI mak), .ref (ma 8), .ref (ma 9), .int (iI mli), .int (iI mlx), .ref (ma 10), .ref (ma 11), .int (iI mat), .int (iI mtk), .int (iI mtf), .int (iI mtt), .int (iI mfa), .int (iI mla), .int (iI mlp), .int (iI mdp), .ref (ma 12), .ref (ma 13), .int (iI msi), .int (iI (bI mdn)), .int (iI mpf), .int (iI mpt)])), (ma 4, .inl (kA 0, 400, .inl (aI vf))), (ma 5, .inl (kA 0, 400, .inl (aI vt)))]) (wr := [(ma 1, .inl (kA 0, 4120, .inl (aI ca)))]) (va_runV (As := [.int (iI zt), .int (iI zt)]) (rest := []) ⟨hx, hb, hml, hown, hts⟩ (c_M_addText l dC dI kA H.size mo ma mrf mz mls mfp mfm vn mwd mak mli mlx mat mtk mtf mtt mfa mla mlp mdp msi mpf mpt mdn vf vt zt zt (by omega)) (cw_M_119 hts rfl rfl ⟨Nat.le_of_ble_eq_true rfl, Nat.le_of_ble_eq_true rfl⟩) (li_preV (va_recv hK hP (ci := 10) (q0 := 0) rfl rfl) ⟨rfl, hP.sub [0, 2, 3] rfl, (hD.sub [0, 2, 3] (by decide) rfl).weaken (fun _ _ _ h => hAN _ h), trivial⟩ hK hN (hG.go hS hAN)) rfl rfl hl.1 rfl (lv_room (Nat.le_of_ble_eq_true rfl)) d_M_gatherParts_139 ⟨(by show 0 + 0 ≤ 0; omega), (by show 0 + 0 ≤ 0; omega)⟩) hP hD hS hA [0, 2, 3] [1] rfl rfl (by decide) (by decide) (fun u37 H locs hu37 hP hD hS _hk => ?_)
                          have hP : va_P (dC, dI) CL [(ma 1, .inl (kA 0, 4120, .inl (aI ca))), (mo, .inr (10, [.int (iI mrf), .ref (ma 0), .int (iI mz), .ref (ma 1), .ref (ma 2), .int (iI mls), .int (iI mfp), .int (iI mfm), .ref (ma 3), .int (iI (vn + 1)), .ref (ma 4), .ref (ma 5), .int (iI mwd), .ref (ma 6), .ref (ma 7), .int (iI mak), .ref (ma 8), .ref (ma 9), .int (iI mli), .int (iI mlx), .ref (ma 10), .ref (ma 11), .int (iI mat), .int (iI mtk), .int (iI mtf), .int (iI mtt), .int (iI mfa), .int (iI mla), .int (iI mlp), .int (iI mdp), .ref (ma 12), .ref (ma 13), .int (iI msi), .int (iI (bI mdn)), .int (iI mpf), .int (iI mpt)])), (ma 4, .inl (kA 0, 400, .inl (aI (va_up vf vn.toNat zt)))), (ma 5, .inl (kA 0, 400, .inl (aI (va_up vt vn.toNat zt))))] H := hP
                          have hD : va_D A [(ma 1, .inl (kA 0, 4120, .inl (aI ca))), (mo, .inr (10, [.int (iI mrf), .ref (ma 0), .int (iI mz), .ref (ma 1), .ref (ma 2), .int (iI mls), .int (iI mfp), .int (iI mfm), .ref (ma 3), .int (iI (vn + 1)), .ref (ma 4), .ref (ma 5), .int (iI mwd), .ref (ma 6), .ref (ma 7), .int (iI mak), .ref (ma 8), .ref (ma 9), .int (iI mli), .int (iI mlx), .ref (ma 10), .ref (ma 11), .int (iI mat), .int (iI mtk), .int (iI mtf), .int (iI mtt), .int (iI mfa), .int (iI mla), .int (iI mlp), .int (iI mdp), .ref (ma 12), .ref (ma 13), .int (iI msi), .int (iI (bI mdn)), .int (iI mpf), .int (iI mpt)])), (ma 4, .inl (kA 0, 400, .inl (aI (va_up vf vn.toNat zt)))), (ma 5, .inl (kA 0, 400, .inl (aI (va_up vt vn.toNat zt))))] := hD
                          refine lv_iload hx hb d_M_gatherParts_142 (lv_at hl 1 rfl) ?_
                          refine lv_istore (lv' := [(5, .int (iI zt)), (9, .int (iI sk)), (8, .int (iI zt)), (7, .int (iI fr)), (6, .int (iI cd)), (0, .ref mo), (1, .int (iI ix)), (2, .int (iI tag)), (3, .int (iI x)), (4, .int (iI y))]) hx hb d_M_gatherParts_144 hl (by decide) rfl (fun ls hl => ?_)
                          refine lv_goto (tgt := 5) hx hb d_M_gatherParts_146 (by decide) ?_
                          exact ih_5 zt g (vn + 1) (va_up vf vn.toNat zt) (va_up vt vn.toNat zt) (tl ++ gp1 ca ix tag x q zt) (by first | omega | (subst_vars; omega)) (by first | (intro _; rw [eq0_]; exact h31) | (intro h7; rcases (show ca zt.toNat = 30 ∨ ca zt.toNat = 31 by first | exact Or.inl (by assumption) | exact Or.inr (by assumption)) with h8 | h8; (exact absurd h8 (hfr zt (by omega) h7).1); exact h8)) (by first | omega | (subst_vars; omega)) (by first | exact hHL | (unfold gp1; rw [if_neg (by rw [hof]; decide), List.append_nil]; exact hHc) | (unfold gp1; rw [if_pos hof, ← hsk, ← efr]; first | (rw [if_pos (by omega)]; exact hHc.push _ _) | (rw [if_neg (by omega)]; exact hHc.push _ _))) (by first | exact hLB | (unfold gp1; rw [if_neg (by rw [hof]; decide), List.append_nil]; exact hLc) | (unfold gp1; rw [if_pos hof, ← hsk, ← efr]; first | (rw [if_pos (by omega)]; exact hLc.app (LB.one (by omega))) | (rw [if_neg (by omega)]; exact hLc.app (LB.one (by omega))))) (by omega) (by first | (rw [eq0_]; rfl) | (rw [← hres]; simp only [gpT]; rw [if_neg (by omega), ← hzt2, List.append_assoc])) (by omega) _ _ (hP.sub [1, 0, 2, 3] rfl) (hD.sub [1, 0, 2, 3] (by decide) rfl) hS _ (lv_sub hl [5, 6, 7, 8, 9, 0] rfl)
                        · have _q := c36
                          refine lv_iload hx hb d_M_gatherParts_127 (lv_at hl 2 rfl) ?_
                          refine lv_iload hx hb d_M_gatherParts_129 (lv_at hl 0 rfl) ?_
                          refine li_iadd hx hb d_M_gatherParts_131 ?_
                          refine lv_goto (tgt := 137) hx hb d_M_gatherParts_132 (by decide) ?_
                          refine lv_iload hx hb d_M_gatherParts_137 (lv_at hl 1 rfl) ?_
                          refine li_callw (wc := [(mo, .inr (10, [.int (iI mrf), .ref (ma 0), .int (iI mz), .ref (ma 1), .ref (ma 2), .int (iI mls), .int (iI mfp), .int (iI mfm), .ref (ma 3), .int (iI vn), .ref (ma 4), .ref (ma 5), .int (iI mwd), .ref (ma 6), .ref (ma 7), .int (iI mak), .ref (ma 8), .ref (ma 9), .int (iI mli), .int (iI mlx), .ref (ma 10), .ref (ma 11), .int (iI mat), .int (iI mtk), .int (iI mtf), .int (iI mtt), .int (iI mfa), .int (iI mla), .int (iI mlp), .int (iI mdp), .ref (ma 12), .ref (ma 13), .int (iI msi), .int (iI (bI mdn)), .int (iI mpf), .int (iI mpt)])), (ma 4, .inl (kA 0, 400, .inl (aI vf))), (ma 5, .inl (kA 0, 400, .inl (aI vt)))]) (wr := [(ma 1, .inl (kA 0, 4120, .inl (aI ca)))]) (va_runV (As := [.int (iI (fr + sk)), .int (iI zt)]) (rest := []) ⟨hx, hb, hml, hown, hts⟩ (c_M_addText l dC dI kA H.size mo ma mrf mz mls mfp mfm vn mwd mak mli mlx mat mtk mtf mtt mfa mla mlp mdp msi mpf mpt mdn vf vt (fr + sk) zt (by omega)) (cw_M_119 hts rfl rfl ⟨Nat.le_of_ble_eq_true rfl, Nat.le_of_ble_eq_true rfl⟩) (li_preV (va_recv hK hP (ci := 10) (q0 := 0) rfl rfl) ⟨rfl, hP.sub [0, 2, 3] rfl, (hD.sub [0, 2, 3] (by decide) rfl).weaken (fun _ _ _ h => hAN _ h), trivial⟩ hK hN (hG.go hS hAN)) rfl rfl hl.1 rfl (lv_room (Nat.le_of_ble_eq_true rfl)) d_M_gatherParts_139 ⟨(by show 0 + 0 ≤ 0; omega), (by show 0 + 0 ≤ 0; omega)⟩) hP hD hS hA [0, 2, 3] [1] rfl rfl (by decide) (by decide) (fun u38 H locs hu38 hP hD hS _hk => ?_)
                          have hP : va_P (dC, dI) CL [(ma 1, .inl (kA 0, 4120, .inl (aI ca))), (mo, .inr (10, [.int (iI mrf), .ref (ma 0), .int (iI mz), .ref (ma 1), .ref (ma 2), .int (iI mls), .int (iI mfp), .int (iI mfm), .ref (ma 3), .int (iI (vn + 1)), .ref (ma 4), .ref (ma 5), .int (iI mwd), .ref (ma 6), .ref (ma 7), .int (iI mak), .ref (ma 8), .ref (ma 9), .int (iI mli), .int (iI mlx), .ref (ma 10), .ref (ma 11), .int (iI mat), .int (iI mtk), .int (iI mtf), .int (iI mtt), .int (iI mfa), .int (iI mla), .int (iI mlp), .int (iI mdp), .ref (ma 12), .ref (ma 13), .int (iI msi), .int (iI (bI mdn)), .int (iI mpf), .int (iI mpt)])), (ma 4, .inl (kA 0, 400, .inl (aI (va_up vf vn.toNat (fr + sk))))), (ma 5, .inl (kA 0, 400, .inl (aI (va_up vt vn.toNat zt))))] H := hP
                          have hD : va_D A [(ma 1, .inl (kA 0, 4120, .inl (aI ca))), (mo, .inr (10, [.int (iI mrf), .ref (ma 0), .int (iI mz), .ref (ma 1), .ref (ma 2), .int (iI mls), .int (iI mfp), .int (iI mfm), .ref (ma 3), .int (iI (vn + 1)), .ref (ma 4), .ref (ma 5), .int (iI mwd), .ref (ma 6), .ref (ma 7), .int (iI mak), .ref (ma 8), .ref (ma 9), .int (iI mli), .int (iI mlx), .ref (ma 10), .ref (ma 11), .int (iI mat), .int (iI mtk), .int (iI mtf), .int (iI mtt), .int (iI mfa), .int (iI mla), .int (iI mlp), .int (iI mdp), .ref (ma 12), .ref (ma 13), .int (iI msi), .int (iI (bI mdn)), .int (iI mpf), .int (iI mpt)])), (ma 4, .inl (kA 0, 400, .inl (aI (va_up vf vn.toNat (fr + sk))))), (ma 5, .inl (kA 0, 400, .inl (aI (va_up vt vn.toNat zt))))] := hD
                          refine lv_iload hx hb d_M_gatherParts_142 (lv_at hl 1 rfl) ?_
                          refine lv_istore (lv' := [(5, .int (iI zt)), (9, .int (iI sk)), (8, .int (iI zt)), (7, .int (iI fr)), (6, .int (iI cd)), (0, .ref mo), (1, .int (iI ix)), (2, .int (iI tag)), (3, .int (iI x)), (4, .int (iI y))]) hx hb d_M_gatherParts_144 hl (by decide) rfl (fun ls hl => ?_)
                          refine lv_goto (tgt := 5) hx hb d_M_gatherParts_146 (by decide) ?_
                          exact ih_5 zt g (vn + 1) (va_up vf vn.toNat (fr + sk)) (va_up vt vn.toNat zt) (tl ++ gp1 ca ix tag x q zt) (by first | omega | (subst_vars; omega)) (by first | (intro _; rw [eq0_]; exact h31) | (intro h7; rcases (show ca zt.toNat = 30 ∨ ca zt.toNat = 31 by first | exact Or.inl (by assumption) | exact Or.inr (by assumption)) with h8 | h8; (exact absurd h8 (hfr zt (by omega) h7).1); exact h8)) (by first | omega | (subst_vars; omega)) (by first | exact hHL | (unfold gp1; rw [if_neg (by rw [hof]; decide), List.append_nil]; exact hHc) | (unfold gp1; rw [if_pos hof, ← hsk, ← efr]; first | (rw [if_pos (by omega)]; exact hHc.push _ _) | (rw [if_neg (by omega)]; exact hHc.push _ _))) (by first | exact hLB | (unfold gp1; rw [if_neg (by rw [hof]; decide), List.append_nil]; exact hLc) | (unfold gp1; rw [if_pos hof, ← hsk, ← efr]; first | (rw [if_pos (by omega)]; exact hLc.app (LB.one (by omega))) | (rw [if_neg (by omega)]; exact hLc.app (LB.one (by omega))))) (by omega) (by first | (rw [eq0_]; rfl) | (rw [← hres]; simp only [gpT]; rw [if_neg (by omega), ← hzt2, List.append_assoc])) (by omega) _ _ (hP.sub [1, 0, 2, 3] rfl) (hD.sub [1, 0, 2, 3] (by decide) rfl) hS _ (lv_sub hl [5, 6, 7, 8, 9, 0] rfl)
                      · have _q := c35
                        have hdg := isDig_r (by assumption)
                        refine lv_aload_n hx hb d_M_gatherParts_99 rfl (lv_at hl 3 rfl) ?_
                        refine gf_M_13 hx hb hts hown hK hP 0 rfl rfl d_M_gatherParts_100 ?_
                        refine lv_iload_n hx hb d_M_gatherParts_103 rfl (lv_at hl 6 rfl) ?_
                        refine lv_iconst (v := iI 1) hx hb d_M_gatherParts_104 rfl ?_
                        refine li_iadd hx hb d_M_gatherParts_105 ?_
                        refine li_iald hx hb hK hP 1 0 rfl rfl (by omega) (by omega) (by omega) d_M_gatherParts_106 ?_
                        have f39 := hca ((x + 1).toNat)
                        refine lv_bipush (v := iI 48) hx hb d_M_gatherParts_107 (by decide) ?_
                        refine li_isub hx hb d_M_gatherParts_109 ?_
                        refine lv_goto (tgt := 114) hx hb d_M_gatherParts_110 (by decide) ?_
                        refine li_nm (fun sk esk => ?_)
                        refine lv_istore (lv' := [(9, .int (iI sk)), (8, .int (iI zt)), (7, .int (iI fr)), (6, .int (iI cd)), (0, .ref mo), (1, .int (iI ix)), (2, .int (iI tag)), (3, .int (iI x)), (4, .int (iI y)), (5, .int (iI q))]) hx hb d_M_gatherParts_114 hl (by decide) rfl (fun ls hl => ?_)
                        have hsk : sk = skF ca ix x (ca (q + 1).toNat) := by unfold skF; rw [← ecd]; first | (rw [if_pos ⟨by assumption, by assumption, by assumption⟩]; exact esk) | (rw [if_neg (by simp_all)]; exact esk) | (rw [if_neg (by simp_all)])
                        refine lv_aload_n hx hb d_M_gatherParts_116 rfl (lv_at hl 4 rfl) ?_
                        refine lv_iload hx hb d_M_gatherParts_117 (lv_at hl 2 rfl) ?_
                        refine lv_iload hx hb d_M_gatherParts_119 (lv_at hl 0 rfl) ?_
                        refine li_iadd hx hb d_M_gatherParts_121 ?_
                        refine lv_iload hx hb d_M_gatherParts_122 (lv_at hl 1 rfl) ?_
                        refine li_icmp_ge (tgt := 135) hx hb d_M_gatherParts_124 (by decide) (by omega) (by omega) (fun c40 => ?_) (fun c40 => ?_)
                        · have _q := c40
                          refine lv_iload hx hb d_M_gatherParts_135 (lv_at hl 1 rfl) ?_
                          refine lv_iload hx hb d_M_gatherParts_137 (lv_at hl 1 rfl) ?_
                          refine li_callw (wc := [(mo, .inr (10, [.int (iI mrf), .ref (ma 0), .int (iI mz), .ref (ma 1), .ref (ma 2), .int (iI mls), .int (iI mfp), .int (iI mfm), .ref (ma 3), .int (iI vn), .ref (ma 4), .ref (ma 5), .int (iI mwd), .ref (ma 6), .ref (ma 7), .int (iI mak), .ref (ma 8), .ref (ma 9), .int (iI mli), .int (iI mlx), .ref (ma 10), .ref (ma 11), .int (iI mat), .int (iI mtk), .int (iI mtf), .int (iI mtt), .int (iI mfa), .int (iI mla), .int (iI mlp), .int (iI mdp), .ref (ma 12), .ref (ma 13), .int (iI msi), .int (iI (bI mdn)), .int (iI mpf), .int (iI mpt)])), (ma 4, .inl (kA 0, 400, .inl (aI vf))), (ma 5, .inl (kA 0, 400, .inl (aI vt)))]) (wr := [(ma 1, .inl (kA 0, 4120, .inl (aI ca)))]) (va_runV (As := [.int (iI zt), .int (iI zt)]) (rest := []) ⟨hx, hb, hml, hown, hts⟩ (c_M_addText l dC dI kA H.size mo ma mrf mz mls mfp mfm vn mwd mak mli mlx mat mtk mtf mtt mfa mla mlp mdp msi mpf mpt mdn vf vt zt zt (by omega)) (cw_M_119 hts rfl rfl ⟨Nat.le_of_ble_eq_true rfl, Nat.le_of_ble_eq_true rfl⟩) (li_preV (va_recv hK hP (ci := 10) (q0 := 0) rfl rfl) ⟨rfl, hP.sub [0, 2, 3] rfl, (hD.sub [0, 2, 3] (by decide) rfl).weaken (fun _ _ _ h => hAN _ h), trivial⟩ hK hN (hG.go hS hAN)) rfl rfl hl.1 rfl (lv_room (Nat.le_of_ble_eq_true rfl)) d_M_gatherParts_139 ⟨(by show 0 + 0 ≤ 0; omega), (by show 0 + 0 ≤ 0; omega)⟩) hP hD hS hA [0, 2, 3] [1] rfl rfl (by decide) (by decide) (fun u41 H locs hu41 hP hD hS _hk => ?_)
                          have hP : va_P (dC, dI) CL [(ma 1, .inl (kA 0, 4120, .inl (aI ca))), (mo, .inr (10, [.int (iI mrf), .ref (ma 0), .int (iI mz), .ref (ma 1), .ref (ma 2), .int (iI mls), .int (iI mfp), .int (iI mfm), .ref (ma 3), .int (iI (vn + 1)), .ref (ma 4), .ref (ma 5), .int (iI mwd), .ref (ma 6), .ref (ma 7), .int (iI mak), .ref (ma 8), .ref (ma 9), .int (iI mli), .int (iI mlx), .ref (ma 10), .ref (ma 11), .int (iI mat), .int (iI mtk), .int (iI mtf), .int (iI mtt), .int (iI mfa), .int (iI mla), .int (iI mlp), .int (iI mdp), .ref (ma 12), .ref (ma 13), .int (iI msi), .int (iI (bI mdn)), .int (iI mpf), .int (iI mpt)])), (ma 4, .inl (kA 0, 400, .inl (aI (va_up vf vn.toNat zt)))), (ma 5, .inl (kA 0, 400, .inl (aI (va_up vt vn.toNat zt))))] H := hP
                          have hD : va_D A [(ma 1, .inl (kA 0, 4120, .inl (aI ca))), (mo, .inr (10, [.int (iI mrf), .ref (ma 0), .int (iI mz), .ref (ma 1), .ref (ma 2), .int (iI mls), .int (iI mfp), .int (iI mfm), .ref (ma 3), .int (iI (vn + 1)), .ref (ma 4), .ref (ma 5), .int (iI mwd), .ref (ma 6), .ref (ma 7), .int (iI mak), .ref (ma 8), .ref (ma 9), .int (iI mli), .int (iI mlx), .ref (ma 10), .ref (ma 11), .int (iI mat), .int (iI mtk), .int (iI mtf), .int (iI mtt), .int (iI mfa), .int (iI mla), .int (iI mlp), .int (iI mdp), .ref (ma 12), .ref (ma 13), .int (iI msi), .int (iI (bI mdn)), .int (iI mpf), .int (iI mpt)])), (ma 4, .inl (kA 0, 400, .inl (aI (va_up vf vn.toNat zt)))), (ma 5, .inl (kA 0, 400, .inl (aI (va_up vt vn.toNat zt))))] := hD
                          refine lv_iload hx hb d_M_gatherParts_142 (lv_at hl 1 rfl) ?_
                          refine lv_istore (lv' := [(5, .int (iI zt)), (9, .int (iI sk)), (8, .int (iI zt)), (7, .int (iI fr)), (6, .int (iI cd)), (0, .ref mo), (1, .int (iI ix)), (2, .int (iI tag)), (3, .int (iI x)), (4, .int (iI y))]) hx hb d_M_gatherParts_144 hl (by decide) rfl (fun ls hl => ?_)
                          refine lv_goto (tgt := 5) hx hb d_M_gatherParts_146 (by decide) ?_
                          exact ih_5 zt g (vn + 1) (va_up vf vn.toNat zt) (va_up vt vn.toNat zt) (tl ++ gp1 ca ix tag x q zt) (by first | omega | (subst_vars; omega)) (by first | (intro _; rw [eq0_]; exact h31) | (intro h7; rcases (show ca zt.toNat = 30 ∨ ca zt.toNat = 31 by first | exact Or.inl (by assumption) | exact Or.inr (by assumption)) with h8 | h8; (exact absurd h8 (hfr zt (by omega) h7).1); exact h8)) (by first | omega | (subst_vars; omega)) (by first | exact hHL | (unfold gp1; rw [if_neg (by rw [hof]; decide), List.append_nil]; exact hHc) | (unfold gp1; rw [if_pos hof, ← hsk, ← efr]; first | (rw [if_pos (by omega)]; exact hHc.push _ _) | (rw [if_neg (by omega)]; exact hHc.push _ _))) (by first | exact hLB | (unfold gp1; rw [if_neg (by rw [hof]; decide), List.append_nil]; exact hLc) | (unfold gp1; rw [if_pos hof, ← hsk, ← efr]; first | (rw [if_pos (by omega)]; exact hLc.app (LB.one (by omega))) | (rw [if_neg (by omega)]; exact hLc.app (LB.one (by omega))))) (by omega) (by first | (rw [eq0_]; rfl) | (rw [← hres]; simp only [gpT]; rw [if_neg (by omega), ← hzt2, List.append_assoc])) (by omega) _ _ (hP.sub [1, 0, 2, 3] rfl) (hD.sub [1, 0, 2, 3] (by decide) rfl) hS _ (lv_sub hl [5, 6, 7, 8, 9, 0] rfl)
                        · have _q := c40
                          refine lv_iload hx hb d_M_gatherParts_127 (lv_at hl 2 rfl) ?_
                          refine lv_iload hx hb d_M_gatherParts_129 (lv_at hl 0 rfl) ?_
                          refine li_iadd hx hb d_M_gatherParts_131 ?_
                          refine lv_goto (tgt := 137) hx hb d_M_gatherParts_132 (by decide) ?_
                          refine lv_iload hx hb d_M_gatherParts_137 (lv_at hl 1 rfl) ?_
                          refine li_callw (wc := [(mo, .inr (10, [.int (iI mrf), .ref (ma 0), .int (iI mz), .ref (ma 1), .ref (ma 2), .int (iI mls), .int (iI mfp), .int (iI mfm), .ref (ma 3), .int (iI vn), .ref (ma 4), .ref (ma 5), .int (iI mwd), .ref (ma 6), .ref (ma 7), .int (iI mak), .ref (ma 8), .ref (ma 9), .int (iI mli), .int (iI mlx), .ref (ma 10), .ref (ma 11), .int (iI mat), .int (iI mtk), .int (iI mtf), .int (iI mtt), .int (iI mfa), .int (iI mla), .int (iI mlp), .int (iI mdp), .ref (ma 12), .ref (ma 13), .int (iI msi), .int (iI (bI mdn)), .int (iI mpf), .int (iI mpt)])), (ma 4, .inl (kA 0, 400, .inl (aI vf))), (ma 5, .inl (kA 0, 400, .inl (aI vt)))]) (wr := [(ma 1, .inl (kA 0, 4120, .inl (aI ca)))]) (va_runV (As := [.int (iI (fr + sk)), .int (iI zt)]) (rest := []) ⟨hx, hb, hml, hown, hts⟩ (c_M_addText l dC dI kA H.size mo ma mrf mz mls mfp mfm vn mwd mak mli mlx mat mtk mtf mtt mfa mla mlp mdp msi mpf mpt mdn vf vt (fr + sk) zt (by omega)) (cw_M_119 hts rfl rfl ⟨Nat.le_of_ble_eq_true rfl, Nat.le_of_ble_eq_true rfl⟩) (li_preV (va_recv hK hP (ci := 10) (q0 := 0) rfl rfl) ⟨rfl, hP.sub [0, 2, 3] rfl, (hD.sub [0, 2, 3] (by decide) rfl).weaken (fun _ _ _ h => hAN _ h), trivial⟩ hK hN (hG.go hS hAN)) rfl rfl hl.1 rfl (lv_room (Nat.le_of_ble_eq_true rfl)) d_M_gatherParts_139 ⟨(by show 0 + 0 ≤ 0; omega), (by show 0 + 0 ≤ 0; omega)⟩) hP hD hS hA [0, 2, 3] [1] rfl rfl (by decide) (by decide) (fun u42 H locs hu42 hP hD hS _hk => ?_)
                          have hP : va_P (dC, dI) CL [(ma 1, .inl (kA 0, 4120, .inl (aI ca))), (mo, .inr (10, [.int (iI mrf), .ref (ma 0), .int (iI mz), .ref (ma 1), .ref (ma 2), .int (iI mls), .int (iI mfp), .int (iI mfm), .ref (ma 3), .int (iI (vn + 1)), .ref (ma 4), .ref (ma 5), .int (iI mwd), .ref (ma 6), .ref (ma 7), .int (iI mak), .ref (ma 8), .ref (ma 9), .int (iI mli), .int (iI mlx), .ref (ma 10), .ref (ma 11), .int (iI mat), .int (iI mtk), .int (iI mtf), .int (iI mtt), .int (iI mfa), .int (iI mla), .int (iI mlp), .int (iI mdp), .ref (ma 12), .ref (ma 13), .int (iI msi), .int (iI (bI mdn)), .int (iI mpf), .int (iI mpt)])), (ma 4, .inl (kA 0, 400, .inl (aI (va_up vf vn.toNat (fr + sk))))), (ma 5, .inl (kA 0, 400, .inl (aI (va_up vt vn.toNat zt))))] H := hP
                          have hD : va_D A [(ma 1, .inl (kA 0, 4120, .inl (aI ca))), (mo, .inr (10, [.int (iI mrf), .ref (ma 0), .int (iI mz), .ref (ma 1), .ref (ma 2), .int (iI mls), .int (iI mfp), .int (iI mfm), .ref (ma 3), .int (iI (vn + 1)), .ref (ma 4), .ref (ma 5), .int (iI mwd), .ref (ma 6), .ref (ma 7), .int (iI mak), .ref (ma 8), .ref (ma 9), .int (iI mli), .int (iI mlx), .ref (ma 10), .ref (ma 11), .int (iI mat), .int (iI mtk), .int (iI mtf), .int (iI mtt), .int (iI mfa), .int (iI mla), .int (iI mlp), .int (iI mdp), .ref (ma 12), .ref (ma 13), .int (iI msi), .int (iI (bI mdn)), .int (iI mpf), .int (iI mpt)])), (ma 4, .inl (kA 0, 400, .inl (aI (va_up vf vn.toNat (fr + sk))))), (ma 5, .inl (kA 0, 400, .inl (aI (va_up vt vn.toNat zt))))] := hD
                          refine lv_iload hx hb d_M_gatherParts_142 (lv_at hl 1 rfl) ?_
                          refine lv_istore (lv' := [(5, .int (iI zt)), (9, .int (iI sk)), (8, .int (iI zt)), (7, .int (iI fr)), (6, .int (iI cd)), (0, .ref mo), (1, .int (iI ix)), (2, .int (iI tag)), (3, .int (iI x)), (4, .int (iI y))]) hx hb d_M_gatherParts_144 hl (by decide) rfl (fun ls hl => ?_)
                          refine lv_goto (tgt := 5) hx hb d_M_gatherParts_146 (by decide) ?_
                          exact ih_5 zt g (vn + 1) (va_up vf vn.toNat (fr + sk)) (va_up vt vn.toNat zt) (tl ++ gp1 ca ix tag x q zt) (by first | omega | (subst_vars; omega)) (by first | (intro _; rw [eq0_]; exact h31) | (intro h7; rcases (show ca zt.toNat = 30 ∨ ca zt.toNat = 31 by first | exact Or.inl (by assumption) | exact Or.inr (by assumption)) with h8 | h8; (exact absurd h8 (hfr zt (by omega) h7).1); exact h8)) (by first | omega | (subst_vars; omega)) (by first | exact hHL | (unfold gp1; rw [if_neg (by rw [hof]; decide), List.append_nil]; exact hHc) | (unfold gp1; rw [if_pos hof, ← hsk, ← efr]; first | (rw [if_pos (by omega)]; exact hHc.push _ _) | (rw [if_neg (by omega)]; exact hHc.push _ _))) (by first | exact hLB | (unfold gp1; rw [if_neg (by rw [hof]; decide), List.append_nil]; exact hLc) | (unfold gp1; rw [if_pos hof, ← hsk, ← efr]; first | (rw [if_pos (by omega)]; exact hLc.app (LB.one (by omega))) | (rw [if_neg (by omega)]; exact hLc.app (LB.one (by omega))))) (by omega) (by first | (rw [eq0_]; rfl) | (rw [← hres]; simp only [gpT]; rw [if_neg (by omega), ← hzt2, List.append_assoc])) (by omega) _ _ (hP.sub [1, 0, 2, 3] rfl) (hD.sub [1, 0, 2, 3] (by decide) rfl) hS _ (lv_sub hl [5, 6, 7, 8, 9, 0] rfl)
              · have _q := c24
                have hlt : zt < y := Decidable.byContradiction (fun hzy => absurd hy30 (by have e9 : zt = y := (by omega); rw [← e9]; assumption))
                obtain ⟨zn, ezn⟩ : ∃ y_9 : Int, y_9 = zt + 1 := ⟨_, rfl⟩
                refine lv_iinc (v := iI zn) (lv' := [(8, .int (iI zn)), (7, .int (iI fr)), (6, .int (iI cd)), (0, .ref mo), (1, .int (iI ix)), (2, .int (iI tag)), (3, .int (iI x)), (4, .int (iI y)), (5, .int (iI q))]) hx hb d_M_gatherParts_57 hl (k := 0) rfl (by rw [ezn]; exact iI_add _ _) (by decide) rfl (fun ls hl => ?_)
                refine lv_goto (tgt := 33) hx hb d_M_gatherParts_60 (by decide) ?_
                exact ih_33 zn h (by omega) (by omega) (by rw [← hto, ezn]; simp only [toL]; rw [if_neg (by simp_all)]) (by omega) _ _ hP hD hS _ (lv_sub hl [0, 1, 2, 3, 4, 5, 6, 7, 8] rfl)
        exact K_33 ((y - fr).toNat + 1) fr 500 (by omega) (by omega) (by rw [efr]; rfl) (Nat.lt_succ_self _) _ _ hP hD hS _ (lv_sub hl [0, 1, 2, 3, 4, 5, 6, 7, 8] rfl)
  suffices h9 : ∀ (H : Heap) (locs : List Loc), H = s.heap → locs = [] → W p l e (rmd 1 0 0) s m args below meth c H locs 0 0 Q (F0 m 0 ls []) from h9 _ _ rfl rfl
  intro H locs eH eL
  have hP : va_P (dC, dI) CL [(mo, .inr (10, [.int (iI mrf), .ref (ma 0), .int (iI mz), .ref (ma 1), .ref (ma 2), .int (iI mls), .int (iI mfp), .int (iI mfm), .ref (ma 3), .int (iI mtx), .ref (ma 4), .ref (ma 5), .int (iI mwd), .ref (ma 6), .ref (ma 7), .int (iI mak), .ref (ma 8), .ref (ma 9), .int (iI mli), .int (iI mlx), .ref (ma 10), .ref (ma 11), .int (iI mat), .int (iI mtk), .int (iI mtf), .int (iI mtt), .int (iI mfa), .int (iI mla), .int (iI mlp), .int (iI mdp), .ref (ma 12), .ref (ma 13), .int (iI msi), .int (iI (bI mdn)), .int (iI mpf), .int (iI mpt)])), (ma 1, .inl (kA 0, 4120, .inl (aI ca))), (ma 4, .inl (kA 0, 400, .inl (aI ctf))), (ma 5, .inl (kA 0, 400, .inl (aI ctt)))] H := by rw [eH]; exact hP
  have hS : va_S A s.heap H locs := by rw [eH, eL]; exact va_S.rf
  refine lv_iload_n hx hb d_M_gatherParts_0 rfl (lv_at hl 3 rfl) ?_
  refine lv_iconst (v := iI 2) hx hb d_M_gatherParts_1 rfl ?_
  refine li_iadd hx hb d_M_gatherParts_2 ?_
  refine li_nm (fun q0_ eq0_ => ?_)
  refine lv_istore (lv' := [(5, .int (iI q0_)), (0, .ref mo), (1, .int (iI ix)), (2, .int (iI tag)), (3, .int (iI x)), (4, .int (iI y))]) hx hb d_M_gatherParts_3 hl (by decide) rfl (fun ls hl => ?_)
  exact K_5 ((y - q0_).toNat + 1) q0_ 500 mtx ctf ctt ol (by first | omega | (subst_vars; omega)) (by first | (intro _; rw [eq0_]; exact h31) | (intro h7; rcases (show ca zt.toNat = 30 ∨ ca zt.toNat = 31 by first | exact Or.inl (by assumption) | exact Or.inr (by assumption)) with h8 | h8; (exact absurd h8 (hfr zt (by omega) h7).1); exact h8)) (by first | omega | (subst_vars; omega)) (by first | exact hHL | (unfold gp1; rw [if_neg (by rw [hof]; decide), List.append_nil]; exact hHc) | (unfold gp1; rw [if_pos hof, ← hsk, ← efr]; first | (rw [if_pos (by omega)]; exact hHc.push _ _) | (rw [if_neg (by omega)]; exact hHc.push _ _))) (by first | exact hLB | (unfold gp1; rw [if_neg (by rw [hof]; decide), List.append_nil]; exact hLc) | (unfold gp1; rw [if_pos hof, ← hsk, ← efr]; first | (rw [if_pos (by omega)]; exact hLc.app (LB.one (by omega))) | (rw [if_neg (by omega)]; exact hLc.app (LB.one (by omega))))) (by omega) (by first | (rw [eq0_]; rfl) | (rw [← hres]; simp only [gpT]; rw [if_neg (by omega), ← hzt2, List.append_assoc])) (Nat.lt_succ_self _) _ _ hP hD hS _ (lv_sub hl [1, 2, 3, 4, 5, 0] rfl)

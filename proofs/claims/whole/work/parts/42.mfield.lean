theorem rng256 {v : Int} (h : -1 ≤ v ∧ v < 256) : -2147483648 ≤ v ∧ v < 2147483648 := by omega
theorem byM_lt {cb : Nat → Int} {mz k v : Int} (h : byM cb mz k = v) (hv : 0 ≤ v) : k < mz := by
  by_cases q : k < mz
  · exact q
  · rw [byM_e (by omega)] at h; omega
theorem txt_lt {cb : Nat → Int} {mz k : Int} (h : isTxt (byM cb mz k) = true) : k < mz := byM_lt (cb := cb) rfl (by have := of_decide_eq_true h; omega)
theorem dig_lt {cb : Nat → Int} {mz k : Int} (h : isDig (byM cb mz k) = true) : k < mz := byM_lt (cb := cb) rfl (by have := of_decide_eq_true h; omega)
/-- a field's parts: where a text ends -/
def toL (f : Nat → Int) : Nat → Int → Int
  | 0, x => x
  | k + 1, x => if f x.toNat = 30 ∨ f x.toNat = 31 then x else toL f k (x + 1)
def gpS (f : Nat → Int) (ix tag x q : Int) (u : St3) (to : Int) : St3 := if isOfF ix tag (f (q + 1).toNat) = true then (u.1 + 1, va_up u.2.1 u.1.toNat (if q + 2 + (if ix = 1 ∧ f (q + 1).toNat = 97 ∧ isDig (f (x + 1).toNat) = true then f (x + 1).toNat - 48 else 0) < to then q + 2 + (if ix = 1 ∧ f (q + 1).toNat = 97 ∧ isDig (f (x + 1).toNat) = true then f (x + 1).toNat - 48 else 0) else to), va_up u.2.2 u.1.toNat to) else u
def gpL (f : Nat → Int) (ix tag x y : Int) : Nat → Int → St3 → St3
  | 0, _, u => u
  | k + 1, q, u => if y ≤ q then u else gpL f ix tag x y k (toL f 500 (q + 2)) (gpS f ix tag x q u (toL f 500 (q + 2)))

theorem d_M_along_0 : decode b_M_along 0 = .ok (.iload_n 1, 1) := by decide +kernel
theorem d_M_along_1 : decode b_M_along 1 = .ok (.istore_n 3, 1) := by decide +kernel
theorem d_M_along_2 : decode b_M_along 2 = .ok (.iload_n 2, 1) := by decide +kernel
theorem d_M_along_3 : decode b_M_along 3 = .ok (.ifCond .ne 60, 3) := by decide +kernel
theorem d_M_along_6 : decode b_M_along 6 = .ok (.iconst 0, 1) := by decide +kernel
theorem d_M_along_7 : decode b_M_along 7 = .ok (.istore 4, 2) := by decide +kernel
theorem d_M_along_9 : decode b_M_along 9 = .ok (.iload 4, 2) := by decide +kernel
theorem d_M_along_11 : decode b_M_along 11 = .ok (.iconst 2, 1) := by decide +kernel
theorem d_M_along_12 : decode b_M_along 12 = .ok (.if_icmp .ge 37, 3) := by decide +kernel
theorem d_M_along_15 : decode b_M_along 15 = .ok (.aload_n 0, 1) := by decide +kernel
theorem d_M_along_16 : decode b_M_along 16 = .ok (.iload_n 3, 1) := by decide +kernel
theorem d_M_along_17 : decode b_M_along 17 = .ok (.invokevirtual 73, 3) := by decide +kernel
theorem d_M_along_20 : decode b_M_along 20 = .ok (.bipush 32, 2) := by decide +kernel
theorem d_M_along_22 : decode b_M_along 22 = .ok (.if_icmp .eq 18, 3) := by decide +kernel
theorem d_M_along_25 : decode b_M_along 25 = .ok (.aload_n 0, 1) := by decide +kernel
theorem d_M_along_26 : decode b_M_along 26 = .ok (.iload_n 3, 1) := by decide +kernel
theorem d_M_along_27 : decode b_M_along 27 = .ok (.invokevirtual 73, 3) := by decide +kernel
theorem d_M_along_30 : decode b_M_along 30 = .ok (.invokestatic 77, 3) := by decide +kernel
theorem d_M_along_33 : decode b_M_along 33 = .ok (.ifCond .ne 7, 3) := by decide +kernel
theorem d_M_along_36 : decode b_M_along 36 = .ok (.iconst (-1), 1) := by decide +kernel
theorem d_M_along_37 : decode b_M_along 37 = .ok (.iload_n 3, 1) := by decide +kernel
theorem d_M_along_38 : decode b_M_along 38 = .ok (.isub, 1) := by decide +kernel
theorem d_M_along_39 : decode b_M_along 39 = .ok (.ireturn, 1) := by decide +kernel
theorem d_M_along_40 : decode b_M_along 40 = .ok (.iinc 3 1, 3) := by decide +kernel
theorem d_M_along_43 : decode b_M_along 43 = .ok (.iinc 4 1, 3) := by decide +kernel
theorem d_M_along_46 : decode b_M_along 46 = .ok (.goto (-37), 3) := by decide +kernel
theorem d_M_along_49 : decode b_M_along 49 = .ok (.aload_n 0, 1) := by decide +kernel
theorem d_M_along_50 : decode b_M_along 50 = .ok (.iload_n 3, 1) := by decide +kernel
theorem d_M_along_51 : decode b_M_along 51 = .ok (.invokevirtual 73, 3) := by decide +kernel
theorem d_M_along_54 : decode b_M_along 54 = .ok (.bipush 31, 2) := by decide +kernel
theorem d_M_along_56 : decode b_M_along 56 = .ok (.if_icmp .eq 7, 3) := by decide +kernel
theorem d_M_along_59 : decode b_M_along 59 = .ok (.iconst (-1), 1) := by decide +kernel
theorem d_M_along_60 : decode b_M_along 60 = .ok (.iload_n 3, 1) := by decide +kernel
theorem d_M_along_61 : decode b_M_along 61 = .ok (.isub, 1) := by decide +kernel
theorem d_M_along_62 : decode b_M_along 62 = .ok (.ireturn, 1) := by decide +kernel
theorem d_M_along_63 : decode b_M_along 63 = .ok (.aload_n 0, 1) := by decide +kernel
theorem d_M_along_64 : decode b_M_along 64 = .ok (.iload_n 3, 1) := by decide +kernel
theorem d_M_along_65 : decode b_M_along 65 = .ok (.invokevirtual 73, 3) := by decide +kernel
theorem d_M_along_68 : decode b_M_along 68 = .ok (.bipush 30, 2) := by decide +kernel
theorem d_M_along_70 : decode b_M_along 70 = .ok (.if_icmp .eq 75, 3) := by decide +kernel
theorem d_M_along_73 : decode b_M_along 73 = .ok (.aload_n 0, 1) := by decide +kernel
theorem d_M_along_74 : decode b_M_along 74 = .ok (.iload_n 3, 1) := by decide +kernel
theorem d_M_along_75 : decode b_M_along 75 = .ok (.invokevirtual 73, 3) := by decide +kernel
theorem d_M_along_78 : decode b_M_along 78 = .ok (.istore 4, 2) := by decide +kernel
theorem d_M_along_80 : decode b_M_along 80 = .ok (.iload_n 2, 1) := by decide +kernel
theorem d_M_along_81 : decode b_M_along 81 = .ok (.ifCond .ne 46, 3) := by decide +kernel
theorem d_M_along_84 : decode b_M_along 84 = .ok (.iload 4, 2) := by decide +kernel
theorem d_M_along_86 : decode b_M_along 86 = .ok (.bipush 31, 2) := by decide +kernel
theorem d_M_along_88 : decode b_M_along 88 = .ok (.if_icmp .ne 39, 3) := by decide +kernel
theorem d_M_along_91 : decode b_M_along 91 = .ok (.iinc 3 1, 3) := by decide +kernel
theorem d_M_along_94 : decode b_M_along 94 = .ok (.aload_n 0, 1) := by decide +kernel
theorem d_M_along_95 : decode b_M_along 95 = .ok (.iload_n 3, 1) := by decide +kernel
theorem d_M_along_96 : decode b_M_along 96 = .ok (.invokevirtual 73, 3) := by decide +kernel
theorem d_M_along_99 : decode b_M_along 99 = .ok (.istore 4, 2) := by decide +kernel
theorem d_M_along_101 : decode b_M_along 101 = .ok (.iload 4, 2) := by decide +kernel
theorem d_M_along_103 : decode b_M_along 103 = .ok (.invokestatic 77, 3) := by decide +kernel
theorem d_M_along_106 : decode b_M_along 106 = .ok (.ifCond .ne 33, 3) := by decide +kernel
theorem d_M_along_109 : decode b_M_along 109 = .ok (.iload 4, 2) := by decide +kernel
theorem d_M_along_111 : decode b_M_along 111 = .ok (.bipush 97, 2) := by decide +kernel
theorem d_M_along_113 : decode b_M_along 113 = .ok (.if_icmp .lt 10, 3) := by decide +kernel
theorem d_M_along_116 : decode b_M_along 116 = .ok (.iload 4, 2) := by decide +kernel
theorem d_M_along_118 : decode b_M_along 118 = .ok (.bipush 122, 2) := by decide +kernel
theorem d_M_along_120 : decode b_M_along 120 = .ok (.if_icmp .le 19, 3) := by decide +kernel
theorem d_M_along_123 : decode b_M_along 123 = .ok (.iconst (-1), 1) := by decide +kernel
theorem d_M_along_124 : decode b_M_along 124 = .ok (.iload_n 3, 1) := by decide +kernel
theorem d_M_along_125 : decode b_M_along 125 = .ok (.isub, 1) := by decide +kernel
theorem d_M_along_126 : decode b_M_along 126 = .ok (.ireturn, 1) := by decide +kernel
theorem d_M_along_127 : decode b_M_along 127 = .ok (.iload 4, 2) := by decide +kernel
theorem d_M_along_129 : decode b_M_along 129 = .ok (.invokestatic 80, 3) := by decide +kernel
theorem d_M_along_132 : decode b_M_along 132 = .ok (.ifCond .ne 7, 3) := by decide +kernel
theorem d_M_along_135 : decode b_M_along 135 = .ok (.iconst (-1), 1) := by decide +kernel
theorem d_M_along_136 : decode b_M_along 136 = .ok (.iload_n 3, 1) := by decide +kernel
theorem d_M_along_137 : decode b_M_along 137 = .ok (.isub, 1) := by decide +kernel
theorem d_M_along_138 : decode b_M_along 138 = .ok (.ireturn, 1) := by decide +kernel
theorem d_M_along_139 : decode b_M_along 139 = .ok (.iinc 3 1, 3) := by decide +kernel
theorem d_M_along_142 : decode b_M_along 142 = .ok (.goto (-79), 3) := by decide +kernel
theorem d_M_along_145 : decode b_M_along 145 = .ok (.iload_n 3, 1) := by decide +kernel
theorem d_M_along_146 : decode b_M_along 146 = .ok (.iconst 1, 1) := by decide +kernel
theorem d_M_along_147 : decode b_M_along 147 = .ok (.iadd, 1) := by decide +kernel
theorem d_M_along_148 : decode b_M_along 148 = .ok (.ireturn, 1) := by decide +kernel
set_option maxHeartbeats 4000000 in
set_option maxRecDepth 100000 in
theorem c_M_along (l : Launch) (dC : Nat → ClassId) (dI : Nat → Nat → Nat) (kA : Nat → ClassId) (mo : Nat) (ma : Nat → Nat) (mrf : Int) (mz : Int) (mls : Int) (mfp : Int) (mfm : Int) (mtx : Int) (mwd : Int) (mak : Int) (mli : Int) (mlx : Int) (mat : Int) (mtk : Int) (mtf : Int) (mtt : Int) (mfa : Int) (mla : Int) (mlp : Int) (mdp : Int) (msi : Int) (mpf : Int) (mpt : Int) (mdn : Bool) (cb : Nat → Int) (x : Int) (b : Bool) (hcb : C2 cb) (hz : 0 ≤ mz ∧ mz ≤ 400) (hx0 : 0 ≤ x ∧ x ≤ 1000) : Met l y_M_along (wsy y_M_along b_M_along 5 (some .int)) (rmd 1 0 0) (li_Pr (dC, dI) CL (TY kA) [.ref mo, .int (iI x), .int (iI (bI b))] (va_P (dC, dI) CL [(mo, .inr (10, [.int (iI mrf), .ref (ma 0), .int (iI mz), .ref (ma 1), .ref (ma 2), .int (iI mls), .int (iI mfp), .int (iI mfm), .ref (ma 3), .int (iI mtx), .ref (ma 4), .ref (ma 5), .int (iI mwd), .ref (ma 6), .ref (ma 7), .int (iI mak), .ref (ma 8), .ref (ma 9), .int (iI mli), .int (iI mlx), .ref (ma 10), .ref (ma 11), .int (iI mat), .int (iI mtk), .int (iI mtf), .int (iI mtt), .int (iI mfa), .int (iI mla), .int (iI mlp), .int (iI mdp), .ref (ma 12), .ref (ma 13), .int (iI msi), .int (iI (bI mdn)), .int (iI mpf), .int (iI mpt)])), (ma 0, .inl (kA 0, 400, .inl (aI cb)))])) (k2_QcV (.int (iI (alM cb mz b x)))) 0 0 (fun _ => False) := by
  refine li_mr (by decide) (Nat.le_of_ble_eq_true rfl) (by rfl) ?_
  intro p e s m args below meth c Q C hP hK hN hG fin ls hl
  obtain ⟨hx, hb, hr, hml, hown, hts, hlocks, hin⟩ := C
  have hown : s.vm.findClass R_M = some m.cls := hown
  have hP : va_P (dC, dI) CL [(mo, .inr (10, [.int (iI mrf), .ref (ma 0), .int (iI mz), .ref (ma 1), .ref (ma 2), .int (iI mls), .int (iI mfp), .int (iI mfm), .ref (ma 3), .int (iI mtx), .ref (ma 4), .ref (ma 5), .int (iI mwd), .ref (ma 6), .ref (ma 7), .int (iI mak), .ref (ma 8), .ref (ma 9), .int (iI mli), .int (iI mlx), .ref (ma 10), .ref (ma 11), .int (iI mat), .int (iI mtk), .int (iI mtf), .int (iI mtt), .int (iI mfa), .int (iI mla), .int (iI mlp), .int (iI mdp), .ref (ma 12), .ref (ma 13), .int (iI msi), .int (iI (bI mdn)), .int (iI mpf), .int (iI mpt)])), (ma 0, .inl (kA 0, 400, .inl (aI cb)))] s.heap := hP
  have hl : lv_has ls 5 [(0, .ref mo), (1, .int (iI x)), (2, .int (iI (bI b)))] := hl
  have hy0 := byM_r (mz := mz) (x := x) hcb
  have hy1 := byM_r (mz := mz) (x := x + 1) hcb
  have hy2 := byM_r (mz := mz) (x := x + 2) hcb
  have K_63 : ∀ (nn : Nat) (k : Int) (f : Nat), (0 ≤ k ∧ k ≤ 1100) → ((mz + 2 - k).toNat < f) → (alW cb mz b f k = alM cb mz b x) → ((mz + 2 - k).toNat < nn) → ∀ ls : Array Slot, lv_has ls 5 [(0, .ref mo), (1, .int (iI x)), (2, .int (iI (bI b))), (3, .int (iI k))] → W p l e (rmd 1 0 0) s m args below meth c s.heap [] 0 0 Q (F0 m 63 ls []) := by
    intro nn
    induction nn with
    | zero => intro k f hk9 hff hres hm; exact absurd hm (Nat.not_lt_zero _)
    | succ nn ih =>
      intro k f hk9 hff hres hm ls hl
      obtain ⟨g, rfl⟩ : ∃ g, f = g + 1 := ⟨f - 1, by omega⟩
      have hbk := byM_r (mz := mz) (x := k) hcb
      have hbk1 := byM_r (mz := mz) (x := k + 1) hcb
      refine lv_aload_n hx hb d_M_along_63 rfl (lv_at hl 0 rfl) ?_
      refine lv_iload_n hx hb d_M_along_64 rfl (lv_at hl 3 rfl) ?_
      refine li_callr ((va_runV (As := [.int (iI k)]) (rest := []) ⟨hx, hb, hml, hown, hts⟩ (c_M_byteAt l dC dI kA mo ma mrf mz mls mfp mfm mtx mwd mak mli mlx mat mtk mtf mtt mfa mla mlp mdp msi mpf mpt mdn cb k (by exact hcb) (by exact hz) (by omega)) (cw_M_73 hts rfl rfl ⟨Nat.le_of_ble_eq_true rfl, Nat.le_of_ble_eq_true rfl⟩) (li_preV (va_recv hK hP (ci := 10) (q0 := 0) rfl rfl) (hP.sub [0, 1] rfl) hK hN hG.rd) rfl rfl hl.1 rfl (lv_room (Nat.le_of_ble_eq_true rfl)) d_M_along_65 ⟨(by show 0 + 0 ≤ 0; omega), (by show 0 + 0 ≤ 0; omega)⟩).run) ?_
      refine lv_bipush (v := iI 30) hx hb d_M_along_68 (by decide) ?_
      refine li_icmp_eq (tgt := 145) hx hb d_M_along_70 (by decide) (by first | omega | (subst_vars; omega) | exact rng256 (byM_r hcb)) (by first | omega | (subst_vars; omega) | exact rng256 (byM_r hcb)) (fun c1 => ?_) (fun c1 => ?_)
      · have _q := c1
        simp only [alW] at hres
        rw [if_pos (by assumption)] at hres
        refine lv_iload_n hx hb d_M_along_145 rfl (lv_at hl 3 rfl) ?_
        refine lv_iconst (v := iI 1) hx hb d_M_along_146 rfl ?_
        refine li_iadd hx hb d_M_along_147 ?_
        exact fin _ _ _ (by rw [← hres]) d_M_along_148
      · have _q := c1
        simp only [alW] at hres
        rw [if_neg (by assumption)] at hres
        refine lv_aload_n hx hb d_M_along_73 rfl (lv_at hl 0 rfl) ?_
        refine lv_iload_n hx hb d_M_along_74 rfl (lv_at hl 3 rfl) ?_
        refine li_callr ((va_runV (As := [.int (iI k)]) (rest := []) ⟨hx, hb, hml, hown, hts⟩ (c_M_byteAt l dC dI kA mo ma mrf mz mls mfp mfm mtx mwd mak mli mlx mat mtk mtf mtt mfa mla mlp mdp msi mpf mpt mdn cb k (by exact hcb) (by exact hz) (by omega)) (cw_M_73 hts rfl rfl ⟨Nat.le_of_ble_eq_true rfl, Nat.le_of_ble_eq_true rfl⟩) (li_preV (va_recv hK hP (ci := 10) (q0 := 0) rfl rfl) (hP.sub [0, 1] rfl) hK hN hG.rd) rfl rfl hl.1 rfl (lv_room (Nat.le_of_ble_eq_true rfl)) d_M_along_75 ⟨(by show 0 + 0 ≤ 0; omega), (by show 0 + 0 ≤ 0; omega)⟩).run) ?_
        refine li_nm (fun cy ecy => ?_)
        refine lv_istore (lv' := [(4, .int (iI cy)), (0, .ref mo), (1, .int (iI x)), (2, .int (iI (bI b))), (3, .int (iI k))]) hx hb d_M_along_78 hl (by decide) rfl (fun ls hl => ?_)
        refine lv_iload_n hx hb d_M_along_80 rfl (lv_at hl 3 rfl) ?_
        refine li_bnz (tgt := 127) hx hb d_M_along_81 (by decide) (fun c2 => ?_) (fun c2 => ?_)
        · have _q := c2
          rw [if_neg (by rintro ⟨q, -⟩; simp_all)] at hres
          refine lv_iload hx hb d_M_along_127 (lv_at hl 0 rfl) ?_
          refine li_callr ((va_runS (As := [.int (iI cy)]) (rest := []) ⟨hx, hb, hml, hown, hts⟩ (c_M_isText l dC dI kA cy (by first | omega | (subst_vars; omega))) (cw_M_80 hts rfl rfl ⟨Nat.le_of_ble_eq_true rfl, Nat.le_of_ble_eq_true rfl⟩) (li_preS va_Pnil hK hN hG.rd) rfl rfl hl.1 rfl (lv_room (Nat.le_of_ble_eq_true rfl)) d_M_along_129 ⟨(by show 0 + 0 ≤ 0; omega), (by show 0 + 0 ≤ 0; omega)⟩).run) ?_
          refine li_bnz (tgt := 139) hx hb d_M_along_132 (by decide) (fun c3 => ?_) (fun c3 => ?_)
          · have _q := c3
            rw [if_pos (by rw [← ecy]; assumption)] at hres
            have hlt := txt_lt (mz := mz) (k := k) (by rw [← ecy]; assumption)
            obtain ⟨x_n, ex_n⟩ : ∃ y_9 : Int, y_9 = k + 1 := ⟨_, rfl⟩
            refine lv_iinc (v := iI x_n) (lv' := [(3, .int (iI x_n)), (4, .int (iI cy)), (0, .ref mo), (1, .int (iI x)), (2, .int (iI (bI b)))]) hx hb d_M_along_139 hl (k := 4) rfl (by rw [ex_n]; exact iI_add _ _) (by decide) rfl (fun ls hl => ?_)
            refine lv_goto (tgt := 63) hx hb d_M_along_142 (by decide) ?_
            exact ih x_n g (by first | omega | (subst_vars; omega)) (by first | omega | (subst_vars; omega)) (by first | (rw [ex_n]; exact hres) | (rw [ex_n, ex_k, show k + 1 + 1 = k + 2 by omega]; exact hres)) (by first | omega | (subst_vars; omega)) _ (lv_sub hl [2, 3, 4, 0] rfl)
          · have _q := c3
            rw [if_neg (by rw [← ecy]; simp_all)] at hres
            refine lv_iconst (v := iI (-1)) hx hb d_M_along_135 rfl ?_
            refine lv_iload_n hx hb d_M_along_136 rfl (lv_at hl 4 rfl) ?_
            refine li_isub hx hb d_M_along_137 ?_
            exact fin _ _ _ (by rw [← hres]) d_M_along_138
        · have _q := c2
          refine lv_iload hx hb d_M_along_84 (lv_at hl 0 rfl) ?_
          refine lv_bipush (v := iI 31) hx hb d_M_along_86 (by decide) ?_
          refine li_icmp_ne (tgt := 127) hx hb d_M_along_88 (by decide) (by first | omega | (subst_vars; omega) | exact rng256 (byM_r hcb)) (by first | omega | (subst_vars; omega) | exact rng256 (byM_r hcb)) (fun c4 => ?_) (fun c4 => ?_)
          · have _q := c4
            rw [if_neg (fun q => absurd (ecy.trans q.2) (by assumption))] at hres
            refine lv_iload hx hb d_M_along_127 (lv_at hl 0 rfl) ?_
            refine li_callr ((va_runS (As := [.int (iI cy)]) (rest := []) ⟨hx, hb, hml, hown, hts⟩ (c_M_isText l dC dI kA cy (by first | omega | (subst_vars; omega))) (cw_M_80 hts rfl rfl ⟨Nat.le_of_ble_eq_true rfl, Nat.le_of_ble_eq_true rfl⟩) (li_preS va_Pnil hK hN hG.rd) rfl rfl hl.1 rfl (lv_room (Nat.le_of_ble_eq_true rfl)) d_M_along_129 ⟨(by show 0 + 0 ≤ 0; omega), (by show 0 + 0 ≤ 0; omega)⟩).run) ?_
            refine li_bnz (tgt := 139) hx hb d_M_along_132 (by decide) (fun c5 => ?_) (fun c5 => ?_)
            · have _q := c5
              rw [if_pos (by rw [← ecy]; assumption)] at hres
              have hlt := txt_lt (mz := mz) (k := k) (by rw [← ecy]; assumption)
              obtain ⟨x_n, ex_n⟩ : ∃ y_9 : Int, y_9 = k + 1 := ⟨_, rfl⟩
              refine lv_iinc (v := iI x_n) (lv' := [(3, .int (iI x_n)), (4, .int (iI cy)), (0, .ref mo), (1, .int (iI x)), (2, .int (iI (bI b)))]) hx hb d_M_along_139 hl (k := 4) rfl (by rw [ex_n]; exact iI_add _ _) (by decide) rfl (fun ls hl => ?_)
              refine lv_goto (tgt := 63) hx hb d_M_along_142 (by decide) ?_
              exact ih x_n g (by first | omega | (subst_vars; omega)) (by first | omega | (subst_vars; omega)) (by first | (rw [ex_n]; exact hres) | (rw [ex_n, ex_k, show k + 1 + 1 = k + 2 by omega]; exact hres)) (by first | omega | (subst_vars; omega)) _ (lv_sub hl [2, 3, 4, 0] rfl)
            · have _q := c5
              rw [if_neg (by rw [← ecy]; simp_all)] at hres
              refine lv_iconst (v := iI (-1)) hx hb d_M_along_135 rfl ?_
              refine lv_iload_n hx hb d_M_along_136 rfl (lv_at hl 4 rfl) ?_
              refine li_isub hx hb d_M_along_137 ?_
              exact fin _ _ _ (by rw [← hres]) d_M_along_138
          · have _q := c4
            rw [if_pos ⟨by assumption, by rw [← ecy]; assumption⟩] at hres
            have hlt := byM_lt (cb := cb) (mz := mz) (k := k) (v := 31) (by rw [← ecy]; assumption) (by omega)
            obtain ⟨x_k, ex_k⟩ : ∃ y_9 : Int, y_9 = k + 1 := ⟨_, rfl⟩
            refine lv_iinc (v := iI x_k) (lv' := [(3, .int (iI x_k)), (4, .int (iI cy)), (0, .ref mo), (1, .int (iI x)), (2, .int (iI (bI b)))]) hx hb d_M_along_91 hl (k := 4) rfl (by rw [ex_k]; exact iI_add _ _) (by decide) rfl (fun ls hl => ?_)
            have hx_k := ex_k
            refine lv_aload_n hx hb d_M_along_94 rfl (lv_at hl 2 rfl) ?_
            refine lv_iload_n hx hb d_M_along_95 rfl (lv_at hl 0 rfl) ?_
            refine li_callr ((va_runV (As := [.int (iI x_k)]) (rest := []) ⟨hx, hb, hml, hown, hts⟩ (c_M_byteAt l dC dI kA mo ma mrf mz mls mfp mfm mtx mwd mak mli mlx mat mtk mtf mtt mfa mla mlp mdp msi mpf mpt mdn cb x_k (by exact hcb) (by exact hz) (by omega)) (cw_M_73 hts rfl rfl ⟨Nat.le_of_ble_eq_true rfl, Nat.le_of_ble_eq_true rfl⟩) (li_preV (va_recv hK hP (ci := 10) (q0 := 0) rfl rfl) (hP.sub [0, 1] rfl) hK hN hG.rd) rfl rfl hl.1 rfl (lv_room (Nat.le_of_ble_eq_true rfl)) d_M_along_96 ⟨(by show 0 + 0 ≤ 0; omega), (by show 0 + 0 ≤ 0; omega)⟩).run) ?_
            refine li_nm (fun cz ecz => ?_)
            refine lv_istore (lv' := [(4, .int (iI cz)), (3, .int (iI x_k)), (0, .ref mo), (1, .int (iI x)), (2, .int (iI (bI b)))]) hx hb d_M_along_99 hl (by decide) rfl (fun ls hl => ?_)
            rw [ex_k] at ecz
            refine lv_iload hx hb d_M_along_101 (lv_at hl 0 rfl) ?_
            refine li_callr ((va_runS (As := [.int (iI cz)]) (rest := []) ⟨hx, hb, hml, hown, hts⟩ (c_M_isDigit l dC dI kA cz (by first | omega | (subst_vars; omega))) (cw_M_77 hts rfl rfl ⟨Nat.le_of_ble_eq_true rfl, Nat.le_of_ble_eq_true rfl⟩) (li_preS va_Pnil hK hN hG.rd) rfl rfl hl.1 rfl (lv_room (Nat.le_of_ble_eq_true rfl)) d_M_along_103 ⟨(by show 0 + 0 ≤ 0; omega), (by show 0 + 0 ≤ 0; omega)⟩).run) ?_
            refine li_bnz (tgt := 139) hx hb d_M_along_106 (by decide) (fun c6 => ?_) (fun c6 => ?_)
            · have _q := c6
              rw [if_pos (Or.inl (by rw [← ecz]; assumption))] at hres
              obtain ⟨x_n, ex_n⟩ : ∃ y_9 : Int, y_9 = x_k + 1 := ⟨_, rfl⟩
              refine lv_iinc (v := iI x_n) (lv' := [(3, .int (iI x_n)), (4, .int (iI cz)), (0, .ref mo), (1, .int (iI x)), (2, .int (iI (bI b)))]) hx hb d_M_along_139 hl (k := 1) rfl (by rw [ex_n]; exact iI_add _ _) (by decide) rfl (fun ls hl => ?_)
              refine lv_goto (tgt := 63) hx hb d_M_along_142 (by decide) ?_
              exact ih x_n g (by first | omega | (subst_vars; omega)) (by first | omega | (subst_vars; omega)) (by first | (rw [ex_n]; exact hres) | (rw [ex_n, ex_k, show k + 1 + 1 = k + 2 by omega]; exact hres)) (by first | omega | (subst_vars; omega)) _ (lv_sub hl [2, 3, 4, 0] rfl)
            · have _q := c6
              refine lv_iload hx hb d_M_along_109 (lv_at hl 0 rfl) ?_
              refine lv_bipush (v := iI 97) hx hb d_M_along_111 (by decide) ?_
              refine li_icmp_lt (tgt := 123) hx hb d_M_along_113 (by decide) (by first | omega | (subst_vars; omega) | exact rng256 (byM_r hcb)) (by first | omega | (subst_vars; omega) | exact rng256 (byM_r hcb)) (fun c7 => ?_) (fun c7 => ?_)
              · have _q := c7
                rw [if_neg (by rw [← ecz]; intro q; rcases q with q | q <;> first | omega | simp_all)] at hres
                refine lv_iconst (v := iI (-1)) hx hb d_M_along_123 rfl ?_
                refine lv_iload_n hx hb d_M_along_124 rfl (lv_at hl 1 rfl) ?_
                refine li_isub hx hb d_M_along_125 ?_
                exact fin _ _ _ (by rw [← hres, ex_k]) d_M_along_126
              · have _q := c7
                refine lv_iload hx hb d_M_along_116 (lv_at hl 0 rfl) ?_
                refine lv_bipush (v := iI 122) hx hb d_M_along_118 (by decide) ?_
                refine li_icmp_le (tgt := 139) hx hb d_M_along_120 (by decide) (by first | omega | (subst_vars; omega) | exact rng256 (byM_r hcb)) (by first | omega | (subst_vars; omega) | exact rng256 (byM_r hcb)) (fun c8 => ?_) (fun c8 => ?_)
                · have _q := c8
                  rw [if_pos (Or.inr (by omega))] at hres
                  obtain ⟨x_n, ex_n⟩ : ∃ y_9 : Int, y_9 = x_k + 1 := ⟨_, rfl⟩
                  refine lv_iinc (v := iI x_n) (lv' := [(3, .int (iI x_n)), (4, .int (iI cz)), (0, .ref mo), (1, .int (iI x)), (2, .int (iI (bI b)))]) hx hb d_M_along_139 hl (k := 1) rfl (by rw [ex_n]; exact iI_add _ _) (by decide) rfl (fun ls hl => ?_)
                  refine lv_goto (tgt := 63) hx hb d_M_along_142 (by decide) ?_
                  exact ih x_n g (by first | omega | (subst_vars; omega)) (by first | omega | (subst_vars; omega)) (by first | (rw [ex_n]; exact hres) | (rw [ex_n, ex_k, show k + 1 + 1 = k + 2 by omega]; exact hres)) (by first | omega | (subst_vars; omega)) _ (lv_sub hl [2, 3, 4, 0] rfl)
                · have _q := c8
                  rw [if_neg (by rw [← ecz]; intro q; rcases q with q | q <;> first | omega | simp_all)] at hres
                  refine lv_iconst (v := iI (-1)) hx hb d_M_along_123 rfl ?_
                  refine lv_iload_n hx hb d_M_along_124 rfl (lv_at hl 1 rfl) ?_
                  refine li_isub hx hb d_M_along_125 ?_
                  exact fin _ _ _ (by rw [← hres, ex_k]) d_M_along_126
  refine lv_iload_n hx hb d_M_along_0 rfl (lv_at hl 1 rfl) ?_
  refine lv_istore_n (lv' := [(3, .int (iI x)), (0, .ref mo), (1, .int (iI x)), (2, .int (iI (bI b)))]) hx hb d_M_along_1 rfl hl (by decide) rfl (fun ls hl => ?_)
  refine lv_iload_n hx hb d_M_along_2 rfl (lv_at hl 3 rfl) ?_
  refine li_bnz (tgt := 63) hx hb d_M_along_3 (by decide) (fun c9 => ?_) (fun c9 => ?_)
  · have _q := c9
    exact K_63 ((mz + 2 - x).toNat + 1) x 1000 (by first | omega | (subst_vars; omega)) (by first | omega | (subst_vars; omega)) (by first | (unfold alM; rw [if_pos (by assumption)]; done) | (subst_vars; unfold alM inJ; rw [show x + 1 + 1 = x + 2 by omega] at *; simp_all; done)) (Nat.lt_succ_self _) _ (lv_sub hl [1, 2, 3, 0] rfl)
  · have _q := c9
    refine lv_iconst (v := iI 0) hx hb d_M_along_6 rfl ?_
    refine lv_istore (lv' := [(4, .int (iI 0)), (3, .int (iI x)), (0, .ref mo), (1, .int (iI x)), (2, .int (iI (bI b)))]) hx hb d_M_along_7 hl (by decide) rfl (fun ls hl => ?_)
    refine lv_iload hx hb d_M_along_9 (lv_at hl 0 rfl) ?_
    refine lv_iconst (v := iI 2) hx hb d_M_along_11 rfl ?_
    refine li_icmp_ge (tgt := 49) hx hb d_M_along_12 (by decide) (by first | omega | (subst_vars; omega) | exact rng256 (byM_r hcb)) (by first | omega | (subst_vars; omega) | exact rng256 (byM_r hcb)) (fun c10 => ?_) (fun c10 => ?_)
    · have _q := c10
      exact absurd c10 (by omega)
    · have _q := c10
      refine lv_aload_n hx hb d_M_along_15 rfl (lv_at hl 2 rfl) ?_
      refine lv_iload_n hx hb d_M_along_16 rfl (lv_at hl 1 rfl) ?_
      refine li_callr ((va_runV (As := [.int (iI x)]) (rest := []) ⟨hx, hb, hml, hown, hts⟩ (c_M_byteAt l dC dI kA mo ma mrf mz mls mfp mfm mtx mwd mak mli mlx mat mtk mtf mtt mfa mla mlp mdp msi mpf mpt mdn cb x (by exact hcb) (by exact hz) (by omega)) (cw_M_73 hts rfl rfl ⟨Nat.le_of_ble_eq_true rfl, Nat.le_of_ble_eq_true rfl⟩) (li_preV (va_recv hK hP (ci := 10) (q0 := 0) rfl rfl) (hP.sub [0, 1] rfl) hK hN hG.rd) rfl rfl hl.1 rfl (lv_room (Nat.le_of_ble_eq_true rfl)) d_M_along_17 ⟨(by show 0 + 0 ≤ 0; omega), (by show 0 + 0 ≤ 0; omega)⟩).run) ?_
      refine lv_bipush (v := iI 32) hx hb d_M_along_20 (by decide) ?_
      refine li_icmp_eq (tgt := 40) hx hb d_M_along_22 (by decide) (by first | omega | (subst_vars; omega) | exact rng256 (byM_r hcb)) (by first | omega | (subst_vars; omega) | exact rng256 (byM_r hcb)) (fun c11 => ?_) (fun c11 => ?_)
      · have _q := c11
        obtain ⟨x12, ex12⟩ : ∃ y_9 : Int, y_9 = x + 1 := ⟨_, rfl⟩
        refine lv_iinc (v := iI x12) (lv' := [(3, .int (iI x12)), (4, .int (iI 0)), (0, .ref mo), (1, .int (iI x)), (2, .int (iI (bI b)))]) hx hb d_M_along_40 hl (k := 1) rfl (by rw [ex12]; exact iI_add _ _) (by decide) rfl (fun ls hl => ?_)
        refine lv_iinc (v := iI 1) (lv' := [(4, .int (iI 1)), (3, .int (iI x12)), (0, .ref mo), (1, .int (iI x)), (2, .int (iI (bI b)))]) hx hb d_M_along_43 hl (k := 1) rfl (by decide) (by decide) rfl (fun ls hl => ?_)
        refine lv_goto (tgt := 9) hx hb d_M_along_46 (by decide) ?_
        refine lv_iload hx hb d_M_along_9 (lv_at hl 0 rfl) ?_
        refine lv_iconst (v := iI 2) hx hb d_M_along_11 rfl ?_
        refine li_icmp_ge (tgt := 49) hx hb d_M_along_12 (by decide) (by first | omega | (subst_vars; omega) | exact rng256 (byM_r hcb)) (by first | omega | (subst_vars; omega) | exact rng256 (byM_r hcb)) (fun c13 => ?_) (fun c13 => ?_)
        · have _q := c13
          exact absurd c13 (by omega)
        · have _q := c13
          refine lv_aload_n hx hb d_M_along_15 rfl (lv_at hl 2 rfl) ?_
          refine lv_iload_n hx hb d_M_along_16 rfl (lv_at hl 1 rfl) ?_
          refine li_callr ((va_runV (As := [.int (iI x12)]) (rest := []) ⟨hx, hb, hml, hown, hts⟩ (c_M_byteAt l dC dI kA mo ma mrf mz mls mfp mfm mtx mwd mak mli mlx mat mtk mtf mtt mfa mla mlp mdp msi mpf mpt mdn cb x12 (by exact hcb) (by exact hz) (by omega)) (cw_M_73 hts rfl rfl ⟨Nat.le_of_ble_eq_true rfl, Nat.le_of_ble_eq_true rfl⟩) (li_preV (va_recv hK hP (ci := 10) (q0 := 0) rfl rfl) (hP.sub [0, 1] rfl) hK hN hG.rd) rfl rfl hl.1 rfl (lv_room (Nat.le_of_ble_eq_true rfl)) d_M_along_17 ⟨(by show 0 + 0 ≤ 0; omega), (by show 0 + 0 ≤ 0; omega)⟩).run) ?_
          refine lv_bipush (v := iI 32) hx hb d_M_along_20 (by decide) ?_
          refine li_icmp_eq (tgt := 40) hx hb d_M_along_22 (by decide) (by first | omega | (subst_vars; omega) | exact rng256 (byM_r hcb)) (by first | omega | (subst_vars; omega) | exact rng256 (byM_r hcb)) (fun c14 => ?_) (fun c14 => ?_)
          · have _q := c14
            obtain ⟨x15, ex15⟩ : ∃ y_9 : Int, y_9 = x12 + 1 := ⟨_, rfl⟩
            refine lv_iinc (v := iI x15) (lv' := [(3, .int (iI x15)), (4, .int (iI 1)), (0, .ref mo), (1, .int (iI x)), (2, .int (iI (bI b)))]) hx hb d_M_along_40 hl (k := 1) rfl (by rw [ex15]; exact iI_add _ _) (by decide) rfl (fun ls hl => ?_)
            refine lv_iinc (v := iI 2) (lv' := [(4, .int (iI 2)), (3, .int (iI x15)), (0, .ref mo), (1, .int (iI x)), (2, .int (iI (bI b)))]) hx hb d_M_along_43 hl (k := 1) rfl (by decide) (by decide) rfl (fun ls hl => ?_)
            refine lv_goto (tgt := 9) hx hb d_M_along_46 (by decide) ?_
            refine lv_iload hx hb d_M_along_9 (lv_at hl 0 rfl) ?_
            refine lv_iconst (v := iI 2) hx hb d_M_along_11 rfl ?_
            refine li_icmp_ge (tgt := 49) hx hb d_M_along_12 (by decide) (by first | omega | (subst_vars; omega) | exact rng256 (byM_r hcb)) (by first | omega | (subst_vars; omega) | exact rng256 (byM_r hcb)) (fun c16 => ?_) (fun c16 => ?_)
            · have _q := c16
              refine lv_aload_n hx hb d_M_along_49 rfl (lv_at hl 2 rfl) ?_
              refine lv_iload_n hx hb d_M_along_50 rfl (lv_at hl 1 rfl) ?_
              refine li_callr ((va_runV (As := [.int (iI x15)]) (rest := []) ⟨hx, hb, hml, hown, hts⟩ (c_M_byteAt l dC dI kA mo ma mrf mz mls mfp mfm mtx mwd mak mli mlx mat mtk mtf mtt mfa mla mlp mdp msi mpf mpt mdn cb x15 (by exact hcb) (by exact hz) (by omega)) (cw_M_73 hts rfl rfl ⟨Nat.le_of_ble_eq_true rfl, Nat.le_of_ble_eq_true rfl⟩) (li_preV (va_recv hK hP (ci := 10) (q0 := 0) rfl rfl) (hP.sub [0, 1] rfl) hK hN hG.rd) rfl rfl hl.1 rfl (lv_room (Nat.le_of_ble_eq_true rfl)) d_M_along_51 ⟨(by show 0 + 0 ≤ 0; omega), (by show 0 + 0 ≤ 0; omega)⟩).run) ?_
              refine lv_bipush (v := iI 31) hx hb d_M_along_54 (by decide) ?_
              refine li_icmp_eq (tgt := 63) hx hb d_M_along_56 (by decide) (by first | omega | (subst_vars; omega) | exact rng256 (byM_r hcb)) (by first | omega | (subst_vars; omega) | exact rng256 (byM_r hcb)) (fun c17 => ?_) (fun c17 => ?_)
              · have _q := c17
                exact K_63 ((mz + 2 - x15).toNat + 1) x15 1000 (by first | omega | (subst_vars; omega)) (by first | omega | (subst_vars; omega)) (by first | (unfold alM; rw [if_pos (by assumption)]; done) | (subst_vars; unfold alM inJ; rw [show x + 1 + 1 = x + 2 by omega] at *; simp_all; done)) (Nat.lt_succ_self _) _ (lv_sub hl [2, 3, 4, 1] rfl)
              · have _q := c17
                refine lv_iconst (v := iI (-1)) hx hb d_M_along_59 rfl ?_
                refine lv_iload_n hx hb d_M_along_60 rfl (lv_at hl 1 rfl) ?_
                refine li_isub hx hb d_M_along_61 ?_
                exact fin _ _ _ (by first | (subst_vars; unfold alM inJ; simp_all; done) | (subst_vars; unfold alM inJ; rw [show x + 1 + 1 = x + 2 by omega] at *; simp_all; done)) d_M_along_62
            · have _q := c16
              exact absurd c16 (by omega)
          · have _q := c14
            refine lv_aload_n hx hb d_M_along_25 rfl (lv_at hl 2 rfl) ?_
            refine lv_iload_n hx hb d_M_along_26 rfl (lv_at hl 1 rfl) ?_
            refine li_callr ((va_runV (As := [.int (iI x12)]) (rest := []) ⟨hx, hb, hml, hown, hts⟩ (c_M_byteAt l dC dI kA mo ma mrf mz mls mfp mfm mtx mwd mak mli mlx mat mtk mtf mtt mfa mla mlp mdp msi mpf mpt mdn cb x12 (by exact hcb) (by exact hz) (by omega)) (cw_M_73 hts rfl rfl ⟨Nat.le_of_ble_eq_true rfl, Nat.le_of_ble_eq_true rfl⟩) (li_preV (va_recv hK hP (ci := 10) (q0 := 0) rfl rfl) (hP.sub [0, 1] rfl) hK hN hG.rd) rfl rfl hl.1 rfl (lv_room (Nat.le_of_ble_eq_true rfl)) d_M_along_27 ⟨(by show 0 + 0 ≤ 0; omega), (by show 0 + 0 ≤ 0; omega)⟩).run) ?_
            refine li_callr ((va_runS (As := [.int (iI (byM cb mz x12))]) (rest := []) ⟨hx, hb, hml, hown, hts⟩ (c_M_isDigit l dC dI kA (byM cb mz x12) (by first | omega | (subst_vars; omega))) (cw_M_77 hts rfl rfl ⟨Nat.le_of_ble_eq_true rfl, Nat.le_of_ble_eq_true rfl⟩) (li_preS va_Pnil hK hN hG.rd) rfl rfl hl.1 rfl (lv_room (Nat.le_of_ble_eq_true rfl)) d_M_along_30 ⟨(by show 0 + 0 ≤ 0; omega), (by show 0 + 0 ≤ 0; omega)⟩).run) ?_
            refine li_bnz (tgt := 40) hx hb d_M_along_33 (by decide) (fun c18 => ?_) (fun c18 => ?_)
            · have _q := c18
              obtain ⟨x19, ex19⟩ : ∃ y_9 : Int, y_9 = x12 + 1 := ⟨_, rfl⟩
              refine lv_iinc (v := iI x19) (lv' := [(3, .int (iI x19)), (4, .int (iI 1)), (0, .ref mo), (1, .int (iI x)), (2, .int (iI (bI b)))]) hx hb d_M_along_40 hl (k := 1) rfl (by rw [ex19]; exact iI_add _ _) (by decide) rfl (fun ls hl => ?_)
              refine lv_iinc (v := iI 2) (lv' := [(4, .int (iI 2)), (3, .int (iI x19)), (0, .ref mo), (1, .int (iI x)), (2, .int (iI (bI b)))]) hx hb d_M_along_43 hl (k := 1) rfl (by decide) (by decide) rfl (fun ls hl => ?_)
              refine lv_goto (tgt := 9) hx hb d_M_along_46 (by decide) ?_
              refine lv_iload hx hb d_M_along_9 (lv_at hl 0 rfl) ?_
              refine lv_iconst (v := iI 2) hx hb d_M_along_11 rfl ?_
              refine li_icmp_ge (tgt := 49) hx hb d_M_along_12 (by decide) (by first | omega | (subst_vars; omega) | exact rng256 (byM_r hcb)) (by first | omega | (subst_vars; omega) | exact rng256 (byM_r hcb)) (fun c20 => ?_) (fun c20 => ?_)
              · have _q := c20
                refine lv_aload_n hx hb d_M_along_49 rfl (lv_at hl 2 rfl) ?_
                refine lv_iload_n hx hb d_M_along_50 rfl (lv_at hl 1 rfl) ?_
                refine li_callr ((va_runV (As := [.int (iI x19)]) (rest := []) ⟨hx, hb, hml, hown, hts⟩ (c_M_byteAt l dC dI kA mo ma mrf mz mls mfp mfm mtx mwd mak mli mlx mat mtk mtf mtt mfa mla mlp mdp msi mpf mpt mdn cb x19 (by exact hcb) (by exact hz) (by omega)) (cw_M_73 hts rfl rfl ⟨Nat.le_of_ble_eq_true rfl, Nat.le_of_ble_eq_true rfl⟩) (li_preV (va_recv hK hP (ci := 10) (q0 := 0) rfl rfl) (hP.sub [0, 1] rfl) hK hN hG.rd) rfl rfl hl.1 rfl (lv_room (Nat.le_of_ble_eq_true rfl)) d_M_along_51 ⟨(by show 0 + 0 ≤ 0; omega), (by show 0 + 0 ≤ 0; omega)⟩).run) ?_
                refine lv_bipush (v := iI 31) hx hb d_M_along_54 (by decide) ?_
                refine li_icmp_eq (tgt := 63) hx hb d_M_along_56 (by decide) (by first | omega | (subst_vars; omega) | exact rng256 (byM_r hcb)) (by first | omega | (subst_vars; omega) | exact rng256 (byM_r hcb)) (fun c21 => ?_) (fun c21 => ?_)
                · have _q := c21
                  exact K_63 ((mz + 2 - x19).toNat + 1) x19 1000 (by first | omega | (subst_vars; omega)) (by first | omega | (subst_vars; omega)) (by first | (unfold alM; rw [if_pos (by assumption)]; done) | (subst_vars; unfold alM inJ; rw [show x + 1 + 1 = x + 2 by omega] at *; simp_all; done)) (Nat.lt_succ_self _) _ (lv_sub hl [2, 3, 4, 1] rfl)
                · have _q := c21
                  refine lv_iconst (v := iI (-1)) hx hb d_M_along_59 rfl ?_
                  refine lv_iload_n hx hb d_M_along_60 rfl (lv_at hl 1 rfl) ?_
                  refine li_isub hx hb d_M_along_61 ?_
                  exact fin _ _ _ (by first | (subst_vars; unfold alM inJ; simp_all; done) | (subst_vars; unfold alM inJ; rw [show x + 1 + 1 = x + 2 by omega] at *; simp_all; done)) d_M_along_62
              · have _q := c20
                exact absurd c20 (by omega)
            · have _q := c18
              refine lv_iconst (v := iI (-1)) hx hb d_M_along_36 rfl ?_
              refine lv_iload_n hx hb d_M_along_37 rfl (lv_at hl 1 rfl) ?_
              refine li_isub hx hb d_M_along_38 ?_
              exact fin _ _ _ (by first | (subst_vars; unfold alM inJ; simp_all; done) | (subst_vars; unfold alM inJ; rw [show x + 1 + 1 = x + 2 by omega] at *; simp_all; done)) d_M_along_39
      · have _q := c11
        refine lv_aload_n hx hb d_M_along_25 rfl (lv_at hl 2 rfl) ?_
        refine lv_iload_n hx hb d_M_along_26 rfl (lv_at hl 1 rfl) ?_
        refine li_callr ((va_runV (As := [.int (iI x)]) (rest := []) ⟨hx, hb, hml, hown, hts⟩ (c_M_byteAt l dC dI kA mo ma mrf mz mls mfp mfm mtx mwd mak mli mlx mat mtk mtf mtt mfa mla mlp mdp msi mpf mpt mdn cb x (by exact hcb) (by exact hz) (by omega)) (cw_M_73 hts rfl rfl ⟨Nat.le_of_ble_eq_true rfl, Nat.le_of_ble_eq_true rfl⟩) (li_preV (va_recv hK hP (ci := 10) (q0 := 0) rfl rfl) (hP.sub [0, 1] rfl) hK hN hG.rd) rfl rfl hl.1 rfl (lv_room (Nat.le_of_ble_eq_true rfl)) d_M_along_27 ⟨(by show 0 + 0 ≤ 0; omega), (by show 0 + 0 ≤ 0; omega)⟩).run) ?_
        refine li_callr ((va_runS (As := [.int (iI (byM cb mz x))]) (rest := []) ⟨hx, hb, hml, hown, hts⟩ (c_M_isDigit l dC dI kA (byM cb mz x) (by first | omega | (subst_vars; omega))) (cw_M_77 hts rfl rfl ⟨Nat.le_of_ble_eq_true rfl, Nat.le_of_ble_eq_true rfl⟩) (li_preS va_Pnil hK hN hG.rd) rfl rfl hl.1 rfl (lv_room (Nat.le_of_ble_eq_true rfl)) d_M_along_30 ⟨(by show 0 + 0 ≤ 0; omega), (by show 0 + 0 ≤ 0; omega)⟩).run) ?_
        refine li_bnz (tgt := 40) hx hb d_M_along_33 (by decide) (fun c22 => ?_) (fun c22 => ?_)
        · have _q := c22
          obtain ⟨x23, ex23⟩ : ∃ y_9 : Int, y_9 = x + 1 := ⟨_, rfl⟩
          refine lv_iinc (v := iI x23) (lv' := [(3, .int (iI x23)), (4, .int (iI 0)), (0, .ref mo), (1, .int (iI x)), (2, .int (iI (bI b)))]) hx hb d_M_along_40 hl (k := 1) rfl (by rw [ex23]; exact iI_add _ _) (by decide) rfl (fun ls hl => ?_)
          refine lv_iinc (v := iI 1) (lv' := [(4, .int (iI 1)), (3, .int (iI x23)), (0, .ref mo), (1, .int (iI x)), (2, .int (iI (bI b)))]) hx hb d_M_along_43 hl (k := 1) rfl (by decide) (by decide) rfl (fun ls hl => ?_)
          refine lv_goto (tgt := 9) hx hb d_M_along_46 (by decide) ?_
          refine lv_iload hx hb d_M_along_9 (lv_at hl 0 rfl) ?_
          refine lv_iconst (v := iI 2) hx hb d_M_along_11 rfl ?_
          refine li_icmp_ge (tgt := 49) hx hb d_M_along_12 (by decide) (by first | omega | (subst_vars; omega) | exact rng256 (byM_r hcb)) (by first | omega | (subst_vars; omega) | exact rng256 (byM_r hcb)) (fun c24 => ?_) (fun c24 => ?_)
          · have _q := c24
            exact absurd c24 (by omega)
          · have _q := c24
            refine lv_aload_n hx hb d_M_along_15 rfl (lv_at hl 2 rfl) ?_
            refine lv_iload_n hx hb d_M_along_16 rfl (lv_at hl 1 rfl) ?_
            refine li_callr ((va_runV (As := [.int (iI x23)]) (rest := []) ⟨hx, hb, hml, hown, hts⟩ (c_M_byteAt l dC dI kA mo ma mrf mz mls mfp mfm mtx mwd mak mli mlx mat mtk mtf mtt mfa mla mlp mdp msi mpf mpt mdn cb x23 (by exact hcb) (by exact hz) (by omega)) (cw_M_73 hts rfl rfl ⟨Nat.le_of_ble_eq_true rfl, Nat.le_of_ble_eq_true rfl⟩) (li_preV (va_recv hK hP (ci := 10) (q0 := 0) rfl rfl) (hP.sub [0, 1] rfl) hK hN hG.rd) rfl rfl hl.1 rfl (lv_room (Nat.le_of_ble_eq_true rfl)) d_M_along_17 ⟨(by show 0 + 0 ≤ 0; omega), (by show 0 + 0 ≤ 0; omega)⟩).run) ?_
            refine lv_bipush (v := iI 32) hx hb d_M_along_20 (by decide) ?_
            refine li_icmp_eq (tgt := 40) hx hb d_M_along_22 (by decide) (by first | omega | (subst_vars; omega) | exact rng256 (byM_r hcb)) (by first | omega | (subst_vars; omega) | exact rng256 (byM_r hcb)) (fun c25 => ?_) (fun c25 => ?_)
            · have _q := c25
              obtain ⟨x26, ex26⟩ : ∃ y_9 : Int, y_9 = x23 + 1 := ⟨_, rfl⟩
              refine lv_iinc (v := iI x26) (lv' := [(3, .int (iI x26)), (4, .int (iI 1)), (0, .ref mo), (1, .int (iI x)), (2, .int (iI (bI b)))]) hx hb d_M_along_40 hl (k := 1) rfl (by rw [ex26]; exact iI_add _ _) (by decide) rfl (fun ls hl => ?_)
              refine lv_iinc (v := iI 2) (lv' := [(4, .int (iI 2)), (3, .int (iI x26)), (0, .ref mo), (1, .int (iI x)), (2, .int (iI (bI b)))]) hx hb d_M_along_43 hl (k := 1) rfl (by decide) (by decide) rfl (fun ls hl => ?_)
              refine lv_goto (tgt := 9) hx hb d_M_along_46 (by decide) ?_
              refine lv_iload hx hb d_M_along_9 (lv_at hl 0 rfl) ?_
              refine lv_iconst (v := iI 2) hx hb d_M_along_11 rfl ?_
              refine li_icmp_ge (tgt := 49) hx hb d_M_along_12 (by decide) (by first | omega | (subst_vars; omega) | exact rng256 (byM_r hcb)) (by first | omega | (subst_vars; omega) | exact rng256 (byM_r hcb)) (fun c27 => ?_) (fun c27 => ?_)
              · have _q := c27
                refine lv_aload_n hx hb d_M_along_49 rfl (lv_at hl 2 rfl) ?_
                refine lv_iload_n hx hb d_M_along_50 rfl (lv_at hl 1 rfl) ?_
                refine li_callr ((va_runV (As := [.int (iI x26)]) (rest := []) ⟨hx, hb, hml, hown, hts⟩ (c_M_byteAt l dC dI kA mo ma mrf mz mls mfp mfm mtx mwd mak mli mlx mat mtk mtf mtt mfa mla mlp mdp msi mpf mpt mdn cb x26 (by exact hcb) (by exact hz) (by omega)) (cw_M_73 hts rfl rfl ⟨Nat.le_of_ble_eq_true rfl, Nat.le_of_ble_eq_true rfl⟩) (li_preV (va_recv hK hP (ci := 10) (q0 := 0) rfl rfl) (hP.sub [0, 1] rfl) hK hN hG.rd) rfl rfl hl.1 rfl (lv_room (Nat.le_of_ble_eq_true rfl)) d_M_along_51 ⟨(by show 0 + 0 ≤ 0; omega), (by show 0 + 0 ≤ 0; omega)⟩).run) ?_
                refine lv_bipush (v := iI 31) hx hb d_M_along_54 (by decide) ?_
                refine li_icmp_eq (tgt := 63) hx hb d_M_along_56 (by decide) (by first | omega | (subst_vars; omega) | exact rng256 (byM_r hcb)) (by first | omega | (subst_vars; omega) | exact rng256 (byM_r hcb)) (fun c28 => ?_) (fun c28 => ?_)
                · have _q := c28
                  exact K_63 ((mz + 2 - x26).toNat + 1) x26 1000 (by first | omega | (subst_vars; omega)) (by first | omega | (subst_vars; omega)) (by first | (unfold alM; rw [if_pos (by assumption)]; done) | (subst_vars; unfold alM inJ; rw [show x + 1 + 1 = x + 2 by omega] at *; simp_all; done)) (Nat.lt_succ_self _) _ (lv_sub hl [2, 3, 4, 1] rfl)
                · have _q := c28
                  refine lv_iconst (v := iI (-1)) hx hb d_M_along_59 rfl ?_
                  refine lv_iload_n hx hb d_M_along_60 rfl (lv_at hl 1 rfl) ?_
                  refine li_isub hx hb d_M_along_61 ?_
                  exact fin _ _ _ (by first | (subst_vars; unfold alM inJ; simp_all; done) | (subst_vars; unfold alM inJ; rw [show x + 1 + 1 = x + 2 by omega] at *; simp_all; done)) d_M_along_62
              · have _q := c27
                exact absurd c27 (by omega)
            · have _q := c25
              refine lv_aload_n hx hb d_M_along_25 rfl (lv_at hl 2 rfl) ?_
              refine lv_iload_n hx hb d_M_along_26 rfl (lv_at hl 1 rfl) ?_
              refine li_callr ((va_runV (As := [.int (iI x23)]) (rest := []) ⟨hx, hb, hml, hown, hts⟩ (c_M_byteAt l dC dI kA mo ma mrf mz mls mfp mfm mtx mwd mak mli mlx mat mtk mtf mtt mfa mla mlp mdp msi mpf mpt mdn cb x23 (by exact hcb) (by exact hz) (by omega)) (cw_M_73 hts rfl rfl ⟨Nat.le_of_ble_eq_true rfl, Nat.le_of_ble_eq_true rfl⟩) (li_preV (va_recv hK hP (ci := 10) (q0 := 0) rfl rfl) (hP.sub [0, 1] rfl) hK hN hG.rd) rfl rfl hl.1 rfl (lv_room (Nat.le_of_ble_eq_true rfl)) d_M_along_27 ⟨(by show 0 + 0 ≤ 0; omega), (by show 0 + 0 ≤ 0; omega)⟩).run) ?_
              refine li_callr ((va_runS (As := [.int (iI (byM cb mz x23))]) (rest := []) ⟨hx, hb, hml, hown, hts⟩ (c_M_isDigit l dC dI kA (byM cb mz x23) (by first | omega | (subst_vars; omega))) (cw_M_77 hts rfl rfl ⟨Nat.le_of_ble_eq_true rfl, Nat.le_of_ble_eq_true rfl⟩) (li_preS va_Pnil hK hN hG.rd) rfl rfl hl.1 rfl (lv_room (Nat.le_of_ble_eq_true rfl)) d_M_along_30 ⟨(by show 0 + 0 ≤ 0; omega), (by show 0 + 0 ≤ 0; omega)⟩).run) ?_
              refine li_bnz (tgt := 40) hx hb d_M_along_33 (by decide) (fun c29 => ?_) (fun c29 => ?_)
              · have _q := c29
                obtain ⟨x30, ex30⟩ : ∃ y_9 : Int, y_9 = x23 + 1 := ⟨_, rfl⟩
                refine lv_iinc (v := iI x30) (lv' := [(3, .int (iI x30)), (4, .int (iI 1)), (0, .ref mo), (1, .int (iI x)), (2, .int (iI (bI b)))]) hx hb d_M_along_40 hl (k := 1) rfl (by rw [ex30]; exact iI_add _ _) (by decide) rfl (fun ls hl => ?_)
                refine lv_iinc (v := iI 2) (lv' := [(4, .int (iI 2)), (3, .int (iI x30)), (0, .ref mo), (1, .int (iI x)), (2, .int (iI (bI b)))]) hx hb d_M_along_43 hl (k := 1) rfl (by decide) (by decide) rfl (fun ls hl => ?_)
                refine lv_goto (tgt := 9) hx hb d_M_along_46 (by decide) ?_
                refine lv_iload hx hb d_M_along_9 (lv_at hl 0 rfl) ?_
                refine lv_iconst (v := iI 2) hx hb d_M_along_11 rfl ?_
                refine li_icmp_ge (tgt := 49) hx hb d_M_along_12 (by decide) (by first | omega | (subst_vars; omega) | exact rng256 (byM_r hcb)) (by first | omega | (subst_vars; omega) | exact rng256 (byM_r hcb)) (fun c31 => ?_) (fun c31 => ?_)
                · have _q := c31
                  refine lv_aload_n hx hb d_M_along_49 rfl (lv_at hl 2 rfl) ?_
                  refine lv_iload_n hx hb d_M_along_50 rfl (lv_at hl 1 rfl) ?_
                  refine li_callr ((va_runV (As := [.int (iI x30)]) (rest := []) ⟨hx, hb, hml, hown, hts⟩ (c_M_byteAt l dC dI kA mo ma mrf mz mls mfp mfm mtx mwd mak mli mlx mat mtk mtf mtt mfa mla mlp mdp msi mpf mpt mdn cb x30 (by exact hcb) (by exact hz) (by omega)) (cw_M_73 hts rfl rfl ⟨Nat.le_of_ble_eq_true rfl, Nat.le_of_ble_eq_true rfl⟩) (li_preV (va_recv hK hP (ci := 10) (q0 := 0) rfl rfl) (hP.sub [0, 1] rfl) hK hN hG.rd) rfl rfl hl.1 rfl (lv_room (Nat.le_of_ble_eq_true rfl)) d_M_along_51 ⟨(by show 0 + 0 ≤ 0; omega), (by show 0 + 0 ≤ 0; omega)⟩).run) ?_
                  refine lv_bipush (v := iI 31) hx hb d_M_along_54 (by decide) ?_
                  refine li_icmp_eq (tgt := 63) hx hb d_M_along_56 (by decide) (by first | omega | (subst_vars; omega) | exact rng256 (byM_r hcb)) (by first | omega | (subst_vars; omega) | exact rng256 (byM_r hcb)) (fun c32 => ?_) (fun c32 => ?_)
                  · have _q := c32
                    exact K_63 ((mz + 2 - x30).toNat + 1) x30 1000 (by first | omega | (subst_vars; omega)) (by first | omega | (subst_vars; omega)) (by first | (unfold alM; rw [if_pos (by assumption)]; done) | (subst_vars; unfold alM inJ; rw [show x + 1 + 1 = x + 2 by omega] at *; simp_all; done)) (Nat.lt_succ_self _) _ (lv_sub hl [2, 3, 4, 1] rfl)
                  · have _q := c32
                    refine lv_iconst (v := iI (-1)) hx hb d_M_along_59 rfl ?_
                    refine lv_iload_n hx hb d_M_along_60 rfl (lv_at hl 1 rfl) ?_
                    refine li_isub hx hb d_M_along_61 ?_
                    exact fin _ _ _ (by first | (subst_vars; unfold alM inJ; simp_all; done) | (subst_vars; unfold alM inJ; rw [show x + 1 + 1 = x + 2 by omega] at *; simp_all; done)) d_M_along_62
                · have _q := c31
                  exact absurd c31 (by omega)
              · have _q := c29
                refine lv_iconst (v := iI (-1)) hx hb d_M_along_36 rfl ?_
                refine lv_iload_n hx hb d_M_along_37 rfl (lv_at hl 1 rfl) ?_
                refine li_isub hx hb d_M_along_38 ?_
                exact fin _ _ _ (by first | (subst_vars; unfold alM inJ; simp_all; done) | (subst_vars; unfold alM inJ; rw [show x + 1 + 1 = x + 2 by omega] at *; simp_all; done)) d_M_along_39
        · have _q := c22
          refine lv_iconst (v := iI (-1)) hx hb d_M_along_36 rfl ?_
          refine lv_iload_n hx hb d_M_along_37 rfl (lv_at hl 1 rfl) ?_
          refine li_isub hx hb d_M_along_38 ?_
          exact fin _ _ _ (by first | (subst_vars; unfold alM inJ; simp_all; done) | (subst_vars; unfold alM inJ; rw [show x + 1 + 1 = x + 2 by omega] at *; simp_all; done)) d_M_along_39

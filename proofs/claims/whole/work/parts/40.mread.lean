/-! the reference: plain reads. ca = all, cb = bytes -/
def C2 (f : Nat → Int) : Prop := ∀ j, 0 ≤ f j ∧ f j < 256
def byM (cb : Nat → Int) (mz x : Int) : Int := if x < mz then cb x.toNat else -1
def numM (f : Nat → Int) : Nat → Int → Int → Int
  | 0, _, v => v
  | k + 1, x, v => numM f k (x + 1) (10 * v + f x.toNat - 48)
def fouS (f : Nat → Int) (x r : Int) : Int := if isDig (f x.toNat) = true then r + 1 else 0
theorem fouS_t {f : Nat → Int} {x r : Int} (h : isDig (f x.toNat) = true) : fouS f x r = r + 1 := by unfold fouS; rw [if_pos h]
theorem fouS_f {f : Nat → Int} {x r : Int} (h : isDig (f x.toNat) = false) : fouS f x r = 0 := by unfold fouS; rw [if_neg (by simp [h])]
def fouL (f : Nat → Int) : Nat → Int → Int → Int
  | 0, _, _ => -1
  | k + 1, x, r => if fouS f x r = 4 then x - 3 else fouL f k (x + 1) (fouS f x r)
def fouM (f : Nat → Int) (x y : Int) : Int := fouL f (y - x).toNat x 0
def isLw (ch : Int) (b : Bool) : Bool := isLet ch || (b && decide (ch = 42 ∨ ch = 63))
def bgL (f : Nat → Int) (b : Bool) : Nat → Int → Int
  | 0, x => x
  | k + 1, x => if isLw (f x.toNat) b = true then x else bgL f b k (x + 1)
def bgM (f : Nat → Int) (b : Bool) (x y : Int) : Int := bgL f b (y - x).toNat x
def edL (f : Nat → Int) (b : Bool) : Nat → Int → Int
  | 0, x => x
  | k + 1, x => if isLw (f x.toNat) b = true then edL f b k (x + 1) else x
def edM (f : Nat → Int) (b : Bool) (x y : Int) : Int := edL f b (y - x).toNat x
def cmM (f : Nat → Int) (x xe y ye : Int) : Int := cmpL (fun i => sml (f (x.toNat + i))) (fun i => sml (f (y.toNat + i))) (min (xe - x) (ye - y)).toNat 0 ((xe - x) - (ye - y))
theorem isDig_r {ch : Int} (h : isDig ch = true) : 48 ≤ ch ∧ ch ≤ 57 := of_decide_eq_true h
theorem isLw_t1 {ch : Int} {b : Bool} (h : isLet ch = true) : isLw ch b = true := by simp [isLw, h]
theorem isLw_t2 {ch : Int} {b : Bool} (h : b = true) (h2 : ch = 42 ∨ ch = 63) : isLw ch b = true := by simp [isLw, h, h2]
theorem isLw_f1 {ch : Int} {b : Bool} (h : isLet ch = false) (h2 : b = false) : ¬ isLw ch b = true := by simp [isLw, h, h2]
theorem isLw_f2 {ch : Int} {b : Bool} (h : isLet ch = false) (h2 : ¬ ch = 42) (h3 : ¬ ch = 63) : ¬ isLw ch b = true := by simp [isLw, h, h2, h3]

theorem d_M_thrown_0 : decode b_M_thrown 0 = .ok (.aload_n 0, 1) := by decide +kernel
theorem d_M_thrown_1 : decode b_M_thrown 1 = .ok (.getfield 59, 3) := by decide +kernel
theorem d_M_thrown_4 : decode b_M_thrown 4 = .ok (.ireturn, 1) := by decide +kernel
set_option maxHeartbeats 4000000 in
set_option maxRecDepth 100000 in
theorem c_M_thrown (l : Launch) (dC : Nat → ClassId) (dI : Nat → Nat → Nat) (kA : Nat → ClassId) (mo : Nat) (ma : Nat → Nat) (mrf : Int) (mz : Int) (mls : Int) (mfp : Int) (mfm : Int) (mtx : Int) (mwd : Int) (mak : Int) (mli : Int) (mlx : Int) (mat : Int) (mtk : Int) (mtf : Int) (mtt : Int) (mfa : Int) (mla : Int) (mlp : Int) (mdp : Int) (msi : Int) (mpf : Int) (mpt : Int) (mdn : Bool)  : Met l y_M_thrown (wsy y_M_thrown b_M_thrown 1 (some .int)) (rmd 0 0 0) (li_Pr (dC, dI) CL (TY kA) [.ref mo] (va_P (dC, dI) CL [(mo, .inr (10, [.int (iI mrf), .ref (ma 0), .int (iI mz), .ref (ma 1), .ref (ma 2), .int (iI mls), .int (iI mfp), .int (iI mfm), .ref (ma 3), .int (iI mtx), .ref (ma 4), .ref (ma 5), .int (iI mwd), .ref (ma 6), .ref (ma 7), .int (iI mak), .ref (ma 8), .ref (ma 9), .int (iI mli), .int (iI mlx), .ref (ma 10), .ref (ma 11), .int (iI mat), .int (iI mtk), .int (iI mtf), .int (iI mtt), .int (iI mfa), .int (iI mla), .int (iI mlp), .int (iI mdp), .ref (ma 12), .ref (ma 13), .int (iI msi), .int (iI (bI mdn)), .int (iI mpf), .int (iI mpt)]))])) (k2_QcV (.int (iI (mrf)))) 0 0 (fun _ => False) := by
  refine li_mr (by decide) (Nat.le_of_ble_eq_true rfl) (by rfl) ?_
  intro p e s m args below meth c Q C hP hK hN hG fin ls hl
  obtain ⟨hx, hb, hr, hml, hown, hts, hlocks, hin⟩ := C
  have hown : s.vm.findClass R_M = some m.cls := hown
  have hP : va_P (dC, dI) CL [(mo, .inr (10, [.int (iI mrf), .ref (ma 0), .int (iI mz), .ref (ma 1), .ref (ma 2), .int (iI mls), .int (iI mfp), .int (iI mfm), .ref (ma 3), .int (iI mtx), .ref (ma 4), .ref (ma 5), .int (iI mwd), .ref (ma 6), .ref (ma 7), .int (iI mak), .ref (ma 8), .ref (ma 9), .int (iI mli), .int (iI mlx), .ref (ma 10), .ref (ma 11), .int (iI mat), .int (iI mtk), .int (iI mtf), .int (iI mtt), .int (iI mfa), .int (iI mla), .int (iI mlp), .int (iI mdp), .ref (ma 12), .ref (ma 13), .int (iI msi), .int (iI (bI mdn)), .int (iI mpf), .int (iI mpt)]))] s.heap := hP
  have hl : lv_has ls 1 [(0, .ref mo)] := hl
  refine lv_aload_n hx hb d_M_thrown_0 rfl (lv_at hl 0 rfl) ?_
  refine gf_M_59 hx hb hts hown hK hP 0 rfl rfl d_M_thrown_1 ?_
  exact fin _ _ _ (by rfl) d_M_thrown_4
theorem d_M_lineEnd_0 : decode b_M_lineEnd 0 = .ok (.sipush 4000, 3) := by decide +kernel
theorem d_M_lineEnd_3 : decode b_M_lineEnd 3 = .ok (.aload_n 0, 1) := by decide +kernel
theorem d_M_lineEnd_4 : decode b_M_lineEnd 4 = .ok (.getfield 174, 3) := by decide +kernel
theorem d_M_lineEnd_7 : decode b_M_lineEnd 7 = .ok (.iadd, 1) := by decide +kernel
theorem d_M_lineEnd_8 : decode b_M_lineEnd 8 = .ok (.ireturn, 1) := by decide +kernel
set_option maxHeartbeats 4000000 in
set_option maxRecDepth 100000 in
theorem c_M_lineEnd (l : Launch) (dC : Nat → ClassId) (dI : Nat → Nat → Nat) (kA : Nat → ClassId) (mo : Nat) (ma : Nat → Nat) (mrf : Int) (mz : Int) (mls : Int) (mfp : Int) (mfm : Int) (mtx : Int) (mwd : Int) (mak : Int) (mli : Int) (mlx : Int) (mat : Int) (mtk : Int) (mtf : Int) (mtt : Int) (mfa : Int) (mla : Int) (mlp : Int) (mdp : Int) (msi : Int) (mpf : Int) (mpt : Int) (mdn : Bool)  : Met l y_M_lineEnd (wsy y_M_lineEnd b_M_lineEnd 1 (some .int)) (rmd 0 0 0) (li_Pr (dC, dI) CL (TY kA) [.ref mo] (va_P (dC, dI) CL [(mo, .inr (10, [.int (iI mrf), .ref (ma 0), .int (iI mz), .ref (ma 1), .ref (ma 2), .int (iI mls), .int (iI mfp), .int (iI mfm), .ref (ma 3), .int (iI mtx), .ref (ma 4), .ref (ma 5), .int (iI mwd), .ref (ma 6), .ref (ma 7), .int (iI mak), .ref (ma 8), .ref (ma 9), .int (iI mli), .int (iI mlx), .ref (ma 10), .ref (ma 11), .int (iI mat), .int (iI mtk), .int (iI mtf), .int (iI mtt), .int (iI mfa), .int (iI mla), .int (iI mlp), .int (iI mdp), .ref (ma 12), .ref (ma 13), .int (iI msi), .int (iI (bI mdn)), .int (iI mpf), .int (iI mpt)]))])) (k2_QcV (.int (iI (4000 + mls)))) 0 0 (fun _ => False) := by
  refine li_mr (by decide) (Nat.le_of_ble_eq_true rfl) (by rfl) ?_
  intro p e s m args below meth c Q C hP hK hN hG fin ls hl
  obtain ⟨hx, hb, hr, hml, hown, hts, hlocks, hin⟩ := C
  have hown : s.vm.findClass R_M = some m.cls := hown
  have hP : va_P (dC, dI) CL [(mo, .inr (10, [.int (iI mrf), .ref (ma 0), .int (iI mz), .ref (ma 1), .ref (ma 2), .int (iI mls), .int (iI mfp), .int (iI mfm), .ref (ma 3), .int (iI mtx), .ref (ma 4), .ref (ma 5), .int (iI mwd), .ref (ma 6), .ref (ma 7), .int (iI mak), .ref (ma 8), .ref (ma 9), .int (iI mli), .int (iI mlx), .ref (ma 10), .ref (ma 11), .int (iI mat), .int (iI mtk), .int (iI mtf), .int (iI mtt), .int (iI mfa), .int (iI mla), .int (iI mlp), .int (iI mdp), .ref (ma 12), .ref (ma 13), .int (iI msi), .int (iI (bI mdn)), .int (iI mpf), .int (iI mpt)]))] s.heap := hP
  have hl : lv_has ls 1 [(0, .ref mo)] := hl
  refine lv_sipush (v := iI 4000) hx hb d_M_lineEnd_0 (by decide) ?_
  refine lv_aload_n hx hb d_M_lineEnd_3 rfl (lv_at hl 0 rfl) ?_
  refine gf_M_174 hx hb hts hown hK hP 0 rfl rfl d_M_lineEnd_4 ?_
  refine li_iadd hx hb d_M_lineEnd_7 ?_
  exact fin _ _ _ (by rfl) d_M_lineEnd_8
theorem d_M_byteAt_0 : decode b_M_byteAt 0 = .ok (.iload_n 1, 1) := by decide +kernel
theorem d_M_byteAt_1 : decode b_M_byteAt 1 = .ok (.aload_n 0, 1) := by decide +kernel
theorem d_M_byteAt_2 : decode b_M_byteAt 2 = .ok (.getfield 66, 3) := by decide +kernel
theorem d_M_byteAt_5 : decode b_M_byteAt 5 = .ok (.if_icmp .ge 12, 3) := by decide +kernel
theorem d_M_byteAt_8 : decode b_M_byteAt 8 = .ok (.aload_n 0, 1) := by decide +kernel
theorem d_M_byteAt_9 : decode b_M_byteAt 9 = .ok (.getfield 7, 3) := by decide +kernel
theorem d_M_byteAt_12 : decode b_M_byteAt 12 = .ok (.iload_n 1, 1) := by decide +kernel
theorem d_M_byteAt_13 : decode b_M_byteAt 13 = .ok (.iaload, 1) := by decide +kernel
theorem d_M_byteAt_14 : decode b_M_byteAt 14 = .ok (.goto 4, 3) := by decide +kernel
theorem d_M_byteAt_17 : decode b_M_byteAt 17 = .ok (.iconst (-1), 1) := by decide +kernel
theorem d_M_byteAt_18 : decode b_M_byteAt 18 = .ok (.ireturn, 1) := by decide +kernel
set_option maxHeartbeats 4000000 in
set_option maxRecDepth 100000 in
theorem c_M_byteAt (l : Launch) (dC : Nat → ClassId) (dI : Nat → Nat → Nat) (kA : Nat → ClassId) (mo : Nat) (ma : Nat → Nat) (mrf : Int) (mz : Int) (mls : Int) (mfp : Int) (mfm : Int) (mtx : Int) (mwd : Int) (mak : Int) (mli : Int) (mlx : Int) (mat : Int) (mtk : Int) (mtf : Int) (mtt : Int) (mfa : Int) (mla : Int) (mlp : Int) (mdp : Int) (msi : Int) (mpf : Int) (mpt : Int) (mdn : Bool) (cb : Nat → Int) (x : Int) (hcb : C2 cb) (hz : 0 ≤ mz ∧ mz ≤ 400) (hx0 : 0 ≤ x ∧ x ≤ 10000) : Met l y_M_byteAt (wsy y_M_byteAt b_M_byteAt 2 (some .int)) (rmd 0 0 0) (li_Pr (dC, dI) CL (TY kA) [.ref mo, .int (iI x)] (va_P (dC, dI) CL [(mo, .inr (10, [.int (iI mrf), .ref (ma 0), .int (iI mz), .ref (ma 1), .ref (ma 2), .int (iI mls), .int (iI mfp), .int (iI mfm), .ref (ma 3), .int (iI mtx), .ref (ma 4), .ref (ma 5), .int (iI mwd), .ref (ma 6), .ref (ma 7), .int (iI mak), .ref (ma 8), .ref (ma 9), .int (iI mli), .int (iI mlx), .ref (ma 10), .ref (ma 11), .int (iI mat), .int (iI mtk), .int (iI mtf), .int (iI mtt), .int (iI mfa), .int (iI mla), .int (iI mlp), .int (iI mdp), .ref (ma 12), .ref (ma 13), .int (iI msi), .int (iI (bI mdn)), .int (iI mpf), .int (iI mpt)])), (ma 0, .inl (kA 0, 400, .inl (aI cb)))])) (k2_QcV (.int (iI (byM cb mz x)))) 0 0 (fun _ => False) := by
  refine li_mr (by decide) (Nat.le_of_ble_eq_true rfl) (by rfl) ?_
  intro p e s m args below meth c Q C hP hK hN hG fin ls hl
  obtain ⟨hx, hb, hr, hml, hown, hts, hlocks, hin⟩ := C
  have hown : s.vm.findClass R_M = some m.cls := hown
  have hP : va_P (dC, dI) CL [(mo, .inr (10, [.int (iI mrf), .ref (ma 0), .int (iI mz), .ref (ma 1), .ref (ma 2), .int (iI mls), .int (iI mfp), .int (iI mfm), .ref (ma 3), .int (iI mtx), .ref (ma 4), .ref (ma 5), .int (iI mwd), .ref (ma 6), .ref (ma 7), .int (iI mak), .ref (ma 8), .ref (ma 9), .int (iI mli), .int (iI mlx), .ref (ma 10), .ref (ma 11), .int (iI mat), .int (iI mtk), .int (iI mtf), .int (iI mtt), .int (iI mfa), .int (iI mla), .int (iI mlp), .int (iI mdp), .ref (ma 12), .ref (ma 13), .int (iI msi), .int (iI (bI mdn)), .int (iI mpf), .int (iI mpt)])), (ma 0, .inl (kA 0, 400, .inl (aI cb)))] s.heap := hP
  have hl : lv_has ls 2 [(0, .ref mo), (1, .int (iI x))] := hl
  refine lv_iload_n hx hb d_M_byteAt_0 rfl (lv_at hl 1 rfl) ?_
  refine lv_aload_n hx hb d_M_byteAt_1 rfl (lv_at hl 0 rfl) ?_
  refine gf_M_66 hx hb hts hown hK hP 0 rfl rfl d_M_byteAt_2 ?_
  refine li_icmp_ge (tgt := 17) hx hb d_M_byteAt_5 (by decide) (by omega) (by omega) (fun c1 => ?_) (fun c1 => ?_)
  · have _q := c1
    refine lv_iconst (v := iI (-1)) hx hb d_M_byteAt_17 rfl ?_
    exact fin _ _ _ (by unfold byM; first | (rw [if_pos (by omega)]; done) | (rw [if_neg (by omega)]; done)) d_M_byteAt_18
  · have _q := c1
    refine lv_aload_n hx hb d_M_byteAt_8 rfl (lv_at hl 0 rfl) ?_
    refine gf_M_7 hx hb hts hown hK hP 0 rfl rfl d_M_byteAt_9 ?_
    refine lv_iload_n hx hb d_M_byteAt_12 rfl (lv_at hl 1 rfl) ?_
    refine li_iald hx hb hK hP 1 0 rfl rfl (by omega) (by omega) (by omega) d_M_byteAt_13 ?_
    have f2 := hcb x.toNat
    refine lv_goto (tgt := 18) hx hb d_M_byteAt_14 (by decide) ?_
    exact fin _ _ _ (by unfold byM; first | (rw [if_pos (by omega)]; done) | (rw [if_neg (by omega)]; done)) d_M_byteAt_18
theorem d_M_number_0 : decode b_M_number 0 = .ok (.iconst 0, 1) := by decide +kernel
theorem d_M_number_1 : decode b_M_number 1 = .ok (.istore_n 3, 1) := by decide +kernel
theorem d_M_number_2 : decode b_M_number 2 = .ok (.iload_n 1, 1) := by decide +kernel
theorem d_M_number_3 : decode b_M_number 3 = .ok (.istore 4, 2) := by decide +kernel
theorem d_M_number_5 : decode b_M_number 5 = .ok (.iload 4, 2) := by decide +kernel
theorem d_M_number_7 : decode b_M_number 7 = .ok (.iload_n 1, 1) := by decide +kernel
theorem d_M_number_8 : decode b_M_number 8 = .ok (.iload_n 2, 1) := by decide +kernel
theorem d_M_number_9 : decode b_M_number 9 = .ok (.iadd, 1) := by decide +kernel
theorem d_M_number_10 : decode b_M_number 10 = .ok (.if_icmp .ge 25, 3) := by decide +kernel
theorem d_M_number_13 : decode b_M_number 13 = .ok (.bipush 10, 2) := by decide +kernel
theorem d_M_number_15 : decode b_M_number 15 = .ok (.iload_n 3, 1) := by decide +kernel
theorem d_M_number_16 : decode b_M_number 16 = .ok (.imul, 1) := by decide +kernel
theorem d_M_number_17 : decode b_M_number 17 = .ok (.aload_n 0, 1) := by decide +kernel
theorem d_M_number_18 : decode b_M_number 18 = .ok (.getfield 7, 3) := by decide +kernel
theorem d_M_number_21 : decode b_M_number 21 = .ok (.iload 4, 2) := by decide +kernel
theorem d_M_number_23 : decode b_M_number 23 = .ok (.iaload, 1) := by decide +kernel
theorem d_M_number_24 : decode b_M_number 24 = .ok (.iadd, 1) := by decide +kernel
theorem d_M_number_25 : decode b_M_number 25 = .ok (.bipush 48, 2) := by decide +kernel
theorem d_M_number_27 : decode b_M_number 27 = .ok (.isub, 1) := by decide +kernel
theorem d_M_number_28 : decode b_M_number 28 = .ok (.istore_n 3, 1) := by decide +kernel
theorem d_M_number_29 : decode b_M_number 29 = .ok (.iinc 4 1, 3) := by decide +kernel
theorem d_M_number_32 : decode b_M_number 32 = .ok (.goto (-27), 3) := by decide +kernel
theorem d_M_number_35 : decode b_M_number 35 = .ok (.iload_n 3, 1) := by decide +kernel
theorem d_M_number_36 : decode b_M_number 36 = .ok (.ireturn, 1) := by decide +kernel
set_option maxHeartbeats 4000000 in
set_option maxRecDepth 100000 in
theorem c_M_number (l : Launch) (dC : Nat → ClassId) (dI : Nat → Nat → Nat) (kA : Nat → ClassId) (mo : Nat) (ma : Nat → Nat) (mrf : Int) (mz : Int) (mls : Int) (mfp : Int) (mfm : Int) (mtx : Int) (mwd : Int) (mak : Int) (mli : Int) (mlx : Int) (mat : Int) (mtk : Int) (mtf : Int) (mtt : Int) (mfa : Int) (mla : Int) (mlp : Int) (mdp : Int) (msi : Int) (mpf : Int) (mpt : Int) (mdn : Bool) (cb : Nat → Int) (x : Int) (k : Int) (hx0 : 0 ≤ x ∧ 0 ≤ k ∧ x + k ≤ 400) : Met l y_M_number (wsy y_M_number b_M_number 5 (some .int)) (rmd 0 0 0) (li_Pr (dC, dI) CL (TY kA) [.ref mo, .int (iI x), .int (iI k)] (va_P (dC, dI) CL [(mo, .inr (10, [.int (iI mrf), .ref (ma 0), .int (iI mz), .ref (ma 1), .ref (ma 2), .int (iI mls), .int (iI mfp), .int (iI mfm), .ref (ma 3), .int (iI mtx), .ref (ma 4), .ref (ma 5), .int (iI mwd), .ref (ma 6), .ref (ma 7), .int (iI mak), .ref (ma 8), .ref (ma 9), .int (iI mli), .int (iI mlx), .ref (ma 10), .ref (ma 11), .int (iI mat), .int (iI mtk), .int (iI mtf), .int (iI mtt), .int (iI mfa), .int (iI mla), .int (iI mlp), .int (iI mdp), .ref (ma 12), .ref (ma 13), .int (iI msi), .int (iI (bI mdn)), .int (iI mpf), .int (iI mpt)])), (ma 0, .inl (kA 0, 400, .inl (aI cb)))])) (k2_QcV (.int (iI (numM cb k.toNat x 0)))) 0 0 (fun _ => False) := by
  refine li_mr (by decide) (Nat.le_of_ble_eq_true rfl) (by rfl) ?_
  intro p e s m args below meth c Q C hP hK hN hG fin ls hl
  obtain ⟨hx, hb, hr, hml, hown, hts, hlocks, hin⟩ := C
  have hown : s.vm.findClass R_M = some m.cls := hown
  have hP : va_P (dC, dI) CL [(mo, .inr (10, [.int (iI mrf), .ref (ma 0), .int (iI mz), .ref (ma 1), .ref (ma 2), .int (iI mls), .int (iI mfp), .int (iI mfm), .ref (ma 3), .int (iI mtx), .ref (ma 4), .ref (ma 5), .int (iI mwd), .ref (ma 6), .ref (ma 7), .int (iI mak), .ref (ma 8), .ref (ma 9), .int (iI mli), .int (iI mlx), .ref (ma 10), .ref (ma 11), .int (iI mat), .int (iI mtk), .int (iI mtf), .int (iI mtt), .int (iI mfa), .int (iI mla), .int (iI mlp), .int (iI mdp), .ref (ma 12), .ref (ma 13), .int (iI msi), .int (iI (bI mdn)), .int (iI mpf), .int (iI mpt)])), (ma 0, .inl (kA 0, 400, .inl (aI cb)))] s.heap := hP
  have hl : lv_has ls 5 [(0, .ref mo), (1, .int (iI x)), (2, .int (iI k))] := hl
  have K_5 : ∀ (nn : Nat) (v : Int) (y : Int), (x ≤ y ∧ y ≤ x + k) → (numM cb (x + k - y).toNat y v = numM cb k.toNat x 0) → ((x + k - y).toNat < nn) → ∀ ls : Array Slot, lv_has ls 5 [(0, .ref mo), (1, .int (iI x)), (2, .int (iI k)), (3, .int (iI v)), (4, .int (iI y))] → W p l e (rmd 0 0 0) s m args below meth c s.heap [] 0 0 Q (F0 m 5 ls []) := by
    intro nn
    induction nn with
    | zero => intro v y hy9 hres hm; exact absurd hm (Nat.not_lt_zero _)
    | succ nn ih =>
      intro v y hy9 hres hm ls hl
      refine lv_iload hx hb d_M_number_5 (lv_at hl 4 rfl) ?_
      refine lv_iload_n hx hb d_M_number_7 rfl (lv_at hl 1 rfl) ?_
      refine lv_iload_n hx hb d_M_number_8 rfl (lv_at hl 2 rfl) ?_
      refine li_iadd hx hb d_M_number_9 ?_
      refine li_icmp_ge (tgt := 35) hx hb d_M_number_10 (by decide) (by omega) (by omega) (fun c1 => ?_) (fun c1 => ?_)
      · have _q := c1
        refine lv_iload_n hx hb d_M_number_35 rfl (lv_at hl 3 rfl) ?_
        exact fin _ _ _ (by rw [← hres, show (x + k - y).toNat = 0 by omega]; rfl) d_M_number_36
      · have _q := c1
        refine lv_bipush (v := iI 10) hx hb d_M_number_13 (by decide) ?_
        refine lv_iload_n hx hb d_M_number_15 rfl (lv_at hl 3 rfl) ?_
        refine li_imul hx hb d_M_number_16 ?_
        refine lv_aload_n hx hb d_M_number_17 rfl (lv_at hl 0 rfl) ?_
        refine gf_M_7 hx hb hts hown hK hP 0 rfl rfl d_M_number_18 ?_
        refine lv_iload hx hb d_M_number_21 (lv_at hl 4 rfl) ?_
        refine li_iald hx hb hK hP 1 0 rfl rfl (by omega) (by omega) (by omega) d_M_number_23 ?_
        refine li_iadd hx hb d_M_number_24 ?_
        refine lv_bipush (v := iI 48) hx hb d_M_number_25 (by decide) ?_
        refine li_isub hx hb d_M_number_27 ?_
        refine li_nm (fun x2 ex2 => ?_)
        refine lv_istore_n (lv' := [(3, .int (iI x2)), (0, .ref mo), (1, .int (iI x)), (2, .int (iI k)), (4, .int (iI y))]) hx hb d_M_number_28 rfl hl (by decide) rfl (fun ls hl => ?_)
        obtain ⟨x3, ex3⟩ : ∃ y_9 : Int, y_9 = y + 1 := ⟨_, rfl⟩
        refine lv_iinc (v := iI x3) (lv' := [(4, .int (iI x3)), (3, .int (iI x2)), (0, .ref mo), (1, .int (iI x)), (2, .int (iI k))]) hx hb d_M_number_29 hl (k := 4) rfl (by rw [ex3]; exact iI_add _ _) (by decide) rfl (fun ls hl => ?_)
        refine lv_goto (tgt := 5) hx hb d_M_number_32 (by decide) ?_
        exact ih x2 x3 (by first | omega | (subst_vars; omega)) (by first | (rw [show x + k - x = k by omega]; done) | (subst_vars; rw [← hres, show (x + k - y).toNat = (x + k - (y + 1)).toNat + 1 by omega]; simp only [numM])) (by first | omega | (subst_vars; omega)) _ (lv_sub hl [2, 3, 4, 1, 0] rfl)
  refine lv_iconst (v := iI 0) hx hb d_M_number_0 rfl ?_
  refine lv_istore_n (lv' := [(3, .int (iI 0)), (0, .ref mo), (1, .int (iI x)), (2, .int (iI k))]) hx hb d_M_number_1 rfl hl (by decide) rfl (fun ls hl => ?_)
  refine lv_iload_n hx hb d_M_number_2 rfl (lv_at hl 2 rfl) ?_
  refine lv_istore (lv' := [(4, .int (iI x)), (3, .int (iI 0)), (0, .ref mo), (1, .int (iI x)), (2, .int (iI k))]) hx hb d_M_number_3 hl (by decide) rfl (fun ls hl => ?_)
  exact K_5 ((x + k - x).toNat + 1) 0 x (by first | omega | (subst_vars; omega)) (by first | (rw [show x + k - x = k by omega]; done) | (subst_vars; rw [← hres, show (x + k - y).toNat = (x + k - (y + 1)).toNat + 1 by omega]; simp only [numM])) (Nat.lt_succ_self _) _ (lv_sub hl [2, 3, 4, 1, 0] rfl)
theorem d_M_numberOf_0 : decode b_M_numberOf 0 = .ok (.iconst 0, 1) := by decide +kernel
theorem d_M_numberOf_1 : decode b_M_numberOf 1 = .ok (.istore_n 3, 1) := by decide +kernel
theorem d_M_numberOf_2 : decode b_M_numberOf 2 = .ok (.iload_n 1, 1) := by decide +kernel
theorem d_M_numberOf_3 : decode b_M_numberOf 3 = .ok (.istore 4, 2) := by decide +kernel
theorem d_M_numberOf_5 : decode b_M_numberOf 5 = .ok (.iload 4, 2) := by decide +kernel
theorem d_M_numberOf_7 : decode b_M_numberOf 7 = .ok (.iload_n 1, 1) := by decide +kernel
theorem d_M_numberOf_8 : decode b_M_numberOf 8 = .ok (.iload_n 2, 1) := by decide +kernel
theorem d_M_numberOf_9 : decode b_M_numberOf 9 = .ok (.iadd, 1) := by decide +kernel
theorem d_M_numberOf_10 : decode b_M_numberOf 10 = .ok (.if_icmp .ge 25, 3) := by decide +kernel
theorem d_M_numberOf_13 : decode b_M_numberOf 13 = .ok (.bipush 10, 2) := by decide +kernel
theorem d_M_numberOf_15 : decode b_M_numberOf 15 = .ok (.iload_n 3, 1) := by decide +kernel
theorem d_M_numberOf_16 : decode b_M_numberOf 16 = .ok (.imul, 1) := by decide +kernel
theorem d_M_numberOf_17 : decode b_M_numberOf 17 = .ok (.aload_n 0, 1) := by decide +kernel
theorem d_M_numberOf_18 : decode b_M_numberOf 18 = .ok (.getfield 13, 3) := by decide +kernel
theorem d_M_numberOf_21 : decode b_M_numberOf 21 = .ok (.iload 4, 2) := by decide +kernel
theorem d_M_numberOf_23 : decode b_M_numberOf 23 = .ok (.iaload, 1) := by decide +kernel
theorem d_M_numberOf_24 : decode b_M_numberOf 24 = .ok (.iadd, 1) := by decide +kernel
theorem d_M_numberOf_25 : decode b_M_numberOf 25 = .ok (.bipush 48, 2) := by decide +kernel
theorem d_M_numberOf_27 : decode b_M_numberOf 27 = .ok (.isub, 1) := by decide +kernel
theorem d_M_numberOf_28 : decode b_M_numberOf 28 = .ok (.istore_n 3, 1) := by decide +kernel
theorem d_M_numberOf_29 : decode b_M_numberOf 29 = .ok (.iinc 4 1, 3) := by decide +kernel
theorem d_M_numberOf_32 : decode b_M_numberOf 32 = .ok (.goto (-27), 3) := by decide +kernel
theorem d_M_numberOf_35 : decode b_M_numberOf 35 = .ok (.iload_n 3, 1) := by decide +kernel
theorem d_M_numberOf_36 : decode b_M_numberOf 36 = .ok (.ireturn, 1) := by decide +kernel
set_option maxHeartbeats 4000000 in
set_option maxRecDepth 100000 in
theorem c_M_numberOf (l : Launch) (dC : Nat → ClassId) (dI : Nat → Nat → Nat) (kA : Nat → ClassId) (mo : Nat) (ma : Nat → Nat) (mrf : Int) (mz : Int) (mls : Int) (mfp : Int) (mfm : Int) (mtx : Int) (mwd : Int) (mak : Int) (mli : Int) (mlx : Int) (mat : Int) (mtk : Int) (mtf : Int) (mtt : Int) (mfa : Int) (mla : Int) (mlp : Int) (mdp : Int) (msi : Int) (mpf : Int) (mpt : Int) (mdn : Bool) (ca : Nat → Int) (x : Int) (k : Int) (hx0 : 0 ≤ x ∧ 0 ≤ k ∧ x + k ≤ 4120) : Met l y_M_numberOf (wsy y_M_numberOf b_M_numberOf 5 (some .int)) (rmd 0 0 0) (li_Pr (dC, dI) CL (TY kA) [.ref mo, .int (iI x), .int (iI k)] (va_P (dC, dI) CL [(mo, .inr (10, [.int (iI mrf), .ref (ma 0), .int (iI mz), .ref (ma 1), .ref (ma 2), .int (iI mls), .int (iI mfp), .int (iI mfm), .ref (ma 3), .int (iI mtx), .ref (ma 4), .ref (ma 5), .int (iI mwd), .ref (ma 6), .ref (ma 7), .int (iI mak), .ref (ma 8), .ref (ma 9), .int (iI mli), .int (iI mlx), .ref (ma 10), .ref (ma 11), .int (iI mat), .int (iI mtk), .int (iI mtf), .int (iI mtt), .int (iI mfa), .int (iI mla), .int (iI mlp), .int (iI mdp), .ref (ma 12), .ref (ma 13), .int (iI msi), .int (iI (bI mdn)), .int (iI mpf), .int (iI mpt)])), (ma 1, .inl (kA 0, 4120, .inl (aI ca)))])) (k2_QcV (.int (iI (numM ca k.toNat x 0)))) 0 0 (fun _ => False) := by
  refine li_mr (by decide) (Nat.le_of_ble_eq_true rfl) (by rfl) ?_
  intro p e s m args below meth c Q C hP hK hN hG fin ls hl
  obtain ⟨hx, hb, hr, hml, hown, hts, hlocks, hin⟩ := C
  have hown : s.vm.findClass R_M = some m.cls := hown
  have hP : va_P (dC, dI) CL [(mo, .inr (10, [.int (iI mrf), .ref (ma 0), .int (iI mz), .ref (ma 1), .ref (ma 2), .int (iI mls), .int (iI mfp), .int (iI mfm), .ref (ma 3), .int (iI mtx), .ref (ma 4), .ref (ma 5), .int (iI mwd), .ref (ma 6), .ref (ma 7), .int (iI mak), .ref (ma 8), .ref (ma 9), .int (iI mli), .int (iI mlx), .ref (ma 10), .ref (ma 11), .int (iI mat), .int (iI mtk), .int (iI mtf), .int (iI mtt), .int (iI mfa), .int (iI mla), .int (iI mlp), .int (iI mdp), .ref (ma 12), .ref (ma 13), .int (iI msi), .int (iI (bI mdn)), .int (iI mpf), .int (iI mpt)])), (ma 1, .inl (kA 0, 4120, .inl (aI ca)))] s.heap := hP
  have hl : lv_has ls 5 [(0, .ref mo), (1, .int (iI x)), (2, .int (iI k))] := hl
  have K_5 : ∀ (nn : Nat) (v : Int) (y : Int), (x ≤ y ∧ y ≤ x + k) → (numM ca (x + k - y).toNat y v = numM ca k.toNat x 0) → ((x + k - y).toNat < nn) → ∀ ls : Array Slot, lv_has ls 5 [(0, .ref mo), (1, .int (iI x)), (2, .int (iI k)), (3, .int (iI v)), (4, .int (iI y))] → W p l e (rmd 0 0 0) s m args below meth c s.heap [] 0 0 Q (F0 m 5 ls []) := by
    intro nn
    induction nn with
    | zero => intro v y hy9 hres hm; exact absurd hm (Nat.not_lt_zero _)
    | succ nn ih =>
      intro v y hy9 hres hm ls hl
      refine lv_iload hx hb d_M_numberOf_5 (lv_at hl 4 rfl) ?_
      refine lv_iload_n hx hb d_M_numberOf_7 rfl (lv_at hl 1 rfl) ?_
      refine lv_iload_n hx hb d_M_numberOf_8 rfl (lv_at hl 2 rfl) ?_
      refine li_iadd hx hb d_M_numberOf_9 ?_
      refine li_icmp_ge (tgt := 35) hx hb d_M_numberOf_10 (by decide) (by omega) (by omega) (fun c1 => ?_) (fun c1 => ?_)
      · have _q := c1
        refine lv_iload_n hx hb d_M_numberOf_35 rfl (lv_at hl 3 rfl) ?_
        exact fin _ _ _ (by rw [← hres, show (x + k - y).toNat = 0 by omega]; rfl) d_M_numberOf_36
      · have _q := c1
        refine lv_bipush (v := iI 10) hx hb d_M_numberOf_13 (by decide) ?_
        refine lv_iload_n hx hb d_M_numberOf_15 rfl (lv_at hl 3 rfl) ?_
        refine li_imul hx hb d_M_numberOf_16 ?_
        refine lv_aload_n hx hb d_M_numberOf_17 rfl (lv_at hl 0 rfl) ?_
        refine gf_M_13 hx hb hts hown hK hP 0 rfl rfl d_M_numberOf_18 ?_
        refine lv_iload hx hb d_M_numberOf_21 (lv_at hl 4 rfl) ?_
        refine li_iald hx hb hK hP 1 0 rfl rfl (by omega) (by omega) (by omega) d_M_numberOf_23 ?_
        refine li_iadd hx hb d_M_numberOf_24 ?_
        refine lv_bipush (v := iI 48) hx hb d_M_numberOf_25 (by decide) ?_
        refine li_isub hx hb d_M_numberOf_27 ?_
        refine li_nm (fun x2 ex2 => ?_)
        refine lv_istore_n (lv' := [(3, .int (iI x2)), (0, .ref mo), (1, .int (iI x)), (2, .int (iI k)), (4, .int (iI y))]) hx hb d_M_numberOf_28 rfl hl (by decide) rfl (fun ls hl => ?_)
        obtain ⟨x3, ex3⟩ : ∃ y_9 : Int, y_9 = y + 1 := ⟨_, rfl⟩
        refine lv_iinc (v := iI x3) (lv' := [(4, .int (iI x3)), (3, .int (iI x2)), (0, .ref mo), (1, .int (iI x)), (2, .int (iI k))]) hx hb d_M_numberOf_29 hl (k := 4) rfl (by rw [ex3]; exact iI_add _ _) (by decide) rfl (fun ls hl => ?_)
        refine lv_goto (tgt := 5) hx hb d_M_numberOf_32 (by decide) ?_
        exact ih x2 x3 (by first | omega | (subst_vars; omega)) (by first | (rw [show x + k - x = k by omega]; done) | (subst_vars; rw [← hres, show (x + k - y).toNat = (x + k - (y + 1)).toNat + 1 by omega]; simp only [numM])) (by first | omega | (subst_vars; omega)) _ (lv_sub hl [2, 3, 4, 1, 0] rfl)
  refine lv_iconst (v := iI 0) hx hb d_M_numberOf_0 rfl ?_
  refine lv_istore_n (lv' := [(3, .int (iI 0)), (0, .ref mo), (1, .int (iI x)), (2, .int (iI k))]) hx hb d_M_numberOf_1 rfl hl (by decide) rfl (fun ls hl => ?_)
  refine lv_iload_n hx hb d_M_numberOf_2 rfl (lv_at hl 2 rfl) ?_
  refine lv_istore (lv' := [(4, .int (iI x)), (3, .int (iI 0)), (0, .ref mo), (1, .int (iI x)), (2, .int (iI k))]) hx hb d_M_numberOf_3 hl (by decide) rfl (fun ls hl => ?_)
  exact K_5 ((x + k - x).toNat + 1) 0 x (by first | omega | (subst_vars; omega)) (by first | (rw [show x + k - x = k by omega]; done) | (subst_vars; rw [← hres, show (x + k - y).toNat = (x + k - (y + 1)).toNat + 1 by omega]; simp only [numM])) (Nat.lt_succ_self _) _ (lv_sub hl [2, 3, 4, 1, 0] rfl)
theorem d_M_baseOf_0 : decode b_M_baseOf 0 = .ok (.aload_n 0, 1) := by decide +kernel
theorem d_M_baseOf_1 : decode b_M_baseOf 1 = .ok (.sipush 400, 3) := by decide +kernel
theorem d_M_baseOf_4 : decode b_M_baseOf 4 = .ok (.iload_n 1, 1) := by decide +kernel
theorem d_M_baseOf_5 : decode b_M_baseOf 5 = .ok (.imul, 1) := by decide +kernel
theorem d_M_baseOf_6 : decode b_M_baseOf 6 = .ok (.bipush 12, 2) := by decide +kernel
theorem d_M_baseOf_8 : decode b_M_baseOf 8 = .ok (.iadd, 1) := by decide +kernel
theorem d_M_baseOf_9 : decode b_M_baseOf 9 = .ok (.iconst 5, 1) := by decide +kernel
theorem d_M_baseOf_10 : decode b_M_baseOf 10 = .ok (.invokevirtual 110, 3) := by decide +kernel
theorem d_M_baseOf_13 : decode b_M_baseOf 13 = .ok (.ireturn, 1) := by decide +kernel
set_option maxHeartbeats 4000000 in
set_option maxRecDepth 100000 in
theorem c_M_baseOf (l : Launch) (dC : Nat → ClassId) (dI : Nat → Nat → Nat) (kA : Nat → ClassId) (mo : Nat) (ma : Nat → Nat) (mrf : Int) (mz : Int) (mls : Int) (mfp : Int) (mfm : Int) (mtx : Int) (mwd : Int) (mak : Int) (mli : Int) (mlx : Int) (mat : Int) (mtk : Int) (mtf : Int) (mtt : Int) (mfa : Int) (mla : Int) (mlp : Int) (mdp : Int) (msi : Int) (mpf : Int) (mpt : Int) (mdn : Bool) (ca : Nat → Int) (r : Int) (hr0 : 0 ≤ r ∧ r ≤ 9) : Met l y_M_baseOf (wsy y_M_baseOf b_M_baseOf 2 (some .int)) (rmd 1 0 0) (li_Pr (dC, dI) CL (TY kA) [.ref mo, .int (iI r)] (va_P (dC, dI) CL [(mo, .inr (10, [.int (iI mrf), .ref (ma 0), .int (iI mz), .ref (ma 1), .ref (ma 2), .int (iI mls), .int (iI mfp), .int (iI mfm), .ref (ma 3), .int (iI mtx), .ref (ma 4), .ref (ma 5), .int (iI mwd), .ref (ma 6), .ref (ma 7), .int (iI mak), .ref (ma 8), .ref (ma 9), .int (iI mli), .int (iI mlx), .ref (ma 10), .ref (ma 11), .int (iI mat), .int (iI mtk), .int (iI mtf), .int (iI mtt), .int (iI mfa), .int (iI mla), .int (iI mlp), .int (iI mdp), .ref (ma 12), .ref (ma 13), .int (iI msi), .int (iI (bI mdn)), .int (iI mpf), .int (iI mpt)])), (ma 1, .inl (kA 0, 4120, .inl (aI ca)))])) (k2_QcV (.int (iI (numM ca 5 (400 * r + 12) 0)))) 0 0 (fun _ => False) := by
  refine li_mr (by decide) (Nat.le_of_ble_eq_true rfl) (by rfl) ?_
  intro p e s m args below meth c Q C hP hK hN hG fin ls hl
  obtain ⟨hx, hb, hr, hml, hown, hts, hlocks, hin⟩ := C
  have hown : s.vm.findClass R_M = some m.cls := hown
  have hP : va_P (dC, dI) CL [(mo, .inr (10, [.int (iI mrf), .ref (ma 0), .int (iI mz), .ref (ma 1), .ref (ma 2), .int (iI mls), .int (iI mfp), .int (iI mfm), .ref (ma 3), .int (iI mtx), .ref (ma 4), .ref (ma 5), .int (iI mwd), .ref (ma 6), .ref (ma 7), .int (iI mak), .ref (ma 8), .ref (ma 9), .int (iI mli), .int (iI mlx), .ref (ma 10), .ref (ma 11), .int (iI mat), .int (iI mtk), .int (iI mtf), .int (iI mtt), .int (iI mfa), .int (iI mla), .int (iI mlp), .int (iI mdp), .ref (ma 12), .ref (ma 13), .int (iI msi), .int (iI (bI mdn)), .int (iI mpf), .int (iI mpt)])), (ma 1, .inl (kA 0, 4120, .inl (aI ca)))] s.heap := hP
  have hl : lv_has ls 2 [(0, .ref mo), (1, .int (iI r))] := hl
  refine lv_aload_n hx hb d_M_baseOf_0 rfl (lv_at hl 0 rfl) ?_
  refine lv_sipush (v := iI 400) hx hb d_M_baseOf_1 (by decide) ?_
  refine lv_iload_n hx hb d_M_baseOf_4 rfl (lv_at hl 1 rfl) ?_
  refine li_imul hx hb d_M_baseOf_5 ?_
  refine lv_bipush (v := iI 12) hx hb d_M_baseOf_6 (by decide) ?_
  refine li_iadd hx hb d_M_baseOf_8 ?_
  refine lv_iconst (v := iI 5) hx hb d_M_baseOf_9 rfl ?_
  refine li_callr ((va_runV (As := [.int (iI ((400 * r) + 12)), .int (iI 5)]) (rest := []) ⟨hx, hb, hml, hown, hts⟩ (c_M_numberOf l dC dI kA mo ma mrf mz mls mfp mfm mtx mwd mak mli mlx mat mtk mtf mtt mfa mla mlp mdp msi mpf mpt mdn ca ((400 * r) + 12) 5 (by omega)) (cw_M_110 hts rfl rfl ⟨Nat.le_of_ble_eq_true rfl, Nat.le_of_ble_eq_true rfl⟩) (li_preV (va_recv hK hP (ci := 10) (q0 := 0) rfl rfl) (hP.sub [0, 1] rfl) hK hN hG.rd) rfl rfl hl.1 rfl (lv_room (Nat.le_of_ble_eq_true rfl)) d_M_baseOf_10 ⟨(by show 0 + 0 ≤ 0; omega), (by show 0 + 0 ≤ 0; omega)⟩).run) ?_
  exact fin _ _ _ (by rfl) d_M_baseOf_13
theorem d_M_fieldsOf_0 : decode b_M_fieldsOf 0 = .ok (.aload_n 0, 1) := by decide +kernel
theorem d_M_fieldsOf_1 : decode b_M_fieldsOf 1 = .ok (.iload_n 1, 1) := by decide +kernel
theorem d_M_fieldsOf_2 : decode b_M_fieldsOf 2 = .ok (.invokevirtual 100, 3) := by decide +kernel
theorem d_M_fieldsOf_5 : decode b_M_fieldsOf 5 = .ok (.bipush 25, 2) := by decide +kernel
theorem d_M_fieldsOf_7 : decode b_M_fieldsOf 7 = .ok (.isub, 1) := by decide +kernel
theorem d_M_fieldsOf_8 : decode b_M_fieldsOf 8 = .ok (.bipush 12, 2) := by decide +kernel
theorem d_M_fieldsOf_10 : decode b_M_fieldsOf 10 = .ok (.idiv, 1) := by decide +kernel
theorem d_M_fieldsOf_11 : decode b_M_fieldsOf 11 = .ok (.ireturn, 1) := by decide +kernel
set_option maxHeartbeats 4000000 in
set_option maxRecDepth 100000 in
theorem c_M_fieldsOf (l : Launch) (dC : Nat → ClassId) (dI : Nat → Nat → Nat) (kA : Nat → ClassId) (mo : Nat) (ma : Nat → Nat) (mrf : Int) (mz : Int) (mls : Int) (mfp : Int) (mfm : Int) (mtx : Int) (mwd : Int) (mak : Int) (mli : Int) (mlx : Int) (mat : Int) (mtk : Int) (mtf : Int) (mtt : Int) (mfa : Int) (mla : Int) (mlp : Int) (mdp : Int) (msi : Int) (mpf : Int) (mpt : Int) (mdn : Bool) (ca : Nat → Int) (r : Int) (hr0 : 0 ≤ r ∧ r ≤ 9) (hb : 25 ≤ numM ca 5 (400 * r + 12) 0 ∧ numM ca 5 (400 * r + 12) 0 ≤ 100000) : Met l y_M_fieldsOf (wsy y_M_fieldsOf b_M_fieldsOf 2 (some .int)) (rmd 2 0 0) (li_Pr (dC, dI) CL (TY kA) [.ref mo, .int (iI r)] (va_P (dC, dI) CL [(mo, .inr (10, [.int (iI mrf), .ref (ma 0), .int (iI mz), .ref (ma 1), .ref (ma 2), .int (iI mls), .int (iI mfp), .int (iI mfm), .ref (ma 3), .int (iI mtx), .ref (ma 4), .ref (ma 5), .int (iI mwd), .ref (ma 6), .ref (ma 7), .int (iI mak), .ref (ma 8), .ref (ma 9), .int (iI mli), .int (iI mlx), .ref (ma 10), .ref (ma 11), .int (iI mat), .int (iI mtk), .int (iI mtf), .int (iI mtt), .int (iI mfa), .int (iI mla), .int (iI mlp), .int (iI mdp), .ref (ma 12), .ref (ma 13), .int (iI msi), .int (iI (bI mdn)), .int (iI mpf), .int (iI mpt)])), (ma 1, .inl (kA 0, 4120, .inl (aI ca)))])) (k2_QcV (.int (iI ((numM ca 5 (400 * r + 12) 0 - 25) / 12)))) 0 0 (fun _ => False) := by
  refine li_mr (by decide) (Nat.le_of_ble_eq_true rfl) (by rfl) ?_
  intro p e s m args below meth c Q C hP hK hN hG fin ls hl
  obtain ⟨hx, hb, hr, hml, hown, hts, hlocks, hin⟩ := C
  have hown : s.vm.findClass R_M = some m.cls := hown
  have hP : va_P (dC, dI) CL [(mo, .inr (10, [.int (iI mrf), .ref (ma 0), .int (iI mz), .ref (ma 1), .ref (ma 2), .int (iI mls), .int (iI mfp), .int (iI mfm), .ref (ma 3), .int (iI mtx), .ref (ma 4), .ref (ma 5), .int (iI mwd), .ref (ma 6), .ref (ma 7), .int (iI mak), .ref (ma 8), .ref (ma 9), .int (iI mli), .int (iI mlx), .ref (ma 10), .ref (ma 11), .int (iI mat), .int (iI mtk), .int (iI mtf), .int (iI mtt), .int (iI mfa), .int (iI mla), .int (iI mlp), .int (iI mdp), .ref (ma 12), .ref (ma 13), .int (iI msi), .int (iI (bI mdn)), .int (iI mpf), .int (iI mpt)])), (ma 1, .inl (kA 0, 4120, .inl (aI ca)))] s.heap := hP
  have hl : lv_has ls 2 [(0, .ref mo), (1, .int (iI r))] := hl
  refine lv_aload_n hx hb d_M_fieldsOf_0 rfl (lv_at hl 0 rfl) ?_
  refine lv_iload_n hx hb d_M_fieldsOf_1 rfl (lv_at hl 1 rfl) ?_
  refine li_callr ((va_runV (As := [.int (iI r)]) (rest := []) ⟨hx, hb, hml, hown, hts⟩ (c_M_baseOf l dC dI kA mo ma mrf mz mls mfp mfm mtx mwd mak mli mlx mat mtk mtf mtt mfa mla mlp mdp msi mpf mpt mdn ca r (by omega)) (cw_M_100 hts rfl rfl ⟨Nat.le_of_ble_eq_true rfl, Nat.le_of_ble_eq_true rfl⟩) (li_preV (va_recv hK hP (ci := 10) (q0 := 0) rfl rfl) (hP.sub [0, 1] rfl) hK hN hG.rd) rfl rfl hl.1 rfl (lv_room (Nat.le_of_ble_eq_true rfl)) d_M_fieldsOf_2 ⟨(by show 0 + 0 ≤ 0; omega), (by show 0 + 0 ≤ 0; omega)⟩).run) ?_
  refine lv_bipush (v := iI 25) hx hb d_M_fieldsOf_5 (by decide) ?_
  refine li_isub hx hb d_M_fieldsOf_7 ?_
  refine lv_bipush (v := iI 12) hx hb d_M_fieldsOf_8 (by decide) ?_
  refine li_idiv hx hb d_M_fieldsOf_10 (by omega) (by omega) (by omega) (by omega) ?_
  exact fin _ _ _ (by rfl) d_M_fieldsOf_11
theorem d_M_fourAt_0 : decode b_M_fourAt 0 = .ok (.iconst 0, 1) := by decide +kernel
theorem d_M_fourAt_1 : decode b_M_fourAt 1 = .ok (.istore_n 3, 1) := by decide +kernel
theorem d_M_fourAt_2 : decode b_M_fourAt 2 = .ok (.iload_n 1, 1) := by decide +kernel
theorem d_M_fourAt_3 : decode b_M_fourAt 3 = .ok (.istore 4, 2) := by decide +kernel
theorem d_M_fourAt_5 : decode b_M_fourAt 5 = .ok (.iload 4, 2) := by decide +kernel
theorem d_M_fourAt_7 : decode b_M_fourAt 7 = .ok (.iload_n 2, 1) := by decide +kernel
theorem d_M_fourAt_8 : decode b_M_fourAt 8 = .ok (.if_icmp .ge 40, 3) := by decide +kernel
theorem d_M_fourAt_11 : decode b_M_fourAt 11 = .ok (.aload_n 0, 1) := by decide +kernel
theorem d_M_fourAt_12 : decode b_M_fourAt 12 = .ok (.getfield 13, 3) := by decide +kernel
theorem d_M_fourAt_15 : decode b_M_fourAt 15 = .ok (.iload 4, 2) := by decide +kernel
theorem d_M_fourAt_17 : decode b_M_fourAt 17 = .ok (.iaload, 1) := by decide +kernel
theorem d_M_fourAt_18 : decode b_M_fourAt 18 = .ok (.invokestatic 77, 3) := by decide +kernel
theorem d_M_fourAt_21 : decode b_M_fourAt 21 = .ok (.ifCond .eq 9, 3) := by decide +kernel
theorem d_M_fourAt_24 : decode b_M_fourAt 24 = .ok (.iload_n 3, 1) := by decide +kernel
theorem d_M_fourAt_25 : decode b_M_fourAt 25 = .ok (.iconst 1, 1) := by decide +kernel
theorem d_M_fourAt_26 : decode b_M_fourAt 26 = .ok (.iadd, 1) := by decide +kernel
theorem d_M_fourAt_27 : decode b_M_fourAt 27 = .ok (.goto 4, 3) := by decide +kernel
theorem d_M_fourAt_30 : decode b_M_fourAt 30 = .ok (.iconst 0, 1) := by decide +kernel
theorem d_M_fourAt_31 : decode b_M_fourAt 31 = .ok (.istore_n 3, 1) := by decide +kernel
theorem d_M_fourAt_32 : decode b_M_fourAt 32 = .ok (.iload_n 3, 1) := by decide +kernel
theorem d_M_fourAt_33 : decode b_M_fourAt 33 = .ok (.iconst 4, 1) := by decide +kernel
theorem d_M_fourAt_34 : decode b_M_fourAt 34 = .ok (.if_icmp .ne 8, 3) := by decide +kernel
theorem d_M_fourAt_37 : decode b_M_fourAt 37 = .ok (.iload 4, 2) := by decide +kernel
theorem d_M_fourAt_39 : decode b_M_fourAt 39 = .ok (.iconst 3, 1) := by decide +kernel
theorem d_M_fourAt_40 : decode b_M_fourAt 40 = .ok (.isub, 1) := by decide +kernel
theorem d_M_fourAt_41 : decode b_M_fourAt 41 = .ok (.ireturn, 1) := by decide +kernel
theorem d_M_fourAt_42 : decode b_M_fourAt 42 = .ok (.iinc 4 1, 3) := by decide +kernel
theorem d_M_fourAt_45 : decode b_M_fourAt 45 = .ok (.goto (-40), 3) := by decide +kernel
theorem d_M_fourAt_48 : decode b_M_fourAt 48 = .ok (.iconst (-1), 1) := by decide +kernel
theorem d_M_fourAt_49 : decode b_M_fourAt 49 = .ok (.ireturn, 1) := by decide +kernel
set_option maxHeartbeats 4000000 in
set_option maxRecDepth 100000 in
theorem c_M_fourAt (l : Launch) (dC : Nat → ClassId) (dI : Nat → Nat → Nat) (kA : Nat → ClassId) (mo : Nat) (ma : Nat → Nat) (mrf : Int) (mz : Int) (mls : Int) (mfp : Int) (mfm : Int) (mtx : Int) (mwd : Int) (mak : Int) (mli : Int) (mlx : Int) (mat : Int) (mtk : Int) (mtf : Int) (mtt : Int) (mfa : Int) (mla : Int) (mlp : Int) (mdp : Int) (msi : Int) (mpf : Int) (mpt : Int) (mdn : Bool) (ca : Nat → Int) (x : Int) (y : Int) (hca : C2 ca) (hx0 : 0 ≤ x ∧ x ≤ 4120 ∧ 0 ≤ y ∧ y ≤ 4120) : Met l y_M_fourAt (wsy y_M_fourAt b_M_fourAt 5 (some .int)) (rmd 1 0 0) (li_Pr (dC, dI) CL (TY kA) [.ref mo, .int (iI x), .int (iI y)] (va_P (dC, dI) CL [(mo, .inr (10, [.int (iI mrf), .ref (ma 0), .int (iI mz), .ref (ma 1), .ref (ma 2), .int (iI mls), .int (iI mfp), .int (iI mfm), .ref (ma 3), .int (iI mtx), .ref (ma 4), .ref (ma 5), .int (iI mwd), .ref (ma 6), .ref (ma 7), .int (iI mak), .ref (ma 8), .ref (ma 9), .int (iI mli), .int (iI mlx), .ref (ma 10), .ref (ma 11), .int (iI mat), .int (iI mtk), .int (iI mtf), .int (iI mtt), .int (iI mfa), .int (iI mla), .int (iI mlp), .int (iI mdp), .ref (ma 12), .ref (ma 13), .int (iI msi), .int (iI (bI mdn)), .int (iI mpf), .int (iI mpt)])), (ma 1, .inl (kA 0, 4120, .inl (aI ca)))])) (k2_QcV (.int (iI (fouM ca x y)))) 0 0 (fun _ => False) := by
  refine li_mr (by decide) (Nat.le_of_ble_eq_true rfl) (by rfl) ?_
  intro p e s m args below meth c Q C hP hK hN hG fin ls hl
  obtain ⟨hx, hb, hr, hml, hown, hts, hlocks, hin⟩ := C
  have hown : s.vm.findClass R_M = some m.cls := hown
  have hP : va_P (dC, dI) CL [(mo, .inr (10, [.int (iI mrf), .ref (ma 0), .int (iI mz), .ref (ma 1), .ref (ma 2), .int (iI mls), .int (iI mfp), .int (iI mfm), .ref (ma 3), .int (iI mtx), .ref (ma 4), .ref (ma 5), .int (iI mwd), .ref (ma 6), .ref (ma 7), .int (iI mak), .ref (ma 8), .ref (ma 9), .int (iI mli), .int (iI mlx), .ref (ma 10), .ref (ma 11), .int (iI mat), .int (iI mtk), .int (iI mtf), .int (iI mtt), .int (iI mfa), .int (iI mla), .int (iI mlp), .int (iI mdp), .ref (ma 12), .ref (ma 13), .int (iI msi), .int (iI (bI mdn)), .int (iI mpf), .int (iI mpt)])), (ma 1, .inl (kA 0, 4120, .inl (aI ca)))] s.heap := hP
  have hl : lv_has ls 5 [(0, .ref mo), (1, .int (iI x)), (2, .int (iI y))] := hl
  have K_5 : ∀ (nn : Nat) (v : Int) (z : Int), (x ≤ z ∧ (z ≤ x ∨ z ≤ y) ∧ 0 ≤ v ∧ v ≤ 3) → (fouL ca (y - z).toNat z v = fouM ca x y) → ((y - z).toNat < nn) → ∀ ls : Array Slot, lv_has ls 5 [(0, .ref mo), (1, .int (iI x)), (2, .int (iI y)), (3, .int (iI v)), (4, .int (iI z))] → W p l e (rmd 1 0 0) s m args below meth c s.heap [] 0 0 Q (F0 m 5 ls []) := by
    intro nn
    induction nn with
    | zero => intro v z hz9 hres hm; exact absurd hm (Nat.not_lt_zero _)
    | succ nn ih =>
      intro v z hz9 hres hm ls hl
      refine lv_iload hx hb d_M_fourAt_5 (lv_at hl 4 rfl) ?_
      refine lv_iload_n hx hb d_M_fourAt_7 rfl (lv_at hl 2 rfl) ?_
      refine li_icmp_ge (tgt := 48) hx hb d_M_fourAt_8 (by decide) (by omega) (by omega) (fun c1 => ?_) (fun c1 => ?_)
      · have _q := c1
        refine lv_iconst (v := iI (-1)) hx hb d_M_fourAt_48 rfl ?_
        exact fin _ _ _ (by first | (rw [← hres, show (y - z).toNat = 0 by omega]; rfl) | (rw [← hres, show (y - z).toNat = (y - (z + 1)).toNat + 1 by omega]; simp only [fouL]; rw [fouS_t (by assumption), if_pos (by omega)])) d_M_fourAt_49
      · have _q := c1
        refine lv_aload_n hx hb d_M_fourAt_11 rfl (lv_at hl 0 rfl) ?_
        refine gf_M_13 hx hb hts hown hK hP 0 rfl rfl d_M_fourAt_12 ?_
        refine lv_iload hx hb d_M_fourAt_15 (lv_at hl 4 rfl) ?_
        refine li_iald hx hb hK hP 1 0 rfl rfl (by omega) (by omega) (by omega) d_M_fourAt_17 ?_
        have f2 := hca z.toNat
        refine li_callr ((va_runS (As := [.int (iI (ca z.toNat))]) (rest := []) ⟨hx, hb, hml, hown, hts⟩ (c_M_isDigit l dC dI kA (ca z.toNat) (by omega)) (cw_M_77 hts rfl rfl ⟨Nat.le_of_ble_eq_true rfl, Nat.le_of_ble_eq_true rfl⟩) (li_preS va_Pnil hK hN hG.rd) rfl rfl hl.1 rfl (lv_room (Nat.le_of_ble_eq_true rfl)) d_M_fourAt_18 ⟨(by show 0 + 0 ≤ 0; omega), (by show 0 + 0 ≤ 0; omega)⟩).run) ?_
        refine li_bz (tgt := 30) hx hb d_M_fourAt_21 (by decide) (fun c3 => ?_) (fun c3 => ?_)
        · have _q := c3
          refine lv_iconst (v := iI 0) hx hb d_M_fourAt_30 rfl ?_
          refine lv_istore_n (lv' := [(3, .int (iI 0)), (0, .ref mo), (1, .int (iI x)), (2, .int (iI y)), (4, .int (iI z))]) hx hb d_M_fourAt_31 rfl hl (by decide) rfl (fun ls hl => ?_)
          refine lv_iload_n hx hb d_M_fourAt_32 rfl (lv_at hl 0 rfl) ?_
          refine lv_iconst (v := iI 4) hx hb d_M_fourAt_33 rfl ?_
          refine li_icmp_ne (tgt := 42) hx hb d_M_fourAt_34 (by decide) (by omega) (by omega) (fun c4 => ?_) (fun c4 => ?_)
          · have _q := c4
            obtain ⟨x5, ex5⟩ : ∃ y_9 : Int, y_9 = z + 1 := ⟨_, rfl⟩
            refine lv_iinc (v := iI x5) (lv' := [(4, .int (iI x5)), (3, .int (iI 0)), (0, .ref mo), (1, .int (iI x)), (2, .int (iI y))]) hx hb d_M_fourAt_42 hl (k := 4) rfl (by rw [ex5]; exact iI_add _ _) (by decide) rfl (fun ls hl => ?_)
            refine lv_goto (tgt := 5) hx hb d_M_fourAt_45 (by decide) ?_
            exact ih 0 x5 (by first | omega | (subst_vars; omega)) (by first | rfl | (subst_vars; rw [← hres, show (y - z).toNat = (y - (z + 1)).toNat + 1 by omega]; simp only [fouL]; first | (rw [fouS_t (by assumption), if_neg (by omega)]; done) | (rw [fouS_f (by assumption), if_neg (by omega)]; done))) (by first | omega | (subst_vars; omega)) _ (lv_sub hl [2, 3, 4, 1, 0] rfl)
          · have _q := c4
            exact absurd c4 (by omega)
        · have _q := c3
          refine lv_iload_n hx hb d_M_fourAt_24 rfl (lv_at hl 3 rfl) ?_
          refine lv_iconst (v := iI 1) hx hb d_M_fourAt_25 rfl ?_
          refine li_iadd hx hb d_M_fourAt_26 ?_
          refine lv_goto (tgt := 31) hx hb d_M_fourAt_27 (by decide) ?_
          refine li_nm (fun w1 ew1 => ?_)
          refine lv_istore_n (lv' := [(3, .int (iI w1)), (0, .ref mo), (1, .int (iI x)), (2, .int (iI y)), (4, .int (iI z))]) hx hb d_M_fourAt_31 rfl hl (by decide) rfl (fun ls hl => ?_)
          refine lv_iload_n hx hb d_M_fourAt_32 rfl (lv_at hl 0 rfl) ?_
          refine lv_iconst (v := iI 4) hx hb d_M_fourAt_33 rfl ?_
          refine li_icmp_ne (tgt := 42) hx hb d_M_fourAt_34 (by decide) (by omega) (by omega) (fun c6 => ?_) (fun c6 => ?_)
          · have _q := c6
            obtain ⟨x7, ex7⟩ : ∃ y_9 : Int, y_9 = z + 1 := ⟨_, rfl⟩
            refine lv_iinc (v := iI x7) (lv' := [(4, .int (iI x7)), (3, .int (iI w1)), (0, .ref mo), (1, .int (iI x)), (2, .int (iI y))]) hx hb d_M_fourAt_42 hl (k := 4) rfl (by rw [ex7]; exact iI_add _ _) (by decide) rfl (fun ls hl => ?_)
            refine lv_goto (tgt := 5) hx hb d_M_fourAt_45 (by decide) ?_
            exact ih w1 x7 (by first | omega | (subst_vars; omega)) (by first | rfl | (subst_vars; rw [← hres, show (y - z).toNat = (y - (z + 1)).toNat + 1 by omega]; simp only [fouL]; first | (rw [fouS_t (by assumption), if_neg (by omega)]; done) | (rw [fouS_f (by assumption), if_neg (by omega)]; done))) (by first | omega | (subst_vars; omega)) _ (lv_sub hl [2, 3, 4, 1, 0] rfl)
          · have _q := c6
            refine lv_iload hx hb d_M_fourAt_37 (lv_at hl 4 rfl) ?_
            refine lv_iconst (v := iI 3) hx hb d_M_fourAt_39 rfl ?_
            refine li_isub hx hb d_M_fourAt_40 ?_
            exact fin _ _ _ (by first | (rw [← hres, show (y - z).toNat = 0 by omega]; rfl) | (rw [← hres, show (y - z).toNat = (y - (z + 1)).toNat + 1 by omega]; simp only [fouL]; rw [fouS_t (by assumption), if_pos (by omega)])) d_M_fourAt_41
  refine lv_iconst (v := iI 0) hx hb d_M_fourAt_0 rfl ?_
  refine lv_istore_n (lv' := [(3, .int (iI 0)), (0, .ref mo), (1, .int (iI x)), (2, .int (iI y))]) hx hb d_M_fourAt_1 rfl hl (by decide) rfl (fun ls hl => ?_)
  refine lv_iload_n hx hb d_M_fourAt_2 rfl (lv_at hl 2 rfl) ?_
  refine lv_istore (lv' := [(4, .int (iI x)), (3, .int (iI 0)), (0, .ref mo), (1, .int (iI x)), (2, .int (iI y))]) hx hb d_M_fourAt_3 hl (by decide) rfl (fun ls hl => ?_)
  exact K_5 ((y - x).toNat + 1) 0 x (by first | omega | (subst_vars; omega)) (by first | rfl | (subst_vars; rw [← hres, show (y - z).toNat = (y - (z + 1)).toNat + 1 by omega]; simp only [fouL]; first | (rw [fouS_t (by assumption), if_neg (by omega)]; done) | (rw [fouS_f (by assumption), if_neg (by omega)]; done))) (Nat.lt_succ_self _) _ (lv_sub hl [2, 3, 4, 1, 0] rfl)
theorem d_M_beginOf_0 : decode b_M_beginOf 0 = .ok (.iload_n 1, 1) := by decide +kernel
theorem d_M_beginOf_1 : decode b_M_beginOf 1 = .ok (.istore 4, 2) := by decide +kernel
theorem d_M_beginOf_3 : decode b_M_beginOf 3 = .ok (.iload 4, 2) := by decide +kernel
theorem d_M_beginOf_5 : decode b_M_beginOf 5 = .ok (.iload_n 2, 1) := by decide +kernel
theorem d_M_beginOf_6 : decode b_M_beginOf 6 = .ok (.if_icmp .ge 50, 3) := by decide +kernel
theorem d_M_beginOf_9 : decode b_M_beginOf 9 = .ok (.aload_n 0, 1) := by decide +kernel
theorem d_M_beginOf_10 : decode b_M_beginOf 10 = .ok (.getfield 13, 3) := by decide +kernel
theorem d_M_beginOf_13 : decode b_M_beginOf 13 = .ok (.iload 4, 2) := by decide +kernel
theorem d_M_beginOf_15 : decode b_M_beginOf 15 = .ok (.iaload, 1) := by decide +kernel
theorem d_M_beginOf_16 : decode b_M_beginOf 16 = .ok (.invokestatic 139, 3) := by decide +kernel
theorem d_M_beginOf_19 : decode b_M_beginOf 19 = .ok (.ifCond .ne 37, 3) := by decide +kernel
theorem d_M_beginOf_22 : decode b_M_beginOf 22 = .ok (.iload_n 3, 1) := by decide +kernel
theorem d_M_beginOf_23 : decode b_M_beginOf 23 = .ok (.ifCond .eq 27, 3) := by decide +kernel
theorem d_M_beginOf_26 : decode b_M_beginOf 26 = .ok (.aload_n 0, 1) := by decide +kernel
theorem d_M_beginOf_27 : decode b_M_beginOf 27 = .ok (.getfield 13, 3) := by decide +kernel
theorem d_M_beginOf_30 : decode b_M_beginOf 30 = .ok (.iload 4, 2) := by decide +kernel
theorem d_M_beginOf_32 : decode b_M_beginOf 32 = .ok (.iaload, 1) := by decide +kernel
theorem d_M_beginOf_33 : decode b_M_beginOf 33 = .ok (.bipush 42, 2) := by decide +kernel
theorem d_M_beginOf_35 : decode b_M_beginOf 35 = .ok (.if_icmp .eq 21, 3) := by decide +kernel
theorem d_M_beginOf_38 : decode b_M_beginOf 38 = .ok (.aload_n 0, 1) := by decide +kernel
theorem d_M_beginOf_39 : decode b_M_beginOf 39 = .ok (.getfield 13, 3) := by decide +kernel
theorem d_M_beginOf_42 : decode b_M_beginOf 42 = .ok (.iload 4, 2) := by decide +kernel
theorem d_M_beginOf_44 : decode b_M_beginOf 44 = .ok (.iaload, 1) := by decide +kernel
theorem d_M_beginOf_45 : decode b_M_beginOf 45 = .ok (.bipush 63, 2) := by decide +kernel
theorem d_M_beginOf_47 : decode b_M_beginOf 47 = .ok (.if_icmp .eq 9, 3) := by decide +kernel
theorem d_M_beginOf_50 : decode b_M_beginOf 50 = .ok (.iinc 4 1, 3) := by decide +kernel
theorem d_M_beginOf_53 : decode b_M_beginOf 53 = .ok (.goto (-50), 3) := by decide +kernel
theorem d_M_beginOf_56 : decode b_M_beginOf 56 = .ok (.iload 4, 2) := by decide +kernel
theorem d_M_beginOf_58 : decode b_M_beginOf 58 = .ok (.ireturn, 1) := by decide +kernel
set_option maxHeartbeats 4000000 in
set_option maxRecDepth 100000 in
theorem c_M_beginOf (l : Launch) (dC : Nat → ClassId) (dI : Nat → Nat → Nat) (kA : Nat → ClassId) (mo : Nat) (ma : Nat → Nat) (mrf : Int) (mz : Int) (mls : Int) (mfp : Int) (mfm : Int) (mtx : Int) (mwd : Int) (mak : Int) (mli : Int) (mlx : Int) (mat : Int) (mtk : Int) (mtf : Int) (mtt : Int) (mfa : Int) (mla : Int) (mlp : Int) (mdp : Int) (msi : Int) (mpf : Int) (mpt : Int) (mdn : Bool) (ca : Nat → Int) (x : Int) (y : Int) (b : Bool) (hca : C2 ca) (hx0 : 0 ≤ x ∧ x ≤ 4120 ∧ 0 ≤ y ∧ y ≤ 4120) : Met l y_M_beginOf (wsy y_M_beginOf b_M_beginOf 5 (some .int)) (rmd 2 0 0) (li_Pr (dC, dI) CL (TY kA) [.ref mo, .int (iI x), .int (iI y), .int (iI (bI b))] (va_P (dC, dI) CL [(mo, .inr (10, [.int (iI mrf), .ref (ma 0), .int (iI mz), .ref (ma 1), .ref (ma 2), .int (iI mls), .int (iI mfp), .int (iI mfm), .ref (ma 3), .int (iI mtx), .ref (ma 4), .ref (ma 5), .int (iI mwd), .ref (ma 6), .ref (ma 7), .int (iI mak), .ref (ma 8), .ref (ma 9), .int (iI mli), .int (iI mlx), .ref (ma 10), .ref (ma 11), .int (iI mat), .int (iI mtk), .int (iI mtf), .int (iI mtt), .int (iI mfa), .int (iI mla), .int (iI mlp), .int (iI mdp), .ref (ma 12), .ref (ma 13), .int (iI msi), .int (iI (bI mdn)), .int (iI mpf), .int (iI mpt)])), (ma 1, .inl (kA 0, 4120, .inl (aI ca)))])) (k2_QcV (.int (iI (bgM ca b x y)))) 0 0 (fun _ => False) := by
  refine li_mr (by decide) (Nat.le_of_ble_eq_true rfl) (by rfl) ?_
  intro p e s m args below meth c Q C hP hK hN hG fin ls hl
  obtain ⟨hx, hb, hr, hml, hown, hts, hlocks, hin⟩ := C
  have hown : s.vm.findClass R_M = some m.cls := hown
  have hP : va_P (dC, dI) CL [(mo, .inr (10, [.int (iI mrf), .ref (ma 0), .int (iI mz), .ref (ma 1), .ref (ma 2), .int (iI mls), .int (iI mfp), .int (iI mfm), .ref (ma 3), .int (iI mtx), .ref (ma 4), .ref (ma 5), .int (iI mwd), .ref (ma 6), .ref (ma 7), .int (iI mak), .ref (ma 8), .ref (ma 9), .int (iI mli), .int (iI mlx), .ref (ma 10), .ref (ma 11), .int (iI mat), .int (iI mtk), .int (iI mtf), .int (iI mtt), .int (iI mfa), .int (iI mla), .int (iI mlp), .int (iI mdp), .ref (ma 12), .ref (ma 13), .int (iI msi), .int (iI (bI mdn)), .int (iI mpf), .int (iI mpt)])), (ma 1, .inl (kA 0, 4120, .inl (aI ca)))] s.heap := hP
  have hl : lv_has ls 5 [(0, .ref mo), (1, .int (iI x)), (2, .int (iI y)), (3, .int (iI (bI b)))] := hl
  have K_3 : ∀ (nn : Nat) (z : Int), (x ≤ z ∧ (z ≤ x ∨ z ≤ y)) → (bgL ca b (y - z).toNat z = bgM ca b x y) → ((y - z).toNat < nn) → ∀ ls : Array Slot, lv_has ls 5 [(0, .ref mo), (1, .int (iI x)), (2, .int (iI y)), (3, .int (iI (bI b))), (4, .int (iI z))] → W p l e (rmd 2 0 0) s m args below meth c s.heap [] 0 0 Q (F0 m 3 ls []) := by
    intro nn
    induction nn with
    | zero => intro z hz9 hres hm; exact absurd hm (Nat.not_lt_zero _)
    | succ nn ih =>
      intro z hz9 hres hm ls hl
      refine lv_iload hx hb d_M_beginOf_3 (lv_at hl 4 rfl) ?_
      refine lv_iload_n hx hb d_M_beginOf_5 rfl (lv_at hl 2 rfl) ?_
      refine li_icmp_ge (tgt := 56) hx hb d_M_beginOf_6 (by decide) (by omega) (by omega) (fun c1 => ?_) (fun c1 => ?_)
      · have _q := c1
        refine lv_iload hx hb d_M_beginOf_56 (lv_at hl 4 rfl) ?_
        exact fin _ _ _ (by first | (rw [← hres, show (y - z).toNat = 0 by omega]; rfl) | (rw [← hres, show (y - z).toNat = (y - (z + 1)).toNat + 1 by omega]; simp only [bgL]; rw [if_pos (by first | (exact isLw_t1 (by assumption)) | (exact isLw_t2 (by assumption) (Or.inl (by assumption))) | (exact isLw_t2 (by assumption) (Or.inr (by assumption))))])) d_M_beginOf_58
      · have _q := c1
        refine lv_aload_n hx hb d_M_beginOf_9 rfl (lv_at hl 0 rfl) ?_
        refine gf_M_13 hx hb hts hown hK hP 0 rfl rfl d_M_beginOf_10 ?_
        refine lv_iload hx hb d_M_beginOf_13 (lv_at hl 4 rfl) ?_
        refine li_iald hx hb hK hP 1 0 rfl rfl (by omega) (by omega) (by omega) d_M_beginOf_15 ?_
        have f2 := hca z.toNat
        refine li_callr ((va_runS (As := [.int (iI (ca z.toNat))]) (rest := []) ⟨hx, hb, hml, hown, hts⟩ (c_M_isLetter l dC dI kA (ca z.toNat) (by omega)) (cw_M_139 hts rfl rfl ⟨Nat.le_of_ble_eq_true rfl, Nat.le_of_ble_eq_true rfl⟩) (li_preS va_Pnil hK hN hG.rd) rfl rfl hl.1 rfl (lv_room (Nat.le_of_ble_eq_true rfl)) d_M_beginOf_16 ⟨(by show 0 + 0 ≤ 0; omega), (by show 0 + 0 ≤ 0; omega)⟩).run) ?_
        refine li_bnz (tgt := 56) hx hb d_M_beginOf_19 (by decide) (fun c3 => ?_) (fun c3 => ?_)
        · have _q := c3
          refine lv_iload hx hb d_M_beginOf_56 (lv_at hl 4 rfl) ?_
          exact fin _ _ _ (by first | (rw [← hres, show (y - z).toNat = 0 by omega]; rfl) | (rw [← hres, show (y - z).toNat = (y - (z + 1)).toNat + 1 by omega]; simp only [bgL]; rw [if_pos (by first | (exact isLw_t1 (by assumption)) | (exact isLw_t2 (by assumption) (Or.inl (by assumption))) | (exact isLw_t2 (by assumption) (Or.inr (by assumption))))])) d_M_beginOf_58
        · have _q := c3
          refine lv_iload_n hx hb d_M_beginOf_22 rfl (lv_at hl 3 rfl) ?_
          refine li_bz (tgt := 50) hx hb d_M_beginOf_23 (by decide) (fun c4 => ?_) (fun c4 => ?_)
          · have _q := c4
            obtain ⟨x_z, ex_z⟩ : ∃ y_9 : Int, y_9 = z + 1 := ⟨_, rfl⟩
            refine lv_iinc (v := iI x_z) (lv' := [(4, .int (iI x_z)), (0, .ref mo), (1, .int (iI x)), (2, .int (iI y)), (3, .int (iI (bI b)))]) hx hb d_M_beginOf_50 hl (k := 4) rfl (by rw [ex_z]; exact iI_add _ _) (by decide) rfl (fun ls hl => ?_)
            refine lv_goto (tgt := 3) hx hb d_M_beginOf_53 (by decide) ?_
            exact ih x_z (by first | omega | (subst_vars; omega)) (by first | rfl | (subst ex_z; rw [← hres, show (y - z).toNat = (y - (z + 1)).toNat + 1 by omega]; simp only [bgL]; rw [if_neg (by first | (exact isLw_f1 (by assumption) (by assumption)) | (exact isLw_f2 (by assumption) (by assumption) (by assumption)))])) (by first | omega | (subst_vars; omega)) _ (lv_sub hl [1, 2, 3, 4, 0] rfl)
          · have _q := c4
            refine lv_aload_n hx hb d_M_beginOf_26 rfl (lv_at hl 0 rfl) ?_
            refine gf_M_13 hx hb hts hown hK hP 0 rfl rfl d_M_beginOf_27 ?_
            refine lv_iload hx hb d_M_beginOf_30 (lv_at hl 4 rfl) ?_
            refine li_iald hx hb hK hP 1 0 rfl rfl (by omega) (by omega) (by omega) d_M_beginOf_32 ?_
            have f5 := hca z.toNat
            refine lv_bipush (v := iI 42) hx hb d_M_beginOf_33 (by decide) ?_
            refine li_icmp_eq (tgt := 56) hx hb d_M_beginOf_35 (by decide) (by omega) (by omega) (fun c6 => ?_) (fun c6 => ?_)
            · have _q := c6
              refine lv_iload hx hb d_M_beginOf_56 (lv_at hl 4 rfl) ?_
              exact fin _ _ _ (by first | (rw [← hres, show (y - z).toNat = 0 by omega]; rfl) | (rw [← hres, show (y - z).toNat = (y - (z + 1)).toNat + 1 by omega]; simp only [bgL]; rw [if_pos (by first | (exact isLw_t1 (by assumption)) | (exact isLw_t2 (by assumption) (Or.inl (by assumption))) | (exact isLw_t2 (by assumption) (Or.inr (by assumption))))])) d_M_beginOf_58
            · have _q := c6
              refine lv_aload_n hx hb d_M_beginOf_38 rfl (lv_at hl 0 rfl) ?_
              refine gf_M_13 hx hb hts hown hK hP 0 rfl rfl d_M_beginOf_39 ?_
              refine lv_iload hx hb d_M_beginOf_42 (lv_at hl 4 rfl) ?_
              refine li_iald hx hb hK hP 1 0 rfl rfl (by omega) (by omega) (by omega) d_M_beginOf_44 ?_
              have f7 := hca z.toNat
              refine lv_bipush (v := iI 63) hx hb d_M_beginOf_45 (by decide) ?_
              refine li_icmp_eq (tgt := 56) hx hb d_M_beginOf_47 (by decide) (by omega) (by omega) (fun c8 => ?_) (fun c8 => ?_)
              · have _q := c8
                refine lv_iload hx hb d_M_beginOf_56 (lv_at hl 4 rfl) ?_
                exact fin _ _ _ (by first | (rw [← hres, show (y - z).toNat = 0 by omega]; rfl) | (rw [← hres, show (y - z).toNat = (y - (z + 1)).toNat + 1 by omega]; simp only [bgL]; rw [if_pos (by first | (exact isLw_t1 (by assumption)) | (exact isLw_t2 (by assumption) (Or.inl (by assumption))) | (exact isLw_t2 (by assumption) (Or.inr (by assumption))))])) d_M_beginOf_58
              · have _q := c8
                obtain ⟨x_z, ex_z⟩ : ∃ y_9 : Int, y_9 = z + 1 := ⟨_, rfl⟩
                refine lv_iinc (v := iI x_z) (lv' := [(4, .int (iI x_z)), (0, .ref mo), (1, .int (iI x)), (2, .int (iI y)), (3, .int (iI (bI b)))]) hx hb d_M_beginOf_50 hl (k := 4) rfl (by rw [ex_z]; exact iI_add _ _) (by decide) rfl (fun ls hl => ?_)
                refine lv_goto (tgt := 3) hx hb d_M_beginOf_53 (by decide) ?_
                exact ih x_z (by first | omega | (subst_vars; omega)) (by first | rfl | (subst ex_z; rw [← hres, show (y - z).toNat = (y - (z + 1)).toNat + 1 by omega]; simp only [bgL]; rw [if_neg (by first | (exact isLw_f1 (by assumption) (by assumption)) | (exact isLw_f2 (by assumption) (by assumption) (by assumption)))])) (by first | omega | (subst_vars; omega)) _ (lv_sub hl [1, 2, 3, 4, 0] rfl)
  refine lv_iload_n hx hb d_M_beginOf_0 rfl (lv_at hl 1 rfl) ?_
  refine lv_istore (lv' := [(4, .int (iI x)), (0, .ref mo), (1, .int (iI x)), (2, .int (iI y)), (3, .int (iI (bI b)))]) hx hb d_M_beginOf_1 hl (by decide) rfl (fun ls hl => ?_)
  exact K_3 ((y - x).toNat + 1) x (by first | omega | (subst_vars; omega)) (by first | rfl | (subst ex_z; rw [← hres, show (y - z).toNat = (y - (z + 1)).toNat + 1 by omega]; simp only [bgL]; rw [if_neg (by first | (exact isLw_f1 (by assumption) (by assumption)) | (exact isLw_f2 (by assumption) (by assumption) (by assumption)))])) (Nat.lt_succ_self _) _ (lv_sub hl [1, 2, 3, 4, 0] rfl)
theorem d_M_endOf_0 : decode b_M_endOf 0 = .ok (.iload_n 1, 1) := by decide +kernel
theorem d_M_endOf_1 : decode b_M_endOf 1 = .ok (.istore 4, 2) := by decide +kernel
theorem d_M_endOf_3 : decode b_M_endOf 3 = .ok (.iload 4, 2) := by decide +kernel
theorem d_M_endOf_5 : decode b_M_endOf 5 = .ok (.iload_n 2, 1) := by decide +kernel
theorem d_M_endOf_6 : decode b_M_endOf 6 = .ok (.if_icmp .ge 50, 3) := by decide +kernel
theorem d_M_endOf_9 : decode b_M_endOf 9 = .ok (.aload_n 0, 1) := by decide +kernel
theorem d_M_endOf_10 : decode b_M_endOf 10 = .ok (.getfield 13, 3) := by decide +kernel
theorem d_M_endOf_13 : decode b_M_endOf 13 = .ok (.iload 4, 2) := by decide +kernel
theorem d_M_endOf_15 : decode b_M_endOf 15 = .ok (.iaload, 1) := by decide +kernel
theorem d_M_endOf_16 : decode b_M_endOf 16 = .ok (.invokestatic 139, 3) := by decide +kernel
theorem d_M_endOf_19 : decode b_M_endOf 19 = .ok (.ifCond .ne 31, 3) := by decide +kernel
theorem d_M_endOf_22 : decode b_M_endOf 22 = .ok (.iload_n 3, 1) := by decide +kernel
theorem d_M_endOf_23 : decode b_M_endOf 23 = .ok (.ifCond .eq 33, 3) := by decide +kernel
theorem d_M_endOf_26 : decode b_M_endOf 26 = .ok (.aload_n 0, 1) := by decide +kernel
theorem d_M_endOf_27 : decode b_M_endOf 27 = .ok (.getfield 13, 3) := by decide +kernel
theorem d_M_endOf_30 : decode b_M_endOf 30 = .ok (.iload 4, 2) := by decide +kernel
theorem d_M_endOf_32 : decode b_M_endOf 32 = .ok (.iaload, 1) := by decide +kernel
theorem d_M_endOf_33 : decode b_M_endOf 33 = .ok (.bipush 42, 2) := by decide +kernel
theorem d_M_endOf_35 : decode b_M_endOf 35 = .ok (.if_icmp .eq 15, 3) := by decide +kernel
theorem d_M_endOf_38 : decode b_M_endOf 38 = .ok (.aload_n 0, 1) := by decide +kernel
theorem d_M_endOf_39 : decode b_M_endOf 39 = .ok (.getfield 13, 3) := by decide +kernel
theorem d_M_endOf_42 : decode b_M_endOf 42 = .ok (.iload 4, 2) := by decide +kernel
theorem d_M_endOf_44 : decode b_M_endOf 44 = .ok (.iaload, 1) := by decide +kernel
theorem d_M_endOf_45 : decode b_M_endOf 45 = .ok (.bipush 63, 2) := by decide +kernel
theorem d_M_endOf_47 : decode b_M_endOf 47 = .ok (.if_icmp .ne 9, 3) := by decide +kernel
theorem d_M_endOf_50 : decode b_M_endOf 50 = .ok (.iinc 4 1, 3) := by decide +kernel
theorem d_M_endOf_53 : decode b_M_endOf 53 = .ok (.goto (-50), 3) := by decide +kernel
theorem d_M_endOf_56 : decode b_M_endOf 56 = .ok (.iload 4, 2) := by decide +kernel
theorem d_M_endOf_58 : decode b_M_endOf 58 = .ok (.ireturn, 1) := by decide +kernel
set_option maxHeartbeats 4000000 in
set_option maxRecDepth 100000 in
theorem c_M_endOf (l : Launch) (dC : Nat → ClassId) (dI : Nat → Nat → Nat) (kA : Nat → ClassId) (mo : Nat) (ma : Nat → Nat) (mrf : Int) (mz : Int) (mls : Int) (mfp : Int) (mfm : Int) (mtx : Int) (mwd : Int) (mak : Int) (mli : Int) (mlx : Int) (mat : Int) (mtk : Int) (mtf : Int) (mtt : Int) (mfa : Int) (mla : Int) (mlp : Int) (mdp : Int) (msi : Int) (mpf : Int) (mpt : Int) (mdn : Bool) (ca : Nat → Int) (x : Int) (y : Int) (b : Bool) (hca : C2 ca) (hx0 : 0 ≤ x ∧ x ≤ 4120 ∧ 0 ≤ y ∧ y ≤ 4120) : Met l y_M_endOf (wsy y_M_endOf b_M_endOf 5 (some .int)) (rmd 2 0 0) (li_Pr (dC, dI) CL (TY kA) [.ref mo, .int (iI x), .int (iI y), .int (iI (bI b))] (va_P (dC, dI) CL [(mo, .inr (10, [.int (iI mrf), .ref (ma 0), .int (iI mz), .ref (ma 1), .ref (ma 2), .int (iI mls), .int (iI mfp), .int (iI mfm), .ref (ma 3), .int (iI mtx), .ref (ma 4), .ref (ma 5), .int (iI mwd), .ref (ma 6), .ref (ma 7), .int (iI mak), .ref (ma 8), .ref (ma 9), .int (iI mli), .int (iI mlx), .ref (ma 10), .ref (ma 11), .int (iI mat), .int (iI mtk), .int (iI mtf), .int (iI mtt), .int (iI mfa), .int (iI mla), .int (iI mlp), .int (iI mdp), .ref (ma 12), .ref (ma 13), .int (iI msi), .int (iI (bI mdn)), .int (iI mpf), .int (iI mpt)])), (ma 1, .inl (kA 0, 4120, .inl (aI ca)))])) (k2_QcV (.int (iI (edM ca b x y)))) 0 0 (fun _ => False) := by
  refine li_mr (by decide) (Nat.le_of_ble_eq_true rfl) (by rfl) ?_
  intro p e s m args below meth c Q C hP hK hN hG fin ls hl
  obtain ⟨hx, hb, hr, hml, hown, hts, hlocks, hin⟩ := C
  have hown : s.vm.findClass R_M = some m.cls := hown
  have hP : va_P (dC, dI) CL [(mo, .inr (10, [.int (iI mrf), .ref (ma 0), .int (iI mz), .ref (ma 1), .ref (ma 2), .int (iI mls), .int (iI mfp), .int (iI mfm), .ref (ma 3), .int (iI mtx), .ref (ma 4), .ref (ma 5), .int (iI mwd), .ref (ma 6), .ref (ma 7), .int (iI mak), .ref (ma 8), .ref (ma 9), .int (iI mli), .int (iI mlx), .ref (ma 10), .ref (ma 11), .int (iI mat), .int (iI mtk), .int (iI mtf), .int (iI mtt), .int (iI mfa), .int (iI mla), .int (iI mlp), .int (iI mdp), .ref (ma 12), .ref (ma 13), .int (iI msi), .int (iI (bI mdn)), .int (iI mpf), .int (iI mpt)])), (ma 1, .inl (kA 0, 4120, .inl (aI ca)))] s.heap := hP
  have hl : lv_has ls 5 [(0, .ref mo), (1, .int (iI x)), (2, .int (iI y)), (3, .int (iI (bI b)))] := hl
  have K_3 : ∀ (nn : Nat) (z : Int), (x ≤ z ∧ (z ≤ x ∨ z ≤ y)) → (edL ca b (y - z).toNat z = edM ca b x y) → ((y - z).toNat < nn) → ∀ ls : Array Slot, lv_has ls 5 [(0, .ref mo), (1, .int (iI x)), (2, .int (iI y)), (3, .int (iI (bI b))), (4, .int (iI z))] → W p l e (rmd 2 0 0) s m args below meth c s.heap [] 0 0 Q (F0 m 3 ls []) := by
    intro nn
    induction nn with
    | zero => intro z hz9 hres hm; exact absurd hm (Nat.not_lt_zero _)
    | succ nn ih =>
      intro z hz9 hres hm ls hl
      refine lv_iload hx hb d_M_endOf_3 (lv_at hl 4 rfl) ?_
      refine lv_iload_n hx hb d_M_endOf_5 rfl (lv_at hl 2 rfl) ?_
      refine li_icmp_ge (tgt := 56) hx hb d_M_endOf_6 (by decide) (by omega) (by omega) (fun c1 => ?_) (fun c1 => ?_)
      · have _q := c1
        refine lv_iload hx hb d_M_endOf_56 (lv_at hl 4 rfl) ?_
        exact fin _ _ _ (by first | (rw [← hres, show (y - z).toNat = 0 by omega]; rfl) | (rw [← hres, show (y - z).toNat = (y - (z + 1)).toNat + 1 by omega]; simp only [edL]; rw [if_neg (by first | (exact isLw_f1 (by assumption) (by assumption)) | (exact isLw_f2 (by assumption) (by assumption) (by assumption)))])) d_M_endOf_58
      · have _q := c1
        refine lv_aload_n hx hb d_M_endOf_9 rfl (lv_at hl 0 rfl) ?_
        refine gf_M_13 hx hb hts hown hK hP 0 rfl rfl d_M_endOf_10 ?_
        refine lv_iload hx hb d_M_endOf_13 (lv_at hl 4 rfl) ?_
        refine li_iald hx hb hK hP 1 0 rfl rfl (by omega) (by omega) (by omega) d_M_endOf_15 ?_
        have f2 := hca z.toNat
        refine li_callr ((va_runS (As := [.int (iI (ca z.toNat))]) (rest := []) ⟨hx, hb, hml, hown, hts⟩ (c_M_isLetter l dC dI kA (ca z.toNat) (by omega)) (cw_M_139 hts rfl rfl ⟨Nat.le_of_ble_eq_true rfl, Nat.le_of_ble_eq_true rfl⟩) (li_preS va_Pnil hK hN hG.rd) rfl rfl hl.1 rfl (lv_room (Nat.le_of_ble_eq_true rfl)) d_M_endOf_16 ⟨(by show 0 + 0 ≤ 0; omega), (by show 0 + 0 ≤ 0; omega)⟩).run) ?_
        refine li_bnz (tgt := 50) hx hb d_M_endOf_19 (by decide) (fun c3 => ?_) (fun c3 => ?_)
        · have _q := c3
          obtain ⟨x_z, ex_z⟩ : ∃ y_9 : Int, y_9 = z + 1 := ⟨_, rfl⟩
          refine lv_iinc (v := iI x_z) (lv' := [(4, .int (iI x_z)), (0, .ref mo), (1, .int (iI x)), (2, .int (iI y)), (3, .int (iI (bI b)))]) hx hb d_M_endOf_50 hl (k := 4) rfl (by rw [ex_z]; exact iI_add _ _) (by decide) rfl (fun ls hl => ?_)
          refine lv_goto (tgt := 3) hx hb d_M_endOf_53 (by decide) ?_
          exact ih x_z (by first | omega | (subst_vars; omega)) (by first | rfl | (subst ex_z; rw [← hres, show (y - z).toNat = (y - (z + 1)).toNat + 1 by omega]; simp only [edL]; rw [if_pos (by first | (exact isLw_t1 (by assumption)) | (exact isLw_t2 (by assumption) (Or.inl (by assumption))) | (exact isLw_t2 (by assumption) (Or.inr (by assumption))))])) (by first | omega | (subst_vars; omega)) _ (lv_sub hl [1, 2, 3, 4, 0] rfl)
        · have _q := c3
          refine lv_iload_n hx hb d_M_endOf_22 rfl (lv_at hl 3 rfl) ?_
          refine li_bz (tgt := 56) hx hb d_M_endOf_23 (by decide) (fun c4 => ?_) (fun c4 => ?_)
          · have _q := c4
            refine lv_iload hx hb d_M_endOf_56 (lv_at hl 4 rfl) ?_
            exact fin _ _ _ (by first | (rw [← hres, show (y - z).toNat = 0 by omega]; rfl) | (rw [← hres, show (y - z).toNat = (y - (z + 1)).toNat + 1 by omega]; simp only [edL]; rw [if_neg (by first | (exact isLw_f1 (by assumption) (by assumption)) | (exact isLw_f2 (by assumption) (by assumption) (by assumption)))])) d_M_endOf_58
          · have _q := c4
            refine lv_aload_n hx hb d_M_endOf_26 rfl (lv_at hl 0 rfl) ?_
            refine gf_M_13 hx hb hts hown hK hP 0 rfl rfl d_M_endOf_27 ?_
            refine lv_iload hx hb d_M_endOf_30 (lv_at hl 4 rfl) ?_
            refine li_iald hx hb hK hP 1 0 rfl rfl (by omega) (by omega) (by omega) d_M_endOf_32 ?_
            have f5 := hca z.toNat
            refine lv_bipush (v := iI 42) hx hb d_M_endOf_33 (by decide) ?_
            refine li_icmp_eq (tgt := 50) hx hb d_M_endOf_35 (by decide) (by omega) (by omega) (fun c6 => ?_) (fun c6 => ?_)
            · have _q := c6
              obtain ⟨x_z, ex_z⟩ : ∃ y_9 : Int, y_9 = z + 1 := ⟨_, rfl⟩
              refine lv_iinc (v := iI x_z) (lv' := [(4, .int (iI x_z)), (0, .ref mo), (1, .int (iI x)), (2, .int (iI y)), (3, .int (iI (bI b)))]) hx hb d_M_endOf_50 hl (k := 4) rfl (by rw [ex_z]; exact iI_add _ _) (by decide) rfl (fun ls hl => ?_)
              refine lv_goto (tgt := 3) hx hb d_M_endOf_53 (by decide) ?_
              exact ih x_z (by first | omega | (subst_vars; omega)) (by first | rfl | (subst ex_z; rw [← hres, show (y - z).toNat = (y - (z + 1)).toNat + 1 by omega]; simp only [edL]; rw [if_pos (by first | (exact isLw_t1 (by assumption)) | (exact isLw_t2 (by assumption) (Or.inl (by assumption))) | (exact isLw_t2 (by assumption) (Or.inr (by assumption))))])) (by first | omega | (subst_vars; omega)) _ (lv_sub hl [1, 2, 3, 4, 0] rfl)
            · have _q := c6
              refine lv_aload_n hx hb d_M_endOf_38 rfl (lv_at hl 0 rfl) ?_
              refine gf_M_13 hx hb hts hown hK hP 0 rfl rfl d_M_endOf_39 ?_
              refine lv_iload hx hb d_M_endOf_42 (lv_at hl 4 rfl) ?_
              refine li_iald hx hb hK hP 1 0 rfl rfl (by omega) (by omega) (by omega) d_M_endOf_44 ?_
              have f7 := hca z.toNat
              refine lv_bipush (v := iI 63) hx hb d_M_endOf_45 (by decide) ?_
              refine li_icmp_ne (tgt := 56) hx hb d_M_endOf_47 (by decide) (by omega) (by omega) (fun c8 => ?_) (fun c8 => ?_)
              · have _q := c8
                refine lv_iload hx hb d_M_endOf_56 (lv_at hl 4 rfl) ?_
                exact fin _ _ _ (by first | (rw [← hres, show (y - z).toNat = 0 by omega]; rfl) | (rw [← hres, show (y - z).toNat = (y - (z + 1)).toNat + 1 by omega]; simp only [edL]; rw [if_neg (by first | (exact isLw_f1 (by assumption) (by assumption)) | (exact isLw_f2 (by assumption) (by assumption) (by assumption)))])) d_M_endOf_58
              · have _q := c8
                obtain ⟨x_z, ex_z⟩ : ∃ y_9 : Int, y_9 = z + 1 := ⟨_, rfl⟩
                refine lv_iinc (v := iI x_z) (lv' := [(4, .int (iI x_z)), (0, .ref mo), (1, .int (iI x)), (2, .int (iI y)), (3, .int (iI (bI b)))]) hx hb d_M_endOf_50 hl (k := 4) rfl (by rw [ex_z]; exact iI_add _ _) (by decide) rfl (fun ls hl => ?_)
                refine lv_goto (tgt := 3) hx hb d_M_endOf_53 (by decide) ?_
                exact ih x_z (by first | omega | (subst_vars; omega)) (by first | rfl | (subst ex_z; rw [← hres, show (y - z).toNat = (y - (z + 1)).toNat + 1 by omega]; simp only [edL]; rw [if_pos (by first | (exact isLw_t1 (by assumption)) | (exact isLw_t2 (by assumption) (Or.inl (by assumption))) | (exact isLw_t2 (by assumption) (Or.inr (by assumption))))])) (by first | omega | (subst_vars; omega)) _ (lv_sub hl [1, 2, 3, 4, 0] rfl)
  refine lv_iload_n hx hb d_M_endOf_0 rfl (lv_at hl 1 rfl) ?_
  refine lv_istore (lv' := [(4, .int (iI x)), (0, .ref mo), (1, .int (iI x)), (2, .int (iI y)), (3, .int (iI (bI b)))]) hx hb d_M_endOf_1 hl (by decide) rfl (fun ls hl => ?_)
  exact K_3 ((y - x).toNat + 1) x (by first | omega | (subst_vars; omega)) (by first | rfl | (subst ex_z; rw [← hres, show (y - z).toNat = (y - (z + 1)).toNat + 1 by omega]; simp only [edL]; rw [if_pos (by first | (exact isLw_t1 (by assumption)) | (exact isLw_t2 (by assumption) (Or.inl (by assumption))) | (exact isLw_t2 (by assumption) (Or.inr (by assumption))))])) (Nat.lt_succ_self _) _ (lv_sub hl [1, 2, 3, 4, 0] rfl)
theorem d_M_compareWords_0 : decode b_M_compareWords 0 = .ok (.iload_n 2, 1) := by decide +kernel
theorem d_M_compareWords_1 : decode b_M_compareWords 1 = .ok (.iload_n 1, 1) := by decide +kernel
theorem d_M_compareWords_2 : decode b_M_compareWords 2 = .ok (.isub, 1) := by decide +kernel
theorem d_M_compareWords_3 : decode b_M_compareWords 3 = .ok (.iload 4, 2) := by decide +kernel
theorem d_M_compareWords_5 : decode b_M_compareWords 5 = .ok (.iload_n 3, 1) := by decide +kernel
theorem d_M_compareWords_6 : decode b_M_compareWords 6 = .ok (.isub, 1) := by decide +kernel
theorem d_M_compareWords_7 : decode b_M_compareWords 7 = .ok (.if_icmp .ge 9, 3) := by decide +kernel
theorem d_M_compareWords_10 : decode b_M_compareWords 10 = .ok (.iload_n 2, 1) := by decide +kernel
theorem d_M_compareWords_11 : decode b_M_compareWords 11 = .ok (.iload_n 1, 1) := by decide +kernel
theorem d_M_compareWords_12 : decode b_M_compareWords 12 = .ok (.isub, 1) := by decide +kernel
theorem d_M_compareWords_13 : decode b_M_compareWords 13 = .ok (.goto 7, 3) := by decide +kernel
theorem d_M_compareWords_16 : decode b_M_compareWords 16 = .ok (.iload 4, 2) := by decide +kernel
theorem d_M_compareWords_18 : decode b_M_compareWords 18 = .ok (.iload_n 3, 1) := by decide +kernel
theorem d_M_compareWords_19 : decode b_M_compareWords 19 = .ok (.isub, 1) := by decide +kernel
theorem d_M_compareWords_20 : decode b_M_compareWords 20 = .ok (.istore 5, 2) := by decide +kernel
theorem d_M_compareWords_22 : decode b_M_compareWords 22 = .ok (.iconst 0, 1) := by decide +kernel
theorem d_M_compareWords_23 : decode b_M_compareWords 23 = .ok (.istore 6, 2) := by decide +kernel
theorem d_M_compareWords_25 : decode b_M_compareWords 25 = .ok (.iload 6, 2) := by decide +kernel
theorem d_M_compareWords_27 : decode b_M_compareWords 27 = .ok (.iload 5, 2) := by decide +kernel
theorem d_M_compareWords_29 : decode b_M_compareWords 29 = .ok (.if_icmp .ge 62, 3) := by decide +kernel
theorem d_M_compareWords_32 : decode b_M_compareWords 32 = .ok (.aload_n 0, 1) := by decide +kernel
theorem d_M_compareWords_33 : decode b_M_compareWords 33 = .ok (.getfield 13, 3) := by decide +kernel
theorem d_M_compareWords_36 : decode b_M_compareWords 36 = .ok (.iload_n 1, 1) := by decide +kernel
theorem d_M_compareWords_37 : decode b_M_compareWords 37 = .ok (.iload 6, 2) := by decide +kernel
theorem d_M_compareWords_39 : decode b_M_compareWords 39 = .ok (.iadd, 1) := by decide +kernel
theorem d_M_compareWords_40 : decode b_M_compareWords 40 = .ok (.iaload, 1) := by decide +kernel
theorem d_M_compareWords_41 : decode b_M_compareWords 41 = .ok (.invokestatic 136, 3) := by decide +kernel
theorem d_M_compareWords_44 : decode b_M_compareWords 44 = .ok (.aload_n 0, 1) := by decide +kernel
theorem d_M_compareWords_45 : decode b_M_compareWords 45 = .ok (.getfield 13, 3) := by decide +kernel
theorem d_M_compareWords_48 : decode b_M_compareWords 48 = .ok (.iload_n 3, 1) := by decide +kernel
theorem d_M_compareWords_49 : decode b_M_compareWords 49 = .ok (.iload 6, 2) := by decide +kernel
theorem d_M_compareWords_51 : decode b_M_compareWords 51 = .ok (.iadd, 1) := by decide +kernel
theorem d_M_compareWords_52 : decode b_M_compareWords 52 = .ok (.iaload, 1) := by decide +kernel
theorem d_M_compareWords_53 : decode b_M_compareWords 53 = .ok (.invokestatic 136, 3) := by decide +kernel
theorem d_M_compareWords_56 : decode b_M_compareWords 56 = .ok (.if_icmp .eq 29, 3) := by decide +kernel
theorem d_M_compareWords_59 : decode b_M_compareWords 59 = .ok (.aload_n 0, 1) := by decide +kernel
theorem d_M_compareWords_60 : decode b_M_compareWords 60 = .ok (.getfield 13, 3) := by decide +kernel
theorem d_M_compareWords_63 : decode b_M_compareWords 63 = .ok (.iload_n 1, 1) := by decide +kernel
theorem d_M_compareWords_64 : decode b_M_compareWords 64 = .ok (.iload 6, 2) := by decide +kernel
theorem d_M_compareWords_66 : decode b_M_compareWords 66 = .ok (.iadd, 1) := by decide +kernel
theorem d_M_compareWords_67 : decode b_M_compareWords 67 = .ok (.iaload, 1) := by decide +kernel
theorem d_M_compareWords_68 : decode b_M_compareWords 68 = .ok (.invokestatic 136, 3) := by decide +kernel
theorem d_M_compareWords_71 : decode b_M_compareWords 71 = .ok (.aload_n 0, 1) := by decide +kernel
theorem d_M_compareWords_72 : decode b_M_compareWords 72 = .ok (.getfield 13, 3) := by decide +kernel
theorem d_M_compareWords_75 : decode b_M_compareWords 75 = .ok (.iload_n 3, 1) := by decide +kernel
theorem d_M_compareWords_76 : decode b_M_compareWords 76 = .ok (.iload 6, 2) := by decide +kernel
theorem d_M_compareWords_78 : decode b_M_compareWords 78 = .ok (.iadd, 1) := by decide +kernel
theorem d_M_compareWords_79 : decode b_M_compareWords 79 = .ok (.iaload, 1) := by decide +kernel
theorem d_M_compareWords_80 : decode b_M_compareWords 80 = .ok (.invokestatic 136, 3) := by decide +kernel
theorem d_M_compareWords_83 : decode b_M_compareWords 83 = .ok (.isub, 1) := by decide +kernel
theorem d_M_compareWords_84 : decode b_M_compareWords 84 = .ok (.ireturn, 1) := by decide +kernel
theorem d_M_compareWords_85 : decode b_M_compareWords 85 = .ok (.iinc 6 1, 3) := by decide +kernel
theorem d_M_compareWords_88 : decode b_M_compareWords 88 = .ok (.goto (-63), 3) := by decide +kernel
theorem d_M_compareWords_91 : decode b_M_compareWords 91 = .ok (.iload_n 2, 1) := by decide +kernel
theorem d_M_compareWords_92 : decode b_M_compareWords 92 = .ok (.iload_n 1, 1) := by decide +kernel
theorem d_M_compareWords_93 : decode b_M_compareWords 93 = .ok (.isub, 1) := by decide +kernel
theorem d_M_compareWords_94 : decode b_M_compareWords 94 = .ok (.iload 4, 2) := by decide +kernel
theorem d_M_compareWords_96 : decode b_M_compareWords 96 = .ok (.iload_n 3, 1) := by decide +kernel
theorem d_M_compareWords_97 : decode b_M_compareWords 97 = .ok (.isub, 1) := by decide +kernel
theorem d_M_compareWords_98 : decode b_M_compareWords 98 = .ok (.isub, 1) := by decide +kernel
theorem d_M_compareWords_99 : decode b_M_compareWords 99 = .ok (.ireturn, 1) := by decide +kernel
set_option maxHeartbeats 4000000 in
set_option maxRecDepth 100000 in
theorem c_M_compareWords (l : Launch) (dC : Nat → ClassId) (dI : Nat → Nat → Nat) (kA : Nat → ClassId) (mo : Nat) (ma : Nat → Nat) (mrf : Int) (mz : Int) (mls : Int) (mfp : Int) (mfm : Int) (mtx : Int) (mwd : Int) (mak : Int) (mli : Int) (mlx : Int) (mat : Int) (mtk : Int) (mtf : Int) (mtt : Int) (mfa : Int) (mla : Int) (mlp : Int) (mdp : Int) (msi : Int) (mpf : Int) (mpt : Int) (mdn : Bool) (ca : Nat → Int) (x : Int) (xe : Int) (y : Int) (ye : Int) (hca : C2 ca) (hx0 : 0 ≤ x ∧ x ≤ xe ∧ xe ≤ 4120 ∧ 0 ≤ y ∧ y ≤ ye ∧ ye ≤ 4120) : Met l y_M_compareWords (wsy y_M_compareWords b_M_compareWords 7 (some .int)) (rmd 1 0 0) (li_Pr (dC, dI) CL (TY kA) [.ref mo, .int (iI x), .int (iI xe), .int (iI y), .int (iI ye)] (va_P (dC, dI) CL [(mo, .inr (10, [.int (iI mrf), .ref (ma 0), .int (iI mz), .ref (ma 1), .ref (ma 2), .int (iI mls), .int (iI mfp), .int (iI mfm), .ref (ma 3), .int (iI mtx), .ref (ma 4), .ref (ma 5), .int (iI mwd), .ref (ma 6), .ref (ma 7), .int (iI mak), .ref (ma 8), .ref (ma 9), .int (iI mli), .int (iI mlx), .ref (ma 10), .ref (ma 11), .int (iI mat), .int (iI mtk), .int (iI mtf), .int (iI mtt), .int (iI mfa), .int (iI mla), .int (iI mlp), .int (iI mdp), .ref (ma 12), .ref (ma 13), .int (iI msi), .int (iI (bI mdn)), .int (iI mpf), .int (iI mpt)])), (ma 1, .inl (kA 0, 4120, .inl (aI ca)))])) (k2_QcV (.int (iI (cmM ca x xe y ye)))) 0 0 (fun _ => False) := by
  refine li_mr (by decide) (Nat.le_of_ble_eq_true rfl) (by rfl) ?_
  intro p e s m args below meth c Q C hP hK hN hG fin ls hl
  obtain ⟨hx, hb, hr, hml, hown, hts, hlocks, hin⟩ := C
  have hown : s.vm.findClass R_M = some m.cls := hown
  have hP : va_P (dC, dI) CL [(mo, .inr (10, [.int (iI mrf), .ref (ma 0), .int (iI mz), .ref (ma 1), .ref (ma 2), .int (iI mls), .int (iI mfp), .int (iI mfm), .ref (ma 3), .int (iI mtx), .ref (ma 4), .ref (ma 5), .int (iI mwd), .ref (ma 6), .ref (ma 7), .int (iI mak), .ref (ma 8), .ref (ma 9), .int (iI mli), .int (iI mlx), .ref (ma 10), .ref (ma 11), .int (iI mat), .int (iI mtk), .int (iI mtf), .int (iI mtt), .int (iI mfa), .int (iI mla), .int (iI mlp), .int (iI mdp), .ref (ma 12), .ref (ma 13), .int (iI msi), .int (iI (bI mdn)), .int (iI mpf), .int (iI mpt)])), (ma 1, .inl (kA 0, 4120, .inl (aI ca)))] s.heap := hP
  have hl : lv_has ls 7 [(0, .ref mo), (1, .int (iI x)), (2, .int (iI xe)), (3, .int (iI y)), (4, .int (iI ye))] := hl
  have K_25 : ∀ (nn : Nat) (i : Int) (mn : Int), (mn = min (xe - x) (ye - y)) → (0 ≤ i ∧ i ≤ mn) → (cmpL (fun i => sml (ca (x.toNat + i))) (fun i => sml (ca (y.toNat + i))) (mn - i).toNat i.toNat ((xe - x) - (ye - y)) = cmM ca x xe y ye) → ((mn - i).toNat < nn) → ∀ ls : Array Slot, lv_has ls 7 [(0, .ref mo), (1, .int (iI x)), (2, .int (iI xe)), (3, .int (iI y)), (4, .int (iI ye)), (5, .int (iI mn)), (6, .int (iI i))] → W p l e (rmd 1 0 0) s m args below meth c s.heap [] 0 0 Q (F0 m 25 ls []) := by
    intro nn
    induction nn with
    | zero => intro i mn hmn hi9 hres hm; exact absurd hm (Nat.not_lt_zero _)
    | succ nn ih =>
      intro i mn hmn hi9 hres hm ls hl
      refine lv_iload hx hb d_M_compareWords_25 (lv_at hl 6 rfl) ?_
      refine lv_iload hx hb d_M_compareWords_27 (lv_at hl 5 rfl) ?_
      refine li_icmp_ge (tgt := 91) hx hb d_M_compareWords_29 (by decide) (by first | omega | (have h8 := sml_r (c := ca (x + i).toNat) (by have := hca (x + i).toNat; omega); omega) | (have h8 := sml_r (c := ca (y + i).toNat) (by have := hca (y + i).toNat; omega); omega)) (by first | omega | (have h8 := sml_r (c := ca (x + i).toNat) (by have := hca (x + i).toNat; omega); omega) | (have h8 := sml_r (c := ca (y + i).toNat) (by have := hca (y + i).toNat; omega); omega)) (fun c1 => ?_) (fun c1 => ?_)
      · have _q := c1
        refine lv_iload_n hx hb d_M_compareWords_91 rfl (lv_at hl 2 rfl) ?_
        refine lv_iload_n hx hb d_M_compareWords_92 rfl (lv_at hl 1 rfl) ?_
        refine li_isub hx hb d_M_compareWords_93 ?_
        refine lv_iload hx hb d_M_compareWords_94 (lv_at hl 4 rfl) ?_
        refine lv_iload_n hx hb d_M_compareWords_96 rfl (lv_at hl 3 rfl) ?_
        refine li_isub hx hb d_M_compareWords_97 ?_
        refine li_isub hx hb d_M_compareWords_98 ?_
        exact fin _ _ _ (by first | (rw [← hres, show (mn - i).toNat = 0 by omega]; rfl) | (rw [← hres, show (mn - i).toNat = (mn - (i + 1)).toNat + 1 by omega]; simp only [cmpL]; rw [show x.toNat + i.toNat = (x + i).toNat by omega, show y.toNat + i.toNat = (y + i).toNat by omega, if_neg (by assumption)])) d_M_compareWords_99
      · have _q := c1
        refine lv_aload_n hx hb d_M_compareWords_32 rfl (lv_at hl 0 rfl) ?_
        refine gf_M_13 hx hb hts hown hK hP 0 rfl rfl d_M_compareWords_33 ?_
        refine lv_iload_n hx hb d_M_compareWords_36 rfl (lv_at hl 1 rfl) ?_
        refine lv_iload hx hb d_M_compareWords_37 (lv_at hl 6 rfl) ?_
        refine li_iadd hx hb d_M_compareWords_39 ?_
        refine li_iald hx hb hK hP 1 0 rfl rfl (by omega) (by omega) (by omega) d_M_compareWords_40 ?_
        have f2 := hca ((x + i).toNat)
        refine li_callr ((va_runS (As := [.int (iI (ca ((x + i).toNat)))]) (rest := []) ⟨hx, hb, hml, hown, hts⟩ (c_M_small l dC dI kA (ca ((x + i).toNat)) (by omega)) (cw_M_136 hts rfl rfl ⟨Nat.le_of_ble_eq_true rfl, Nat.le_of_ble_eq_true rfl⟩) (li_preS va_Pnil hK hN hG.rd) rfl rfl hl.1 rfl (lv_room (Nat.le_of_ble_eq_true rfl)) d_M_compareWords_41 ⟨(by show 0 + 0 ≤ 0; omega), (by show 0 + 0 ≤ 0; omega)⟩).run) ?_
        refine lv_aload_n hx hb d_M_compareWords_44 rfl (lv_at hl 0 rfl) ?_
        refine gf_M_13 hx hb hts hown hK hP 0 rfl rfl d_M_compareWords_45 ?_
        refine lv_iload_n hx hb d_M_compareWords_48 rfl (lv_at hl 3 rfl) ?_
        refine lv_iload hx hb d_M_compareWords_49 (lv_at hl 6 rfl) ?_
        refine li_iadd hx hb d_M_compareWords_51 ?_
        refine li_iald hx hb hK hP 1 0 rfl rfl (by omega) (by omega) (by omega) d_M_compareWords_52 ?_
        have f3 := hca ((y + i).toNat)
        refine li_callr ((va_runS (As := [.int (iI (ca ((y + i).toNat)))]) (rest := [.int (iI (sml (ca ((x + i).toNat))))]) ⟨hx, hb, hml, hown, hts⟩ (c_M_small l dC dI kA (ca ((y + i).toNat)) (by omega)) (cw_M_136 hts rfl rfl ⟨Nat.le_of_ble_eq_true rfl, Nat.le_of_ble_eq_true rfl⟩) (li_preS va_Pnil hK hN hG.rd) rfl rfl hl.1 rfl (lv_room (Nat.le_of_ble_eq_true rfl)) d_M_compareWords_53 ⟨(by show 0 + 0 ≤ 0; omega), (by show 0 + 0 ≤ 0; omega)⟩).run) ?_
        refine li_icmp_eq (tgt := 85) hx hb d_M_compareWords_56 (by decide) (by first | omega | (have h8 := sml_r (c := ca (x + i).toNat) (by have := hca (x + i).toNat; omega); omega) | (have h8 := sml_r (c := ca (y + i).toNat) (by have := hca (y + i).toNat; omega); omega)) (by first | omega | (have h8 := sml_r (c := ca (x + i).toNat) (by have := hca (x + i).toNat; omega); omega) | (have h8 := sml_r (c := ca (y + i).toNat) (by have := hca (y + i).toNat; omega); omega)) (fun c4 => ?_) (fun c4 => ?_)
        · have _q := c4
          obtain ⟨x_i, ex_i⟩ : ∃ y_9 : Int, y_9 = i + 1 := ⟨_, rfl⟩
          refine lv_iinc (v := iI x_i) (lv' := [(6, .int (iI x_i)), (0, .ref mo), (1, .int (iI x)), (2, .int (iI xe)), (3, .int (iI y)), (4, .int (iI ye)), (5, .int (iI mn))]) hx hb d_M_compareWords_85 hl (k := 6) rfl (by rw [ex_i]; exact iI_add _ _) (by decide) rfl (fun ls hl => ?_)
          refine lv_goto (tgt := 25) hx hb d_M_compareWords_88 (by decide) ?_
          exact ih x_i mn (by first | omega | exact hmn) (by first | omega | (subst_vars; omega)) (by first | (unfold cmM; rw [show (mn - 0).toNat = (min (xe - x) (ye - y)).toNat by omega]; first | done | rfl) | (rw [ex_i, ← hres, show (mn - i).toNat = (mn - (i + 1)).toNat + 1 by omega, show (i + 1).toNat = i.toNat + 1 by omega]; simp only [cmpL]; rw [if_pos (by rw [show x.toNat + i.toNat = (x + i).toNat by omega, show y.toNat + i.toNat = (y + i).toNat by omega]; assumption)])) (by first | omega | (subst_vars; omega)) _ (lv_sub hl [1, 2, 3, 4, 5, 6, 0] rfl)
        · have _q := c4
          refine lv_aload_n hx hb d_M_compareWords_59 rfl (lv_at hl 0 rfl) ?_
          refine gf_M_13 hx hb hts hown hK hP 0 rfl rfl d_M_compareWords_60 ?_
          refine lv_iload_n hx hb d_M_compareWords_63 rfl (lv_at hl 1 rfl) ?_
          refine lv_iload hx hb d_M_compareWords_64 (lv_at hl 6 rfl) ?_
          refine li_iadd hx hb d_M_compareWords_66 ?_
          refine li_iald hx hb hK hP 1 0 rfl rfl (by omega) (by omega) (by omega) d_M_compareWords_67 ?_
          have f5 := hca ((x + i).toNat)
          refine li_callr ((va_runS (As := [.int (iI (ca ((x + i).toNat)))]) (rest := []) ⟨hx, hb, hml, hown, hts⟩ (c_M_small l dC dI kA (ca ((x + i).toNat)) (by omega)) (cw_M_136 hts rfl rfl ⟨Nat.le_of_ble_eq_true rfl, Nat.le_of_ble_eq_true rfl⟩) (li_preS va_Pnil hK hN hG.rd) rfl rfl hl.1 rfl (lv_room (Nat.le_of_ble_eq_true rfl)) d_M_compareWords_68 ⟨(by show 0 + 0 ≤ 0; omega), (by show 0 + 0 ≤ 0; omega)⟩).run) ?_
          refine lv_aload_n hx hb d_M_compareWords_71 rfl (lv_at hl 0 rfl) ?_
          refine gf_M_13 hx hb hts hown hK hP 0 rfl rfl d_M_compareWords_72 ?_
          refine lv_iload_n hx hb d_M_compareWords_75 rfl (lv_at hl 3 rfl) ?_
          refine lv_iload hx hb d_M_compareWords_76 (lv_at hl 6 rfl) ?_
          refine li_iadd hx hb d_M_compareWords_78 ?_
          refine li_iald hx hb hK hP 1 0 rfl rfl (by omega) (by omega) (by omega) d_M_compareWords_79 ?_
          have f6 := hca ((y + i).toNat)
          refine li_callr ((va_runS (As := [.int (iI (ca ((y + i).toNat)))]) (rest := [.int (iI (sml (ca ((x + i).toNat))))]) ⟨hx, hb, hml, hown, hts⟩ (c_M_small l dC dI kA (ca ((y + i).toNat)) (by omega)) (cw_M_136 hts rfl rfl ⟨Nat.le_of_ble_eq_true rfl, Nat.le_of_ble_eq_true rfl⟩) (li_preS va_Pnil hK hN hG.rd) rfl rfl hl.1 rfl (lv_room (Nat.le_of_ble_eq_true rfl)) d_M_compareWords_80 ⟨(by show 0 + 0 ≤ 0; omega), (by show 0 + 0 ≤ 0; omega)⟩).run) ?_
          refine li_isub hx hb d_M_compareWords_83 ?_
          exact fin _ _ _ (by first | (rw [← hres, show (mn - i).toNat = 0 by omega]; rfl) | (rw [← hres, show (mn - i).toNat = (mn - (i + 1)).toNat + 1 by omega]; simp only [cmpL]; rw [show x.toNat + i.toNat = (x + i).toNat by omega, show y.toNat + i.toNat = (y + i).toNat by omega, if_neg (by assumption)])) d_M_compareWords_84
  refine lv_iload_n hx hb d_M_compareWords_0 rfl (lv_at hl 2 rfl) ?_
  refine lv_iload_n hx hb d_M_compareWords_1 rfl (lv_at hl 1 rfl) ?_
  refine li_isub hx hb d_M_compareWords_2 ?_
  refine lv_iload hx hb d_M_compareWords_3 (lv_at hl 4 rfl) ?_
  refine lv_iload_n hx hb d_M_compareWords_5 rfl (lv_at hl 3 rfl) ?_
  refine li_isub hx hb d_M_compareWords_6 ?_
  refine li_icmp_ge (tgt := 16) hx hb d_M_compareWords_7 (by decide) (by first | omega | (have h8 := sml_r (c := ca (x + i).toNat) (by have := hca (x + i).toNat; omega); omega) | (have h8 := sml_r (c := ca (y + i).toNat) (by have := hca (y + i).toNat; omega); omega)) (by first | omega | (have h8 := sml_r (c := ca (x + i).toNat) (by have := hca (x + i).toNat; omega); omega) | (have h8 := sml_r (c := ca (y + i).toNat) (by have := hca (y + i).toNat; omega); omega)) (fun c7 => ?_) (fun c7 => ?_)
  · have _q := c7
    refine lv_iload hx hb d_M_compareWords_16 (lv_at hl 4 rfl) ?_
    refine lv_iload_n hx hb d_M_compareWords_18 rfl (lv_at hl 3 rfl) ?_
    refine li_isub hx hb d_M_compareWords_19 ?_
    refine li_nm (fun mn emn => ?_)
    refine lv_istore (lv' := [(5, .int (iI mn)), (0, .ref mo), (1, .int (iI x)), (2, .int (iI xe)), (3, .int (iI y)), (4, .int (iI ye))]) hx hb d_M_compareWords_20 hl (by decide) rfl (fun ls hl => ?_)
    refine lv_iconst (v := iI 0) hx hb d_M_compareWords_22 rfl ?_
    refine lv_istore (lv' := [(6, .int (iI 0)), (5, .int (iI mn)), (0, .ref mo), (1, .int (iI x)), (2, .int (iI xe)), (3, .int (iI y)), (4, .int (iI ye))]) hx hb d_M_compareWords_23 hl (by decide) rfl (fun ls hl => ?_)
    exact K_25 ((mn - 0).toNat + 1) 0 mn (by first | omega | exact hmn) (by first | omega | (subst_vars; omega)) (by first | (unfold cmM; rw [show (mn - 0).toNat = (min (xe - x) (ye - y)).toNat by omega]; first | done | rfl) | (rw [ex_i, ← hres, show (mn - i).toNat = (mn - (i + 1)).toNat + 1 by omega, show (i + 1).toNat = i.toNat + 1 by omega]; simp only [cmpL]; rw [if_pos (by rw [show x.toNat + i.toNat = (x + i).toNat by omega, show y.toNat + i.toNat = (y + i).toNat by omega]; assumption)])) (Nat.lt_succ_self _) _ (lv_sub hl [2, 3, 4, 5, 6, 1, 0] rfl)
  · have _q := c7
    refine lv_iload_n hx hb d_M_compareWords_10 rfl (lv_at hl 2 rfl) ?_
    refine lv_iload_n hx hb d_M_compareWords_11 rfl (lv_at hl 1 rfl) ?_
    refine li_isub hx hb d_M_compareWords_12 ?_
    refine lv_goto (tgt := 20) hx hb d_M_compareWords_13 (by decide) ?_
    refine li_nm (fun mn emn => ?_)
    refine lv_istore (lv' := [(5, .int (iI mn)), (0, .ref mo), (1, .int (iI x)), (2, .int (iI xe)), (3, .int (iI y)), (4, .int (iI ye))]) hx hb d_M_compareWords_20 hl (by decide) rfl (fun ls hl => ?_)
    refine lv_iconst (v := iI 0) hx hb d_M_compareWords_22 rfl ?_
    refine lv_istore (lv' := [(6, .int (iI 0)), (5, .int (iI mn)), (0, .ref mo), (1, .int (iI x)), (2, .int (iI xe)), (3, .int (iI y)), (4, .int (iI ye))]) hx hb d_M_compareWords_23 hl (by decide) rfl (fun ls hl => ?_)
    exact K_25 ((mn - 0).toNat + 1) 0 mn (by first | omega | exact hmn) (by first | omega | (subst_vars; omega)) (by first | (unfold cmM; rw [show (mn - 0).toNat = (min (xe - x) (ye - y)).toNat by omega]; first | done | rfl) | (rw [ex_i, ← hres, show (mn - i).toNat = (mn - (i + 1)).toNat + 1 by omega, show (i + 1).toNat = i.toNat + 1 by omega]; simp only [cmpL]; rw [if_pos (by rw [show x.toNat + i.toNat = (x + i).toNat by omega, show y.toNat + i.toNat = (y + i).toNat by omega]; assumption)])) (Nat.lt_succ_self _) _ (lv_sub hl [2, 3, 4, 5, 6, 1, 0] rfl)

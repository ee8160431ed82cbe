/-! bits -/
def andI (a b : Int) : Int := (iI a &&& iI b).toInt
def orI (a b : Int) : Int := (iI a ||| iI b).toInt
def xorI (a b : Int) : Int := (iI a ^^^ iI b).toInt
def shlI (a b : Int) : Int := (iI a <<< (iI b &&& 31)).toInt
def shrI (a b : Int) : Int := (iI a >>> (iI b &&& 31)).toInt
def ushI (a b : Int) : Int := (((iI a).toUInt32 >>> ((iI b).toUInt32 &&& Int32.toUInt32 31)).toInt32).toInt
theorem iI_back (x : Int32) : iI x.toInt = x := Int32.ofInt_toInt x
theorem toInt_rr (x : Int32) : -2147483648 ≤ x.toInt ∧ x.toInt < 2147483648 := by
  have h1 := Int32.le_toInt x
  have h2 := Int32.toInt_lt x
  omega
theorem and255_r (a : Int) : 0 ≤ andI a 255 ∧ andI a 255 < 256 := by
  have e : andI a 255 = (((iI a).toBitVec &&& (255 : BitVec 32)).toNat : Int) := by
    show ((iI a).toBitVec &&& (255 : BitVec 32)).toInt = _
    rw [BitVec.toInt_eq_toNat_of_lt]
    rw [BitVec.toNat_and]
    have := Nat.and_le_right (n := (iI a).toBitVec.toNat) (m := (255 : BitVec 32).toNat)
    have h2 : (255 : BitVec 32).toNat = 255 := rfl
    omega
  rw [e, BitVec.toNat_and]
  have := Nat.and_le_right (n := (iI a).toBitVec.toNat) (m := (255 : BitVec 32).toNat)
  have h2 : (255 : BitVec 32).toNat = 255 := rfl
  omega
section BITS
variable {p : Program} {l : Launch} {e : Env} {R : Room} {s : State} {m : MethodId} {args : Array Value} {below : List Frame} {meth : Method} {c : Code} {H : Heap} {locs : List Loc} {cells slots : Nat} {Q : State → Prop}
variable {cc : ByteArray} {pc : Nat} {ls : Array Slot} {rest : List Value}
theorem li_iandI (hx : p.tables.exec = Jvm.exec) (hb : c.code = cc) {a b : Int} (hdg : decode cc pc = .ok (.iand, 1)) (k : W p l e R s m args below meth c H locs cells slots Q (F0 m (pc + 1) ls (.int (iI (andI a b)) :: rest))) : W p l e R s m args below meth c H locs cells slots Q (F0 m pc ls (.int (iI b) :: .int (iI a) :: rest)) := lv_iand hx hb hdg (by have h9 := k; unfold andI at h9; rw [iI_back] at h9; exact h9)
theorem li_iorI (hx : p.tables.exec = Jvm.exec) (hb : c.code = cc) {a b : Int} (hdg : decode cc pc = .ok (.ior, 1)) (k : W p l e R s m args below meth c H locs cells slots Q (F0 m (pc + 1) ls (.int (iI (orI a b)) :: rest))) : W p l e R s m args below meth c H locs cells slots Q (F0 m pc ls (.int (iI b) :: .int (iI a) :: rest)) := lv_ior hx hb hdg (by have h9 := k; unfold orI at h9; rw [iI_back] at h9; exact h9)
theorem li_ixorI (hx : p.tables.exec = Jvm.exec) (hb : c.code = cc) {a b : Int} (hdg : decode cc pc = .ok (.ixor, 1)) (k : W p l e R s m args below meth c H locs cells slots Q (F0 m (pc + 1) ls (.int (iI (xorI a b)) :: rest))) : W p l e R s m args below meth c H locs cells slots Q (F0 m pc ls (.int (iI b) :: .int (iI a) :: rest)) := lv_ixor hx hb hdg (by have h9 := k; unfold xorI at h9; rw [iI_back] at h9; exact h9)
theorem li_ishlI (hx : p.tables.exec = Jvm.exec) (hb : c.code = cc) {a b : Int} (hdg : decode cc pc = .ok (.ishl, 1)) (k : W p l e R s m args below meth c H locs cells slots Q (F0 m (pc + 1) ls (.int (iI (shlI a b)) :: rest))) : W p l e R s m args below meth c H locs cells slots Q (F0 m pc ls (.int (iI b) :: .int (iI a) :: rest)) := lv_ishl hx hb hdg (by have h9 := k; unfold shlI at h9; rw [iI_back] at h9; exact h9)
theorem li_ishrI (hx : p.tables.exec = Jvm.exec) (hb : c.code = cc) {a b : Int} (hdg : decode cc pc = .ok (.ishr, 1)) (k : W p l e R s m args below meth c H locs cells slots Q (F0 m (pc + 1) ls (.int (iI (shrI a b)) :: rest))) : W p l e R s m args below meth c H locs cells slots Q (F0 m pc ls (.int (iI b) :: .int (iI a) :: rest)) := lv_ishr hx hb hdg (by have h9 := k; unfold shrI at h9; rw [iI_back] at h9; exact h9)
theorem li_iushrI (hx : p.tables.exec = Jvm.exec) (hb : c.code = cc) {a b : Int} (hdg : decode cc pc = .ok (.iushr, 1)) (k : W p l e R s m args below meth c H locs cells slots Q (F0 m (pc + 1) ls (.int (iI (ushI a b)) :: rest))) : W p l e R s m args below meth c H locs cells slots Q (F0 m pc ls (.int (iI b) :: .int (iI a) :: rest)) := lv_iushr hx hb hdg rfl (by have h9 := k; unfold ushI at h9; rw [iI_back] at h9; exact h9)
theorem li_lcmp0 (hx : p.tables.exec = Jvm.exec) (hb : c.code = cc) {x y : Int64} (hxy : x = y) (hdg : decode cc pc = .ok (.lcmp, 1)) (k : W p l e R s m args below meth c H locs cells slots Q (F0 m (pc + 1) ls (.int (iI 0) :: rest))) : W p l e R s m args below meth c H locs cells slots Q (F0 m pc ls (.long y :: .long x :: rest)) := by
  intro T hT X
  obtain ⟨t, a, b⟩ := k T hT X
  refine ⟨t, ?_, b⟩
  subst hxy
  jvm_step X.here [X.here.top, hx, hb, hdg]
  first | exact a | (rw [if_neg (by simp), if_pos rfl]; exact a) | (simp; exact a)
theorem li_lcmp1 (hx : p.tables.exec = Jvm.exec) (hb : c.code = cc) {x y : Int64} (hxy : x > y) (hdg : decode cc pc = .ok (.lcmp, 1)) (k : W p l e R s m args below meth c H locs cells slots Q (F0 m (pc + 1) ls (.int (iI 1) :: rest))) : W p l e R s m args below meth c H locs cells slots Q (F0 m pc ls (.long y :: .long x :: rest)) := by
  intro T hT X
  obtain ⟨t, a, b⟩ := k T hT X
  refine ⟨t, ?_, b⟩
  jvm_step X.here [X.here.top, hx, hb, hdg]
  rw [if_pos hxy]
  exact a
end BITS
/-! characters of THE LINE -/
def puM (u : (Nat → Int) × Int) (x sh : Int) : (Nat → Int) × Int := if 0 < andI (shrI x sh) 255 then (if u.2 < 100 then va_up u.1 (4000 + u.2).toNat (andI (shrI x sh) 255) else u.1, u.2 + 1) else u
def puN (x : Int) : Nat → Int → (Nat → Int) × Int → (Nat → Int) × Int
  | 0, _, u => u
  | k + 1, sh, u => puN x k (sh - 8) (puM u x sh)
def pu4 (u : (Nat → Int) × Int) (x : Int) : (Nat → Int) × Int := puN x 4 24 u
def cwM (a b c d e k : Int) : Int := if k = 0 then a else if k = 1 then b else if k = 2 then c else if k = 3 then d else e
def tyN (a b c d e : Int) : Nat → Int → (Nat → Int) × Int → (Nat → Int) × Int
  | 0, _, u => u
  | j + 1, k, u => tyN a b c d e j (k + 1) (pu4 u (cwM a b c d e k))
def tyM (a b c d e : Int) (u : (Nat → Int) × Int) : (Nat → Int) × Int := tyN a b c d e 5 0 u
/-! words of the language as the reference writes them -/
def wlT : List Int64 := [0, 6385252, 28530, 7237492, 126922498794105, 0, 6385273, 6384748, 6382698, 435811345268, 499985443941, 107157092069234, 32498687873999732, 1684108389, 26980, 28259043934301796, 6909543]
def lnT : List Nat := [0, 3, 2, 3, 6, 0, 3, 3, 3, 5, 5, 6, 7, 4, 2, 7, 3]
def wlg (i : Nat) : Int64 := wlT.getD i 0
def wln (i : Nat) : Nat := lnT.getD i 0
def chW (i k : Nat) : Int := if i ≤ 14 then chS i k else (if i = 15 then [100, 101, 115, 99, 101, 110, 100] else [105, 110, 103]).getD k 0
def shW (i n : Nat) : Int64 := (List.replicate n (8 : Int32)).foldl (fun x y => x >>> (y.toInt64 &&& 63)) (wlg i)
theorem shW_0 (i : Nat) : shW i 0 = wlg i := rfl
theorem shW_s (i n : Nat) : shW i n >>> ((iI 8).toInt64 &&& 63) = shW i (n + 1) := by
  unfold shW
  rw [List.replicate_succ', List.foldl_append]
  rfl
theorem shW_t : ∀ i : Fin 17, ∀ n : Fin 8, (n.val < wln i.val → shW i.val n.val > 0) ∧ (n.val = wln i.val → shW i.val n.val = 0) := by decide +kernel
theorem wln_t : ∀ i : Fin 17, wln i.val ≤ 7 := by decide +kernel
theorem chW_t : ∀ i : Fin 17, ∀ k : Fin 8, k.val < wln i.val → ((wlg i.val >>> ((iI (8 * ((wln i.val : Int) - 1 - (k.val : Int)))).toInt64 &&& 63)) &&& 255).toInt32 = iI (chW i.val k.val) ∧ 0 ≤ chW i.val k.val ∧ chW i.val k.val < 256 := by decide +kernel
theorem chW_k {i : Nat} (hi : i < 17) {k : Int} (h0 : 0 ≤ k) (h1 : k < (wln i : Nat)) : ((wlg i >>> ((iI (8 * ((wln i : Int) - 1 - k))).toInt64 &&& 63)) &&& 255).toInt32 = iI (chW i k.toNat) ∧ 0 ≤ chW i k.toNat ∧ chW i k.toNat < 256 := by
  obtain ⟨j, rfl⟩ := Int.eq_ofNat_of_zero_le h0
  have h2 := wln_t ⟨i, hi⟩
  exact chW_t ⟨i, hi⟩ ⟨j, by simp only at h2; omega⟩ (by simp only; omega)
theorem wln_r {i : Nat} (h : i < 17) : wln i ≤ 7 := wln_t ⟨i, h⟩
def iwL (f : Nat → Int) (x : Int) (i : Nat) : Nat → Int → Bool
  | 0, _ => true
  | n + 1, k => if sml (f (x + k).toNat) = chW i k.toNat then iwL f x i n (k + 1) else false
def iwM (f : Nat → Int) (x y : Int) (i : Nat) : Bool := if y - x = (wln i : Int) then iwL f x i (wln i) 0 else false
def deM (f : Nat → Int) (x y : Int) : Bool := decide (y - x = 10) && (iwM f x (x + 7) 15 && iwM f (x + 7) y 16)
theorem C2_up {f : Nat → Int} {k : Nat} {v : Int} (hv : 0 ≤ v ∧ v < 256) (h : C2 f) : C2 (va_up f k v) := by
  intro j; unfold va_up; split
  · exact hv
  · exact h j

theorem d_M_put_0 : decode b_M_put 0 = .ok (.iload_n 1, 1) := by decide +kernel
theorem d_M_put_1 : decode b_M_put 1 = .ok (.iload_n 2, 1) := by decide +kernel
theorem d_M_put_2 : decode b_M_put 2 = .ok (.ishr, 1) := by decide +kernel
theorem d_M_put_3 : decode b_M_put 3 = .ok (.sipush 255, 3) := by decide +kernel
theorem d_M_put_6 : decode b_M_put 6 = .ok (.iand, 1) := by decide +kernel
theorem d_M_put_7 : decode b_M_put 7 = .ok (.istore_n 3, 1) := by decide +kernel
theorem d_M_put_8 : decode b_M_put 8 = .ok (.iload_n 3, 1) := by decide +kernel
theorem d_M_put_9 : decode b_M_put 9 = .ok (.ifCond .le 36, 3) := by decide +kernel
theorem d_M_put_12 : decode b_M_put 12 = .ok (.aload_n 0, 1) := by decide +kernel
theorem d_M_put_13 : decode b_M_put 13 = .ok (.getfield 174, 3) := by decide +kernel
theorem d_M_put_16 : decode b_M_put 16 = .ok (.bipush 100, 2) := by decide +kernel
theorem d_M_put_18 : decode b_M_put 18 = .ok (.if_icmp .ge 17, 3) := by decide +kernel
theorem d_M_put_21 : decode b_M_put 21 = .ok (.aload_n 0, 1) := by decide +kernel
theorem d_M_put_22 : decode b_M_put 22 = .ok (.getfield 13, 3) := by decide +kernel
theorem d_M_put_25 : decode b_M_put 25 = .ok (.sipush 4000, 3) := by decide +kernel
theorem d_M_put_28 : decode b_M_put 28 = .ok (.aload_n 0, 1) := by decide +kernel
theorem d_M_put_29 : decode b_M_put 29 = .ok (.getfield 174, 3) := by decide +kernel
theorem d_M_put_32 : decode b_M_put 32 = .ok (.iadd, 1) := by decide +kernel
theorem d_M_put_33 : decode b_M_put 33 = .ok (.iload_n 3, 1) := by decide +kernel
theorem d_M_put_34 : decode b_M_put 34 = .ok (.iastore, 1) := by decide +kernel
theorem d_M_put_35 : decode b_M_put 35 = .ok (.aload_n 0, 1) := by decide +kernel
theorem d_M_put_36 : decode b_M_put 36 = .ok (.dup, 1) := by decide +kernel
theorem d_M_put_37 : decode b_M_put 37 = .ok (.getfield 174, 3) := by decide +kernel
theorem d_M_put_40 : decode b_M_put 40 = .ok (.iconst 1, 1) := by decide +kernel
theorem d_M_put_41 : decode b_M_put 41 = .ok (.iadd, 1) := by decide +kernel
theorem d_M_put_42 : decode b_M_put 42 = .ok (.putfield 174, 3) := by decide +kernel
theorem d_M_put_45 : decode b_M_put 45 = .ok (.return_, 1) := by decide +kernel
set_option maxHeartbeats 4000000 in
set_option maxRecDepth 100000 in
theorem c_M_put (l : Launch) (dC : Nat → ClassId) (dI : Nat → Nat → Nat) (kA : Nat → ClassId) (sz : Nat) (mo : Nat) (ma : Nat → Nat) (mrf : Int) (mz : Int) (mls : Int) (mfp : Int) (mfm : Int) (mtx : Int) (mwd : Int) (mak : Int) (mli : Int) (mlx : Int) (mat : Int) (mtk : Int) (mtf : Int) (mtt : Int) (mfa : Int) (mla : Int) (mlp : Int) (mdp : Int) (msi : Int) (mpf : Int) (mpt : Int) (mdn : Bool) (ca : Nat → Int) (x : Int) (sh : Int) (hls : 0 ≤ mls ∧ mls ≤ 1000) : Met l y_M_put (wsy y_M_put b_M_put 4 none) (rmd 0 0 0) (li_Pr (dC, dI) CL (TY kA) [.ref mo, .int (iI x), .int (iI sh)] (fun h => h.size = sz ∧ va_P (dC, dI) CL [(mo, .inr (10, [.int (iI mrf), .ref (ma 0), .int (iI mz), .ref (ma 1), .ref (ma 2), .int (iI mls), .int (iI mfp), .int (iI mfm), .ref (ma 3), .int (iI mtx), .ref (ma 4), .ref (ma 5), .int (iI mwd), .ref (ma 6), .ref (ma 7), .int (iI mak), .ref (ma 8), .ref (ma 9), .int (iI mli), .int (iI mlx), .ref (ma 10), .ref (ma 11), .int (iI mat), .int (iI mtk), .int (iI mtf), .int (iI mtt), .int (iI mfa), .int (iI mla), .int (iI mlp), .int (iI mdp), .ref (ma 12), .ref (ma 13), .int (iI msi), .int (iI (bI mdn)), .int (iI mpf), .int (iI mpt)])), (ma 1, .inl (kA 0, 4120, .inl (aI ca)))] h ∧ va_D (fun q => dI 100 0 ≤ q) [(mo, .inr (10, [.int (iI mrf), .ref (ma 0), .int (iI mz), .ref (ma 1), .ref (ma 2), .int (iI mls), .int (iI mfp), .int (iI mfm), .ref (ma 3), .int (iI mtx), .ref (ma 4), .ref (ma 5), .int (iI mwd), .ref (ma 6), .ref (ma 7), .int (iI mak), .ref (ma 8), .ref (ma 9), .int (iI mli), .int (iI mlx), .ref (ma 10), .ref (ma 11), .int (iI mat), .int (iI mtk), .int (iI mtf), .int (iI mtt), .int (iI mfa), .int (iI mla), .int (iI mlp), .int (iI mdp), .ref (ma 12), .ref (ma 13), .int (iI msi), .int (iI (bI mdn)), .int (iI mpf), .int (iI mpt)])), (ma 1, .inl (kA 0, 4120, .inl (aI ca)))] ∧ (fun _ => True) h)) (li_Qw (S := (Nat → Int) × (Int)) (dC, dI) CL (fun u => (u.1, u.2) = puM (ca, mls) x sh ∧ mls ≤ u.2 ∧ u.2 ≤ mls + 1 ∧ (C2 ca → C2 u.1)) (fun _ => none) (fun u => [(mo, .inr (10, [.int (iI mrf), .ref (ma 0), .int (iI mz), .ref (ma 1), .ref (ma 2), .int (iI u.2), .int (iI mfp), .int (iI mfm), .ref (ma 3), .int (iI mtx), .ref (ma 4), .ref (ma 5), .int (iI mwd), .ref (ma 6), .ref (ma 7), .int (iI mak), .ref (ma 8), .ref (ma 9), .int (iI mli), .int (iI mlx), .ref (ma 10), .ref (ma 11), .int (iI mat), .int (iI mtk), .int (iI mtf), .int (iI mtt), .int (iI mfa), .int (iI mla), .int (iI mlp), .int (iI mdp), .ref (ma 12), .ref (ma 13), .int (iI msi), .int (iI (bI mdn)), .int (iI mpf), .int (iI mpt)])), (ma 1, .inl (kA 0, 4120, .inl (aI u.1)))]) (va_A [(mo, .inr (10, [.int (iI mrf), .ref (ma 0), .int (iI mz), .ref (ma 1), .ref (ma 2), .int (iI mls), .int (iI mfp), .int (iI mfm), .ref (ma 3), .int (iI mtx), .ref (ma 4), .ref (ma 5), .int (iI mwd), .ref (ma 6), .ref (ma 7), .int (iI mak), .ref (ma 8), .ref (ma 9), .int (iI mli), .int (iI mlx), .ref (ma 10), .ref (ma 11), .int (iI mat), .int (iI mtk), .int (iI mtf), .int (iI mtt), .int (iI mfa), .int (iI mla), .int (iI mlp), .int (iI mdp), .ref (ma 12), .ref (ma 13), .int (iI msi), .int (iI (bI mdn)), .int (iI mpf), .int (iI mpt)])), (ma 1, .inl (kA 0, 4120, .inl (aI ca)))] sz)) 0 0 (va_A [(mo, .inr (10, [.int (iI mrf), .ref (ma 0), .int (iI mz), .ref (ma 1), .ref (ma 2), .int (iI mls), .int (iI mfp), .int (iI mfm), .ref (ma 3), .int (iI mtx), .ref (ma 4), .ref (ma 5), .int (iI mwd), .ref (ma 6), .ref (ma 7), .int (iI mak), .ref (ma 8), .ref (ma 9), .int (iI mli), .int (iI mlx), .ref (ma 10), .ref (ma 11), .int (iI mat), .int (iI mtk), .int (iI mtf), .int (iI mtt), .int (iI mfa), .int (iI mla), .int (iI mlp), .int (iI mdp), .ref (ma 12), .ref (ma 13), .int (iI msi), .int (iI (bI mdn)), .int (iI mpf), .int (iI mpt)])), (ma 1, .inl (kA 0, 4120, .inl (aI ca)))] sz) := by
  refine li_mwv (by decide) (Nat.le_of_ble_eq_true rfl) ?_
  intro p e s m args below meth c Q A C hP hD hBx hK hN hG hA hAi hAN fin ls hl
  obtain ⟨hx, hb, hr, hml, hown, hts, hlocks, hin⟩ := C
  have hown : s.vm.findClass R_M = some m.cls := hown
  have hl : lv_has ls 4 [(0, .ref mo), (1, .int (iI x)), (2, .int (iI sh))] := hl
  suffices h9 : ∀ (H : Heap) (locs : List Loc), H = s.heap → locs = [] → W p l e (rmd 0 0 0) s m args below meth c H locs 0 0 Q (F0 m 0 ls []) from h9 _ _ rfl rfl
  intro H locs eH eL
  have hP : va_P (dC, dI) CL [(mo, .inr (10, [.int (iI mrf), .ref (ma 0), .int (iI mz), .ref (ma 1), .ref (ma 2), .int (iI mls), .int (iI mfp), .int (iI mfm), .ref (ma 3), .int (iI mtx), .ref (ma 4), .ref (ma 5), .int (iI mwd), .ref (ma 6), .ref (ma 7), .int (iI mak), .ref (ma 8), .ref (ma 9), .int (iI mli), .int (iI mlx), .ref (ma 10), .ref (ma 11), .int (iI mat), .int (iI mtk), .int (iI mtf), .int (iI mtt), .int (iI mfa), .int (iI mla), .int (iI mlp), .int (iI mdp), .ref (ma 12), .ref (ma 13), .int (iI msi), .int (iI (bI mdn)), .int (iI mpf), .int (iI mpt)])), (ma 1, .inl (kA 0, 4120, .inl (aI ca)))] H := by rw [eH]; exact hP
  have hS : va_S A s.heap H locs := by rw [eH, eL]; exact va_S.rf
  refine lv_iload_n hx hb d_M_put_0 rfl (lv_at hl 1 rfl) ?_
  refine lv_iload_n hx hb d_M_put_1 rfl (lv_at hl 2 rfl) ?_
  refine li_ishrI hx hb d_M_put_2 ?_
  refine lv_sipush (v := iI 255) hx hb d_M_put_3 (by decide) ?_
  refine li_iandI hx hb d_M_put_6 ?_
  refine li_nm (fun cx ecx => ?_)
  refine lv_istore_n (lv' := [(3, .int (iI cx)), (0, .ref mo), (1, .int (iI x)), (2, .int (iI sh))]) hx hb d_M_put_7 rfl hl (by decide) rfl (fun ls hl => ?_)
  have hcx := and255_r (shrI x sh)
  rw [← ecx] at hcx
  refine lv_iload_n hx hb d_M_put_8 rfl (lv_at hl 0 rfl) ?_
  refine li_if_le (tgt := 45) hx hb d_M_put_9 (by decide) (by omega) (fun c1 => ?_) (fun c1 => ?_)
  · have _q := c1
    exact fin (ca, mls) _ _ _ _ (by show (ca, mls) = puM (ca, mls) x sh ∧ mls ≤ mls ∧ mls ≤ mls + 1 ∧ (C2 ca → C2 ca); refine ⟨by (unfold puM; rw [← ecx]; first | (rw [if_neg (by omega)]; done) | (rw [if_pos (by omega)]; simp only; first | (rw [if_pos (by omega), en_l]; done) | (rw [if_neg (by omega), en_l]; done))), by omega, by omega, by first | exact id | exact C2_up (by omega)⟩) (by first | exact hP | (subst_vars; exact hP)) (by first | exact hD | (subst_vars; exact hD)) hS d_M_put_45
  · have _q := c1
    refine lv_aload_n hx hb d_M_put_12 rfl (lv_at hl 1 rfl) ?_
    refine gf_M_174 hx hb hts hown hK hP 0 rfl rfl d_M_put_13 ?_
    refine lv_bipush (v := iI 100) hx hb d_M_put_16 (by decide) ?_
    refine li_icmp_ge (tgt := 35) hx hb d_M_put_18 (by decide) (by omega) (by omega) (fun c2 => ?_) (fun c2 => ?_)
    · have _q := c2
      refine lv_aload_n hx hb d_M_put_35 rfl (lv_at hl 1 rfl) ?_
      refine lv_dup hx hb d_M_put_36 rfl ?_
      refine gf_M_174 hx hb hts hown hK hP 0 rfl rfl d_M_put_37 ?_
      refine lv_iconst (v := iI 1) hx hb d_M_put_40 rfl ?_
      refine li_iadd hx hb d_M_put_41 ?_
      refine li_nm (fun n_l en_l => ?_)
      refine pf_M_174 hx hb hts hown hK hP hD hS 0 rfl (Nat.le_of_ble_eq_true rfl) d_M_put_42 (fun H locs hP hD hS => ?_)
      have hP : va_P (dC, dI) CL [(mo, .inr (10, [.int (iI mrf), .ref (ma 0), .int (iI mz), .ref (ma 1), .ref (ma 2), .int (iI n_l), .int (iI mfp), .int (iI mfm), .ref (ma 3), .int (iI mtx), .ref (ma 4), .ref (ma 5), .int (iI mwd), .ref (ma 6), .ref (ma 7), .int (iI mak), .ref (ma 8), .ref (ma 9), .int (iI mli), .int (iI mlx), .ref (ma 10), .ref (ma 11), .int (iI mat), .int (iI mtk), .int (iI mtf), .int (iI mtt), .int (iI mfa), .int (iI mla), .int (iI mlp), .int (iI mdp), .ref (ma 12), .ref (ma 13), .int (iI msi), .int (iI (bI mdn)), .int (iI mpf), .int (iI mpt)])), (ma 1, .inl (kA 0, 4120, .inl (aI ca)))] H := hP
      have hD : va_D A [(mo, .inr (10, [.int (iI mrf), .ref (ma 0), .int (iI mz), .ref (ma 1), .ref (ma 2), .int (iI n_l), .int (iI mfp), .int (iI mfm), .ref (ma 3), .int (iI mtx), .ref (ma 4), .ref (ma 5), .int (iI mwd), .ref (ma 6), .ref (ma 7), .int (iI mak), .ref (ma 8), .ref (ma 9), .int (iI mli), .int (iI mlx), .ref (ma 10), .ref (ma 11), .int (iI mat), .int (iI mtk), .int (iI mtf), .int (iI mtt), .int (iI mfa), .int (iI mla), .int (iI mlp), .int (iI mdp), .ref (ma 12), .ref (ma 13), .int (iI msi), .int (iI (bI mdn)), .int (iI mpf), .int (iI mpt)])), (ma 1, .inl (kA 0, 4120, .inl (aI ca)))] := hD
      exact fin (ca, n_l) _ _ _ _ (by show (ca, n_l) = puM (ca, mls) x sh ∧ mls ≤ n_l ∧ n_l ≤ mls + 1 ∧ (C2 ca → C2 ca); refine ⟨by (unfold puM; rw [← ecx]; first | (rw [if_neg (by omega)]; done) | (rw [if_pos (by omega)]; simp only; first | (rw [if_pos (by omega), en_l]; done) | (rw [if_neg (by omega), en_l]; done))), by omega, by omega, by first | exact id | exact C2_up (by omega)⟩) (by first | exact hP | (subst_vars; exact hP)) (by first | exact hD | (subst_vars; exact hD)) hS d_M_put_45
    · have _q := c2
      refine lv_aload_n hx hb d_M_put_21 rfl (lv_at hl 1 rfl) ?_
      refine gf_M_13 hx hb hts hown hK hP 0 rfl rfl d_M_put_22 ?_
      refine lv_sipush (v := iI 4000) hx hb d_M_put_25 (by decide) ?_
      refine lv_aload_n hx hb d_M_put_28 rfl (lv_at hl 1 rfl) ?_
      refine gf_M_174 hx hb hts hown hK hP 0 rfl rfl d_M_put_29 ?_
      refine li_iadd hx hb d_M_put_32 ?_
      refine lv_iload_n hx hb d_M_put_33 rfl (lv_at hl 0 rfl) ?_
      refine li_iast hx hb hK hP hD hS 1 0 rfl rfl (by omega) (by omega) (by omega) d_M_put_34 (fun H locs hP hD hS => ?_)
      have hP : va_P (dC, dI) CL [(mo, .inr (10, [.int (iI mrf), .ref (ma 0), .int (iI mz), .ref (ma 1), .ref (ma 2), .int (iI mls), .int (iI mfp), .int (iI mfm), .ref (ma 3), .int (iI mtx), .ref (ma 4), .ref (ma 5), .int (iI mwd), .ref (ma 6), .ref (ma 7), .int (iI mak), .ref (ma 8), .ref (ma 9), .int (iI mli), .int (iI mlx), .ref (ma 10), .ref (ma 11), .int (iI mat), .int (iI mtk), .int (iI mtf), .int (iI mtt), .int (iI mfa), .int (iI mla), .int (iI mlp), .int (iI mdp), .ref (ma 12), .ref (ma 13), .int (iI msi), .int (iI (bI mdn)), .int (iI mpf), .int (iI mpt)])), (ma 1, .inl (kA 0, 4120, .inl (aI (va_up ca ((4000 + mls).toNat) cx))))] H := hP
      have hD : va_D A [(mo, .inr (10, [.int (iI mrf), .ref (ma 0), .int (iI mz), .ref (ma 1), .ref (ma 2), .int (iI mls), .int (iI mfp), .int (iI mfm), .ref (ma 3), .int (iI mtx), .ref (ma 4), .ref (ma 5), .int (iI mwd), .ref (ma 6), .ref (ma 7), .int (iI mak), .ref (ma 8), .ref (ma 9), .int (iI mli), .int (iI mlx), .ref (ma 10), .ref (ma 11), .int (iI mat), .int (iI mtk), .int (iI mtf), .int (iI mtt), .int (iI mfa), .int (iI mla), .int (iI mlp), .int (iI mdp), .ref (ma 12), .ref (ma 13), .int (iI msi), .int (iI (bI mdn)), .int (iI mpf), .int (iI mpt)])), (ma 1, .inl (kA 0, 4120, .inl (aI (va_up ca ((4000 + mls).toNat) cx))))] := hD
      refine lv_aload_n hx hb d_M_put_35 rfl (lv_at hl 1 rfl) ?_
      refine lv_dup hx hb d_M_put_36 rfl ?_
      refine gf_M_174 hx hb hts hown hK hP 0 rfl rfl d_M_put_37 ?_
      refine lv_iconst (v := iI 1) hx hb d_M_put_40 rfl ?_
      refine li_iadd hx hb d_M_put_41 ?_
      refine li_nm (fun n_l en_l => ?_)
      refine pf_M_174 hx hb hts hown hK hP hD hS 0 rfl (Nat.le_of_ble_eq_true rfl) d_M_put_42 (fun H locs hP hD hS => ?_)
      have hP : va_P (dC, dI) CL [(mo, .inr (10, [.int (iI mrf), .ref (ma 0), .int (iI mz), .ref (ma 1), .ref (ma 2), .int (iI n_l), .int (iI mfp), .int (iI mfm), .ref (ma 3), .int (iI mtx), .ref (ma 4), .ref (ma 5), .int (iI mwd), .ref (ma 6), .ref (ma 7), .int (iI mak), .ref (ma 8), .ref (ma 9), .int (iI mli), .int (iI mlx), .ref (ma 10), .ref (ma 11), .int (iI mat), .int (iI mtk), .int (iI mtf), .int (iI mtt), .int (iI mfa), .int (iI mla), .int (iI mlp), .int (iI mdp), .ref (ma 12), .ref (ma 13), .int (iI msi), .int (iI (bI mdn)), .int (iI mpf), .int (iI mpt)])), (ma 1, .inl (kA 0, 4120, .inl (aI (va_up ca ((4000 + mls).toNat) cx))))] H := hP
      have hD : va_D A [(mo, .inr (10, [.int (iI mrf), .ref (ma 0), .int (iI mz), .ref (ma 1), .ref (ma 2), .int (iI n_l), .int (iI mfp), .int (iI mfm), .ref (ma 3), .int (iI mtx), .ref (ma 4), .ref (ma 5), .int (iI mwd), .ref (ma 6), .ref (ma 7), .int (iI mak), .ref (ma 8), .ref (ma 9), .int (iI mli), .int (iI mlx), .ref (ma 10), .ref (ma 11), .int (iI mat), .int (iI mtk), .int (iI mtf), .int (iI mtt), .int (iI mfa), .int (iI mla), .int (iI mlp), .int (iI mdp), .ref (ma 12), .ref (ma 13), .int (iI msi), .int (iI (bI mdn)), .int (iI mpf), .int (iI mpt)])), (ma 1, .inl (kA 0, 4120, .inl (aI (va_up ca ((4000 + mls).toNat) cx))))] := hD
      exact fin (va_up ca ((4000 + mls).toNat) cx, n_l) _ _ _ _ (by show ((va_up ca ((4000 + mls).toNat) cx), n_l) = puM (ca, mls) x sh ∧ mls ≤ n_l ∧ n_l ≤ mls + 1 ∧ (C2 ca → C2 (va_up ca ((4000 + mls).toNat) cx)); refine ⟨by (unfold puM; rw [← ecx]; first | (rw [if_neg (by omega)]; done) | (rw [if_pos (by omega)]; simp only; first | (rw [if_pos (by omega), en_l]; done) | (rw [if_neg (by omega), en_l]; done))), by omega, by omega, by first | exact id | exact C2_up (by omega)⟩) (by first | exact hP | (subst_vars; exact hP)) (by first | exact hD | (subst_vars; exact hD)) hS d_M_put_45
theorem d_M_type_0 : decode b_M_type 0 = .ok (.aload_n 0, 1) := by decide +kernel
theorem d_M_type_1 : decode b_M_type 1 = .ok (.getfield 174, 3) := by decide +kernel
theorem d_M_type_4 : decode b_M_type 4 = .ok (.istore 6, 2) := by decide +kernel
theorem d_M_type_6 : decode b_M_type 6 = .ok (.iconst 0, 1) := by decide +kernel
theorem d_M_type_7 : decode b_M_type 7 = .ok (.istore 7, 2) := by decide +kernel
theorem d_M_type_9 : decode b_M_type 9 = .ok (.iload 7, 2) := by decide +kernel
theorem d_M_type_11 : decode b_M_type 11 = .ok (.iconst 5, 1) := by decide +kernel
theorem d_M_type_12 : decode b_M_type 12 = .ok (.if_icmp .ge 80, 3) := by decide +kernel
theorem d_M_type_15 : decode b_M_type 15 = .ok (.iload 7, 2) := by decide +kernel
theorem d_M_type_17 : decode b_M_type 17 = .ok (.ifCond .ne 7, 3) := by decide +kernel
theorem d_M_type_20 : decode b_M_type 20 = .ok (.iload_n 1, 1) := by decide +kernel
theorem d_M_type_21 : decode b_M_type 21 = .ok (.goto 36, 3) := by decide +kernel
theorem d_M_type_24 : decode b_M_type 24 = .ok (.iload 7, 2) := by decide +kernel
theorem d_M_type_26 : decode b_M_type 26 = .ok (.iconst 1, 1) := by decide +kernel
theorem d_M_type_27 : decode b_M_type 27 = .ok (.if_icmp .ne 7, 3) := by decide +kernel
theorem d_M_type_30 : decode b_M_type 30 = .ok (.iload_n 2, 1) := by decide +kernel
theorem d_M_type_31 : decode b_M_type 31 = .ok (.goto 26, 3) := by decide +kernel
theorem d_M_type_34 : decode b_M_type 34 = .ok (.iload 7, 2) := by decide +kernel
theorem d_M_type_36 : decode b_M_type 36 = .ok (.iconst 2, 1) := by decide +kernel
theorem d_M_type_37 : decode b_M_type 37 = .ok (.if_icmp .ne 7, 3) := by decide +kernel
theorem d_M_type_40 : decode b_M_type 40 = .ok (.iload_n 3, 1) := by decide +kernel
theorem d_M_type_41 : decode b_M_type 41 = .ok (.goto 16, 3) := by decide +kernel
theorem d_M_type_44 : decode b_M_type 44 = .ok (.iload 7, 2) := by decide +kernel
theorem d_M_type_46 : decode b_M_type 46 = .ok (.iconst 3, 1) := by decide +kernel
theorem d_M_type_47 : decode b_M_type 47 = .ok (.if_icmp .ne 8, 3) := by decide +kernel
theorem d_M_type_50 : decode b_M_type 50 = .ok (.iload 4, 2) := by decide +kernel
theorem d_M_type_52 : decode b_M_type 52 = .ok (.goto 5, 3) := by decide +kernel
theorem d_M_type_55 : decode b_M_type 55 = .ok (.iload 5, 2) := by decide +kernel
theorem d_M_type_57 : decode b_M_type 57 = .ok (.istore 8, 2) := by decide +kernel
theorem d_M_type_59 : decode b_M_type 59 = .ok (.bipush 24, 2) := by decide +kernel
theorem d_M_type_61 : decode b_M_type 61 = .ok (.istore 9, 2) := by decide +kernel
theorem d_M_type_63 : decode b_M_type 63 = .ok (.iload 9, 2) := by decide +kernel
theorem d_M_type_65 : decode b_M_type 65 = .ok (.ifCond .lt 21, 3) := by decide +kernel
theorem d_M_type_68 : decode b_M_type 68 = .ok (.aload_n 0, 1) := by decide +kernel
theorem d_M_type_69 : decode b_M_type 69 = .ok (.iload 8, 2) := by decide +kernel
theorem d_M_type_71 : decode b_M_type 71 = .ok (.iload 9, 2) := by decide +kernel
theorem d_M_type_73 : decode b_M_type 73 = .ok (.invokevirtual 177, 3) := by decide +kernel
theorem d_M_type_76 : decode b_M_type 76 = .ok (.iload 9, 2) := by decide +kernel
theorem d_M_type_78 : decode b_M_type 78 = .ok (.bipush 8, 2) := by decide +kernel
theorem d_M_type_80 : decode b_M_type 80 = .ok (.isub, 1) := by decide +kernel
theorem d_M_type_81 : decode b_M_type 81 = .ok (.istore 9, 2) := by decide +kernel
theorem d_M_type_83 : decode b_M_type 83 = .ok (.goto (-20), 3) := by decide +kernel
theorem d_M_type_86 : decode b_M_type 86 = .ok (.iinc 7 1, 3) := by decide +kernel
theorem d_M_type_89 : decode b_M_type 89 = .ok (.goto (-80), 3) := by decide +kernel
theorem d_M_type_92 : decode b_M_type 92 = .ok (.aload_n 0, 1) := by decide +kernel
theorem d_M_type_93 : decode b_M_type 93 = .ok (.aload_n 0, 1) := by decide +kernel
theorem d_M_type_94 : decode b_M_type 94 = .ok (.getfield 174, 3) := by decide +kernel
theorem d_M_type_97 : decode b_M_type 97 = .ok (.bipush 100, 2) := by decide +kernel
theorem d_M_type_99 : decode b_M_type 99 = .ok (.if_icmp .le 7, 3) := by decide +kernel
theorem d_M_type_102 : decode b_M_type 102 = .ok (.iconst 1, 1) := by decide +kernel
theorem d_M_type_103 : decode b_M_type 103 = .ok (.goto 4, 3) := by decide +kernel
theorem d_M_type_106 : decode b_M_type 106 = .ok (.iconst 0, 1) := by decide +kernel
theorem d_M_type_107 : decode b_M_type 107 = .ok (.invokevirtual 69, 3) := by decide +kernel
theorem d_M_type_110 : decode b_M_type 110 = .ok (.ifCond .eq 11, 3) := by decide +kernel
theorem d_M_type_113 : decode b_M_type 113 = .ok (.aload_n 0, 1) := by decide +kernel
theorem d_M_type_114 : decode b_M_type 114 = .ok (.iload 6, 2) := by decide +kernel
theorem d_M_type_116 : decode b_M_type 116 = .ok (.putfield 174, 3) := by decide +kernel
theorem d_M_type_119 : decode b_M_type 119 = .ok (.iconst 0, 1) := by decide +kernel
theorem d_M_type_120 : decode b_M_type 120 = .ok (.ireturn, 1) := by decide +kernel
theorem d_M_type_121 : decode b_M_type 121 = .ok (.aload_n 0, 1) := by decide +kernel
theorem d_M_type_122 : decode b_M_type 122 = .ok (.getfield 174, 3) := by decide +kernel
theorem d_M_type_125 : decode b_M_type 125 = .ok (.ireturn, 1) := by decide +kernel
set_option maxHeartbeats 4000000 in
set_option maxRecDepth 100000 in
theorem c_M_type (l : Launch) (dC : Nat → ClassId) (dI : Nat → Nat → Nat) (kA : Nat → ClassId) (sz : Nat) (mo : Nat) (ma : Nat → Nat) (mrf : Int) (mz : Int) (mls : Int) (mfp : Int) (mfm : Int) (mtx : Int) (mwd : Int) (mak : Int) (mli : Int) (mlx : Int) (mat : Int) (mtk : Int) (mtf : Int) (mtt : Int) (mfa : Int) (mla : Int) (mlp : Int) (mdp : Int) (msi : Int) (mpf : Int) (mpt : Int) (mdn : Bool) (ca : Nat → Int) (a0 : Int) (a1 : Int) (a2 : Int) (a3 : Int) (a4 : Int) (hls : 0 ≤ mls ∧ mls ≤ 100) (hca : C2 ca) : Met l y_M_type (wsy y_M_type b_M_type 10 (some .int)) (rmd 1 0 0) (li_Pr (dC, dI) CL (TY kA) [.ref mo, .int (iI a0), .int (iI a1), .int (iI a2), .int (iI a3), .int (iI a4)] (fun h => h.size = sz ∧ va_P (dC, dI) CL [(mo, .inr (10, [.int (iI mrf), .ref (ma 0), .int (iI mz), .ref (ma 1), .ref (ma 2), .int (iI mls), .int (iI mfp), .int (iI mfm), .ref (ma 3), .int (iI mtx), .ref (ma 4), .ref (ma 5), .int (iI mwd), .ref (ma 6), .ref (ma 7), .int (iI mak), .ref (ma 8), .ref (ma 9), .int (iI mli), .int (iI mlx), .ref (ma 10), .ref (ma 11), .int (iI mat), .int (iI mtk), .int (iI mtf), .int (iI mtt), .int (iI mfa), .int (iI mla), .int (iI mlp), .int (iI mdp), .ref (ma 12), .ref (ma 13), .int (iI msi), .int (iI (bI mdn)), .int (iI mpf), .int (iI mpt)])), (ma 1, .inl (kA 0, 4120, .inl (aI ca)))] h ∧ va_D (fun q => dI 100 0 ≤ q) [(mo, .inr (10, [.int (iI mrf), .ref (ma 0), .int (iI mz), .ref (ma 1), .ref (ma 2), .int (iI mls), .int (iI mfp), .int (iI mfm), .ref (ma 3), .int (iI mtx), .ref (ma 4), .ref (ma 5), .int (iI mwd), .ref (ma 6), .ref (ma 7), .int (iI mak), .ref (ma 8), .ref (ma 9), .int (iI mli), .int (iI mlx), .ref (ma 10), .ref (ma 11), .int (iI mat), .int (iI mtk), .int (iI mtf), .int (iI mtt), .int (iI mfa), .int (iI mla), .int (iI mlp), .int (iI mdp), .ref (ma 12), .ref (ma 13), .int (iI msi), .int (iI (bI mdn)), .int (iI mpf), .int (iI mpt)])), (ma 1, .inl (kA 0, 4120, .inl (aI ca)))] ∧ (fun _ => True) h)) (li_Qw (S := (Nat → Int) × (Int) × (Int) × (Int)) (dC, dI) CL (fun u => C2 u.1 ∧ u.1 = (tyM a0 a1 a2 a3 a4 (ca, mls)).1 ∧ ((100 < (tyM a0 a1 a2 a3 a4 (ca, mls)).2 ∧ u.2.1 = mls ∧ u.2.2.1 = 1 ∧ u.2.2.2 = 0) ∨ (¬ 100 < (tyM a0 a1 a2 a3 a4 (ca, mls)).2 ∧ u.2.1 = (tyM a0 a1 a2 a3 a4 (ca, mls)).2 ∧ u.2.2.1 = 0 ∧ u.2.2.2 = (tyM a0 a1 a2 a3 a4 (ca, mls)).2))) (fun u => some (.int (iI (u.2.2.2)))) (fun u => [(mo, .inr (10, [.int (iI u.2.2.1), .ref (ma 0), .int (iI mz), .ref (ma 1), .ref (ma 2), .int (iI u.2.1), .int (iI mfp), .int (iI mfm), .ref (ma 3), .int (iI mtx), .ref (ma 4), .ref (ma 5), .int (iI mwd), .ref (ma 6), .ref (ma 7), .int (iI mak), .ref (ma 8), .ref (ma 9), .int (iI mli), .int (iI mlx), .ref (ma 10), .ref (ma 11), .int (iI mat), .int (iI mtk), .int (iI mtf), .int (iI mtt), .int (iI mfa), .int (iI mla), .int (iI mlp), .int (iI mdp), .ref (ma 12), .ref (ma 13), .int (iI msi), .int (iI (bI mdn)), .int (iI mpf), .int (iI mpt)])), (ma 1, .inl (kA 0, 4120, .inl (aI u.1)))]) (va_A [(mo, .inr (10, [.int (iI mrf), .ref (ma 0), .int (iI mz), .ref (ma 1), .ref (ma 2), .int (iI mls), .int (iI mfp), .int (iI mfm), .ref (ma 3), .int (iI mtx), .ref (ma 4), .ref (ma 5), .int (iI mwd), .ref (ma 6), .ref (ma 7), .int (iI mak), .ref (ma 8), .ref (ma 9), .int (iI mli), .int (iI mlx), .ref (ma 10), .ref (ma 11), .int (iI mat), .int (iI mtk), .int (iI mtf), .int (iI mtt), .int (iI mfa), .int (iI mla), .int (iI mlp), .int (iI mdp), .ref (ma 12), .ref (ma 13), .int (iI msi), .int (iI (bI mdn)), .int (iI mpf), .int (iI mpt)])), (ma 1, .inl (kA 0, 4120, .inl (aI ca)))] sz)) 0 0 (va_A [(mo, .inr (10, [.int (iI mrf), .ref (ma 0), .int (iI mz), .ref (ma 1), .ref (ma 2), .int (iI mls), .int (iI mfp), .int (iI mfm), .ref (ma 3), .int (iI mtx), .ref (ma 4), .ref (ma 5), .int (iI mwd), .ref (ma 6), .ref (ma 7), .int (iI mak), .ref (ma 8), .ref (ma 9), .int (iI mli), .int (iI mlx), .ref (ma 10), .ref (ma 11), .int (iI mat), .int (iI mtk), .int (iI mtf), .int (iI mtt), .int (iI mfa), .int (iI mla), .int (iI mlp), .int (iI mdp), .ref (ma 12), .ref (ma 13), .int (iI msi), .int (iI (bI mdn)), .int (iI mpf), .int (iI mpt)])), (ma 1, .inl (kA 0, 4120, .inl (aI ca)))] sz) := by
  refine li_mwi (r := fun (u : (Nat → Int) × (Int) × (Int) × (Int)) => u.2.2.2) (by decide) (Nat.le_of_ble_eq_true rfl) (fun u _ => by rfl) ?_
  intro p e s m args below meth c Q A C hP hD hBx hK hN hG hA hAi hAN fin ls hl
  obtain ⟨hx, hb, hr, hml, hown, hts, hlocks, hin⟩ := C
  have hown : s.vm.findClass R_M = some m.cls := hown
  have hl : lv_has ls 10 [(0, .ref mo), (1, .int (iI a0)), (2, .int (iI a1)), (3, .int (iI a2)), (4, .int (iI a3)), (5, .int (iI a4))] := hl
  suffices h9 : ∀ (H : Heap) (locs : List Loc), H = s.heap → locs = [] → W p l e (rmd 1 0 0) s m args below meth c H locs 0 0 Q (F0 m 0 ls []) from h9 _ _ rfl rfl
  intro H locs eH eL
  have hP : va_P (dC, dI) CL [(mo, .inr (10, [.int (iI mrf), .ref (ma 0), .int (iI mz), .ref (ma 1), .ref (ma 2), .int (iI mls), .int (iI mfp), .int (iI mfm), .ref (ma 3), .int (iI mtx), .ref (ma 4), .ref (ma 5), .int (iI mwd), .ref (ma 6), .ref (ma 7), .int (iI mak), .ref (ma 8), .ref (ma 9), .int (iI mli), .int (iI mlx), .ref (ma 10), .ref (ma 11), .int (iI mat), .int (iI mtk), .int (iI mtf), .int (iI mtt), .int (iI mfa), .int (iI mla), .int (iI mlp), .int (iI mdp), .ref (ma 12), .ref (ma 13), .int (iI msi), .int (iI (bI mdn)), .int (iI mpf), .int (iI mpt)])), (ma 1, .inl (kA 0, 4120, .inl (aI ca)))] H := by rw [eH]; exact hP
  have hS : va_S A s.heap H locs := by rw [eH, eL]; exact va_S.rf
  refine lv_aload_n hx hb d_M_type_0 rfl (lv_at hl 0 rfl) ?_
  refine gf_M_174 hx hb hts hown hK hP 0 rfl rfl d_M_type_1 ?_
  refine lv_istore (lv' := [(6, .int (iI mls)), (0, .ref mo), (1, .int (iI a0)), (2, .int (iI a1)), (3, .int (iI a2)), (4, .int (iI a3)), (5, .int (iI a4))]) hx hb d_M_type_4 hl (by decide) rfl (fun ls hl => ?_)
  refine lv_iconst (v := iI 0) hx hb d_M_type_6 rfl ?_
  refine lv_istore (lv' := [(7, .int (iI 0)), (6, .int (iI mls)), (0, .ref mo), (1, .int (iI a0)), (2, .int (iI a1)), (3, .int (iI a2)), (4, .int (iI a3)), (5, .int (iI a4))]) hx hb d_M_type_7 hl (by decide) rfl (fun ls hl => ?_)
  have K_9 : ∀ (nn_9 : Nat) (k : Int) (vf : Nat → Int) (vn : Int), (0 ≤ k ∧ k ≤ 5) → (0 ≤ vn ∧ vn ≤ 100 + 4 * k) → (C2 vf) → (tyN a0 a1 a2 a3 a4 (5 - k).toNat k (vf, vn) = tyM a0 a1 a2 a3 a4 (ca, mls)) → ((5 - (k : Int)).toNat < nn_9) → ∀ (H : Heap) (locs : List Loc), va_P (dC, dI) CL [(mo, .inr (10, [.int (iI mrf), .ref (ma 0), .int (iI mz), .ref (ma 1), .ref (ma 2), .int (iI vn), .int (iI mfp), .int (iI mfm), .ref (ma 3), .int (iI mtx), .ref (ma 4), .ref (ma 5), .int (iI mwd), .ref (ma 6), .ref (ma 7), .int (iI mak), .ref (ma 8), .ref (ma 9), .int (iI mli), .int (iI mlx), .ref (ma 10), .ref (ma 11), .int (iI mat), .int (iI mtk), .int (iI mtf), .int (iI mtt), .int (iI mfa), .int (iI mla), .int (iI mlp), .int (iI mdp), .ref (ma 12), .ref (ma 13), .int (iI msi), .int (iI (bI mdn)), .int (iI mpf), .int (iI mpt)])), (ma 1, .inl (kA 0, 4120, .inl (aI vf)))] H → va_D A [(mo, .inr (10, [.int (iI mrf), .ref (ma 0), .int (iI mz), .ref (ma 1), .ref (ma 2), .int (iI vn), .int (iI mfp), .int (iI mfm), .ref (ma 3), .int (iI mtx), .ref (ma 4), .ref (ma 5), .int (iI mwd), .ref (ma 6), .ref (ma 7), .int (iI mak), .ref (ma 8), .ref (ma 9), .int (iI mli), .int (iI mlx), .ref (ma 10), .ref (ma 11), .int (iI mat), .int (iI mtk), .int (iI mtf), .int (iI mtt), .int (iI mfa), .int (iI mla), .int (iI mlp), .int (iI mdp), .ref (ma 12), .ref (ma 13), .int (iI msi), .int (iI (bI mdn)), .int (iI mpf), .int (iI mpt)])), (ma 1, .inl (kA 0, 4120, .inl (aI vf)))] → va_S A s.heap H locs → ∀ ls : Array Slot, lv_has ls 10 [(7, .int (iI k)), (6, .int (iI mls)), (0, .ref mo), (1, .int (iI a0)), (2, .int (iI a1)), (3, .int (iI a2)), (4, .int (iI a3)), (5, .int (iI a4))] → W p l e (rmd 1 0 0) s m args below meth c H locs 0 0 Q (F0 m 9 ls []) := by
    intro nn_9
    induction nn_9 with
    | zero => intro k vf vn hk9 hvn hvf hres hm; exact absurd hm (Nat.not_lt_zero _)
    | succ nn_9 ih_9 =>
      intro k vf vn hk9 hvn hvf hres hm_9 H locs hP hD hS ls hl
      refine lv_iload hx hb d_M_type_9 (lv_at hl 0 rfl) ?_
      refine lv_iconst (v := iI 5) hx hb d_M_type_11 rfl ?_
      refine li_icmp_ge (tgt := 92) hx hb d_M_type_12 (by decide) (by omega) (by omega) (fun c1 => ?_) (fun c1 => ?_)
      · have _q := c1
        rw [show (5 - k).toNat = 0 by omega] at hres
        simp only [tyN] at hres
        refine lv_aload_n hx hb d_M_type_92 rfl (lv_at hl 2 rfl) ?_
        refine lv_aload_n hx hb d_M_type_93 rfl (lv_at hl 2 rfl) ?_
        refine gf_M_174 hx hb hts hown hK hP 0 rfl rfl d_M_type_94 ?_
        refine lv_bipush (v := iI 100) hx hb d_M_type_97 (by decide) ?_
        refine li_icmp_le (tgt := 106) hx hb d_M_type_99 (by decide) (by omega) (by omega) (fun c2 => ?_) (fun c2 => ?_)
        · have _q := c2
          refine lv_iconst (v := iI 0) hx hb d_M_type_106 rfl ?_
          refine li_callw (wc := [(mo, .inr (10, [.int (iI mrf), .ref (ma 0), .int (iI mz), .ref (ma 1), .ref (ma 2), .int (iI vn), .int (iI mfp), .int (iI mfm), .ref (ma 3), .int (iI mtx), .ref (ma 4), .ref (ma 5), .int (iI mwd), .ref (ma 6), .ref (ma 7), .int (iI mak), .ref (ma 8), .ref (ma 9), .int (iI mli), .int (iI mlx), .ref (ma 10), .ref (ma 11), .int (iI mat), .int (iI mtk), .int (iI mtf), .int (iI mtt), .int (iI mfa), .int (iI mla), .int (iI mlp), .int (iI mdp), .ref (ma 12), .ref (ma 13), .int (iI msi), .int (iI (bI mdn)), .int (iI mpf), .int (iI mpt)]))]) (wr := [(ma 1, .inl (kA 0, 4120, .inl (aI vf)))]) (va_runV (As := [.int (iI 0)]) (rest := []) ⟨hx, hb, hml, hown, hts⟩ (c_M_refused l dC dI kA H.size mo ma mrf mz vn mfp mfm mtx mwd mak mli mlx mat mtk mtf mtt mfa mla mlp mdp msi mpf mpt mdn 0 (by omega)) (cw_M_69 hts rfl rfl ⟨Nat.le_of_ble_eq_true rfl, Nat.le_of_ble_eq_true rfl⟩) (li_preV (va_recv hK hP (ci := 10) (q0 := 0) rfl rfl) ⟨rfl, hP.sub [0] rfl, (hD.sub [0] (by decide) rfl).weaken (fun _ _ _ h => hAN _ h), trivial⟩ hK hN (hG.go hS hAN)) rfl rfl hl.1 rfl (lv_room (Nat.le_of_ble_eq_true rfl)) d_M_type_107 ⟨(by show 0 + 0 ≤ 0; omega), (by show 0 + 0 ≤ 0; omega)⟩) hP hD hS hA [0] [1] rfl rfl (by decide) (by decide) (fun u3 H locs hu3 hP hD hS _hk => ?_)
          have hP : va_P (dC, dI) CL [(ma 1, .inl (kA 0, 4120, .inl (aI vf))), (mo, .inr (10, [.int (iI 0), .ref (ma 0), .int (iI mz), .ref (ma 1), .ref (ma 2), .int (iI vn), .int (iI mfp), .int (iI mfm), .ref (ma 3), .int (iI mtx), .ref (ma 4), .ref (ma 5), .int (iI mwd), .ref (ma 6), .ref (ma 7), .int (iI mak), .ref (ma 8), .ref (ma 9), .int (iI mli), .int (iI mlx), .ref (ma 10), .ref (ma 11), .int (iI mat), .int (iI mtk), .int (iI mtf), .int (iI mtt), .int (iI mfa), .int (iI mla), .int (iI mlp), .int (iI mdp), .ref (ma 12), .ref (ma 13), .int (iI msi), .int (iI (bI mdn)), .int (iI mpf), .int (iI mpt)]))] H := hP
          have hD : va_D A [(ma 1, .inl (kA 0, 4120, .inl (aI vf))), (mo, .inr (10, [.int (iI 0), .ref (ma 0), .int (iI mz), .ref (ma 1), .ref (ma 2), .int (iI vn), .int (iI mfp), .int (iI mfm), .ref (ma 3), .int (iI mtx), .ref (ma 4), .ref (ma 5), .int (iI mwd), .ref (ma 6), .ref (ma 7), .int (iI mak), .ref (ma 8), .ref (ma 9), .int (iI mli), .int (iI mlx), .ref (ma 10), .ref (ma 11), .int (iI mat), .int (iI mtk), .int (iI mtf), .int (iI mtt), .int (iI mfa), .int (iI mla), .int (iI mlp), .int (iI mdp), .ref (ma 12), .ref (ma 13), .int (iI msi), .int (iI (bI mdn)), .int (iI mpf), .int (iI mpt)]))] := hD
          refine li_bz (tgt := 121) hx hb d_M_type_110 (by decide) (fun c4 => ?_) (fun c4 => ?_)
          · have _q := c4
            refine lv_aload_n hx hb d_M_type_121 rfl (lv_at hl 2 rfl) ?_
            refine gf_M_174 hx hb hts hown hK hP 1 rfl rfl d_M_type_122 ?_
            exact fin (vf, vn, 0, vn) _ _ _ _ _ (by rfl) (by show C2 vf ∧ vf = (tyM a0 a1 a2 a3 a4 (ca, mls)).1 ∧ ((100 < (tyM a0 a1 a2 a3 a4 (ca, mls)).2 ∧ vn = mls ∧ 0 = 1 ∧ vn = 0) ∨ (¬ 100 < (tyM a0 a1 a2 a3 a4 (ca, mls)).2 ∧ vn = (tyM a0 a1 a2 a3 a4 (ca, mls)).2 ∧ 0 = 0 ∧ vn = (tyM a0 a1 a2 a3 a4 (ca, mls)).2)); exact ⟨hvf, by rw [← hres], Or.inr ⟨by rw [← hres]; simp only; omega, by rw [← hres], rfl, by rw [← hres]⟩⟩) (by first | exact hP.sub [1, 0] rfl | (subst_vars; exact hP.sub [1, 0] rfl)) (by first | exact hD.sub [1, 0] (by decide) rfl | (subst_vars; exact hD.sub [1, 0] (by decide) rfl)) hS d_M_type_125
          · have _q := c4
            exact absurd c4 (by decide)
        · have _q := c2
          refine lv_iconst (v := iI 1) hx hb d_M_type_102 rfl ?_
          refine lv_goto (tgt := 107) hx hb d_M_type_103 (by decide) ?_
          refine li_callw (wc := [(mo, .inr (10, [.int (iI mrf), .ref (ma 0), .int (iI mz), .ref (ma 1), .ref (ma 2), .int (iI vn), .int (iI mfp), .int (iI mfm), .ref (ma 3), .int (iI mtx), .ref (ma 4), .ref (ma 5), .int (iI mwd), .ref (ma 6), .ref (ma 7), .int (iI mak), .ref (ma 8), .ref (ma 9), .int (iI mli), .int (iI mlx), .ref (ma 10), .ref (ma 11), .int (iI mat), .int (iI mtk), .int (iI mtf), .int (iI mtt), .int (iI mfa), .int (iI mla), .int (iI mlp), .int (iI mdp), .ref (ma 12), .ref (ma 13), .int (iI msi), .int (iI (bI mdn)), .int (iI mpf), .int (iI mpt)]))]) (wr := [(ma 1, .inl (kA 0, 4120, .inl (aI vf)))]) (va_runV (As := [.int (iI 1)]) (rest := []) ⟨hx, hb, hml, hown, hts⟩ (c_M_refused l dC dI kA H.size mo ma mrf mz vn mfp mfm mtx mwd mak mli mlx mat mtk mtf mtt mfa mla mlp mdp msi mpf mpt mdn 1 (by omega)) (cw_M_69 hts rfl rfl ⟨Nat.le_of_ble_eq_true rfl, Nat.le_of_ble_eq_true rfl⟩) (li_preV (va_recv hK hP (ci := 10) (q0 := 0) rfl rfl) ⟨rfl, hP.sub [0] rfl, (hD.sub [0] (by decide) rfl).weaken (fun _ _ _ h => hAN _ h), trivial⟩ hK hN (hG.go hS hAN)) rfl rfl hl.1 rfl (lv_room (Nat.le_of_ble_eq_true rfl)) d_M_type_107 ⟨(by show 0 + 0 ≤ 0; omega), (by show 0 + 0 ≤ 0; omega)⟩) hP hD hS hA [0] [1] rfl rfl (by decide) (by decide) (fun u5 H locs hu5 hP hD hS _hk => ?_)
          have hP : va_P (dC, dI) CL [(ma 1, .inl (kA 0, 4120, .inl (aI vf))), (mo, .inr (10, [.int (iI 1), .ref (ma 0), .int (iI mz), .ref (ma 1), .ref (ma 2), .int (iI vn), .int (iI mfp), .int (iI mfm), .ref (ma 3), .int (iI mtx), .ref (ma 4), .ref (ma 5), .int (iI mwd), .ref (ma 6), .ref (ma 7), .int (iI mak), .ref (ma 8), .ref (ma 9), .int (iI mli), .int (iI mlx), .ref (ma 10), .ref (ma 11), .int (iI mat), .int (iI mtk), .int (iI mtf), .int (iI mtt), .int (iI mfa), .int (iI mla), .int (iI mlp), .int (iI mdp), .ref (ma 12), .ref (ma 13), .int (iI msi), .int (iI (bI mdn)), .int (iI mpf), .int (iI mpt)]))] H := hP
          have hD : va_D A [(ma 1, .inl (kA 0, 4120, .inl (aI vf))), (mo, .inr (10, [.int (iI 1), .ref (ma 0), .int (iI mz), .ref (ma 1), .ref (ma 2), .int (iI vn), .int (iI mfp), .int (iI mfm), .ref (ma 3), .int (iI mtx), .ref (ma 4), .ref (ma 5), .int (iI mwd), .ref (ma 6), .ref (ma 7), .int (iI mak), .ref (ma 8), .ref (ma 9), .int (iI mli), .int (iI mlx), .ref (ma 10), .ref (ma 11), .int (iI mat), .int (iI mtk), .int (iI mtf), .int (iI mtt), .int (iI mfa), .int (iI mla), .int (iI mlp), .int (iI mdp), .ref (ma 12), .ref (ma 13), .int (iI msi), .int (iI (bI mdn)), .int (iI mpf), .int (iI mpt)]))] := hD
          refine li_bz (tgt := 121) hx hb d_M_type_110 (by decide) (fun c6 => ?_) (fun c6 => ?_)
          · have _q := c6
            exact absurd c6 (by decide)
          · have _q := c6
            refine lv_aload_n hx hb d_M_type_113 rfl (lv_at hl 2 rfl) ?_
            refine lv_iload hx hb d_M_type_114 (lv_at hl 1 rfl) ?_
            refine pf_M_174 hx hb hts hown hK hP hD hS 1 rfl (Nat.le_of_ble_eq_true rfl) d_M_type_116 (fun H locs hP hD hS => ?_)
            have hP : va_P (dC, dI) CL [(ma 1, .inl (kA 0, 4120, .inl (aI vf))), (mo, .inr (10, [.int (iI 1), .ref (ma 0), .int (iI mz), .ref (ma 1), .ref (ma 2), .int (iI mls), .int (iI mfp), .int (iI mfm), .ref (ma 3), .int (iI mtx), .ref (ma 4), .ref (ma 5), .int (iI mwd), .ref (ma 6), .ref (ma 7), .int (iI mak), .ref (ma 8), .ref (ma 9), .int (iI mli), .int (iI mlx), .ref (ma 10), .ref (ma 11), .int (iI mat), .int (iI mtk), .int (iI mtf), .int (iI mtt), .int (iI mfa), .int (iI mla), .int (iI mlp), .int (iI mdp), .ref (ma 12), .ref (ma 13), .int (iI msi), .int (iI (bI mdn)), .int (iI mpf), .int (iI mpt)]))] H := hP
            have hD : va_D A [(ma 1, .inl (kA 0, 4120, .inl (aI vf))), (mo, .inr (10, [.int (iI 1), .ref (ma 0), .int (iI mz), .ref (ma 1), .ref (ma 2), .int (iI mls), .int (iI mfp), .int (iI mfm), .ref (ma 3), .int (iI mtx), .ref (ma 4), .ref (ma 5), .int (iI mwd), .ref (ma 6), .ref (ma 7), .int (iI mak), .ref (ma 8), .ref (ma 9), .int (iI mli), .int (iI mlx), .ref (ma 10), .ref (ma 11), .int (iI mat), .int (iI mtk), .int (iI mtf), .int (iI mtt), .int (iI mfa), .int (iI mla), .int (iI mlp), .int (iI mdp), .ref (ma 12), .ref (ma 13), .int (iI msi), .int (iI (bI mdn)), .int (iI mpf), .int (iI mpt)]))] := hD
            refine lv_iconst (v := iI 0) hx hb d_M_type_119 rfl ?_
            exact fin (vf, mls, 1, 0) _ _ _ _ _ (by rfl) (by show C2 vf ∧ vf = (tyM a0 a1 a2 a3 a4 (ca, mls)).1 ∧ ((100 < (tyM a0 a1 a2 a3 a4 (ca, mls)).2 ∧ mls = mls ∧ 1 = 1 ∧ 0 = 0) ∨ (¬ 100 < (tyM a0 a1 a2 a3 a4 (ca, mls)).2 ∧ mls = (tyM a0 a1 a2 a3 a4 (ca, mls)).2 ∧ 1 = 0 ∧ 0 = (tyM a0 a1 a2 a3 a4 (ca, mls)).2)); exact ⟨hvf, by rw [← hres], Or.inl ⟨by rw [← hres]; simp only; omega, rfl, rfl, rfl⟩⟩) (by first | exact hP.sub [1, 0] rfl | (subst_vars; exact hP.sub [1, 0] rfl)) (by first | exact hD.sub [1, 0] (by decide) rfl | (subst_vars; exact hD.sub [1, 0] (by decide) rfl)) hS d_M_type_120
      · have _q := c1
        rw [show (5 - k).toNat = (5 - (k + 1)).toNat + 1 by omega] at hres
        simp only [tyN] at hres
        refine lv_iload hx hb d_M_type_15 (lv_at hl 0 rfl) ?_
        refine li_if_ne (tgt := 24) hx hb d_M_type_17 (by decide) (by omega) (fun c7 => ?_) (fun c7 => ?_)
        · have _q := c7
          refine lv_iload hx hb d_M_type_24 (lv_at hl 0 rfl) ?_
          refine lv_iconst (v := iI 1) hx hb d_M_type_26 rfl ?_
          refine li_icmp_ne (tgt := 34) hx hb d_M_type_27 (by decide) (by omega) (by omega) (fun c8 => ?_) (fun c8 => ?_)
          · have _q := c8
            refine lv_iload hx hb d_M_type_34 (lv_at hl 0 rfl) ?_
            refine lv_iconst (v := iI 2) hx hb d_M_type_36 rfl ?_
            refine li_icmp_ne (tgt := 44) hx hb d_M_type_37 (by decide) (by omega) (by omega) (fun c9 => ?_) (fun c9 => ?_)
            · have _q := c9
              refine lv_iload hx hb d_M_type_44 (lv_at hl 0 rfl) ?_
              refine lv_iconst (v := iI 3) hx hb d_M_type_46 rfl ?_
              refine li_icmp_ne (tgt := 55) hx hb d_M_type_47 (by decide) (by omega) (by omega) (fun c10 => ?_) (fun c10 => ?_)
              · have _q := c10
                refine lv_iload hx hb d_M_type_55 (lv_at hl 7 rfl) ?_
                refine li_nm (fun cel ecel => ?_)
                refine lv_istore (lv' := [(8, .int (iI cel)), (7, .int (iI k)), (6, .int (iI mls)), (0, .ref mo), (1, .int (iI a0)), (2, .int (iI a1)), (3, .int (iI a2)), (4, .int (iI a3)), (5, .int (iI a4))]) hx hb d_M_type_57 hl (by decide) rfl (fun ls hl => ?_)
                have hce : cel = cwM a0 a1 a2 a3 a4 k := by rw [ecel]; unfold cwM; (repeat (first | rw [if_pos (by omega)] | rw [if_neg (by omega)])); first | done | rfl
                refine lv_bipush (v := iI 24) hx hb d_M_type_59 (by decide) ?_
                refine lv_istore (lv' := [(9, .int (iI 24)), (8, .int (iI cel)), (7, .int (iI k)), (6, .int (iI mls)), (0, .ref mo), (1, .int (iI a0)), (2, .int (iI a1)), (3, .int (iI a2)), (4, .int (iI a3)), (5, .int (iI a4))]) hx hb d_M_type_61 hl (by decide) rfl (fun ls hl => ?_)
                have K_63 : ∀ (nn_63 : Nat) (sh : Int) (wf : Nat → Int) (wn : Int), (sh = 24 ∨ sh = 16 ∨ sh = 8 ∨ sh = 0 ∨ sh = -8) → (0 ≤ wn ∧ wn ≤ 100 + 4 * k + (24 - sh) / 8) → (C2 wf) → (puN cel ((sh + 8) / 8).toNat sh (wf, wn) = pu4 (vf, vn) cel) → (((sh : Int) + 8).toNat < nn_63) → ∀ (H : Heap) (locs : List Loc), va_P (dC, dI) CL [(mo, .inr (10, [.int (iI mrf), .ref (ma 0), .int (iI mz), .ref (ma 1), .ref (ma 2), .int (iI wn), .int (iI mfp), .int (iI mfm), .ref (ma 3), .int (iI mtx), .ref (ma 4), .ref (ma 5), .int (iI mwd), .ref (ma 6), .ref (ma 7), .int (iI mak), .ref (ma 8), .ref (ma 9), .int (iI mli), .int (iI mlx), .ref (ma 10), .ref (ma 11), .int (iI mat), .int (iI mtk), .int (iI mtf), .int (iI mtt), .int (iI mfa), .int (iI mla), .int (iI mlp), .int (iI mdp), .ref (ma 12), .ref (ma 13), .int (iI msi), .int (iI (bI mdn)), .int (iI mpf), .int (iI mpt)])), (ma 1, .inl (kA 0, 4120, .inl (aI wf)))] H → va_D A [(mo, .inr (10, [.int (iI mrf), .ref (ma 0), .int (iI mz), .ref (ma 1), .ref (ma 2), .int (iI wn), .int (iI mfp), .int (iI mfm), .ref (ma 3), .int (iI mtx), .ref (ma 4), .ref (ma 5), .int (iI mwd), .ref (ma 6), .ref (ma 7), .int (iI mak), .ref (ma 8), .ref (ma 9), .int (iI mli), .int (iI mlx), .ref (ma 10), .ref (ma 11), .int (iI mat), .int (iI mtk), .int (iI mtf), .int (iI mtt), .int (iI mfa), .int (iI mla), .int (iI mlp), .int (iI mdp), .ref (ma 12), .ref (ma 13), .int (iI msi), .int (iI (bI mdn)), .int (iI mpf), .int (iI mpt)])), (ma 1, .inl (kA 0, 4120, .inl (aI wf)))] → va_S A s.heap H locs → ∀ ls : Array Slot, lv_has ls 10 [(9, .int (iI sh)), (8, .int (iI cel)), (7, .int (iI k)), (6, .int (iI mls)), (0, .ref mo), (1, .int (iI a0)), (2, .int (iI a1)), (3, .int (iI a2)), (4, .int (iI a3)), (5, .int (iI a4))] → W p l e (rmd 1 0 0) s m args below meth c H locs 0 0 Q (F0 m 63 ls []) := by
                  intro nn_63
                  induction nn_63 with
                  | zero => intro sh wf wn hsh hwn hwf hin hm; exact absurd hm (Nat.not_lt_zero _)
                  | succ nn_63 ih_63 =>
                    intro sh wf wn hsh hwn hwf hin hm_63 H locs hP hD hS ls hl
                    refine lv_iload hx hb d_M_type_63 (lv_at hl 0 rfl) ?_
                    refine li_if_lt (tgt := 86) hx hb d_M_type_65 (by decide) (by omega) (fun c11 => ?_) (fun c11 => ?_)
                    · have _q := c11
                      rw [show ((sh + 8) / 8).toNat = 0 by omega] at hin
                      simp only [puN] at hin
                      obtain ⟨k_n, ek_n⟩ : ∃ y_9 : Int, y_9 = k + 1 := ⟨_, rfl⟩
                      refine lv_iinc (v := iI k_n) (lv' := [(7, .int (iI k_n)), (9, .int (iI sh)), (8, .int (iI cel)), (6, .int (iI mls)), (0, .ref mo), (1, .int (iI a0)), (2, .int (iI a1)), (3, .int (iI a2)), (4, .int (iI a3)), (5, .int (iI a4))]) hx hb d_M_type_86 hl (k := 2) rfl (by rw [ek_n]; exact iI_add _ _) (by decide) rfl (fun ls hl => ?_)
                      refine lv_goto (tgt := 9) hx hb d_M_type_89 (by decide) ?_
                      exact ih_9 k_n wf wn (by omega) (by omega) (by exact hwf) (by rw [ek_n, hin, hce]; exact hres) (by omega) _ _ hP hD hS _ (lv_sub hl [0, 3, 4, 5, 6, 7, 8, 9] rfl)
                    · have _q := c11
                      rw [show ((sh + 8) / 8).toNat = (sh / 8).toNat + 1 by omega] at hin
                      simp only [puN] at hin
                      refine lv_aload_n hx hb d_M_type_68 rfl (lv_at hl 4 rfl) ?_
                      refine lv_iload hx hb d_M_type_69 (lv_at hl 1 rfl) ?_
                      refine lv_iload hx hb d_M_type_71 (lv_at hl 0 rfl) ?_
                      refine li_callw (wc := [(mo, .inr (10, [.int (iI mrf), .ref (ma 0), .int (iI mz), .ref (ma 1), .ref (ma 2), .int (iI wn), .int (iI mfp), .int (iI mfm), .ref (ma 3), .int (iI mtx), .ref (ma 4), .ref (ma 5), .int (iI mwd), .ref (ma 6), .ref (ma 7), .int (iI mak), .ref (ma 8), .ref (ma 9), .int (iI mli), .int (iI mlx), .ref (ma 10), .ref (ma 11), .int (iI mat), .int (iI mtk), .int (iI mtf), .int (iI mtt), .int (iI mfa), .int (iI mla), .int (iI mlp), .int (iI mdp), .ref (ma 12), .ref (ma 13), .int (iI msi), .int (iI (bI mdn)), .int (iI mpf), .int (iI mpt)])), (ma 1, .inl (kA 0, 4120, .inl (aI wf)))]) (wr := []) (va_runV (As := [.int (iI cel), .int (iI sh)]) (rest := []) ⟨hx, hb, hml, hown, hts⟩ (c_M_put l dC dI kA H.size mo ma mrf mz wn mfp mfm mtx mwd mak mli mlx mat mtk mtf mtt mfa mla mlp mdp msi mpf mpt mdn wf cel sh (by omega)) (cw_M_177 hts rfl rfl ⟨Nat.le_of_ble_eq_true rfl, Nat.le_of_ble_eq_true rfl⟩) (li_preV (va_recv hK hP (ci := 10) (q0 := 0) rfl rfl) ⟨rfl, hP.sub [0, 1] rfl, (hD.sub [0, 1] (by decide) rfl).weaken (fun _ _ _ h => hAN _ h), trivial⟩ hK hN (hG.go hS hAN)) rfl rfl hl.1 rfl (lv_room (Nat.le_of_ble_eq_true rfl)) d_M_type_73 ⟨(by show 0 + 0 ≤ 0; omega), (by show 0 + 0 ≤ 0; omega)⟩) hP hD hS hA [0, 1] [] rfl rfl (by decide) (by decide) (fun u12 H locs hu12 hP hD hS _hk => ?_)
                      obtain ⟨f_p, n_p⟩ := u12
                      have hP : va_P (dC, dI) CL [(mo, .inr (10, [.int (iI mrf), .ref (ma 0), .int (iI mz), .ref (ma 1), .ref (ma 2), .int (iI n_p), .int (iI mfp), .int (iI mfm), .ref (ma 3), .int (iI mtx), .ref (ma 4), .ref (ma 5), .int (iI mwd), .ref (ma 6), .ref (ma 7), .int (iI mak), .ref (ma 8), .ref (ma 9), .int (iI mli), .int (iI mlx), .ref (ma 10), .ref (ma 11), .int (iI mat), .int (iI mtk), .int (iI mtf), .int (iI mtt), .int (iI mfa), .int (iI mla), .int (iI mlp), .int (iI mdp), .ref (ma 12), .ref (ma 13), .int (iI msi), .int (iI (bI mdn)), .int (iI mpf), .int (iI mpt)])), (ma 1, .inl (kA 0, 4120, .inl (aI f_p)))] H := hP
                      have hD : va_D A [(mo, .inr (10, [.int (iI mrf), .ref (ma 0), .int (iI mz), .ref (ma 1), .ref (ma 2), .int (iI n_p), .int (iI mfp), .int (iI mfm), .ref (ma 3), .int (iI mtx), .ref (ma 4), .ref (ma 5), .int (iI mwd), .ref (ma 6), .ref (ma 7), .int (iI mak), .ref (ma 8), .ref (ma 9), .int (iI mli), .int (iI mlx), .ref (ma 10), .ref (ma 11), .int (iI mat), .int (iI mtk), .int (iI mtf), .int (iI mtt), .int (iI mfa), .int (iI mla), .int (iI mlp), .int (iI mdp), .ref (ma 12), .ref (ma 13), .int (iI msi), .int (iI (bI mdn)), .int (iI mpf), .int (iI mpt)])), (ma 1, .inl (kA 0, 4120, .inl (aI f_p)))] := hD
                      have hp73 : (f_p, n_p) = puM (wf, wn) cel sh ∧ wn ≤ n_p ∧ n_p ≤ wn + 1 ∧ (C2 wf → C2 f_p) := hu12
                      rw [← hp73.1] at hin
                      refine lv_iload hx hb d_M_type_76 (lv_at hl 0 rfl) ?_
                      refine lv_bipush (v := iI 8) hx hb d_M_type_78 (by decide) ?_
                      refine li_isub hx hb d_M_type_80 ?_
                      refine li_nm (fun sh_n esh_n => ?_)
                      refine lv_istore (lv' := [(9, .int (iI sh_n)), (8, .int (iI cel)), (7, .int (iI k)), (6, .int (iI mls)), (0, .ref mo), (1, .int (iI a0)), (2, .int (iI a1)), (3, .int (iI a2)), (4, .int (iI a3)), (5, .int (iI a4))]) hx hb d_M_type_81 hl (by decide) rfl (fun ls hl => ?_)
                      refine lv_goto (tgt := 63) hx hb d_M_type_83 (by decide) ?_
                      exact ih_63 sh_n f_p n_p (by first | exact Or.inl rfl | omega) (by omega) (by exact hp73.2.2.2 hwf) (by rw [esh_n, show (sh - 8 + 8) / 8 = sh / 8 by omega]; exact hin) (by omega) _ _ hP hD hS _ (lv_sub hl [0, 1, 2, 3, 4, 5, 6, 7, 8, 9] rfl)
                exact K_63 (((24 : Int) + 8).toNat + 1) 24 vf vn (by first | exact Or.inl rfl | omega) (by omega) (by exact hvf) (by rfl) (Nat.lt_succ_self _) _ _ hP hD hS _ (lv_sub hl [0, 1, 2, 3, 4, 5, 6, 7, 8, 9] rfl)
              · have _q := c10
                refine lv_iload hx hb d_M_type_50 (lv_at hl 6 rfl) ?_
                refine lv_goto (tgt := 57) hx hb d_M_type_52 (by decide) ?_
                refine li_nm (fun cel ecel => ?_)
                refine lv_istore (lv' := [(8, .int (iI cel)), (7, .int (iI k)), (6, .int (iI mls)), (0, .ref mo), (1, .int (iI a0)), (2, .int (iI a1)), (3, .int (iI a2)), (4, .int (iI a3)), (5, .int (iI a4))]) hx hb d_M_type_57 hl (by decide) rfl (fun ls hl => ?_)
                have hce : cel = cwM a0 a1 a2 a3 a4 k := by rw [ecel]; unfold cwM; (repeat (first | rw [if_pos (by omega)] | rw [if_neg (by omega)])); first | done | rfl
                refine lv_bipush (v := iI 24) hx hb d_M_type_59 (by decide) ?_
                refine lv_istore (lv' := [(9, .int (iI 24)), (8, .int (iI cel)), (7, .int (iI k)), (6, .int (iI mls)), (0, .ref mo), (1, .int (iI a0)), (2, .int (iI a1)), (3, .int (iI a2)), (4, .int (iI a3)), (5, .int (iI a4))]) hx hb d_M_type_61 hl (by decide) rfl (fun ls hl => ?_)
                have K_63 : ∀ (nn_63 : Nat) (sh : Int) (wf : Nat → Int) (wn : Int), (sh = 24 ∨ sh = 16 ∨ sh = 8 ∨ sh = 0 ∨ sh = -8) → (0 ≤ wn ∧ wn ≤ 100 + 4 * k + (24 - sh) / 8) → (C2 wf) → (puN cel ((sh + 8) / 8).toNat sh (wf, wn) = pu4 (vf, vn) cel) → (((sh : Int) + 8).toNat < nn_63) → ∀ (H : Heap) (locs : List Loc), va_P (dC, dI) CL [(mo, .inr (10, [.int (iI mrf), .ref (ma 0), .int (iI mz), .ref (ma 1), .ref (ma 2), .int (iI wn), .int (iI mfp), .int (iI mfm), .ref (ma 3), .int (iI mtx), .ref (ma 4), .ref (ma 5), .int (iI mwd), .ref (ma 6), .ref (ma 7), .int (iI mak), .ref (ma 8), .ref (ma 9), .int (iI mli), .int (iI mlx), .ref (ma 10), .ref (ma 11), .int (iI mat), .int (iI mtk), .int (iI mtf), .int (iI mtt), .int (iI mfa), .int (iI mla), .int (iI mlp), .int (iI mdp), .ref (ma 12), .ref (ma 13), .int (iI msi), .int (iI (bI mdn)), .int (iI mpf), .int (iI mpt)])), (ma 1, .inl (kA 0, 4120, .inl (aI wf)))] H → va_D A [(mo, .inr (10, [.int (iI mrf), .ref (ma 0), .int (iI mz), .ref (ma 1), .ref (ma 2), .int (iI wn), .int (iI mfp), .int (iI mfm), .ref (ma 3), .int (iI mtx), .ref (ma 4), .ref (ma 5), .int (iI mwd), .ref (ma 6), .ref (ma 7), .int (iI mak), .ref (ma 8), .ref (ma 9), .int (iI mli), .int (iI mlx), .ref (ma 10), .ref (ma 11), .int (iI mat), .int (iI mtk), .int (iI mtf), .int (iI mtt), .int (iI mfa), .int (iI mla), .int (iI mlp), .int (iI mdp), .ref (ma 12), .ref (ma 13), .int (iI msi), .int (iI (bI mdn)), .int (iI mpf), .int (iI mpt)])), (ma 1, .inl (kA 0, 4120, .inl (aI wf)))] → va_S A s.heap H locs → ∀ ls : Array Slot, lv_has ls 10 [(9, .int (iI sh)), (8, .int (iI cel)), (7, .int (iI k)), (6, .int (iI mls)), (0, .ref mo), (1, .int (iI a0)), (2, .int (iI a1)), (3, .int (iI a2)), (4, .int (iI a3)), (5, .int (iI a4))] → W p l e (rmd 1 0 0) s m args below meth c H locs 0 0 Q (F0 m 63 ls []) := by
                  intro nn_63
                  induction nn_63 with
                  | zero => intro sh wf wn hsh hwn hwf hin hm; exact absurd hm (Nat.not_lt_zero _)
                  | succ nn_63 ih_63 =>
                    intro sh wf wn hsh hwn hwf hin hm_63 H locs hP hD hS ls hl
                    refine lv_iload hx hb d_M_type_63 (lv_at hl 0 rfl) ?_
                    refine li_if_lt (tgt := 86) hx hb d_M_type_65 (by decide) (by omega) (fun c13 => ?_) (fun c13 => ?_)
                    · have _q := c13
                      rw [show ((sh + 8) / 8).toNat = 0 by omega] at hin
                      simp only [puN] at hin
                      obtain ⟨k_n, ek_n⟩ : ∃ y_9 : Int, y_9 = k + 1 := ⟨_, rfl⟩
                      refine lv_iinc (v := iI k_n) (lv' := [(7, .int (iI k_n)), (9, .int (iI sh)), (8, .int (iI cel)), (6, .int (iI mls)), (0, .ref mo), (1, .int (iI a0)), (2, .int (iI a1)), (3, .int (iI a2)), (4, .int (iI a3)), (5, .int (iI a4))]) hx hb d_M_type_86 hl (k := 2) rfl (by rw [ek_n]; exact iI_add _ _) (by decide) rfl (fun ls hl => ?_)
                      refine lv_goto (tgt := 9) hx hb d_M_type_89 (by decide) ?_
                      exact ih_9 k_n wf wn (by omega) (by omega) (by exact hwf) (by rw [ek_n, hin, hce]; exact hres) (by omega) _ _ hP hD hS _ (lv_sub hl [0, 3, 4, 5, 6, 7, 8, 9] rfl)
                    · have _q := c13
                      rw [show ((sh + 8) / 8).toNat = (sh / 8).toNat + 1 by omega] at hin
                      simp only [puN] at hin
                      refine lv_aload_n hx hb d_M_type_68 rfl (lv_at hl 4 rfl) ?_
                      refine lv_iload hx hb d_M_type_69 (lv_at hl 1 rfl) ?_
                      refine lv_iload hx hb d_M_type_71 (lv_at hl 0 rfl) ?_
                      refine li_callw (wc := [(mo, .inr (10, [.int (iI mrf), .ref (ma 0), .int (iI mz), .ref (ma 1), .ref (ma 2), .int (iI wn), .int (iI mfp), .int (iI mfm), .ref (ma 3), .int (iI mtx), .ref (ma 4), .ref (ma 5), .int (iI mwd), .ref (ma 6), .ref (ma 7), .int (iI mak), .ref (ma 8), .ref (ma 9), .int (iI mli), .int (iI mlx), .ref (ma 10), .ref (ma 11), .int (iI mat), .int (iI mtk), .int (iI mtf), .int (iI mtt), .int (iI mfa), .int (iI mla), .int (iI mlp), .int (iI mdp), .ref (ma 12), .ref (ma 13), .int (iI msi), .int (iI (bI mdn)), .int (iI mpf), .int (iI mpt)])), (ma 1, .inl (kA 0, 4120, .inl (aI wf)))]) (wr := []) (va_runV (As := [.int (iI cel), .int (iI sh)]) (rest := []) ⟨hx, hb, hml, hown, hts⟩ (c_M_put l dC dI kA H.size mo ma mrf mz wn mfp mfm mtx mwd mak mli mlx mat mtk mtf mtt mfa mla mlp mdp msi mpf mpt mdn wf cel sh (by omega)) (cw_M_177 hts rfl rfl ⟨Nat.le_of_ble_eq_true rfl, Nat.le_of_ble_eq_true rfl⟩) (li_preV (va_recv hK hP (ci := 10) (q0 := 0) rfl rfl) ⟨rfl, hP.sub [0, 1] rfl, (hD.sub [0, 1] (by decide) rfl).weaken (fun _ _ _ h => hAN _ h), trivial⟩ hK hN (hG.go hS hAN)) rfl rfl hl.1 rfl (lv_room (Nat.le_of_ble_eq_true rfl)) d_M_type_73 ⟨(by show 0 + 0 ≤ 0; omega), (by show 0 + 0 ≤ 0; omega)⟩) hP hD hS hA [0, 1] [] rfl rfl (by decide) (by decide) (fun u14 H locs hu14 hP hD hS _hk => ?_)
                      obtain ⟨f_p, n_p⟩ := u14
                      have hP : va_P (dC, dI) CL [(mo, .inr (10, [.int (iI mrf), .ref (ma 0), .int (iI mz), .ref (ma 1), .ref (ma 2), .int (iI n_p), .int (iI mfp), .int (iI mfm), .ref (ma 3), .int (iI mtx), .ref (ma 4), .ref (ma 5), .int (iI mwd), .ref (ma 6), .ref (ma 7), .int (iI mak), .ref (ma 8), .ref (ma 9), .int (iI mli), .int (iI mlx), .ref (ma 10), .ref (ma 11), .int (iI mat), .int (iI mtk), .int (iI mtf), .int (iI mtt), .int (iI mfa), .int (iI mla), .int (iI mlp), .int (iI mdp), .ref (ma 12), .ref (ma 13), .int (iI msi), .int (iI (bI mdn)), .int (iI mpf), .int (iI mpt)])), (ma 1, .inl (kA 0, 4120, .inl (aI f_p)))] H := hP
                      have hD : va_D A [(mo, .inr (10, [.int (iI mrf), .ref (ma 0), .int (iI mz), .ref (ma 1), .ref (ma 2), .int (iI n_p), .int (iI mfp), .int (iI mfm), .ref (ma 3), .int (iI mtx), .ref (ma 4), .ref (ma 5), .int (iI mwd), .ref (ma 6), .ref (ma 7), .int (iI mak), .ref (ma 8), .ref (ma 9), .int (iI mli), .int (iI mlx), .ref (ma 10), .ref (ma 11), .int (iI mat), .int (iI mtk), .int (iI mtf), .int (iI mtt), .int (iI mfa), .int (iI mla), .int (iI mlp), .int (iI mdp), .ref (ma 12), .ref (ma 13), .int (iI msi), .int (iI (bI mdn)), .int (iI mpf), .int (iI mpt)])), (ma 1, .inl (kA 0, 4120, .inl (aI f_p)))] := hD
                      have hp73 : (f_p, n_p) = puM (wf, wn) cel sh ∧ wn ≤ n_p ∧ n_p ≤ wn + 1 ∧ (C2 wf → C2 f_p) := hu14
                      rw [← hp73.1] at hin
                      refine lv_iload hx hb d_M_type_76 (lv_at hl 0 rfl) ?_
                      refine lv_bipush (v := iI 8) hx hb d_M_type_78 (by decide) ?_
                      refine li_isub hx hb d_M_type_80 ?_
                      refine li_nm (fun sh_n esh_n => ?_)
                      refine lv_istore (lv' := [(9, .int (iI sh_n)), (8, .int (iI cel)), (7, .int (iI k)), (6, .int (iI mls)), (0, .ref mo), (1, .int (iI a0)), (2, .int (iI a1)), (3, .int (iI a2)), (4, .int (iI a3)), (5, .int (iI a4))]) hx hb d_M_type_81 hl (by decide) rfl (fun ls hl => ?_)
                      refine lv_goto (tgt := 63) hx hb d_M_type_83 (by decide) ?_
                      exact ih_63 sh_n f_p n_p (by first | exact Or.inl rfl | omega) (by omega) (by exact hp73.2.2.2 hwf) (by rw [esh_n, show (sh - 8 + 8) / 8 = sh / 8 by omega]; exact hin) (by omega) _ _ hP hD hS _ (lv_sub hl [0, 1, 2, 3, 4, 5, 6, 7, 8, 9] rfl)
                exact K_63 (((24 : Int) + 8).toNat + 1) 24 vf vn (by first | exact Or.inl rfl | omega) (by omega) (by exact hvf) (by rfl) (Nat.lt_succ_self _) _ _ hP hD hS _ (lv_sub hl [0, 1, 2, 3, 4, 5, 6, 7, 8, 9] rfl)
            · have _q := c9
              refine lv_iload_n hx hb d_M_type_40 rfl (lv_at hl 5 rfl) ?_
              refine lv_goto (tgt := 57) hx hb d_M_type_41 (by decide) ?_
              refine li_nm (fun cel ecel => ?_)
              refine lv_istore (lv' := [(8, .int (iI cel)), (7, .int (iI k)), (6, .int (iI mls)), (0, .ref mo), (1, .int (iI a0)), (2, .int (iI a1)), (3, .int (iI a2)), (4, .int (iI a3)), (5, .int (iI a4))]) hx hb d_M_type_57 hl (by decide) rfl (fun ls hl => ?_)
              have hce : cel = cwM a0 a1 a2 a3 a4 k := by rw [ecel]; unfold cwM; (repeat (first | rw [if_pos (by omega)] | rw [if_neg (by omega)])); first | done | rfl
              refine lv_bipush (v := iI 24) hx hb d_M_type_59 (by decide) ?_
              refine lv_istore (lv' := [(9, .int (iI 24)), (8, .int (iI cel)), (7, .int (iI k)), (6, .int (iI mls)), (0, .ref mo), (1, .int (iI a0)), (2, .int (iI a1)), (3, .int (iI a2)), (4, .int (iI a3)), (5, .int (iI a4))]) hx hb d_M_type_61 hl (by decide) rfl (fun ls hl => ?_)
              have K_63 : ∀ (nn_63 : Nat) (sh : Int) (wf : Nat → Int) (wn : Int), (sh = 24 ∨ sh = 16 ∨ sh = 8 ∨ sh = 0 ∨ sh = -8) → (0 ≤ wn ∧ wn ≤ 100 + 4 * k + (24 - sh) / 8) → (C2 wf) → (puN cel ((sh + 8) / 8).toNat sh (wf, wn) = pu4 (vf, vn) cel) → (((sh : Int) + 8).toNat < nn_63) → ∀ (H : Heap) (locs : List Loc), va_P (dC, dI) CL [(mo, .inr (10, [.int (iI mrf), .ref (ma 0), .int (iI mz), .ref (ma 1), .ref (ma 2), .int (iI wn), .int (iI mfp), .int (iI mfm), .ref (ma 3), .int (iI mtx), .ref (ma 4), .ref (ma 5), .int (iI mwd), .ref (ma 6), .ref (ma 7), .int (iI mak), .ref (ma 8), .ref (ma 9), .int (iI mli), .int (iI mlx), .ref (ma 10), .ref (ma 11), .int (iI mat), .int (iI mtk), .int (iI mtf), .int (iI mtt), .int (iI mfa), .int (iI mla), .int (iI mlp), .int (iI mdp), .ref (ma 12), .ref (ma 13), .int (iI msi), .int (iI (bI mdn)), .int (iI mpf), .int (iI mpt)])), (ma 1, .inl (kA 0, 4120, .inl (aI wf)))] H → va_D A [(mo, .inr (10, [.int (iI mrf), .ref (ma 0), .int (iI mz), .ref (ma 1), .ref (ma 2), .int (iI wn), .int (iI mfp), .int (iI mfm), .ref (ma 3), .int (iI mtx), .ref (ma 4), .ref (ma 5), .int (iI mwd), .ref (ma 6), .ref (ma 7), .int (iI mak), .ref (ma 8), .ref (ma 9), .int (iI mli), .int (iI mlx), .ref (ma 10), .ref (ma 11), .int (iI mat), .int (iI mtk), .int (iI mtf), .int (iI mtt), .int (iI mfa), .int (iI mla), .int (iI mlp), .int (iI mdp), .ref (ma 12), .ref (ma 13), .int (iI msi), .int (iI (bI mdn)), .int (iI mpf), .int (iI mpt)])), (ma 1, .inl (kA 0, 4120, .inl (aI wf)))] → va_S A s.heap H locs → ∀ ls : Array Slot, lv_has ls 10 [(9, .int (iI sh)), (8, .int (iI cel)), (7, .int (iI k)), (6, .int (iI mls)), (0, .ref mo), (1, .int (iI a0)), (2, .int (iI a1)), (3, .int (iI a2)), (4, .int (iI a3)), (5, .int (iI a4))] → W p l e (rmd 1 0 0) s m args below meth c H locs 0 0 Q (F0 m 63 ls []) := by
                intro nn_63
                induction nn_63 with
                | zero => intro sh wf wn hsh hwn hwf hin hm; exact absurd hm (Nat.not_lt_zero _)
                | succ nn_63 ih_63 =>
                  intro sh wf wn hsh hwn hwf hin hm_63 H locs hP hD hS ls hl
                  refine lv_iload hx hb d_M_type_63 (lv_at hl 0 rfl) ?_
                  refine li_if_lt (tgt := 86) hx hb d_M_type_65 (by decide) (by omega) (fun c15 => ?_) (fun c15 => ?_)
                  · have _q := c15
                    rw [show ((sh + 8) / 8).toNat = 0 by omega] at hin
                    simp only [puN] at hin
                    obtain ⟨k_n, ek_n⟩ : ∃ y_9 : Int, y_9 = k + 1 := ⟨_, rfl⟩
                    refine lv_iinc (v := iI k_n) (lv' := [(7, .int (iI k_n)), (9, .int (iI sh)), (8, .int (iI cel)), (6, .int (iI mls)), (0, .ref mo), (1, .int (iI a0)), (2, .int (iI a1)), (3, .int (iI a2)), (4, .int (iI a3)), (5, .int (iI a4))]) hx hb d_M_type_86 hl (k := 2) rfl (by rw [ek_n]; exact iI_add _ _) (by decide) rfl (fun ls hl => ?_)
                    refine lv_goto (tgt := 9) hx hb d_M_type_89 (by decide) ?_
                    exact ih_9 k_n wf wn (by omega) (by omega) (by exact hwf) (by rw [ek_n, hin, hce]; exact hres) (by omega) _ _ hP hD hS _ (lv_sub hl [0, 3, 4, 5, 6, 7, 8, 9] rfl)
                  · have _q := c15
                    rw [show ((sh + 8) / 8).toNat = (sh / 8).toNat + 1 by omega] at hin
                    simp only [puN] at hin
                    refine lv_aload_n hx hb d_M_type_68 rfl (lv_at hl 4 rfl) ?_
                    refine lv_iload hx hb d_M_type_69 (lv_at hl 1 rfl) ?_
                    refine lv_iload hx hb d_M_type_71 (lv_at hl 0 rfl) ?_
                    refine li_callw (wc := [(mo, .inr (10, [.int (iI mrf), .ref (ma 0), .int (iI mz), .ref (ma 1), .ref (ma 2), .int (iI wn), .int (iI mfp), .int (iI mfm), .ref (ma 3), .int (iI mtx), .ref (ma 4), .ref (ma 5), .int (iI mwd), .ref (ma 6), .ref (ma 7), .int (iI mak), .ref (ma 8), .ref (ma 9), .int (iI mli), .int (iI mlx), .ref (ma 10), .ref (ma 11), .int (iI mat), .int (iI mtk), .int (iI mtf), .int (iI mtt), .int (iI mfa), .int (iI mla), .int (iI mlp), .int (iI mdp), .ref (ma 12), .ref (ma 13), .int (iI msi), .int (iI (bI mdn)), .int (iI mpf), .int (iI mpt)])), (ma 1, .inl (kA 0, 4120, .inl (aI wf)))]) (wr := []) (va_runV (As := [.int (iI cel), .int (iI sh)]) (rest := []) ⟨hx, hb, hml, hown, hts⟩ (c_M_put l dC dI kA H.size mo ma mrf mz wn mfp mfm mtx mwd mak mli mlx mat mtk mtf mtt mfa mla mlp mdp msi mpf mpt mdn wf cel sh (by omega)) (cw_M_177 hts rfl rfl ⟨Nat.le_of_ble_eq_true rfl, Nat.le_of_ble_eq_true rfl⟩) (li_preV (va_recv hK hP (ci := 10) (q0 := 0) rfl rfl) ⟨rfl, hP.sub [0, 1] rfl, (hD.sub [0, 1] (by decide) rfl).weaken (fun _ _ _ h => hAN _ h), trivial⟩ hK hN (hG.go hS hAN)) rfl rfl hl.1 rfl (lv_room (Nat.le_of_ble_eq_true rfl)) d_M_type_73 ⟨(by show 0 + 0 ≤ 0; omega), (by show 0 + 0 ≤ 0; omega)⟩) hP hD hS hA [0, 1] [] rfl rfl (by decide) (by decide) (fun u16 H locs hu16 hP hD hS _hk => ?_)
                    obtain ⟨f_p, n_p⟩ := u16
                    have hP : va_P (dC, dI) CL [(mo, .inr (10, [.int (iI mrf), .ref (ma 0), .int (iI mz), .ref (ma 1), .ref (ma 2), .int (iI n_p), .int (iI mfp), .int (iI mfm), .ref (ma 3), .int (iI mtx), .ref (ma 4), .ref (ma 5), .int (iI mwd), .ref (ma 6), .ref (ma 7), .int (iI mak), .ref (ma 8), .ref (ma 9), .int (iI mli), .int (iI mlx), .ref (ma 10), .ref (ma 11), .int (iI mat), .int (iI mtk), .int (iI mtf), .int (iI mtt), .int (iI mfa), .int (iI mla), .int (iI mlp), .int (iI mdp), .ref (ma 12), .ref (ma 13), .int (iI msi), .int (iI (bI mdn)), .int (iI mpf), .int (iI mpt)])), (ma 1, .inl (kA 0, 4120, .inl (aI f_p)))] H := hP
                    have hD : va_D A [(mo, .inr (10, [.int (iI mrf), .ref (ma 0), .int (iI mz), .ref (ma 1), .ref (ma 2), .int (iI n_p), .int (iI mfp), .int (iI mfm), .ref (ma 3), .int (iI mtx), .ref (ma 4), .ref (ma 5), .int (iI mwd), .ref (ma 6), .ref (ma 7), .int (iI mak), .ref (ma 8), .ref (ma 9), .int (iI mli), .int (iI mlx), .ref (ma 10), .ref (ma 11), .int (iI mat), .int (iI mtk), .int (iI mtf), .int (iI mtt), .int (iI mfa), .int (iI mla), .int (iI mlp), .int (iI mdp), .ref (ma 12), .ref (ma 13), .int (iI msi), .int (iI (bI mdn)), .int (iI mpf), .int (iI mpt)])), (ma 1, .inl (kA 0, 4120, .inl (aI f_p)))] := hD
                    have hp73 : (f_p, n_p) = puM (wf, wn) cel sh ∧ wn ≤ n_p ∧ n_p ≤ wn + 1 ∧ (C2 wf → C2 f_p) := hu16
                    rw [← hp73.1] at hin
                    refine lv_iload hx hb d_M_type_76 (lv_at hl 0 rfl) ?_
                    refine lv_bipush (v := iI 8) hx hb d_M_type_78 (by decide) ?_
                    refine li_isub hx hb d_M_type_80 ?_
                    refine li_nm (fun sh_n esh_n => ?_)
                    refine lv_istore (lv' := [(9, .int (iI sh_n)), (8, .int (iI cel)), (7, .int (iI k)), (6, .int (iI mls)), (0, .ref mo), (1, .int (iI a0)), (2, .int (iI a1)), (3, .int (iI a2)), (4, .int (iI a3)), (5, .int (iI a4))]) hx hb d_M_type_81 hl (by decide) rfl (fun ls hl => ?_)
                    refine lv_goto (tgt := 63) hx hb d_M_type_83 (by decide) ?_
                    exact ih_63 sh_n f_p n_p (by first | exact Or.inl rfl | omega) (by omega) (by exact hp73.2.2.2 hwf) (by rw [esh_n, show (sh - 8 + 8) / 8 = sh / 8 by omega]; exact hin) (by omega) _ _ hP hD hS _ (lv_sub hl [0, 1, 2, 3, 4, 5, 6, 7, 8, 9] rfl)
              exact K_63 (((24 : Int) + 8).toNat + 1) 24 vf vn (by first | exact Or.inl rfl | omega) (by omega) (by exact hvf) (by rfl) (Nat.lt_succ_self _) _ _ hP hD hS _ (lv_sub hl [0, 1, 2, 3, 4, 5, 6, 7, 8, 9] rfl)
          · have _q := c8
            refine lv_iload_n hx hb d_M_type_30 rfl (lv_at hl 4 rfl) ?_
            refine lv_goto (tgt := 57) hx hb d_M_type_31 (by decide) ?_
            refine li_nm (fun cel ecel => ?_)
            refine lv_istore (lv' := [(8, .int (iI cel)), (7, .int (iI k)), (6, .int (iI mls)), (0, .ref mo), (1, .int (iI a0)), (2, .int (iI a1)), (3, .int (iI a2)), (4, .int (iI a3)), (5, .int (iI a4))]) hx hb d_M_type_57 hl (by decide) rfl (fun ls hl => ?_)
            have hce : cel = cwM a0 a1 a2 a3 a4 k := by rw [ecel]; unfold cwM; (repeat (first | rw [if_pos (by omega)] | rw [if_neg (by omega)])); first | done | rfl
            refine lv_bipush (v := iI 24) hx hb d_M_type_59 (by decide) ?_
            refine lv_istore (lv' := [(9, .int (iI 24)), (8, .int (iI cel)), (7, .int (iI k)), (6, .int (iI mls)), (0, .ref mo), (1, .int (iI a0)), (2, .int (iI a1)), (3, .int (iI a2)), (4, .int (iI a3)), (5, .int (iI a4))]) hx hb d_M_type_61 hl (by decide) rfl (fun ls hl => ?_)
            have K_63 : ∀ (nn_63 : Nat) (sh : Int) (wf : Nat → Int) (wn : Int), (sh = 24 ∨ sh = 16 ∨ sh = 8 ∨ sh = 0 ∨ sh = -8) → (0 ≤ wn ∧ wn ≤ 100 + 4 * k + (24 - sh) / 8) → (C2 wf) → (puN cel ((sh + 8) / 8).toNat sh (wf, wn) = pu4 (vf, vn) cel) → (((sh : Int) + 8).toNat < nn_63) → ∀ (H : Heap) (locs : List Loc), va_P (dC, dI) CL [(mo, .inr (10, [.int (iI mrf), .ref (ma 0), .int (iI mz), .ref (ma 1), .ref (ma 2), .int (iI wn), .int (iI mfp), .int (iI mfm), .ref (ma 3), .int (iI mtx), .ref (ma 4), .ref (ma 5), .int (iI mwd), .ref (ma 6), .ref (ma 7), .int (iI mak), .ref (ma 8), .ref (ma 9), .int (iI mli), .int (iI mlx), .ref (ma 10), .ref (ma 11), .int (iI mat), .int (iI mtk), .int (iI mtf), .int (iI mtt), .int (iI mfa), .int (iI mla), .int (iI mlp), .int (iI mdp), .ref (ma 12), .ref (ma 13), .int (iI msi), .int (iI (bI mdn)), .int (iI mpf), .int (iI mpt)])), (ma 1, .inl (kA 0, 4120, .inl (aI wf)))] H → va_D A [(mo, .inr (10, [.int (iI mrf), .ref (ma 0), .int (iI mz), .ref (ma 1), .ref (ma 2), .int (iI wn), .int (iI mfp), .int (iI mfm), .ref (ma 3), .int (iI mtx), .ref (ma 4), .ref (ma 5), .int (iI mwd), .ref (ma 6), .ref (ma 7), .int (iI mak), .ref (ma 8), .ref (ma 9), .int (iI mli), .int (iI mlx), .ref (ma 10), .ref (ma 11), .int (iI mat), .int (iI mtk), .int (iI mtf), .int (iI mtt), .int (iI mfa), .int (iI mla), .int (iI mlp), .int (iI mdp), .ref (ma 12), .ref (ma 13), .int (iI msi), .int (iI (bI mdn)), .int (iI mpf), .int (iI mpt)])), (ma 1, .inl (kA 0, 4120, .inl (aI wf)))] → va_S A s.heap H locs → ∀ ls : Array Slot, lv_has ls 10 [(9, .int (iI sh)), (8, .int (iI cel)), (7, .int (iI k)), (6, .int (iI mls)), (0, .ref mo), (1, .int (iI a0)), (2, .int (iI a1)), (3, .int (iI a2)), (4, .int (iI a3)), (5, .int (iI a4))] → W p l e (rmd 1 0 0) s m args below meth c H locs 0 0 Q (F0 m 63 ls []) := by
              intro nn_63
              induction nn_63 with
              | zero => intro sh wf wn hsh hwn hwf hin hm; exact absurd hm (Nat.not_lt_zero _)
              | succ nn_63 ih_63 =>
                intro sh wf wn hsh hwn hwf hin hm_63 H locs hP hD hS ls hl
                refine lv_iload hx hb d_M_type_63 (lv_at hl 0 rfl) ?_
                refine li_if_lt (tgt := 86) hx hb d_M_type_65 (by decide) (by omega) (fun c17 => ?_) (fun c17 => ?_)
                · have _q := c17
                  rw [show ((sh + 8) / 8).toNat = 0 by omega] at hin
                  simp only [puN] at hin
                  obtain ⟨k_n, ek_n⟩ : ∃ y_9 : Int, y_9 = k + 1 := ⟨_, rfl⟩
                  refine lv_iinc (v := iI k_n) (lv' := [(7, .int (iI k_n)), (9, .int (iI sh)), (8, .int (iI cel)), (6, .int (iI mls)), (0, .ref mo), (1, .int (iI a0)), (2, .int (iI a1)), (3, .int (iI a2)), (4, .int (iI a3)), (5, .int (iI a4))]) hx hb d_M_type_86 hl (k := 2) rfl (by rw [ek_n]; exact iI_add _ _) (by decide) rfl (fun ls hl => ?_)
                  refine lv_goto (tgt := 9) hx hb d_M_type_89 (by decide) ?_
                  exact ih_9 k_n wf wn (by omega) (by omega) (by exact hwf) (by rw [ek_n, hin, hce]; exact hres) (by omega) _ _ hP hD hS _ (lv_sub hl [0, 3, 4, 5, 6, 7, 8, 9] rfl)
                · have _q := c17
                  rw [show ((sh + 8) / 8).toNat = (sh / 8).toNat + 1 by omega] at hin
                  simp only [puN] at hin
                  refine lv_aload_n hx hb d_M_type_68 rfl (lv_at hl 4 rfl) ?_
                  refine lv_iload hx hb d_M_type_69 (lv_at hl 1 rfl) ?_
                  refine lv_iload hx hb d_M_type_71 (lv_at hl 0 rfl) ?_
                  refine li_callw (wc := [(mo, .inr (10, [.int (iI mrf), .ref (ma 0), .int (iI mz), .ref (ma 1), .ref (ma 2), .int (iI wn), .int (iI mfp), .int (iI mfm), .ref (ma 3), .int (iI mtx), .ref (ma 4), .ref (ma 5), .int (iI mwd), .ref (ma 6), .ref (ma 7), .int (iI mak), .ref (ma 8), .ref (ma 9), .int (iI mli), .int (iI mlx), .ref (ma 10), .ref (ma 11), .int (iI mat), .int (iI mtk), .int (iI mtf), .int (iI mtt), .int (iI mfa), .int (iI mla), .int (iI mlp), .int (iI mdp), .ref (ma 12), .ref (ma 13), .int (iI msi), .int (iI (bI mdn)), .int (iI mpf), .int (iI mpt)])), (ma 1, .inl (kA 0, 4120, .inl (aI wf)))]) (wr := []) (va_runV (As := [.int (iI cel), .int (iI sh)]) (rest := []) ⟨hx, hb, hml, hown, hts⟩ (c_M_put l dC dI kA H.size mo ma mrf mz wn mfp mfm mtx mwd mak mli mlx mat mtk mtf mtt mfa mla mlp mdp msi mpf mpt mdn wf cel sh (by omega)) (cw_M_177 hts rfl rfl ⟨Nat.le_of_ble_eq_true rfl, Nat.le_of_ble_eq_true rfl⟩) (li_preV (va_recv hK hP (ci := 10) (q0 := 0) rfl rfl) ⟨rfl, hP.sub [0, 1] rfl, (hD.sub [0, 1] (by decide) rfl).weaken (fun _ _ _ h => hAN _ h), trivial⟩ hK hN (hG.go hS hAN)) rfl rfl hl.1 rfl (lv_room (Nat.le_of_ble_eq_true rfl)) d_M_type_73 ⟨(by show 0 + 0 ≤ 0; omega), (by show 0 + 0 ≤ 0; omega)⟩) hP hD hS hA [0, 1] [] rfl rfl (by decide) (by decide) (fun u18 H locs hu18 hP hD hS _hk => ?_)
                  obtain ⟨f_p, n_p⟩ := u18
                  have hP : va_P (dC, dI) CL [(mo, .inr (10, [.int (iI mrf), .ref (ma 0), .int (iI mz), .ref (ma 1), .ref (ma 2), .int (iI n_p), .int (iI mfp), .int (iI mfm), .ref (ma 3), .int (iI mtx), .ref (ma 4), .ref (ma 5), .int (iI mwd), .ref (ma 6), .ref (ma 7), .int (iI mak), .ref (ma 8), .ref (ma 9), .int (iI mli), .int (iI mlx), .ref (ma 10), .ref (ma 11), .int (iI mat), .int (iI mtk), .int (iI mtf), .int (iI mtt), .int (iI mfa), .int (iI mla), .int (iI mlp), .int (iI mdp), .ref (ma 12), .ref (ma 13), .int (iI msi), .int (iI (bI mdn)), .int (iI mpf), .int (iI mpt)])), (ma 1, .inl (kA 0, 4120, .inl (aI f_p)))] H := hP
                  have hD : va_D A [(mo, .inr (10, [.int (iI mrf), .ref (ma 0), .int (iI mz), .ref (ma 1), .ref (ma 2), .int (iI n_p), .int (iI mfp), .int (iI mfm), .ref (ma 3), .int (iI mtx), .ref (ma 4), .ref (ma 5), .int (iI mwd), .ref (ma 6), .ref (ma 7), .int (iI mak), .ref (ma 8), .ref (ma 9), .int (iI mli), .int (iI mlx), .ref (ma 10), .ref (ma 11), .int (iI mat), .int (iI mtk), .int (iI mtf), .int (iI mtt), .int (iI mfa), .int (iI mla), .int (iI mlp), .int (iI mdp), .ref (ma 12), .ref (ma 13), .int (iI msi), .int (iI (bI mdn)), .int (iI mpf), .int (iI mpt)])), (ma 1, .inl (kA 0, 4120, .inl (aI f_p)))] := hD
                  have hp73 : (f_p, n_p) = puM (wf, wn) cel sh ∧ wn ≤ n_p ∧ n_p ≤ wn + 1 ∧ (C2 wf → C2 f_p) := hu18
                  rw [← hp73.1] at hin
                  refine lv_iload hx hb d_M_type_76 (lv_at hl 0 rfl) ?_
                  refine lv_bipush (v := iI 8) hx hb d_M_type_78 (by decide) ?_
                  refine li_isub hx hb d_M_type_80 ?_
                  refine li_nm (fun sh_n esh_n => ?_)
                  refine lv_istore (lv' := [(9, .int (iI sh_n)), (8, .int (iI cel)), (7, .int (iI k)), (6, .int (iI mls)), (0, .ref mo), (1, .int (iI a0)), (2, .int (iI a1)), (3, .int (iI a2)), (4, .int (iI a3)), (5, .int (iI a4))]) hx hb d_M_type_81 hl (by decide) rfl (fun ls hl => ?_)
                  refine lv_goto (tgt := 63) hx hb d_M_type_83 (by decide) ?_
                  exact ih_63 sh_n f_p n_p (by first | exact Or.inl rfl | omega) (by omega) (by exact hp73.2.2.2 hwf) (by rw [esh_n, show (sh - 8 + 8) / 8 = sh / 8 by omega]; exact hin) (by omega) _ _ hP hD hS _ (lv_sub hl [0, 1, 2, 3, 4, 5, 6, 7, 8, 9] rfl)
            exact K_63 (((24 : Int) + 8).toNat + 1) 24 vf vn (by first | exact Or.inl rfl | omega) (by omega) (by exact hvf) (by rfl) (Nat.lt_succ_self _) _ _ hP hD hS _ (lv_sub hl [0, 1, 2, 3, 4, 5, 6, 7, 8, 9] rfl)
        · have _q := c7
          refine lv_iload_n hx hb d_M_type_20 rfl (lv_at hl 3 rfl) ?_
          refine lv_goto (tgt := 57) hx hb d_M_type_21 (by decide) ?_
          refine li_nm (fun cel ecel => ?_)
          refine lv_istore (lv' := [(8, .int (iI cel)), (7, .int (iI k)), (6, .int (iI mls)), (0, .ref mo), (1, .int (iI a0)), (2, .int (iI a1)), (3, .int (iI a2)), (4, .int (iI a3)), (5, .int (iI a4))]) hx hb d_M_type_57 hl (by decide) rfl (fun ls hl => ?_)
          have hce : cel = cwM a0 a1 a2 a3 a4 k := by rw [ecel]; unfold cwM; (repeat (first | rw [if_pos (by omega)] | rw [if_neg (by omega)])); first | done | rfl
          refine lv_bipush (v := iI 24) hx hb d_M_type_59 (by decide) ?_
          refine lv_istore (lv' := [(9, .int (iI 24)), (8, .int (iI cel)), (7, .int (iI k)), (6, .int (iI mls)), (0, .ref mo), (1, .int (iI a0)), (2, .int (iI a1)), (3, .int (iI a2)), (4, .int (iI a3)), (5, .int (iI a4))]) hx hb d_M_type_61 hl (by decide) rfl (fun ls hl => ?_)
          have K_63 : ∀ (nn_63 : Nat) (sh : Int) (wf : Nat → Int) (wn : Int), (sh = 24 ∨ sh = 16 ∨ sh = 8 ∨ sh = 0 ∨ sh = -8) → (0 ≤ wn ∧ wn ≤ 100 + 4 * k + (24 - sh) / 8) → (C2 wf) → (puN cel ((sh + 8) / 8).toNat sh (wf, wn) = pu4 (vf, vn) cel) → (((sh : Int) + 8).toNat < nn_63) → ∀ (H : Heap) (locs : List Loc), va_P (dC, dI) CL [(mo, .inr (10, [.int (iI mrf), .ref (ma 0), .int (iI mz), .ref (ma 1), .ref (ma 2), .int (iI wn), .int (iI mfp), .int (iI mfm), .ref (ma 3), .int (iI mtx), .ref (ma 4), .ref (ma 5), .int (iI mwd), .ref (ma 6), .ref (ma 7), .int (iI mak), .ref (ma 8), .ref (ma 9), .int (iI mli), .int (iI mlx), .ref (ma 10), .ref (ma 11), .int (iI mat), .int (iI mtk), .int (iI mtf), .int (iI mtt), .int (iI mfa), .int (iI mla), .int (iI mlp), .int (iI mdp), .ref (ma 12), .ref (ma 13), .int (iI msi), .int (iI (bI mdn)), .int (iI mpf), .int (iI mpt)])), (ma 1, .inl (kA 0, 4120, .inl (aI wf)))] H → va_D A [(mo, .inr (10, [.int (iI mrf), .ref (ma 0), .int (iI mz), .ref (ma 1), .ref (ma 2), .int (iI wn), .int (iI mfp), .int (iI mfm), .ref (ma 3), .int (iI mtx), .ref (ma 4), .ref (ma 5), .int (iI mwd), .ref (ma 6), .ref (ma 7), .int (iI mak), .ref (ma 8), .ref (ma 9), .int (iI mli), .int (iI mlx), .ref (ma 10), .ref (ma 11), .int (iI mat), .int (iI mtk), .int (iI mtf), .int (iI mtt), .int (iI mfa), .int (iI mla), .int (iI mlp), .int (iI mdp), .ref (ma 12), .ref (ma 13), .int (iI msi), .int (iI (bI mdn)), .int (iI mpf), .int (iI mpt)])), (ma 1, .inl (kA 0, 4120, .inl (aI wf)))] → va_S A s.heap H locs → ∀ ls : Array Slot, lv_has ls 10 [(9, .int (iI sh)), (8, .int (iI cel)), (7, .int (iI k)), (6, .int (iI mls)), (0, .ref mo), (1, .int (iI a0)), (2, .int (iI a1)), (3, .int (iI a2)), (4, .int (iI a3)), (5, .int (iI a4))] → W p l e (rmd 1 0 0) s m args below meth c H locs 0 0 Q (F0 m 63 ls []) := by
            intro nn_63
            induction nn_63 with
            | zero => intro sh wf wn hsh hwn hwf hin hm; exact absurd hm (Nat.not_lt_zero _)
            | succ nn_63 ih_63 =>
              intro sh wf wn hsh hwn hwf hin hm_63 H locs hP hD hS ls hl
              refine lv_iload hx hb d_M_type_63 (lv_at hl 0 rfl) ?_
              refine li_if_lt (tgt := 86) hx hb d_M_type_65 (by decide) (by omega) (fun c19 => ?_) (fun c19 => ?_)
              · have _q := c19
                rw [show ((sh + 8) / 8).toNat = 0 by omega] at hin
                simp only [puN] at hin
                obtain ⟨k_n, ek_n⟩ : ∃ y_9 : Int, y_9 = k + 1 := ⟨_, rfl⟩
                refine lv_iinc (v := iI k_n) (lv' := [(7, .int (iI k_n)), (9, .int (iI sh)), (8, .int (iI cel)), (6, .int (iI mls)), (0, .ref mo), (1, .int (iI a0)), (2, .int (iI a1)), (3, .int (iI a2)), (4, .int (iI a3)), (5, .int (iI a4))]) hx hb d_M_type_86 hl (k := 2) rfl (by rw [ek_n]; exact iI_add _ _) (by decide) rfl (fun ls hl => ?_)
                refine lv_goto (tgt := 9) hx hb d_M_type_89 (by decide) ?_
                exact ih_9 k_n wf wn (by omega) (by omega) (by exact hwf) (by rw [ek_n, hin, hce]; exact hres) (by omega) _ _ hP hD hS _ (lv_sub hl [0, 3, 4, 5, 6, 7, 8, 9] rfl)
              · have _q := c19
                rw [show ((sh + 8) / 8).toNat = (sh / 8).toNat + 1 by omega] at hin
                simp only [puN] at hin
                refine lv_aload_n hx hb d_M_type_68 rfl (lv_at hl 4 rfl) ?_
                refine lv_iload hx hb d_M_type_69 (lv_at hl 1 rfl) ?_
                refine lv_iload hx hb d_M_type_71 (lv_at hl 0 rfl) ?_
                refine li_callw (wc := [(mo, .inr (10, [.int (iI mrf), .ref (ma 0), .int (iI mz), .ref (ma 1), .ref (ma 2), .int (iI wn), .int (iI mfp), .int (iI mfm), .ref (ma 3), .int (iI mtx), .ref (ma 4), .ref (ma 5), .int (iI mwd), .ref (ma 6), .ref (ma 7), .int (iI mak), .ref (ma 8), .ref (ma 9), .int (iI mli), .int (iI mlx), .ref (ma 10), .ref (ma 11), .int (iI mat), .int (iI mtk), .int (iI mtf), .int (iI mtt), .int (iI mfa), .int (iI mla), .int (iI mlp), .int (iI mdp), .ref (ma 12), .ref (ma 13), .int (iI msi), .int (iI (bI mdn)), .int (iI mpf), .int (iI mpt)])), (ma 1, .inl (kA 0, 4120, .inl (aI wf)))]) (wr := []) (va_runV (As := [.int (iI cel), .int (iI sh)]) (rest := []) ⟨hx, hb, hml, hown, hts⟩ (c_M_put l dC dI kA H.size mo ma mrf mz wn mfp mfm mtx mwd mak mli mlx mat mtk mtf mtt mfa mla mlp mdp msi mpf mpt mdn wf cel sh (by omega)) (cw_M_177 hts rfl rfl ⟨Nat.le_of_ble_eq_true rfl, Nat.le_of_ble_eq_true rfl⟩) (li_preV (va_recv hK hP (ci := 10) (q0 := 0) rfl rfl) ⟨rfl, hP.sub [0, 1] rfl, (hD.sub [0, 1] (by decide) rfl).weaken (fun _ _ _ h => hAN _ h), trivial⟩ hK hN (hG.go hS hAN)) rfl rfl hl.1 rfl (lv_room (Nat.le_of_ble_eq_true rfl)) d_M_type_73 ⟨(by show 0 + 0 ≤ 0; omega), (by show 0 + 0 ≤ 0; omega)⟩) hP hD hS hA [0, 1] [] rfl rfl (by decide) (by decide) (fun u20 H locs hu20 hP hD hS _hk => ?_)
                obtain ⟨f_p, n_p⟩ := u20
                have hP : va_P (dC, dI) CL [(mo, .inr (10, [.int (iI mrf), .ref (ma 0), .int (iI mz), .ref (ma 1), .ref (ma 2), .int (iI n_p), .int (iI mfp), .int (iI mfm), .ref (ma 3), .int (iI mtx), .ref (ma 4), .ref (ma 5), .int (iI mwd), .ref (ma 6), .ref (ma 7), .int (iI mak), .ref (ma 8), .ref (ma 9), .int (iI mli), .int (iI mlx), .ref (ma 10), .ref (ma 11), .int (iI mat), .int (iI mtk), .int (iI mtf), .int (iI mtt), .int (iI mfa), .int (iI mla), .int (iI mlp), .int (iI mdp), .ref (ma 12), .ref (ma 13), .int (iI msi), .int (iI (bI mdn)), .int (iI mpf), .int (iI mpt)])), (ma 1, .inl (kA 0, 4120, .inl (aI f_p)))] H := hP
                have hD : va_D A [(mo, .inr (10, [.int (iI mrf), .ref (ma 0), .int (iI mz), .ref (ma 1), .ref (ma 2), .int (iI n_p), .int (iI mfp), .int (iI mfm), .ref (ma 3), .int (iI mtx), .ref (ma 4), .ref (ma 5), .int (iI mwd), .ref (ma 6), .ref (ma 7), .int (iI mak), .ref (ma 8), .ref (ma 9), .int (iI mli), .int (iI mlx), .ref (ma 10), .ref (ma 11), .int (iI mat), .int (iI mtk), .int (iI mtf), .int (iI mtt), .int (iI mfa), .int (iI mla), .int (iI mlp), .int (iI mdp), .ref (ma 12), .ref (ma 13), .int (iI msi), .int (iI (bI mdn)), .int (iI mpf), .int (iI mpt)])), (ma 1, .inl (kA 0, 4120, .inl (aI f_p)))] := hD
                have hp73 : (f_p, n_p) = puM (wf, wn) cel sh ∧ wn ≤ n_p ∧ n_p ≤ wn + 1 ∧ (C2 wf → C2 f_p) := hu20
                rw [← hp73.1] at hin
                refine lv_iload hx hb d_M_type_76 (lv_at hl 0 rfl) ?_
                refine lv_bipush (v := iI 8) hx hb d_M_type_78 (by decide) ?_
                refine li_isub hx hb d_M_type_80 ?_
                refine li_nm (fun sh_n esh_n => ?_)
                refine lv_istore (lv' := [(9, .int (iI sh_n)), (8, .int (iI cel)), (7, .int (iI k)), (6, .int (iI mls)), (0, .ref mo), (1, .int (iI a0)), (2, .int (iI a1)), (3, .int (iI a2)), (4, .int (iI a3)), (5, .int (iI a4))]) hx hb d_M_type_81 hl (by decide) rfl (fun ls hl => ?_)
                refine lv_goto (tgt := 63) hx hb d_M_type_83 (by decide) ?_
                exact ih_63 sh_n f_p n_p (by first | exact Or.inl rfl | omega) (by omega) (by exact hp73.2.2.2 hwf) (by rw [esh_n, show (sh - 8 + 8) / 8 = sh / 8 by omega]; exact hin) (by omega) _ _ hP hD hS _ (lv_sub hl [0, 1, 2, 3, 4, 5, 6, 7, 8, 9] rfl)
          exact K_63 (((24 : Int) + 8).toNat + 1) 24 vf vn (by first | exact Or.inl rfl | omega) (by omega) (by exact hvf) (by rfl) (Nat.lt_succ_self _) _ _ hP hD hS _ (lv_sub hl [0, 1, 2, 3, 4, 5, 6, 7, 8, 9] rfl)
  exact K_9 ((5 - (0 : Int)).toNat + 1) 0 ca mls (by omega) (by omega) (by exact hca) (by rfl) (Nat.lt_succ_self _) _ _ hP hD hS _ (lv_sub hl [0, 1, 2, 3, 4, 5, 6, 7] rfl)
theorem d_M_erase_0 : decode b_M_erase 0 = .ok (.aload_n 0, 1) := by decide +kernel
theorem d_M_erase_1 : decode b_M_erase 1 = .ok (.iconst 0, 1) := by decide +kernel
theorem d_M_erase_2 : decode b_M_erase 2 = .ok (.putfield 59, 3) := by decide +kernel
theorem d_M_erase_5 : decode b_M_erase 5 = .ok (.aload_n 0, 1) := by decide +kernel
theorem d_M_erase_6 : decode b_M_erase 6 = .ok (.getfield 174, 3) := by decide +kernel
theorem d_M_erase_9 : decode b_M_erase 9 = .ok (.istore_n 1, 1) := by decide +kernel
theorem d_M_erase_10 : decode b_M_erase 10 = .ok (.aload_n 0, 1) := by decide +kernel
theorem d_M_erase_11 : decode b_M_erase 11 = .ok (.iconst 0, 1) := by decide +kernel
theorem d_M_erase_12 : decode b_M_erase 12 = .ok (.putfield 174, 3) := by decide +kernel
theorem d_M_erase_15 : decode b_M_erase 15 = .ok (.iload_n 1, 1) := by decide +kernel
theorem d_M_erase_16 : decode b_M_erase 16 = .ok (.ireturn, 1) := by decide +kernel
set_option maxHeartbeats 4000000 in
set_option maxRecDepth 100000 in
theorem c_M_erase (l : Launch) (dC : Nat → ClassId) (dI : Nat → Nat → Nat) (kA : Nat → ClassId) (sz : Nat) (mo : Nat) (ma : Nat → Nat) (mrf : Int) (mz : Int) (mls : Int) (mfp : Int) (mfm : Int) (mtx : Int) (mwd : Int) (mak : Int) (mli : Int) (mlx : Int) (mat : Int) (mtk : Int) (mtf : Int) (mtt : Int) (mfa : Int) (mla : Int) (mlp : Int) (mdp : Int) (msi : Int) (mpf : Int) (mpt : Int) (mdn : Bool)  : Met l y_M_erase (wsy y_M_erase b_M_erase 2 (some .int)) (rmd 0 0 0) (li_Pr (dC, dI) CL (TY kA) [.ref mo] (fun h => h.size = sz ∧ va_P (dC, dI) CL [(mo, .inr (10, [.int (iI mrf), .ref (ma 0), .int (iI mz), .ref (ma 1), .ref (ma 2), .int (iI mls), .int (iI mfp), .int (iI mfm), .ref (ma 3), .int (iI mtx), .ref (ma 4), .ref (ma 5), .int (iI mwd), .ref (ma 6), .ref (ma 7), .int (iI mak), .ref (ma 8), .ref (ma 9), .int (iI mli), .int (iI mlx), .ref (ma 10), .ref (ma 11), .int (iI mat), .int (iI mtk), .int (iI mtf), .int (iI mtt), .int (iI mfa), .int (iI mla), .int (iI mlp), .int (iI mdp), .ref (ma 12), .ref (ma 13), .int (iI msi), .int (iI (bI mdn)), .int (iI mpf), .int (iI mpt)]))] h ∧ va_D (fun q => dI 100 0 ≤ q) [(mo, .inr (10, [.int (iI mrf), .ref (ma 0), .int (iI mz), .ref (ma 1), .ref (ma 2), .int (iI mls), .int (iI mfp), .int (iI mfm), .ref (ma 3), .int (iI mtx), .ref (ma 4), .ref (ma 5), .int (iI mwd), .ref (ma 6), .ref (ma 7), .int (iI mak), .ref (ma 8), .ref (ma 9), .int (iI mli), .int (iI mlx), .ref (ma 10), .ref (ma 11), .int (iI mat), .int (iI mtk), .int (iI mtf), .int (iI mtt), .int (iI mfa), .int (iI mla), .int (iI mlp), .int (iI mdp), .ref (ma 12), .ref (ma 13), .int (iI msi), .int (iI (bI mdn)), .int (iI mpf), .int (iI mpt)]))] ∧ (fun _ => True) h)) (li_Qw (S := Unit) (dC, dI) CL (fun _ => True) (fun _ => some (.int (iI (mls)))) (fun _ => [(mo, .inr (10, [.int (iI 0), .ref (ma 0), .int (iI mz), .ref (ma 1), .ref (ma 2), .int (iI 0), .int (iI mfp), .int (iI mfm), .ref (ma 3), .int (iI mtx), .ref (ma 4), .ref (ma 5), .int (iI mwd), .ref (ma 6), .ref (ma 7), .int (iI mak), .ref (ma 8), .ref (ma 9), .int (iI mli), .int (iI mlx), .ref (ma 10), .ref (ma 11), .int (iI mat), .int (iI mtk), .int (iI mtf), .int (iI mtt), .int (iI mfa), .int (iI mla), .int (iI mlp), .int (iI mdp), .ref (ma 12), .ref (ma 13), .int (iI msi), .int (iI (bI mdn)), .int (iI mpf), .int (iI mpt)]))]) (va_A [(mo, .inr (10, [.int (iI mrf), .ref (ma 0), .int (iI mz), .ref (ma 1), .ref (ma 2), .int (iI mls), .int (iI mfp), .int (iI mfm), .ref (ma 3), .int (iI mtx), .ref (ma 4), .ref (ma 5), .int (iI mwd), .ref (ma 6), .ref (ma 7), .int (iI mak), .ref (ma 8), .ref (ma 9), .int (iI mli), .int (iI mlx), .ref (ma 10), .ref (ma 11), .int (iI mat), .int (iI mtk), .int (iI mtf), .int (iI mtt), .int (iI mfa), .int (iI mla), .int (iI mlp), .int (iI mdp), .ref (ma 12), .ref (ma 13), .int (iI msi), .int (iI (bI mdn)), .int (iI mpf), .int (iI mpt)]))] sz)) 0 0 (va_A [(mo, .inr (10, [.int (iI mrf), .ref (ma 0), .int (iI mz), .ref (ma 1), .ref (ma 2), .int (iI mls), .int (iI mfp), .int (iI mfm), .ref (ma 3), .int (iI mtx), .ref (ma 4), .ref (ma 5), .int (iI mwd), .ref (ma 6), .ref (ma 7), .int (iI mak), .ref (ma 8), .ref (ma 9), .int (iI mli), .int (iI mlx), .ref (ma 10), .ref (ma 11), .int (iI mat), .int (iI mtk), .int (iI mtf), .int (iI mtt), .int (iI mfa), .int (iI mla), .int (iI mlp), .int (iI mdp), .ref (ma 12), .ref (ma 13), .int (iI msi), .int (iI (bI mdn)), .int (iI mpf), .int (iI mpt)]))] sz) := by
  refine li_mwi (r := fun (_ : Unit) => mls) (by decide) (Nat.le_of_ble_eq_true rfl) (fun _ _ => by rfl) ?_
  intro p e s m args below meth c Q A C hP hD hBx hK hN hG hA hAi hAN fin ls hl
  obtain ⟨hx, hb, hr, hml, hown, hts, hlocks, hin⟩ := C
  have hown : s.vm.findClass R_M = some m.cls := hown
  have hl : lv_has ls 2 [(0, .ref mo)] := hl
  suffices h9 : ∀ (H : Heap) (locs : List Loc), H = s.heap → locs = [] → W p l e (rmd 0 0 0) s m args below meth c H locs 0 0 Q (F0 m 0 ls []) from h9 _ _ rfl rfl
  intro H locs eH eL
  have hP : va_P (dC, dI) CL [(mo, .inr (10, [.int (iI mrf), .ref (ma 0), .int (iI mz), .ref (ma 1), .ref (ma 2), .int (iI mls), .int (iI mfp), .int (iI mfm), .ref (ma 3), .int (iI mtx), .ref (ma 4), .ref (ma 5), .int (iI mwd), .ref (ma 6), .ref (ma 7), .int (iI mak), .ref (ma 8), .ref (ma 9), .int (iI mli), .int (iI mlx), .ref (ma 10), .ref (ma 11), .int (iI mat), .int (iI mtk), .int (iI mtf), .int (iI mtt), .int (iI mfa), .int (iI mla), .int (iI mlp), .int (iI mdp), .ref (ma 12), .ref (ma 13), .int (iI msi), .int (iI (bI mdn)), .int (iI mpf), .int (iI mpt)]))] H := by rw [eH]; exact hP
  have hS : va_S A s.heap H locs := by rw [eH, eL]; exact va_S.rf
  refine lv_aload_n hx hb d_M_erase_0 rfl (lv_at hl 0 rfl) ?_
  refine lv_iconst (v := iI 0) hx hb d_M_erase_1 rfl ?_
  refine pf_M_59 hx hb hts hown hK hP hD hS 0 rfl (Nat.le_of_ble_eq_true rfl) d_M_erase_2 (fun H locs hP hD hS => ?_)
  have hP : va_P (dC, dI) CL [(mo, .inr (10, [.int (iI 0), .ref (ma 0), .int (iI mz), .ref (ma 1), .ref (ma 2), .int (iI mls), .int (iI mfp), .int (iI mfm), .ref (ma 3), .int (iI mtx), .ref (ma 4), .ref (ma 5), .int (iI mwd), .ref (ma 6), .ref (ma 7), .int (iI mak), .ref (ma 8), .ref (ma 9), .int (iI mli), .int (iI mlx), .ref (ma 10), .ref (ma 11), .int (iI mat), .int (iI mtk), .int (iI mtf), .int (iI mtt), .int (iI mfa), .int (iI mla), .int (iI mlp), .int (iI mdp), .ref (ma 12), .ref (ma 13), .int (iI msi), .int (iI (bI mdn)), .int (iI mpf), .int (iI mpt)]))] H := hP
  have hD : va_D A [(mo, .inr (10, [.int (iI 0), .ref (ma 0), .int (iI mz), .ref (ma 1), .ref (ma 2), .int (iI mls), .int (iI mfp), .int (iI mfm), .ref (ma 3), .int (iI mtx), .ref (ma 4), .ref (ma 5), .int (iI mwd), .ref (ma 6), .ref (ma 7), .int (iI mak), .ref (ma 8), .ref (ma 9), .int (iI mli), .int (iI mlx), .ref (ma 10), .ref (ma 11), .int (iI mat), .int (iI mtk), .int (iI mtf), .int (iI mtt), .int (iI mfa), .int (iI mla), .int (iI mlp), .int (iI mdp), .ref (ma 12), .ref (ma 13), .int (iI msi), .int (iI (bI mdn)), .int (iI mpf), .int (iI mpt)]))] := hD
  refine lv_aload_n hx hb d_M_erase_5 rfl (lv_at hl 0 rfl) ?_
  refine gf_M_174 hx hb hts hown hK hP 0 rfl rfl d_M_erase_6 ?_
  refine lv_istore_n (lv' := [(1, .int (iI mls)), (0, .ref mo)]) hx hb d_M_erase_9 rfl hl (by decide) rfl (fun ls hl => ?_)
  refine lv_aload_n hx hb d_M_erase_10 rfl (lv_at hl 1 rfl) ?_
  refine lv_iconst (v := iI 0) hx hb d_M_erase_11 rfl ?_
  refine pf_M_174 hx hb hts hown hK hP hD hS 0 rfl (Nat.le_of_ble_eq_true rfl) d_M_erase_12 (fun H locs hP hD hS => ?_)
  have hP : va_P (dC, dI) CL [(mo, .inr (10, [.int (iI 0), .ref (ma 0), .int (iI mz), .ref (ma 1), .ref (ma 2), .int (iI 0), .int (iI mfp), .int (iI mfm), .ref (ma 3), .int (iI mtx), .ref (ma 4), .ref (ma 5), .int (iI mwd), .ref (ma 6), .ref (ma 7), .int (iI mak), .ref (ma 8), .ref (ma 9), .int (iI mli), .int (iI mlx), .ref (ma 10), .ref (ma 11), .int (iI mat), .int (iI mtk), .int (iI mtf), .int (iI mtt), .int (iI mfa), .int (iI mla), .int (iI mlp), .int (iI mdp), .ref (ma 12), .ref (ma 13), .int (iI msi), .int (iI (bI mdn)), .int (iI mpf), .int (iI mpt)]))] H := hP
  have hD : va_D A [(mo, .inr (10, [.int (iI 0), .ref (ma 0), .int (iI mz), .ref (ma 1), .ref (ma 2), .int (iI 0), .int (iI mfp), .int (iI mfm), .ref (ma 3), .int (iI mtx), .ref (ma 4), .ref (ma 5), .int (iI mwd), .ref (ma 6), .ref (ma 7), .int (iI mak), .ref (ma 8), .ref (ma 9), .int (iI mli), .int (iI mlx), .ref (ma 10), .ref (ma 11), .int (iI mat), .int (iI mtk), .int (iI mtf), .int (iI mtt), .int (iI mfa), .int (iI mla), .int (iI mlp), .int (iI mdp), .ref (ma 12), .ref (ma 13), .int (iI msi), .int (iI (bI mdn)), .int (iI mpf), .int (iI mpt)]))] := hD
  refine lv_iload_n hx hb d_M_erase_15 rfl (lv_at hl 0 rfl) ?_
  exact fin () _ _ _ _ _ (by rfl) (by trivial) (by first | exact hP | (subst_vars; exact hP)) (by first | exact hD | (subst_vars; exact hD)) hS d_M_erase_16
theorem d_M_isWord_0 : decode b_M_isWord 0 = .ok (.iconst 0, 1) := by decide +kernel
theorem d_M_isWord_1 : decode b_M_isWord 1 = .ok (.istore 5, 2) := by decide +kernel
theorem d_M_isWord_3 : decode b_M_isWord 3 = .ok (.lload_n 3, 1) := by decide +kernel
theorem d_M_isWord_4 : decode b_M_isWord 4 = .ok (.lstore 6, 2) := by decide +kernel
theorem d_M_isWord_6 : decode b_M_isWord 6 = .ok (.lload 6, 2) := by decide +kernel
theorem d_M_isWord_8 : decode b_M_isWord 8 = .ok (.lconst 0, 1) := by decide +kernel
theorem d_M_isWord_9 : decode b_M_isWord 9 = .ok (.lcmp, 1) := by decide +kernel
theorem d_M_isWord_10 : decode b_M_isWord 10 = .ok (.ifCond .eq 16, 3) := by decide +kernel
theorem d_M_isWord_13 : decode b_M_isWord 13 = .ok (.iinc 5 1, 3) := by decide +kernel
theorem d_M_isWord_16 : decode b_M_isWord 16 = .ok (.lload 6, 2) := by decide +kernel
theorem d_M_isWord_18 : decode b_M_isWord 18 = .ok (.bipush 8, 2) := by decide +kernel
theorem d_M_isWord_20 : decode b_M_isWord 20 = .ok (.lshr, 1) := by decide +kernel
theorem d_M_isWord_21 : decode b_M_isWord 21 = .ok (.lstore 6, 2) := by decide +kernel
theorem d_M_isWord_23 : decode b_M_isWord 23 = .ok (.goto (-17), 3) := by decide +kernel
theorem d_M_isWord_26 : decode b_M_isWord 26 = .ok (.iload_n 2, 1) := by decide +kernel
theorem d_M_isWord_27 : decode b_M_isWord 27 = .ok (.iload_n 1, 1) := by decide +kernel
theorem d_M_isWord_28 : decode b_M_isWord 28 = .ok (.isub, 1) := by decide +kernel
theorem d_M_isWord_29 : decode b_M_isWord 29 = .ok (.iload 5, 2) := by decide +kernel
theorem d_M_isWord_31 : decode b_M_isWord 31 = .ok (.if_icmp .ne 7, 3) := by decide +kernel
theorem d_M_isWord_34 : decode b_M_isWord 34 = .ok (.iconst 1, 1) := by decide +kernel
theorem d_M_isWord_35 : decode b_M_isWord 35 = .ok (.goto 4, 3) := by decide +kernel
theorem d_M_isWord_38 : decode b_M_isWord 38 = .ok (.iconst 0, 1) := by decide +kernel
theorem d_M_isWord_39 : decode b_M_isWord 39 = .ok (.istore 6, 2) := by decide +kernel
theorem d_M_isWord_41 : decode b_M_isWord 41 = .ok (.iconst 0, 1) := by decide +kernel
theorem d_M_isWord_42 : decode b_M_isWord 42 = .ok (.istore 7, 2) := by decide +kernel
theorem d_M_isWord_44 : decode b_M_isWord 44 = .ok (.iload 7, 2) := by decide +kernel
theorem d_M_isWord_46 : decode b_M_isWord 46 = .ok (.iload 5, 2) := by decide +kernel
theorem d_M_isWord_48 : decode b_M_isWord 48 = .ok (.if_icmp .ge 53, 3) := by decide +kernel
theorem d_M_isWord_51 : decode b_M_isWord 51 = .ok (.iload 6, 2) := by decide +kernel
theorem d_M_isWord_53 : decode b_M_isWord 53 = .ok (.ifCond .eq 48, 3) := by decide +kernel
theorem d_M_isWord_56 : decode b_M_isWord 56 = .ok (.aload_n 0, 1) := by decide +kernel
theorem d_M_isWord_57 : decode b_M_isWord 57 = .ok (.getfield 13, 3) := by decide +kernel
theorem d_M_isWord_60 : decode b_M_isWord 60 = .ok (.iload_n 1, 1) := by decide +kernel
theorem d_M_isWord_61 : decode b_M_isWord 61 = .ok (.iload 7, 2) := by decide +kernel
theorem d_M_isWord_63 : decode b_M_isWord 63 = .ok (.iadd, 1) := by decide +kernel
theorem d_M_isWord_64 : decode b_M_isWord 64 = .ok (.iaload, 1) := by decide +kernel
theorem d_M_isWord_65 : decode b_M_isWord 65 = .ok (.invokestatic 136, 3) := by decide +kernel
theorem d_M_isWord_68 : decode b_M_isWord 68 = .ok (.lload_n 3, 1) := by decide +kernel
theorem d_M_isWord_69 : decode b_M_isWord 69 = .ok (.bipush 8, 2) := by decide +kernel
theorem d_M_isWord_71 : decode b_M_isWord 71 = .ok (.iload 5, 2) := by decide +kernel
theorem d_M_isWord_73 : decode b_M_isWord 73 = .ok (.iconst 1, 1) := by decide +kernel
theorem d_M_isWord_74 : decode b_M_isWord 74 = .ok (.isub, 1) := by decide +kernel
theorem d_M_isWord_75 : decode b_M_isWord 75 = .ok (.iload 7, 2) := by decide +kernel
theorem d_M_isWord_77 : decode b_M_isWord 77 = .ok (.isub, 1) := by decide +kernel
theorem d_M_isWord_78 : decode b_M_isWord 78 = .ok (.imul, 1) := by decide +kernel
theorem d_M_isWord_79 : decode b_M_isWord 79 = .ok (.lshr, 1) := by decide +kernel
theorem d_M_isWord_80 : decode b_M_isWord 80 = .ok (.ldc2_w 180, 3) := by decide +kernel
theorem d_M_isWord_83 : decode b_M_isWord 83 = .ok (.land, 1) := by decide +kernel
theorem d_M_isWord_84 : decode b_M_isWord 84 = .ok (.l2i, 1) := by decide +kernel
theorem d_M_isWord_85 : decode b_M_isWord 85 = .ok (.if_icmp .ne 7, 3) := by decide +kernel
theorem d_M_isWord_88 : decode b_M_isWord 88 = .ok (.iconst 1, 1) := by decide +kernel
theorem d_M_isWord_89 : decode b_M_isWord 89 = .ok (.goto 4, 3) := by decide +kernel
theorem d_M_isWord_92 : decode b_M_isWord 92 = .ok (.iconst 0, 1) := by decide +kernel
theorem d_M_isWord_93 : decode b_M_isWord 93 = .ok (.istore 6, 2) := by decide +kernel
theorem d_M_isWord_95 : decode b_M_isWord 95 = .ok (.iinc 7 1, 3) := by decide +kernel
theorem d_M_isWord_98 : decode b_M_isWord 98 = .ok (.goto (-54), 3) := by decide +kernel
theorem d_M_isWord_101 : decode b_M_isWord 101 = .ok (.iload 6, 2) := by decide +kernel
theorem d_M_isWord_103 : decode b_M_isWord 103 = .ok (.ireturn, 1) := by decide +kernel
set_option maxHeartbeats 4000000 in
set_option maxRecDepth 100000 in
theorem c_M_isWord (l : Launch) (dC : Nat → ClassId) (dI : Nat → Nat → Nat) (kA : Nat → ClassId) (mo : Nat) (ma : Nat → Nat) (mrf : Int) (mz : Int) (mls : Int) (mfp : Int) (mfm : Int) (mtx : Int) (mwd : Int) (mak : Int) (mli : Int) (mlx : Int) (mat : Int) (mtk : Int) (mtf : Int) (mtt : Int) (mfa : Int) (mla : Int) (mlp : Int) (mdp : Int) (msi : Int) (mpf : Int) (mpt : Int) (mdn : Bool) (ca : Nat → Int) (x : Int) (y : Int) (i : Nat) (hca : C2 ca) (hi : i < 17) (hx0 : 0 ≤ x ∧ x ≤ y ∧ y ≤ 4120) : Met l y_M_isWord (wsy y_M_isWord b_M_isWord 8 (some .boolean)) (rmd 1 0 0) (li_Pr (dC, dI) CL (TY kA) [.ref mo, .int (iI x), .int (iI y), .long (wlg i)] (va_P (dC, dI) CL [(mo, .inr (10, [.int (iI mrf), .ref (ma 0), .int (iI mz), .ref (ma 1), .ref (ma 2), .int (iI mls), .int (iI mfp), .int (iI mfm), .ref (ma 3), .int (iI mtx), .ref (ma 4), .ref (ma 5), .int (iI mwd), .ref (ma 6), .ref (ma 7), .int (iI mak), .ref (ma 8), .ref (ma 9), .int (iI mli), .int (iI mlx), .ref (ma 10), .ref (ma 11), .int (iI mat), .int (iI mtk), .int (iI mtf), .int (iI mtt), .int (iI mfa), .int (iI mla), .int (iI mlp), .int (iI mdp), .ref (ma 12), .ref (ma 13), .int (iI msi), .int (iI (bI mdn)), .int (iI mpf), .int (iI mpt)])), (ma 1, .inl (kA 0, 4120, .inl (aI ca)))])) (k2_QcV (.int (iI (bI (iwM ca x y i))))) 0 0 (fun _ => False) := by
  refine li_mr (by decide) (Nat.le_of_ble_eq_true rfl) (by exact li_narZ2 _) ?_
  intro p e s m args below meth c Q C hP hK hN hG fin ls hl
  obtain ⟨hx, hb, hr, hml, hown, hts, hlocks, hin⟩ := C
  have hown : s.vm.findClass R_M = some m.cls := hown
  have hP : va_P (dC, dI) CL [(mo, .inr (10, [.int (iI mrf), .ref (ma 0), .int (iI mz), .ref (ma 1), .ref (ma 2), .int (iI mls), .int (iI mfp), .int (iI mfm), .ref (ma 3), .int (iI mtx), .ref (ma 4), .ref (ma 5), .int (iI mwd), .ref (ma 6), .ref (ma 7), .int (iI mak), .ref (ma 8), .ref (ma 9), .int (iI mli), .int (iI mlx), .ref (ma 10), .ref (ma 11), .int (iI mat), .int (iI mtk), .int (iI mtf), .int (iI mtt), .int (iI mfa), .int (iI mla), .int (iI mlp), .int (iI mdp), .ref (ma 12), .ref (ma 13), .int (iI msi), .int (iI (bI mdn)), .int (iI mpf), .int (iI mpt)])), (ma 1, .inl (kA 0, 4120, .inl (aI ca)))] s.heap := hP
  have hl : lv_has ls 8 [(0, .ref mo), (1, .int (iI x)), (2, .int (iI y)), (3, .long (wlg i))] := hl
  have hwl := wln_r hi
  have K_44 : ∀ (nn_44 : Nat) (k : Int) (b : Bool) (n : Int), (n = (wln i : Nat)) → (0 ≤ k ∧ k ≤ n) → (b = true → y - x = n) → ((b && iwL ca x i (wln i - k.toNat) k) = iwM ca x y i) → (wln i - k.toNat < nn_44) → ∀ ls : Array Slot, lv_has ls 8 [(0, .ref mo), (1, .int (iI x)), (2, .int (iI y)), (3, .long (wlg i)), (5, .int (iI n)), (6, .int (iI (bI b))), (7, .int (iI k))] → W p l e (rmd 1 0 0) s m args below meth c s.heap [] 0 0 Q (F0 m 44 ls []) := by
    intro nn_44
    induction nn_44 with
    | zero => intro k b n hn9 hk9 hbb hres hm; exact absurd hm (Nat.not_lt_zero _)
    | succ nn_44 ih_44 =>
      intro k b n hn9 hk9 hbb hres hm_44 ls hl
      refine lv_iload hx hb d_M_isWord_44 (lv_at hl 6 rfl) ?_
      refine lv_iload hx hb d_M_isWord_46 (lv_at hl 4 rfl) ?_
      refine li_icmp_ge (tgt := 101) hx hb d_M_isWord_48 (by decide) (by first | omega | (have h8 := sml_r (c := ca (x + k).toNat) (by omega); omega)) (by first | omega | (have h8 := sml_r (c := ca (x + k).toNat) (by omega); omega)) (fun c1 => ?_) (fun c1 => ?_)
      · have _q := c1
        rw [show wln i - k.toNat = 0 by omega] at hres
        simp only [iwL] at hres
        rw [Bool.and_true] at hres
        refine lv_iload hx hb d_M_isWord_101 (lv_at hl 5 rfl) ?_
        exact fin _ _ _ (by first | (rw [← hres]; done) | (rw [show b = false by assumption, Bool.false_and] at hres; rw [show b = false by assumption, ← hres])) d_M_isWord_103
      · have _q := c1
        refine lv_iload hx hb d_M_isWord_51 (lv_at hl 5 rfl) ?_
        refine li_bz (tgt := 101) hx hb d_M_isWord_53 (by decide) (fun c2 => ?_) (fun c2 => ?_)
        · have _q := c2
          refine lv_iload hx hb d_M_isWord_101 (lv_at hl 5 rfl) ?_
          exact fin _ _ _ (by first | (rw [← hres]; done) | (rw [show b = false by assumption, Bool.false_and] at hres; rw [show b = false by assumption, ← hres])) d_M_isWord_103
        · have _q := c2
          have hft := hbb (by assumption)
          have hcw := (chW_k hi (k := k) (by omega) (by omega)).2
          rw [show b = true by assumption, Bool.true_and, show wln i - k.toNat = (wln i - (k + 1).toNat) + 1 by omega] at hres
          simp only [iwL] at hres
          refine lv_aload_n hx hb d_M_isWord_56 rfl (lv_at hl 0 rfl) ?_
          refine gf_M_13 hx hb hts hown hK hP 0 rfl rfl d_M_isWord_57 ?_
          refine lv_iload_n hx hb d_M_isWord_60 rfl (lv_at hl 1 rfl) ?_
          refine lv_iload hx hb d_M_isWord_61 (lv_at hl 6 rfl) ?_
          refine li_iadd hx hb d_M_isWord_63 ?_
          refine li_iald hx hb hK hP 1 0 rfl rfl (by omega) (by omega) (by omega) d_M_isWord_64 ?_
          have f3 := hca ((x + k).toNat)
          refine li_callr ((va_runS (As := [.int (iI (ca ((x + k).toNat)))]) (rest := []) ⟨hx, hb, hml, hown, hts⟩ (c_M_small l dC dI kA (ca ((x + k).toNat)) (by omega)) (cw_M_136 hts rfl rfl ⟨Nat.le_of_ble_eq_true rfl, Nat.le_of_ble_eq_true rfl⟩) (li_preS va_Pnil hK hN hG.rd) rfl rfl hl.1 rfl (lv_room (Nat.le_of_ble_eq_true rfl)) d_M_isWord_65 ⟨(by show 0 + 0 ≤ 0; omega), (by show 0 + 0 ≤ 0; omega)⟩).run) ?_
          refine lv_lload_n hx hb d_M_isWord_68 rfl (lv_at hl 3 rfl) ?_
          refine lv_bipush (v := iI 8) hx hb d_M_isWord_69 (by decide) ?_
          refine lv_iload hx hb d_M_isWord_71 (lv_at hl 4 rfl) ?_
          refine lv_iconst (v := iI 1) hx hb d_M_isWord_73 rfl ?_
          refine li_isub hx hb d_M_isWord_74 ?_
          refine lv_iload hx hb d_M_isWord_75 (lv_at hl 6 rfl) ?_
          refine li_isub hx hb d_M_isWord_77 ?_
          refine li_imul hx hb d_M_isWord_78 ?_
          refine lv_lshr (v := wlg i >>> ((iI (8 * (n - 1 - k))).toInt64 &&& 63)) hx hb d_M_isWord_79 (by rfl) ?_
          refine lv_ldc2 (v := (255 : Int64)) hx hb hown (hts (Cond.constantLong R_M 180 255) (tk6 71 rfl rfl)) d_M_isWord_80 ?_
          refine lv_land hx hb d_M_isWord_83 ?_
          refine lv_l2i (v := iI (chW i k.toNat)) hx hb d_M_isWord_84 (by rw [hn9]; exact (chW_k hi (by omega) (by omega)).1) ?_
          refine li_icmp_ne (tgt := 92) hx hb d_M_isWord_85 (by decide) (by first | omega | (have h8 := sml_r (c := ca (x + k).toNat) (by omega); omega)) (by first | omega | (have h8 := sml_r (c := ca (x + k).toNat) (by omega); omega)) (fun c4 => ?_) (fun c4 => ?_)
          · have _q := c4
            rw [if_neg (by assumption)] at hres
            refine lv_iconst (v := iI 0) hx hb d_M_isWord_92 rfl ?_
            refine lv_istore (lv' := [(6, .int (iI 0)), (0, .ref mo), (1, .int (iI x)), (2, .int (iI y)), (3, .long (wlg i)), (5, .int (iI n)), (7, .int (iI k))]) hx hb d_M_isWord_93 hl (by decide) rfl (fun ls hl => ?_)
            obtain ⟨k_n, ek_n⟩ : ∃ y_9 : Int, y_9 = k + 1 := ⟨_, rfl⟩
            refine lv_iinc (v := iI k_n) (lv' := [(7, .int (iI k_n)), (6, .int (iI 0)), (0, .ref mo), (1, .int (iI x)), (2, .int (iI y)), (3, .long (wlg i)), (5, .int (iI n))]) hx hb d_M_isWord_95 hl (k := 6) rfl (by rw [ek_n]; exact iI_add _ _) (by decide) rfl (fun ls hl => ?_)
            refine lv_goto (tgt := 44) hx hb d_M_isWord_98 (by decide) ?_
            exact ih_44 k_n false n (by omega) (by omega) (by intro _; first | omega | contradiction) (by rw [ek_n]; first | exact hres | (rw [Bool.true_and]; exact hres) | (rw [Bool.false_and]; exact hres)) (by omega) _ (lv_sub hl [2, 3, 4, 5, 6, 1, 0] rfl)
          · have _q := c4
            rw [if_pos (by assumption)] at hres
            refine lv_iconst (v := iI 1) hx hb d_M_isWord_88 rfl ?_
            refine lv_goto (tgt := 93) hx hb d_M_isWord_89 (by decide) ?_
            refine lv_istore (lv' := [(6, .int (iI 1)), (0, .ref mo), (1, .int (iI x)), (2, .int (iI y)), (3, .long (wlg i)), (5, .int (iI n)), (7, .int (iI k))]) hx hb d_M_isWord_93 hl (by decide) rfl (fun ls hl => ?_)
            obtain ⟨k_n, ek_n⟩ : ∃ y_9 : Int, y_9 = k + 1 := ⟨_, rfl⟩
            refine lv_iinc (v := iI k_n) (lv' := [(7, .int (iI k_n)), (6, .int (iI 1)), (0, .ref mo), (1, .int (iI x)), (2, .int (iI y)), (3, .long (wlg i)), (5, .int (iI n))]) hx hb d_M_isWord_95 hl (k := 6) rfl (by rw [ek_n]; exact iI_add _ _) (by decide) rfl (fun ls hl => ?_)
            refine lv_goto (tgt := 44) hx hb d_M_isWord_98 (by decide) ?_
            exact ih_44 k_n true n (by omega) (by omega) (by intro _; first | omega | contradiction) (by rw [ek_n]; first | exact hres | (rw [Bool.true_and]; exact hres) | (rw [Bool.false_and]; exact hres)) (by omega) _ (lv_sub hl [2, 3, 4, 5, 6, 1, 0] rfl)
  have K_6 : ∀ (nn_6 : Nat) (n : Int) (q : Nat), (n = (q : Nat)) → (q ≤ wln i) → (wln i - q < nn_6) → ∀ ls : Array Slot, lv_has ls 8 [(0, .ref mo), (1, .int (iI x)), (2, .int (iI y)), (3, .long (wlg i)), (5, .int (iI n)), (6, .long (shW i q))] → W p l e (rmd 1 0 0) s m args below meth c s.heap [] 0 0 Q (F0 m 6 ls []) := by
    intro nn_6
    induction nn_6 with
    | zero => intro n q hnq hq9 hm; exact absurd hm (Nat.not_lt_zero _)
    | succ nn_6 ih_6 =>
      intro n q hnq hq9 hm_6 ls hl
      refine lv_lload hx hb d_M_isWord_6 (lv_at hl 5 rfl) ?_
      refine lv_lconst (v := 0) hx hb d_M_isWord_8 rfl ?_
      rcases (show (shW i q = 0 ∧ q = wln i) ∨ (shW i q > 0 ∧ q < wln i) by rcases Nat.lt_or_eq_of_le hq9 with h8 | h8; (exact Or.inr ⟨(shW_t ⟨i, hi⟩ ⟨q, by omega⟩).1 h8, h8⟩); exact Or.inl ⟨(shW_t ⟨i, hi⟩ ⟨q, by omega⟩).2 h8, h8⟩) with ⟨hz9, hz8⟩ | ⟨hz9, hz8⟩
      · refine li_lcmp0 hx hb hz9 d_M_isWord_9 ?_
        refine li_if_eq (tgt := 26) hx hb d_M_isWord_10 (by decide) (by first | omega | (have h8 := sml_r (c := ca (x + k).toNat) (by omega); omega)) (fun c5 => ?_) (fun c5 => ?_)
        · have _q := c5
          refine lv_iload_n hx hb d_M_isWord_26 rfl (lv_at hl 2 rfl) ?_
          refine lv_iload_n hx hb d_M_isWord_27 rfl (lv_at hl 1 rfl) ?_
          refine li_isub hx hb d_M_isWord_28 ?_
          refine lv_iload hx hb d_M_isWord_29 (lv_at hl 4 rfl) ?_
          refine li_icmp_ne (tgt := 38) hx hb d_M_isWord_31 (by decide) (by first | omega | (have h8 := sml_r (c := ca (x + k).toNat) (by omega); omega)) (by first | omega | (have h8 := sml_r (c := ca (x + k).toNat) (by omega); omega)) (fun c6 => ?_) (fun c6 => ?_)
          · have _q := c6
            refine lv_iconst (v := iI 0) hx hb d_M_isWord_38 rfl ?_
            refine lv_istore (lv' := [(6, .int (iI 0)), (0, .ref mo), (1, .int (iI x)), (2, .int (iI y)), (3, .long (wlg i)), (5, .int (iI n))]) hx hb d_M_isWord_39 hl (by decide) rfl (fun ls hl => ?_)
            refine lv_iconst (v := iI 0) hx hb d_M_isWord_41 rfl ?_
            refine lv_istore (lv' := [(7, .int (iI 0)), (6, .int (iI 0)), (0, .ref mo), (1, .int (iI x)), (2, .int (iI y)), (3, .long (wlg i)), (5, .int (iI n))]) hx hb d_M_isWord_42 hl (by decide) rfl (fun ls hl => ?_)
            exact K_44 (wln i - (0 : Int).toNat + 1) 0 false n (by omega) (by omega) (by intro _; first | omega | contradiction) (by unfold iwM; first | (rw [if_pos (by omega)]; rfl) | (rw [if_neg (by omega)]; rfl)) (Nat.lt_succ_self _) _ (lv_sub hl [2, 3, 4, 5, 6, 1, 0] rfl)
          · have _q := c6
            refine lv_iconst (v := iI 1) hx hb d_M_isWord_34 rfl ?_
            refine lv_goto (tgt := 39) hx hb d_M_isWord_35 (by decide) ?_
            refine lv_istore (lv' := [(6, .int (iI 1)), (0, .ref mo), (1, .int (iI x)), (2, .int (iI y)), (3, .long (wlg i)), (5, .int (iI n))]) hx hb d_M_isWord_39 hl (by decide) rfl (fun ls hl => ?_)
            refine lv_iconst (v := iI 0) hx hb d_M_isWord_41 rfl ?_
            refine lv_istore (lv' := [(7, .int (iI 0)), (6, .int (iI 1)), (0, .ref mo), (1, .int (iI x)), (2, .int (iI y)), (3, .long (wlg i)), (5, .int (iI n))]) hx hb d_M_isWord_42 hl (by decide) rfl (fun ls hl => ?_)
            exact K_44 (wln i - (0 : Int).toNat + 1) 0 true n (by omega) (by omega) (by intro _; first | omega | contradiction) (by unfold iwM; first | (rw [if_pos (by omega)]; rfl) | (rw [if_neg (by omega)]; rfl)) (Nat.lt_succ_self _) _ (lv_sub hl [2, 3, 4, 5, 6, 1, 0] rfl)
        · have _q := c5
          exact absurd c5 (by omega)
      · refine li_lcmp1 hx hb hz9 d_M_isWord_9 ?_
        refine li_if_eq (tgt := 26) hx hb d_M_isWord_10 (by decide) (by first | omega | (have h8 := sml_r (c := ca (x + k).toNat) (by omega); omega)) (fun c7 => ?_) (fun c7 => ?_)
        · have _q := c7
          exact absurd c7 (by omega)
        · have _q := c7
          obtain ⟨n_n, en_n⟩ : ∃ y_9 : Int, y_9 = n + 1 := ⟨_, rfl⟩
          refine lv_iinc (v := iI n_n) (lv' := [(5, .int (iI n_n)), (0, .ref mo), (1, .int (iI x)), (2, .int (iI y)), (3, .long (wlg i)), (6, .long (shW i q))]) hx hb d_M_isWord_13 hl (k := 4) rfl (by rw [en_n]; exact iI_add _ _) (by decide) rfl (fun ls hl => ?_)
          refine lv_lload hx hb d_M_isWord_16 (lv_at hl 5 rfl) ?_
          refine lv_bipush (v := iI 8) hx hb d_M_isWord_18 (by decide) ?_
          refine lv_lshr (v := shW i (q + 1)) hx hb d_M_isWord_20 (by exact shW_s i q) ?_
          refine lv_lstore (lv' := [(6, .long (shW i (q + 1))), (5, .int (iI n_n)), (0, .ref mo), (1, .int (iI x)), (2, .int (iI y)), (3, .long (wlg i))]) hx hb d_M_isWord_21 hl (by decide) rfl (fun ls hl => ?_)
          refine lv_goto (tgt := 6) hx hb d_M_isWord_23 (by decide) ?_
          exact ih_6 n_n (q + 1) (by first | rfl | omega) (by omega) (by omega) _ (lv_sub hl [2, 3, 4, 5, 1, 0] rfl)
  refine lv_iconst (v := iI 0) hx hb d_M_isWord_0 rfl ?_
  refine lv_istore (lv' := [(5, .int (iI 0)), (0, .ref mo), (1, .int (iI x)), (2, .int (iI y)), (3, .long (wlg i))]) hx hb d_M_isWord_1 hl (by decide) rfl (fun ls hl => ?_)
  refine lv_lload_n hx hb d_M_isWord_3 rfl (lv_at hl 4 rfl) ?_
  refine lv_lstore (lv' := [(6, .long (wlg i)), (5, .int (iI 0)), (0, .ref mo), (1, .int (iI x)), (2, .int (iI y)), (3, .long (wlg i))]) hx hb d_M_isWord_4 hl (by decide) rfl (fun ls hl => ?_)
  exact K_6 (wln i - 0 + 1) 0 0 (by first | rfl | omega) (by omega) (Nat.lt_succ_self _) _ (lv_sub hl [2, 3, 4, 5, 1, 0] rfl)
theorem d_M_isDescending_0 : decode b_M_isDescending 0 = .ok (.iload_n 2, 1) := by decide +kernel
theorem d_M_isDescending_1 : decode b_M_isDescending 1 = .ok (.iload_n 1, 1) := by decide +kernel
theorem d_M_isDescending_2 : decode b_M_isDescending 2 = .ok (.isub, 1) := by decide +kernel
theorem d_M_isDescending_3 : decode b_M_isDescending 3 = .ok (.bipush 10, 2) := by decide +kernel
theorem d_M_isDescending_5 : decode b_M_isDescending 5 = .ok (.if_icmp .ne 37, 3) := by decide +kernel
theorem d_M_isDescending_8 : decode b_M_isDescending 8 = .ok (.aload_n 0, 1) := by decide +kernel
theorem d_M_isDescending_9 : decode b_M_isDescending 9 = .ok (.iload_n 1, 1) := by decide +kernel
theorem d_M_isDescending_10 : decode b_M_isDescending 10 = .ok (.iload_n 1, 1) := by decide +kernel
theorem d_M_isDescending_11 : decode b_M_isDescending 11 = .ok (.bipush 7, 2) := by decide +kernel
theorem d_M_isDescending_13 : decode b_M_isDescending 13 = .ok (.iadd, 1) := by decide +kernel
theorem d_M_isDescending_14 : decode b_M_isDescending 14 = .ok (.ldc2_w 182, 3) := by decide +kernel
theorem d_M_isDescending_17 : decode b_M_isDescending 17 = .ok (.invokevirtual 184, 3) := by decide +kernel
theorem d_M_isDescending_20 : decode b_M_isDescending 20 = .ok (.ifCond .eq 22, 3) := by decide +kernel
theorem d_M_isDescending_23 : decode b_M_isDescending 23 = .ok (.aload_n 0, 1) := by decide +kernel
theorem d_M_isDescending_24 : decode b_M_isDescending 24 = .ok (.iload_n 1, 1) := by decide +kernel
theorem d_M_isDescending_25 : decode b_M_isDescending 25 = .ok (.bipush 7, 2) := by decide +kernel
theorem d_M_isDescending_27 : decode b_M_isDescending 27 = .ok (.iadd, 1) := by decide +kernel
theorem d_M_isDescending_28 : decode b_M_isDescending 28 = .ok (.iload_n 2, 1) := by decide +kernel
theorem d_M_isDescending_29 : decode b_M_isDescending 29 = .ok (.ldc2_w 188, 3) := by decide +kernel
theorem d_M_isDescending_32 : decode b_M_isDescending 32 = .ok (.invokevirtual 184, 3) := by decide +kernel
theorem d_M_isDescending_35 : decode b_M_isDescending 35 = .ok (.ifCond .eq 7, 3) := by decide +kernel
theorem d_M_isDescending_38 : decode b_M_isDescending 38 = .ok (.iconst 1, 1) := by decide +kernel
theorem d_M_isDescending_39 : decode b_M_isDescending 39 = .ok (.goto 4, 3) := by decide +kernel
theorem d_M_isDescending_42 : decode b_M_isDescending 42 = .ok (.iconst 0, 1) := by decide +kernel
theorem d_M_isDescending_43 : decode b_M_isDescending 43 = .ok (.ireturn, 1) := by decide +kernel
set_option maxHeartbeats 4000000 in
set_option maxRecDepth 100000 in
theorem c_M_isDescending (l : Launch) (dC : Nat → ClassId) (dI : Nat → Nat → Nat) (kA : Nat → ClassId) (mo : Nat) (ma : Nat → Nat) (mrf : Int) (mz : Int) (mls : Int) (mfp : Int) (mfm : Int) (mtx : Int) (mwd : Int) (mak : Int) (mli : Int) (mlx : Int) (mat : Int) (mtk : Int) (mtf : Int) (mtt : Int) (mfa : Int) (mla : Int) (mlp : Int) (mdp : Int) (msi : Int) (mpf : Int) (mpt : Int) (mdn : Bool) (ca : Nat → Int) (x : Int) (y : Int) (hca : C2 ca) (hx0 : 0 ≤ x ∧ x ≤ y ∧ y ≤ 4120) : Met l y_M_isDescending (wsy y_M_isDescending b_M_isDescending 3 (some .boolean)) (rmd 2 0 0) (li_Pr (dC, dI) CL (TY kA) [.ref mo, .int (iI x), .int (iI y)] (va_P (dC, dI) CL [(mo, .inr (10, [.int (iI mrf), .ref (ma 0), .int (iI mz), .ref (ma 1), .ref (ma 2), .int (iI mls), .int (iI mfp), .int (iI mfm), .ref (ma 3), .int (iI mtx), .ref (ma 4), .ref (ma 5), .int (iI mwd), .ref (ma 6), .ref (ma 7), .int (iI mak), .ref (ma 8), .ref (ma 9), .int (iI mli), .int (iI mlx), .ref (ma 10), .ref (ma 11), .int (iI mat), .int (iI mtk), .int (iI mtf), .int (iI mtt), .int (iI mfa), .int (iI mla), .int (iI mlp), .int (iI mdp), .ref (ma 12), .ref (ma 13), .int (iI msi), .int (iI (bI mdn)), .int (iI mpf), .int (iI mpt)])), (ma 1, .inl (kA 0, 4120, .inl (aI ca)))])) (k2_QcV (.int (iI (bI (deM ca x y))))) 0 0 (fun _ => False) := by
  refine li_mr (by decide) (Nat.le_of_ble_eq_true rfl) (by exact li_narZ2 _) ?_
  intro p e s m args below meth c Q C hP hK hN hG fin ls hl
  obtain ⟨hx, hb, hr, hml, hown, hts, hlocks, hin⟩ := C
  have hown : s.vm.findClass R_M = some m.cls := hown
  have hP : va_P (dC, dI) CL [(mo, .inr (10, [.int (iI mrf), .ref (ma 0), .int (iI mz), .ref (ma 1), .ref (ma 2), .int (iI mls), .int (iI mfp), .int (iI mfm), .ref (ma 3), .int (iI mtx), .ref (ma 4), .ref (ma 5), .int (iI mwd), .ref (ma 6), .ref (ma 7), .int (iI mak), .ref (ma 8), .ref (ma 9), .int (iI mli), .int (iI mlx), .ref (ma 10), .ref (ma 11), .int (iI mat), .int (iI mtk), .int (iI mtf), .int (iI mtt), .int (iI mfa), .int (iI mla), .int (iI mlp), .int (iI mdp), .ref (ma 12), .ref (ma 13), .int (iI msi), .int (iI (bI mdn)), .int (iI mpf), .int (iI mpt)])), (ma 1, .inl (kA 0, 4120, .inl (aI ca)))] s.heap := hP
  have hl : lv_has ls 3 [(0, .ref mo), (1, .int (iI x)), (2, .int (iI y))] := hl
  refine lv_iload_n hx hb d_M_isDescending_0 rfl (lv_at hl 2 rfl) ?_
  refine lv_iload_n hx hb d_M_isDescending_1 rfl (lv_at hl 1 rfl) ?_
  refine li_isub hx hb d_M_isDescending_2 ?_
  refine lv_bipush (v := iI 10) hx hb d_M_isDescending_3 (by decide) ?_
  refine li_icmp_ne (tgt := 42) hx hb d_M_isDescending_5 (by decide) (by omega) (by omega) (fun c1 => ?_) (fun c1 => ?_)
  · have _q := c1
    refine lv_iconst (v := iI 0) hx hb d_M_isDescending_42 rfl ?_
    exact fin _ _ _ (by unfold deM; first | (rw [show decide (y - x = 10) = false from decide_eq_false (by omega)]; rfl) | (rw [show decide (y - x = 10) = true from decide_eq_true (by omega)]; simp [*, bI]; done)) d_M_isDescending_43
  · have _q := c1
    refine lv_aload_n hx hb d_M_isDescending_8 rfl (lv_at hl 0 rfl) ?_
    refine lv_iload_n hx hb d_M_isDescending_9 rfl (lv_at hl 1 rfl) ?_
    refine lv_iload_n hx hb d_M_isDescending_10 rfl (lv_at hl 1 rfl) ?_
    refine lv_bipush (v := iI 7) hx hb d_M_isDescending_11 (by decide) ?_
    refine li_iadd hx hb d_M_isDescending_13 ?_
    refine lv_ldc2 (v := (28259043934301796 : Int64)) hx hb hown (hts (Cond.constantLong R_M 182 28259043934301796) (tk6 79 rfl rfl)) d_M_isDescending_14 ?_
    refine W.eq (g2 := F0 m 17 ls [.long (wlg 15), .int (iI (x + 7)), .int (iI x), .ref mo]) rfl ?_
    refine li_callr ((va_runV (As := [.int (iI x), .int (iI (x + 7)), .long (wlg 15)]) (rest := []) ⟨hx, hb, hml, hown, hts⟩ (c_M_isWord l dC dI kA mo ma mrf mz mls mfp mfm mtx mwd mak mli mlx mat mtk mtf mtt mfa mla mlp mdp msi mpf mpt mdn ca x (x + 7) 15 (by exact hca) (by decide) (by omega)) (cw_M_184 hts rfl rfl ⟨Nat.le_of_ble_eq_true rfl, Nat.le_of_ble_eq_true rfl⟩) (li_preV (va_recv hK hP (ci := 10) (q0 := 0) rfl rfl) (hP.sub [0, 1] rfl) hK hN hG.rd) rfl rfl hl.1 rfl (lv_room (Nat.le_of_ble_eq_true rfl)) d_M_isDescending_17 ⟨(by show 0 + 0 ≤ 0; omega), (by show 0 + 0 ≤ 0; omega)⟩).run) ?_
    refine li_bz (tgt := 42) hx hb d_M_isDescending_20 (by decide) (fun c2 => ?_) (fun c2 => ?_)
    · have _q := c2
      refine lv_iconst (v := iI 0) hx hb d_M_isDescending_42 rfl ?_
      exact fin _ _ _ (by unfold deM; first | (rw [show decide (y - x = 10) = false from decide_eq_false (by omega)]; rfl) | (rw [show decide (y - x = 10) = true from decide_eq_true (by omega)]; simp [*, bI]; done)) d_M_isDescending_43
    · have _q := c2
      refine lv_aload_n hx hb d_M_isDescending_23 rfl (lv_at hl 0 rfl) ?_
      refine lv_iload_n hx hb d_M_isDescending_24 rfl (lv_at hl 1 rfl) ?_
      refine lv_bipush (v := iI 7) hx hb d_M_isDescending_25 (by decide) ?_
      refine li_iadd hx hb d_M_isDescending_27 ?_
      refine lv_iload_n hx hb d_M_isDescending_28 rfl (lv_at hl 2 rfl) ?_
      refine lv_ldc2 (v := (6909543 : Int64)) hx hb hown (hts (Cond.constantLong R_M 188 6909543) (tk6 80 rfl rfl)) d_M_isDescending_29 ?_
      refine W.eq (g2 := F0 m 32 ls [.long (wlg 16), .int (iI y), .int (iI (x + 7)), .ref mo]) rfl ?_
      refine li_callr ((va_runV (As := [.int (iI (x + 7)), .int (iI y), .long (wlg 16)]) (rest := []) ⟨hx, hb, hml, hown, hts⟩ (c_M_isWord l dC dI kA mo ma mrf mz mls mfp mfm mtx mwd mak mli mlx mat mtk mtf mtt mfa mla mlp mdp msi mpf mpt mdn ca (x + 7) y 16 (by exact hca) (by decide) (by omega)) (cw_M_184 hts rfl rfl ⟨Nat.le_of_ble_eq_true rfl, Nat.le_of_ble_eq_true rfl⟩) (li_preV (va_recv hK hP (ci := 10) (q0 := 0) rfl rfl) (hP.sub [0, 1] rfl) hK hN hG.rd) rfl rfl hl.1 rfl (lv_room (Nat.le_of_ble_eq_true rfl)) d_M_isDescending_32 ⟨(by show 0 + 0 ≤ 0; omega), (by show 0 + 0 ≤ 0; omega)⟩).run) ?_
      refine li_bz (tgt := 42) hx hb d_M_isDescending_35 (by decide) (fun c3 => ?_) (fun c3 => ?_)
      · have _q := c3
        refine lv_iconst (v := iI 0) hx hb d_M_isDescending_42 rfl ?_
        exact fin _ _ _ (by unfold deM; first | (rw [show decide (y - x = 10) = false from decide_eq_false (by omega)]; rfl) | (rw [show decide (y - x = 10) = true from decide_eq_true (by omega)]; simp [*, bI]; done)) d_M_isDescending_43
      · have _q := c3
        refine lv_iconst (v := iI 1) hx hb d_M_isDescending_38 rfl ?_
        refine lv_goto (tgt := 43) hx hb d_M_isDescending_39 (by decide) ?_
        exact fin _ _ _ (by unfold deM; first | (rw [show decide (y - x = 10) = false from decide_eq_false (by omega)]; rfl) | (rw [show decide (y - x = 10) = true from decide_eq_true (by omega)]; simp [*, bI]; done)) d_M_isDescending_43

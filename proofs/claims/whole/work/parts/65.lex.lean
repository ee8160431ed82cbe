def R_Ar : String := "java/util/Arrays"
theorem ii_Ar : Cond.initialized R_Ar ∈ TB := tk1 24 rfl rfl
abbrev b_Ar_copyOf : ByteArray := prog_25_method_123_code
def y_Ar_copyOf : MethodName := ⟨R_Ar, "copyOf", "([II)[I"⟩
theorem k_Ar_copyOf : Cond.code y_Ar_copyOf b_Ar_copyOf 3 (some (.array .int)) ∈ TB := tk5 36 rfl rfl
theorem cw_L_71 {R : Room} {s : State} {args : Array Value} {rm : Room} {mc ms : Nat} (hts : ∀ w ∈ TB, w.before args s = true) (hrc : rm.cells = mc) (hrs : rm.slots = ms) (hR : rm.frames + 1 ≤ R.frames ∧ 8 + (3 + 11) + rm.locals ≤ R.locals) : CallB R s args R_L 71 y_Ar_copyOf b_Ar_copyOf 3 (some (.array .int)) (wsy y_Ar_copyOf b_Ar_copyOf 3 (some (.array .int))) rm mc ms 2 ∧ (Cond.static y_Ar_copyOf).before args s = true := va_cwS 2 hts (giS (tk5 34 rfl rfl) (tk5 35 rfl rfl) ii_Ar k_Ar_copyOf) rfl hrc hrs (by decide +kernel) hR
abbrev b_N_bitCount : ByteArray := prog_17_method_49_code
def y_N_bitCount : MethodName := ⟨R_N, "bitCount", "(I)I"⟩
theorem k_N_bitCount : Cond.code y_N_bitCount b_N_bitCount 1 (some .int) ∈ TB := tk5 75 rfl rfl
theorem cw_L_91 {R : Room} {s : State} {args : Array Value} {rm : Room} {mc ms : Nat} (hts : ∀ w ∈ TB, w.before args s = true) (hrc : rm.cells = mc) (hrs : rm.slots = ms) (hR : rm.frames + 1 ≤ R.frames ∧ 8 + (1 + 11) + rm.locals ≤ R.locals) : CallB R s args R_L 91 y_N_bitCount b_N_bitCount 1 (some .int) (wsy y_N_bitCount b_N_bitCount 1 (some .int)) rm mc ms 1 ∧ (Cond.static y_N_bitCount).before args s = true := va_cwS 1 hts (giS (tk5 73 rfl rfl) (tk5 74 rfl rfl) ii_N k_N_bitCount) rfl hrc hrs (by decide +kernel) hR
theorem li_mwa {S : Type} {l : Launch} {y : MethodName} {b : ByteArray} {n d mc ms sz : Nat} {ty : FieldType} {D : va_G} {tys : List (ClassId × FieldType)} {as : List Value} {w0 : va_W} {Bx : Heap → Prop} {post : S → Prop} {w1 : S → va_W} {r : S → Nat}
    (hy : plainName y.cls = true) (hn : (lg_sl as).length ≤ n) (hty : (∃ n, ty = .object n) ∨ ∃ t, ty = .array t)
    (body : ∀ (p : Program) (e : Env) (s : State) (m : MethodId) (args : Array Value) (below : List Frame) (meth : Method) (c : Code) (Q : State → Prop) (A : Nat → Prop), li_C y b n (some ty) p s m args meth c → va_P D CL w0 s.heap → va_D A w0 → Bx s.heap → va_K D CL tys s → NW s → GW D.2 s → (∀ q, s.heap.size ≤ q → A q) → (∀ q, A q → (∃ (k : Nat) (e : va_E), w0[k]? = some (q, e)) ∨ s.heap.size ≤ q) → (∀ q, A q → D.2 100 0 ≤ q) →
      (∀ (u : S) (z : Nat) (H : Heap) (locs : List Loc) (pc : Nat) (ls : Array Slot), z = r u → post u → va_P D CL (w1 u) H → va_D A (w1 u) → va_S A s.heap H locs → decode b pc = .ok (.areturn, 1) → W p l e (rmd d mc ms) s m args below meth c H locs mc ms Q (F0 m pc ls [.ref z])) →
      ∀ ls : Array Slot, lv_has ls n (lv_args 0 as) → W p l e (rmd d mc ms) s m args below meth c s.heap [] 0 0 Q (F0 m 0 ls [])) :
    Met l y (wsy y b n (some ty)) (rmd d mc ms) (li_Pr D CL tys as (fun h => h.size = sz ∧ va_P D CL w0 h ∧ va_D (fun q => D.2 100 0 ≤ q) w0 ∧ Bx h)) (li_Qw D CL post (fun u => some (.ref (r u))) w1 (va_A w0 sz)) mc ms (va_A w0 sz) := by
  refine li_met hy hn ?_
  intro p e s m below meth c C hB hK hN hG ls hl
  obtain ⟨hsz, hP, hD, hBx⟩ := hB
  subst hsz
  refine body p e s m _ below meth c _ (va_A w0 s.heap.size) C hP (hD.self) hBx hK hN hG (fun q h => Or.inr h) (fun q h => h) (fun q h => by rcases h with ⟨k, e, h⟩ | h; (exact hD.2 k _ h); exact Nat.le_trans hG.1 h) ?_ ls hl
  intro u z H locs pc ls ez hp hP1 hD1 hS hd
  subst ez
  obtain ⟨hx, hb, hr, hml, hown, hts, hlocks, hin⟩ := C
  exact W.aret hx hb hr hty (Or.inr ⟨_, rfl⟩) (fun t ht hW => ⟨u, rfl, hp, by rw [ht]; exact hP1, hD1, hS.F ht⟩) hS.2.2 hd
def bcF (x : Int) : Int :=
  (fun a => (fun b => (fun c => (fun d => (fun e => andI e 63) (d + ushI d 16)) (c + ushI c 8)) (andI (b + ushI b 4) 252645135)) (andI a 858993459 + andI (ushI a 2) 858993459)) (x - andI (ushI x 1) 1431655765)
theorem cpy0 {f g : Nat → Int} {n j : Nat} (h : j < n) : va_cpy f g (((0) : Int).toNat) (((0) : Int).toNat) n j = f j := by
  unfold va_cpy
  show (if 0 ≤ j ∧ j < 0 + n then f (0 + (j - 0)) else g j) = f j
  rw [if_pos (by omega), Nat.sub_zero, Nat.zero_add]
theorem cpy_r {f : Nat → Int} {n : Nat} (h : ∀ j, 0 ≤ f j ∧ f j < 256) : ∀ j, 0 ≤ va_cpy f (fun _ => 0) (((0) : Int).toNat) (((0) : Int).toNat) n j ∧ va_cpy f (fun _ => 0) (((0) : Int).toNat) (((0) : Int).toNat) n j < 256 := by
  intro j; unfold va_cpy; split
  · exact h _
  · exact ⟨Int.le_refl _, (show (0 : Int) < 256 by decide)⟩
def rmN (xn : Nat) (xc ln : Int) : Nat := if (xn : Int) < xc + ln then 2 * xn + ln.toNat else xn
/-- WORDS and holders of a lexicon -/
def LX (ws : List (List Int)) (hs : List Int) (xc xz : Int) (lx bx ex hd : Nat → Int) : Prop := WL ws xz lx bx ex ∧ hs.length = ws.length ∧ (∀ (j : Nat) (h : j < hs.length), hd j = hs[j]) ∧ ∀ j : Nat, (j : Int) < xz → ex j ≤ xc
abbrev insA {α : Type} (xs : List α) (k : Nat) (x : α) : List α := xs.take k ++ x :: xs.drop k
theorem insA_len {α : Type} {xs : List α} {k : Nat} {x : α} (h : k ≤ xs.length) : (insA xs k x).length = xs.length + 1 := by
  rw [List.length_append, List.length_cons, List.length_take, List.length_drop]; omega
theorem insA_lo {α : Type} {xs : List α} {k j : Nat} {x : α} (h : k ≤ xs.length) (hj : j < k) (h2 : j < (insA xs k x).length) : (insA xs k x)[j] = xs[j]'(by omega) := by
  rw [List.getElem_append_left (by rw [List.length_take]; omega), List.getElem_take]
theorem insA_at {α : Type} {xs : List α} {k : Nat} {x : α} (h : k ≤ xs.length) (h2 : k < (insA xs k x).length) : (insA xs k x)[k] = x := by
  rw [List.getElem_append_right (by rw [List.length_take]; omega)]
  have e : k - (xs.take k).length = 0 := by rw [List.length_take]; omega
  simp only [e, List.getElem_cons_zero]
theorem insA_hi {α : Type} {xs : List α} {k j : Nat} {x : α} (h : k ≤ xs.length) (hj : k < j) (h2 : j < (insA xs k x).length) (h3 : j - 1 < xs.length) : (insA xs k x)[j] = xs[j - 1] := by
  rw [List.getElem_append_right (by rw [List.length_take]; omega)]
  have e : j - (xs.take k).length = (j - 1 - k) + 1 := by rw [List.length_take]; omega
  simp only [e, List.getElem_cons_succ, List.getElem_drop]
  congr 1; omega
/-- a shift by one, and what is put there -/
def SHF (f g : Nat → Int) (k z v : Int) : Prop := (∀ j : Nat, (j : Int) < k → g j = f j) ∧ g k.toNat = v ∧ ∀ j : Nat, k < (j : Int) → (j : Int) ≤ z → g j = f (j - 1)
theorem LX.ins {ws : List (List Int)} {hs : List Int} {xc xz : Int} {lx bx ex hd lx2 bx2 ex2 hd2 : Nat → Int} (h : LX ws hs xc xz lx bx ex hd) {k ln : Int} (hk : 0 ≤ k ∧ k ≤ xz) (hc : 0 ≤ xc) (hln : 0 ≤ ln) {w : List Int}
    (hl : ∀ j : Nat, (j : Int) < xc → lx2 j = lx j) (hw : wdL lx2 xc (xc + ln) = w) (hb : SHF bx bx2 k xz xc) (he : SHF ex ex2 k xz (xc + ln)) (hh : SHF hd hd2 k xz 0) :
    LX (insA ws k.toNat w) (insA hs k.toNat 0) (xc + ln) (xz + 1) lx2 bx2 ex2 hd2 := by
  obtain ⟨⟨h1, h2⟩, h3, h4, h5⟩ := h
  have hkw : k.toNat ≤ ws.length := by omega
  have hkh : k.toNat ≤ hs.length := by omega
  have keep : ∀ a b : Int, 0 ≤ a → b ≤ xc → wdL lx2 a b = wdL lx a b := by
    intro a b ha hb
    unfold wdL
    refine List.map_congr_left (fun i hi => ?_)
    have := List.mem_range.mp hi
    exact hl _ (by omega)
  refine ⟨⟨by rw [insA_len hkw]; omega, fun j hj => ?_⟩, by rw [insA_len hkw, insA_len hkh, h3], fun j hj => ?_, fun j hj => ?_⟩
  · rw [insA_len hkw] at hj
    rcases Nat.lt_trichotomy j k.toNat with q | q | q
    · rw [insA_lo hkw q, hb.1 j (by omega), he.1 j (by omega)]
      have e1 := h2 j (by omega)
      have e2 := h5 j (by omega)
      rw [keep _ _ e1.2.1 e2]
      exact e1
    · subst q
      rw [insA_at hkw, hb.2.1, he.2.1]
      exact ⟨hw, hc, by omega⟩
    · rw [insA_hi hkw q _ (by omega), hb.2.2 j (by omega) (by omega), he.2.2 j (by omega) (by omega)]
      have e1 := h2 (j - 1) (by omega)
      have e2 := h5 (j - 1) (by omega)
      rw [keep _ _ e1.2.1 e2]
      exact e1
  · rw [insA_len hkh] at hj
    rcases Nat.lt_trichotomy j k.toNat with q | q | q
    · rw [insA_lo hkh q, hh.1 j (by omega)]; exact h4 j (by omega)
    · subst q; rw [insA_at hkh, hh.2.1]
    · rw [insA_hi hkh q _ (by omega), hh.2.2 j (by omega) (by omega)]; exact h4 (j - 1) (by omega)
  · rcases Nat.lt_trichotomy j k.toNat with q | q | q
    · rw [he.1 j (by omega)]; have := h5 j (by omega); omega
    · subst q; rw [he.2.1]; omega
    · rw [he.2.2 j (by omega) (by omega)]; have := h5 (j - 1) (by omega); omega
theorem SHF.of {f : Nat → Int} {k z v : Int} (hk : 0 ≤ k ∧ k ≤ z) (g : Nat → Int) (hg : ∀ j : Nat, (j : Int) < z → g j = f j) : SHF f (va_up (va_cpy g g k.toNat (k + 1).toNat (z - k).toNat) k.toNat v) k z v := by
  refine ⟨fun j hj => ?_, by simp [va_up], fun j hj hj2 => ?_⟩
  · unfold va_up va_cpy
    rw [if_neg (by omega), if_neg (by omega)]; exact hg j (by omega)
  · unfold va_up va_cpy
    rw [if_neg (by omega), if_pos (by omega)]
    rw [show k.toNat + (j - (k + 1).toNat) = j - 1 by omega]; exact hg (j - 1) (by omega)
def KG (f g : Nat → Int) (z : Int) : Prop := (∀ j : Nat, (j : Int) < z → g j = f j) ∧ ∀ j : Nat, (∃ i, g j = f i) ∨ g j = 0
theorem KG.rf {f : Nat → Int} {z : Int} : KG f f z := ⟨fun _ _ => rfl, fun j => Or.inl ⟨j, rfl⟩⟩
theorem KG.cp {f : Nat → Int} {z : Int} {n : Nat} (h : z ≤ n) : KG f (va_cpy f (fun _ => 0) 0 0 n) z := by
  refine ⟨fun j hj => ?_, fun j => ?_⟩
  · unfold va_cpy
    rw [if_pos (by omega), Nat.sub_zero, Nat.zero_add]
  · unfold va_cpy
    split
    · exact Or.inl ⟨_, rfl⟩
    · exact Or.inr rfl
theorem KG.shf {f g : Nat → Int} {k z v : Int} (h : KG f g z) (hk : 0 ≤ k ∧ k ≤ z) : SHF f (va_up (va_cpy g g k.toNat (k + 1).toNat (z - k).toNat) k.toNat v) k z v := SHF.of hk g h.1
theorem KG.r {f g : Nat → Int} {z v lo hi : Int} {a b n k : Nat} (h : KG f g z) (hf : ∀ j, lo ≤ f j ∧ f j ≤ hi) (h0 : lo ≤ 0 ∧ 0 ≤ hi) (hv : lo ≤ v ∧ v ≤ hi) : ∀ j, lo ≤ va_up (va_cpy g g a b n) k v j ∧ va_up (va_cpy g g a b n) k v j ≤ hi := by
  have hg : ∀ j, lo ≤ g j ∧ g j ≤ hi := by
    intro j
    rcases h.2 j with ⟨i, e⟩ | e
    · rw [e]; exact hf i
    · rw [e]; exact h0
  intro j
  unfold va_up va_cpy
  split
  · exact hv
  · split
    · exact hg _
    · exact hg _
theorem KG.r4 {f g : Nat → Int} {z : Int} {a b n k : Nat} (h : KG f g z) (hf : ∀ j, 0 ≤ f j ∧ f j < 1024) : ∀ j, 0 ≤ va_up (va_cpy g g a b n) k 0 j ∧ va_up (va_cpy g g a b n) k 0 j < 1024 := by
  intro j
  have h8 := KG.r (lo := 0) (hi := 1023) (a := a) (b := b) (n := n) (k := k) (v := 0) h (fun j => ⟨(hf j).1, by have := hf j; omega⟩) (by omega) (by omega) j
  exact ⟨h8.1, by omega⟩
theorem wdL_cpy {t g : Nat → Int} {fr xc ln : Int} (h1 : 0 ≤ fr) (h2 : 0 ≤ xc) (h3 : 0 ≤ ln) : wdL (va_cpy t g fr.toNat xc.toNat ln.toNat) xc (xc + ln) = wdL t fr (fr + ln) := by
  unfold wdL
  rw [show (xc + ln - xc).toNat = ln.toNat by omega, show (fr + ln - fr).toNat = ln.toNat by omega]
  refine List.map_congr_left (fun i hi => ?_)
  have := List.mem_range.mp hi
  unfold va_cpy
  rw [if_pos (by omega)]
  congr 1; omega
theorem rmN_r {xn : Nat} {xc ln : Int} (h : 0 ≤ xc ∧ xc ≤ xn ∧ 0 ≤ ln) : xc + ln ≤ rmN xn xc ln ∧ xn ≤ rmN xn xc ln ∧ (rmN xn xc ln : Int) ≤ 2 * xn + ln := by
  unfold rmN; split <;> omega
def cpK (xk : Nat) (xz : Int) : Nat := if xz = xk then 2 * xk else xk

theorem d_Ar_copyOf_0 : decode b_Ar_copyOf 0 = .ok (.iload_n 1, 1) := by decide +kernel
theorem d_Ar_copyOf_1 : decode b_Ar_copyOf 1 = .ok (.aload_n 0, 1) := by decide +kernel
theorem d_Ar_copyOf_2 : decode b_Ar_copyOf 2 = .ok (.arraylength, 1) := by decide +kernel
theorem d_Ar_copyOf_3 : decode b_Ar_copyOf 3 = .ok (.if_icmp .ne 11, 3) := by decide +kernel
theorem d_Ar_copyOf_6 : decode b_Ar_copyOf 6 = .ok (.aload_n 0, 1) := by decide +kernel
theorem d_Ar_copyOf_7 : decode b_Ar_copyOf 7 = .ok (.invokevirtual 316, 3) := by decide +kernel
theorem d_Ar_copyOf_10 : decode b_Ar_copyOf 10 = .ok (.checkcast 317, 3) := by decide +kernel
theorem d_Ar_copyOf_13 : decode b_Ar_copyOf 13 = .ok (.areturn, 1) := by decide +kernel
theorem d_Ar_copyOf_14 : decode b_Ar_copyOf 14 = .ok (.iload_n 1, 1) := by decide +kernel
theorem d_Ar_copyOf_15 : decode b_Ar_copyOf 15 = .ok (.newarray .int, 2) := by decide +kernel
theorem d_Ar_copyOf_17 : decode b_Ar_copyOf 17 = .ok (.astore_n 2, 1) := by decide +kernel
theorem d_Ar_copyOf_18 : decode b_Ar_copyOf 18 = .ok (.aload_n 0, 1) := by decide +kernel
theorem d_Ar_copyOf_19 : decode b_Ar_copyOf 19 = .ok (.iconst 0, 1) := by decide +kernel
theorem d_Ar_copyOf_20 : decode b_Ar_copyOf 20 = .ok (.aload_n 2, 1) := by decide +kernel
theorem d_Ar_copyOf_21 : decode b_Ar_copyOf 21 = .ok (.iconst 0, 1) := by decide +kernel
theorem d_Ar_copyOf_22 : decode b_Ar_copyOf 22 = .ok (.aload_n 0, 1) := by decide +kernel
theorem d_Ar_copyOf_23 : decode b_Ar_copyOf 23 = .ok (.arraylength, 1) := by decide +kernel
theorem d_Ar_copyOf_24 : decode b_Ar_copyOf 24 = .ok (.iload_n 1, 1) := by decide +kernel
theorem d_Ar_copyOf_25 : decode b_Ar_copyOf 25 = .ok (.invokestatic 304, 3) := by decide +kernel
theorem d_Ar_copyOf_28 : decode b_Ar_copyOf 28 = .ok (.invokestatic 150, 3) := by decide +kernel
theorem d_Ar_copyOf_31 : decode b_Ar_copyOf 31 = .ok (.aload_n 2, 1) := by decide +kernel
theorem d_Ar_copyOf_32 : decode b_Ar_copyOf 32 = .ok (.areturn, 1) := by decide +kernel
set_option maxHeartbeats 4000000 in
set_option maxRecDepth 100000 in
theorem c_Ar_copyOf (l : Launch) (dC : Nat → ClassId) (dI : Nat → Nat → Nat) (kA : Nat → ClassId) (sz : Nat) (a0 : Nat) (n : Nat) (f : Nat → Int) (kk : Int) (hk : 0 ≤ kk ∧ kk ≤ 100000 ∧ n ≤ 100000 ∧ ¬ kk = n) : Met l y_Ar_copyOf (wsy y_Ar_copyOf b_Ar_copyOf 3 (some (.array .int))) (rmd 1 1 kk.toNat) (li_Pr (dC, dI) CL (TY kA) [.ref a0, .int (iI kk)] (fun h => h.size = sz ∧ va_P (dC, dI) CL [(a0, .inl (kA 0, n, .inl (aI f)))] h ∧ va_D (fun q => dI 100 0 ≤ q) [(a0, .inl (kA 0, n, .inl (aI f)))] ∧ (fun _ => True) h)) (li_Qw (S := (Nat)) (dC, dI) CL (fun _ => True) (fun u => some (.ref u)) (fun u => [(a0, .inl (kA 0, n, .inl (aI f))), (u, .inl (kA 0, (kk.toNat), .inl (aI (va_cpy f (fun _ => 0) 0 0 (min n kk.toNat)))))]) (va_A [(a0, .inl (kA 0, n, .inl (aI f)))] sz)) 1 kk.toNat (va_A [(a0, .inl (kA 0, n, .inl (aI f)))] sz) := by
  refine li_mwa (r := fun (u : (Nat)) => u) (by decide) (Nat.le_of_ble_eq_true rfl) (by first | exact Or.inl ⟨_, rfl⟩ | exact Or.inr ⟨_, rfl⟩) ?_
  intro p e s m args below meth c Q A C hP hD hBx hK hN hG hA hAi hAN fin ls hl
  obtain ⟨hx, hb, hr, hml, hown, hts, hlocks, hin⟩ := C
  have hown : s.vm.findClass R_Ar = some m.cls := hown
  have hl : lv_has ls 3 [(0, .ref a0), (1, .int (iI kk))] := hl
  suffices h9 : ∀ (H : Heap) (locs : List Loc), H = s.heap → locs = [] → W p l e (rmd 1 1 kk.toNat) s m args below meth c H locs 0 0 Q (F0 m 0 ls []) from h9 _ _ rfl rfl
  intro H locs eH eL
  have hP : va_P (dC, dI) CL [(a0, .inl (kA 0, n, .inl (aI f)))] H := by rw [eH]; exact hP
  have hS : va_S A s.heap H locs := by rw [eH, eL]; exact va_S.rf
  refine lv_iload_n hx hb d_Ar_copyOf_0 rfl (lv_at hl 1 rfl) ?_
  refine lv_aload_n hx hb d_Ar_copyOf_1 rfl (lv_at hl 0 rfl) ?_
  refine li_alen hx hb hK hP 0 0 rfl rfl d_Ar_copyOf_2 ?_
  refine li_icmp_ne (tgt := 14) hx hb d_Ar_copyOf_3 (by decide) (by omega) (by omega) (fun c1 => ?_) (fun c1 => ?_)
  · have _q := c1
    refine lv_iload_n hx hb d_Ar_copyOf_14 rfl (lv_at hl 1 rfl) ?_
    refine li_newI hx hb (hts (Cond.arrayClass .int) (tk1 68 rfl rfl)) hK hP hD hS hA 0 rfl (kk.toNat) (by omega) (by omega) (by show 0 + 1 ≤ 1; omega) (by show 0 + (kk.toNat) ≤ kk.toNat; omega) d_Ar_copyOf_15 (fun q_n H hP hD hS => ?_)
    have hP : va_P (dC, dI) CL [(a0, .inl (kA 0, n, .inl (aI f))), (q_n, .inl (kA 0, (kk.toNat), .inl (aI (fun _ => 0))))] H := hP
    have hD : va_D A [(a0, .inl (kA 0, n, .inl (aI f))), (q_n, .inl (kA 0, (kk.toNat), .inl (aI (fun _ => 0))))] := hD
    refine lv_astore_n (lv' := [(2, .ref q_n), (0, .ref a0), (1, .int (iI kk))]) hx hb d_Ar_copyOf_17 rfl hl (by decide) rfl (fun ls hl => ?_)
    refine lv_aload_n hx hb d_Ar_copyOf_18 rfl (lv_at hl 1 rfl) ?_
    refine lv_iconst (v := iI 0) hx hb d_Ar_copyOf_19 rfl ?_
    refine lv_aload_n hx hb d_Ar_copyOf_20 rfl (lv_at hl 0 rfl) ?_
    refine lv_iconst (v := iI 0) hx hb d_Ar_copyOf_21 rfl ?_
    refine lv_aload_n hx hb d_Ar_copyOf_22 rfl (lv_at hl 1 rfl) ?_
    refine li_alen hx hb hK hP 0 0 rfl rfl d_Ar_copyOf_23 ?_
    refine lv_iload_n hx hb d_Ar_copyOf_24 rfl (lv_at hl 2 rfl) ?_
    refine li_mmin hx hb (hml.trans hl.1.symm) hown (hts (Cond.methodLink R_Ar 304 Lib.Math.min.name) (tk5 44 rfl rfl)) (hts (Cond.static Lib.Math.min.name) (tk2 85 rfl rfl)) (hts (Cond.initialized "java/lang/Math") (tk1 8 rfl rfl)) (hts (Cond.code Lib.Math.min.name Lib.Math.min.code 2 (some .int)) (tk2 86 rfl rfl)) (Nat.le_of_ble_eq_true rfl) (Nat.le_of_ble_eq_true rfl) (by show 0 + 1 ≤ 1; omega) (by show 0 + (kk.toNat) ≤ kk.toNat; omega) (by omega) (by omega) d_Ar_copyOf_25 ?_
    refine li_copy hx hb (hml.trans hl.1.symm) hown (hts (Cond.methodLink R_Ar 150 arraycopyName) (tk5 45 rfl rfl)) (hts (Cond.native arraycopyName) (tk2 226 rfl rfl)) (hts (Cond.static arraycopyName) (tk2 225 rfl rfl)) (hts (Cond.initialized "java/lang/System") (tk1 22 rfl rfl)) hK hP hD hS 0 1 0 rfl rfl rfl rfl (by omega) (by omega) (by omega) (by omega) (by omega) (by omega) (fun _ => rfl) (Nat.le_of_ble_eq_true rfl) (Nat.le_of_ble_eq_true rfl) d_Ar_copyOf_28 (fun H locs hP hD hS => ?_)
    have hP : va_P (dC, dI) CL [(a0, .inl (kA 0, n, .inl (aI f))), (q_n, .inl (kA 0, (kk.toNat), .inl (aI (va_cpy f (fun _ => 0) (((0) : Int).toNat) (((0) : Int).toNat) ((min ((n : Nat) : Int) kk).toNat)))))] H := hP
    have hD : va_D A [(a0, .inl (kA 0, n, .inl (aI f))), (q_n, .inl (kA 0, (kk.toNat), .inl (aI (va_cpy f (fun _ => 0) (((0) : Int).toNat) (((0) : Int).toNat) ((min ((n : Nat) : Int) kk).toNat)))))] := hD
    refine lv_aload_n hx hb d_Ar_copyOf_31 rfl (lv_at hl 0 rfl) ?_
    refine W.widen (k := 1) (n := kk.toNat) (by omega) (by omega) ?_
    exact fin (q_n) _ _ _ _ _ (by rfl) (by trivial) (by first | (have e9 : (min (n : Int) kk).toNat = min n kk.toNat := (by omega); rw [← e9]; exact hP) | exact hP) (by first | (have e9 : (min (n : Int) kk).toNat = min n kk.toNat := (by omega); rw [← e9]; exact hD) | exact hD) hS d_Ar_copyOf_32
  · have _q := c1
    exact absurd c1 (by omega)
theorem d_N_bitCount_0 : decode b_N_bitCount 0 = .ok (.iload_n 0, 1) := by decide +kernel
theorem d_N_bitCount_1 : decode b_N_bitCount 1 = .ok (.iload_n 0, 1) := by decide +kernel
theorem d_N_bitCount_2 : decode b_N_bitCount 2 = .ok (.iconst 1, 1) := by decide +kernel
theorem d_N_bitCount_3 : decode b_N_bitCount 3 = .ok (.iushr, 1) := by decide +kernel
theorem d_N_bitCount_4 : decode b_N_bitCount 4 = .ok (.ldc_w 265, 3) := by decide +kernel
theorem d_N_bitCount_7 : decode b_N_bitCount 7 = .ok (.iand, 1) := by decide +kernel
theorem d_N_bitCount_8 : decode b_N_bitCount 8 = .ok (.isub, 1) := by decide +kernel
theorem d_N_bitCount_9 : decode b_N_bitCount 9 = .ok (.istore_n 0, 1) := by decide +kernel
theorem d_N_bitCount_10 : decode b_N_bitCount 10 = .ok (.iload_n 0, 1) := by decide +kernel
theorem d_N_bitCount_11 : decode b_N_bitCount 11 = .ok (.ldc_w 266, 3) := by decide +kernel
theorem d_N_bitCount_14 : decode b_N_bitCount 14 = .ok (.iand, 1) := by decide +kernel
theorem d_N_bitCount_15 : decode b_N_bitCount 15 = .ok (.iload_n 0, 1) := by decide +kernel
theorem d_N_bitCount_16 : decode b_N_bitCount 16 = .ok (.iconst 2, 1) := by decide +kernel
theorem d_N_bitCount_17 : decode b_N_bitCount 17 = .ok (.iushr, 1) := by decide +kernel
theorem d_N_bitCount_18 : decode b_N_bitCount 18 = .ok (.ldc_w 266, 3) := by decide +kernel
theorem d_N_bitCount_21 : decode b_N_bitCount 21 = .ok (.iand, 1) := by decide +kernel
theorem d_N_bitCount_22 : decode b_N_bitCount 22 = .ok (.iadd, 1) := by decide +kernel
theorem d_N_bitCount_23 : decode b_N_bitCount 23 = .ok (.istore_n 0, 1) := by decide +kernel
theorem d_N_bitCount_24 : decode b_N_bitCount 24 = .ok (.iload_n 0, 1) := by decide +kernel
theorem d_N_bitCount_25 : decode b_N_bitCount 25 = .ok (.iload_n 0, 1) := by decide +kernel
theorem d_N_bitCount_26 : decode b_N_bitCount 26 = .ok (.iconst 4, 1) := by decide +kernel
theorem d_N_bitCount_27 : decode b_N_bitCount 27 = .ok (.iushr, 1) := by decide +kernel
theorem d_N_bitCount_28 : decode b_N_bitCount 28 = .ok (.iadd, 1) := by decide +kernel
theorem d_N_bitCount_29 : decode b_N_bitCount 29 = .ok (.ldc_w 267, 3) := by decide +kernel
theorem d_N_bitCount_32 : decode b_N_bitCount 32 = .ok (.iand, 1) := by decide +kernel
theorem d_N_bitCount_33 : decode b_N_bitCount 33 = .ok (.istore_n 0, 1) := by decide +kernel
theorem d_N_bitCount_34 : decode b_N_bitCount 34 = .ok (.iload_n 0, 1) := by decide +kernel
theorem d_N_bitCount_35 : decode b_N_bitCount 35 = .ok (.iload_n 0, 1) := by decide +kernel
theorem d_N_bitCount_36 : decode b_N_bitCount 36 = .ok (.bipush 8, 2) := by decide +kernel
theorem d_N_bitCount_38 : decode b_N_bitCount 38 = .ok (.iushr, 1) := by decide +kernel
theorem d_N_bitCount_39 : decode b_N_bitCount 39 = .ok (.iadd, 1) := by decide +kernel
theorem d_N_bitCount_40 : decode b_N_bitCount 40 = .ok (.istore_n 0, 1) := by decide +kernel
theorem d_N_bitCount_41 : decode b_N_bitCount 41 = .ok (.iload_n 0, 1) := by decide +kernel
theorem d_N_bitCount_42 : decode b_N_bitCount 42 = .ok (.iload_n 0, 1) := by decide +kernel
theorem d_N_bitCount_43 : decode b_N_bitCount 43 = .ok (.bipush 16, 2) := by decide +kernel
theorem d_N_bitCount_45 : decode b_N_bitCount 45 = .ok (.iushr, 1) := by decide +kernel
theorem d_N_bitCount_46 : decode b_N_bitCount 46 = .ok (.iadd, 1) := by decide +kernel
theorem d_N_bitCount_47 : decode b_N_bitCount 47 = .ok (.istore_n 0, 1) := by decide +kernel
theorem d_N_bitCount_48 : decode b_N_bitCount 48 = .ok (.iload_n 0, 1) := by decide +kernel
theorem d_N_bitCount_49 : decode b_N_bitCount 49 = .ok (.bipush 63, 2) := by decide +kernel
theorem d_N_bitCount_51 : decode b_N_bitCount 51 = .ok (.iand, 1) := by decide +kernel
theorem d_N_bitCount_52 : decode b_N_bitCount 52 = .ok (.ireturn, 1) := by decide +kernel
set_option maxHeartbeats 4000000 in
set_option maxRecDepth 100000 in
theorem c_N_bitCount (l : Launch) (dC : Nat → ClassId) (dI : Nat → Nat → Nat) (kA : Nat → ClassId) (x : Int) (hx0 : -2147483648 ≤ x ∧ x < 2147483648) : Met l y_N_bitCount (wsy y_N_bitCount b_N_bitCount 1 (some .int)) (rmd 0 0 0) (li_Pr (dC, dI) CL (TY kA) [.int (iI x)] (va_P (dC, dI) CL [])) (k2_QcV (.int (iI (bcF x)))) 0 0 (fun _ => False) := by
  refine li_mr (by decide) (Nat.le_of_ble_eq_true rfl) (by rfl) ?_
  intro p e s m args below meth c Q C hP hK hN hG fin ls hl
  obtain ⟨hx, hb, hr, hml, hown, hts, hlocks, hin⟩ := C
  have hown : s.vm.findClass R_N = some m.cls := hown
  have hP : va_P (dC, dI) CL [] s.heap := hP
  have hl : lv_has ls 1 [(0, .int (iI x))] := hl
  refine lv_iload_n hx hb d_N_bitCount_0 rfl (lv_at hl 0 rfl) ?_
  refine lv_iload_n hx hb d_N_bitCount_1 rfl (lv_at hl 0 rfl) ?_
  refine lv_iconst (v := iI 1) hx hb d_N_bitCount_2 rfl ?_
  refine li_iushrI hx hb d_N_bitCount_3 ?_
  refine lv_ldcw (v := (1431655765 : Int32)) hx hb hown (hts (Cond.constant R_N 265 1431655765) (tk5 76 rfl rfl)) d_N_bitCount_4 ?_
  refine W.eq (g2 := F0 m 7 ls [.int (iI 1431655765), .int (iI (ushI x 1)), .int (iI x)]) rfl ?_
  refine li_iandI hx hb d_N_bitCount_7 ?_
  refine li_isub hx hb d_N_bitCount_8 ?_
  refine li_nm (fun x1 ex1 => ?_)
  refine lv_istore_n (lv' := [(0, .int (iI x1))]) hx hb d_N_bitCount_9 rfl hl (by decide) rfl (fun ls hl => ?_)
  refine lv_iload_n hx hb d_N_bitCount_10 rfl (lv_at hl 0 rfl) ?_
  refine lv_ldcw (v := (858993459 : Int32)) hx hb hown (hts (Cond.constant R_N 266 858993459) (tk5 77 rfl rfl)) d_N_bitCount_11 ?_
  refine W.eq (g2 := F0 m 14 ls [.int (iI 858993459), .int (iI x1)]) rfl ?_
  refine li_iandI hx hb d_N_bitCount_14 ?_
  refine lv_iload_n hx hb d_N_bitCount_15 rfl (lv_at hl 0 rfl) ?_
  refine lv_iconst (v := iI 2) hx hb d_N_bitCount_16 rfl ?_
  refine li_iushrI hx hb d_N_bitCount_17 ?_
  refine lv_ldcw (v := (858993459 : Int32)) hx hb hown (hts (Cond.constant R_N 266 858993459) (tk5 77 rfl rfl)) d_N_bitCount_18 ?_
  refine W.eq (g2 := F0 m 21 ls [.int (iI 858993459), .int (iI (ushI x1 2)), .int (iI (andI x1 858993459))]) rfl ?_
  refine li_iandI hx hb d_N_bitCount_21 ?_
  refine li_iadd hx hb d_N_bitCount_22 ?_
  refine li_nm (fun x2 ex2 => ?_)
  refine lv_istore_n (lv' := [(0, .int (iI x2))]) hx hb d_N_bitCount_23 rfl hl (by decide) rfl (fun ls hl => ?_)
  refine lv_iload_n hx hb d_N_bitCount_24 rfl (lv_at hl 0 rfl) ?_
  refine lv_iload_n hx hb d_N_bitCount_25 rfl (lv_at hl 0 rfl) ?_
  refine lv_iconst (v := iI 4) hx hb d_N_bitCount_26 rfl ?_
  refine li_iushrI hx hb d_N_bitCount_27 ?_
  refine li_iadd hx hb d_N_bitCount_28 ?_
  refine lv_ldcw (v := (252645135 : Int32)) hx hb hown (hts (Cond.constant R_N 267 252645135) (tk5 78 rfl rfl)) d_N_bitCount_29 ?_
  refine W.eq (g2 := F0 m 32 ls [.int (iI 252645135), .int (iI (x2 + (ushI x2 4)))]) rfl ?_
  refine li_iandI hx hb d_N_bitCount_32 ?_
  refine li_nm (fun x3 ex3 => ?_)
  refine lv_istore_n (lv' := [(0, .int (iI x3))]) hx hb d_N_bitCount_33 rfl hl (by decide) rfl (fun ls hl => ?_)
  refine lv_iload_n hx hb d_N_bitCount_34 rfl (lv_at hl 0 rfl) ?_
  refine lv_iload_n hx hb d_N_bitCount_35 rfl (lv_at hl 0 rfl) ?_
  refine lv_bipush (v := iI 8) hx hb d_N_bitCount_36 (by decide) ?_
  refine li_iushrI hx hb d_N_bitCount_38 ?_
  refine li_iadd hx hb d_N_bitCount_39 ?_
  refine li_nm (fun x4 ex4 => ?_)
  refine lv_istore_n (lv' := [(0, .int (iI x4))]) hx hb d_N_bitCount_40 rfl hl (by decide) rfl (fun ls hl => ?_)
  refine lv_iload_n hx hb d_N_bitCount_41 rfl (lv_at hl 0 rfl) ?_
  refine lv_iload_n hx hb d_N_bitCount_42 rfl (lv_at hl 0 rfl) ?_
  refine lv_bipush (v := iI 16) hx hb d_N_bitCount_43 (by decide) ?_
  refine li_iushrI hx hb d_N_bitCount_45 ?_
  refine li_iadd hx hb d_N_bitCount_46 ?_
  refine li_nm (fun x5 ex5 => ?_)
  refine lv_istore_n (lv' := [(0, .int (iI x5))]) hx hb d_N_bitCount_47 rfl hl (by decide) rfl (fun ls hl => ?_)
  refine lv_iload_n hx hb d_N_bitCount_48 rfl (lv_at hl 0 rfl) ?_
  refine lv_bipush (v := iI 63) hx hb d_N_bitCount_49 (by decide) ?_
  refine li_iandI hx hb d_N_bitCount_51 ?_
  exact fin _ _ _ (by subst_vars; rfl) d_N_bitCount_52
theorem d_L_holderCount_0 : decode b_L_holderCount 0 = .ok (.iload_n 1, 1) := by decide +kernel
theorem d_L_holderCount_1 : decode b_L_holderCount 1 = .ok (.ifCond .lt 23, 3) := by decide +kernel
theorem d_L_holderCount_4 : decode b_L_holderCount 4 = .ok (.iload_n 1, 1) := by decide +kernel
theorem d_L_holderCount_5 : decode b_L_holderCount 5 = .ok (.aload_n 0, 1) := by decide +kernel
theorem d_L_holderCount_6 : decode b_L_holderCount 6 = .ok (.getfield 25, 3) := by decide +kernel
theorem d_L_holderCount_9 : decode b_L_holderCount 9 = .ok (.if_icmp .ge 15, 3) := by decide +kernel
theorem d_L_holderCount_12 : decode b_L_holderCount 12 = .ok (.aload_n 0, 1) := by decide +kernel
theorem d_L_holderCount_13 : decode b_L_holderCount 13 = .ok (.getfield 22, 3) := by decide +kernel
theorem d_L_holderCount_16 : decode b_L_holderCount 16 = .ok (.iload_n 1, 1) := by decide +kernel
theorem d_L_holderCount_17 : decode b_L_holderCount 17 = .ok (.iaload, 1) := by decide +kernel
theorem d_L_holderCount_18 : decode b_L_holderCount 18 = .ok (.invokestatic 91, 3) := by decide +kernel
theorem d_L_holderCount_21 : decode b_L_holderCount 21 = .ok (.goto 4, 3) := by decide +kernel
theorem d_L_holderCount_24 : decode b_L_holderCount 24 = .ok (.iconst 0, 1) := by decide +kernel
theorem d_L_holderCount_25 : decode b_L_holderCount 25 = .ok (.ireturn, 1) := by decide +kernel
set_option maxHeartbeats 4000000 in
set_option maxRecDepth 100000 in
theorem c_L_holderCount (l : Launch) (dC : Nat → ClassId) (dI : Nat → Nat → Nat) (kA : Nat → ClassId) (xo : Nat) (xl : Nat) (xb : Nat) (xe : Nat) (xh : Nat) (xn : Nat) (xk : Nat) (xc : Int) (xz : Int) (xs : Bool) (lx : Nat → Int) (bx : Nat → Int) (ex : Nat → Int) (hd : Nat → Int) (k : Int) (hL : LR xn xk xc xz lx bx ex hd) (hk : -2147483648 ≤ k ∧ k < 2147483648) : Met l y_L_holderCount (wsy y_L_holderCount b_L_holderCount 2 (some .int)) (rmd 1 0 0) (li_Pr (dC, dI) CL (TY kA) [.ref xo, .int (iI k)] (va_P (dC, dI) CL [(xo, .inr (5, [.ref xl, .int (iI xc), .ref xb, .ref xe, .ref xh, .int (iI xz), .int (iI (bI xs))])), (xl, .inl (kA 1, xn, .inl (aI lx))), (xb, .inl (kA 0, xk, .inl (aI bx))), (xe, .inl (kA 0, xk, .inl (aI ex))), (xh, .inl (kA 0, xk, .inl (aI hd)))])) (k2_QcV (.int (iI (if 0 ≤ k ∧ k < xz then bcF (hd k.toNat) else 0)))) 0 0 (fun _ => False) := by
  refine li_mr (by decide) (Nat.le_of_ble_eq_true rfl) (by rfl) ?_
  intro p e s m args below meth c Q C hP hK hN hG fin ls hl
  obtain ⟨hx, hb, hr, hml, hown, hts, hlocks, hin⟩ := C
  have hown : s.vm.findClass R_L = some m.cls := hown
  have hP : va_P (dC, dI) CL [(xo, .inr (5, [.ref xl, .int (iI xc), .ref xb, .ref xe, .ref xh, .int (iI xz), .int (iI (bI xs))])), (xl, .inl (kA 1, xn, .inl (aI lx))), (xb, .inl (kA 0, xk, .inl (aI bx))), (xe, .inl (kA 0, xk, .inl (aI ex))), (xh, .inl (kA 0, xk, .inl (aI hd)))] s.heap := hP
  have hl : lv_has ls 2 [(0, .ref xo), (1, .int (iI k))] := hl
  obtain ⟨hxn, hxk, hxz, hxc, hlx, hbx, hex, hhd⟩ := id hL
  refine lv_iload_n hx hb d_L_holderCount_0 rfl (lv_at hl 1 rfl) ?_
  refine li_if_lt (tgt := 24) hx hb d_L_holderCount_1 (by decide) (by omega) (fun c1 => ?_) (fun c1 => ?_)
  · have _q := c1
    refine lv_iconst (v := iI 0) hx hb d_L_holderCount_24 rfl ?_
    exact fin _ _ _ (by first | (rw [if_pos (by omega)]; done) | (rw [if_neg (by omega)]; done)) d_L_holderCount_25
  · have _q := c1
    refine lv_iload_n hx hb d_L_holderCount_4 rfl (lv_at hl 1 rfl) ?_
    refine lv_aload_n hx hb d_L_holderCount_5 rfl (lv_at hl 0 rfl) ?_
    refine gf_L_25 hx hb hts hown hK hP 0 rfl rfl d_L_holderCount_6 ?_
    refine li_icmp_ge (tgt := 24) hx hb d_L_holderCount_9 (by decide) (by omega) (by omega) (fun c2 => ?_) (fun c2 => ?_)
    · have _q := c2
      refine lv_iconst (v := iI 0) hx hb d_L_holderCount_24 rfl ?_
      exact fin _ _ _ (by first | (rw [if_pos (by omega)]; done) | (rw [if_neg (by omega)]; done)) d_L_holderCount_25
    · have _q := c2
      refine lv_aload_n hx hb d_L_holderCount_12 rfl (lv_at hl 0 rfl) ?_
      refine gf_L_22 hx hb hts hown hK hP 0 rfl rfl d_L_holderCount_13 ?_
      refine lv_iload_n hx hb d_L_holderCount_16 rfl (lv_at hl 1 rfl) ?_
      refine li_iald hx hb hK hP 4 0 rfl rfl (by omega) (by omega) (by omega) d_L_holderCount_17 ?_
      have f3 := hhd k.toNat
      refine li_callr ((va_runS (As := [.int (iI (hd k.toNat))]) (rest := []) ⟨hx, hb, hml, hown, hts⟩ (c_N_bitCount l dC dI kA (hd k.toNat) (by omega)) (cw_L_91 hts rfl rfl ⟨Nat.le_of_ble_eq_true rfl, Nat.le_of_ble_eq_true rfl⟩) (li_preS va_Pnil hK hN hG.rd) rfl rfl hl.1 rfl (lv_room (Nat.le_of_ble_eq_true rfl)) d_L_holderCount_18 ⟨(by show 0 + 0 ≤ 0; omega), (by show 0 + 0 ≤ 0; omega)⟩).run) ?_
      refine lv_goto (tgt := 25) hx hb d_L_holderCount_21 (by decide) ?_
      exact fin _ _ _ (by first | (rw [if_pos (by omega)]; done) | (rw [if_neg (by omega)]; done)) d_L_holderCount_25
theorem d_L_makeRoom_0 : decode b_L_makeRoom 0 = .ok (.aload_n 0, 1) := by decide +kernel
theorem d_L_makeRoom_1 : decode b_L_makeRoom 1 = .ok (.getfield 29, 3) := by decide +kernel
theorem d_L_makeRoom_4 : decode b_L_makeRoom 4 = .ok (.iload_n 1, 1) := by decide +kernel
theorem d_L_makeRoom_5 : decode b_L_makeRoom 5 = .ok (.iadd, 1) := by decide +kernel
theorem d_L_makeRoom_6 : decode b_L_makeRoom 6 = .ok (.aload_n 0, 1) := by decide +kernel
theorem d_L_makeRoom_7 : decode b_L_makeRoom 7 = .ok (.getfield 11, 3) := by decide +kernel
theorem d_L_makeRoom_10 : decode b_L_makeRoom 10 = .ok (.arraylength, 1) := by decide +kernel
theorem d_L_makeRoom_11 : decode b_L_makeRoom 11 = .ok (.if_icmp .le 34, 3) := by decide +kernel
theorem d_L_makeRoom_14 : decode b_L_makeRoom 14 = .ok (.iconst 2, 1) := by decide +kernel
theorem d_L_makeRoom_15 : decode b_L_makeRoom 15 = .ok (.aload_n 0, 1) := by decide +kernel
theorem d_L_makeRoom_16 : decode b_L_makeRoom 16 = .ok (.getfield 11, 3) := by decide +kernel
theorem d_L_makeRoom_19 : decode b_L_makeRoom 19 = .ok (.arraylength, 1) := by decide +kernel
theorem d_L_makeRoom_20 : decode b_L_makeRoom 20 = .ok (.imul, 1) := by decide +kernel
theorem d_L_makeRoom_21 : decode b_L_makeRoom 21 = .ok (.iload_n 1, 1) := by decide +kernel
theorem d_L_makeRoom_22 : decode b_L_makeRoom 22 = .ok (.iadd, 1) := by decide +kernel
theorem d_L_makeRoom_23 : decode b_L_makeRoom 23 = .ok (.newarray .char, 2) := by decide +kernel
theorem d_L_makeRoom_25 : decode b_L_makeRoom 25 = .ok (.astore_n 2, 1) := by decide +kernel
theorem d_L_makeRoom_26 : decode b_L_makeRoom 26 = .ok (.aload_n 0, 1) := by decide +kernel
theorem d_L_makeRoom_27 : decode b_L_makeRoom 27 = .ok (.getfield 11, 3) := by decide +kernel
theorem d_L_makeRoom_30 : decode b_L_makeRoom 30 = .ok (.iconst 0, 1) := by decide +kernel
theorem d_L_makeRoom_31 : decode b_L_makeRoom 31 = .ok (.aload_n 2, 1) := by decide +kernel
theorem d_L_makeRoom_32 : decode b_L_makeRoom 32 = .ok (.iconst 0, 1) := by decide +kernel
theorem d_L_makeRoom_33 : decode b_L_makeRoom 33 = .ok (.aload_n 0, 1) := by decide +kernel
theorem d_L_makeRoom_34 : decode b_L_makeRoom 34 = .ok (.getfield 29, 3) := by decide +kernel
theorem d_L_makeRoom_37 : decode b_L_makeRoom 37 = .ok (.invokestatic 81, 3) := by decide +kernel
theorem d_L_makeRoom_40 : decode b_L_makeRoom 40 = .ok (.aload_n 0, 1) := by decide +kernel
theorem d_L_makeRoom_41 : decode b_L_makeRoom 41 = .ok (.aload_n 2, 1) := by decide +kernel
theorem d_L_makeRoom_42 : decode b_L_makeRoom 42 = .ok (.putfield 11, 3) := by decide +kernel
theorem d_L_makeRoom_45 : decode b_L_makeRoom 45 = .ok (.return_, 1) := by decide +kernel
set_option maxHeartbeats 4000000 in
set_option maxRecDepth 100000 in
theorem c_L_makeRoom (l : Launch) (dC : Nat → ClassId) (dI : Nat → Nat → Nat) (kA : Nat → ClassId) (sz : Nat) (xo : Nat) (xl : Nat) (xb : Nat) (xe : Nat) (xh : Nat) (xn : Nat) (xc : Int) (xz : Int) (xs : Bool) (lx : Nat → Int) (ln : Int) (gs : Nat) (gc : Nat) (hxn : xn ≤ 40000 ∧ 0 ≤ xc ∧ xc ≤ xn) (hln : 0 ≤ ln ∧ ln ≤ 1000) (hlx0 : ∀ j, 0 ≤ lx j ∧ lx j < 256) (hgs : (xn : Int) < xc + ln → 2 * xn + ln.toNat ≤ gs ∧ 1 ≤ gc) : Met l y_L_makeRoom (wsy y_L_makeRoom b_L_makeRoom 3 none) (rmd 1 gc gs) (li_Pr (dC, dI) CL (TY kA) [.ref xo, .int (iI ln)] (fun h => h.size = sz ∧ va_P (dC, dI) CL [(xo, .inr (5, [.ref xl, .int (iI xc), .ref xb, .ref xe, .ref xh, .int (iI xz), .int (iI (bI xs))])), (xl, .inl (kA 1, xn, .inl (aI lx)))] h ∧ va_D (fun q => dI 100 0 ≤ q) [(xo, .inr (5, [.ref xl, .int (iI xc), .ref xb, .ref xe, .ref xh, .int (iI xz), .int (iI (bI xs))])), (xl, .inl (kA 1, xn, .inl (aI lx)))] ∧ (fun _ => True) h)) (li_Qw (S := (Nat) × (Nat) × (Nat → Int)) (dC, dI) CL (fun u => u.2.1 = rmN xn xc ln ∧ (∀ j : Nat, (j : Int) < xc → u.2.2 j = lx j) ∧ (∀ j, 0 ≤ u.2.2 j ∧ u.2.2 j < 256)) (fun _ => none) (fun u => [(xo, .inr (5, [.ref u.1, .int (iI xc), .ref xb, .ref xe, .ref xh, .int (iI xz), .int (iI (bI xs))])), (u.1, .inl (kA 1, u.2.1, .inl (aI u.2.2)))]) (va_A [(xo, .inr (5, [.ref xl, .int (iI xc), .ref xb, .ref xe, .ref xh, .int (iI xz), .int (iI (bI xs))])), (xl, .inl (kA 1, xn, .inl (aI lx)))] sz)) gc gs (va_A [(xo, .inr (5, [.ref xl, .int (iI xc), .ref xb, .ref xe, .ref xh, .int (iI xz), .int (iI (bI xs))])), (xl, .inl (kA 1, xn, .inl (aI lx)))] sz) := by
  refine li_mwv (by decide) (Nat.le_of_ble_eq_true rfl) ?_
  intro p e s m args below meth c Q A C hP hD hBx hK hN hG hA hAi hAN fin ls hl
  obtain ⟨hx, hb, hr, hml, hown, hts, hlocks, hin⟩ := C
  have hown : s.vm.findClass R_L = some m.cls := hown
  have hl : lv_has ls 3 [(0, .ref xo), (1, .int (iI ln))] := hl
  suffices h9 : ∀ (H : Heap) (locs : List Loc), H = s.heap → locs = [] → W p l e (rmd 1 gc gs) s m args below meth c H locs 0 0 Q (F0 m 0 ls []) from h9 _ _ rfl rfl
  intro H locs eH eL
  have hP : va_P (dC, dI) CL [(xo, .inr (5, [.ref xl, .int (iI xc), .ref xb, .ref xe, .ref xh, .int (iI xz), .int (iI (bI xs))])), (xl, .inl (kA 1, xn, .inl (aI lx)))] H := by rw [eH]; exact hP
  have hS : va_S A s.heap H locs := by rw [eH, eL]; exact va_S.rf
  refine lv_aload_n hx hb d_L_makeRoom_0 rfl (lv_at hl 0 rfl) ?_
  refine gf_L_29 hx hb hts hown hK hP 0 rfl rfl d_L_makeRoom_1 ?_
  refine lv_iload_n hx hb d_L_makeRoom_4 rfl (lv_at hl 1 rfl) ?_
  refine li_iadd hx hb d_L_makeRoom_5 ?_
  refine lv_aload_n hx hb d_L_makeRoom_6 rfl (lv_at hl 0 rfl) ?_
  refine gf_L_11 hx hb hts hown hK hP 0 rfl rfl d_L_makeRoom_7 ?_
  refine li_alen hx hb hK hP 1 1 rfl rfl d_L_makeRoom_10 ?_
  refine li_icmp_le (tgt := 45) hx hb d_L_makeRoom_11 (by decide) (by omega) (by omega) (fun c1 => ?_) (fun c1 => ?_)
  · have _q := c1
    refine W.widen (k := gc) (n := gs) (by omega) (by omega) ?_
    exact fin (xl, xn, lx) _ _ _ _ (by show xn = rmN xn xc ln ∧ (∀ j : Nat, (j : Int) < xc → lx j = lx j) ∧ (∀ j, 0 ≤ lx j ∧ lx j < 256); unfold rmN; first | (rw [if_neg (by omega)]; exact ⟨rfl, fun j _ => rfl, hlx0⟩) | (rw [if_pos (by omega)]; exact ⟨rfl, fun j hj => cpy0 (by omega), cpy_r hlx0⟩)) (by first | exact hP | (subst_vars; exact hP)) (by first | exact hD | (subst_vars; exact hD)) hS d_L_makeRoom_45
  · have _q := c1
    refine lv_iconst (v := iI 2) hx hb d_L_makeRoom_14 rfl ?_
    refine lv_aload_n hx hb d_L_makeRoom_15 rfl (lv_at hl 0 rfl) ?_
    refine gf_L_11 hx hb hts hown hK hP 0 rfl rfl d_L_makeRoom_16 ?_
    refine li_alen hx hb hK hP 1 1 rfl rfl d_L_makeRoom_19 ?_
    refine li_imul hx hb d_L_makeRoom_20 ?_
    refine lv_iload_n hx hb d_L_makeRoom_21 rfl (lv_at hl 1 rfl) ?_
    refine li_iadd hx hb d_L_makeRoom_22 ?_
    refine li_newC hx hb (hts (Cond.arrayClass .char) (tk1 67 rfl rfl)) hK hP hD hS hA 1 rfl (2 * xn + ln.toNat) (by omega) (by omega) (by show 0 + 1 ≤ gc; omega) (by show 0 + (2 * xn + ln.toNat) ≤ gs; omega) d_L_makeRoom_23 (fun q_n H hP hD hS => ?_)
    have hP : va_P (dC, dI) CL [(xo, .inr (5, [.ref xl, .int (iI xc), .ref xb, .ref xe, .ref xh, .int (iI xz), .int (iI (bI xs))])), (xl, .inl (kA 1, xn, .inl (aI lx))), (q_n, .inl (kA 1, (2 * xn + ln.toNat), .inl (aI (fun _ => 0))))] H := hP
    have hD : va_D A [(xo, .inr (5, [.ref xl, .int (iI xc), .ref xb, .ref xe, .ref xh, .int (iI xz), .int (iI (bI xs))])), (xl, .inl (kA 1, xn, .inl (aI lx))), (q_n, .inl (kA 1, (2 * xn + ln.toNat), .inl (aI (fun _ => 0))))] := hD
    refine lv_astore_n (lv' := [(2, .ref q_n), (0, .ref xo), (1, .int (iI ln))]) hx hb d_L_makeRoom_25 rfl hl (by decide) rfl (fun ls hl => ?_)
    refine lv_aload_n hx hb d_L_makeRoom_26 rfl (lv_at hl 1 rfl) ?_
    refine gf_L_11 hx hb hts hown hK hP 0 rfl rfl d_L_makeRoom_27 ?_
    refine lv_iconst (v := iI 0) hx hb d_L_makeRoom_30 rfl ?_
    refine lv_aload_n hx hb d_L_makeRoom_31 rfl (lv_at hl 0 rfl) ?_
    refine lv_iconst (v := iI 0) hx hb d_L_makeRoom_32 rfl ?_
    refine lv_aload_n hx hb d_L_makeRoom_33 rfl (lv_at hl 1 rfl) ?_
    refine gf_L_29 hx hb hts hown hK hP 0 rfl rfl d_L_makeRoom_34 ?_
    refine li_copy hx hb (hml.trans hl.1.symm) hown (hts (Cond.methodLink R_L 81 arraycopyName) (tk5 50 rfl rfl)) (hts (Cond.native arraycopyName) (tk2 226 rfl rfl)) (hts (Cond.static arraycopyName) (tk2 225 rfl rfl)) (hts (Cond.initialized "java/lang/System") (tk1 22 rfl rfl)) hK hP hD hS 1 2 1 rfl rfl rfl rfl (by omega) (by omega) (by omega) (by omega) (by omega) (by omega) (fun i => fitC (hlx0 i).1 (by have := hlx0 i; omega)) (Nat.le_of_ble_eq_true rfl) (Nat.le_of_ble_eq_true rfl) d_L_makeRoom_37 (fun H locs hP hD hS => ?_)
    have hP : va_P (dC, dI) CL [(xo, .inr (5, [.ref xl, .int (iI xc), .ref xb, .ref xe, .ref xh, .int (iI xz), .int (iI (bI xs))])), (xl, .inl (kA 1, xn, .inl (aI lx))), (q_n, .inl (kA 1, (2 * xn + ln.toNat), .inl (aI (va_cpy lx (fun _ => 0) (((0) : Int).toNat) (((0) : Int).toNat) xc.toNat))))] H := hP
    have hD : va_D A [(xo, .inr (5, [.ref xl, .int (iI xc), .ref xb, .ref xe, .ref xh, .int (iI xz), .int (iI (bI xs))])), (xl, .inl (kA 1, xn, .inl (aI lx))), (q_n, .inl (kA 1, (2 * xn + ln.toNat), .inl (aI (va_cpy lx (fun _ => 0) (((0) : Int).toNat) (((0) : Int).toNat) xc.toNat))))] := hD
    refine lv_aload_n hx hb d_L_makeRoom_40 rfl (lv_at hl 1 rfl) ?_
    refine lv_aload_n hx hb d_L_makeRoom_41 rfl (lv_at hl 0 rfl) ?_
    refine pf_L_11 hx hb hts hown hK hP hD hS 0 rfl (Nat.le_of_ble_eq_true rfl) d_L_makeRoom_42 (fun H locs hP hD hS => ?_)
    have hP : va_P (dC, dI) CL [(xo, .inr (5, [.ref q_n, .int (iI xc), .ref xb, .ref xe, .ref xh, .int (iI xz), .int (iI (bI xs))])), (xl, .inl (kA 1, xn, .inl (aI lx))), (q_n, .inl (kA 1, (2 * xn + ln.toNat), .inl (aI (va_cpy lx (fun _ => 0) (((0) : Int).toNat) (((0) : Int).toNat) xc.toNat))))] H := hP
    have hD : va_D A [(xo, .inr (5, [.ref q_n, .int (iI xc), .ref xb, .ref xe, .ref xh, .int (iI xz), .int (iI (bI xs))])), (xl, .inl (kA 1, xn, .inl (aI lx))), (q_n, .inl (kA 1, (2 * xn + ln.toNat), .inl (aI (va_cpy lx (fun _ => 0) (((0) : Int).toNat) (((0) : Int).toNat) xc.toNat))))] := hD
    refine W.widen (k := gc) (n := gs) (by omega) (by omega) ?_
    exact fin (q_n, (2 * xn + ln.toNat), va_cpy lx (fun _ => 0) (((0) : Int).toNat) (((0) : Int).toNat) xc.toNat) _ _ _ _ (by show (2 * xn + ln.toNat) = rmN xn xc ln ∧ (∀ j : Nat, (j : Int) < xc → (va_cpy lx (fun _ => 0) (((0) : Int).toNat) (((0) : Int).toNat) xc.toNat) j = lx j) ∧ (∀ j, 0 ≤ (va_cpy lx (fun _ => 0) (((0) : Int).toNat) (((0) : Int).toNat) xc.toNat) j ∧ (va_cpy lx (fun _ => 0) (((0) : Int).toNat) (((0) : Int).toNat) xc.toNat) j < 256); unfold rmN; first | (rw [if_neg (by omega)]; exact ⟨rfl, fun j _ => rfl, hlx0⟩) | (rw [if_pos (by omega)]; exact ⟨rfl, fun j hj => cpy0 (by omega), cpy_r hlx0⟩)) (by first | exact hP.sub [0, 2] rfl | (subst_vars; exact hP.sub [0, 2] rfl)) (by first | exact hD.sub [0, 2] (by decide) rfl | (subst_vars; exact hD.sub [0, 2] (by decide) rfl)) hS d_L_makeRoom_45
theorem d_L_insert_0 : decode b_L_insert 0 = .ok (.iload_n 1, 1) := by decide +kernel
theorem d_L_insert_1 : decode b_L_insert 1 = .ok (.ifCond .lt 29, 3) := by decide +kernel
theorem d_L_insert_4 : decode b_L_insert 4 = .ok (.iload_n 1, 1) := by decide +kernel
theorem d_L_insert_5 : decode b_L_insert 5 = .ok (.aload_n 0, 1) := by decide +kernel
theorem d_L_insert_6 : decode b_L_insert 6 = .ok (.getfield 25, 3) := by decide +kernel
theorem d_L_insert_9 : decode b_L_insert 9 = .ok (.if_icmp .gt 21, 3) := by decide +kernel
theorem d_L_insert_12 : decode b_L_insert 12 = .ok (.iload_n 3, 1) := by decide +kernel
theorem d_L_insert_13 : decode b_L_insert 13 = .ok (.ifCond .lt 17, 3) := by decide +kernel
theorem d_L_insert_16 : decode b_L_insert 16 = .ok (.iload 4, 2) := by decide +kernel
theorem d_L_insert_18 : decode b_L_insert 18 = .ok (.ifCond .lt 12, 3) := by decide +kernel
theorem d_L_insert_21 : decode b_L_insert 21 = .ok (.iload_n 3, 1) := by decide +kernel
theorem d_L_insert_22 : decode b_L_insert 22 = .ok (.iload 4, 2) := by decide +kernel
theorem d_L_insert_24 : decode b_L_insert 24 = .ok (.iadd, 1) := by decide +kernel
theorem d_L_insert_25 : decode b_L_insert 25 = .ok (.aload_n 2, 1) := by decide +kernel
theorem d_L_insert_26 : decode b_L_insert 26 = .ok (.arraylength, 1) := by decide +kernel
theorem d_L_insert_27 : decode b_L_insert 27 = .ok (.if_icmp .le 4, 3) := by decide +kernel
theorem d_L_insert_30 : decode b_L_insert 30 = .ok (.return_, 1) := by decide +kernel
theorem d_L_insert_31 : decode b_L_insert 31 = .ok (.aload_n 0, 1) := by decide +kernel
theorem d_L_insert_32 : decode b_L_insert 32 = .ok (.getfield 25, 3) := by decide +kernel
theorem d_L_insert_35 : decode b_L_insert 35 = .ok (.aload_n 0, 1) := by decide +kernel
theorem d_L_insert_36 : decode b_L_insert 36 = .ok (.getfield 15, 3) := by decide +kernel
theorem d_L_insert_39 : decode b_L_insert 39 = .ok (.arraylength, 1) := by decide +kernel
theorem d_L_insert_40 : decode b_L_insert 40 = .ok (.if_icmp .lt 54, 3) := by decide +kernel
theorem d_L_insert_43 : decode b_L_insert 43 = .ok (.aload_n 0, 1) := by decide +kernel
theorem d_L_insert_44 : decode b_L_insert 44 = .ok (.aload_n 0, 1) := by decide +kernel
theorem d_L_insert_45 : decode b_L_insert 45 = .ok (.getfield 15, 3) := by decide +kernel
theorem d_L_insert_48 : decode b_L_insert 48 = .ok (.iconst 2, 1) := by decide +kernel
theorem d_L_insert_49 : decode b_L_insert 49 = .ok (.aload_n 0, 1) := by decide +kernel
theorem d_L_insert_50 : decode b_L_insert 50 = .ok (.getfield 25, 3) := by decide +kernel
theorem d_L_insert_53 : decode b_L_insert 53 = .ok (.imul, 1) := by decide +kernel
theorem d_L_insert_54 : decode b_L_insert 54 = .ok (.invokestatic 71, 3) := by decide +kernel
theorem d_L_insert_57 : decode b_L_insert 57 = .ok (.putfield 15, 3) := by decide +kernel
theorem d_L_insert_60 : decode b_L_insert 60 = .ok (.aload_n 0, 1) := by decide +kernel
theorem d_L_insert_61 : decode b_L_insert 61 = .ok (.aload_n 0, 1) := by decide +kernel
theorem d_L_insert_62 : decode b_L_insert 62 = .ok (.getfield 19, 3) := by decide +kernel
theorem d_L_insert_65 : decode b_L_insert 65 = .ok (.iconst 2, 1) := by decide +kernel
theorem d_L_insert_66 : decode b_L_insert 66 = .ok (.aload_n 0, 1) := by decide +kernel
theorem d_L_insert_67 : decode b_L_insert 67 = .ok (.getfield 25, 3) := by decide +kernel
theorem d_L_insert_70 : decode b_L_insert 70 = .ok (.imul, 1) := by decide +kernel
theorem d_L_insert_71 : decode b_L_insert 71 = .ok (.invokestatic 71, 3) := by decide +kernel
theorem d_L_insert_74 : decode b_L_insert 74 = .ok (.putfield 19, 3) := by decide +kernel
theorem d_L_insert_77 : decode b_L_insert 77 = .ok (.aload_n 0, 1) := by decide +kernel
theorem d_L_insert_78 : decode b_L_insert 78 = .ok (.aload_n 0, 1) := by decide +kernel
theorem d_L_insert_79 : decode b_L_insert 79 = .ok (.getfield 22, 3) := by decide +kernel
theorem d_L_insert_82 : decode b_L_insert 82 = .ok (.iconst 2, 1) := by decide +kernel
theorem d_L_insert_83 : decode b_L_insert 83 = .ok (.aload_n 0, 1) := by decide +kernel
theorem d_L_insert_84 : decode b_L_insert 84 = .ok (.getfield 25, 3) := by decide +kernel
theorem d_L_insert_87 : decode b_L_insert 87 = .ok (.imul, 1) := by decide +kernel
theorem d_L_insert_88 : decode b_L_insert 88 = .ok (.invokestatic 71, 3) := by decide +kernel
theorem d_L_insert_91 : decode b_L_insert 91 = .ok (.putfield 22, 3) := by decide +kernel
theorem d_L_insert_94 : decode b_L_insert 94 = .ok (.aload_n 0, 1) := by decide +kernel
theorem d_L_insert_95 : decode b_L_insert 95 = .ok (.iload 4, 2) := by decide +kernel
theorem d_L_insert_97 : decode b_L_insert 97 = .ok (.invokevirtual 77, 3) := by decide +kernel
theorem d_L_insert_100 : decode b_L_insert 100 = .ok (.aload_n 2, 1) := by decide +kernel
theorem d_L_insert_101 : decode b_L_insert 101 = .ok (.iload_n 3, 1) := by decide +kernel
theorem d_L_insert_102 : decode b_L_insert 102 = .ok (.aload_n 0, 1) := by decide +kernel
theorem d_L_insert_103 : decode b_L_insert 103 = .ok (.getfield 11, 3) := by decide +kernel
theorem d_L_insert_106 : decode b_L_insert 106 = .ok (.aload_n 0, 1) := by decide +kernel
theorem d_L_insert_107 : decode b_L_insert 107 = .ok (.getfield 29, 3) := by decide +kernel
theorem d_L_insert_110 : decode b_L_insert 110 = .ok (.iload 4, 2) := by decide +kernel
theorem d_L_insert_112 : decode b_L_insert 112 = .ok (.invokestatic 81, 3) := by decide +kernel
theorem d_L_insert_115 : decode b_L_insert 115 = .ok (.aload_n 0, 1) := by decide +kernel
theorem d_L_insert_116 : decode b_L_insert 116 = .ok (.getfield 15, 3) := by decide +kernel
theorem d_L_insert_119 : decode b_L_insert 119 = .ok (.iload_n 1, 1) := by decide +kernel
theorem d_L_insert_120 : decode b_L_insert 120 = .ok (.aload_n 0, 1) := by decide +kernel
theorem d_L_insert_121 : decode b_L_insert 121 = .ok (.getfield 15, 3) := by decide +kernel
theorem d_L_insert_124 : decode b_L_insert 124 = .ok (.iload_n 1, 1) := by decide +kernel
theorem d_L_insert_125 : decode b_L_insert 125 = .ok (.iconst 1, 1) := by decide +kernel
theorem d_L_insert_126 : decode b_L_insert 126 = .ok (.iadd, 1) := by decide +kernel
theorem d_L_insert_127 : decode b_L_insert 127 = .ok (.aload_n 0, 1) := by decide +kernel
theorem d_L_insert_128 : decode b_L_insert 128 = .ok (.getfield 25, 3) := by decide +kernel
theorem d_L_insert_131 : decode b_L_insert 131 = .ok (.iload_n 1, 1) := by decide +kernel
theorem d_L_insert_132 : decode b_L_insert 132 = .ok (.isub, 1) := by decide +kernel
theorem d_L_insert_133 : decode b_L_insert 133 = .ok (.invokestatic 81, 3) := by decide +kernel
theorem d_L_insert_136 : decode b_L_insert 136 = .ok (.aload_n 0, 1) := by decide +kernel
theorem d_L_insert_137 : decode b_L_insert 137 = .ok (.getfield 19, 3) := by decide +kernel
theorem d_L_insert_140 : decode b_L_insert 140 = .ok (.iload_n 1, 1) := by decide +kernel
theorem d_L_insert_141 : decode b_L_insert 141 = .ok (.aload_n 0, 1) := by decide +kernel
theorem d_L_insert_142 : decode b_L_insert 142 = .ok (.getfield 19, 3) := by decide +kernel
theorem d_L_insert_145 : decode b_L_insert 145 = .ok (.iload_n 1, 1) := by decide +kernel
theorem d_L_insert_146 : decode b_L_insert 146 = .ok (.iconst 1, 1) := by decide +kernel
theorem d_L_insert_147 : decode b_L_insert 147 = .ok (.iadd, 1) := by decide +kernel
theorem d_L_insert_148 : decode b_L_insert 148 = .ok (.aload_n 0, 1) := by decide +kernel
theorem d_L_insert_149 : decode b_L_insert 149 = .ok (.getfield 25, 3) := by decide +kernel
theorem d_L_insert_152 : decode b_L_insert 152 = .ok (.iload_n 1, 1) := by decide +kernel
theorem d_L_insert_153 : decode b_L_insert 153 = .ok (.isub, 1) := by decide +kernel
theorem d_L_insert_154 : decode b_L_insert 154 = .ok (.invokestatic 81, 3) := by decide +kernel
theorem d_L_insert_157 : decode b_L_insert 157 = .ok (.aload_n 0, 1) := by decide +kernel
theorem d_L_insert_158 : decode b_L_insert 158 = .ok (.getfield 22, 3) := by decide +kernel
theorem d_L_insert_161 : decode b_L_insert 161 = .ok (.iload_n 1, 1) := by decide +kernel
theorem d_L_insert_162 : decode b_L_insert 162 = .ok (.aload_n 0, 1) := by decide +kernel
theorem d_L_insert_163 : decode b_L_insert 163 = .ok (.getfield 22, 3) := by decide +kernel
theorem d_L_insert_166 : decode b_L_insert 166 = .ok (.iload_n 1, 1) := by decide +kernel
theorem d_L_insert_167 : decode b_L_insert 167 = .ok (.iconst 1, 1) := by decide +kernel
theorem d_L_insert_168 : decode b_L_insert 168 = .ok (.iadd, 1) := by decide +kernel
theorem d_L_insert_169 : decode b_L_insert 169 = .ok (.aload_n 0, 1) := by decide +kernel
theorem d_L_insert_170 : decode b_L_insert 170 = .ok (.getfield 25, 3) := by decide +kernel
theorem d_L_insert_173 : decode b_L_insert 173 = .ok (.iload_n 1, 1) := by decide +kernel
theorem d_L_insert_174 : decode b_L_insert 174 = .ok (.isub, 1) := by decide +kernel
theorem d_L_insert_175 : decode b_L_insert 175 = .ok (.invokestatic 81, 3) := by decide +kernel
theorem d_L_insert_178 : decode b_L_insert 178 = .ok (.aload_n 0, 1) := by decide +kernel
theorem d_L_insert_179 : decode b_L_insert 179 = .ok (.getfield 15, 3) := by decide +kernel
theorem d_L_insert_182 : decode b_L_insert 182 = .ok (.iload_n 1, 1) := by decide +kernel
theorem d_L_insert_183 : decode b_L_insert 183 = .ok (.aload_n 0, 1) := by decide +kernel
theorem d_L_insert_184 : decode b_L_insert 184 = .ok (.getfield 29, 3) := by decide +kernel
theorem d_L_insert_187 : decode b_L_insert 187 = .ok (.iastore, 1) := by decide +kernel
theorem d_L_insert_188 : decode b_L_insert 188 = .ok (.aload_n 0, 1) := by decide +kernel
theorem d_L_insert_189 : decode b_L_insert 189 = .ok (.getfield 19, 3) := by decide +kernel
theorem d_L_insert_192 : decode b_L_insert 192 = .ok (.iload_n 1, 1) := by decide +kernel
theorem d_L_insert_193 : decode b_L_insert 193 = .ok (.aload_n 0, 1) := by decide +kernel
theorem d_L_insert_194 : decode b_L_insert 194 = .ok (.getfield 29, 3) := by decide +kernel
theorem d_L_insert_197 : decode b_L_insert 197 = .ok (.iload 4, 2) := by decide +kernel
theorem d_L_insert_199 : decode b_L_insert 199 = .ok (.iadd, 1) := by decide +kernel
theorem d_L_insert_200 : decode b_L_insert 200 = .ok (.iastore, 1) := by decide +kernel
theorem d_L_insert_201 : decode b_L_insert 201 = .ok (.aload_n 0, 1) := by decide +kernel
theorem d_L_insert_202 : decode b_L_insert 202 = .ok (.getfield 22, 3) := by decide +kernel
theorem d_L_insert_205 : decode b_L_insert 205 = .ok (.iload_n 1, 1) := by decide +kernel
theorem d_L_insert_206 : decode b_L_insert 206 = .ok (.iconst 0, 1) := by decide +kernel
theorem d_L_insert_207 : decode b_L_insert 207 = .ok (.iastore, 1) := by decide +kernel
theorem d_L_insert_208 : decode b_L_insert 208 = .ok (.aload_n 0, 1) := by decide +kernel
theorem d_L_insert_209 : decode b_L_insert 209 = .ok (.dup, 1) := by decide +kernel
theorem d_L_insert_210 : decode b_L_insert 210 = .ok (.getfield 29, 3) := by decide +kernel
theorem d_L_insert_213 : decode b_L_insert 213 = .ok (.iload 4, 2) := by decide +kernel
theorem d_L_insert_215 : decode b_L_insert 215 = .ok (.iadd, 1) := by decide +kernel
theorem d_L_insert_216 : decode b_L_insert 216 = .ok (.putfield 29, 3) := by decide +kernel
theorem d_L_insert_219 : decode b_L_insert 219 = .ok (.aload_n 0, 1) := by decide +kernel
theorem d_L_insert_220 : decode b_L_insert 220 = .ok (.dup, 1) := by decide +kernel
theorem d_L_insert_221 : decode b_L_insert 221 = .ok (.getfield 25, 3) := by decide +kernel
theorem d_L_insert_224 : decode b_L_insert 224 = .ok (.iconst 1, 1) := by decide +kernel
theorem d_L_insert_225 : decode b_L_insert 225 = .ok (.iadd, 1) := by decide +kernel
theorem d_L_insert_226 : decode b_L_insert 226 = .ok (.putfield 25, 3) := by decide +kernel
theorem d_L_insert_229 : decode b_L_insert 229 = .ok (.return_, 1) := by decide +kernel
set_option maxHeartbeats 4000000 in
set_option maxRecDepth 100000 in
theorem c_L_insert (l : Launch) (dC : Nat → ClassId) (dI : Nat → Nat → Nat) (kA : Nat → ClassId) (sz : Nat) (xo : Nat) (xl : Nat) (xb : Nat) (xe : Nat) (xh : Nat) (xn : Nat) (xk : Nat) (xc : Int) (xz : Int) (xs : Bool) (lx : Nat → Int) (bx : Nat → Int) (ex : Nat → Int) (hd : Nat → Int) (k : Int) (ta : Nat) (tn : Nat) (t : Nat → Int) (fr : Int) (ln : Int) (ws : List (List Int)) (hs : List Int) (g1 : Nat) (g2 : Nat) (gc1 : Nat) (gc2 : Nat) (hL : LR xn xk xc xz lx bx ex hd) (hLX : LX ws hs xc xz lx bx ex hd) (hk : 0 ≤ k ∧ k ≤ xz) (hxk : 1 ≤ xk ∧ xk ≤ 5000 ∧ xn ≤ 40000) (htt : tn ≤ 1000 ∧ 0 ≤ fr ∧ 0 ≤ ln ∧ fr + ln ≤ tn) (htr : ∀ j, 0 ≤ t j ∧ t j < 256) (hg1 : xz = xk → 6 * xk ≤ g1 ∧ 3 ≤ gc1) (hg2 : (xn : Int) < xc + ln → 2 * xn + ln.toNat ≤ g2 ∧ 1 ≤ gc2) : Met l y_L_insert (wsy y_L_insert b_L_insert 5 none) (rmd 2 (gc1 + gc2) (g1 + g2)) (li_Pr (dC, dI) CL (TY kA) [.ref xo, .int (iI k), .ref ta, .int (iI fr), .int (iI ln)] (fun h => h.size = sz ∧ va_P (dC, dI) CL [(xo, .inr (5, [.ref xl, .int (iI xc), .ref xb, .ref xe, .ref xh, .int (iI xz), .int (iI (bI xs))])), (xl, .inl (kA 1, xn, .inl (aI lx))), (xb, .inl (kA 0, xk, .inl (aI bx))), (xe, .inl (kA 0, xk, .inl (aI ex))), (xh, .inl (kA 0, xk, .inl (aI hd))), (ta, .inl (kA 1, tn, .inl (aI t)))] h ∧ va_D (fun q => dI 100 0 ≤ q) [(xo, .inr (5, [.ref xl, .int (iI xc), .ref xb, .ref xe, .ref xh, .int (iI xz), .int (iI (bI xs))])), (xl, .inl (kA 1, xn, .inl (aI lx))), (xb, .inl (kA 0, xk, .inl (aI bx))), (xe, .inl (kA 0, xk, .inl (aI ex))), (xh, .inl (kA 0, xk, .inl (aI hd))), (ta, .inl (kA 1, tn, .inl (aI t)))] ∧ (fun _ => True) h)) (li_Qw (S := (Nat) × (Nat) × (Nat) × (Nat) × (Nat) × (Nat) × (Nat → Int) × (Nat → Int) × (Nat → Int) × (Nat → Int) × (Int) × (Int)) (dC, dI) CL (fun u => LR u.2.2.2.2.1 u.2.2.2.2.2.1 u.2.2.2.2.2.2.2.2.2.2.1 u.2.2.2.2.2.2.2.2.2.2.2 u.2.2.2.2.2.2.1 u.2.2.2.2.2.2.2.1 u.2.2.2.2.2.2.2.2.1 u.2.2.2.2.2.2.2.2.2.1 ∧ LX (insA ws k.toNat (wdL t fr (fr + ln))) (insA hs k.toNat 0) u.2.2.2.2.2.2.2.2.2.2.1 u.2.2.2.2.2.2.2.2.2.2.2 u.2.2.2.2.2.2.1 u.2.2.2.2.2.2.2.1 u.2.2.2.2.2.2.2.2.1 u.2.2.2.2.2.2.2.2.2.1 ∧ u.2.2.2.2.2.2.2.2.2.2.1 = xc + ln ∧ u.2.2.2.2.2.2.2.2.2.2.2 = xz + 1 ∧ u.2.2.2.2.1 = rmN xn xc ln ∧ u.2.2.2.2.2.1 = cpK xk xz) (fun _ => none) (fun u => [(xo, .inr (5, [.ref u.1, .int (iI u.2.2.2.2.2.2.2.2.2.2.1), .ref u.2.1, .ref u.2.2.1, .ref u.2.2.2.1, .int (iI u.2.2.2.2.2.2.2.2.2.2.2), .int (iI (bI xs))])), (u.1, .inl (kA 1, u.2.2.2.2.1, .inl (aI u.2.2.2.2.2.2.1))), (u.2.1, .inl (kA 0, u.2.2.2.2.2.1, .inl (aI u.2.2.2.2.2.2.2.1))), (u.2.2.1, .inl (kA 0, u.2.2.2.2.2.1, .inl (aI u.2.2.2.2.2.2.2.2.1))), (u.2.2.2.1, .inl (kA 0, u.2.2.2.2.2.1, .inl (aI u.2.2.2.2.2.2.2.2.2.1))), (ta, .inl (kA 1, tn, .inl (aI t)))]) (va_A [(xo, .inr (5, [.ref xl, .int (iI xc), .ref xb, .ref xe, .ref xh, .int (iI xz), .int (iI (bI xs))])), (xl, .inl (kA 1, xn, .inl (aI lx))), (xb, .inl (kA 0, xk, .inl (aI bx))), (xe, .inl (kA 0, xk, .inl (aI ex))), (xh, .inl (kA 0, xk, .inl (aI hd))), (ta, .inl (kA 1, tn, .inl (aI t)))] sz)) (gc1 + gc2) (g1 + g2) (va_A [(xo, .inr (5, [.ref xl, .int (iI xc), .ref xb, .ref xe, .ref xh, .int (iI xz), .int (iI (bI xs))])), (xl, .inl (kA 1, xn, .inl (aI lx))), (xb, .inl (kA 0, xk, .inl (aI bx))), (xe, .inl (kA 0, xk, .inl (aI ex))), (xh, .inl (kA 0, xk, .inl (aI hd))), (ta, .inl (kA 1, tn, .inl (aI t)))] sz) := by
  refine li_mwv (by decide) (Nat.le_of_ble_eq_true rfl) ?_
  intro p e s m args below meth c Q A C hP hD hBx hK hN hG hA hAi hAN fin ls hl
  obtain ⟨hx, hb, hr, hml, hown, hts, hlocks, hin⟩ := C
  have hown : s.vm.findClass R_L = some m.cls := hown
  have hl : lv_has ls 5 [(0, .ref xo), (1, .int (iI k)), (2, .ref ta), (3, .int (iI fr)), (4, .int (iI ln))] := hl
  obtain ⟨hxn, hxk, hxz, hxc, hlx, hbx, hex, hhd⟩ := id hL
  suffices h9 : ∀ (H : Heap) (locs : List Loc), H = s.heap → locs = [] → W p l e (rmd 2 (gc1 + gc2) (g1 + g2)) s m args below meth c H locs 0 0 Q (F0 m 0 ls []) from h9 _ _ rfl rfl
  intro H locs eH eL
  have hP : va_P (dC, dI) CL [(xo, .inr (5, [.ref xl, .int (iI xc), .ref xb, .ref xe, .ref xh, .int (iI xz), .int (iI (bI xs))])), (xl, .inl (kA 1, xn, .inl (aI lx))), (xb, .inl (kA 0, xk, .inl (aI bx))), (xe, .inl (kA 0, xk, .inl (aI ex))), (xh, .inl (kA 0, xk, .inl (aI hd))), (ta, .inl (kA 1, tn, .inl (aI t)))] H := by rw [eH]; exact hP
  have hS : va_S A s.heap H locs := by rw [eH, eL]; exact va_S.rf
  refine lv_iload_n hx hb d_L_insert_0 rfl (lv_at hl 1 rfl) ?_
  refine li_if_lt (tgt := 30) hx hb d_L_insert_1 (by decide) (by omega) (fun c1 => ?_) (fun c1 => ?_)
  · have _q := c1
    exact absurd c1 (by omega)
  · have _q := c1
    refine lv_iload_n hx hb d_L_insert_4 rfl (lv_at hl 1 rfl) ?_
    refine lv_aload_n hx hb d_L_insert_5 rfl (lv_at hl 0 rfl) ?_
    refine gf_L_25 hx hb hts hown hK hP 0 rfl rfl d_L_insert_6 ?_
    refine li_icmp_gt (tgt := 30) hx hb d_L_insert_9 (by decide) (by omega) (by omega) (fun c2 => ?_) (fun c2 => ?_)
    · have _q := c2
      exact absurd c2 (by omega)
    · have _q := c2
      refine lv_iload_n hx hb d_L_insert_12 rfl (lv_at hl 3 rfl) ?_
      refine li_if_lt (tgt := 30) hx hb d_L_insert_13 (by decide) (by omega) (fun c3 => ?_) (fun c3 => ?_)
      · have _q := c3
        exact absurd c3 (by omega)
      · have _q := c3
        refine lv_iload hx hb d_L_insert_16 (lv_at hl 4 rfl) ?_
        refine li_if_lt (tgt := 30) hx hb d_L_insert_18 (by decide) (by omega) (fun c4 => ?_) (fun c4 => ?_)
        · have _q := c4
          exact absurd c4 (by omega)
        · have _q := c4
          refine lv_iload_n hx hb d_L_insert_21 rfl (lv_at hl 3 rfl) ?_
          refine lv_iload hx hb d_L_insert_22 (lv_at hl 4 rfl) ?_
          refine li_iadd hx hb d_L_insert_24 ?_
          refine lv_aload_n hx hb d_L_insert_25 rfl (lv_at hl 2 rfl) ?_
          refine li_alen hx hb hK hP 5 1 rfl rfl d_L_insert_26 ?_
          refine li_icmp_le (tgt := 31) hx hb d_L_insert_27 (by decide) (by omega) (by omega) (fun c5 => ?_) (fun c5 => ?_)
          · have _q := c5
            refine lv_aload_n hx hb d_L_insert_31 rfl (lv_at hl 0 rfl) ?_
            refine gf_L_25 hx hb hts hown hK hP 0 rfl rfl d_L_insert_32 ?_
            refine lv_aload_n hx hb d_L_insert_35 rfl (lv_at hl 0 rfl) ?_
            refine gf_L_15 hx hb hts hown hK hP 0 rfl rfl d_L_insert_36 ?_
            refine li_alen hx hb hK hP 2 0 rfl rfl d_L_insert_39 ?_
            refine li_icmp_lt (tgt := 94) hx hb d_L_insert_40 (by decide) (by omega) (by omega) (fun c6 => ?_) (fun c6 => ?_)
            · have _q := c6
              refine lv_aload_n hx hb d_L_insert_94 rfl (lv_at hl 0 rfl) ?_
              refine lv_iload hx hb d_L_insert_95 (lv_at hl 4 rfl) ?_
              refine li_callw (wc := [(xo, .inr (5, [.ref xl, .int (iI xc), .ref xb, .ref xe, .ref xh, .int (iI xz), .int (iI (bI xs))])), (xl, .inl (kA 1, xn, .inl (aI lx)))]) (wr := [(xb, .inl (kA 0, xk, .inl (aI bx))), (xe, .inl (kA 0, xk, .inl (aI ex))), (xh, .inl (kA 0, xk, .inl (aI hd))), (ta, .inl (kA 1, tn, .inl (aI t)))]) (va_runV (As := [.int (iI ln)]) (rest := []) ⟨hx, hb, hml, hown, hts⟩ (c_L_makeRoom l dC dI kA H.size xo xl xb xe xh xn xc xz xs lx ln g2 gc2 (by omega) (by omega) (by exact hlx) (by exact hg2)) (cw_L_77 hts rfl rfl ⟨Nat.le_of_ble_eq_true rfl, Nat.le_of_ble_eq_true rfl⟩) (li_preV (va_recv hK hP (ci := 5) (q0 := 0) rfl rfl) ⟨rfl, hP.sub [0, 1] rfl, (hD.sub [0, 1] (by decide) rfl).weaken (fun _ _ _ h => hAN _ h), trivial⟩ hK hN (hG.go hS hAN)) rfl rfl hl.1 rfl (lv_room (Nat.le_of_ble_eq_true rfl)) d_L_insert_97 ⟨(by show 0 + gc2 ≤ (gc1 + gc2); omega), (by show 0 + g2 ≤ (g1 + g2); omega)⟩) hP hD hS hA [0, 1] [2, 3, 4, 5] rfl rfl (by decide) (by decide) (fun u7 H locs hu7 hP hD hS _hk => ?_)
              obtain ⟨q_4, n_4, f_4⟩ := u7
              have hP : va_P (dC, dI) CL [(xb, .inl (kA 0, xk, .inl (aI bx))), (xe, .inl (kA 0, xk, .inl (aI ex))), (xh, .inl (kA 0, xk, .inl (aI hd))), (ta, .inl (kA 1, tn, .inl (aI t))), (xo, .inr (5, [.ref q_4, .int (iI xc), .ref xb, .ref xe, .ref xh, .int (iI xz), .int (iI (bI xs))])), (q_4, .inl (kA 1, n_4, .inl (aI f_4)))] H := hP
              have hD : va_D A [(xb, .inl (kA 0, xk, .inl (aI bx))), (xe, .inl (kA 0, xk, .inl (aI ex))), (xh, .inl (kA 0, xk, .inl (aI hd))), (ta, .inl (kA 1, tn, .inl (aI t))), (xo, .inr (5, [.ref q_4, .int (iI xc), .ref xb, .ref xe, .ref xh, .int (iI xz), .int (iI (bI xs))])), (q_4, .inl (kA 1, n_4, .inl (aI f_4)))] := hD
              have hp97 : n_4 = rmN xn xc ln ∧ (∀ j : Nat, (j : Int) < xc → f_4 j = lx j) ∧ (∀ j, 0 ≤ f_4 j ∧ f_4 j < 256) := hu7
              have hn4 := rmN_r (xn := xn) (xc := xc) (ln := ln) (by omega)
              rw [← hp97.1] at hn4
              refine lv_aload_n hx hb d_L_insert_100 rfl (lv_at hl 2 rfl) ?_
              refine lv_iload_n hx hb d_L_insert_101 rfl (lv_at hl 3 rfl) ?_
              refine lv_aload_n hx hb d_L_insert_102 rfl (lv_at hl 0 rfl) ?_
              refine gf_L_11 hx hb hts hown hK hP 4 rfl rfl d_L_insert_103 ?_
              refine lv_aload_n hx hb d_L_insert_106 rfl (lv_at hl 0 rfl) ?_
              refine gf_L_29 hx hb hts hown hK hP 4 rfl rfl d_L_insert_107 ?_
              refine lv_iload hx hb d_L_insert_110 (lv_at hl 4 rfl) ?_
              refine li_copy hx hb (hml.trans hl.1.symm) hown (hts (Cond.methodLink R_L 81 arraycopyName) (tk5 50 rfl rfl)) (hts (Cond.native arraycopyName) (tk2 226 rfl rfl)) (hts (Cond.static arraycopyName) (tk2 225 rfl rfl)) (hts (Cond.initialized "java/lang/System") (tk1 22 rfl rfl)) hK hP hD hS 3 5 1 rfl rfl rfl rfl (by omega) (by omega) (by omega) (by omega) (by omega) (by omega) (fun i => fitC (htr i).1 (by have := htr i; omega)) (Nat.le_of_ble_eq_true rfl) (Nat.le_of_ble_eq_true rfl) d_L_insert_112 (fun H locs hP hD hS => ?_)
              have hP : va_P (dC, dI) CL [(xb, .inl (kA 0, xk, .inl (aI bx))), (xe, .inl (kA 0, xk, .inl (aI ex))), (xh, .inl (kA 0, xk, .inl (aI hd))), (ta, .inl (kA 1, tn, .inl (aI t))), (xo, .inr (5, [.ref q_4, .int (iI xc), .ref xb, .ref xe, .ref xh, .int (iI xz), .int (iI (bI xs))])), (q_4, .inl (kA 1, n_4, .inl (aI (va_cpy t f_4 fr.toNat xc.toNat ln.toNat))))] H := hP
              have hD : va_D A [(xb, .inl (kA 0, xk, .inl (aI bx))), (xe, .inl (kA 0, xk, .inl (aI ex))), (xh, .inl (kA 0, xk, .inl (aI hd))), (ta, .inl (kA 1, tn, .inl (aI t))), (xo, .inr (5, [.ref q_4, .int (iI xc), .ref xb, .ref xe, .ref xh, .int (iI xz), .int (iI (bI xs))])), (q_4, .inl (kA 1, n_4, .inl (aI (va_cpy t f_4 fr.toNat xc.toNat ln.toNat))))] := hD
              refine lv_aload_n hx hb d_L_insert_115 rfl (lv_at hl 0 rfl) ?_
              refine gf_L_15 hx hb hts hown hK hP 4 rfl rfl d_L_insert_116 ?_
              refine lv_iload_n hx hb d_L_insert_119 rfl (lv_at hl 1 rfl) ?_
              refine lv_aload_n hx hb d_L_insert_120 rfl (lv_at hl 0 rfl) ?_
              refine gf_L_15 hx hb hts hown hK hP 4 rfl rfl d_L_insert_121 ?_
              refine lv_iload_n hx hb d_L_insert_124 rfl (lv_at hl 1 rfl) ?_
              refine lv_iconst (v := iI 1) hx hb d_L_insert_125 rfl ?_
              refine li_iadd hx hb d_L_insert_126 ?_
              refine lv_aload_n hx hb d_L_insert_127 rfl (lv_at hl 0 rfl) ?_
              refine gf_L_25 hx hb hts hown hK hP 4 rfl rfl d_L_insert_128 ?_
              refine lv_iload_n hx hb d_L_insert_131 rfl (lv_at hl 1 rfl) ?_
              refine li_isub hx hb d_L_insert_132 ?_
              refine li_copy hx hb (hml.trans hl.1.symm) hown (hts (Cond.methodLink R_L 81 arraycopyName) (tk5 50 rfl rfl)) (hts (Cond.native arraycopyName) (tk2 226 rfl rfl)) (hts (Cond.static arraycopyName) (tk2 225 rfl rfl)) (hts (Cond.initialized "java/lang/System") (tk1 22 rfl rfl)) hK hP hD hS 0 0 0 rfl rfl rfl rfl (by omega) (by omega) (by omega) (by omega) (by omega) (by omega) (fun _ => rfl) (Nat.le_of_ble_eq_true rfl) (Nat.le_of_ble_eq_true rfl) d_L_insert_133 (fun H locs hP hD hS => ?_)
              have hP : va_P (dC, dI) CL [(xb, .inl (kA 0, xk, .inl (aI (va_cpy bx bx k.toNat ((k + 1).toNat) ((xz - k).toNat))))), (xe, .inl (kA 0, xk, .inl (aI ex))), (xh, .inl (kA 0, xk, .inl (aI hd))), (ta, .inl (kA 1, tn, .inl (aI t))), (xo, .inr (5, [.ref q_4, .int (iI xc), .ref xb, .ref xe, .ref xh, .int (iI xz), .int (iI (bI xs))])), (q_4, .inl (kA 1, n_4, .inl (aI (va_cpy t f_4 fr.toNat xc.toNat ln.toNat))))] H := hP
              have hD : va_D A [(xb, .inl (kA 0, xk, .inl (aI (va_cpy bx bx k.toNat ((k + 1).toNat) ((xz - k).toNat))))), (xe, .inl (kA 0, xk, .inl (aI ex))), (xh, .inl (kA 0, xk, .inl (aI hd))), (ta, .inl (kA 1, tn, .inl (aI t))), (xo, .inr (5, [.ref q_4, .int (iI xc), .ref xb, .ref xe, .ref xh, .int (iI xz), .int (iI (bI xs))])), (q_4, .inl (kA 1, n_4, .inl (aI (va_cpy t f_4 fr.toNat xc.toNat ln.toNat))))] := hD
              refine lv_aload_n hx hb d_L_insert_136 rfl (lv_at hl 0 rfl) ?_
              refine gf_L_19 hx hb hts hown hK hP 4 rfl rfl d_L_insert_137 ?_
              refine lv_iload_n hx hb d_L_insert_140 rfl (lv_at hl 1 rfl) ?_
              refine lv_aload_n hx hb d_L_insert_141 rfl (lv_at hl 0 rfl) ?_
              refine gf_L_19 hx hb hts hown hK hP 4 rfl rfl d_L_insert_142 ?_
              refine lv_iload_n hx hb d_L_insert_145 rfl (lv_at hl 1 rfl) ?_
              refine lv_iconst (v := iI 1) hx hb d_L_insert_146 rfl ?_
              refine li_iadd hx hb d_L_insert_147 ?_
              refine lv_aload_n hx hb d_L_insert_148 rfl (lv_at hl 0 rfl) ?_
              refine gf_L_25 hx hb hts hown hK hP 4 rfl rfl d_L_insert_149 ?_
              refine lv_iload_n hx hb d_L_insert_152 rfl (lv_at hl 1 rfl) ?_
              refine li_isub hx hb d_L_insert_153 ?_
              refine li_copy hx hb (hml.trans hl.1.symm) hown (hts (Cond.methodLink R_L 81 arraycopyName) (tk5 50 rfl rfl)) (hts (Cond.native arraycopyName) (tk2 226 rfl rfl)) (hts (Cond.static arraycopyName) (tk2 225 rfl rfl)) (hts (Cond.initialized "java/lang/System") (tk1 22 rfl rfl)) hK hP hD hS 1 1 0 rfl rfl rfl rfl (by omega) (by omega) (by omega) (by omega) (by omega) (by omega) (fun _ => rfl) (Nat.le_of_ble_eq_true rfl) (Nat.le_of_ble_eq_true rfl) d_L_insert_154 (fun H locs hP hD hS => ?_)
              have hP : va_P (dC, dI) CL [(xb, .inl (kA 0, xk, .inl (aI (va_cpy bx bx k.toNat ((k + 1).toNat) ((xz - k).toNat))))), (xe, .inl (kA 0, xk, .inl (aI (va_cpy ex ex k.toNat ((k + 1).toNat) ((xz - k).toNat))))), (xh, .inl (kA 0, xk, .inl (aI hd))), (ta, .inl (kA 1, tn, .inl (aI t))), (xo, .inr (5, [.ref q_4, .int (iI xc), .ref xb, .ref xe, .ref xh, .int (iI xz), .int (iI (bI xs))])), (q_4, .inl (kA 1, n_4, .inl (aI (va_cpy t f_4 fr.toNat xc.toNat ln.toNat))))] H := hP
              have hD : va_D A [(xb, .inl (kA 0, xk, .inl (aI (va_cpy bx bx k.toNat ((k + 1).toNat) ((xz - k).toNat))))), (xe, .inl (kA 0, xk, .inl (aI (va_cpy ex ex k.toNat ((k + 1).toNat) ((xz - k).toNat))))), (xh, .inl (kA 0, xk, .inl (aI hd))), (ta, .inl (kA 1, tn, .inl (aI t))), (xo, .inr (5, [.ref q_4, .int (iI xc), .ref xb, .ref xe, .ref xh, .int (iI xz), .int (iI (bI xs))])), (q_4, .inl (kA 1, n_4, .inl (aI (va_cpy t f_4 fr.toNat xc.toNat ln.toNat))))] := hD
              refine lv_aload_n hx hb d_L_insert_157 rfl (lv_at hl 0 rfl) ?_
              refine gf_L_22 hx hb hts hown hK hP 4 rfl rfl d_L_insert_158 ?_
              refine lv_iload_n hx hb d_L_insert_161 rfl (lv_at hl 1 rfl) ?_
              refine lv_aload_n hx hb d_L_insert_162 rfl (lv_at hl 0 rfl) ?_
              refine gf_L_22 hx hb hts hown hK hP 4 rfl rfl d_L_insert_163 ?_
              refine lv_iload_n hx hb d_L_insert_166 rfl (lv_at hl 1 rfl) ?_
              refine lv_iconst (v := iI 1) hx hb d_L_insert_167 rfl ?_
              refine li_iadd hx hb d_L_insert_168 ?_
              refine lv_aload_n hx hb d_L_insert_169 rfl (lv_at hl 0 rfl) ?_
              refine gf_L_25 hx hb hts hown hK hP 4 rfl rfl d_L_insert_170 ?_
              refine lv_iload_n hx hb d_L_insert_173 rfl (lv_at hl 1 rfl) ?_
              refine li_isub hx hb d_L_insert_174 ?_
              refine li_copy hx hb (hml.trans hl.1.symm) hown (hts (Cond.methodLink R_L 81 arraycopyName) (tk5 50 rfl rfl)) (hts (Cond.native arraycopyName) (tk2 226 rfl rfl)) (hts (Cond.static arraycopyName) (tk2 225 rfl rfl)) (hts (Cond.initialized "java/lang/System") (tk1 22 rfl rfl)) hK hP hD hS 2 2 0 rfl rfl rfl rfl (by omega) (by omega) (by omega) (by omega) (by omega) (by omega) (fun _ => rfl) (Nat.le_of_ble_eq_true rfl) (Nat.le_of_ble_eq_true rfl) d_L_insert_175 (fun H locs hP hD hS => ?_)
              have hP : va_P (dC, dI) CL [(xb, .inl (kA 0, xk, .inl (aI (va_cpy bx bx k.toNat ((k + 1).toNat) ((xz - k).toNat))))), (xe, .inl (kA 0, xk, .inl (aI (va_cpy ex ex k.toNat ((k + 1).toNat) ((xz - k).toNat))))), (xh, .inl (kA 0, xk, .inl (aI (va_cpy hd hd k.toNat ((k + 1).toNat) ((xz - k).toNat))))), (ta, .inl (kA 1, tn, .inl (aI t))), (xo, .inr (5, [.ref q_4, .int (iI xc), .ref xb, .ref xe, .ref xh, .int (iI xz), .int (iI (bI xs))])), (q_4, .inl (kA 1, n_4, .inl (aI (va_cpy t f_4 fr.toNat xc.toNat ln.toNat))))] H := hP
              have hD : va_D A [(xb, .inl (kA 0, xk, .inl (aI (va_cpy bx bx k.toNat ((k + 1).toNat) ((xz - k).toNat))))), (xe, .inl (kA 0, xk, .inl (aI (va_cpy ex ex k.toNat ((k + 1).toNat) ((xz - k).toNat))))), (xh, .inl (kA 0, xk, .inl (aI (va_cpy hd hd k.toNat ((k + 1).toNat) ((xz - k).toNat))))), (ta, .inl (kA 1, tn, .inl (aI t))), (xo, .inr (5, [.ref q_4, .int (iI xc), .ref xb, .ref xe, .ref xh, .int (iI xz), .int (iI (bI xs))])), (q_4, .inl (kA 1, n_4, .inl (aI (va_cpy t f_4 fr.toNat xc.toNat ln.toNat))))] := hD
              refine lv_aload_n hx hb d_L_insert_178 rfl (lv_at hl 0 rfl) ?_
              refine gf_L_15 hx hb hts hown hK hP 4 rfl rfl d_L_insert_179 ?_
              refine lv_iload_n hx hb d_L_insert_182 rfl (lv_at hl 1 rfl) ?_
              refine lv_aload_n hx hb d_L_insert_183 rfl (lv_at hl 0 rfl) ?_
              refine gf_L_29 hx hb hts hown hK hP 4 rfl rfl d_L_insert_184 ?_
              refine li_iast hx hb hK hP hD hS 0 0 rfl rfl (by omega) (by omega) (by omega) d_L_insert_187 (fun H locs hP hD hS => ?_)
              have hP : va_P (dC, dI) CL [(xb, .inl (kA 0, xk, .inl (aI (va_up (va_cpy bx bx k.toNat ((k + 1).toNat) ((xz - k).toNat)) k.toNat xc)))), (xe, .inl (kA 0, xk, .inl (aI (va_cpy ex ex k.toNat ((k + 1).toNat) ((xz - k).toNat))))), (xh, .inl (kA 0, xk, .inl (aI (va_cpy hd hd k.toNat ((k + 1).toNat) ((xz - k).toNat))))), (ta, .inl (kA 1, tn, .inl (aI t))), (xo, .inr (5, [.ref q_4, .int (iI xc), .ref xb, .ref xe, .ref xh, .int (iI xz), .int (iI (bI xs))])), (q_4, .inl (kA 1, n_4, .inl (aI (va_cpy t f_4 fr.toNat xc.toNat ln.toNat))))] H := hP
              have hD : va_D A [(xb, .inl (kA 0, xk, .inl (aI (va_up (va_cpy bx bx k.toNat ((k + 1).toNat) ((xz - k).toNat)) k.toNat xc)))), (xe, .inl (kA 0, xk, .inl (aI (va_cpy ex ex k.toNat ((k + 1).toNat) ((xz - k).toNat))))), (xh, .inl (kA 0, xk, .inl (aI (va_cpy hd hd k.toNat ((k + 1).toNat) ((xz - k).toNat))))), (ta, .inl (kA 1, tn, .inl (aI t))), (xo, .inr (5, [.ref q_4, .int (iI xc), .ref xb, .ref xe, .ref xh, .int (iI xz), .int (iI (bI xs))])), (q_4, .inl (kA 1, n_4, .inl (aI (va_cpy t f_4 fr.toNat xc.toNat ln.toNat))))] := hD
              refine lv_aload_n hx hb d_L_insert_188 rfl (lv_at hl 0 rfl) ?_
              refine gf_L_19 hx hb hts hown hK hP 4 rfl rfl d_L_insert_189 ?_
              refine lv_iload_n hx hb d_L_insert_192 rfl (lv_at hl 1 rfl) ?_
              refine lv_aload_n hx hb d_L_insert_193 rfl (lv_at hl 0 rfl) ?_
              refine gf_L_29 hx hb hts hown hK hP 4 rfl rfl d_L_insert_194 ?_
              refine lv_iload hx hb d_L_insert_197 (lv_at hl 4 rfl) ?_
              refine li_iadd hx hb d_L_insert_199 ?_
              refine li_iast hx hb hK hP hD hS 1 0 rfl rfl (by omega) (by omega) (by omega) d_L_insert_200 (fun H locs hP hD hS => ?_)
              have hP : va_P (dC, dI) CL [(xb, .inl (kA 0, xk, .inl (aI (va_up (va_cpy bx bx k.toNat ((k + 1).toNat) ((xz - k).toNat)) k.toNat xc)))), (xe, .inl (kA 0, xk, .inl (aI (va_up (va_cpy ex ex k.toNat ((k + 1).toNat) ((xz - k).toNat)) k.toNat (xc + ln))))), (xh, .inl (kA 0, xk, .inl (aI (va_cpy hd hd k.toNat ((k + 1).toNat) ((xz - k).toNat))))), (ta, .inl (kA 1, tn, .inl (aI t))), (xo, .inr (5, [.ref q_4, .int (iI xc), .ref xb, .ref xe, .ref xh, .int (iI xz), .int (iI (bI xs))])), (q_4, .inl (kA 1, n_4, .inl (aI (va_cpy t f_4 fr.toNat xc.toNat ln.toNat))))] H := hP
              have hD : va_D A [(xb, .inl (kA 0, xk, .inl (aI (va_up (va_cpy bx bx k.toNat ((k + 1).toNat) ((xz - k).toNat)) k.toNat xc)))), (xe, .inl (kA 0, xk, .inl (aI (va_up (va_cpy ex ex k.toNat ((k + 1).toNat) ((xz - k).toNat)) k.toNat (xc + ln))))), (xh, .inl (kA 0, xk, .inl (aI (va_cpy hd hd k.toNat ((k + 1).toNat) ((xz - k).toNat))))), (ta, .inl (kA 1, tn, .inl (aI t))), (xo, .inr (5, [.ref q_4, .int (iI xc), .ref xb, .ref xe, .ref xh, .int (iI xz), .int (iI (bI xs))])), (q_4, .inl (kA 1, n_4, .inl (aI (va_cpy t f_4 fr.toNat xc.toNat ln.toNat))))] := hD
              refine lv_aload_n hx hb d_L_insert_201 rfl (lv_at hl 0 rfl) ?_
              refine gf_L_22 hx hb hts hown hK hP 4 rfl rfl d_L_insert_202 ?_
              refine lv_iload_n hx hb d_L_insert_205 rfl (lv_at hl 1 rfl) ?_
              refine lv_iconst (v := iI 0) hx hb d_L_insert_206 rfl ?_
              refine li_iast hx hb hK hP hD hS 2 0 rfl rfl (by omega) (by omega) (by omega) d_L_insert_207 (fun H locs hP hD hS => ?_)
              have hP : va_P (dC, dI) CL [(xb, .inl (kA 0, xk, .inl (aI (va_up (va_cpy bx bx k.toNat ((k + 1).toNat) ((xz - k).toNat)) k.toNat xc)))), (xe, .inl (kA 0, xk, .inl (aI (va_up (va_cpy ex ex k.toNat ((k + 1).toNat) ((xz - k).toNat)) k.toNat (xc + ln))))), (xh, .inl (kA 0, xk, .inl (aI (va_up (va_cpy hd hd k.toNat ((k + 1).toNat) ((xz - k).toNat)) k.toNat 0)))), (ta, .inl (kA 1, tn, .inl (aI t))), (xo, .inr (5, [.ref q_4, .int (iI xc), .ref xb, .ref xe, .ref xh, .int (iI xz), .int (iI (bI xs))])), (q_4, .inl (kA 1, n_4, .inl (aI (va_cpy t f_4 fr.toNat xc.toNat ln.toNat))))] H := hP
              have hD : va_D A [(xb, .inl (kA 0, xk, .inl (aI (va_up (va_cpy bx bx k.toNat ((k + 1).toNat) ((xz - k).toNat)) k.toNat xc)))), (xe, .inl (kA 0, xk, .inl (aI (va_up (va_cpy ex ex k.toNat ((k + 1).toNat) ((xz - k).toNat)) k.toNat (xc + ln))))), (xh, .inl (kA 0, xk, .inl (aI (va_up (va_cpy hd hd k.toNat ((k + 1).toNat) ((xz - k).toNat)) k.toNat 0)))), (ta, .inl (kA 1, tn, .inl (aI t))), (xo, .inr (5, [.ref q_4, .int (iI xc), .ref xb, .ref xe, .ref xh, .int (iI xz), .int (iI (bI xs))])), (q_4, .inl (kA 1, n_4, .inl (aI (va_cpy t f_4 fr.toNat xc.toNat ln.toNat))))] := hD
              refine lv_aload_n hx hb d_L_insert_208 rfl (lv_at hl 0 rfl) ?_
              refine lv_dup hx hb d_L_insert_209 rfl ?_
              refine gf_L_29 hx hb hts hown hK hP 4 rfl rfl d_L_insert_210 ?_
              refine lv_iload hx hb d_L_insert_213 (lv_at hl 4 rfl) ?_
              refine li_iadd hx hb d_L_insert_215 ?_
              refine li_nm (fun c_n ec_n => ?_)
              refine pf_L_29 hx hb hts hown hK hP hD hS 4 rfl (Nat.le_of_ble_eq_true rfl) d_L_insert_216 (fun H locs hP hD hS => ?_)
              have hP : va_P (dC, dI) CL [(xb, .inl (kA 0, xk, .inl (aI (va_up (va_cpy bx bx k.toNat ((k + 1).toNat) ((xz - k).toNat)) k.toNat xc)))), (xe, .inl (kA 0, xk, .inl (aI (va_up (va_cpy ex ex k.toNat ((k + 1).toNat) ((xz - k).toNat)) k.toNat (xc + ln))))), (xh, .inl (kA 0, xk, .inl (aI (va_up (va_cpy hd hd k.toNat ((k + 1).toNat) ((xz - k).toNat)) k.toNat 0)))), (ta, .inl (kA 1, tn, .inl (aI t))), (xo, .inr (5, [.ref q_4, .int (iI c_n), .ref xb, .ref xe, .ref xh, .int (iI xz), .int (iI (bI xs))])), (q_4, .inl (kA 1, n_4, .inl (aI (va_cpy t f_4 fr.toNat xc.toNat ln.toNat))))] H := hP
              have hD : va_D A [(xb, .inl (kA 0, xk, .inl (aI (va_up (va_cpy bx bx k.toNat ((k + 1).toNat) ((xz - k).toNat)) k.toNat xc)))), (xe, .inl (kA 0, xk, .inl (aI (va_up (va_cpy ex ex k.toNat ((k + 1).toNat) ((xz - k).toNat)) k.toNat (xc + ln))))), (xh, .inl (kA 0, xk, .inl (aI (va_up (va_cpy hd hd k.toNat ((k + 1).toNat) ((xz - k).toNat)) k.toNat 0)))), (ta, .inl (kA 1, tn, .inl (aI t))), (xo, .inr (5, [.ref q_4, .int (iI c_n), .ref xb, .ref xe, .ref xh, .int (iI xz), .int (iI (bI xs))])), (q_4, .inl (kA 1, n_4, .inl (aI (va_cpy t f_4 fr.toNat xc.toNat ln.toNat))))] := hD
              refine lv_aload_n hx hb d_L_insert_219 rfl (lv_at hl 0 rfl) ?_
              refine lv_dup hx hb d_L_insert_220 rfl ?_
              refine gf_L_25 hx hb hts hown hK hP 4 rfl rfl d_L_insert_221 ?_
              refine lv_iconst (v := iI 1) hx hb d_L_insert_224 rfl ?_
              refine li_iadd hx hb d_L_insert_225 ?_
              refine li_nm (fun z_n ez_n => ?_)
              refine pf_L_25 hx hb hts hown hK hP hD hS 4 rfl (Nat.le_of_ble_eq_true rfl) d_L_insert_226 (fun H locs hP hD hS => ?_)
              have hP : va_P (dC, dI) CL [(xb, .inl (kA 0, xk, .inl (aI (va_up (va_cpy bx bx k.toNat ((k + 1).toNat) ((xz - k).toNat)) k.toNat xc)))), (xe, .inl (kA 0, xk, .inl (aI (va_up (va_cpy ex ex k.toNat ((k + 1).toNat) ((xz - k).toNat)) k.toNat (xc + ln))))), (xh, .inl (kA 0, xk, .inl (aI (va_up (va_cpy hd hd k.toNat ((k + 1).toNat) ((xz - k).toNat)) k.toNat 0)))), (ta, .inl (kA 1, tn, .inl (aI t))), (xo, .inr (5, [.ref q_4, .int (iI c_n), .ref xb, .ref xe, .ref xh, .int (iI z_n), .int (iI (bI xs))])), (q_4, .inl (kA 1, n_4, .inl (aI (va_cpy t f_4 fr.toNat xc.toNat ln.toNat))))] H := hP
              have hD : va_D A [(xb, .inl (kA 0, xk, .inl (aI (va_up (va_cpy bx bx k.toNat ((k + 1).toNat) ((xz - k).toNat)) k.toNat xc)))), (xe, .inl (kA 0, xk, .inl (aI (va_up (va_cpy ex ex k.toNat ((k + 1).toNat) ((xz - k).toNat)) k.toNat (xc + ln))))), (xh, .inl (kA 0, xk, .inl (aI (va_up (va_cpy hd hd k.toNat ((k + 1).toNat) ((xz - k).toNat)) k.toNat 0)))), (ta, .inl (kA 1, tn, .inl (aI t))), (xo, .inr (5, [.ref q_4, .int (iI c_n), .ref xb, .ref xe, .ref xh, .int (iI z_n), .int (iI (bI xs))])), (q_4, .inl (kA 1, n_4, .inl (aI (va_cpy t f_4 fr.toNat xc.toNat ln.toNat))))] := hD
              refine W.widen (k := (gc1 + gc2)) (n := (g1 + g2)) (by omega) (by omega) ?_
              exact fin (q_4, xb, xe, xh, n_4, xk, va_cpy t f_4 fr.toNat xc.toNat ln.toNat, va_up (va_cpy bx bx k.toNat ((k + 1).toNat) ((xz - k).toNat)) k.toNat xc, va_up (va_cpy ex ex k.toNat ((k + 1).toNat) ((xz - k).toNat)) k.toNat (xc + ln), va_up (va_cpy hd hd k.toNat ((k + 1).toNat) ((xz - k).toNat)) k.toNat 0, c_n, z_n) _ _ _ _ (by show LR n_4 xk c_n z_n (va_cpy t f_4 fr.toNat xc.toNat ln.toNat) (va_up (va_cpy bx bx k.toNat ((k + 1).toNat) ((xz - k).toNat)) k.toNat xc) (va_up (va_cpy ex ex k.toNat ((k + 1).toNat) ((xz - k).toNat)) k.toNat (xc + ln)) (va_up (va_cpy hd hd k.toNat ((k + 1).toNat) ((xz - k).toNat)) k.toNat 0) ∧ LX (insA ws k.toNat (wdL t fr (fr + ln))) (insA hs k.toNat 0) c_n z_n (va_cpy t f_4 fr.toNat xc.toNat ln.toNat) (va_up (va_cpy bx bx k.toNat ((k + 1).toNat) ((xz - k).toNat)) k.toNat xc) (va_up (va_cpy ex ex k.toNat ((k + 1).toNat) ((xz - k).toNat)) k.toNat (xc + ln)) (va_up (va_cpy hd hd k.toNat ((k + 1).toNat) ((xz - k).toNat)) k.toNat 0) ∧ c_n = xc + ln ∧ z_n = xz + 1 ∧ n_4 = rmN xn xc ln ∧ xk = cpK xk xz; have hkg : ∀ f : Nat → Int, KG f f xz := (fun f => KG.rf); refine ⟨⟨by omega, by omega, by omega, by omega, ?_, KG.r (f := bx) (z := xz) (by first | exact KG.rf | exact KG.cp (by omega)) (fun j => ⟨(hbx j).1, by have := hbx j; omega⟩) (by omega) (by omega), KG.r (f := ex) (z := xz) (by first | exact KG.rf | exact KG.cp (by omega)) (fun j => ⟨(hex j).1, by have := hex j; omega⟩) (by omega) (by omega), ?_⟩, ?_, ec_n, ez_n, hp97.1, ?_⟩; (intro j; unfold va_cpy; split; (exact htr _); exact hp97.2.2 j); (exact KG.r4 (f := hd) (z := xz) (by first | exact KG.rf | exact KG.cp (by omega)) hhd); (rw [ec_n, ez_n]; refine hLX.ins hk hxc.1 (by omega) ?_ ?_ (KG.shf (by first | exact KG.rf | exact KG.cp (by omega)) hk) (KG.shf (by first | exact KG.rf | exact KG.cp (by omega)) hk) (KG.shf (by first | exact KG.rf | exact KG.cp (by omega)) hk); (intro j hj; unfold va_cpy; rw [if_neg (by omega)]; exact hp97.2.1 j hj); (exact wdL_cpy (by omega) (by omega) (by omega))); (unfold cpK; first | (rw [if_pos (by omega)]; omega) | (rw [if_neg (by omega)]))) (by first | exact hP.sub [4, 5, 0, 1, 2, 3] rfl | (subst_vars; exact hP.sub [4, 5, 0, 1, 2, 3] rfl)) (by first | exact hD.sub [4, 5, 0, 1, 2, 3] (by decide) rfl | (subst_vars; exact hD.sub [4, 5, 0, 1, 2, 3] (by decide) rfl)) hS d_L_insert_229
            · have _q := c6
              refine lv_aload_n hx hb d_L_insert_43 rfl (lv_at hl 0 rfl) ?_
              refine lv_aload_n hx hb d_L_insert_44 rfl (lv_at hl 0 rfl) ?_
              refine gf_L_15 hx hb hts hown hK hP 0 rfl rfl d_L_insert_45 ?_
              refine lv_iconst (v := iI 2) hx hb d_L_insert_48 rfl ?_
              refine lv_aload_n hx hb d_L_insert_49 rfl (lv_at hl 0 rfl) ?_
              refine gf_L_25 hx hb hts hown hK hP 0 rfl rfl d_L_insert_50 ?_
              refine li_imul hx hb d_L_insert_53 ?_
              refine li_callw (wc := [(xb, .inl (kA 0, xk, .inl (aI bx)))]) (wr := [(xo, .inr (5, [.ref xl, .int (iI xc), .ref xb, .ref xe, .ref xh, .int (iI xz), .int (iI (bI xs))])), (xl, .inl (kA 1, xn, .inl (aI lx))), (xe, .inl (kA 0, xk, .inl (aI ex))), (xh, .inl (kA 0, xk, .inl (aI hd))), (ta, .inl (kA 1, tn, .inl (aI t)))]) (va_runS (As := [.ref xb, .int (iI (2 * xz))]) (rest := [.ref xo]) ⟨hx, hb, hml, hown, hts⟩ (c_Ar_copyOf l dC dI kA H.size xb xk bx (2 * xz) (by omega)) (cw_L_71 hts rfl rfl ⟨Nat.le_of_ble_eq_true rfl, Nat.le_of_ble_eq_true rfl⟩) (li_preS ⟨rfl, hP.sub [2] rfl, (hD.sub [2] (by decide) rfl).weaken (fun _ _ _ h => hAN _ h), trivial⟩ hK hN (hG.go hS hAN)) rfl rfl hl.1 rfl (lv_room (Nat.le_of_ble_eq_true rfl)) d_L_insert_54 ⟨(by show 0 + 1 ≤ (gc1 + gc2); omega), (by show 0 + ((2 * xz).toNat) ≤ (g1 + g2); omega)⟩) hP hD hS hA [2] [0, 1, 3, 4, 5] rfl rfl (by decide) (by decide) (fun q_1 H locs hq_1 hP hD hS _hk => ?_)
              have hP : va_P (dC, dI) CL [(xo, .inr (5, [.ref xl, .int (iI xc), .ref xb, .ref xe, .ref xh, .int (iI xz), .int (iI (bI xs))])), (xl, .inl (kA 1, xn, .inl (aI lx))), (xe, .inl (kA 0, xk, .inl (aI ex))), (xh, .inl (kA 0, xk, .inl (aI hd))), (ta, .inl (kA 1, tn, .inl (aI t))), (xb, .inl (kA 0, xk, .inl (aI bx))), (q_1, .inl (kA 0, ((2 * xz).toNat), .inl (aI (va_cpy bx (fun _ => 0) 0 0 (min xk (2 * xz).toNat)))))] H := hP
              have hD : va_D A [(xo, .inr (5, [.ref xl, .int (iI xc), .ref xb, .ref xe, .ref xh, .int (iI xz), .int (iI (bI xs))])), (xl, .inl (kA 1, xn, .inl (aI lx))), (xe, .inl (kA 0, xk, .inl (aI ex))), (xh, .inl (kA 0, xk, .inl (aI hd))), (ta, .inl (kA 1, tn, .inl (aI t))), (xb, .inl (kA 0, xk, .inl (aI bx))), (q_1, .inl (kA 0, ((2 * xz).toNat), .inl (aI (va_cpy bx (fun _ => 0) 0 0 (min xk (2 * xz).toNat)))))] := hD
              refine W.eq (g2 := F0 m 57 ls [.ref q_1, .ref xo]) rfl ?_
              refine pf_L_15 hx hb hts hown hK hP hD hS 0 rfl (Nat.le_of_ble_eq_true rfl) d_L_insert_57 (fun H locs hP hD hS => ?_)
              have hP : va_P (dC, dI) CL [(xo, .inr (5, [.ref xl, .int (iI xc), .ref q_1, .ref xe, .ref xh, .int (iI xz), .int (iI (bI xs))])), (xl, .inl (kA 1, xn, .inl (aI lx))), (xe, .inl (kA 0, xk, .inl (aI ex))), (xh, .inl (kA 0, xk, .inl (aI hd))), (ta, .inl (kA 1, tn, .inl (aI t))), (xb, .inl (kA 0, xk, .inl (aI bx))), (q_1, .inl (kA 0, ((2 * xz).toNat), .inl (aI (va_cpy bx (fun _ => 0) 0 0 (min xk (2 * xz).toNat)))))] H := hP
              have hD : va_D A [(xo, .inr (5, [.ref xl, .int (iI xc), .ref q_1, .ref xe, .ref xh, .int (iI xz), .int (iI (bI xs))])), (xl, .inl (kA 1, xn, .inl (aI lx))), (xe, .inl (kA 0, xk, .inl (aI ex))), (xh, .inl (kA 0, xk, .inl (aI hd))), (ta, .inl (kA 1, tn, .inl (aI t))), (xb, .inl (kA 0, xk, .inl (aI bx))), (q_1, .inl (kA 0, ((2 * xz).toNat), .inl (aI (va_cpy bx (fun _ => 0) 0 0 (min xk (2 * xz).toNat)))))] := hD
              refine lv_aload_n hx hb d_L_insert_60 rfl (lv_at hl 0 rfl) ?_
              refine lv_aload_n hx hb d_L_insert_61 rfl (lv_at hl 0 rfl) ?_
              refine gf_L_19 hx hb hts hown hK hP 0 rfl rfl d_L_insert_62 ?_
              refine lv_iconst (v := iI 2) hx hb d_L_insert_65 rfl ?_
              refine lv_aload_n hx hb d_L_insert_66 rfl (lv_at hl 0 rfl) ?_
              refine gf_L_25 hx hb hts hown hK hP 0 rfl rfl d_L_insert_67 ?_
              refine li_imul hx hb d_L_insert_70 ?_
              refine li_callw (wc := [(xe, .inl (kA 0, xk, .inl (aI ex)))]) (wr := [(xo, .inr (5, [.ref xl, .int (iI xc), .ref q_1, .ref xe, .ref xh, .int (iI xz), .int (iI (bI xs))])), (xl, .inl (kA 1, xn, .inl (aI lx))), (xh, .inl (kA 0, xk, .inl (aI hd))), (ta, .inl (kA 1, tn, .inl (aI t))), (xb, .inl (kA 0, xk, .inl (aI bx))), (q_1, .inl (kA 0, ((2 * xz).toNat), .inl (aI (va_cpy bx (fun _ => 0) 0 0 (min xk (2 * xz).toNat)))))]) (va_runS (As := [.ref xe, .int (iI (2 * xz))]) (rest := [.ref xo]) ⟨hx, hb, hml, hown, hts⟩ (c_Ar_copyOf l dC dI kA H.size xe xk ex (2 * xz) (by omega)) (cw_L_71 hts rfl rfl ⟨Nat.le_of_ble_eq_true rfl, Nat.le_of_ble_eq_true rfl⟩) (li_preS ⟨rfl, hP.sub [2] rfl, (hD.sub [2] (by decide) rfl).weaken (fun _ _ _ h => hAN _ h), trivial⟩ hK hN (hG.go hS hAN)) rfl rfl hl.1 rfl (lv_room (Nat.le_of_ble_eq_true rfl)) d_L_insert_71 ⟨(by show 0 + 1 + 1 ≤ (gc1 + gc2); omega), (by show 0 + ((2 * xz).toNat) + ((2 * xz).toNat) ≤ (g1 + g2); omega)⟩) hP hD hS hA [2] [0, 1, 3, 4, 5, 6] rfl rfl (by decide) (by decide) (fun q_2 H locs hq_2 hP hD hS _hk => ?_)
              have hP : va_P (dC, dI) CL [(xo, .inr (5, [.ref xl, .int (iI xc), .ref q_1, .ref xe, .ref xh, .int (iI xz), .int (iI (bI xs))])), (xl, .inl (kA 1, xn, .inl (aI lx))), (xh, .inl (kA 0, xk, .inl (aI hd))), (ta, .inl (kA 1, tn, .inl (aI t))), (xb, .inl (kA 0, xk, .inl (aI bx))), (q_1, .inl (kA 0, ((2 * xz).toNat), .inl (aI (va_cpy bx (fun _ => 0) 0 0 (min xk (2 * xz).toNat))))), (xe, .inl (kA 0, xk, .inl (aI ex))), (q_2, .inl (kA 0, ((2 * xz).toNat), .inl (aI (va_cpy ex (fun _ => 0) 0 0 (min xk (2 * xz).toNat)))))] H := hP
              have hD : va_D A [(xo, .inr (5, [.ref xl, .int (iI xc), .ref q_1, .ref xe, .ref xh, .int (iI xz), .int (iI (bI xs))])), (xl, .inl (kA 1, xn, .inl (aI lx))), (xh, .inl (kA 0, xk, .inl (aI hd))), (ta, .inl (kA 1, tn, .inl (aI t))), (xb, .inl (kA 0, xk, .inl (aI bx))), (q_1, .inl (kA 0, ((2 * xz).toNat), .inl (aI (va_cpy bx (fun _ => 0) 0 0 (min xk (2 * xz).toNat))))), (xe, .inl (kA 0, xk, .inl (aI ex))), (q_2, .inl (kA 0, ((2 * xz).toNat), .inl (aI (va_cpy ex (fun _ => 0) 0 0 (min xk (2 * xz).toNat)))))] := hD
              refine W.eq (g2 := F0 m 74 ls [.ref q_2, .ref xo]) rfl ?_
              refine pf_L_19 hx hb hts hown hK hP hD hS 0 rfl (Nat.le_of_ble_eq_true rfl) d_L_insert_74 (fun H locs hP hD hS => ?_)
              have hP : va_P (dC, dI) CL [(xo, .inr (5, [.ref xl, .int (iI xc), .ref q_1, .ref q_2, .ref xh, .int (iI xz), .int (iI (bI xs))])), (xl, .inl (kA 1, xn, .inl (aI lx))), (xh, .inl (kA 0, xk, .inl (aI hd))), (ta, .inl (kA 1, tn, .inl (aI t))), (xb, .inl (kA 0, xk, .inl (aI bx))), (q_1, .inl (kA 0, ((2 * xz).toNat), .inl (aI (va_cpy bx (fun _ => 0) 0 0 (min xk (2 * xz).toNat))))), (xe, .inl (kA 0, xk, .inl (aI ex))), (q_2, .inl (kA 0, ((2 * xz).toNat), .inl (aI (va_cpy ex (fun _ => 0) 0 0 (min xk (2 * xz).toNat)))))] H := hP
              have hD : va_D A [(xo, .inr (5, [.ref xl, .int (iI xc), .ref q_1, .ref q_2, .ref xh, .int (iI xz), .int (iI (bI xs))])), (xl, .inl (kA 1, xn, .inl (aI lx))), (xh, .inl (kA 0, xk, .inl (aI hd))), (ta, .inl (kA 1, tn, .inl (aI t))), (xb, .inl (kA 0, xk, .inl (aI bx))), (q_1, .inl (kA 0, ((2 * xz).toNat), .inl (aI (va_cpy bx (fun _ => 0) 0 0 (min xk (2 * xz).toNat))))), (xe, .inl (kA 0, xk, .inl (aI ex))), (q_2, .inl (kA 0, ((2 * xz).toNat), .inl (aI (va_cpy ex (fun _ => 0) 0 0 (min xk (2 * xz).toNat)))))] := hD
              refine lv_aload_n hx hb d_L_insert_77 rfl (lv_at hl 0 rfl) ?_
              refine lv_aload_n hx hb d_L_insert_78 rfl (lv_at hl 0 rfl) ?_
              refine gf_L_22 hx hb hts hown hK hP 0 rfl rfl d_L_insert_79 ?_
              refine lv_iconst (v := iI 2) hx hb d_L_insert_82 rfl ?_
              refine lv_aload_n hx hb d_L_insert_83 rfl (lv_at hl 0 rfl) ?_
              refine gf_L_25 hx hb hts hown hK hP 0 rfl rfl d_L_insert_84 ?_
              refine li_imul hx hb d_L_insert_87 ?_
              refine li_callw (wc := [(xh, .inl (kA 0, xk, .inl (aI hd)))]) (wr := [(xo, .inr (5, [.ref xl, .int (iI xc), .ref q_1, .ref q_2, .ref xh, .int (iI xz), .int (iI (bI xs))])), (xl, .inl (kA 1, xn, .inl (aI lx))), (ta, .inl (kA 1, tn, .inl (aI t))), (xb, .inl (kA 0, xk, .inl (aI bx))), (q_1, .inl (kA 0, ((2 * xz).toNat), .inl (aI (va_cpy bx (fun _ => 0) 0 0 (min xk (2 * xz).toNat))))), (xe, .inl (kA 0, xk, .inl (aI ex))), (q_2, .inl (kA 0, ((2 * xz).toNat), .inl (aI (va_cpy ex (fun _ => 0) 0 0 (min xk (2 * xz).toNat)))))]) (va_runS (As := [.ref xh, .int (iI (2 * xz))]) (rest := [.ref xo]) ⟨hx, hb, hml, hown, hts⟩ (c_Ar_copyOf l dC dI kA H.size xh xk hd (2 * xz) (by omega)) (cw_L_71 hts rfl rfl ⟨Nat.le_of_ble_eq_true rfl, Nat.le_of_ble_eq_true rfl⟩) (li_preS ⟨rfl, hP.sub [2] rfl, (hD.sub [2] (by decide) rfl).weaken (fun _ _ _ h => hAN _ h), trivial⟩ hK hN (hG.go hS hAN)) rfl rfl hl.1 rfl (lv_room (Nat.le_of_ble_eq_true rfl)) d_L_insert_88 ⟨(by show 0 + 1 + 1 + 1 ≤ (gc1 + gc2); omega), (by show 0 + ((2 * xz).toNat) + ((2 * xz).toNat) + ((2 * xz).toNat) ≤ (g1 + g2); omega)⟩) hP hD hS hA [2] [0, 1, 3, 4, 5, 6, 7] rfl rfl (by decide) (by decide) (fun q_3 H locs hq_3 hP hD hS _hk => ?_)
              have hP : va_P (dC, dI) CL [(xo, .inr (5, [.ref xl, .int (iI xc), .ref q_1, .ref q_2, .ref xh, .int (iI xz), .int (iI (bI xs))])), (xl, .inl (kA 1, xn, .inl (aI lx))), (ta, .inl (kA 1, tn, .inl (aI t))), (xb, .inl (kA 0, xk, .inl (aI bx))), (q_1, .inl (kA 0, ((2 * xz).toNat), .inl (aI (va_cpy bx (fun _ => 0) 0 0 (min xk (2 * xz).toNat))))), (xe, .inl (kA 0, xk, .inl (aI ex))), (q_2, .inl (kA 0, ((2 * xz).toNat), .inl (aI (va_cpy ex (fun _ => 0) 0 0 (min xk (2 * xz).toNat))))), (xh, .inl (kA 0, xk, .inl (aI hd))), (q_3, .inl (kA 0, ((2 * xz).toNat), .inl (aI (va_cpy hd (fun _ => 0) 0 0 (min xk (2 * xz).toNat)))))] H := hP
              have hD : va_D A [(xo, .inr (5, [.ref xl, .int (iI xc), .ref q_1, .ref q_2, .ref xh, .int (iI xz), .int (iI (bI xs))])), (xl, .inl (kA 1, xn, .inl (aI lx))), (ta, .inl (kA 1, tn, .inl (aI t))), (xb, .inl (kA 0, xk, .inl (aI bx))), (q_1, .inl (kA 0, ((2 * xz).toNat), .inl (aI (va_cpy bx (fun _ => 0) 0 0 (min xk (2 * xz).toNat))))), (xe, .inl (kA 0, xk, .inl (aI ex))), (q_2, .inl (kA 0, ((2 * xz).toNat), .inl (aI (va_cpy ex (fun _ => 0) 0 0 (min xk (2 * xz).toNat))))), (xh, .inl (kA 0, xk, .inl (aI hd))), (q_3, .inl (kA 0, ((2 * xz).toNat), .inl (aI (va_cpy hd (fun _ => 0) 0 0 (min xk (2 * xz).toNat)))))] := hD
              refine W.eq (g2 := F0 m 91 ls [.ref q_3, .ref xo]) rfl ?_
              refine pf_L_22 hx hb hts hown hK hP hD hS 0 rfl (Nat.le_of_ble_eq_true rfl) d_L_insert_91 (fun H locs hP hD hS => ?_)
              have hP : va_P (dC, dI) CL [(xo, .inr (5, [.ref xl, .int (iI xc), .ref q_1, .ref q_2, .ref q_3, .int (iI xz), .int (iI (bI xs))])), (xl, .inl (kA 1, xn, .inl (aI lx))), (ta, .inl (kA 1, tn, .inl (aI t))), (xb, .inl (kA 0, xk, .inl (aI bx))), (q_1, .inl (kA 0, ((2 * xz).toNat), .inl (aI (va_cpy bx (fun _ => 0) 0 0 (min xk (2 * xz).toNat))))), (xe, .inl (kA 0, xk, .inl (aI ex))), (q_2, .inl (kA 0, ((2 * xz).toNat), .inl (aI (va_cpy ex (fun _ => 0) 0 0 (min xk (2 * xz).toNat))))), (xh, .inl (kA 0, xk, .inl (aI hd))), (q_3, .inl (kA 0, ((2 * xz).toNat), .inl (aI (va_cpy hd (fun _ => 0) 0 0 (min xk (2 * xz).toNat)))))] H := hP
              have hD : va_D A [(xo, .inr (5, [.ref xl, .int (iI xc), .ref q_1, .ref q_2, .ref q_3, .int (iI xz), .int (iI (bI xs))])), (xl, .inl (kA 1, xn, .inl (aI lx))), (ta, .inl (kA 1, tn, .inl (aI t))), (xb, .inl (kA 0, xk, .inl (aI bx))), (q_1, .inl (kA 0, ((2 * xz).toNat), .inl (aI (va_cpy bx (fun _ => 0) 0 0 (min xk (2 * xz).toNat))))), (xe, .inl (kA 0, xk, .inl (aI ex))), (q_2, .inl (kA 0, ((2 * xz).toNat), .inl (aI (va_cpy ex (fun _ => 0) 0 0 (min xk (2 * xz).toNat))))), (xh, .inl (kA 0, xk, .inl (aI hd))), (q_3, .inl (kA 0, ((2 * xz).toNat), .inl (aI (va_cpy hd (fun _ => 0) 0 0 (min xk (2 * xz).toNat)))))] := hD
              refine lv_aload_n hx hb d_L_insert_94 rfl (lv_at hl 0 rfl) ?_
              refine lv_iload hx hb d_L_insert_95 (lv_at hl 4 rfl) ?_
              refine li_callw (wc := [(xo, .inr (5, [.ref xl, .int (iI xc), .ref q_1, .ref q_2, .ref q_3, .int (iI xz), .int (iI (bI xs))])), (xl, .inl (kA 1, xn, .inl (aI lx)))]) (wr := [(ta, .inl (kA 1, tn, .inl (aI t))), (xb, .inl (kA 0, xk, .inl (aI bx))), (q_1, .inl (kA 0, ((2 * xz).toNat), .inl (aI (va_cpy bx (fun _ => 0) 0 0 (min xk (2 * xz).toNat))))), (xe, .inl (kA 0, xk, .inl (aI ex))), (q_2, .inl (kA 0, ((2 * xz).toNat), .inl (aI (va_cpy ex (fun _ => 0) 0 0 (min xk (2 * xz).toNat))))), (xh, .inl (kA 0, xk, .inl (aI hd))), (q_3, .inl (kA 0, ((2 * xz).toNat), .inl (aI (va_cpy hd (fun _ => 0) 0 0 (min xk (2 * xz).toNat)))))]) (va_runV (As := [.int (iI ln)]) (rest := []) ⟨hx, hb, hml, hown, hts⟩ (c_L_makeRoom l dC dI kA H.size xo xl q_1 q_2 q_3 xn xc xz xs lx ln g2 gc2 (by omega) (by omega) (by exact hlx) (by exact hg2)) (cw_L_77 hts rfl rfl ⟨Nat.le_of_ble_eq_true rfl, Nat.le_of_ble_eq_true rfl⟩) (li_preV (va_recv hK hP (ci := 5) (q0 := 0) rfl rfl) ⟨rfl, hP.sub [0, 1] rfl, (hD.sub [0, 1] (by decide) rfl).weaken (fun _ _ _ h => hAN _ h), trivial⟩ hK hN (hG.go hS hAN)) rfl rfl hl.1 rfl (lv_room (Nat.le_of_ble_eq_true rfl)) d_L_insert_97 ⟨(by show 0 + 1 + 1 + 1 + gc2 ≤ (gc1 + gc2); omega), (by show 0 + ((2 * xz).toNat) + ((2 * xz).toNat) + ((2 * xz).toNat) + g2 ≤ (g1 + g2); omega)⟩) hP hD hS hA [0, 1] [2, 3, 4, 5, 6, 7, 8] rfl rfl (by decide) (by decide) (fun u11 H locs hu11 hP hD hS _hk => ?_)
              obtain ⟨q_4, n_4, f_4⟩ := u11
              have hP : va_P (dC, dI) CL [(ta, .inl (kA 1, tn, .inl (aI t))), (xb, .inl (kA 0, xk, .inl (aI bx))), (q_1, .inl (kA 0, ((2 * xz).toNat), .inl (aI (va_cpy bx (fun _ => 0) 0 0 (min xk (2 * xz).toNat))))), (xe, .inl (kA 0, xk, .inl (aI ex))), (q_2, .inl (kA 0, ((2 * xz).toNat), .inl (aI (va_cpy ex (fun _ => 0) 0 0 (min xk (2 * xz).toNat))))), (xh, .inl (kA 0, xk, .inl (aI hd))), (q_3, .inl (kA 0, ((2 * xz).toNat), .inl (aI (va_cpy hd (fun _ => 0) 0 0 (min xk (2 * xz).toNat))))), (xo, .inr (5, [.ref q_4, .int (iI xc), .ref q_1, .ref q_2, .ref q_3, .int (iI xz), .int (iI (bI xs))])), (q_4, .inl (kA 1, n_4, .inl (aI f_4)))] H := hP
              have hD : va_D A [(ta, .inl (kA 1, tn, .inl (aI t))), (xb, .inl (kA 0, xk, .inl (aI bx))), (q_1, .inl (kA 0, ((2 * xz).toNat), .inl (aI (va_cpy bx (fun _ => 0) 0 0 (min xk (2 * xz).toNat))))), (xe, .inl (kA 0, xk, .inl (aI ex))), (q_2, .inl (kA 0, ((2 * xz).toNat), .inl (aI (va_cpy ex (fun _ => 0) 0 0 (min xk (2 * xz).toNat))))), (xh, .inl (kA 0, xk, .inl (aI hd))), (q_3, .inl (kA 0, ((2 * xz).toNat), .inl (aI (va_cpy hd (fun _ => 0) 0 0 (min xk (2 * xz).toNat))))), (xo, .inr (5, [.ref q_4, .int (iI xc), .ref q_1, .ref q_2, .ref q_3, .int (iI xz), .int (iI (bI xs))])), (q_4, .inl (kA 1, n_4, .inl (aI f_4)))] := hD
              have hp97 : n_4 = rmN xn xc ln ∧ (∀ j : Nat, (j : Int) < xc → f_4 j = lx j) ∧ (∀ j, 0 ≤ f_4 j ∧ f_4 j < 256) := hu11
              have hn4 := rmN_r (xn := xn) (xc := xc) (ln := ln) (by omega)
              rw [← hp97.1] at hn4
              refine lv_aload_n hx hb d_L_insert_100 rfl (lv_at hl 2 rfl) ?_
              refine lv_iload_n hx hb d_L_insert_101 rfl (lv_at hl 3 rfl) ?_
              refine lv_aload_n hx hb d_L_insert_102 rfl (lv_at hl 0 rfl) ?_
              refine gf_L_11 hx hb hts hown hK hP 7 rfl rfl d_L_insert_103 ?_
              refine lv_aload_n hx hb d_L_insert_106 rfl (lv_at hl 0 rfl) ?_
              refine gf_L_29 hx hb hts hown hK hP 7 rfl rfl d_L_insert_107 ?_
              refine lv_iload hx hb d_L_insert_110 (lv_at hl 4 rfl) ?_
              refine li_copy hx hb (hml.trans hl.1.symm) hown (hts (Cond.methodLink R_L 81 arraycopyName) (tk5 50 rfl rfl)) (hts (Cond.native arraycopyName) (tk2 226 rfl rfl)) (hts (Cond.static arraycopyName) (tk2 225 rfl rfl)) (hts (Cond.initialized "java/lang/System") (tk1 22 rfl rfl)) hK hP hD hS 0 8 1 rfl rfl rfl rfl (by omega) (by omega) (by omega) (by omega) (by omega) (by omega) (fun i => fitC (htr i).1 (by have := htr i; omega)) (Nat.le_of_ble_eq_true rfl) (Nat.le_of_ble_eq_true rfl) d_L_insert_112 (fun H locs hP hD hS => ?_)
              have hP : va_P (dC, dI) CL [(ta, .inl (kA 1, tn, .inl (aI t))), (xb, .inl (kA 0, xk, .inl (aI bx))), (q_1, .inl (kA 0, ((2 * xz).toNat), .inl (aI (va_cpy bx (fun _ => 0) 0 0 (min xk (2 * xz).toNat))))), (xe, .inl (kA 0, xk, .inl (aI ex))), (q_2, .inl (kA 0, ((2 * xz).toNat), .inl (aI (va_cpy ex (fun _ => 0) 0 0 (min xk (2 * xz).toNat))))), (xh, .inl (kA 0, xk, .inl (aI hd))), (q_3, .inl (kA 0, ((2 * xz).toNat), .inl (aI (va_cpy hd (fun _ => 0) 0 0 (min xk (2 * xz).toNat))))), (xo, .inr (5, [.ref q_4, .int (iI xc), .ref q_1, .ref q_2, .ref q_3, .int (iI xz), .int (iI (bI xs))])), (q_4, .inl (kA 1, n_4, .inl (aI (va_cpy t f_4 fr.toNat xc.toNat ln.toNat))))] H := hP
              have hD : va_D A [(ta, .inl (kA 1, tn, .inl (aI t))), (xb, .inl (kA 0, xk, .inl (aI bx))), (q_1, .inl (kA 0, ((2 * xz).toNat), .inl (aI (va_cpy bx (fun _ => 0) 0 0 (min xk (2 * xz).toNat))))), (xe, .inl (kA 0, xk, .inl (aI ex))), (q_2, .inl (kA 0, ((2 * xz).toNat), .inl (aI (va_cpy ex (fun _ => 0) 0 0 (min xk (2 * xz).toNat))))), (xh, .inl (kA 0, xk, .inl (aI hd))), (q_3, .inl (kA 0, ((2 * xz).toNat), .inl (aI (va_cpy hd (fun _ => 0) 0 0 (min xk (2 * xz).toNat))))), (xo, .inr (5, [.ref q_4, .int (iI xc), .ref q_1, .ref q_2, .ref q_3, .int (iI xz), .int (iI (bI xs))])), (q_4, .inl (kA 1, n_4, .inl (aI (va_cpy t f_4 fr.toNat xc.toNat ln.toNat))))] := hD
              refine lv_aload_n hx hb d_L_insert_115 rfl (lv_at hl 0 rfl) ?_
              refine gf_L_15 hx hb hts hown hK hP 7 rfl rfl d_L_insert_116 ?_
              refine lv_iload_n hx hb d_L_insert_119 rfl (lv_at hl 1 rfl) ?_
              refine lv_aload_n hx hb d_L_insert_120 rfl (lv_at hl 0 rfl) ?_
              refine gf_L_15 hx hb hts hown hK hP 7 rfl rfl d_L_insert_121 ?_
              refine lv_iload_n hx hb d_L_insert_124 rfl (lv_at hl 1 rfl) ?_
              refine lv_iconst (v := iI 1) hx hb d_L_insert_125 rfl ?_
              refine li_iadd hx hb d_L_insert_126 ?_
              refine lv_aload_n hx hb d_L_insert_127 rfl (lv_at hl 0 rfl) ?_
              refine gf_L_25 hx hb hts hown hK hP 7 rfl rfl d_L_insert_128 ?_
              refine lv_iload_n hx hb d_L_insert_131 rfl (lv_at hl 1 rfl) ?_
              refine li_isub hx hb d_L_insert_132 ?_
              refine li_copy hx hb (hml.trans hl.1.symm) hown (hts (Cond.methodLink R_L 81 arraycopyName) (tk5 50 rfl rfl)) (hts (Cond.native arraycopyName) (tk2 226 rfl rfl)) (hts (Cond.static arraycopyName) (tk2 225 rfl rfl)) (hts (Cond.initialized "java/lang/System") (tk1 22 rfl rfl)) hK hP hD hS 2 2 0 rfl rfl rfl rfl (by omega) (by omega) (by omega) (by omega) (by omega) (by omega) (fun _ => rfl) (Nat.le_of_ble_eq_true rfl) (Nat.le_of_ble_eq_true rfl) d_L_insert_133 (fun H locs hP hD hS => ?_)
              have hP : va_P (dC, dI) CL [(ta, .inl (kA 1, tn, .inl (aI t))), (xb, .inl (kA 0, xk, .inl (aI bx))), (q_1, .inl (kA 0, ((2 * xz).toNat), .inl (aI (va_cpy (va_cpy bx (fun _ => 0) 0 0 (min xk (2 * xz).toNat)) (va_cpy bx (fun _ => 0) 0 0 (min xk (2 * xz).toNat)) k.toNat ((k + 1).toNat) ((xz - k).toNat))))), (xe, .inl (kA 0, xk, .inl (aI ex))), (q_2, .inl (kA 0, ((2 * xz).toNat), .inl (aI (va_cpy ex (fun _ => 0) 0 0 (min xk (2 * xz).toNat))))), (xh, .inl (kA 0, xk, .inl (aI hd))), (q_3, .inl (kA 0, ((2 * xz).toNat), .inl (aI (va_cpy hd (fun _ => 0) 0 0 (min xk (2 * xz).toNat))))), (xo, .inr (5, [.ref q_4, .int (iI xc), .ref q_1, .ref q_2, .ref q_3, .int (iI xz), .int (iI (bI xs))])), (q_4, .inl (kA 1, n_4, .inl (aI (va_cpy t f_4 fr.toNat xc.toNat ln.toNat))))] H := hP
              have hD : va_D A [(ta, .inl (kA 1, tn, .inl (aI t))), (xb, .inl (kA 0, xk, .inl (aI bx))), (q_1, .inl (kA 0, ((2 * xz).toNat), .inl (aI (va_cpy (va_cpy bx (fun _ => 0) 0 0 (min xk (2 * xz).toNat)) (va_cpy bx (fun _ => 0) 0 0 (min xk (2 * xz).toNat)) k.toNat ((k + 1).toNat) ((xz - k).toNat))))), (xe, .inl (kA 0, xk, .inl (aI ex))), (q_2, .inl (kA 0, ((2 * xz).toNat), .inl (aI (va_cpy ex (fun _ => 0) 0 0 (min xk (2 * xz).toNat))))), (xh, .inl (kA 0, xk, .inl (aI hd))), (q_3, .inl (kA 0, ((2 * xz).toNat), .inl (aI (va_cpy hd (fun _ => 0) 0 0 (min xk (2 * xz).toNat))))), (xo, .inr (5, [.ref q_4, .int (iI xc), .ref q_1, .ref q_2, .ref q_3, .int (iI xz), .int (iI (bI xs))])), (q_4, .inl (kA 1, n_4, .inl (aI (va_cpy t f_4 fr.toNat xc.toNat ln.toNat))))] := hD
              refine lv_aload_n hx hb d_L_insert_136 rfl (lv_at hl 0 rfl) ?_
              refine gf_L_19 hx hb hts hown hK hP 7 rfl rfl d_L_insert_137 ?_
              refine lv_iload_n hx hb d_L_insert_140 rfl (lv_at hl 1 rfl) ?_
              refine lv_aload_n hx hb d_L_insert_141 rfl (lv_at hl 0 rfl) ?_
              refine gf_L_19 hx hb hts hown hK hP 7 rfl rfl d_L_insert_142 ?_
              refine lv_iload_n hx hb d_L_insert_145 rfl (lv_at hl 1 rfl) ?_
              refine lv_iconst (v := iI 1) hx hb d_L_insert_146 rfl ?_
              refine li_iadd hx hb d_L_insert_147 ?_
              refine lv_aload_n hx hb d_L_insert_148 rfl (lv_at hl 0 rfl) ?_
              refine gf_L_25 hx hb hts hown hK hP 7 rfl rfl d_L_insert_149 ?_
              refine lv_iload_n hx hb d_L_insert_152 rfl (lv_at hl 1 rfl) ?_
              refine li_isub hx hb d_L_insert_153 ?_
              refine li_copy hx hb (hml.trans hl.1.symm) hown (hts (Cond.methodLink R_L 81 arraycopyName) (tk5 50 rfl rfl)) (hts (Cond.native arraycopyName) (tk2 226 rfl rfl)) (hts (Cond.static arraycopyName) (tk2 225 rfl rfl)) (hts (Cond.initialized "java/lang/System") (tk1 22 rfl rfl)) hK hP hD hS 4 4 0 rfl rfl rfl rfl (by omega) (by omega) (by omega) (by omega) (by omega) (by omega) (fun _ => rfl) (Nat.le_of_ble_eq_true rfl) (Nat.le_of_ble_eq_true rfl) d_L_insert_154 (fun H locs hP hD hS => ?_)
              have hP : va_P (dC, dI) CL [(ta, .inl (kA 1, tn, .inl (aI t))), (xb, .inl (kA 0, xk, .inl (aI bx))), (q_1, .inl (kA 0, ((2 * xz).toNat), .inl (aI (va_cpy (va_cpy bx (fun _ => 0) 0 0 (min xk (2 * xz).toNat)) (va_cpy bx (fun _ => 0) 0 0 (min xk (2 * xz).toNat)) k.toNat ((k + 1).toNat) ((xz - k).toNat))))), (xe, .inl (kA 0, xk, .inl (aI ex))), (q_2, .inl (kA 0, ((2 * xz).toNat), .inl (aI (va_cpy (va_cpy ex (fun _ => 0) 0 0 (min xk (2 * xz).toNat)) (va_cpy ex (fun _ => 0) 0 0 (min xk (2 * xz).toNat)) k.toNat ((k + 1).toNat) ((xz - k).toNat))))), (xh, .inl (kA 0, xk, .inl (aI hd))), (q_3, .inl (kA 0, ((2 * xz).toNat), .inl (aI (va_cpy hd (fun _ => 0) 0 0 (min xk (2 * xz).toNat))))), (xo, .inr (5, [.ref q_4, .int (iI xc), .ref q_1, .ref q_2, .ref q_3, .int (iI xz), .int (iI (bI xs))])), (q_4, .inl (kA 1, n_4, .inl (aI (va_cpy t f_4 fr.toNat xc.toNat ln.toNat))))] H := hP
              have hD : va_D A [(ta, .inl (kA 1, tn, .inl (aI t))), (xb, .inl (kA 0, xk, .inl (aI bx))), (q_1, .inl (kA 0, ((2 * xz).toNat), .inl (aI (va_cpy (va_cpy bx (fun _ => 0) 0 0 (min xk (2 * xz).toNat)) (va_cpy bx (fun _ => 0) 0 0 (min xk (2 * xz).toNat)) k.toNat ((k + 1).toNat) ((xz - k).toNat))))), (xe, .inl (kA 0, xk, .inl (aI ex))), (q_2, .inl (kA 0, ((2 * xz).toNat), .inl (aI (va_cpy (va_cpy ex (fun _ => 0) 0 0 (min xk (2 * xz).toNat)) (va_cpy ex (fun _ => 0) 0 0 (min xk (2 * xz).toNat)) k.toNat ((k + 1).toNat) ((xz - k).toNat))))), (xh, .inl (kA 0, xk, .inl (aI hd))), (q_3, .inl (kA 0, ((2 * xz).toNat), .inl (aI (va_cpy hd (fun _ => 0) 0 0 (min xk (2 * xz).toNat))))), (xo, .inr (5, [.ref q_4, .int (iI xc), .ref q_1, .ref q_2, .ref q_3, .int (iI xz), .int (iI (bI xs))])), (q_4, .inl (kA 1, n_4, .inl (aI (va_cpy t f_4 fr.toNat xc.toNat ln.toNat))))] := hD
              refine lv_aload_n hx hb d_L_insert_157 rfl (lv_at hl 0 rfl) ?_
              refine gf_L_22 hx hb hts hown hK hP 7 rfl rfl d_L_insert_158 ?_
              refine lv_iload_n hx hb d_L_insert_161 rfl (lv_at hl 1 rfl) ?_
              refine lv_aload_n hx hb d_L_insert_162 rfl (lv_at hl 0 rfl) ?_
              refine gf_L_22 hx hb hts hown hK hP 7 rfl rfl d_L_insert_163 ?_
              refine lv_iload_n hx hb d_L_insert_166 rfl (lv_at hl 1 rfl) ?_
              refine lv_iconst (v := iI 1) hx hb d_L_insert_167 rfl ?_
              refine li_iadd hx hb d_L_insert_168 ?_
              refine lv_aload_n hx hb d_L_insert_169 rfl (lv_at hl 0 rfl) ?_
              refine gf_L_25 hx hb hts hown hK hP 7 rfl rfl d_L_insert_170 ?_
              refine lv_iload_n hx hb d_L_insert_173 rfl (lv_at hl 1 rfl) ?_
              refine li_isub hx hb d_L_insert_174 ?_
              refine li_copy hx hb (hml.trans hl.1.symm) hown (hts (Cond.methodLink R_L 81 arraycopyName) (tk5 50 rfl rfl)) (hts (Cond.native arraycopyName) (tk2 226 rfl rfl)) (hts (Cond.static arraycopyName) (tk2 225 rfl rfl)) (hts (Cond.initialized "java/lang/System") (tk1 22 rfl rfl)) hK hP hD hS 6 6 0 rfl rfl rfl rfl (by omega) (by omega) (by omega) (by omega) (by omega) (by omega) (fun _ => rfl) (Nat.le_of_ble_eq_true rfl) (Nat.le_of_ble_eq_true rfl) d_L_insert_175 (fun H locs hP hD hS => ?_)
              have hP : va_P (dC, dI) CL [(ta, .inl (kA 1, tn, .inl (aI t))), (xb, .inl (kA 0, xk, .inl (aI bx))), (q_1, .inl (kA 0, ((2 * xz).toNat), .inl (aI (va_cpy (va_cpy bx (fun _ => 0) 0 0 (min xk (2 * xz).toNat)) (va_cpy bx (fun _ => 0) 0 0 (min xk (2 * xz).toNat)) k.toNat ((k + 1).toNat) ((xz - k).toNat))))), (xe, .inl (kA 0, xk, .inl (aI ex))), (q_2, .inl (kA 0, ((2 * xz).toNat), .inl (aI (va_cpy (va_cpy ex (fun _ => 0) 0 0 (min xk (2 * xz).toNat)) (va_cpy ex (fun _ => 0) 0 0 (min xk (2 * xz).toNat)) k.toNat ((k + 1).toNat) ((xz - k).toNat))))), (xh, .inl (kA 0, xk, .inl (aI hd))), (q_3, .inl (kA 0, ((2 * xz).toNat), .inl (aI (va_cpy (va_cpy hd (fun _ => 0) 0 0 (min xk (2 * xz).toNat)) (va_cpy hd (fun _ => 0) 0 0 (min xk (2 * xz).toNat)) k.toNat ((k + 1).toNat) ((xz - k).toNat))))), (xo, .inr (5, [.ref q_4, .int (iI xc), .ref q_1, .ref q_2, .ref q_3, .int (iI xz), .int (iI (bI xs))])), (q_4, .inl (kA 1, n_4, .inl (aI (va_cpy t f_4 fr.toNat xc.toNat ln.toNat))))] H := hP
              have hD : va_D A [(ta, .inl (kA 1, tn, .inl (aI t))), (xb, .inl (kA 0, xk, .inl (aI bx))), (q_1, .inl (kA 0, ((2 * xz).toNat), .inl (aI (va_cpy (va_cpy bx (fun _ => 0) 0 0 (min xk (2 * xz).toNat)) (va_cpy bx (fun _ => 0) 0 0 (min xk (2 * xz).toNat)) k.toNat ((k + 1).toNat) ((xz - k).toNat))))), (xe, .inl (kA 0, xk, .inl (aI ex))), (q_2, .inl (kA 0, ((2 * xz).toNat), .inl (aI (va_cpy (va_cpy ex (fun _ => 0) 0 0 (min xk (2 * xz).toNat)) (va_cpy ex (fun _ => 0) 0 0 (min xk (2 * xz).toNat)) k.toNat ((k + 1).toNat) ((xz - k).toNat))))), (xh, .inl (kA 0, xk, .inl (aI hd))), (q_3, .inl (kA 0, ((2 * xz).toNat), .inl (aI (va_cpy (va_cpy hd (fun _ => 0) 0 0 (min xk (2 * xz).toNat)) (va_cpy hd (fun _ => 0) 0 0 (min xk (2 * xz).toNat)) k.toNat ((k + 1).toNat) ((xz - k).toNat))))), (xo, .inr (5, [.ref q_4, .int (iI xc), .ref q_1, .ref q_2, .ref q_3, .int (iI xz), .int (iI (bI xs))])), (q_4, .inl (kA 1, n_4, .inl (aI (va_cpy t f_4 fr.toNat xc.toNat ln.toNat))))] := hD
              refine lv_aload_n hx hb d_L_insert_178 rfl (lv_at hl 0 rfl) ?_
              refine gf_L_15 hx hb hts hown hK hP 7 rfl rfl d_L_insert_179 ?_
              refine lv_iload_n hx hb d_L_insert_182 rfl (lv_at hl 1 rfl) ?_
              refine lv_aload_n hx hb d_L_insert_183 rfl (lv_at hl 0 rfl) ?_
              refine gf_L_29 hx hb hts hown hK hP 7 rfl rfl d_L_insert_184 ?_
              refine li_iast hx hb hK hP hD hS 2 0 rfl rfl (by omega) (by omega) (by omega) d_L_insert_187 (fun H locs hP hD hS => ?_)
              have hP : va_P (dC, dI) CL [(ta, .inl (kA 1, tn, .inl (aI t))), (xb, .inl (kA 0, xk, .inl (aI bx))), (q_1, .inl (kA 0, ((2 * xz).toNat), .inl (aI (va_up (va_cpy (va_cpy bx (fun _ => 0) 0 0 (min xk (2 * xz).toNat)) (va_cpy bx (fun _ => 0) 0 0 (min xk (2 * xz).toNat)) k.toNat ((k + 1).toNat) ((xz - k).toNat)) k.toNat xc)))), (xe, .inl (kA 0, xk, .inl (aI ex))), (q_2, .inl (kA 0, ((2 * xz).toNat), .inl (aI (va_cpy (va_cpy ex (fun _ => 0) 0 0 (min xk (2 * xz).toNat)) (va_cpy ex (fun _ => 0) 0 0 (min xk (2 * xz).toNat)) k.toNat ((k + 1).toNat) ((xz - k).toNat))))), (xh, .inl (kA 0, xk, .inl (aI hd))), (q_3, .inl (kA 0, ((2 * xz).toNat), .inl (aI (va_cpy (va_cpy hd (fun _ => 0) 0 0 (min xk (2 * xz).toNat)) (va_cpy hd (fun _ => 0) 0 0 (min xk (2 * xz).toNat)) k.toNat ((k + 1).toNat) ((xz - k).toNat))))), (xo, .inr (5, [.ref q_4, .int (iI xc), .ref q_1, .ref q_2, .ref q_3, .int (iI xz), .int (iI (bI xs))])), (q_4, .inl (kA 1, n_4, .inl (aI (va_cpy t f_4 fr.toNat xc.toNat ln.toNat))))] H := hP
              have hD : va_D A [(ta, .inl (kA 1, tn, .inl (aI t))), (xb, .inl (kA 0, xk, .inl (aI bx))), (q_1, .inl (kA 0, ((2 * xz).toNat), .inl (aI (va_up (va_cpy (va_cpy bx (fun _ => 0) 0 0 (min xk (2 * xz).toNat)) (va_cpy bx (fun _ => 0) 0 0 (min xk (2 * xz).toNat)) k.toNat ((k + 1).toNat) ((xz - k).toNat)) k.toNat xc)))), (xe, .inl (kA 0, xk, .inl (aI ex))), (q_2, .inl (kA 0, ((2 * xz).toNat), .inl (aI (va_cpy (va_cpy ex (fun _ => 0) 0 0 (min xk (2 * xz).toNat)) (va_cpy ex (fun _ => 0) 0 0 (min xk (2 * xz).toNat)) k.toNat ((k + 1).toNat) ((xz - k).toNat))))), (xh, .inl (kA 0, xk, .inl (aI hd))), (q_3, .inl (kA 0, ((2 * xz).toNat), .inl (aI (va_cpy (va_cpy hd (fun _ => 0) 0 0 (min xk (2 * xz).toNat)) (va_cpy hd (fun _ => 0) 0 0 (min xk (2 * xz).toNat)) k.toNat ((k + 1).toNat) ((xz - k).toNat))))), (xo, .inr (5, [.ref q_4, .int (iI xc), .ref q_1, .ref q_2, .ref q_3, .int (iI xz), .int (iI (bI xs))])), (q_4, .inl (kA 1, n_4, .inl (aI (va_cpy t f_4 fr.toNat xc.toNat ln.toNat))))] := hD
              refine lv_aload_n hx hb d_L_insert_188 rfl (lv_at hl 0 rfl) ?_
              refine gf_L_19 hx hb hts hown hK hP 7 rfl rfl d_L_insert_189 ?_
              refine lv_iload_n hx hb d_L_insert_192 rfl (lv_at hl 1 rfl) ?_
              refine lv_aload_n hx hb d_L_insert_193 rfl (lv_at hl 0 rfl) ?_
              refine gf_L_29 hx hb hts hown hK hP 7 rfl rfl d_L_insert_194 ?_
              refine lv_iload hx hb d_L_insert_197 (lv_at hl 4 rfl) ?_
              refine li_iadd hx hb d_L_insert_199 ?_
              refine li_iast hx hb hK hP hD hS 4 0 rfl rfl (by omega) (by omega) (by omega) d_L_insert_200 (fun H locs hP hD hS => ?_)
              have hP : va_P (dC, dI) CL [(ta, .inl (kA 1, tn, .inl (aI t))), (xb, .inl (kA 0, xk, .inl (aI bx))), (q_1, .inl (kA 0, ((2 * xz).toNat), .inl (aI (va_up (va_cpy (va_cpy bx (fun _ => 0) 0 0 (min xk (2 * xz).toNat)) (va_cpy bx (fun _ => 0) 0 0 (min xk (2 * xz).toNat)) k.toNat ((k + 1).toNat) ((xz - k).toNat)) k.toNat xc)))), (xe, .inl (kA 0, xk, .inl (aI ex))), (q_2, .inl (kA 0, ((2 * xz).toNat), .inl (aI (va_up (va_cpy (va_cpy ex (fun _ => 0) 0 0 (min xk (2 * xz).toNat)) (va_cpy ex (fun _ => 0) 0 0 (min xk (2 * xz).toNat)) k.toNat ((k + 1).toNat) ((xz - k).toNat)) k.toNat (xc + ln))))), (xh, .inl (kA 0, xk, .inl (aI hd))), (q_3, .inl (kA 0, ((2 * xz).toNat), .inl (aI (va_cpy (va_cpy hd (fun _ => 0) 0 0 (min xk (2 * xz).toNat)) (va_cpy hd (fun _ => 0) 0 0 (min xk (2 * xz).toNat)) k.toNat ((k + 1).toNat) ((xz - k).toNat))))), (xo, .inr (5, [.ref q_4, .int (iI xc), .ref q_1, .ref q_2, .ref q_3, .int (iI xz), .int (iI (bI xs))])), (q_4, .inl (kA 1, n_4, .inl (aI (va_cpy t f_4 fr.toNat xc.toNat ln.toNat))))] H := hP
              have hD : va_D A [(ta, .inl (kA 1, tn, .inl (aI t))), (xb, .inl (kA 0, xk, .inl (aI bx))), (q_1, .inl (kA 0, ((2 * xz).toNat), .inl (aI (va_up (va_cpy (va_cpy bx (fun _ => 0) 0 0 (min xk (2 * xz).toNat)) (va_cpy bx (fun _ => 0) 0 0 (min xk (2 * xz).toNat)) k.toNat ((k + 1).toNat) ((xz - k).toNat)) k.toNat xc)))), (xe, .inl (kA 0, xk, .inl (aI ex))), (q_2, .inl (kA 0, ((2 * xz).toNat), .inl (aI (va_up (va_cpy (va_cpy ex (fun _ => 0) 0 0 (min xk (2 * xz).toNat)) (va_cpy ex (fun _ => 0) 0 0 (min xk (2 * xz).toNat)) k.toNat ((k + 1).toNat) ((xz - k).toNat)) k.toNat (xc + ln))))), (xh, .inl (kA 0, xk, .inl (aI hd))), (q_3, .inl (kA 0, ((2 * xz).toNat), .inl (aI (va_cpy (va_cpy hd (fun _ => 0) 0 0 (min xk (2 * xz).toNat)) (va_cpy hd (fun _ => 0) 0 0 (min xk (2 * xz).toNat)) k.toNat ((k + 1).toNat) ((xz - k).toNat))))), (xo, .inr (5, [.ref q_4, .int (iI xc), .ref q_1, .ref q_2, .ref q_3, .int (iI xz), .int (iI (bI xs))])), (q_4, .inl (kA 1, n_4, .inl (aI (va_cpy t f_4 fr.toNat xc.toNat ln.toNat))))] := hD
              refine lv_aload_n hx hb d_L_insert_201 rfl (lv_at hl 0 rfl) ?_
              refine gf_L_22 hx hb hts hown hK hP 7 rfl rfl d_L_insert_202 ?_
              refine lv_iload_n hx hb d_L_insert_205 rfl (lv_at hl 1 rfl) ?_
              refine lv_iconst (v := iI 0) hx hb d_L_insert_206 rfl ?_
              refine li_iast hx hb hK hP hD hS 6 0 rfl rfl (by omega) (by omega) (by omega) d_L_insert_207 (fun H locs hP hD hS => ?_)
              have hP : va_P (dC, dI) CL [(ta, .inl (kA 1, tn, .inl (aI t))), (xb, .inl (kA 0, xk, .inl (aI bx))), (q_1, .inl (kA 0, ((2 * xz).toNat), .inl (aI (va_up (va_cpy (va_cpy bx (fun _ => 0) 0 0 (min xk (2 * xz).toNat)) (va_cpy bx (fun _ => 0) 0 0 (min xk (2 * xz).toNat)) k.toNat ((k + 1).toNat) ((xz - k).toNat)) k.toNat xc)))), (xe, .inl (kA 0, xk, .inl (aI ex))), (q_2, .inl (kA 0, ((2 * xz).toNat), .inl (aI (va_up (va_cpy (va_cpy ex (fun _ => 0) 0 0 (min xk (2 * xz).toNat)) (va_cpy ex (fun _ => 0) 0 0 (min xk (2 * xz).toNat)) k.toNat ((k + 1).toNat) ((xz - k).toNat)) k.toNat (xc + ln))))), (xh, .inl (kA 0, xk, .inl (aI hd))), (q_3, .inl (kA 0, ((2 * xz).toNat), .inl (aI (va_up (va_cpy (va_cpy hd (fun _ => 0) 0 0 (min xk (2 * xz).toNat)) (va_cpy hd (fun _ => 0) 0 0 (min xk (2 * xz).toNat)) k.toNat ((k + 1).toNat) ((xz - k).toNat)) k.toNat 0)))), (xo, .inr (5, [.ref q_4, .int (iI xc), .ref q_1, .ref q_2, .ref q_3, .int (iI xz), .int (iI (bI xs))])), (q_4, .inl (kA 1, n_4, .inl (aI (va_cpy t f_4 fr.toNat xc.toNat ln.toNat))))] H := hP
              have hD : va_D A [(ta, .inl (kA 1, tn, .inl (aI t))), (xb, .inl (kA 0, xk, .inl (aI bx))), (q_1, .inl (kA 0, ((2 * xz).toNat), .inl (aI (va_up (va_cpy (va_cpy bx (fun _ => 0) 0 0 (min xk (2 * xz).toNat)) (va_cpy bx (fun _ => 0) 0 0 (min xk (2 * xz).toNat)) k.toNat ((k + 1).toNat) ((xz - k).toNat)) k.toNat xc)))), (xe, .inl (kA 0, xk, .inl (aI ex))), (q_2, .inl (kA 0, ((2 * xz).toNat), .inl (aI (va_up (va_cpy (va_cpy ex (fun _ => 0) 0 0 (min xk (2 * xz).toNat)) (va_cpy ex (fun _ => 0) 0 0 (min xk (2 * xz).toNat)) k.toNat ((k + 1).toNat) ((xz - k).toNat)) k.toNat (xc + ln))))), (xh, .inl (kA 0, xk, .inl (aI hd))), (q_3, .inl (kA 0, ((2 * xz).toNat), .inl (aI (va_up (va_cpy (va_cpy hd (fun _ => 0) 0 0 (min xk (2 * xz).toNat)) (va_cpy hd (fun _ => 0) 0 0 (min xk (2 * xz).toNat)) k.toNat ((k + 1).toNat) ((xz - k).toNat)) k.toNat 0)))), (xo, .inr (5, [.ref q_4, .int (iI xc), .ref q_1, .ref q_2, .ref q_3, .int (iI xz), .int (iI (bI xs))])), (q_4, .inl (kA 1, n_4, .inl (aI (va_cpy t f_4 fr.toNat xc.toNat ln.toNat))))] := hD
              refine lv_aload_n hx hb d_L_insert_208 rfl (lv_at hl 0 rfl) ?_
              refine lv_dup hx hb d_L_insert_209 rfl ?_
              refine gf_L_29 hx hb hts hown hK hP 7 rfl rfl d_L_insert_210 ?_
              refine lv_iload hx hb d_L_insert_213 (lv_at hl 4 rfl) ?_
              refine li_iadd hx hb d_L_insert_215 ?_
              refine li_nm (fun c_n ec_n => ?_)
              refine pf_L_29 hx hb hts hown hK hP hD hS 7 rfl (Nat.le_of_ble_eq_true rfl) d_L_insert_216 (fun H locs hP hD hS => ?_)
              have hP : va_P (dC, dI) CL [(ta, .inl (kA 1, tn, .inl (aI t))), (xb, .inl (kA 0, xk, .inl (aI bx))), (q_1, .inl (kA 0, ((2 * xz).toNat), .inl (aI (va_up (va_cpy (va_cpy bx (fun _ => 0) 0 0 (min xk (2 * xz).toNat)) (va_cpy bx (fun _ => 0) 0 0 (min xk (2 * xz).toNat)) k.toNat ((k + 1).toNat) ((xz - k).toNat)) k.toNat xc)))), (xe, .inl (kA 0, xk, .inl (aI ex))), (q_2, .inl (kA 0, ((2 * xz).toNat), .inl (aI (va_up (va_cpy (va_cpy ex (fun _ => 0) 0 0 (min xk (2 * xz).toNat)) (va_cpy ex (fun _ => 0) 0 0 (min xk (2 * xz).toNat)) k.toNat ((k + 1).toNat) ((xz - k).toNat)) k.toNat (xc + ln))))), (xh, .inl (kA 0, xk, .inl (aI hd))), (q_3, .inl (kA 0, ((2 * xz).toNat), .inl (aI (va_up (va_cpy (va_cpy hd (fun _ => 0) 0 0 (min xk (2 * xz).toNat)) (va_cpy hd (fun _ => 0) 0 0 (min xk (2 * xz).toNat)) k.toNat ((k + 1).toNat) ((xz - k).toNat)) k.toNat 0)))), (xo, .inr (5, [.ref q_4, .int (iI c_n), .ref q_1, .ref q_2, .ref q_3, .int (iI xz), .int (iI (bI xs))])), (q_4, .inl (kA 1, n_4, .inl (aI (va_cpy t f_4 fr.toNat xc.toNat ln.toNat))))] H := hP
              have hD : va_D A [(ta, .inl (kA 1, tn, .inl (aI t))), (xb, .inl (kA 0, xk, .inl (aI bx))), (q_1, .inl (kA 0, ((2 * xz).toNat), .inl (aI (va_up (va_cpy (va_cpy bx (fun _ => 0) 0 0 (min xk (2 * xz).toNat)) (va_cpy bx (fun _ => 0) 0 0 (min xk (2 * xz).toNat)) k.toNat ((k + 1).toNat) ((xz - k).toNat)) k.toNat xc)))), (xe, .inl (kA 0, xk, .inl (aI ex))), (q_2, .inl (kA 0, ((2 * xz).toNat), .inl (aI (va_up (va_cpy (va_cpy ex (fun _ => 0) 0 0 (min xk (2 * xz).toNat)) (va_cpy ex (fun _ => 0) 0 0 (min xk (2 * xz).toNat)) k.toNat ((k + 1).toNat) ((xz - k).toNat)) k.toNat (xc + ln))))), (xh, .inl (kA 0, xk, .inl (aI hd))), (q_3, .inl (kA 0, ((2 * xz).toNat), .inl (aI (va_up (va_cpy (va_cpy hd (fun _ => 0) 0 0 (min xk (2 * xz).toNat)) (va_cpy hd (fun _ => 0) 0 0 (min xk (2 * xz).toNat)) k.toNat ((k + 1).toNat) ((xz - k).toNat)) k.toNat 0)))), (xo, .inr (5, [.ref q_4, .int (iI c_n), .ref q_1, .ref q_2, .ref q_3, .int (iI xz), .int (iI (bI xs))])), (q_4, .inl (kA 1, n_4, .inl (aI (va_cpy t f_4 fr.toNat xc.toNat ln.toNat))))] := hD
              refine lv_aload_n hx hb d_L_insert_219 rfl (lv_at hl 0 rfl) ?_
              refine lv_dup hx hb d_L_insert_220 rfl ?_
              refine gf_L_25 hx hb hts hown hK hP 7 rfl rfl d_L_insert_221 ?_
              refine lv_iconst (v := iI 1) hx hb d_L_insert_224 rfl ?_
              refine li_iadd hx hb d_L_insert_225 ?_
              refine li_nm (fun z_n ez_n => ?_)
              refine pf_L_25 hx hb hts hown hK hP hD hS 7 rfl (Nat.le_of_ble_eq_true rfl) d_L_insert_226 (fun H locs hP hD hS => ?_)
              have hP : va_P (dC, dI) CL [(ta, .inl (kA 1, tn, .inl (aI t))), (xb, .inl (kA 0, xk, .inl (aI bx))), (q_1, .inl (kA 0, ((2 * xz).toNat), .inl (aI (va_up (va_cpy (va_cpy bx (fun _ => 0) 0 0 (min xk (2 * xz).toNat)) (va_cpy bx (fun _ => 0) 0 0 (min xk (2 * xz).toNat)) k.toNat ((k + 1).toNat) ((xz - k).toNat)) k.toNat xc)))), (xe, .inl (kA 0, xk, .inl (aI ex))), (q_2, .inl (kA 0, ((2 * xz).toNat), .inl (aI (va_up (va_cpy (va_cpy ex (fun _ => 0) 0 0 (min xk (2 * xz).toNat)) (va_cpy ex (fun _ => 0) 0 0 (min xk (2 * xz).toNat)) k.toNat ((k + 1).toNat) ((xz - k).toNat)) k.toNat (xc + ln))))), (xh, .inl (kA 0, xk, .inl (aI hd))), (q_3, .inl (kA 0, ((2 * xz).toNat), .inl (aI (va_up (va_cpy (va_cpy hd (fun _ => 0) 0 0 (min xk (2 * xz).toNat)) (va_cpy hd (fun _ => 0) 0 0 (min xk (2 * xz).toNat)) k.toNat ((k + 1).toNat) ((xz - k).toNat)) k.toNat 0)))), (xo, .inr (5, [.ref q_4, .int (iI c_n), .ref q_1, .ref q_2, .ref q_3, .int (iI z_n), .int (iI (bI xs))])), (q_4, .inl (kA 1, n_4, .inl (aI (va_cpy t f_4 fr.toNat xc.toNat ln.toNat))))] H := hP
              have hD : va_D A [(ta, .inl (kA 1, tn, .inl (aI t))), (xb, .inl (kA 0, xk, .inl (aI bx))), (q_1, .inl (kA 0, ((2 * xz).toNat), .inl (aI (va_up (va_cpy (va_cpy bx (fun _ => 0) 0 0 (min xk (2 * xz).toNat)) (va_cpy bx (fun _ => 0) 0 0 (min xk (2 * xz).toNat)) k.toNat ((k + 1).toNat) ((xz - k).toNat)) k.toNat xc)))), (xe, .inl (kA 0, xk, .inl (aI ex))), (q_2, .inl (kA 0, ((2 * xz).toNat), .inl (aI (va_up (va_cpy (va_cpy ex (fun _ => 0) 0 0 (min xk (2 * xz).toNat)) (va_cpy ex (fun _ => 0) 0 0 (min xk (2 * xz).toNat)) k.toNat ((k + 1).toNat) ((xz - k).toNat)) k.toNat (xc + ln))))), (xh, .inl (kA 0, xk, .inl (aI hd))), (q_3, .inl (kA 0, ((2 * xz).toNat), .inl (aI (va_up (va_cpy (va_cpy hd (fun _ => 0) 0 0 (min xk (2 * xz).toNat)) (va_cpy hd (fun _ => 0) 0 0 (min xk (2 * xz).toNat)) k.toNat ((k + 1).toNat) ((xz - k).toNat)) k.toNat 0)))), (xo, .inr (5, [.ref q_4, .int (iI c_n), .ref q_1, .ref q_2, .ref q_3, .int (iI z_n), .int (iI (bI xs))])), (q_4, .inl (kA 1, n_4, .inl (aI (va_cpy t f_4 fr.toNat xc.toNat ln.toNat))))] := hD
              refine W.widen (k := (gc1 + gc2)) (n := (g1 + g2)) (by omega) (by omega) ?_
              exact fin (q_4, q_1, q_2, q_3, n_4, ((2 * xz).toNat), va_cpy t f_4 fr.toNat xc.toNat ln.toNat, va_up (va_cpy (va_cpy bx (fun _ => 0) 0 0 (min xk (2 * xz).toNat)) (va_cpy bx (fun _ => 0) 0 0 (min xk (2 * xz).toNat)) k.toNat ((k + 1).toNat) ((xz - k).toNat)) k.toNat xc, va_up (va_cpy (va_cpy ex (fun _ => 0) 0 0 (min xk (2 * xz).toNat)) (va_cpy ex (fun _ => 0) 0 0 (min xk (2 * xz).toNat)) k.toNat ((k + 1).toNat) ((xz - k).toNat)) k.toNat (xc + ln), va_up (va_cpy (va_cpy hd (fun _ => 0) 0 0 (min xk (2 * xz).toNat)) (va_cpy hd (fun _ => 0) 0 0 (min xk (2 * xz).toNat)) k.toNat ((k + 1).toNat) ((xz - k).toNat)) k.toNat 0, c_n, z_n) _ _ _ _ (by show LR n_4 ((2 * xz).toNat) c_n z_n (va_cpy t f_4 fr.toNat xc.toNat ln.toNat) (va_up (va_cpy (va_cpy bx (fun _ => 0) 0 0 (min xk (2 * xz).toNat)) (va_cpy bx (fun _ => 0) 0 0 (min xk (2 * xz).toNat)) k.toNat ((k + 1).toNat) ((xz - k).toNat)) k.toNat xc) (va_up (va_cpy (va_cpy ex (fun _ => 0) 0 0 (min xk (2 * xz).toNat)) (va_cpy ex (fun _ => 0) 0 0 (min xk (2 * xz).toNat)) k.toNat ((k + 1).toNat) ((xz - k).toNat)) k.toNat (xc + ln)) (va_up (va_cpy (va_cpy hd (fun _ => 0) 0 0 (min xk (2 * xz).toNat)) (va_cpy hd (fun _ => 0) 0 0 (min xk (2 * xz).toNat)) k.toNat ((k + 1).toNat) ((xz - k).toNat)) k.toNat 0) ∧ LX (insA ws k.toNat (wdL t fr (fr + ln))) (insA hs k.toNat 0) c_n z_n (va_cpy t f_4 fr.toNat xc.toNat ln.toNat) (va_up (va_cpy (va_cpy bx (fun _ => 0) 0 0 (min xk (2 * xz).toNat)) (va_cpy bx (fun _ => 0) 0 0 (min xk (2 * xz).toNat)) k.toNat ((k + 1).toNat) ((xz - k).toNat)) k.toNat xc) (va_up (va_cpy (va_cpy ex (fun _ => 0) 0 0 (min xk (2 * xz).toNat)) (va_cpy ex (fun _ => 0) 0 0 (min xk (2 * xz).toNat)) k.toNat ((k + 1).toNat) ((xz - k).toNat)) k.toNat (xc + ln)) (va_up (va_cpy (va_cpy hd (fun _ => 0) 0 0 (min xk (2 * xz).toNat)) (va_cpy hd (fun _ => 0) 0 0 (min xk (2 * xz).toNat)) k.toNat ((k + 1).toNat) ((xz - k).toNat)) k.toNat 0) ∧ c_n = xc + ln ∧ z_n = xz + 1 ∧ n_4 = rmN xn xc ln ∧ ((2 * xz).toNat) = cpK xk xz; have hkg : ∀ f : Nat → Int, KG f f xz := (fun f => KG.rf); refine ⟨⟨by omega, by omega, by omega, by omega, ?_, KG.r (f := bx) (z := xz) (by first | exact KG.rf | exact KG.cp (by omega)) (fun j => ⟨(hbx j).1, by have := hbx j; omega⟩) (by omega) (by omega), KG.r (f := ex) (z := xz) (by first | exact KG.rf | exact KG.cp (by omega)) (fun j => ⟨(hex j).1, by have := hex j; omega⟩) (by omega) (by omega), ?_⟩, ?_, ec_n, ez_n, hp97.1, ?_⟩; (intro j; unfold va_cpy; split; (exact htr _); exact hp97.2.2 j); (exact KG.r4 (f := hd) (z := xz) (by first | exact KG.rf | exact KG.cp (by omega)) hhd); (rw [ec_n, ez_n]; refine hLX.ins hk hxc.1 (by omega) ?_ ?_ (KG.shf (by first | exact KG.rf | exact KG.cp (by omega)) hk) (KG.shf (by first | exact KG.rf | exact KG.cp (by omega)) hk) (KG.shf (by first | exact KG.rf | exact KG.cp (by omega)) hk); (intro j hj; unfold va_cpy; rw [if_neg (by omega)]; exact hp97.2.1 j hj); (exact wdL_cpy (by omega) (by omega) (by omega))); (unfold cpK; first | (rw [if_pos (by omega)]; omega) | (rw [if_neg (by omega)]))) (by first | exact hP.sub [7, 8, 2, 4, 6, 0] rfl | (subst_vars; exact hP.sub [7, 8, 2, 4, 6, 0] rfl)) (by first | exact hD.sub [7, 8, 2, 4, 6, 0] (by decide) rfl | (subst_vars; exact hD.sub [7, 8, 2, 4, 6, 0] (by decide) rfl)) hS d_L_insert_229
          · have _q := c5
            exact absurd c5 (by omega)

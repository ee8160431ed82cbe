/-! a lexicon grows -/
abbrev LxS : Type := (List (List Int)) × (List Int) × Nat × Nat × Int
abbrev LxS.mk (ws : List (List Int)) (hs : List Int) (xn : Nat) (xk : Nat) (xc : Int) : LxS := (ws, hs, xn, xk, xc)
abbrev LxS.ws (u : LxS) : List (List Int) := u.1
abbrev LxS.hs (u : LxS) : List Int := u.2.1
abbrev LxS.xn (u : LxS) : Nat := u.2.2.1
abbrev LxS.xk (u : LxS) : Nat := u.2.2.2.1
abbrev LxS.xc (u : LxS) : Int := u.2.2.2.2
def plW (ws : List (List Int)) (w : List Int) : Int := bsL (fun z => cmpW (ws.getD z.toNat []) w) 32 0 ws.length
def lxH (u : LxS) (w : List Int) : Bool := decide (plW u.ws w < u.ws.length ∧ cmpW (u.ws.getD (plW u.ws w).toNat []) w = 0)
def lxI (u : LxS) (w : List Int) : LxS := if lxH u w = true then u else ⟨insA u.ws (plW u.ws w).toNat w, insA u.hs (plW u.ws w).toNat 0, rmN u.xn u.xc w.length, cpK u.xk u.ws.length, u.xc + w.length⟩
def lxA (m : Int) (u : LxS) (w : List Int) : LxS := ⟨(lxI u w).ws, (lxI u w).hs.set (plW u.ws w).toNat (orI ((lxI u w).hs.getD (plW u.ws w).toNat 0) m), (lxI u w).xn, (lxI u w).xk, (lxI u w).xc⟩
def lxW (m : Int) (u : LxS) (wl : List (List Int)) : LxS := wl.foldl (lxA m) u
def PSx (u : LxS) : Nat := 6 * (5000 - u.xk) + 2 * (10000 - u.xn)
def PCx (u : LxS) : Nat := (5000 - u.xk) + (10000 - u.xn)
def smL : List (List Int) → Int
  | [] => 0
  | w :: t => w.length + smL t
theorem smL_nn : ∀ l : List (List Int), 0 ≤ smL l := by
  intro l
  induction l with
  | nil => simp [smL]
  | cons w t ih => simp only [smL]; omega
theorem bsL_c {f g : Int → Int} {z : Int} (h : ∀ x, 0 ≤ x → x < z → f x = g x) : ∀ (k : Nat) (lo hi : Int), 0 ≤ lo → hi ≤ z → bsL f k lo hi = bsL g k lo hi := by
  intro k
  induction k with
  | zero => intro lo hi _ _; rfl
  | succ k ih =>
    intro lo hi h0 h1
    simp only [bsL]
    by_cases q : lo < hi
    · rw [if_pos q, if_pos q, h _ (by omega) (by omega), ih _ _ (by omega) h1, ih _ _ h0 (by omega)]
    · rw [if_neg q, if_neg q]
theorem bsL_r {f : Int → Int} : ∀ (k : Nat) (lo hi : Int), lo ≤ hi → lo ≤ bsL f k lo hi ∧ bsL f k lo hi ≤ hi := by
  intro k
  induction k with
  | zero => intro lo hi h; simp only [bsL]; omega
  | succ k ih =>
    intro lo hi h
    simp only [bsL]
    split
    · split
      · have := ih ((lo + hi) / 2 + 1) hi (by omega); omega
      · have := ih lo ((lo + hi) / 2) (by omega); omega
    · omega
theorem plW_r {ws : List (List Int)} {w : List Int} : 0 ≤ plW ws w ∧ plW ws w ≤ ws.length := bsL_r 32 0 _ (by omega)
theorem lwF_W {xn xk : Nat} {xc xz : Int} {lx bx ex hd : Nat → Int} {wn wk : Nat} {wz : Int} {lt sb se : Nat → Int} {i : Int} {ws ws2 : List (List Int)} {hs : List Int} (hL : LR xn xk xc xz lx bx ex hd) (hX : LX ws hs xc xz lx bx ex hd) (hW : WR wn wk wz lt sb se) (hw : WL ws2 wz lt sb se) (hi : 0 ≤ i ∧ i < wz) {k : Int} (hk : 0 ≤ k ∧ k < xz) : lwF xn lx bx ex wn lt sb se i k = cmpW (ws.getD k.toNat []) (ws2.getD i.toNat []) := by
  obtain ⟨hWL, -, -, he⟩ := hX
  have e1 := hWL.get hk.1 hk.2
  have e2 := hw.get hi.1 hi.2
  obtain ⟨-, -, -, -, -, hs2⟩ := hW
  obtain ⟨-, -, -, hc, -, -, hee, -⟩ := hL
  have f1 := hee k.toNat
  have f2 := hs2 i.toNat
  unfold lwF
  rw [cmpF_W (by omega) (by omega), e1.1, e2.1]
theorem plW_e {xn xk : Nat} {xc xz : Int} {lx bx ex hd : Nat → Int} {wn wk : Nat} {wz : Int} {lt sb se : Nat → Int} {i : Int} {ws ws2 : List (List Int)} {hs : List Int} (hL : LR xn xk xc xz lx bx ex hd) (hX : LX ws hs xc xz lx bx ex hd) (hW : WR wn wk wz lt sb se) (hw : WL ws2 wz lt sb se) (hi : 0 ≤ i ∧ i < wz) : bsL (lwF xn lx bx ex wn lt sb se i) 32 0 xz = plW ws (ws2.getD i.toNat []) := by
  unfold plW
  rw [← hX.1.1]
  exact bsL_c (fun x h0 h1 => lwF_W hL hX hW hw hi ⟨h0, h1⟩) 32 0 xz (by omega) (by omega)
theorem LX.set {ws : List (List Int)} {hs : List Int} {xc xz : Int} {lx bx ex hd : Nat → Int} (h : LX ws hs xc xz lx bx ex hd) {k : Nat} (hk : (k : Int) < xz) (v : Int) : LX ws (hs.set k v) xc xz lx bx ex (va_up hd k v) := by
  obtain ⟨h1, h2, h3, h4⟩ := h
  refine ⟨h1, by rw [List.length_set, h2], fun j hj => ?_, h4⟩
  rw [List.length_set] at hj
  rw [List.getElem_set]
  unfold va_up
  by_cases q : k = j
  · rw [if_pos q, if_pos q.symm]
  · rw [if_neg q, if_neg (fun h => q h.symm)]; exact h3 j hj
theorem LX.hd {ws : List (List Int)} {hs : List Int} {xc xz : Int} {lx bx ex hd : Nat → Int} (h : LX ws hs xc xz lx bx ex hd) {k : Nat} (hk : (k : Int) < xz) : hs.getD k 0 = hd k := by
  obtain ⟨h1, h2, h3, -⟩ := h
  have hj : k < hs.length := by have := h1.1; omega
  rw [List.getD_eq_getElem?_getD, List.getElem?_eq_getElem hj, h3 k hj]; rfl
theorem or1024 {a b : Int} (ha : 0 ≤ a ∧ a < 1024) (hb : 0 ≤ b ∧ b < 1024) : 0 ≤ orI a b ∧ orI a b < 1024 := by
  obtain ⟨n, rfl⟩ := Int.eq_ofNat_of_zero_le ha.1
  obtain ⟨m, rfl⟩ := Int.eq_ofNat_of_zero_le hb.1
  have h1 : n < 2 ^ 10 := by omega
  have h2 : m < 2 ^ 10 := by omega
  have h3 := Nat.or_lt_two_pow h1 h2
  have e : orI (n : Int) (m : Int) = ((n ||| m : Nat) : Int) := by
    unfold orI
    show ((iI n).toBitVec ||| (iI m).toBitVec).toInt = _
    have e1 : (iI (n : Int)).toBitVec = BitVec.ofNat 32 n := rfl
    have e2 : (iI (m : Int)).toBitVec = BitVec.ofNat 32 m := rfl
    rw [e1, e2, BitVec.toInt_eq_toNat_of_lt]
    · rw [BitVec.toNat_or, BitVec.toNat_ofNat, BitVec.toNat_ofNat, Nat.mod_eq_of_lt (by omega), Nat.mod_eq_of_lt (by omega)]
    · rw [BitVec.toNat_or, BitVec.toNat_ofNat, BitVec.toNat_ofNat, Nat.mod_eq_of_lt (by omega), Nat.mod_eq_of_lt (by omega)]; omega
  rw [e]; omega
theorem rmN_ge {xn : Nat} {xc ln : Int} : xn ≤ rmN xn xc ln := by unfold rmN; split <;> omega
theorem cpK_ge {xk : Nat} {xz : Int} : xk ≤ cpK xk xz := by unfold cpK; split <;> omega
theorem lxA_mo (m : Int) (u : LxS) (w : List Int) : u.xk ≤ (lxA m u w).xk ∧ u.xn ≤ (lxA m u w).xn := by
  show u.xk ≤ (lxI u w).xk ∧ u.xn ≤ (lxI u w).xn
  unfold lxI; split
  · exact ⟨Nat.le_refl _, Nat.le_refl _⟩
  · exact ⟨cpK_ge, rmN_ge⟩
theorem lxW_mo (m : Int) : ∀ (wl : List (List Int)) (u : LxS), u.xk ≤ (lxW m u wl).xk ∧ u.xn ≤ (lxW m u wl).xn := by
  intro wl
  induction wl with
  | nil => intro u; exact ⟨Nat.le_refl _, Nat.le_refl _⟩
  | cons w wl ih =>
    intro u
    have h1 := lxA_mo m u w
    have h2 := ih (lxA m u w)
    exact ⟨Nat.le_trans h1.1 h2.1, Nat.le_trans h1.2 h2.2⟩
theorem LR.set {xn xk : Nat} {xc xz : Int} {lx bx ex hd : Nat → Int} (h : LR xn xk xc xz lx bx ex hd) {k : Nat} {v : Int} (hv : 0 ≤ v ∧ v < 1024) : LR xn xk xc xz lx bx ex (va_up hd k v) := by
  obtain ⟨h1, h2, h3, h4, h5, h6, h7, h8⟩ := h
  refine ⟨h1, h2, h3, h4, h5, h6, h7, fun j => ?_⟩
  unfold va_up; split
  · exact hv
  · exact h8 j

theorem d_L_addWords_0 : decode b_L_addWords 0 = .ok (.iconst 0, 1) := by decide +kernel
theorem d_L_addWords_1 : decode b_L_addWords 1 = .ok (.istore_n 3, 1) := by decide +kernel
theorem d_L_addWords_2 : decode b_L_addWords 2 = .ok (.iload_n 3, 1) := by decide +kernel
theorem d_L_addWords_3 : decode b_L_addWords 3 = .ok (.aload_n 1, 1) := by decide +kernel
theorem d_L_addWords_4 : decode b_L_addWords 4 = .ok (.getfield 55, 3) := by decide +kernel
theorem d_L_addWords_7 : decode b_L_addWords 7 = .ok (.if_icmp .ge 82, 3) := by decide +kernel
theorem d_L_addWords_10 : decode b_L_addWords 10 = .ok (.aload_n 0, 1) := by decide +kernel
theorem d_L_addWords_11 : decode b_L_addWords 11 = .ok (.aload_n 1, 1) := by decide +kernel
theorem d_L_addWords_12 : decode b_L_addWords 12 = .ok (.iload_n 3, 1) := by decide +kernel
theorem d_L_addWords_13 : decode b_L_addWords 13 = .ok (.invokevirtual 56, 3) := by decide +kernel
theorem d_L_addWords_16 : decode b_L_addWords 16 = .ok (.istore 4, 2) := by decide +kernel
theorem d_L_addWords_18 : decode b_L_addWords 18 = .ok (.aload_n 0, 1) := by decide +kernel
theorem d_L_addWords_19 : decode b_L_addWords 19 = .ok (.iload 4, 2) := by decide +kernel
theorem d_L_addWords_21 : decode b_L_addWords 21 = .ok (.aload_n 1, 1) := by decide +kernel
theorem d_L_addWords_22 : decode b_L_addWords 22 = .ok (.iload_n 3, 1) := by decide +kernel
theorem d_L_addWords_23 : decode b_L_addWords 23 = .ok (.invokevirtual 60, 3) := by decide +kernel
theorem d_L_addWords_26 : decode b_L_addWords 26 = .ok (.ifCond .eq 32, 3) := by decide +kernel
theorem d_L_addWords_29 : decode b_L_addWords 29 = .ok (.aload_n 0, 1) := by decide +kernel
theorem d_L_addWords_30 : decode b_L_addWords 30 = .ok (.iload 4, 2) := by decide +kernel
theorem d_L_addWords_32 : decode b_L_addWords 32 = .ok (.aload_n 1, 1) := by decide +kernel
theorem d_L_addWords_33 : decode b_L_addWords 33 = .ok (.getfield 64, 3) := by decide +kernel
theorem d_L_addWords_36 : decode b_L_addWords 36 = .ok (.aload_n 1, 1) := by decide +kernel
theorem d_L_addWords_37 : decode b_L_addWords 37 = .ok (.getfield 65, 3) := by decide +kernel
theorem d_L_addWords_40 : decode b_L_addWords 40 = .ok (.iload_n 3, 1) := by decide +kernel
theorem d_L_addWords_41 : decode b_L_addWords 41 = .ok (.iaload, 1) := by decide +kernel
theorem d_L_addWords_42 : decode b_L_addWords 42 = .ok (.aload_n 1, 1) := by decide +kernel
theorem d_L_addWords_43 : decode b_L_addWords 43 = .ok (.getfield 66, 3) := by decide +kernel
theorem d_L_addWords_46 : decode b_L_addWords 46 = .ok (.iload_n 3, 1) := by decide +kernel
theorem d_L_addWords_47 : decode b_L_addWords 47 = .ok (.iaload, 1) := by decide +kernel
theorem d_L_addWords_48 : decode b_L_addWords 48 = .ok (.aload_n 1, 1) := by decide +kernel
theorem d_L_addWords_49 : decode b_L_addWords 49 = .ok (.getfield 65, 3) := by decide +kernel
theorem d_L_addWords_52 : decode b_L_addWords 52 = .ok (.iload_n 3, 1) := by decide +kernel
theorem d_L_addWords_53 : decode b_L_addWords 53 = .ok (.iaload, 1) := by decide +kernel
theorem d_L_addWords_54 : decode b_L_addWords 54 = .ok (.isub, 1) := by decide +kernel
theorem d_L_addWords_55 : decode b_L_addWords 55 = .ok (.invokevirtual 67, 3) := by decide +kernel
theorem d_L_addWords_58 : decode b_L_addWords 58 = .ok (.iload 4, 2) := by decide +kernel
theorem d_L_addWords_60 : decode b_L_addWords 60 = .ok (.ifCond .lt 23, 3) := by decide +kernel
theorem d_L_addWords_63 : decode b_L_addWords 63 = .ok (.iload 4, 2) := by decide +kernel
theorem d_L_addWords_65 : decode b_L_addWords 65 = .ok (.aload_n 0, 1) := by decide +kernel
theorem d_L_addWords_66 : decode b_L_addWords 66 = .ok (.getfield 25, 3) := by decide +kernel
theorem d_L_addWords_69 : decode b_L_addWords 69 = .ok (.if_icmp .ge 14, 3) := by decide +kernel
theorem d_L_addWords_72 : decode b_L_addWords 72 = .ok (.aload_n 0, 1) := by decide +kernel
theorem d_L_addWords_73 : decode b_L_addWords 73 = .ok (.getfield 22, 3) := by decide +kernel
theorem d_L_addWords_76 : decode b_L_addWords 76 = .ok (.iload 4, 2) := by decide +kernel
theorem d_L_addWords_78 : decode b_L_addWords 78 = .ok (.dup2, 1) := by decide +kernel
theorem d_L_addWords_79 : decode b_L_addWords 79 = .ok (.iaload, 1) := by decide +kernel
theorem d_L_addWords_80 : decode b_L_addWords 80 = .ok (.iload_n 2, 1) := by decide +kernel
theorem d_L_addWords_81 : decode b_L_addWords 81 = .ok (.ior, 1) := by decide +kernel
theorem d_L_addWords_82 : decode b_L_addWords 82 = .ok (.iastore, 1) := by decide +kernel
theorem d_L_addWords_83 : decode b_L_addWords 83 = .ok (.iinc 3 1, 3) := by decide +kernel
theorem d_L_addWords_86 : decode b_L_addWords 86 = .ok (.goto (-84), 3) := by decide +kernel
theorem d_L_addWords_89 : decode b_L_addWords 89 = .ok (.return_, 1) := by decide +kernel
set_option maxHeartbeats 4000000 in
set_option maxRecDepth 100000 in
theorem c_L_addWords (l : Launch) (dC : Nat → ClassId) (dI : Nat → Nat → Nat) (kA : Nat → ClassId) (sz : Nat) (xo : Nat) (xl : Nat) (xb : Nat) (xe : Nat) (xh : Nat) (xn : Nat) (xk : Nat) (xc : Int) (xz : Int) (xs : Bool) (lx : Nat → Int) (bx : Nat → Int) (ex : Nat → Int) (hd : Nat → Int) (wo : Nat) (wl : Nat) (wb : Nat) (we : Nat) (wn : Nat) (wk : Nat) (wz : Int) (lt : Nat → Int) (sb : Nat → Int) (se : Nat → Int) (mk9 : Int) (ws : List (List Int)) (hs : List Int) (ws2 : List (List Int)) (hL : LR xn xk xc xz lx bx ex hd) (hLX0 : LX ws hs xc xz lx bx ex hd) (hW : WR wn wk wz lt sb se) (hWL : WL ws2 wz lt sb se) (hcap : 32 ≤ xk ∧ xk ≤ 4000 ∧ 256 ≤ xn ∧ xn ≤ 9500) (hbz : xz + wz ≤ 2000) (hbc : xc + smL ws2 ≤ 4000) (hm : 0 ≤ mk9 ∧ mk9 < 1024) : Met l y_L_addWords (wsy y_L_addWords b_L_addWords 5 none) (rmd 3 (((lxW mk9 (LxS.mk ws hs xn xk xc) ws2).xk - xk) + ((lxW mk9 (LxS.mk ws hs xn xk xc) ws2).xn - xn)) (6 * ((lxW mk9 (LxS.mk ws hs xn xk xc) ws2).xk - xk) + 2 * ((lxW mk9 (LxS.mk ws hs xn xk xc) ws2).xn - xn))) (li_Pr (dC, dI) CL (TY kA) [.ref xo, .ref wo, .int (iI mk9)] (fun h => h.size = sz ∧ va_P (dC, dI) CL [(xo, .inr (5, [.ref xl, .int (iI xc), .ref xb, .ref xe, .ref xh, .int (iI xz), .int (iI (bI xs))])), (xl, .inl (kA 1, xn, .inl (aI lx))), (xb, .inl (kA 0, xk, .inl (aI bx))), (xe, .inl (kA 0, xk, .inl (aI ex))), (xh, .inl (kA 0, xk, .inl (aI hd))), (wo, .inr (9, [.ref wl, .ref wb, .ref we, .int (iI wz)])), (wl, .inl (kA 1, wn, .inl (aI lt))), (wb, .inl (kA 0, wk, .inl (aI sb))), (we, .inl (kA 0, wk, .inl (aI se)))] h ∧ va_D (fun q => dI 100 0 ≤ q) [(xo, .inr (5, [.ref xl, .int (iI xc), .ref xb, .ref xe, .ref xh, .int (iI xz), .int (iI (bI xs))])), (xl, .inl (kA 1, xn, .inl (aI lx))), (xb, .inl (kA 0, xk, .inl (aI bx))), (xe, .inl (kA 0, xk, .inl (aI ex))), (xh, .inl (kA 0, xk, .inl (aI hd))), (wo, .inr (9, [.ref wl, .ref wb, .ref we, .int (iI wz)])), (wl, .inl (kA 1, wn, .inl (aI lt))), (wb, .inl (kA 0, wk, .inl (aI sb))), (we, .inl (kA 0, wk, .inl (aI se)))] ∧ (fun _ => True) h)) (li_Qw (S := (Nat) × (Nat) × (Nat) × (Nat) × (Nat) × (Nat) × (Nat → Int) × (Nat → Int) × (Nat → Int) × (Nat → Int) × (Int) × (Int)) (dC, dI) CL (fun u => LR u.2.2.2.2.1 u.2.2.2.2.2.1 u.2.2.2.2.2.2.2.2.2.2.1 u.2.2.2.2.2.2.2.2.2.2.2 u.2.2.2.2.2.2.1 u.2.2.2.2.2.2.2.1 u.2.2.2.2.2.2.2.2.1 u.2.2.2.2.2.2.2.2.2.1 ∧ LX (lxW mk9 (LxS.mk ws hs xn xk xc) ws2).ws (lxW mk9 (LxS.mk ws hs xn xk xc) ws2).hs u.2.2.2.2.2.2.2.2.2.2.1 u.2.2.2.2.2.2.2.2.2.2.2 u.2.2.2.2.2.2.1 u.2.2.2.2.2.2.2.1 u.2.2.2.2.2.2.2.2.1 u.2.2.2.2.2.2.2.2.2.1 ∧ (lxW mk9 (LxS.mk ws hs xn xk xc) ws2).xn = u.2.2.2.2.1 ∧ (lxW mk9 (LxS.mk ws hs xn xk xc) ws2).xk = u.2.2.2.2.2.1 ∧ (lxW mk9 (LxS.mk ws hs xn xk xc) ws2).xc = u.2.2.2.2.2.2.2.2.2.2.1 ∧ u.2.2.2.2.2.2.2.2.2.2.2 ≤ xz + wz ∧ u.2.2.2.2.2.2.2.2.2.2.1 ≤ xc + smL ws2 ∧ xk ≤ u.2.2.2.2.2.1 ∧ u.2.2.2.2.2.1 ≤ 4000 ∧ xn ≤ u.2.2.2.2.1 ∧ u.2.2.2.2.1 ≤ 9500) (fun _ => none) (fun u => [(xo, .inr (5, [.ref u.1, .int (iI u.2.2.2.2.2.2.2.2.2.2.1), .ref u.2.1, .ref u.2.2.1, .ref u.2.2.2.1, .int (iI u.2.2.2.2.2.2.2.2.2.2.2), .int (iI (bI xs))])), (u.1, .inl (kA 1, u.2.2.2.2.1, .inl (aI u.2.2.2.2.2.2.1))), (u.2.1, .inl (kA 0, u.2.2.2.2.2.1, .inl (aI u.2.2.2.2.2.2.2.1))), (u.2.2.1, .inl (kA 0, u.2.2.2.2.2.1, .inl (aI u.2.2.2.2.2.2.2.2.1))), (u.2.2.2.1, .inl (kA 0, u.2.2.2.2.2.1, .inl (aI u.2.2.2.2.2.2.2.2.2.1))), (wo, .inr (9, [.ref wl, .ref wb, .ref we, .int (iI wz)])), (wl, .inl (kA 1, wn, .inl (aI lt))), (wb, .inl (kA 0, wk, .inl (aI sb))), (we, .inl (kA 0, wk, .inl (aI se)))]) (va_A [(xo, .inr (5, [.ref xl, .int (iI xc), .ref xb, .ref xe, .ref xh, .int (iI xz), .int (iI (bI xs))])), (xl, .inl (kA 1, xn, .inl (aI lx))), (xb, .inl (kA 0, xk, .inl (aI bx))), (xe, .inl (kA 0, xk, .inl (aI ex))), (xh, .inl (kA 0, xk, .inl (aI hd))), (wo, .inr (9, [.ref wl, .ref wb, .ref we, .int (iI wz)])), (wl, .inl (kA 1, wn, .inl (aI lt))), (wb, .inl (kA 0, wk, .inl (aI sb))), (we, .inl (kA 0, wk, .inl (aI se)))] sz)) (((lxW mk9 (LxS.mk ws hs xn xk xc) ws2).xk - xk) + ((lxW mk9 (LxS.mk ws hs xn xk xc) ws2).xn - xn)) (6 * ((lxW mk9 (LxS.mk ws hs xn xk xc) ws2).xk - xk) + 2 * ((lxW mk9 (LxS.mk ws hs xn xk xc) ws2).xn - xn)) (va_A [(xo, .inr (5, [.ref xl, .int (iI xc), .ref xb, .ref xe, .ref xh, .int (iI xz), .int (iI (bI xs))])), (xl, .inl (kA 1, xn, .inl (aI lx))), (xb, .inl (kA 0, xk, .inl (aI bx))), (xe, .inl (kA 0, xk, .inl (aI ex))), (xh, .inl (kA 0, xk, .inl (aI hd))), (wo, .inr (9, [.ref wl, .ref wb, .ref we, .int (iI wz)])), (wl, .inl (kA 1, wn, .inl (aI lt))), (wb, .inl (kA 0, wk, .inl (aI sb))), (we, .inl (kA 0, wk, .inl (aI se)))] sz) := by
  refine li_mwv (by decide) (Nat.le_of_ble_eq_true rfl) ?_
  intro p e s m args below meth c Q A C hP hD hBx hK hN hG hA hAi hAN fin ls hl
  obtain ⟨hx, hb, hr, hml, hown, hts, hlocks, hin⟩ := C
  have hown : s.vm.findClass R_L = some m.cls := hown
  have hl : lv_has ls 5 [(0, .ref xo), (1, .ref wo), (2, .int (iI mk9))] := hl
  obtain ⟨hwn, hwk, hwz, hlt, hsb, hse⟩ := id hW
  have hlw := hWL.len
  have hxz0 := hL.2.2.1
  have hxc0 := hL.2.2.2.1
  suffices h9 : ∀ (H : Heap) (locs : List Loc), H = s.heap → locs = [] → W p l e (rmd 3 (((lxW mk9 (LxS.mk ws hs xn xk xc) ws2).xk - xk) + ((lxW mk9 (LxS.mk ws hs xn xk xc) ws2).xn - xn)) (6 * ((lxW mk9 (LxS.mk ws hs xn xk xc) ws2).xk - xk) + 2 * ((lxW mk9 (LxS.mk ws hs xn xk xc) ws2).xn - xn))) s m args below meth c H locs 0 0 Q (F0 m 0 ls []) from h9 _ _ rfl rfl
  intro H locs eH eL
  have hP : va_P (dC, dI) CL [(xo, .inr (5, [.ref xl, .int (iI xc), .ref xb, .ref xe, .ref xh, .int (iI xz), .int (iI (bI xs))])), (xl, .inl (kA 1, xn, .inl (aI lx))), (xb, .inl (kA 0, xk, .inl (aI bx))), (xe, .inl (kA 0, xk, .inl (aI ex))), (xh, .inl (kA 0, xk, .inl (aI hd))), (wo, .inr (9, [.ref wl, .ref wb, .ref we, .int (iI wz)])), (wl, .inl (kA 1, wn, .inl (aI lt))), (wb, .inl (kA 0, wk, .inl (aI sb))), (we, .inl (kA 0, wk, .inl (aI se)))] H := by rw [eH]; exact hP
  have hS : va_S A s.heap H locs := by rw [eH, eL]; exact va_S.rf
  refine lv_iconst (v := iI 0) hx hb d_L_addWords_0 rfl ?_
  refine lv_istore_n (lv' := [(3, .int (iI 0)), (0, .ref xo), (1, .ref wo), (2, .int (iI mk9))]) hx hb d_L_addWords_1 rfl hl (by decide) rfl (fun ls hl => ?_)
  have K_2 : ∀ (nn_2 : Nat) (i : Int) (us : LxS) (p1 : Nat) (p2 : Nat) (p3 : Nat) (p4 : Nat) (m1 : Nat) (m2 : Nat) (h1 : Nat → Int) (h2 : Nat → Int) (h3 : Nat → Int) (h4 : Nat → Int) (zc : Int) (zz : Int), (0 ≤ i ∧ i ≤ wz) → (LR m1 m2 zc zz h1 h2 h3 h4) → (LX us.ws us.hs zc zz h1 h2 h3 h4) → (us.xn = m1 ∧ us.xk = m2 ∧ us.xc = zc) → (xk ≤ m2 ∧ m2 ≤ 4000 ∧ xn ≤ m1 ∧ m1 ≤ 9500 ∧ zz ≤ xz + i ∧ 0 ≤ zc) → (zc + smL (ws2.drop i.toNat) ≤ xc + smL ws2) → (lxW mk9 us (ws2.drop i.toNat) = (lxW mk9 (LxS.mk ws hs xn xk xc) ws2)) → ((wz - (i : Int)).toNat < nn_2) → ∀ (H : Heap) (locs : List Loc), va_P (dC, dI) CL [(xo, .inr (5, [.ref p1, .int (iI zc), .ref p2, .ref p3, .ref p4, .int (iI zz), .int (iI (bI xs))])), (p1, .inl (kA 1, m1, .inl (aI h1))), (p2, .inl (kA 0, m2, .inl (aI h2))), (p3, .inl (kA 0, m2, .inl (aI h3))), (p4, .inl (kA 0, m2, .inl (aI h4))), (wo, .inr (9, [.ref wl, .ref wb, .ref we, .int (iI wz)])), (wl, .inl (kA 1, wn, .inl (aI lt))), (wb, .inl (kA 0, wk, .inl (aI sb))), (we, .inl (kA 0, wk, .inl (aI se)))] H → va_D A [(xo, .inr (5, [.ref p1, .int (iI zc), .ref p2, .ref p3, .ref p4, .int (iI zz), .int (iI (bI xs))])), (p1, .inl (kA 1, m1, .inl (aI h1))), (p2, .inl (kA 0, m2, .inl (aI h2))), (p3, .inl (kA 0, m2, .inl (aI h3))), (p4, .inl (kA 0, m2, .inl (aI h4))), (wo, .inr (9, [.ref wl, .ref wb, .ref we, .int (iI wz)])), (wl, .inl (kA 1, wn, .inl (aI lt))), (wb, .inl (kA 0, wk, .inl (aI sb))), (we, .inl (kA 0, wk, .inl (aI se)))] → va_S A s.heap H locs → ∀ ls : Array Slot, lv_has ls 5 [(3, .int (iI i)), (0, .ref xo), (1, .ref wo), (2, .int (iI mk9))] → W p l e (rmd 3 (((lxW mk9 (LxS.mk ws hs xn xk xc) ws2).xk - xk) + ((lxW mk9 (LxS.mk ws hs xn xk xc) ws2).xn - xn)) (6 * ((lxW mk9 (LxS.mk ws hs xn xk xc) ws2).xk - xk) + 2 * ((lxW mk9 (LxS.mk ws hs xn xk xc) ws2).xn - xn))) s m args below meth c H locs ((m2 - xk) + (m1 - xn)) (6 * (m2 - xk) + 2 * (m1 - xn)) Q (F0 m 2 ls []) := by
    intro nn_2
    induction nn_2 with
    | zero => intro i us p1 p2 p3 p4 m1 m2 h1 h2 h3 h4 zc zz hi9 hLR hLX hcp hbd hsm hres hm; exact absurd hm (Nat.not_lt_zero _)
    | succ nn_2 ih_2 =>
      intro i us p1 p2 p3 p4 m1 m2 h1 h2 h3 h4 zc zz hi9 hLR hLX hcp hbd hsm hres hm_2 H locs hP hD hS ls hl
      have hmz := lxW_mo mk9 (ws2.drop i.toNat) us
      rw [hres, hcp.1, hcp.2.1] at hmz
      refine lv_iload_n hx hb d_L_addWords_2 rfl (lv_at hl 0 rfl) ?_
      refine lv_aload_n hx hb d_L_addWords_3 rfl (lv_at hl 2 rfl) ?_
      refine gf_L_55 hx hb hts hN hown hK hP 5 rfl rfl d_L_addWords_4 ?_
      refine li_icmp_ge (tgt := 89) hx hb d_L_addWords_7 (by decide) (by omega) (by omega) (fun c1 => ?_) (fun c1 => ?_)
      · have _q := c1
        rw [hWL.dropE (i := i) (by omega)] at hres hsm
        simp only [smL] at hsm
        have hfin : us = (lxW mk9 (LxS.mk ws hs xn xk xc) ws2) := hres
        have hfe : (lxW mk9 (LxS.mk ws hs xn xk xc) ws2).xk = m2 ∧ (lxW mk9 (LxS.mk ws hs xn xk xc) ws2).xn = m1 := by (rw [← hfin]; exact ⟨hcp.2.1, hcp.1⟩)
        refine W.widen (k := (((lxW mk9 (LxS.mk ws hs xn xk xc) ws2).xk - xk) + ((lxW mk9 (LxS.mk ws hs xn xk xc) ws2).xn - xn))) (n := (6 * ((lxW mk9 (LxS.mk ws hs xn xk xc) ws2).xk - xk) + 2 * ((lxW mk9 (LxS.mk ws hs xn xk xc) ws2).xn - xn))) (by omega) (by omega) ?_
        exact fin (p1, p2, p3, p4, m1, m2, h1, h2, h3, h4, zc, zz) _ _ _ _ (by show LR m1 m2 zc zz h1 h2 h3 h4 ∧ LX (lxW mk9 (LxS.mk ws hs xn xk xc) ws2).ws (lxW mk9 (LxS.mk ws hs xn xk xc) ws2).hs zc zz h1 h2 h3 h4 ∧ (lxW mk9 (LxS.mk ws hs xn xk xc) ws2).xn = m1 ∧ (lxW mk9 (LxS.mk ws hs xn xk xc) ws2).xk = m2 ∧ (lxW mk9 (LxS.mk ws hs xn xk xc) ws2).xc = zc ∧ zz ≤ xz + wz ∧ zc ≤ xc + smL ws2 ∧ xk ≤ m2 ∧ m2 ≤ 4000 ∧ xn ≤ m1 ∧ m1 ≤ 9500; rw [← hfin]; exact ⟨hLR, hLX, hcp.1, hcp.2.1, hcp.2.2, by omega, by omega, by omega, by omega, by omega, by omega⟩) (by first | exact hP | (subst_vars; exact hP)) (by first | exact hD | (subst_vars; exact hD)) hS d_L_addWords_89
      · have _q := c1
        have hgw := hWL.get (i := i) (by omega) (by omega)
        have hwi9 := hse i.toNat
        have hdr := hWL.drop (i := i) (by omega) (by omega)
        rw [hdr] at hres hsm
        simp only [smL] at hsm
        have hlwi : (((ws2.getD i.toNat []).length : Nat) : Int) = (se i.toNat - sb i.toNat) := by (rw [← hgw.1, wdL_len]; omega)
        have hres9 : lxW mk9 (lxA mk9 us (ws2.getD i.toNat [])) (ws2.drop (i + 1).toNat) = (lxW mk9 (LxS.mk ws hs xn xk xc) ws2) := hres
        have hlen := hLX.1.len
        have hsn := smL_nn (ws2.drop (i + 1).toNat)
        have hzz := hLR.2.2.1
        have hzc := hLR.2.2.2.1
        refine lv_aload_n hx hb d_L_addWords_10 rfl (lv_at hl 1 rfl) ?_
        refine lv_aload_n hx hb d_L_addWords_11 rfl (lv_at hl 2 rfl) ?_
        refine lv_iload_n hx hb d_L_addWords_12 rfl (lv_at hl 0 rfl) ?_
        refine li_callr ((va_runV (As := [.ref wo, .int (iI i)]) (rest := []) ⟨hx, hb, hml, hown, hts⟩ (c_L_countBefore l dC dI kA xo p1 p2 p3 p4 m1 m2 zc zz xs h1 h2 h3 h4 wo wl wb we wn wk wz lt sb se i (by exact hLR) (by exact hW) (by omega)) (cw_L_56 hts rfl rfl ⟨Nat.le_of_ble_eq_true rfl, Nat.le_of_ble_eq_true rfl⟩) (li_preV (va_recv hK hP (ci := 5) (q0 := 0) rfl rfl) (hP.sub [0, 1, 2, 3, 4, 5, 6, 7, 8] rfl) hK hN (hG.go hS hAN)) rfl rfl hl.1 rfl (lv_room (Nat.le_of_ble_eq_true rfl)) d_L_addWords_13 ⟨(by show (m2 - xk) + (m1 - xn) + 0 ≤ (((lxW mk9 (LxS.mk ws hs xn xk xc) ws2).xk - xk) + ((lxW mk9 (LxS.mk ws hs xn xk xc) ws2).xn - xn)); omega), (by show 6 * (m2 - xk) + 2 * (m1 - xn) + 0 ≤ (6 * ((lxW mk9 (LxS.mk ws hs xn xk xc) ws2).xk - xk) + 2 * ((lxW mk9 (LxS.mk ws hs xn xk xc) ws2).xn - xn)); omega)⟩).run) ?_
        refine li_nm (fun kp ekp => ?_)
        refine lv_istore (lv' := [(4, .int (iI kp)), (3, .int (iI i)), (0, .ref xo), (1, .ref wo), (2, .int (iI mk9))]) hx hb d_L_addWords_16 hl (by decide) rfl (fun ls hl => ?_)
        have hkp : kp = plW us.ws (ws2.getD i.toNat []) := by (rw [ekp]; exact plW_e hLR hLX hW hWL ⟨by omega, by omega⟩)
        have hkr := plW_r (ws := us.ws) (w := (ws2.getD i.toNat []))
        rw [← hkp] at hkr
        refine lv_aload_n hx hb d_L_addWords_18 rfl (lv_at hl 2 rfl) ?_
        refine lv_iload hx hb d_L_addWords_19 (lv_at hl 0 rfl) ?_
        refine lv_aload_n hx hb d_L_addWords_21 rfl (lv_at hl 3 rfl) ?_
        refine lv_iload_n hx hb d_L_addWords_22 rfl (lv_at hl 1 rfl) ?_
        refine li_callr ((va_runV (As := [.int (iI kp), .ref wo, .int (iI i)]) (rest := []) ⟨hx, hb, hml, hown, hts⟩ (c_L_compareWord l dC dI kA xo p1 p2 p3 p4 m1 m2 zc zz xs h1 h2 h3 h4 kp wo wl wb we wn wk wz lt sb se i (by exact hLR) (by exact hW) (by omega) (by omega)) (cw_L_60 hts rfl rfl ⟨Nat.le_of_ble_eq_true rfl, Nat.le_of_ble_eq_true rfl⟩) (li_preV (va_recv hK hP (ci := 5) (q0 := 0) rfl rfl) (hP.sub [0, 1, 2, 3, 4, 5, 6, 7, 8] rfl) hK hN (hG.go hS hAN)) rfl rfl hl.1 rfl (lv_room (Nat.le_of_ble_eq_true rfl)) d_L_addWords_23 ⟨(by show (m2 - xk) + (m1 - xn) + 0 ≤ (((lxW mk9 (LxS.mk ws hs xn xk xc) ws2).xk - xk) + ((lxW mk9 (LxS.mk ws hs xn xk xc) ws2).xn - xn)); omega), (by show 6 * (m2 - xk) + 2 * (m1 - xn) + 0 ≤ (6 * ((lxW mk9 (LxS.mk ws hs xn xk xc) ws2).xk - xk) + 2 * ((lxW mk9 (LxS.mk ws hs xn xk xc) ws2).xn - xn)); omega)⟩).run) ?_
        refine li_if_eq (tgt := 58) hx hb d_L_addWords_26 (by decide) (by exact lwG_r hLR hW) (fun c2 => ?_) (fun c2 => ?_)
        · have _q := c2
          obtain ⟨hkl, hlf⟩ := lwG_z (show lwG zz m1 h1 h2 h3 wn lt sb se i kp = 0 by assumption)
          have hcw := lwF_W (i := i) (k := kp) hLR hLX hW hWL ⟨by omega, by omega⟩ ⟨by omega, by omega⟩
          have hI : lxI us (ws2.getD i.toNat []) = us := by (unfold lxI; rw [if_pos (by unfold lxH; rw [← hkp]; exact decide_eq_true ⟨by omega, by (rw [← hcw]; exact hlf)⟩)])
          refine lv_iload hx hb d_L_addWords_58 (lv_at hl 0 rfl) ?_
          refine li_if_lt (tgt := 83) hx hb d_L_addWords_60 (by decide) (by omega) (fun c3 => ?_) (fun c3 => ?_)
          · have _q := c3
            exact absurd c3 (by omega)
          · have _q := c3
            refine lv_iload hx hb d_L_addWords_63 (lv_at hl 0 rfl) ?_
            refine lv_aload_n hx hb d_L_addWords_65 rfl (lv_at hl 2 rfl) ?_
            refine gf_L_25 hx hb hts hown hK hP 0 rfl rfl d_L_addWords_66 ?_
            refine li_icmp_ge (tgt := 83) hx hb d_L_addWords_69 (by decide) (by omega) (by omega) (fun c4 => ?_) (fun c4 => ?_)
            · have _q := c4
              exact absurd c4 (by omega)
            · have _q := c4
              refine lv_aload_n hx hb d_L_addWords_72 rfl (lv_at hl 2 rfl) ?_
              refine gf_L_22 hx hb hts hown hK hP 0 rfl rfl d_L_addWords_73 ?_
              refine lv_iload hx hb d_L_addWords_76 (lv_at hl 0 rfl) ?_
              refine lv_dup2_11 hx hb d_L_addWords_78 rfl rfl ?_
              refine li_iald hx hb hK hP 4 0 rfl rfl (by omega) (by omega) (by omega) d_L_addWords_79 ?_
              refine lv_iload_n hx hb d_L_addWords_80 rfl (lv_at hl 4 rfl) ?_
              refine li_iorI hx hb d_L_addWords_81 ?_
              refine li_iast hx hb hK hP hD hS 4 0 rfl rfl (by omega) (by omega) (by omega) d_L_addWords_82 (fun H locs hP hD hS => ?_)
              have hP : va_P (dC, dI) CL [(xo, .inr (5, [.ref p1, .int (iI zc), .ref p2, .ref p3, .ref p4, .int (iI zz), .int (iI (bI xs))])), (p1, .inl (kA 1, m1, .inl (aI h1))), (p2, .inl (kA 0, m2, .inl (aI h2))), (p3, .inl (kA 0, m2, .inl (aI h3))), (p4, .inl (kA 0, m2, .inl (aI (va_up h4 kp.toNat (orI (h4 kp.toNat) mk9))))), (wo, .inr (9, [.ref wl, .ref wb, .ref we, .int (iI wz)])), (wl, .inl (kA 1, wn, .inl (aI lt))), (wb, .inl (kA 0, wk, .inl (aI sb))), (we, .inl (kA 0, wk, .inl (aI se)))] H := hP
              have hD : va_D A [(xo, .inr (5, [.ref p1, .int (iI zc), .ref p2, .ref p3, .ref p4, .int (iI zz), .int (iI (bI xs))])), (p1, .inl (kA 1, m1, .inl (aI h1))), (p2, .inl (kA 0, m2, .inl (aI h2))), (p3, .inl (kA 0, m2, .inl (aI h3))), (p4, .inl (kA 0, m2, .inl (aI (va_up h4 kp.toNat (orI (h4 kp.toNat) mk9))))), (wo, .inr (9, [.ref wl, .ref wb, .ref we, .int (iI wz)])), (wl, .inl (kA 1, wn, .inl (aI lt))), (wb, .inl (kA 0, wk, .inl (aI sb))), (we, .inl (kA 0, wk, .inl (aI se)))] := hD
              obtain ⟨i_n, ei_n⟩ : ∃ y_9 : Int, y_9 = i + 1 := ⟨_, rfl⟩
              refine lv_iinc (v := iI i_n) (lv' := [(3, .int (iI i_n)), (4, .int (iI kp)), (0, .ref xo), (1, .ref wo), (2, .int (iI mk9))]) hx hb d_L_addWords_83 hl (k := 1) rfl (by rw [ei_n]; exact iI_add _ _) (by decide) rfl (fun ls hl => ?_)
              refine lv_goto (tgt := 2) hx hb d_L_addWords_86 (by decide) ?_
              refine W.widen (k := (m2 - xk) + (m1 - xn)) (n := 6 * (m2 - xk) + 2 * (m1 - xn)) (by omega) (by omega) ?_
              exact ih_2 i_n (lxA mk9 us (ws2.getD i.toNat [])) p1 p2 p3 p4 m1 m2 h1 h2 h3 (va_up h4 kp.toNat (orI (h4 kp.toNat) mk9)) zc zz (by omega) (by first | exact hLR9.set (or1024 (hLR9.2.2.2.2.2.2.2 _) hm) | exact hLR.set (or1024 (hLR.2.2.2.2.2.2.2 _) hm)) (by show LX (lxI us (ws2.getD i.toNat [])).ws ((lxI us (ws2.getD i.toNat [])).hs.set (plW us.ws (ws2.getD i.toNat [])).toNat (orI ((lxI us (ws2.getD i.toNat [])).hs.getD (plW us.ws (ws2.getD i.toNat [])).toNat 0) mk9)) _ _ _ _ _ _; rw [hI, ← hkp]; first | (rw [hLX9.hd (k := kp.toNat) (by omega)]; exact hLX9.set (by omega) _) | (rw [hLX.hd (k := kp.toNat) (by omega)]; exact hLX.set (by omega) _)) (by show (lxI us (ws2.getD i.toNat [])).xn = _ ∧ (lxI us (ws2.getD i.toNat [])).xk = _ ∧ (lxI us (ws2.getD i.toNat [])).xc = _; rw [hI]; first | exact hcp | exact ⟨hn9.symm, hk9.symm, hc9.symm⟩) (by omega) (by rw [ei_n]; omega) (by rw [ei_n]; exact hres9) (by omega) _ _ hP hD hS _ (lv_sub hl [0, 2, 3, 4] rfl)
        · have _q := c2
          have hnz : ¬ lwG zz m1 h1 h2 h3 wn lt sb se i kp = 0 := by assumption
          have hI : lxI us (ws2.getD i.toNat []) = ⟨insA us.ws kp.toNat (ws2.getD i.toNat []), insA us.hs kp.toNat 0, rmN m1 zc (se i.toNat - sb i.toNat), cpK m2 zz, zc + (se i.toNat - sb i.toNat)⟩ := by (unfold lxI; rw [if_neg (by unfold lxH; rw [← hkp]; exact nbt (decide_eq_false (by intro h5; have hcw := lwF_W (i := i) (k := kp) hLR hLX hW hWL ⟨by omega, by omega⟩ ⟨by omega, by omega⟩; rw [← hcw] at h5; exact hnz ((lwG_p (by omega)).trans h5.2)))), ← hkp, hcp.1, hcp.2.1, hcp.2.2, hlwi, hlen])
          have hmx := lxW_mo mk9 (ws2.drop (i + 1).toNat) (lxA mk9 us (ws2.getD i.toNat []))
          rw [hres9] at hmx
          have hmy : (lxA mk9 us (ws2.getD i.toNat [])).xk = cpK m2 zz ∧ (lxA mk9 us (ws2.getD i.toNat [])).xn = rmN m1 zc (se i.toNat - sb i.toNat) := by (show (lxI us (ws2.getD i.toNat [])).xk = _ ∧ (lxI us (ws2.getD i.toNat [])).xn = _; rw [hI]; exact ⟨rfl, rfl⟩)
          rw [hmy.1, hmy.2] at hmx
          have hge1 := cpK_ge (xk := m2) (xz := zz)
          have hge2 := rmN_ge (xn := m1) (xc := zc) (ln := (se i.toNat - sb i.toNat))
          have hle1 : cpK m2 zz ≤ 2 * m2 := by (unfold cpK; split <;> omega)
          have hle3 : cpK m2 zz ≤ 4000 := by (unfold cpK; split <;> omega)
          have hle2 := rmN_r (xn := m1) (xc := zc) (ln := (se i.toNat - sb i.toNat)) (by omega)
          have hle4 : rmN m1 zc (se i.toNat - sb i.toNat) ≤ 9500 := by (unfold rmN; split <;> omega)
          refine lv_aload_n hx hb d_L_addWords_29 rfl (lv_at hl 2 rfl) ?_
          refine lv_iload hx hb d_L_addWords_30 (lv_at hl 0 rfl) ?_
          refine lv_aload_n hx hb d_L_addWords_32 rfl (lv_at hl 3 rfl) ?_
          refine gf_L_64 hx hb hts hN hown hK hP 5 rfl rfl d_L_addWords_33 ?_
          refine lv_aload_n hx hb d_L_addWords_36 rfl (lv_at hl 3 rfl) ?_
          refine gf_L_65 hx hb hts hN hown hK hP 5 rfl rfl d_L_addWords_37 ?_
          refine lv_iload_n hx hb d_L_addWords_40 rfl (lv_at hl 1 rfl) ?_
          refine li_iald hx hb hK hP 7 0 rfl rfl (by omega) (by omega) (by omega) d_L_addWords_41 ?_
          have f5 := hsb i.toNat
          refine lv_aload_n hx hb d_L_addWords_42 rfl (lv_at hl 3 rfl) ?_
          refine gf_L_66 hx hb hts hN hown hK hP 5 rfl rfl d_L_addWords_43 ?_
          refine lv_iload_n hx hb d_L_addWords_46 rfl (lv_at hl 1 rfl) ?_
          refine li_iald hx hb hK hP 8 0 rfl rfl (by omega) (by omega) (by omega) d_L_addWords_47 ?_
          have f6 := hse i.toNat
          refine lv_aload_n hx hb d_L_addWords_48 rfl (lv_at hl 3 rfl) ?_
          refine gf_L_65 hx hb hts hN hown hK hP 5 rfl rfl d_L_addWords_49 ?_
          refine lv_iload_n hx hb d_L_addWords_52 rfl (lv_at hl 1 rfl) ?_
          refine li_iald hx hb hK hP 7 0 rfl rfl (by omega) (by omega) (by omega) d_L_addWords_53 ?_
          have f7 := hsb i.toNat
          refine li_isub hx hb d_L_addWords_54 ?_
          refine li_callw (wc := [(xo, .inr (5, [.ref p1, .int (iI zc), .ref p2, .ref p3, .ref p4, .int (iI zz), .int (iI (bI xs))])), (p1, .inl (kA 1, m1, .inl (aI h1))), (p2, .inl (kA 0, m2, .inl (aI h2))), (p3, .inl (kA 0, m2, .inl (aI h3))), (p4, .inl (kA 0, m2, .inl (aI h4))), (wl, .inl (kA 1, wn, .inl (aI lt)))]) (wr := [(wo, .inr (9, [.ref wl, .ref wb, .ref we, .int (iI wz)])), (wb, .inl (kA 0, wk, .inl (aI sb))), (we, .inl (kA 0, wk, .inl (aI se)))]) (va_runV (As := [.int (iI kp), .ref wl, .int (iI (sb i.toNat)), .int (iI ((se i.toNat) - (sb i.toNat)))]) (rest := []) ⟨hx, hb, hml, hown, hts⟩ (c_L_insert l dC dI kA H.size xo p1 p2 p3 p4 m1 m2 zc zz xs h1 h2 h3 h4 kp wl wn lt (sb i.toNat) ((se i.toNat) - (sb i.toNat)) us.ws us.hs (6 * (cpK m2 zz - m2)) (2 * (rmN m1 zc (se i.toNat - sb i.toNat) - m1)) (cpK m2 zz - m2) (rmN m1 zc (se i.toNat - sb i.toNat) - m1) (by exact hLR) (by exact hLX) (by omega) (by omega) (by omega) (by exact hlt) (by intro h; unfold cpK; rw [if_pos h]; omega) (by intro h; unfold rmN; rw [if_pos h]; omega)) (cw_L_67 hts rfl rfl ⟨Nat.le_of_ble_eq_true rfl, Nat.le_of_ble_eq_true rfl⟩) (li_preV (va_recv hK hP (ci := 5) (q0 := 0) rfl rfl) ⟨rfl, hP.sub [0, 1, 2, 3, 4, 6] rfl, (hD.sub [0, 1, 2, 3, 4, 6] (by decide) rfl).weaken (fun _ _ _ h => hAN _ h), trivial⟩ hK hN (hG.go hS hAN)) rfl rfl hl.1 rfl (lv_room (Nat.le_of_ble_eq_true rfl)) d_L_addWords_55 ⟨(by show (m2 - xk) + (m1 - xn) + ((cpK m2 zz - m2) + (rmN m1 zc (se i.toNat - sb i.toNat) - m1)) ≤ (((lxW mk9 (LxS.mk ws hs xn xk xc) ws2).xk - xk) + ((lxW mk9 (LxS.mk ws hs xn xk xc) ws2).xn - xn)); omega), (by show 6 * (m2 - xk) + 2 * (m1 - xn) + ((6 * (cpK m2 zz - m2)) + (2 * (rmN m1 zc (se i.toNat - sb i.toNat) - m1))) ≤ (6 * ((lxW mk9 (LxS.mk ws hs xn xk xc) ws2).xk - xk) + 2 * ((lxW mk9 (LxS.mk ws hs xn xk xc) ws2).xn - xn)); omega)⟩) hP hD hS hA [0, 1, 2, 3, 4, 6] [5, 7, 8] rfl rfl (by decide) (by decide) (fun u8 H locs hu8 hP hD hS _hk => ?_)
          obtain ⟨b_1, b_2, b_3, b_4, n_9, k_9, f_1, f_2, f_3, f_4, c_9, z_9⟩ := u8
          have hP : va_P (dC, dI) CL [(wo, .inr (9, [.ref wl, .ref wb, .ref we, .int (iI wz)])), (wb, .inl (kA 0, wk, .inl (aI sb))), (we, .inl (kA 0, wk, .inl (aI se))), (xo, .inr (5, [.ref b_1, .int (iI c_9), .ref b_2, .ref b_3, .ref b_4, .int (iI z_9), .int (iI (bI xs))])), (b_1, .inl (kA 1, n_9, .inl (aI f_1))), (b_2, .inl (kA 0, k_9, .inl (aI f_2))), (b_3, .inl (kA 0, k_9, .inl (aI f_3))), (b_4, .inl (kA 0, k_9, .inl (aI f_4))), (wl, .inl (kA 1, wn, .inl (aI lt)))] H := hP
          have hD : va_D A [(wo, .inr (9, [.ref wl, .ref wb, .ref we, .int (iI wz)])), (wb, .inl (kA 0, wk, .inl (aI sb))), (we, .inl (kA 0, wk, .inl (aI se))), (xo, .inr (5, [.ref b_1, .int (iI c_9), .ref b_2, .ref b_3, .ref b_4, .int (iI z_9), .int (iI (bI xs))])), (b_1, .inl (kA 1, n_9, .inl (aI f_1))), (b_2, .inl (kA 0, k_9, .inl (aI f_2))), (b_3, .inl (kA 0, k_9, .inl (aI f_3))), (b_4, .inl (kA 0, k_9, .inl (aI f_4))), (wl, .inl (kA 1, wn, .inl (aI lt)))] := hD
          have hp55 : LR n_9 k_9 c_9 z_9 f_1 f_2 f_3 f_4 ∧ LX (insA us.ws kp.toNat (wdL lt (sb i.toNat) ((sb i.toNat) + ((se i.toNat) - (sb i.toNat))))) (insA us.hs kp.toNat 0) c_9 z_9 f_1 f_2 f_3 f_4 ∧ c_9 = zc + ((se i.toNat) - (sb i.toNat)) ∧ z_9 = zz + 1 ∧ n_9 = rmN m1 zc ((se i.toNat) - (sb i.toNat)) ∧ k_9 = cpK m2 zz := hu8
          obtain ⟨hLR9, hLX9, hc9, hz9, hn9, hk9⟩ := hp55
          rw [show sb i.toNat + (se i.toNat - sb i.toNat) = se i.toNat by omega, hgw.1] at hLX9
          have hkz : 0 ≤ kp ∧ kp < z_9 := by omega
          have hzz9 := hLR9.2.2.1
          refine lv_iload hx hb d_L_addWords_58 (lv_at hl 0 rfl) ?_
          refine li_if_lt (tgt := 83) hx hb d_L_addWords_60 (by decide) (by omega) (fun c9 => ?_) (fun c9 => ?_)
          · have _q := c9
            exact absurd c9 (by omega)
          · have _q := c9
            refine lv_iload hx hb d_L_addWords_63 (lv_at hl 0 rfl) ?_
            refine lv_aload_n hx hb d_L_addWords_65 rfl (lv_at hl 2 rfl) ?_
            refine gf_L_25 hx hb hts hown hK hP 3 rfl rfl d_L_addWords_66 ?_
            refine li_icmp_ge (tgt := 83) hx hb d_L_addWords_69 (by decide) (by omega) (by omega) (fun c10 => ?_) (fun c10 => ?_)
            · have _q := c10
              exact absurd c10 (by omega)
            · have _q := c10
              refine lv_aload_n hx hb d_L_addWords_72 rfl (lv_at hl 2 rfl) ?_
              refine gf_L_22 hx hb hts hown hK hP 3 rfl rfl d_L_addWords_73 ?_
              refine lv_iload hx hb d_L_addWords_76 (lv_at hl 0 rfl) ?_
              refine lv_dup2_11 hx hb d_L_addWords_78 rfl rfl ?_
              refine li_iald hx hb hK hP 7 0 rfl rfl (by omega) (by omega) (by omega) d_L_addWords_79 ?_
              refine lv_iload_n hx hb d_L_addWords_80 rfl (lv_at hl 4 rfl) ?_
              refine li_iorI hx hb d_L_addWords_81 ?_
              refine li_iast hx hb hK hP hD hS 7 0 rfl rfl (by omega) (by omega) (by omega) d_L_addWords_82 (fun H locs hP hD hS => ?_)
              have hP : va_P (dC, dI) CL [(wo, .inr (9, [.ref wl, .ref wb, .ref we, .int (iI wz)])), (wb, .inl (kA 0, wk, .inl (aI sb))), (we, .inl (kA 0, wk, .inl (aI se))), (xo, .inr (5, [.ref b_1, .int (iI c_9), .ref b_2, .ref b_3, .ref b_4, .int (iI z_9), .int (iI (bI xs))])), (b_1, .inl (kA 1, n_9, .inl (aI f_1))), (b_2, .inl (kA 0, k_9, .inl (aI f_2))), (b_3, .inl (kA 0, k_9, .inl (aI f_3))), (b_4, .inl (kA 0, k_9, .inl (aI (va_up f_4 kp.toNat (orI (f_4 kp.toNat) mk9))))), (wl, .inl (kA 1, wn, .inl (aI lt)))] H := hP
              have hD : va_D A [(wo, .inr (9, [.ref wl, .ref wb, .ref we, .int (iI wz)])), (wb, .inl (kA 0, wk, .inl (aI sb))), (we, .inl (kA 0, wk, .inl (aI se))), (xo, .inr (5, [.ref b_1, .int (iI c_9), .ref b_2, .ref b_3, .ref b_4, .int (iI z_9), .int (iI (bI xs))])), (b_1, .inl (kA 1, n_9, .inl (aI f_1))), (b_2, .inl (kA 0, k_9, .inl (aI f_2))), (b_3, .inl (kA 0, k_9, .inl (aI f_3))), (b_4, .inl (kA 0, k_9, .inl (aI (va_up f_4 kp.toNat (orI (f_4 kp.toNat) mk9))))), (wl, .inl (kA 1, wn, .inl (aI lt)))] := hD
              obtain ⟨i_n, ei_n⟩ : ∃ y_9 : Int, y_9 = i + 1 := ⟨_, rfl⟩
              refine lv_iinc (v := iI i_n) (lv' := [(3, .int (iI i_n)), (4, .int (iI kp)), (0, .ref xo), (1, .ref wo), (2, .int (iI mk9))]) hx hb d_L_addWords_83 hl (k := 1) rfl (by rw [ei_n]; exact iI_add _ _) (by decide) rfl (fun ls hl => ?_)
              refine lv_goto (tgt := 2) hx hb d_L_addWords_86 (by decide) ?_
              refine W.widen (k := (k_9 - xk) + (n_9 - xn)) (n := 6 * (k_9 - xk) + 2 * (n_9 - xn)) (by omega) (by omega) ?_
              exact ih_2 i_n (lxA mk9 us (ws2.getD i.toNat [])) b_1 b_2 b_3 b_4 n_9 k_9 f_1 f_2 f_3 (va_up f_4 kp.toNat (orI (f_4 kp.toNat) mk9)) c_9 z_9 (by omega) (by first | exact hLR9.set (or1024 (hLR9.2.2.2.2.2.2.2 _) hm) | exact hLR.set (or1024 (hLR.2.2.2.2.2.2.2 _) hm)) (by show LX (lxI us (ws2.getD i.toNat [])).ws ((lxI us (ws2.getD i.toNat [])).hs.set (plW us.ws (ws2.getD i.toNat [])).toNat (orI ((lxI us (ws2.getD i.toNat [])).hs.getD (plW us.ws (ws2.getD i.toNat [])).toNat 0) mk9)) _ _ _ _ _ _; rw [hI, ← hkp]; first | (rw [hLX9.hd (k := kp.toNat) (by omega)]; exact hLX9.set (by omega) _) | (rw [hLX.hd (k := kp.toNat) (by omega)]; exact hLX.set (by omega) _)) (by show (lxI us (ws2.getD i.toNat [])).xn = _ ∧ (lxI us (ws2.getD i.toNat [])).xk = _ ∧ (lxI us (ws2.getD i.toNat [])).xc = _; rw [hI]; first | exact hcp | exact ⟨hn9.symm, hk9.symm, hc9.symm⟩) (by omega) (by rw [ei_n]; omega) (by rw [ei_n]; exact hres9) (by omega) _ _ (hP.sub [3, 4, 5, 6, 7, 0, 8, 1, 2] rfl) (hD.sub [3, 4, 5, 6, 7, 0, 8, 1, 2] (by decide) rfl) hS _ (lv_sub hl [0, 2, 3, 4] rfl)
  refine W.widen (k := (xk - xk) + (xn - xn)) (n := 6 * (xk - xk) + 2 * (xn - xn)) (by omega) (by omega) ?_
  exact K_2 ((wz - (0 : Int)).toNat + 1) 0 (LxS.mk ws hs xn xk xc) xl xb xe xh xn xk lx bx ex hd xc xz (by omega) (by exact hL) (by exact hLX0) (by exact ⟨rfl, rfl, rfl⟩) (by omega) (by show xc + smL ws2 ≤ xc + smL ws2; omega) (by rfl) (Nat.lt_succ_self _) _ _ hP hD hS _ (lv_sub hl [0, 1, 2, 3] rfl)

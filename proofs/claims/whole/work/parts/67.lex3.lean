theorem smL_app : ∀ a b : List (List Int), smL (a ++ b) = smL a + smL b := by
  intro a
  induction a with
  | nil => intro b; simp [smL]
  | cons w a ih => intro b; simp only [List.cons_append, smL, ih]; omega
def WBs (u : WsP) (n : Nat) : Prop := smL u.1 + u.2.length ≤ n ∧ 2 * (u.1.length : Int) + (if u.2 = [] then 0 else 1) ≤ n
theorem WBs_s {u : WsP} {n : Nat} (h : WBs u n) (ch : Int) : WBs (wsR u ch) (n + 1) := by
  obtain ⟨h1, h2⟩ := h
  unfold wsR
  by_cases hc : ch = 0
  · rw [if_pos hc]
    by_cases hu : u.2 = []
    · rw [if_pos hu]
      rw [if_pos hu] at h2
      refine ⟨?_, ?_⟩
      · dsimp only; rw [hu] at h1; simp only [List.length_nil] at h1 ⊢; push_cast; omega
      · dsimp only; rw [if_pos rfl]; push_cast; omega
    · rw [if_neg hu]
      rw [if_neg hu] at h2
      refine ⟨?_, ?_⟩
      · dsimp only; rw [smL_app]; simp only [smL, List.length_nil]; push_cast; omega
      · dsimp only; rw [if_pos rfl, List.length_append]; simp only [List.length_cons, List.length_nil]; push_cast; omega
  · rw [if_neg hc]
    refine ⟨?_, ?_⟩
    · dsimp only; rw [List.length_append]; simp only [List.length_cons, List.length_nil]; push_cast; omega
    · dsimp only; rw [if_neg (by simp)]; split at h2 <;> (push_cast; omega)
theorem WBs_l : ∀ (l : List Int) (u : WsP) (n : Nat), WBs u n → WBs (l.foldl wsR u) (n + l.length) := by
  intro l
  induction l with
  | nil => intro u n h; exact h
  | cons x l ih =>
    intro u n h
    rw [List.foldl_cons]
    have := ih (wsR u x) (n + 1) (WBs_s h x)
    rw [List.length_cons, show n + (l.length + 1) = n + 1 + l.length by omega]
    exact this
theorem wsF_b {t : Nat → Int} {b : Bool} {x y : Int} (h : x ≤ y) : smL (wsF t b x y) ≤ y - x ∧ 2 * ((wsF t b x y).length : Int) ≤ y - x + 1 := by
  have h0 : WBs ([], []) 0 := ⟨by simp [smL], by simp⟩
  have h1 := WBs_l (ltL t b x (y - x).toNat) ([], []) 0 h0
  have hl : (ltL t b x (y - x).toNat).length = (y - x).toNat := by unfold ltL; rw [List.length_map, List.length_range]
  rw [hl, Nat.zero_add] at h1
  obtain ⟨h2, h3⟩ := h1
  unfold wsF wsE
  split
  · rename_i hu
    rw [if_pos hu] at h3
    omega
  · rename_i hu
    rw [if_neg hu] at h3
    rw [smL_app, List.length_append]
    simp only [smL, List.length_cons, List.length_nil]
    push_cast
    omega
def rbT (m : Int) (t : Nat → Int) (tx : List (Int × Int)) (u : LxS) : LxS := tx.foldl (fun u q => lxW m u (twF t q)) u
def rbO (o : Option HD) (m ix t9 : Int) (u : LxS) : LxS := match o with
  | some d => rbT m d.t (txL d.ti d.ts d.te d.tl d.tc ix (d.tc - t9).toNat t9) u
  | none => u
def rbL (sv : Nat → Option HD) (ix : Int) : Nat → Int → LxS → LxS
  | 0, _, u => u
  | k + 1, r, u => rbL sv ix k (r + 1) (rbO (sv r.toNat) (shlI 1 r) ix 0 u)
def rbM (sv : Nat → Option HD) (ix : Int) (xn xk : Nat) : LxS := rbL sv ix 10 0 (LxS.mk [] [] xn xk 0)
theorem rbT_mo (m : Int) (t : Nat → Int) : ∀ (tx : List (Int × Int)) (u : LxS), u.xk ≤ (rbT m t tx u).xk ∧ u.xn ≤ (rbT m t tx u).xn := by
  intro tx
  induction tx with
  | nil => intro u; exact ⟨Nat.le_refl _, Nat.le_refl _⟩
  | cons q tx ih =>
    intro u
    have h1 := lxW_mo m (twF t q) u
    have h2 := ih (lxW m u (twF t q))
    exact ⟨Nat.le_trans h1.1 h2.1, Nat.le_trans h1.2 h2.2⟩
theorem rbO_mo (o : Option HD) (m ix t9 : Int) (u : LxS) : u.xk ≤ (rbO o m ix t9 u).xk ∧ u.xn ≤ (rbO o m ix t9 u).xn := by
  cases o with
  | none => exact ⟨Nat.le_refl _, Nat.le_refl _⟩
  | some d => exact rbT_mo m d.t _ u
theorem rbL_mo (sv : Nat → Option HD) (ix : Int) : ∀ (k : Nat) (r : Int) (u : LxS), u.xk ≤ (rbL sv ix k r u).xk ∧ u.xn ≤ (rbL sv ix k r u).xn := by
  intro k
  induction k with
  | zero => intro r u; exact ⟨Nat.le_refl _, Nat.le_refl _⟩
  | succ k ih =>
    intro r u
    have h1 := rbO_mo (sv r.toNat) (shlI 1 r) ix 0 u
    have h2 := ih (r + 1) (rbO (sv r.toNat) (shlI 1 r) ix 0 u)
    exact ⟨Nat.le_trans h1.1 h2.1, Nat.le_trans h1.2 h2.2⟩
def HDt (d : HD) : Prop := ∀ ix, tsum (txs d ix) ≤ 400 ∧ LB (txs d ix) 0 400
theorem shl_r : ∀ r : Fin 10, 0 ≤ shlI 1 (r.val : Int) ∧ shlI 1 (r.val : Int) < 1024 := by decide +kernel
theorem shl_r9 {r : Int} (h : 0 ≤ r ∧ r ≤ 9) : 0 ≤ shlI 1 r ∧ shlI 1 r < 1024 := by
  obtain ⟨n, rfl⟩ := Int.eq_ofNat_of_zero_le h.1
  exact shl_r ⟨n, by omega⟩
theorem tx_in {ti ts te tl : Nat → Int} {tc ix : Int} {lo hi : Int} : ∀ (k : Nat) (i : Int), LB (txL ti ts te tl tc ix k i) lo hi → 0 ≤ tsum (txL ti ts te tl tc ix k i) := fun k i h => tsum_nn _ h
theorem LX.nil {lx bx ex hd : Nat → Int} : LX [] [] 0 0 lx bx ex hd := ⟨⟨rfl, fun j h => absurd h (Nat.not_lt_zero _)⟩, rfl, fun j h => absurd h (Nat.not_lt_zero _), fun j h => by omega⟩
theorem LR.zero {xn xk : Nat} {xc xz : Int} {lx bx ex hd : Nat → Int} (h : LR xn xk xc xz lx bx ex hd) : LR xn xk 0 0 lx bx ex hd := by
  obtain ⟨h1, h2, h3, h4, h5⟩ := h
  exact ⟨h1, h2, by omega, by omega, h5⟩
theorem txL_sub {ti ts te tl : Nat → Int} {tc ix lo hi : Int} : ∀ (k : Nat) (i : Int), LB (txL ti ts te tl tc ix (k + 1) i) lo hi → LB (txL ti ts te tl tc ix k (i + 1)) lo hi := by
  intro k i h
  simp only [txL] at h
  split at h
  · exact fun q hq => h q (List.mem_cons_of_mem _ hq)
  · exact h

theorem d_L_rebuild_0 : decode b_L_rebuild 0 = .ok (.aload_n 0, 1) := by decide +kernel
theorem d_L_rebuild_1 : decode b_L_rebuild 1 = .ok (.iconst 0, 1) := by decide +kernel
theorem d_L_rebuild_2 : decode b_L_rebuild 2 = .ok (.putfield 25, 3) := by decide +kernel
theorem d_L_rebuild_5 : decode b_L_rebuild 5 = .ok (.aload_n 0, 1) := by decide +kernel
theorem d_L_rebuild_6 : decode b_L_rebuild 6 = .ok (.iconst 0, 1) := by decide +kernel
theorem d_L_rebuild_7 : decode b_L_rebuild 7 = .ok (.putfield 29, 3) := by decide +kernel
theorem d_L_rebuild_10 : decode b_L_rebuild 10 = .ok (.iconst 0, 1) := by decide +kernel
theorem d_L_rebuild_11 : decode b_L_rebuild 11 = .ok (.istore 4, 2) := by decide +kernel
theorem d_L_rebuild_13 : decode b_L_rebuild 13 = .ok (.iload 4, 2) := by decide +kernel
theorem d_L_rebuild_15 : decode b_L_rebuild 15 = .ok (.aload_n 1, 1) := by decide +kernel
theorem d_L_rebuild_16 : decode b_L_rebuild 16 = .ok (.arraylength, 1) := by decide +kernel
theorem d_L_rebuild_17 : decode b_L_rebuild 17 = .ok (.if_icmp .ge 70, 3) := by decide +kernel
theorem d_L_rebuild_20 : decode b_L_rebuild 20 = .ok (.iconst 0, 1) := by decide +kernel
theorem d_L_rebuild_21 : decode b_L_rebuild 21 = .ok (.istore 5, 2) := by decide +kernel
theorem d_L_rebuild_23 : decode b_L_rebuild 23 = .ok (.aload_n 1, 1) := by decide +kernel
theorem d_L_rebuild_24 : decode b_L_rebuild 24 = .ok (.iload 4, 2) := by decide +kernel
theorem d_L_rebuild_26 : decode b_L_rebuild 26 = .ok (.aaload, 1) := by decide +kernel
theorem d_L_rebuild_27 : decode b_L_rebuild 27 = .ok (.ifnull 54, 3) := by decide +kernel
theorem d_L_rebuild_30 : decode b_L_rebuild 30 = .ok (.iload 5, 2) := by decide +kernel
theorem d_L_rebuild_32 : decode b_L_rebuild 32 = .ok (.aload_n 1, 1) := by decide +kernel
theorem d_L_rebuild_33 : decode b_L_rebuild 33 = .ok (.iload 4, 2) := by decide +kernel
theorem d_L_rebuild_35 : decode b_L_rebuild 35 = .ok (.aaload, 1) := by decide +kernel
theorem d_L_rebuild_36 : decode b_L_rebuild 36 = .ok (.getfield 32, 3) := by decide +kernel
theorem d_L_rebuild_39 : decode b_L_rebuild 39 = .ok (.if_icmp .ge 42, 3) := by decide +kernel
theorem d_L_rebuild_42 : decode b_L_rebuild 42 = .ok (.aload_n 1, 1) := by decide +kernel
theorem d_L_rebuild_43 : decode b_L_rebuild 43 = .ok (.iload 4, 2) := by decide +kernel
theorem d_L_rebuild_45 : decode b_L_rebuild 45 = .ok (.aaload, 1) := by decide +kernel
theorem d_L_rebuild_46 : decode b_L_rebuild 46 = .ok (.iload 5, 2) := by decide +kernel
theorem d_L_rebuild_48 : decode b_L_rebuild 48 = .ok (.iload_n 2, 1) := by decide +kernel
theorem d_L_rebuild_49 : decode b_L_rebuild 49 = .ok (.invokevirtual 37, 3) := by decide +kernel
theorem d_L_rebuild_52 : decode b_L_rebuild 52 = .ok (.ifCond .eq 23, 3) := by decide +kernel
theorem d_L_rebuild_55 : decode b_L_rebuild 55 = .ok (.aload_n 3, 1) := by decide +kernel
theorem d_L_rebuild_56 : decode b_L_rebuild 56 = .ok (.aload_n 1, 1) := by decide +kernel
theorem d_L_rebuild_57 : decode b_L_rebuild 57 = .ok (.iload 4, 2) := by decide +kernel
theorem d_L_rebuild_59 : decode b_L_rebuild 59 = .ok (.aaload, 1) := by decide +kernel
theorem d_L_rebuild_60 : decode b_L_rebuild 60 = .ok (.iload 5, 2) := by decide +kernel
theorem d_L_rebuild_62 : decode b_L_rebuild 62 = .ok (.iload_n 2, 1) := by decide +kernel
theorem d_L_rebuild_63 : decode b_L_rebuild 63 = .ok (.invokevirtual 41, 3) := by decide +kernel
theorem d_L_rebuild_66 : decode b_L_rebuild 66 = .ok (.aload_n 0, 1) := by decide +kernel
theorem d_L_rebuild_67 : decode b_L_rebuild 67 = .ok (.aload_n 3, 1) := by decide +kernel
theorem d_L_rebuild_68 : decode b_L_rebuild 68 = .ok (.iconst 1, 1) := by decide +kernel
theorem d_L_rebuild_69 : decode b_L_rebuild 69 = .ok (.iload 4, 2) := by decide +kernel
theorem d_L_rebuild_71 : decode b_L_rebuild 71 = .ok (.ishl, 1) := by decide +kernel
theorem d_L_rebuild_72 : decode b_L_rebuild 72 = .ok (.invokevirtual 47, 3) := by decide +kernel
theorem d_L_rebuild_75 : decode b_L_rebuild 75 = .ok (.iinc 5 1, 3) := by decide +kernel
theorem d_L_rebuild_78 : decode b_L_rebuild 78 = .ok (.goto (-55), 3) := by decide +kernel
theorem d_L_rebuild_81 : decode b_L_rebuild 81 = .ok (.iinc 4 1, 3) := by decide +kernel
theorem d_L_rebuild_84 : decode b_L_rebuild 84 = .ok (.goto (-71), 3) := by decide +kernel
theorem d_L_rebuild_87 : decode b_L_rebuild 87 = .ok (.aload_n 0, 1) := by decide +kernel
theorem d_L_rebuild_88 : decode b_L_rebuild 88 = .ok (.iconst 0, 1) := by decide +kernel
theorem d_L_rebuild_89 : decode b_L_rebuild 89 = .ok (.putfield 51, 3) := by decide +kernel
theorem d_L_rebuild_92 : decode b_L_rebuild 92 = .ok (.return_, 1) := by decide +kernel
set_option maxHeartbeats 4000000 in
set_option maxRecDepth 100000 in
theorem c_L_rebuild (l : Launch) (dC : Nat → ClassId) (dI : Nat → Nat → Nat) (kA : Nat → ClassId) (sz : Nat) (xo : Nat) (xl : Nat) (xb : Nat) (xe : Nat) (xh : Nat) (xn : Nat) (xk : Nat) (xc : Int) (xz : Int) (xs : Bool) (lx : Nat → Int) (bx : Nat → Int) (ex : Nat → Int) (hd : Nat → Int) (wo : Nat) (wl : Nat) (wb : Nat) (we : Nat) (wn : Nat) (wk : Nat) (wz : Int) (lt : Nat → Int) (sb : Nat → Int) (se : Nat → Int) (sa : Nat) (sv : Nat → Option HD) (ix : Int) (hL : LR xn xk xc xz lx bx ex hd) (hW : WR wn wk wz lt sb se) (hw1 : wn = 400 ∧ 401 ≤ 2 * wk) (hHD : ∀ (r : Nat) (d : HD), sv r = some d → HDok d ∧ HDt d) (hcap : 32 ≤ xk ∧ xk ≤ 4000 ∧ 256 ≤ xn ∧ xn ≤ 9500) (hix : 0 ≤ ix ∧ ix ≤ 5) : Met l y_L_rebuild (wsy y_L_rebuild b_L_rebuild 6 none) (rmd 4 (((rbM sv ix xn xk).xk - xk) + ((rbM sv ix xn xk).xn - xn)) (6 * ((rbM sv ix xn xk).xk - xk) + 2 * ((rbM sv ix xn xk).xn - xn))) (li_Pr (dC, dI) CL (TY kA) [.ref xo, .ref sa, .int (iI ix), .ref wo] (fun h => h.size = sz ∧ va_P (dC, dI) CL [(xo, .inr (5, [.ref xl, .int (iI xc), .ref xb, .ref xe, .ref xh, .int (iI xz), .int (iI (bI xs))])), (xl, .inl (kA 1, xn, .inl (aI lx))), (xb, .inl (kA 0, xk, .inl (aI bx))), (xe, .inl (kA 0, xk, .inl (aI ex))), (xh, .inl (kA 0, xk, .inl (aI hd))), (wo, .inr (9, [.ref wl, .ref wb, .ref we, .int (iI wz)])), (wl, .inl (kA 1, wn, .inl (aI lt))), (wb, .inl (kA 0, wk, .inl (aI sb))), (we, .inl (kA 0, wk, .inl (aI se)))] h ∧ va_D (fun q => dI 100 0 ≤ q) [(xo, .inr (5, [.ref xl, .int (iI xc), .ref xb, .ref xe, .ref xh, .int (iI xz), .int (iI (bI xs))])), (xl, .inl (kA 1, xn, .inl (aI lx))), (xb, .inl (kA 0, xk, .inl (aI bx))), (xe, .inl (kA 0, xk, .inl (aI ex))), (xh, .inl (kA 0, xk, .inl (aI hd))), (wo, .inr (9, [.ref wl, .ref wb, .ref we, .int (iI wz)])), (wl, .inl (kA 1, wn, .inl (aI lt))), (wb, .inl (kA 0, wk, .inl (aI sb))), (we, .inl (kA 0, wk, .inl (aI se)))] ∧ (fun h => (va_P (dC, dI) CL [(sa, .inl (kA 4, 10, .inr (.inr (.inr (.inr (shO sv))))))] h ∧ Dsj [(sa, .inl (kA 4, 10, .inr (.inr (.inr (.inr (shO sv))))))] [(xo, .inr (5, [.ref xl, .int (iI xc), .ref xb, .ref xe, .ref xh, .int (iI xz), .int (iI (bI xs))])), (xl, .inl (kA 1, xn, .inl (aI lx))), (xb, .inl (kA 0, xk, .inl (aI bx))), (xe, .inl (kA 0, xk, .inl (aI ex))), (xh, .inl (kA 0, xk, .inl (aI hd))), (wo, .inr (9, [.ref wl, .ref wb, .ref we, .int (iI wz)])), (wl, .inl (kA 1, wn, .inl (aI lt))), (wb, .inl (kA 0, wk, .inl (aI sb))), (we, .inl (kA 0, wk, .inl (aI se)))]) ∧ ShB (dC, dI) kA sv [(xo, .inr (5, [.ref xl, .int (iI xc), .ref xb, .ref xe, .ref xh, .int (iI xz), .int (iI (bI xs))])), (xl, .inl (kA 1, xn, .inl (aI lx))), (xb, .inl (kA 0, xk, .inl (aI bx))), (xe, .inl (kA 0, xk, .inl (aI ex))), (xh, .inl (kA 0, xk, .inl (aI hd))), (wo, .inr (9, [.ref wl, .ref wb, .ref we, .int (iI wz)])), (wl, .inl (kA 1, wn, .inl (aI lt))), (wb, .inl (kA 0, wk, .inl (aI sb))), (we, .inl (kA 0, wk, .inl (aI se)))] h) h)) (li_Qw (S := (Nat) × (Nat) × (Nat) × (Nat) × (Nat) × (Nat) × (Nat → Int) × (Nat → Int) × (Nat → Int) × (Nat → Int) × (Int) × (Int) × (Int) × (Nat → Int) × (Nat → Int) × (Nat → Int)) (dC, dI) CL (fun u => (LR u.2.2.2.2.1 u.2.2.2.2.2.1 u.2.2.2.2.2.2.2.2.2.2.1 u.2.2.2.2.2.2.2.2.2.2.2.1 u.2.2.2.2.2.2.1 u.2.2.2.2.2.2.2.1 u.2.2.2.2.2.2.2.2.1 u.2.2.2.2.2.2.2.2.2.1 ∧ LX (rbM sv ix xn xk).ws (rbM sv ix xn xk).hs u.2.2.2.2.2.2.2.2.2.2.1 u.2.2.2.2.2.2.2.2.2.2.2.1 u.2.2.2.2.2.2.1 u.2.2.2.2.2.2.2.1 u.2.2.2.2.2.2.2.2.1 u.2.2.2.2.2.2.2.2.2.1 ∧ (rbM sv ix xn xk).xn = u.2.2.2.2.1 ∧ (rbM sv ix xn xk).xk = u.2.2.2.2.2.1 ∧ xk ≤ u.2.2.2.2.2.1 ∧ u.2.2.2.2.2.1 ≤ 4000 ∧ xn ≤ u.2.2.2.2.1 ∧ u.2.2.2.2.1 ≤ 9500) ∧ WR wn wk u.2.2.2.2.2.2.2.2.2.2.2.2.1 u.2.2.2.2.2.2.2.2.2.2.2.2.2.1 u.2.2.2.2.2.2.2.2.2.2.2.2.2.2.1 u.2.2.2.2.2.2.2.2.2.2.2.2.2.2.2) (fun _ => none) (fun u => [(xo, .inr (5, [.ref u.1, .int (iI u.2.2.2.2.2.2.2.2.2.2.1), .ref u.2.1, .ref u.2.2.1, .ref u.2.2.2.1, .int (iI u.2.2.2.2.2.2.2.2.2.2.2.1), .int (iI (bI false))])), (u.1, .inl (kA 1, u.2.2.2.2.1, .inl (aI u.2.2.2.2.2.2.1))), (u.2.1, .inl (kA 0, u.2.2.2.2.2.1, .inl (aI u.2.2.2.2.2.2.2.1))), (u.2.2.1, .inl (kA 0, u.2.2.2.2.2.1, .inl (aI u.2.2.2.2.2.2.2.2.1))), (u.2.2.2.1, .inl (kA 0, u.2.2.2.2.2.1, .inl (aI u.2.2.2.2.2.2.2.2.2.1))), (wo, .inr (9, [.ref wl, .ref wb, .ref we, .int (iI u.2.2.2.2.2.2.2.2.2.2.2.2.1)])), (wl, .inl (kA 1, wn, .inl (aI u.2.2.2.2.2.2.2.2.2.2.2.2.2.1))), (wb, .inl (kA 0, wk, .inl (aI u.2.2.2.2.2.2.2.2.2.2.2.2.2.2.1))), (we, .inl (kA 0, wk, .inl (aI u.2.2.2.2.2.2.2.2.2.2.2.2.2.2.2)))]) (va_A [(xo, .inr (5, [.ref xl, .int (iI xc), .ref xb, .ref xe, .ref xh, .int (iI xz), .int (iI (bI xs))])), (xl, .inl (kA 1, xn, .inl (aI lx))), (xb, .inl (kA 0, xk, .inl (aI bx))), (xe, .inl (kA 0, xk, .inl (aI ex))), (xh, .inl (kA 0, xk, .inl (aI hd))), (wo, .inr (9, [.ref wl, .ref wb, .ref we, .int (iI wz)])), (wl, .inl (kA 1, wn, .inl (aI lt))), (wb, .inl (kA 0, wk, .inl (aI sb))), (we, .inl (kA 0, wk, .inl (aI se)))] sz)) (((rbM sv ix xn xk).xk - xk) + ((rbM sv ix xn xk).xn - xn)) (6 * ((rbM sv ix xn xk).xk - xk) + 2 * ((rbM sv ix xn xk).xn - xn)) (va_A [(xo, .inr (5, [.ref xl, .int (iI xc), .ref xb, .ref xe, .ref xh, .int (iI xz), .int (iI (bI xs))])), (xl, .inl (kA 1, xn, .inl (aI lx))), (xb, .inl (kA 0, xk, .inl (aI bx))), (xe, .inl (kA 0, xk, .inl (aI ex))), (xh, .inl (kA 0, xk, .inl (aI hd))), (wo, .inr (9, [.ref wl, .ref wb, .ref we, .int (iI wz)])), (wl, .inl (kA 1, wn, .inl (aI lt))), (wb, .inl (kA 0, wk, .inl (aI sb))), (we, .inl (kA 0, wk, .inl (aI se)))] sz) := by
  refine li_mwv (by decide) (Nat.le_of_ble_eq_true rfl) ?_
  intro p e s m args below meth c Q A C hP hD hBx hK hN hG hA hAi hAN fin ls hl
  obtain ⟨hx, hb, hr, hml, hown, hts, hlocks, hin⟩ := C
  have hown : s.vm.findClass R_L = some m.cls := hown
  obtain ⟨hBx, hSh⟩ := hBx
  obtain ⟨hRo, hDj⟩ := hBx
  have hRo : va_P (dC, dI) CL [(sa, .inl (kA 4, 10, .inr (.inr (.inr (.inr (shO sv))))))] s.heap := hRo
  have hRoN := li_roN (A := A) hRo hDj hAi
  have hl : lv_has ls 6 [(0, .ref xo), (1, .ref sa), (2, .int (iI ix)), (3, .ref wo)] := hl
  obtain ⟨hwn, hwk, hwz, hlt, hsb, hse⟩ := id hW
  suffices h9 : ∀ (H : Heap) (locs : List Loc), H = s.heap → locs = [] → W p l e (rmd 4 (((rbM sv ix xn xk).xk - xk) + ((rbM sv ix xn xk).xn - xn)) (6 * ((rbM sv ix xn xk).xk - xk) + 2 * ((rbM sv ix xn xk).xn - xn))) s m args below meth c H locs 0 0 Q (F0 m 0 ls []) from h9 _ _ rfl rfl
  intro H locs eH eL
  have hP : va_P (dC, dI) CL [(xo, .inr (5, [.ref xl, .int (iI xc), .ref xb, .ref xe, .ref xh, .int (iI xz), .int (iI (bI xs))])), (xl, .inl (kA 1, xn, .inl (aI lx))), (xb, .inl (kA 0, xk, .inl (aI bx))), (xe, .inl (kA 0, xk, .inl (aI ex))), (xh, .inl (kA 0, xk, .inl (aI hd))), (wo, .inr (9, [.ref wl, .ref wb, .ref we, .int (iI wz)])), (wl, .inl (kA 1, wn, .inl (aI lt))), (wb, .inl (kA 0, wk, .inl (aI sb))), (we, .inl (kA 0, wk, .inl (aI se)))] H := by rw [eH]; exact hP
  have hS : va_S A s.heap H locs := by rw [eH, eL]; exact va_S.rf
  refine lv_aload_n hx hb d_L_rebuild_0 rfl (lv_at hl 0 rfl) ?_
  refine lv_iconst (v := iI 0) hx hb d_L_rebuild_1 rfl ?_
  refine pf_L_25 hx hb hts hown hK hP hD hS 0 rfl (Nat.le_of_ble_eq_true rfl) d_L_rebuild_2 (fun H locs hP hD hS => ?_)
  have hP : va_P (dC, dI) CL [(xo, .inr (5, [.ref xl, .int (iI xc), .ref xb, .ref xe, .ref xh, .int (iI 0), .int (iI (bI xs))])), (xl, .inl (kA 1, xn, .inl (aI lx))), (xb, .inl (kA 0, xk, .inl (aI bx))), (xe, .inl (kA 0, xk, .inl (aI ex))), (xh, .inl (kA 0, xk, .inl (aI hd))), (wo, .inr (9, [.ref wl, .ref wb, .ref we, .int (iI wz)])), (wl, .inl (kA 1, wn, .inl (aI lt))), (wb, .inl (kA 0, wk, .inl (aI sb))), (we, .inl (kA 0, wk, .inl (aI se)))] H := hP
  have hD : va_D A [(xo, .inr (5, [.ref xl, .int (iI xc), .ref xb, .ref xe, .ref xh, .int (iI 0), .int (iI (bI xs))])), (xl, .inl (kA 1, xn, .inl (aI lx))), (xb, .inl (kA 0, xk, .inl (aI bx))), (xe, .inl (kA 0, xk, .inl (aI ex))), (xh, .inl (kA 0, xk, .inl (aI hd))), (wo, .inr (9, [.ref wl, .ref wb, .ref we, .int (iI wz)])), (wl, .inl (kA 1, wn, .inl (aI lt))), (wb, .inl (kA 0, wk, .inl (aI sb))), (we, .inl (kA 0, wk, .inl (aI se)))] := hD
  refine lv_aload_n hx hb d_L_rebuild_5 rfl (lv_at hl 0 rfl) ?_
  refine lv_iconst (v := iI 0) hx hb d_L_rebuild_6 rfl ?_
  refine pf_L_29 hx hb hts hown hK hP hD hS 0 rfl (Nat.le_of_ble_eq_true rfl) d_L_rebuild_7 (fun H locs hP hD hS => ?_)
  have hP : va_P (dC, dI) CL [(xo, .inr (5, [.ref xl, .int (iI 0), .ref xb, .ref xe, .ref xh, .int (iI 0), .int (iI (bI xs))])), (xl, .inl (kA 1, xn, .inl (aI lx))), (xb, .inl (kA 0, xk, .inl (aI bx))), (xe, .inl (kA 0, xk, .inl (aI ex))), (xh, .inl (kA 0, xk, .inl (aI hd))), (wo, .inr (9, [.ref wl, .ref wb, .ref we, .int (iI wz)])), (wl, .inl (kA 1, wn, .inl (aI lt))), (wb, .inl (kA 0, wk, .inl (aI sb))), (we, .inl (kA 0, wk, .inl (aI se)))] H := hP
  have hD : va_D A [(xo, .inr (5, [.ref xl, .int (iI 0), .ref xb, .ref xe, .ref xh, .int (iI 0), .int (iI (bI xs))])), (xl, .inl (kA 1, xn, .inl (aI lx))), (xb, .inl (kA 0, xk, .inl (aI bx))), (xe, .inl (kA 0, xk, .inl (aI ex))), (xh, .inl (kA 0, xk, .inl (aI hd))), (wo, .inr (9, [.ref wl, .ref wb, .ref we, .int (iI wz)])), (wl, .inl (kA 1, wn, .inl (aI lt))), (wb, .inl (kA 0, wk, .inl (aI sb))), (we, .inl (kA 0, wk, .inl (aI se)))] := hD
  refine lv_iconst (v := iI 0) hx hb d_L_rebuild_10 rfl ?_
  refine lv_istore (lv' := [(4, .int (iI 0)), (0, .ref xo), (1, .ref sa), (2, .int (iI ix)), (3, .ref wo)]) hx hb d_L_rebuild_11 hl (by decide) rfl (fun ls hl => ?_)
  have K_13 : ∀ (nn_13 : Nat) (r : Int) (cur : LxS) (p1 : Nat) (p2 : Nat) (p3 : Nat) (p4 : Nat) (m1 : Nat) (m2 : Nat) (h1 : Nat → Int) (h2 : Nat → Int) (h3 : Nat → Int) (h4 : Nat → Int) (zc : Int) (zz : Int) (vz : Int) (vl : Nat → Int) (vb : Nat → Int) (ve : Nat → Int), (0 ≤ r ∧ r ≤ 10) → (LR m1 m2 zc zz h1 h2 h3 h4) → (LX cur.ws cur.hs zc zz h1 h2 h3 h4) → (cur.xn = m1 ∧ cur.xk = m2 ∧ cur.xc = zc) → (xk ≤ m2 ∧ m2 ≤ 4000 ∧ xn ≤ m1 ∧ m1 ≤ 9500 ∧ 2 * zz ≤ 400 * r ∧ zc ≤ 400 * r) → (WR wn wk vz vl vb ve) → (rbL sv ix (10 - r).toNat r cur = (rbM sv ix xn xk)) → ((10 - (r : Int)).toNat < nn_13) → ∀ (H : Heap) (locs : List Loc), va_P (dC, dI) CL [(xo, .inr (5, [.ref p1, .int (iI zc), .ref p2, .ref p3, .ref p4, .int (iI zz), .int (iI (bI xs))])), (p1, .inl (kA 1, m1, .inl (aI h1))), (p2, .inl (kA 0, m2, .inl (aI h2))), (p3, .inl (kA 0, m2, .inl (aI h3))), (p4, .inl (kA 0, m2, .inl (aI h4))), (wo, .inr (9, [.ref wl, .ref wb, .ref we, .int (iI vz)])), (wl, .inl (kA 1, wn, .inl (aI vl))), (wb, .inl (kA 0, wk, .inl (aI vb))), (we, .inl (kA 0, wk, .inl (aI ve)))] H → va_D A [(xo, .inr (5, [.ref p1, .int (iI zc), .ref p2, .ref p3, .ref p4, .int (iI zz), .int (iI (bI xs))])), (p1, .inl (kA 1, m1, .inl (aI h1))), (p2, .inl (kA 0, m2, .inl (aI h2))), (p3, .inl (kA 0, m2, .inl (aI h3))), (p4, .inl (kA 0, m2, .inl (aI h4))), (wo, .inr (9, [.ref wl, .ref wb, .ref we, .int (iI vz)])), (wl, .inl (kA 1, wn, .inl (aI vl))), (wb, .inl (kA 0, wk, .inl (aI vb))), (we, .inl (kA 0, wk, .inl (aI ve)))] → va_S A s.heap H locs → ∀ ls : Array Slot, lv_has ls 6 [(4, .int (iI r)), (0, .ref xo), (1, .ref sa), (2, .int (iI ix)), (3, .ref wo)] → W p l e (rmd 4 (((rbM sv ix xn xk).xk - xk) + ((rbM sv ix xn xk).xn - xn)) (6 * ((rbM sv ix xn xk).xk - xk) + 2 * ((rbM sv ix xn xk).xn - xn))) s m args below meth c H locs ((m2 - xk) + (m1 - xn)) (6 * (m2 - xk) + 2 * (m1 - xn)) Q (F0 m 13 ls []) := by
    intro nn_13
    induction nn_13 with
    | zero => intro r cur p1 p2 p3 p4 m1 m2 h1 h2 h3 h4 zc zz vz vl vb ve hr9 hLR hLX hcp hbd hWv hres hm; exact absurd hm (Nat.not_lt_zero _)
    | succ nn_13 ih_13 =>
      intro r cur p1 p2 p3 p4 m1 m2 h1 h2 h3 h4 zc zz vz vl vb ve hr9 hLR hLX hcp hbd hWv hres hm_13 H locs hP hD hS ls hl
      have hmz := rbL_mo sv ix (10 - r).toNat r cur
      rw [hres, hcp.1, hcp.2.1] at hmz
      refine lv_iload hx hb d_L_rebuild_13 (lv_at hl 0 rfl) ?_
      refine lv_aload_n hx hb d_L_rebuild_15 rfl (lv_at hl 2 rfl) ?_
      refine li_alen hx hb hK (li_ro hRo hRoN hS) 0 4 rfl rfl d_L_rebuild_16 ?_
      refine li_icmp_ge (tgt := 87) hx hb d_L_rebuild_17 (by decide) (by omega) (by omega) (fun c1 => ?_) (fun c1 => ?_)
      · have _q := c1
        rw [show (10 - r).toNat = 0 by omega] at hres
        simp only [rbL] at hres
        have hfe : (rbM sv ix xn xk).xk = m2 ∧ (rbM sv ix xn xk).xn = m1 := by (rw [← hres]; exact ⟨hcp.2.1, hcp.1⟩)
        refine lv_aload_n hx hb d_L_rebuild_87 rfl (lv_at hl 1 rfl) ?_
        refine lv_iconst (v := iI 0) hx hb d_L_rebuild_88 rfl ?_
        refine W.eq (g2 := F0 m 89 ls [.int (iI (bI false)), .ref xo]) rfl ?_
        refine pf_L_51 hx hb hts hown hK hP hD hS 0 rfl (Nat.le_of_ble_eq_true rfl) d_L_rebuild_89 (fun H locs hP hD hS => ?_)
        have hP : va_P (dC, dI) CL [(xo, .inr (5, [.ref p1, .int (iI zc), .ref p2, .ref p3, .ref p4, .int (iI zz), .int (iI (bI false))])), (p1, .inl (kA 1, m1, .inl (aI h1))), (p2, .inl (kA 0, m2, .inl (aI h2))), (p3, .inl (kA 0, m2, .inl (aI h3))), (p4, .inl (kA 0, m2, .inl (aI h4))), (wo, .inr (9, [.ref wl, .ref wb, .ref we, .int (iI vz)])), (wl, .inl (kA 1, wn, .inl (aI vl))), (wb, .inl (kA 0, wk, .inl (aI vb))), (we, .inl (kA 0, wk, .inl (aI ve)))] H := hP
        have hD : va_D A [(xo, .inr (5, [.ref p1, .int (iI zc), .ref p2, .ref p3, .ref p4, .int (iI zz), .int (iI (bI false))])), (p1, .inl (kA 1, m1, .inl (aI h1))), (p2, .inl (kA 0, m2, .inl (aI h2))), (p3, .inl (kA 0, m2, .inl (aI h3))), (p4, .inl (kA 0, m2, .inl (aI h4))), (wo, .inr (9, [.ref wl, .ref wb, .ref we, .int (iI vz)])), (wl, .inl (kA 1, wn, .inl (aI vl))), (wb, .inl (kA 0, wk, .inl (aI vb))), (we, .inl (kA 0, wk, .inl (aI ve)))] := hD
        refine W.widen (k := (((rbM sv ix xn xk).xk - xk) + ((rbM sv ix xn xk).xn - xn))) (n := (6 * ((rbM sv ix xn xk).xk - xk) + 2 * ((rbM sv ix xn xk).xn - xn))) (by omega) (by omega) ?_
        exact fin (p1, p2, p3, p4, m1, m2, h1, h2, h3, h4, zc, zz, vz, vl, vb, ve) _ _ _ _ (by show (LR m1 m2 zc zz h1 h2 h3 h4 ∧ LX (rbM sv ix xn xk).ws (rbM sv ix xn xk).hs zc zz h1 h2 h3 h4 ∧ (rbM sv ix xn xk).xn = m1 ∧ (rbM sv ix xn xk).xk = m2 ∧ xk ≤ m2 ∧ m2 ≤ 4000 ∧ xn ≤ m1 ∧ m1 ≤ 9500) ∧ WR wn wk vz vl vb ve; refine ⟨⟨hLR, by (rw [← hres]; exact hLX), hfe.2, hfe.1, by omega, by omega, by omega, by omega⟩, hWv⟩) (by first | exact hP | (subst_vars; exact hP)) (by first | exact hD | (subst_vars; exact hD)) hS d_L_rebuild_92
      · have _q := c1
        rw [show (10 - r).toNat = (10 - (r + 1)).toNat + 1 by omega] at hres
        simp only [rbL] at hres
        refine lv_iconst (v := iI 0) hx hb d_L_rebuild_20 rfl ?_
        refine lv_istore (lv' := [(5, .int (iI 0)), (4, .int (iI r)), (0, .ref xo), (1, .ref sa), (2, .int (iI ix)), (3, .ref wo)]) hx hb d_L_rebuild_21 hl (by decide) rfl (fun ls hl => ?_)
        have K_23 : ∀ (nn_23 : Nat) (t9 : Int) (us : LxS) (p1 : Nat) (p2 : Nat) (p3 : Nat) (p4 : Nat) (m1 : Nat) (m2 : Nat) (h1 : Nat → Int) (h2 : Nat → Int) (h3 : Nat → Int) (h4 : Nat → Int) (zc : Int) (zz : Int) (vz : Int) (vl : Nat → Int) (vb : Nat → Int) (ve : Nat → Int), (LR m1 m2 zc zz h1 h2 h3 h4) → (LX us.ws us.hs zc zz h1 h2 h3 h4) → (us.xn = m1 ∧ us.xk = m2 ∧ us.xc = zc) → (xk ≤ m2 ∧ m2 ≤ 4000 ∧ xn ≤ m1 ∧ m1 ≤ 9500 ∧ 2 * zz ≤ 400 * r + 400 ∧ zc ≤ 400 * r + 400 ∧ 0 ≤ t9 ∧ t9 ≤ 2000) → (WR wn wk vz vl vb ve) → (∀ d, sv r.toNat = some d → t9 ≤ d.tc ∧ LB (txL d.ti d.ts d.te d.tl d.tc ix (d.tc - t9).toNat t9) 0 400 ∧ 2 * zz + tsum (txL d.ti d.ts d.te d.tl d.tc ix (d.tc - t9).toNat t9) ≤ 400 * r + 400 ∧ zc + tsum (txL d.ti d.ts d.te d.tl d.tc ix (d.tc - t9).toNat t9) ≤ 400 * r + 400) → (rbO (sv r.toNat) (shlI 1 r) ix t9 us = rbO (sv r.toNat) (shlI 1 r) ix 0 cur) → ((2000 - (t9 : Int)).toNat < nn_23) → ∀ (H : Heap) (locs : List Loc), va_P (dC, dI) CL [(xo, .inr (5, [.ref p1, .int (iI zc), .ref p2, .ref p3, .ref p4, .int (iI zz), .int (iI (bI xs))])), (p1, .inl (kA 1, m1, .inl (aI h1))), (p2, .inl (kA 0, m2, .inl (aI h2))), (p3, .inl (kA 0, m2, .inl (aI h3))), (p4, .inl (kA 0, m2, .inl (aI h4))), (wo, .inr (9, [.ref wl, .ref wb, .ref we, .int (iI vz)])), (wl, .inl (kA 1, wn, .inl (aI vl))), (wb, .inl (kA 0, wk, .inl (aI vb))), (we, .inl (kA 0, wk, .inl (aI ve)))] H → va_D A [(xo, .inr (5, [.ref p1, .int (iI zc), .ref p2, .ref p3, .ref p4, .int (iI zz), .int (iI (bI xs))])), (p1, .inl (kA 1, m1, .inl (aI h1))), (p2, .inl (kA 0, m2, .inl (aI h2))), (p3, .inl (kA 0, m2, .inl (aI h3))), (p4, .inl (kA 0, m2, .inl (aI h4))), (wo, .inr (9, [.ref wl, .ref wb, .ref we, .int (iI vz)])), (wl, .inl (kA 1, wn, .inl (aI vl))), (wb, .inl (kA 0, wk, .inl (aI vb))), (we, .inl (kA 0, wk, .inl (aI ve)))] → va_S A s.heap H locs → ∀ ls : Array Slot, lv_has ls 6 [(5, .int (iI t9)), (4, .int (iI r)), (0, .ref xo), (1, .ref sa), (2, .int (iI ix)), (3, .ref wo)] → W p l e (rmd 4 (((rbM sv ix xn xk).xk - xk) + ((rbM sv ix xn xk).xn - xn)) (6 * ((rbM sv ix xn xk).xk - xk) + 2 * ((rbM sv ix xn xk).xn - xn))) s m args below meth c H locs ((m2 - xk) + (m1 - xn)) (6 * (m2 - xk) + 2 * (m1 - xn)) Q (F0 m 23 ls []) := by
          intro nn_23
          induction nn_23 with
          | zero => intro t9 us p1 p2 p3 p4 m1 m2 h1 h2 h3 h4 zc zz vz vl vb ve hLRi hLXi hcpi hbdi hWi hsm hin hm; exact absurd hm (Nat.not_lt_zero _)
          | succ nn_23 ih_23 =>
            intro t9 us p1 p2 p3 p4 m1 m2 h1 h2 h3 h4 zc zz vz vl vb ve hLRi hLXi hcpi hbdi hWi hsm hin hm_23 H locs hP hD hS ls hl
            have hmi := rbO_mo (sv r.toNat) (shlI 1 r) ix t9 us
            have hmj := rbL_mo sv ix (10 - (r + 1)).toNat (r + 1) (rbO (sv r.toNat) (shlI 1 r) ix t9 us)
            rw [hin, hres] at hmj
            rw [hin, hcpi.1, hcpi.2.1] at hmi
            refine lv_aload_n hx hb d_L_rebuild_23 rfl (lv_at hl 3 rfl) ?_
            refine lv_iload hx hb d_L_rebuild_24 (lv_at hl 1 rfl) ?_
            refine li_ald hx hb hK (li_ro hRo hRoN hS) 0 4 rfl rfl (by omega) (by omega) (by omega) d_L_rebuild_26 ?_
            rcases hd2 : sv r.toNat with _ | dq
            · have _q := hd2
              refine li_rfN (shO_n hd2) ?_
              have hin9 : us = rbO (sv r.toNat) (shlI 1 r) ix 0 cur := by (rw [← hin, hd2]; rfl)
              refine lv_ifnullN (tgt := 81) hx hb d_L_rebuild_27 (by decide) ?_
              obtain ⟨r_n, er_n⟩ : ∃ y_9 : Int, y_9 = r + 1 := ⟨_, rfl⟩
              refine lv_iinc (v := iI r_n) (lv' := [(4, .int (iI r_n)), (5, .int (iI t9)), (0, .ref xo), (1, .ref sa), (2, .int (iI ix)), (3, .ref wo)]) hx hb d_L_rebuild_81 hl (k := 1) rfl (by rw [er_n]; exact iI_add _ _) (by decide) rfl (fun ls hl => ?_)
              refine lv_goto (tgt := 13) hx hb d_L_rebuild_84 (by decide) ?_
              refine W.widen (k := (m2 - xk) + (m1 - xn)) (n := 6 * (m2 - xk) + 2 * (m1 - xn)) (by omega) (by omega) ?_
              exact ih_13 r_n us p1 p2 p3 p4 m1 m2 h1 h2 h3 h4 zc zz vz vl vb ve (by omega) (by exact hLRi) (by exact hLXi) (by exact hcpi) (by omega) (by exact hWi) (by rw [er_n, hin9]; exact hres) (by omega) _ _ hP hD hS _ (lv_sub hl [0, 2, 3, 4, 5] rfl)
            · have _q := hd2
              refine li_rfS (a := dq.ho) (shO_s hd2) ?_
              have hk_dq := hd2
              obtain ⟨⟨hH_dq, hte_dq⟩, htx_dq⟩ := hHD _ _ hd2
              obtain ⟨hsm1, hsm2, hsm3, hsm4⟩ := hsm _ hd2
              have htc_dq := hH_dq.2.2.1
              have hmx_dq := hH_dq.2.1
              obtain ⟨hR_dq, hJ_dq⟩ := hSh r.toNat dq hd2
              have hN_dq := li_roN (A := A) hR_dq hJ_dq hAi
              refine lv_ifnull hx hb d_L_rebuild_27 ?_
              refine lv_iload hx hb d_L_rebuild_30 (lv_at hl 0 rfl) ?_
              refine lv_aload_n hx hb d_L_rebuild_32 rfl (lv_at hl 3 rfl) ?_
              refine lv_iload hx hb d_L_rebuild_33 (lv_at hl 1 rfl) ?_
              refine li_ald hx hb hK (li_ro hRo hRoN hS) 0 4 rfl rfl (by omega) (by omega) (by omega) d_L_rebuild_35 ?_
              refine li_rfS (a := dq.ho) (by exact shO_s hd2) ?_
              refine gf_L_32 hx hb hts hN hown hK (li_ro hR_dq hN_dq hS) 0 rfl rfl d_L_rebuild_36 ?_
              refine li_icmp_ge (tgt := 81) hx hb d_L_rebuild_39 (by decide) (by omega) (by omega) (fun c3 => ?_) (fun c3 => ?_)
              · have _q := c3
                have hin9 : us = rbO (sv r.toNat) (shlI 1 r) ix 0 cur := by (rw [← hin, hk_dq]; show us = rbT _ dq.t (txL dq.ti dq.ts dq.te dq.tl dq.tc ix (dq.tc - t9).toNat t9) us; rw [show (dq.tc - t9).toNat = 0 by omega]; rfl)
                obtain ⟨r_n, er_n⟩ : ∃ y_9 : Int, y_9 = r + 1 := ⟨_, rfl⟩
                refine lv_iinc (v := iI r_n) (lv' := [(4, .int (iI r_n)), (5, .int (iI t9)), (0, .ref xo), (1, .ref sa), (2, .int (iI ix)), (3, .ref wo)]) hx hb d_L_rebuild_81 hl (k := 1) rfl (by rw [er_n]; exact iI_add _ _) (by decide) rfl (fun ls hl => ?_)
                refine lv_goto (tgt := 13) hx hb d_L_rebuild_84 (by decide) ?_
                refine W.widen (k := (m2 - xk) + (m1 - xn)) (n := 6 * (m2 - xk) + 2 * (m1 - xn)) (by omega) (by omega) ?_
                exact ih_13 r_n us p1 p2 p3 p4 m1 m2 h1 h2 h3 h4 zc zz vz vl vb ve (by omega) (by exact hLRi) (by exact hLXi) (by exact hcpi) (by omega) (by exact hWi) (by rw [er_n, hin9]; exact hres) (by omega) _ _ hP hD hS _ (lv_sub hl [0, 2, 3, 4, 5] rfl)
              · have _q := c3
                have hte1 := txL_e (ti := dq.ti) (ts := dq.ts) (te := dq.te) (tl := dq.tl) (tc := dq.tc) (ix := ix) (i := t9) (by omega) (by omega)
                refine lv_aload_n hx hb d_L_rebuild_42 rfl (lv_at hl 3 rfl) ?_
                refine lv_iload hx hb d_L_rebuild_43 (lv_at hl 1 rfl) ?_
                refine li_ald hx hb hK (li_ro hRo hRoN hS) 0 4 rfl rfl (by omega) (by omega) (by omega) d_L_rebuild_45 ?_
                refine li_rfS (a := dq.ho) (by exact shO_s hd2) ?_
                refine lv_iload hx hb d_L_rebuild_46 (lv_at hl 0 rfl) ?_
                refine lv_iload_n hx hb d_L_rebuild_48 rfl (lv_at hl 4 rfl) ?_
                refine li_callr ((va_runV (As := [.int (iI t9), .int (iI ix)]) (rest := []) ⟨hx, hb, hml, hown, hts⟩ (c_H_isTextIn l dC dI kA dq.ho dq.oc dq.xi dq.xs dq.xe dq.xl dq.n dq.mx dq.fd dq.tc dq.t dq.ti dq.ts dq.te dq.tl t9 ix (by exact hH_dq) (by omega) (by omega)) (cw_L_37 hts rfl rfl ⟨Nat.le_of_ble_eq_true rfl, Nat.le_of_ble_eq_true rfl⟩) (li_preV (va_recv hK (li_ro hR_dq hN_dq hS) (ci := 2) (q0 := 0) rfl rfl) ((li_ro hR_dq hN_dq hS).sub [0, 1, 2, 3, 4, 5] rfl) hK hN (hG.go hS hAN)) rfl rfl hl.1 rfl (lv_room (Nat.le_of_ble_eq_true rfl)) d_L_rebuild_49 ⟨(by show (m2 - xk) + (m1 - xn) + 0 ≤ (((rbM sv ix xn xk).xk - xk) + ((rbM sv ix xn xk).xn - xn)); omega), (by show 6 * (m2 - xk) + 2 * (m1 - xn) + 0 ≤ (6 * ((rbM sv ix xn xk).xk - xk) + 2 * ((rbM sv ix xn xk).xn - xn)); omega)⟩).run) ?_
                refine li_bz (tgt := 75) hx hb d_L_rebuild_52 (by decide) (fun c4 => ?_) (fun c4 => ?_)
                · have _q := c4
                  rw [if_neg (nbt (by assumption))] at hte1
                  rw [hte1] at hsm2 hsm3 hsm4
                  obtain ⟨us2, eus2⟩ : ∃ v, v = us := ⟨_, rfl⟩
                  obtain ⟨t_n, et_n⟩ : ∃ y_9 : Int, y_9 = t9 + 1 := ⟨_, rfl⟩
                  refine lv_iinc (v := iI t_n) (lv' := [(5, .int (iI t_n)), (4, .int (iI r)), (0, .ref xo), (1, .ref sa), (2, .int (iI ix)), (3, .ref wo)]) hx hb d_L_rebuild_75 hl (k := 0) rfl (by rw [et_n]; exact iI_add _ _) (by decide) rfl (fun ls hl => ?_)
                  refine lv_goto (tgt := 23) hx hb d_L_rebuild_78 (by decide) ?_
                  refine W.widen (k := (m2 - xk) + (m1 - xn)) (n := 6 * (m2 - xk) + 2 * (m1 - xn)) (by omega) (by omega) ?_
                  exact ih_23 t_n us2 p1 p2 p3 p4 m1 m2 h1 h2 h3 h4 zc zz vz vl vb ve (by first | exact hA1 | exact hLRi) (by first | (rw [eus2]; exact hLXi) | (rw [eus2, ← hus]; exact hA2)) (by first | (rw [eus2]; exact hcpi) | (rw [eus2, ← hus]; exact ⟨hA3, hA4, hA5⟩)) (by omega) (by first | exact hp63.1 | exact hWi) (by intro d hd9; obtain rfl : dq = d := Option.some.inj (hk_dq.symm.trans hd9); rw [et_n]; first | exact ⟨by omega, hsm2, by omega, by omega⟩ | exact ⟨by omega, hsr, by omega, by omega⟩) (by first | (rw [eus2, et_n, ← hin, hk_dq]; show rbT _ dq.t _ us = rbT _ dq.t (txL dq.ti dq.ts dq.te dq.tl dq.tc ix (dq.tc - t9).toNat t9) us; rw [hte1]) | (rw [eus2, et_n, ← hro, hk_dq]; rfl)) (by omega) _ _ hP hD hS _ (lv_sub hl [0, 1, 2, 3, 4, 5] rfl)
                · have _q := c4
                  rw [if_pos (by assumption)] at hte1
                  rw [hte1] at hsm2 hsm3 hsm4
                  simp only [tsum] at hsm3 hsm4
                  have hq9 := hsm2 _ (List.mem_cons_self ..)
                  dsimp only at hq9
                  have h8 := hte_dq t9.toNat
                  have h7 := txSt_r (i := t9) (ix := ix) hH_dq
                  have h6 : txEn dq.te dq.tc t9 = dq.te t9.toNat := by unfold txEn; rw [if_pos (by omega)]
                  have hwb := wsF_b (t := dq.t) (b := false) (x := txSt dq.ts dq.te dq.tl dq.tc t9 ix) (y := txEn dq.te dq.tc t9) (by omega)
                  have hn4 := hH_dq.1
                  have hsr : LB (txL dq.ti dq.ts dq.te dq.tl dq.tc ix (dq.tc - (t9 + 1)).toNat (t9 + 1)) 0 400 := fun q hq => hsm2 q (List.mem_cons_of_mem _ hq)
                  have hsn := tsum_nn _ hsr
                  have hus : LxS.mk us.ws us.hs m1 m2 zc = us := by (rw [← hcpi.1, ← hcpi.2.1, ← hcpi.2.2])
                  have hro : rbT (shlI 1 r) dq.t (txL dq.ti dq.ts dq.te dq.tl dq.tc ix (dq.tc - (t9 + 1)).toNat (t9 + 1)) (lxW (shlI 1 r) us (twF dq.t (txSt dq.ts dq.te dq.tl dq.tc t9 ix, txEn dq.te dq.tc t9))) = rbO (sv r.toNat) (shlI 1 r) ix 0 cur := by (rw [← hin, hk_dq]; show _ = rbT _ dq.t (txL dq.ti dq.ts dq.te dq.tl dq.tc ix (dq.tc - t9).toNat t9) us; rw [hte1]; rfl)
                  have hmk := rbT_mo (shlI 1 r) dq.t (txL dq.ti dq.ts dq.te dq.tl dq.tc ix (dq.tc - (t9 + 1)).toNat (t9 + 1)) (lxW (shlI 1 r) us (twF dq.t (txSt dq.ts dq.te dq.tl dq.tc t9 ix, txEn dq.te dq.tc t9)))
                  rw [hro] at hmk
                  have hlk : (lxW (shlI 1 r) (LxS.mk us.ws us.hs m1 m2 zc) (twF dq.t (txSt dq.ts dq.te dq.tl dq.tc t9 ix, txEn dq.te dq.tc t9))).xk ≤ (rbM sv ix xn xk).xk ∧ (lxW (shlI 1 r) (LxS.mk us.ws us.hs m1 m2 zc) (twF dq.t (txSt dq.ts dq.te dq.tl dq.tc t9 ix, txEn dq.te dq.tc t9))).xn ≤ (rbM sv ix xn xk).xn := by (rw [hus]; exact ⟨Nat.le_trans hmk.1 hmj.1, Nat.le_trans hmk.2 hmj.2⟩)
                  have hlm : m2 ≤ (lxW (shlI 1 r) (LxS.mk us.ws us.hs m1 m2 zc) (twF dq.t (txSt dq.ts dq.te dq.tl dq.tc t9 ix, txEn dq.te dq.tc t9))).xk ∧ m1 ≤ (lxW (shlI 1 r) (LxS.mk us.ws us.hs m1 m2 zc) (twF dq.t (txSt dq.ts dq.te dq.tl dq.tc t9 ix, txEn dq.te dq.tc t9))).xn := lxW_mo (shlI 1 r) (twF dq.t (txSt dq.ts dq.te dq.tl dq.tc t9 ix, txEn dq.te dq.tc t9)) (LxS.mk us.ws us.hs m1 m2 zc)
                  have hzi := hLRi.2.2.1
                  have hci := hLRi.2.2.2.1
                  refine lv_aload_n hx hb d_L_rebuild_55 rfl (lv_at hl 5 rfl) ?_
                  refine lv_aload_n hx hb d_L_rebuild_56 rfl (lv_at hl 3 rfl) ?_
                  refine lv_iload hx hb d_L_rebuild_57 (lv_at hl 1 rfl) ?_
                  refine li_ald hx hb hK (li_ro hRo hRoN hS) 0 4 rfl rfl (by omega) (by omega) (by omega) d_L_rebuild_59 ?_
                  refine li_rfS (a := dq.ho) (by exact shO_s hd2) ?_
                  refine lv_iload hx hb d_L_rebuild_60 (lv_at hl 0 rfl) ?_
                  refine lv_iload_n hx hb d_L_rebuild_62 rfl (lv_at hl 4 rfl) ?_
                  refine li_callw (wc := [(wo, .inr (9, [.ref wl, .ref wb, .ref we, .int (iI vz)])), (wl, .inl (kA 1, wn, .inl (aI vl))), (wb, .inl (kA 0, wk, .inl (aI vb))), (we, .inl (kA 0, wk, .inl (aI ve)))]) (wr := [(xo, .inr (5, [.ref p1, .int (iI zc), .ref p2, .ref p3, .ref p4, .int (iI zz), .int (iI (bI xs))])), (p1, .inl (kA 1, m1, .inl (aI h1))), (p2, .inl (kA 0, m2, .inl (aI h2))), (p3, .inl (kA 0, m2, .inl (aI h3))), (p4, .inl (kA 0, m2, .inl (aI h4)))]) (va_runV (As := [.ref dq.ho, .int (iI t9), .int (iI ix)]) (rest := []) ⟨hx, hb, hml, hown, hts⟩ (c_W_readText2 l dC dI kA H.size wo wl wb we wn wk vz vl vb ve dq.ho dq.oc dq.xi dq.xs dq.xe dq.xl dq.n dq.mx dq.fd dq.tc dq.t dq.ti dq.ts dq.te dq.tl t9 ix (by exact hWi) (by exact hH_dq) (by omega) (by omega) (by rw [h6]; omega)) (cw_L_41 hts rfl rfl ⟨Nat.le_of_ble_eq_true rfl, Nat.le_of_ble_eq_true rfl⟩) (li_preV (va_recv hK hP (ci := 9) (q0 := 5) rfl rfl) ⟨rfl, hP.sub [5, 6, 7, 8] rfl, (hD.sub [5, 6, 7, 8] (by decide) rfl).weaken (fun _ _ _ h => hAN _ h), (va_P.app ((li_ro hR_dq hN_dq hS).sub [0] rfl) (va_P.app ((li_ro hR_dq hN_dq hS).sub [1] rfl) (va_P.app ((li_ro hR_dq hN_dq hS).sub [2] rfl) (va_P.app ((li_ro hR_dq hN_dq hS).sub [3] rfl) (va_P.app ((li_ro hR_dq hN_dq hS).sub [4] rfl) ((li_ro hR_dq hN_dq hS).sub [5] rfl)))))), (dj_cons (dj_r (hN_dq 0 _ rfl) hD [5, 6, 7, 8] rfl) (dj_cons (dj_r (hN_dq 1 _ rfl) hD [5, 6, 7, 8] rfl) (dj_cons (dj_r (hN_dq 2 _ rfl) hD [5, 6, 7, 8] rfl) (dj_cons (dj_r (hN_dq 3 _ rfl) hD [5, 6, 7, 8] rfl) (dj_cons (dj_r (hN_dq 4 _ rfl) hD [5, 6, 7, 8] rfl) (dj_cons (dj_r (hN_dq 5 _ rfl) hD [5, 6, 7, 8] rfl) dj_nil))))))⟩ hK hN (hG.go hS hAN)) rfl rfl hl.1 rfl (lv_room (Nat.le_of_ble_eq_true rfl)) d_L_rebuild_63 ⟨(by show (m2 - xk) + (m1 - xn) + 0 ≤ (((rbM sv ix xn xk).xk - xk) + ((rbM sv ix xn xk).xn - xn)); omega), (by show 6 * (m2 - xk) + 2 * (m1 - xn) + 0 ≤ (6 * ((rbM sv ix xn xk).xk - xk) + 2 * ((rbM sv ix xn xk).xn - xn)); omega)⟩) hP hD hS hA [5, 6, 7, 8] [0, 1, 2, 3, 4] rfl rfl (by decide) (by decide) (fun u5 H locs hu5 hP hD hS _hk => ?_)
                  obtain ⟨w_z, w_l, w_b, w_e⟩ := u5
                  have hP : va_P (dC, dI) CL [(xo, .inr (5, [.ref p1, .int (iI zc), .ref p2, .ref p3, .ref p4, .int (iI zz), .int (iI (bI xs))])), (p1, .inl (kA 1, m1, .inl (aI h1))), (p2, .inl (kA 0, m2, .inl (aI h2))), (p3, .inl (kA 0, m2, .inl (aI h3))), (p4, .inl (kA 0, m2, .inl (aI h4))), (wo, .inr (9, [.ref wl, .ref wb, .ref we, .int (iI w_z)])), (wl, .inl (kA 1, wn, .inl (aI w_l))), (wb, .inl (kA 0, wk, .inl (aI w_b))), (we, .inl (kA 0, wk, .inl (aI w_e)))] H := hP
                  have hD : va_D A [(xo, .inr (5, [.ref p1, .int (iI zc), .ref p2, .ref p3, .ref p4, .int (iI zz), .int (iI (bI xs))])), (p1, .inl (kA 1, m1, .inl (aI h1))), (p2, .inl (kA 0, m2, .inl (aI h2))), (p3, .inl (kA 0, m2, .inl (aI h3))), (p4, .inl (kA 0, m2, .inl (aI h4))), (wo, .inr (9, [.ref wl, .ref wb, .ref we, .int (iI w_z)])), (wl, .inl (kA 1, wn, .inl (aI w_l))), (wb, .inl (kA 0, wk, .inl (aI w_b))), (we, .inl (kA 0, wk, .inl (aI w_e)))] := hD
                  have hp63 : WR wn wk w_z w_l w_b w_e ∧ WL (wsF dq.t false (txSt dq.ts dq.te dq.tl dq.tc t9 ix) (txEn dq.te dq.tc t9)) w_z w_l w_b w_e := hu5
                  have hlz := hp63.2.len
                  have hwb2 : smL (twF dq.t (txSt dq.ts dq.te dq.tl dq.tc t9 ix, txEn dq.te dq.tc t9)) ≤ txEn dq.te dq.tc t9 - txSt dq.ts dq.te dq.tl dq.tc t9 ix := hwb.1
                  refine lv_aload_n hx hb d_L_rebuild_66 rfl (lv_at hl 2 rfl) ?_
                  refine lv_aload_n hx hb d_L_rebuild_67 rfl (lv_at hl 5 rfl) ?_
                  refine lv_iconst (v := iI 1) hx hb d_L_rebuild_68 rfl ?_
                  refine lv_iload hx hb d_L_rebuild_69 (lv_at hl 1 rfl) ?_
                  refine li_ishlI hx hb d_L_rebuild_71 ?_
                  refine li_callw (wc := [(xo, .inr (5, [.ref p1, .int (iI zc), .ref p2, .ref p3, .ref p4, .int (iI zz), .int (iI (bI xs))])), (p1, .inl (kA 1, m1, .inl (aI h1))), (p2, .inl (kA 0, m2, .inl (aI h2))), (p3, .inl (kA 0, m2, .inl (aI h3))), (p4, .inl (kA 0, m2, .inl (aI h4))), (wo, .inr (9, [.ref wl, .ref wb, .ref we, .int (iI w_z)])), (wl, .inl (kA 1, wn, .inl (aI w_l))), (wb, .inl (kA 0, wk, .inl (aI w_b))), (we, .inl (kA 0, wk, .inl (aI w_e)))]) (wr := []) (va_runV (As := [.ref wo, .int (iI (shlI 1 r))]) (rest := []) ⟨hx, hb, hml, hown, hts⟩ (c_L_addWords l dC dI kA H.size xo p1 p2 p3 p4 m1 m2 zc zz xs h1 h2 h3 h4 wo wl wb we wn wk w_z w_l w_b w_e (shlI 1 r) us.ws us.hs (twF dq.t (txSt dq.ts dq.te dq.tl dq.tc t9 ix, txEn dq.te dq.tc t9)) (by exact hLRi) (by exact hLXi) (by exact hp63.1) (by exact hp63.2) (by omega) (by omega) (by omega) (by exact shl_r9 (by omega))) (cw_L_47 hts rfl rfl ⟨Nat.le_of_ble_eq_true rfl, Nat.le_of_ble_eq_true rfl⟩) (li_preV (va_recv hK hP (ci := 5) (q0 := 0) rfl rfl) ⟨rfl, hP.sub [0, 1, 2, 3, 4, 5, 6, 7, 8] rfl, (hD.sub [0, 1, 2, 3, 4, 5, 6, 7, 8] (by decide) rfl).weaken (fun _ _ _ h => hAN _ h), trivial⟩ hK hN (hG.go hS hAN)) rfl rfl hl.1 rfl (lv_room (Nat.le_of_ble_eq_true rfl)) d_L_rebuild_72 ⟨(by show (m2 - xk) + (m1 - xn) + (((lxW (shlI 1 r) (LxS.mk us.ws us.hs m1 m2 zc) (twF dq.t (txSt dq.ts dq.te dq.tl dq.tc t9 ix, txEn dq.te dq.tc t9))).xk - m2) + ((lxW (shlI 1 r) (LxS.mk us.ws us.hs m1 m2 zc) (twF dq.t (txSt dq.ts dq.te dq.tl dq.tc t9 ix, txEn dq.te dq.tc t9))).xn - m1)) ≤ (((rbM sv ix xn xk).xk - xk) + ((rbM sv ix xn xk).xn - xn)); omega), (by show 6 * (m2 - xk) + 2 * (m1 - xn) + (6 * ((lxW (shlI 1 r) (LxS.mk us.ws us.hs m1 m2 zc) (twF dq.t (txSt dq.ts dq.te dq.tl dq.tc t9 ix, txEn dq.te dq.tc t9))).xk - m2) + 2 * ((lxW (shlI 1 r) (LxS.mk us.ws us.hs m1 m2 zc) (twF dq.t (txSt dq.ts dq.te dq.tl dq.tc t9 ix, txEn dq.te dq.tc t9))).xn - m1)) ≤ (6 * ((rbM sv ix xn xk).xk - xk) + 2 * ((rbM sv ix xn xk).xn - xn)); omega)⟩) hP hD hS hA [0, 1, 2, 3, 4, 5, 6, 7, 8] [] rfl rfl (by decide) (by decide) (fun u6 H locs hu6 hP hD hS _hk => ?_)
                  obtain ⟨b_1, b_2, b_3, b_4, n_9, k_9, f_1, f_2, f_3, f_4, c_9, z_9⟩ := u6
                  have hP : va_P (dC, dI) CL [(xo, .inr (5, [.ref b_1, .int (iI c_9), .ref b_2, .ref b_3, .ref b_4, .int (iI z_9), .int (iI (bI xs))])), (b_1, .inl (kA 1, n_9, .inl (aI f_1))), (b_2, .inl (kA 0, k_9, .inl (aI f_2))), (b_3, .inl (kA 0, k_9, .inl (aI f_3))), (b_4, .inl (kA 0, k_9, .inl (aI f_4))), (wo, .inr (9, [.ref wl, .ref wb, .ref we, .int (iI w_z)])), (wl, .inl (kA 1, wn, .inl (aI w_l))), (wb, .inl (kA 0, wk, .inl (aI w_b))), (we, .inl (kA 0, wk, .inl (aI w_e)))] H := hP
                  have hD : va_D A [(xo, .inr (5, [.ref b_1, .int (iI c_9), .ref b_2, .ref b_3, .ref b_4, .int (iI z_9), .int (iI (bI xs))])), (b_1, .inl (kA 1, n_9, .inl (aI f_1))), (b_2, .inl (kA 0, k_9, .inl (aI f_2))), (b_3, .inl (kA 0, k_9, .inl (aI f_3))), (b_4, .inl (kA 0, k_9, .inl (aI f_4))), (wo, .inr (9, [.ref wl, .ref wb, .ref we, .int (iI w_z)])), (wl, .inl (kA 1, wn, .inl (aI w_l))), (wb, .inl (kA 0, wk, .inl (aI w_b))), (we, .inl (kA 0, wk, .inl (aI w_e)))] := hD
                  have hp72 : LR n_9 k_9 c_9 z_9 f_1 f_2 f_3 f_4 ∧ LX (lxW (shlI 1 r) (LxS.mk us.ws us.hs m1 m2 zc) (twF dq.t (txSt dq.ts dq.te dq.tl dq.tc t9 ix, txEn dq.te dq.tc t9))).ws (lxW (shlI 1 r) (LxS.mk us.ws us.hs m1 m2 zc) (twF dq.t (txSt dq.ts dq.te dq.tl dq.tc t9 ix, txEn dq.te dq.tc t9))).hs c_9 z_9 f_1 f_2 f_3 f_4 ∧ (lxW (shlI 1 r) (LxS.mk us.ws us.hs m1 m2 zc) (twF dq.t (txSt dq.ts dq.te dq.tl dq.tc t9 ix, txEn dq.te dq.tc t9))).xn = n_9 ∧ (lxW (shlI 1 r) (LxS.mk us.ws us.hs m1 m2 zc) (twF dq.t (txSt dq.ts dq.te dq.tl dq.tc t9 ix, txEn dq.te dq.tc t9))).xk = k_9 ∧ (lxW (shlI 1 r) (LxS.mk us.ws us.hs m1 m2 zc) (twF dq.t (txSt dq.ts dq.te dq.tl dq.tc t9 ix, txEn dq.te dq.tc t9))).xc = c_9 ∧ z_9 ≤ zz + w_z ∧ c_9 ≤ zc + smL (twF dq.t (txSt dq.ts dq.te dq.tl dq.tc t9 ix, txEn dq.te dq.tc t9)) ∧ m2 ≤ k_9 ∧ k_9 ≤ 4000 ∧ m1 ≤ n_9 ∧ n_9 ≤ 9500 := hu6
                  obtain ⟨hA1, hA2, hA3, hA4, hA5, hA6⟩ := hp72
                  obtain ⟨us2, eus2⟩ : ∃ v, v = lxW (shlI 1 r) us (twF dq.t (txSt dq.ts dq.te dq.tl dq.tc t9 ix, txEn dq.te dq.tc t9)) := ⟨_, rfl⟩
                  obtain ⟨t_n, et_n⟩ : ∃ y_9 : Int, y_9 = t9 + 1 := ⟨_, rfl⟩
                  refine lv_iinc (v := iI t_n) (lv' := [(5, .int (iI t_n)), (4, .int (iI r)), (0, .ref xo), (1, .ref sa), (2, .int (iI ix)), (3, .ref wo)]) hx hb d_L_rebuild_75 hl (k := 0) rfl (by rw [et_n]; exact iI_add _ _) (by decide) rfl (fun ls hl => ?_)
                  refine lv_goto (tgt := 23) hx hb d_L_rebuild_78 (by decide) ?_
                  refine W.widen (k := (k_9 - xk) + (n_9 - xn)) (n := 6 * (k_9 - xk) + 2 * (n_9 - xn)) (by omega) (by omega) ?_
                  exact ih_23 t_n us2 b_1 b_2 b_3 b_4 n_9 k_9 f_1 f_2 f_3 f_4 c_9 z_9 w_z w_l w_b w_e (by first | exact hA1 | exact hLRi) (by first | (rw [eus2]; exact hLXi) | (rw [eus2, ← hus]; exact hA2)) (by first | (rw [eus2]; exact hcpi) | (rw [eus2, ← hus]; exact ⟨hA3, hA4, hA5⟩)) (by omega) (by first | exact hp63.1 | exact hWi) (by intro d hd9; obtain rfl : dq = d := Option.some.inj (hk_dq.symm.trans hd9); rw [et_n]; first | exact ⟨by omega, hsm2, by omega, by omega⟩ | exact ⟨by omega, hsr, by omega, by omega⟩) (by first | (rw [eus2, et_n, ← hin, hk_dq]; show rbT _ dq.t _ us = rbT _ dq.t (txL dq.ti dq.ts dq.te dq.tl dq.tc ix (dq.tc - t9).toNat t9) us; rw [hte1]) | (rw [eus2, et_n, ← hro, hk_dq]; rfl)) (by omega) _ _ hP hD hS _ (lv_sub hl [0, 1, 2, 3, 4, 5] rfl)
        refine W.widen (k := (m2 - xk) + (m1 - xn)) (n := 6 * (m2 - xk) + 2 * (m1 - xn)) (by omega) (by omega) ?_
        exact K_23 ((2000 - (0 : Int)).toNat + 1) 0 cur p1 p2 p3 p4 m1 m2 h1 h2 h3 h4 zc zz vz vl vb ve (by exact hLR) (by exact hLX) (by exact hcp) (by omega) (by exact hWv) (by intro d hd9; obtain ⟨⟨hH9, ht9⟩, hx9⟩ := hHD _ _ hd9; have hx := hx9 ix; have htc := hH9.2.2.1; have hx1 : tsum (txL d.ti d.ts d.te d.tl d.tc ix d.tc.toNat 0) ≤ 400 := hx.1; rw [Int.sub_zero]; exact ⟨by omega, hx.2, by omega, by omega⟩) (by rfl) (Nat.lt_succ_self _) _ _ hP hD hS _ (lv_sub hl [0, 1, 2, 3, 4, 5] rfl)
  refine W.widen (k := (xk - xk) + (xn - xn)) (n := 6 * (xk - xk) + 2 * (xn - xn)) (by omega) (by omega) ?_
  exact K_13 ((10 - (0 : Int)).toNat + 1) 0 (LxS.mk [] [] xn xk 0) xl xb xe xh xn xk lx bx ex hd 0 0 wz lt sb se (by omega) (by exact hL.zero) (by exact LX.nil) (by exact ⟨rfl, rfl, rfl⟩) (by omega) (by exact hW) (by rfl) (Nat.lt_succ_self _) _ _ hP hD hS _ (lv_sub hl [0, 1, 2, 3, 4] rfl)

/-! the reference's list of WORDS -/
theorem HL.getD {ps : List (Int × Int)} {n : Int} {f g : Nat → Int} (h : HL ps n f g) {k : Int} (h0 : 0 ≤ k) (h1 : k < n) : ps.getD k.toNat (0, 0) = (f k.toNat, g k.toNat) := by
  obtain ⟨e1, e2⟩ := h
  have hj : k.toNat < ps.length := by omega
  have := e2 k.toNat hj
  rw [getD_at hj, this.1, this.2]
theorem HL.len {ps : List (Int × Int)} {n : Int} {f g : Nat → Int} (h : HL ps n f g) : (ps.length : Int) = n := h.1.symm
theorem HL.ins {ps : List (Int × Int)} {n : Int} {f g f2 g2 : Nat → Int} (h : HL ps n f g) {k : Int} (h0 : 0 ≤ k) (h1 : k ≤ n) {x y : Int}
    (hf1 : ∀ j : Nat, (j : Int) < k → f2 j = f j ∧ g2 j = g j) (hf2 : f2 k.toNat = x ∧ g2 k.toNat = y) (hf3 : ∀ j : Nat, k < (j : Int) → (j : Int) ≤ n → f2 j = f (j - 1) ∧ g2 j = g (j - 1)) :
    HL (ps.take k.toNat ++ (x, y) :: ps.drop k.toNat) (n + 1) f2 g2 := by
  obtain ⟨e1, e2⟩ := h
  have hk : k.toNat ≤ ps.length := by omega
  refine ⟨by simp only [List.length_append, List.length_take, List.length_cons, List.length_drop]; omega, ?_⟩
  intro j hj
  simp only [List.length_append, List.length_take, List.length_cons, List.length_drop] at hj
  by_cases q : j < k.toNat
  · have a1 := hf1 j (by omega)
    have a2 := e2 j (by omega)
    rw [List.getElem_append_left (by rw [List.length_take]; omega), List.getElem_take, a1.1, a1.2]
    exact a2
  · rw [List.getElem_append_right (by rw [List.length_take]; omega)]
    by_cases q2 : j = k.toNat
    · subst q2
      have e : k.toNat - (ps.take k.toNat).length = 0 := by rw [List.length_take]; omega
      simp only [e, List.getElem_cons_zero]
      exact hf2
    · have a1 := hf3 j (by omega) (by omega)
      have a2 := e2 (j - 1) (by omega)
      have e : j - (ps.take k.toNat).length = (j - 1 - k.toNat) + 1 := by rw [List.length_take]; omega
      simp only [e, List.getElem_cons_succ, List.getElem_drop]
      rw [a1.1, a1.2]
      have e3 : k.toNat + (j - 1 - k.toNat) = j - 1 := by omega
      simp only [e3]
      exact a2
theorem LB.ins {ps : List (Int × Int)} {lo hi : Int} (h : LB ps lo hi) (k : Nat) {x y : Int} (hx : lo ≤ x ∧ x ≤ y ∧ y ≤ hi) : LB (ps.take k ++ (x, y) :: ps.drop k) lo hi := by
  intro q hq
  rcases List.mem_append.mp hq with h1 | h1
  · exact h q (List.mem_of_mem_take h1)
  · rcases List.mem_cons.mp h1 with h2 | h2
    · subst h2; exact hx
    · exact h q (List.mem_of_mem_drop h2)
def plL (ca : Nat → Int) (ws : List (Int × Int)) (x y : Int) : Nat → Int → Int → Int
  | 0, lo, _ => lo
  | k + 1, lo, hi => if lo < hi then (if cmM ca (ws.getD ((lo + hi) / 2).toNat (0, 0)).1 (ws.getD ((lo + hi) / 2).toNat (0, 0)).2 x y < 0 then plL ca ws x y k ((lo + hi) / 2 + 1) hi else plL ca ws x y k lo ((lo + hi) / 2)) else lo
def plM (ca : Nat → Int) (ws : List (Int × Int)) (x y : Int) : Int := plL ca ws x y 5000 0 ws.length
theorem plL_r {ca : Nat → Int} {ws : List (Int × Int)} {x y : Int} : ∀ (k : Nat) (lo hi : Int), lo ≤ hi → lo ≤ plL ca ws x y k lo hi ∧ plL ca ws x y k lo hi ≤ hi := by
  intro k
  induction k with
  | zero => intro lo hi h; simp only [plL]; omega
  | succ k ih =>
    intro lo hi h
    simp only [plL]
    split
    · split
      · have := ih ((lo + hi) / 2 + 1) hi (by omega); omega
      · have := ih lo ((lo + hi) / 2) (by omega); omega
    · omega
theorem plM_r {ca : Nat → Int} {ws : List (Int × Int)} {x y : Int} : 0 ≤ plM ca ws x y ∧ plM ca ws x y ≤ ws.length := plL_r 5000 0 _ (by omega)
/-- one WORD more -/
def inM (ca : Nat → Int) (ws : List (Int × Int)) (q : Int × Int) : List (Int × Int) := if plM ca ws q.1 q.2 < ws.length ∧ cmM ca (ws.getD (plM ca ws q.1 q.2).toNat (0, 0)).1 (ws.getD (plM ca ws q.1 q.2).toNat (0, 0)).2 q.1 q.2 = 0 then ws else ws.take (plM ca ws q.1 q.2).toNat ++ q :: ws.drop (plM ca ws q.1 q.2).toNat
def lsW (ca : Nat → Int) (ws : List (Int × Int)) (t : Int × Int) : List (Int × Int) := (spW ca false t.1 t.2).foldl (inM ca) ws
def lsT (ca : Nat → Int) (ts ws : List (Int × Int)) : List (Int × Int) := ts.foldl (lsW ca) ws
def lsL (ca le : Nat → Int) (ix : Int) : Nat → Int → List (Int × Int) → List (Int × Int)
  | 0, _, ws => ws
  | k + 1, r, ws => lsL ca le ix k (r + 1) (if le r.toNat = 0 then ws else lsT ca (gaT ca r ix) ws)
def lsM (ca le : Nat → Int) (ix : Int) : List (Int × Int) := lsL ca le ix 10 0 []
/-- how much room TEXTS take -/
def tsum : List (Int × Int) → Int
  | [] => 0
  | q :: t => (q.2 - q.1 + 1) + tsum t
theorem tsum_app : ∀ a b : List (Int × Int), tsum (a ++ b) = tsum a + tsum b := by
  intro a
  induction a with
  | nil => intro b; simp [tsum]
  | cons q a ih => intro b; simp only [List.cons_append, tsum, ih]; omega
theorem edM_n {f : Nat → Int} {b : Bool} : ∀ (k : Nat) (x : Int), edL f b k x = x + k ∨ ¬ isLw (f (edL f b k x).toNat) b = true := by
  intro k
  induction k with
  | zero => intro x; exact Or.inl (by simp [edL])
  | succ k ih =>
    intro x; simp only [edL]
    split
    · rcases ih (x + 1) with h | h
      · exact Or.inl (by rw [h]; omega)
      · exact Or.inr h
    · exact Or.inr (by assumption)
theorem spT_len {f : Nat → Int} {b : Bool} {y : Int} : ∀ (k : Nat) (x : Int), x ≤ y → (x < y → isLw (f x.toNat) b = true) → 2 * ((spT f b y k x).length : Int) ≤ y - x + 1 := by
  intro k
  induction k with
  | zero => intro x h _; simp only [spT, List.length_nil]; omega
  | succ k ih =>
    intro x h hl
    simp only [spT]
    split
    · simp only [List.length_nil]; omega
    · rename_i h1
      have e0 := edM_p (f := f) (b := b) (x := x) (y := y) (by omega) (hl (by omega))
      have e1 := edM_r (f := f) (b := b) h
      have e2 := bgM_r (f := f) (b := b) e1.2
      have e3 := ih (bgM f b (edM f b x y) y) e2.2 (fun h5 => bgM_w e1.2 h5)
      simp only [List.length_cons]
      by_cases q : edM f b x y = y
      · have e4 : bgM f b (edM f b x y) y = y := by omega
        rw [e4] at e3 ⊢
        have e5 : spT f b y k y = [] := by cases k <;> simp [spT]
        rw [e5] at e3 ⊢
        simp only [List.length_nil] at *
        omega
      · have e5 : edM f b x y + 1 ≤ bgM f b (edM f b x y) y := by
          have h6 : ¬ isLw (f (edM f b x y).toNat) b = true := by
            unfold edM
            rcases edM_n (f := f) (b := b) (y - x).toNat x with h7 | h7
            · exfalso; unfold edM at q; omega
            · exact h7
          unfold bgM
          rw [show (y - edM f b x y).toNat = (y - edM f b x y - 1).toNat + 1 by omega]
          simp only [bgL]
          rw [if_neg h6]
          exact (bgL_r _ _).1
        push_cast
        omega
theorem spW_len {f : Nat → Int} {b : Bool} {x y : Int} (h : x ≤ y) : 2 * ((spW f b x y).length : Int) ≤ y - x + 1 := by
  have e2 := bgM_r (f := f) (b := b) h
  have := spT_len (f := f) (b := b) (y := y) 1000 (bgM f b x y) e2.2 (fun h5 => bgM_w h h5)
  unfold spW; omega
theorem gpT_sum {f : Nat → Int} {ix tag x y : Int} (hy : f y.toNat = 30) (hfr : FRs f x y) (hxy : y < x + 400) : ∀ (k : Nat) (q : Int), x ≤ q → q ≤ y → (q < y → f q.toNat = 31) → tsum (gpT f ix tag x y k q) ≤ y - q := by
  intro k
  induction k with
  | zero => intro q _ h _; simp only [gpT, tsum]; omega
  | succ k ih =>
    intro q h0 h1 h2
    simp only [gpT]
    split
    · simp only [tsum]; omega
    · have h3 := toA_r hy hfr hxy ⟨h0, by omega⟩ (h2 (by omega))
      have h4 := ih (toA f (q + 2)) (by omega) h3.2.1 h3.2.2
      rw [tsum_app]
      have h5 : tsum (gp1 f ix tag x q (toA f (q + 2))) ≤ toA f (q + 2) - q := by
        unfold gp1
        split
        · have h6 : 0 ≤ skF f ix x (f (q + 1).toNat) := by
            unfold skF; split
            · rename_i h7; have := isDig_r h7.2.2; omega
            · omega
          simp only [tsum]; split <;> omega
        · simp only [tsum]; omega
      omega
theorem gaT_sum {ca : Nat → Int} {r ix : Int} {rn : Nat} (hr0 : 0 ≤ r ∧ r ≤ 9) (hRA : RecA (octM ca r) rn) : tsum (gaT ca r ix) ≤ 400 := by
  obtain ⟨base, fd, sf, hn4, ⟨hfd, hbase, hs0, hsn, hf⟩, hX, hnb, hfd1⟩ := hRA
  have hb0 : numM ca 5 (400 * r + 12) 0 = base := by rw [← hnb]; exact numA_oct hr0.1 (x := 12) (k := 5) (by omega) (by omega) (by omega)
  have key : ∀ (k : Nat) (e1 : Int), 0 ≤ e1 → e1 + k = fd → tsum (gaL ca r ix k e1) ≤ sf fd - sf e1 := by
    intro k
    induction k with
    | zero => intro e1 _ h; simp only [gaL, tsum]; rw [show e1 = fd by omega]; omega
    | succ k ih =>
      intro e1 h0 h1
      simp only [gaL]
      rw [tsum_app]
      have h2 := ih (e1 + 1) (by omega) (by omega)
      obtain ⟨ftag, fst, flen, fb, fid, fsub⟩ := hf e1 (by omega) (by omega)
      obtain ⟨x30, xno, xsub⟩ := hX e1 (by omega) (by omega)
      have etag : numM ca 3 (400 * r + 24 + 12 * e1) 0 = numAt (octM ca r) rn (24 + e1 * 12) 3 := by rw [show 400 * r + 24 + 12 * e1 = 400 * r + (24 + e1 * 12) by omega]; exact numA_oct (k := 3) hr0.1 (by omega) (by omega) (by omega)
      have est : 400 * r + numM ca 5 (400 * r + 12) 0 + numM ca 5 (400 * r + 24 + 12 * e1 + 7) 0 = 400 * r + sf e1 := by rw [← fst, hb0, show 400 * r + 24 + 12 * e1 + 7 = 400 * r + (24 + e1 * 12 + 7) by omega, ← numA_oct (ca := ca) (r := r) (n := rn) (k := 5) hr0.1 (by omega) (by omega) (by omega)]; exact Int.add_assoc _ _ _
      have een : numM ca 4 (400 * r + 24 + 12 * e1 + 3) 0 = sf (e1 + 1) - sf e1 := by rw [← flen, show 400 * r + 24 + 12 * e1 + 3 = 400 * r + (24 + e1 * 12 + 3) by omega]; exact numA_oct (ca := ca) (r := r) (n := rn) (k := 4) hr0.1 (by omega) (by omega) (by omega)
      have h3 : tsum (gaE ca r ix e1) ≤ sf (e1 + 1) - sf e1 := by
        unfold gaE
        rw [est, een, etag]
        split
        · split
          · simp only [tsum]; omega
          · simp only [tsum]; omega
        · rename_i ht
          have hg := fsub (by omega)
          have hfr := fr_oct hr0.1 (show 0 ≤ sf e1 by omega) xno (xsub (by omega))
          rw [show 400 * r + sf e1 + (sf (e1 + 1) - sf e1) - 1 = 400 * r + (sf (e1 + 1) - 1) by omega]
          have := gpT_sum (ix := ix) (tag := numAt (octM ca r) rn (24 + e1 * 12) 3) (x := 400 * r + sf e1) (y := 400 * r + (sf (e1 + 1) - 1)) (by rw [← octM_at (ca := ca) hr0.1 (by omega)]; exact x30) hfr (by omega) 500 (400 * r + sf e1 + 2) (by omega) (by omega) (fun _ => by rw [show 400 * r + sf e1 + 2 = 400 * r + (sf e1 + 2) by omega, ← octM_at (ca := ca) hr0.1 (by omega)]; exact hg.2)
          unfold gpA; omega
      omega
  have := key fd.toNat 0 (by omega) (by omega)
  unfold gaT
  rw [hb0, show (base - 25) / 12 = fd by omega]
  omega
theorem tsum_nn {lo hi : Int} : ∀ ps : List (Int × Int), LB ps lo hi → 0 ≤ tsum ps := by
  intro ps
  induction ps with
  | nil => intro _; simp [tsum]
  | cons q ps ih =>
    intro h
    have h1 := h q (List.mem_cons_self ..)
    have h2 := ih (fun z hz => h z (List.mem_cons_of_mem _ hz))
    simp only [tsum]; omega
theorem LB.drop {ps : List (Int × Int)} {lo hi : Int} (h : LB ps lo hi) (k : Nat) : LB (ps.drop k) lo hi := fun q hq => h q (List.mem_of_mem_drop hq)

theorem d_M_placeOf_0 : decode b_M_placeOf 0 = .ok (.iconst 0, 1) := by decide +kernel
theorem d_M_placeOf_1 : decode b_M_placeOf 1 = .ok (.istore_n 3, 1) := by decide +kernel
theorem d_M_placeOf_2 : decode b_M_placeOf 2 = .ok (.aload_n 0, 1) := by decide +kernel
theorem d_M_placeOf_3 : decode b_M_placeOf 3 = .ok (.getfield 323, 3) := by decide +kernel
theorem d_M_placeOf_6 : decode b_M_placeOf 6 = .ok (.istore 4, 2) := by decide +kernel
theorem d_M_placeOf_8 : decode b_M_placeOf 8 = .ok (.iload_n 3, 1) := by decide +kernel
theorem d_M_placeOf_9 : decode b_M_placeOf 9 = .ok (.iload 4, 2) := by decide +kernel
theorem d_M_placeOf_11 : decode b_M_placeOf 11 = .ok (.if_icmp .ge 49, 3) := by decide +kernel
theorem d_M_placeOf_14 : decode b_M_placeOf 14 = .ok (.iload_n 3, 1) := by decide +kernel
theorem d_M_placeOf_15 : decode b_M_placeOf 15 = .ok (.iload 4, 2) := by decide +kernel
theorem d_M_placeOf_17 : decode b_M_placeOf 17 = .ok (.iadd, 1) := by decide +kernel
theorem d_M_placeOf_18 : decode b_M_placeOf 18 = .ok (.iconst 2, 1) := by decide +kernel
theorem d_M_placeOf_19 : decode b_M_placeOf 19 = .ok (.idiv, 1) := by decide +kernel
theorem d_M_placeOf_20 : decode b_M_placeOf 20 = .ok (.istore 5, 2) := by decide +kernel
theorem d_M_placeOf_22 : decode b_M_placeOf 22 = .ok (.aload_n 0, 1) := by decide +kernel
theorem d_M_placeOf_23 : decode b_M_placeOf 23 = .ok (.aload_n 0, 1) := by decide +kernel
theorem d_M_placeOf_24 : decode b_M_placeOf 24 = .ok (.getfield 47, 3) := by decide +kernel
theorem d_M_placeOf_27 : decode b_M_placeOf 27 = .ok (.iload 5, 2) := by decide +kernel
theorem d_M_placeOf_29 : decode b_M_placeOf 29 = .ok (.iaload, 1) := by decide +kernel
theorem d_M_placeOf_30 : decode b_M_placeOf 30 = .ok (.aload_n 0, 1) := by decide +kernel
theorem d_M_placeOf_31 : decode b_M_placeOf 31 = .ok (.getfield 50, 3) := by decide +kernel
theorem d_M_placeOf_34 : decode b_M_placeOf 34 = .ok (.iload 5, 2) := by decide +kernel
theorem d_M_placeOf_36 : decode b_M_placeOf 36 = .ok (.iaload, 1) := by decide +kernel
theorem d_M_placeOf_37 : decode b_M_placeOf 37 = .ok (.iload_n 1, 1) := by decide +kernel
theorem d_M_placeOf_38 : decode b_M_placeOf 38 = .ok (.iload_n 2, 1) := by decide +kernel
theorem d_M_placeOf_39 : decode b_M_placeOf 39 = .ok (.invokevirtual 307, 3) := by decide +kernel
theorem d_M_placeOf_42 : decode b_M_placeOf 42 = .ok (.ifCond .ge 11, 3) := by decide +kernel
theorem d_M_placeOf_45 : decode b_M_placeOf 45 = .ok (.iload 5, 2) := by decide +kernel
theorem d_M_placeOf_47 : decode b_M_placeOf 47 = .ok (.iconst 1, 1) := by decide +kernel
theorem d_M_placeOf_48 : decode b_M_placeOf 48 = .ok (.iadd, 1) := by decide +kernel
theorem d_M_placeOf_49 : decode b_M_placeOf 49 = .ok (.istore_n 3, 1) := by decide +kernel
theorem d_M_placeOf_50 : decode b_M_placeOf 50 = .ok (.goto 7, 3) := by decide +kernel
theorem d_M_placeOf_53 : decode b_M_placeOf 53 = .ok (.iload 5, 2) := by decide +kernel
theorem d_M_placeOf_55 : decode b_M_placeOf 55 = .ok (.istore 4, 2) := by decide +kernel
theorem d_M_placeOf_57 : decode b_M_placeOf 57 = .ok (.goto (-49), 3) := by decide +kernel
theorem d_M_placeOf_60 : decode b_M_placeOf 60 = .ok (.iload_n 3, 1) := by decide +kernel
theorem d_M_placeOf_61 : decode b_M_placeOf 61 = .ok (.ireturn, 1) := by decide +kernel
set_option maxHeartbeats 4000000 in
set_option maxRecDepth 100000 in
theorem c_M_placeOf (l : Launch) (dC : Nat → ClassId) (dI : Nat → Nat → Nat) (kA : Nat → ClassId) (mo : Nat) (ma : Nat → Nat) (mrf : Int) (mz : Int) (mls : Int) (mfp : Int) (mfm : Int) (mtx : Int) (mwd : Int) (mak : Int) (mli : Int) (mlx : Int) (mat : Int) (mtk : Int) (mtf : Int) (mtt : Int) (mfa : Int) (mla : Int) (mlp : Int) (mdp : Int) (msi : Int) (mpf : Int) (mpt : Int) (mdn : Bool) (ca : Nat → Int) (clf : Nat → Int) (clt : Nat → Int) (ws : List (Int × Int)) (x : Int) (y : Int) (hca : C2 ca) (hHL : HL ws mli clf clt) (hLB : LB ws 0 4000) (hli : mli ≤ 2100) (hxy : 0 ≤ x ∧ x ≤ y ∧ y ≤ 4120) : Met l y_M_placeOf (wsy y_M_placeOf b_M_placeOf 6 (some .int)) (rmd 2 0 0) (li_Pr (dC, dI) CL (TY kA) [.ref mo, .int (iI x), .int (iI y)] (va_P (dC, dI) CL [(mo, .inr (10, [.int (iI mrf), .ref (ma 0), .int (iI mz), .ref (ma 1), .ref (ma 2), .int (iI mls), .int (iI mfp), .int (iI mfm), .ref (ma 3), .int (iI mtx), .ref (ma 4), .ref (ma 5), .int (iI mwd), .ref (ma 6), .ref (ma 7), .int (iI mak), .ref (ma 8), .ref (ma 9), .int (iI mli), .int (iI mlx), .ref (ma 10), .ref (ma 11), .int (iI mat), .int (iI mtk), .int (iI mtf), .int (iI mtt), .int (iI mfa), .int (iI mla), .int (iI mlp), .int (iI mdp), .ref (ma 12), .ref (ma 13), .int (iI msi), .int (iI (bI mdn)), .int (iI mpf), .int (iI mpt)])), (ma 1, .inl (kA 0, 4120, .inl (aI ca))), (ma 10, .inl (kA 0, 2100, .inl (aI clf))), (ma 11, .inl (kA 0, 2100, .inl (aI clt)))])) (k2_QcV (.int (iI (plM ca ws x y)))) 0 0 (fun _ => False) := by
  refine li_mr (by decide) (Nat.le_of_ble_eq_true rfl) (by rfl) ?_
  intro p e s m args below meth c Q C hP hK hN hG fin ls hl
  obtain ⟨hx, hb, hr, hml, hown, hts, hlocks, hin⟩ := C
  have hown : s.vm.findClass R_M = some m.cls := hown
  have hP : va_P (dC, dI) CL [(mo, .inr (10, [.int (iI mrf), .ref (ma 0), .int (iI mz), .ref (ma 1), .ref (ma 2), .int (iI mls), .int (iI mfp), .int (iI mfm), .ref (ma 3), .int (iI mtx), .ref (ma 4), .ref (ma 5), .int (iI mwd), .ref (ma 6), .ref (ma 7), .int (iI mak), .ref (ma 8), .ref (ma 9), .int (iI mli), .int (iI mlx), .ref (ma 10), .ref (ma 11), .int (iI mat), .int (iI mtk), .int (iI mtf), .int (iI mtt), .int (iI mfa), .int (iI mla), .int (iI mlp), .int (iI mdp), .ref (ma 12), .ref (ma 13), .int (iI msi), .int (iI (bI mdn)), .int (iI mpf), .int (iI mpt)])), (ma 1, .inl (kA 0, 4120, .inl (aI ca))), (ma 10, .inl (kA 0, 2100, .inl (aI clf))), (ma 11, .inl (kA 0, 2100, .inl (aI clt)))] s.heap := hP
  have hl : lv_has ls 6 [(0, .ref mo), (1, .int (iI x)), (2, .int (iI y))] := hl
  have hln := hHL.len
  have hn0 := hHL.nn
  have K_8 : ∀ (nn_8 : Nat) (lo : Int) (hi : Int) (f : Nat), (0 ≤ lo ∧ lo ≤ hi ∧ hi ≤ mli) → ((hi - lo).toNat < f) → (plL ca ws x y f lo hi = plM ca ws x y) → ((hi - lo).toNat < nn_8) → ∀ ls : Array Slot, lv_has ls 6 [(0, .ref mo), (1, .int (iI x)), (2, .int (iI y)), (3, .int (iI lo)), (4, .int (iI hi))] → W p l e (rmd 2 0 0) s m args below meth c s.heap [] 0 0 Q (F0 m 8 ls []) := by
    intro nn_8
    induction nn_8 with
    | zero => intro lo hi f hlh hff hres hm; exact absurd hm (Nat.not_lt_zero _)
    | succ nn_8 ih_8 =>
      intro lo hi f hlh hff hres hm_8 ls hl
      obtain ⟨g, rfl⟩ : ∃ g, f = g + 1 := ⟨f - 1, by omega⟩
      simp only [plL] at hres
      refine lv_iload_n hx hb d_M_placeOf_8 rfl (lv_at hl 3 rfl) ?_
      refine lv_iload hx hb d_M_placeOf_9 (lv_at hl 4 rfl) ?_
      refine li_icmp_ge (tgt := 60) hx hb d_M_placeOf_11 (by decide) (by first | omega | exact cmr_w (cmM_r hca (by omega))) (by first | omega | exact cmr_w (cmM_r hca (by omega))) (fun c1 => ?_) (fun c1 => ?_)
      · have _q := c1
        rw [if_neg (by omega)] at hres
        refine lv_iload_n hx hb d_M_placeOf_60 rfl (lv_at hl 3 rfl) ?_
        exact fin _ _ _ (by exact hres) d_M_placeOf_61
      · have _q := c1
        rw [if_pos (by assumption)] at hres
        refine lv_iload_n hx hb d_M_placeOf_14 rfl (lv_at hl 3 rfl) ?_
        refine lv_iload hx hb d_M_placeOf_15 (lv_at hl 4 rfl) ?_
        refine li_iadd hx hb d_M_placeOf_17 ?_
        refine lv_iconst (v := iI 2) hx hb d_M_placeOf_18 rfl ?_
        refine li_idiv hx hb d_M_placeOf_19 (by omega) (by omega) (by omega) (by omega) ?_
        refine li_nm (fun md emd => ?_)
        refine lv_istore (lv' := [(5, .int (iI md)), (0, .ref mo), (1, .int (iI x)), (2, .int (iI y)), (3, .int (iI lo)), (4, .int (iI hi))]) hx hb d_M_placeOf_20 hl (by decide) rfl (fun ls hl => ?_)
        have hgd := hHL.getD (k := md) (by omega) (by omega)
        have hlb := hLB _ (hHL.mem (k := md) (by omega) (by omega))
        simp only at hlb
        rw [← emd, hgd] at hres
        simp only at hres
        refine lv_aload_n hx hb d_M_placeOf_22 rfl (lv_at hl 1 rfl) ?_
        refine lv_aload_n hx hb d_M_placeOf_23 rfl (lv_at hl 1 rfl) ?_
        refine gf_M_47 hx hb hts hown hK hP 0 rfl rfl d_M_placeOf_24 ?_
        refine lv_iload hx hb d_M_placeOf_27 (lv_at hl 0 rfl) ?_
        refine li_iald hx hb hK hP 2 0 rfl rfl (by omega) (by omega) (by omega) d_M_placeOf_29 ?_
        refine lv_aload_n hx hb d_M_placeOf_30 rfl (lv_at hl 1 rfl) ?_
        refine gf_M_50 hx hb hts hown hK hP 0 rfl rfl d_M_placeOf_31 ?_
        refine lv_iload hx hb d_M_placeOf_34 (lv_at hl 0 rfl) ?_
        refine li_iald hx hb hK hP 3 0 rfl rfl (by omega) (by omega) (by omega) d_M_placeOf_36 ?_
        refine lv_iload_n hx hb d_M_placeOf_37 rfl (lv_at hl 2 rfl) ?_
        refine lv_iload_n hx hb d_M_placeOf_38 rfl (lv_at hl 3 rfl) ?_
        refine li_callr ((va_runV (As := [.int (iI (clf md.toNat)), .int (iI (clt md.toNat)), .int (iI x), .int (iI y)]) (rest := []) ⟨hx, hb, hml, hown, hts⟩ (c_M_compareWords l dC dI kA mo ma mrf mz mls mfp mfm mtx mwd mak mli mlx mat mtk mtf mtt mfa mla mlp mdp msi mpf mpt mdn ca (clf md.toNat) (clt md.toNat) x y (by exact hca) (by omega)) (cw_M_307 hts rfl rfl ⟨Nat.le_of_ble_eq_true rfl, Nat.le_of_ble_eq_true rfl⟩) (li_preV (va_recv hK hP (ci := 10) (q0 := 0) rfl rfl) (hP.sub [0, 1] rfl) hK hN hG.rd) rfl rfl hl.1 rfl (lv_room (Nat.le_of_ble_eq_true rfl)) d_M_placeOf_39 ⟨(by show 0 + 0 ≤ 0; omega), (by show 0 + 0 ≤ 0; omega)⟩).run) ?_
        refine li_if_ge (tgt := 53) hx hb d_M_placeOf_42 (by decide) (by first | omega | exact cmr_w (cmM_r hca (by omega))) (fun c2 => ?_) (fun c2 => ?_)
        · have _q := c2
          rw [if_neg (by omega)] at hres
          refine lv_iload hx hb d_M_placeOf_53 (lv_at hl 0 rfl) ?_
          refine lv_istore (lv' := [(4, .int (iI md)), (5, .int (iI md)), (0, .ref mo), (1, .int (iI x)), (2, .int (iI y)), (3, .int (iI lo))]) hx hb d_M_placeOf_55 hl (by decide) rfl (fun ls hl => ?_)
          refine lv_goto (tgt := 8) hx hb d_M_placeOf_57 (by decide) ?_
          exact ih_8 lo md g (by omega) (by omega) (by first | (rw [← hln]; rfl) | (rw [el_n]; exact hres) | exact hres) (by omega) _ (lv_sub hl [2, 3, 4, 5, 0] rfl)
        · have _q := c2
          rw [if_pos (by assumption)] at hres
          refine lv_iload hx hb d_M_placeOf_45 (lv_at hl 0 rfl) ?_
          refine lv_iconst (v := iI 1) hx hb d_M_placeOf_47 rfl ?_
          refine li_iadd hx hb d_M_placeOf_48 ?_
          refine li_nm (fun l_n el_n => ?_)
          refine lv_istore_n (lv' := [(3, .int (iI l_n)), (5, .int (iI md)), (0, .ref mo), (1, .int (iI x)), (2, .int (iI y)), (4, .int (iI hi))]) hx hb d_M_placeOf_49 rfl hl (by decide) rfl (fun ls hl => ?_)
          refine lv_goto (tgt := 57) hx hb d_M_placeOf_50 (by decide) ?_
          refine lv_goto (tgt := 8) hx hb d_M_placeOf_57 (by decide) ?_
          exact ih_8 l_n hi g (by omega) (by omega) (by first | (rw [← hln]; rfl) | (rw [el_n]; exact hres) | exact hres) (by omega) _ (lv_sub hl [2, 3, 4, 0, 5] rfl)
  refine lv_iconst (v := iI 0) hx hb d_M_placeOf_0 rfl ?_
  refine lv_istore_n (lv' := [(3, .int (iI 0)), (0, .ref mo), (1, .int (iI x)), (2, .int (iI y))]) hx hb d_M_placeOf_1 rfl hl (by decide) rfl (fun ls hl => ?_)
  refine lv_aload_n hx hb d_M_placeOf_2 rfl (lv_at hl 1 rfl) ?_
  refine gf_M_323 hx hb hts hown hK hP 0 rfl rfl d_M_placeOf_3 ?_
  refine lv_istore (lv' := [(4, .int (iI mli)), (3, .int (iI 0)), (0, .ref mo), (1, .int (iI x)), (2, .int (iI y))]) hx hb d_M_placeOf_6 hl (by decide) rfl (fun ls hl => ?_)
  exact K_8 ((mli - 0).toNat + 1) 0 mli 5000 (by omega) (by omega) (by first | (rw [← hln]; rfl) | (rw [el_n]; exact hres) | exact hres) (Nat.lt_succ_self _) _ (lv_sub hl [2, 3, 4, 1, 0] rfl)
theorem d_M_insert_0 : decode b_M_insert 0 = .ok (.aload_n 0, 1) := by decide +kernel
theorem d_M_insert_1 : decode b_M_insert 1 = .ok (.iload_n 1, 1) := by decide +kernel
theorem d_M_insert_2 : decode b_M_insert 2 = .ok (.iload_n 2, 1) := by decide +kernel
theorem d_M_insert_3 : decode b_M_insert 3 = .ok (.invokevirtual 326, 3) := by decide +kernel
theorem d_M_insert_6 : decode b_M_insert 6 = .ok (.istore_n 3, 1) := by decide +kernel
theorem d_M_insert_7 : decode b_M_insert 7 = .ok (.iload_n 3, 1) := by decide +kernel
theorem d_M_insert_8 : decode b_M_insert 8 = .ok (.aload_n 0, 1) := by decide +kernel
theorem d_M_insert_9 : decode b_M_insert 9 = .ok (.getfield 323, 3) := by decide +kernel
theorem d_M_insert_12 : decode b_M_insert 12 = .ok (.if_icmp .ge 25, 3) := by decide +kernel
theorem d_M_insert_15 : decode b_M_insert 15 = .ok (.aload_n 0, 1) := by decide +kernel
theorem d_M_insert_16 : decode b_M_insert 16 = .ok (.aload_n 0, 1) := by decide +kernel
theorem d_M_insert_17 : decode b_M_insert 17 = .ok (.getfield 47, 3) := by decide +kernel
theorem d_M_insert_20 : decode b_M_insert 20 = .ok (.iload_n 3, 1) := by decide +kernel
theorem d_M_insert_21 : decode b_M_insert 21 = .ok (.iaload, 1) := by decide +kernel
theorem d_M_insert_22 : decode b_M_insert 22 = .ok (.aload_n 0, 1) := by decide +kernel
theorem d_M_insert_23 : decode b_M_insert 23 = .ok (.getfield 50, 3) := by decide +kernel
theorem d_M_insert_26 : decode b_M_insert 26 = .ok (.iload_n 3, 1) := by decide +kernel
theorem d_M_insert_27 : decode b_M_insert 27 = .ok (.iaload, 1) := by decide +kernel
theorem d_M_insert_28 : decode b_M_insert 28 = .ok (.iload_n 1, 1) := by decide +kernel
theorem d_M_insert_29 : decode b_M_insert 29 = .ok (.iload_n 2, 1) := by decide +kernel
theorem d_M_insert_30 : decode b_M_insert 30 = .ok (.invokevirtual 307, 3) := by decide +kernel
theorem d_M_insert_33 : decode b_M_insert 33 = .ok (.ifCond .ne 4, 3) := by decide +kernel
theorem d_M_insert_36 : decode b_M_insert 36 = .ok (.return_, 1) := by decide +kernel
theorem d_M_insert_37 : decode b_M_insert 37 = .ok (.aload_n 0, 1) := by decide +kernel
theorem d_M_insert_38 : decode b_M_insert 38 = .ok (.getfield 323, 3) := by decide +kernel
theorem d_M_insert_41 : decode b_M_insert 41 = .ok (.istore 4, 2) := by decide +kernel
theorem d_M_insert_43 : decode b_M_insert 43 = .ok (.iload 4, 2) := by decide +kernel
theorem d_M_insert_45 : decode b_M_insert 45 = .ok (.iload_n 3, 1) := by decide +kernel
theorem d_M_insert_46 : decode b_M_insert 46 = .ok (.if_icmp .le 41, 3) := by decide +kernel
theorem d_M_insert_49 : decode b_M_insert 49 = .ok (.aload_n 0, 1) := by decide +kernel
theorem d_M_insert_50 : decode b_M_insert 50 = .ok (.getfield 47, 3) := by decide +kernel
theorem d_M_insert_53 : decode b_M_insert 53 = .ok (.iload 4, 2) := by decide +kernel
theorem d_M_insert_55 : decode b_M_insert 55 = .ok (.aload_n 0, 1) := by decide +kernel
theorem d_M_insert_56 : decode b_M_insert 56 = .ok (.getfield 47, 3) := by decide +kernel
theorem d_M_insert_59 : decode b_M_insert 59 = .ok (.iload 4, 2) := by decide +kernel
theorem d_M_insert_61 : decode b_M_insert 61 = .ok (.iconst 1, 1) := by decide +kernel
theorem d_M_insert_62 : decode b_M_insert 62 = .ok (.isub, 1) := by decide +kernel
theorem d_M_insert_63 : decode b_M_insert 63 = .ok (.iaload, 1) := by decide +kernel
theorem d_M_insert_64 : decode b_M_insert 64 = .ok (.iastore, 1) := by decide +kernel
theorem d_M_insert_65 : decode b_M_insert 65 = .ok (.aload_n 0, 1) := by decide +kernel
theorem d_M_insert_66 : decode b_M_insert 66 = .ok (.getfield 50, 3) := by decide +kernel
theorem d_M_insert_69 : decode b_M_insert 69 = .ok (.iload 4, 2) := by decide +kernel
theorem d_M_insert_71 : decode b_M_insert 71 = .ok (.aload_n 0, 1) := by decide +kernel
theorem d_M_insert_72 : decode b_M_insert 72 = .ok (.getfield 50, 3) := by decide +kernel
theorem d_M_insert_75 : decode b_M_insert 75 = .ok (.iload 4, 2) := by decide +kernel
theorem d_M_insert_77 : decode b_M_insert 77 = .ok (.iconst 1, 1) := by decide +kernel
theorem d_M_insert_78 : decode b_M_insert 78 = .ok (.isub, 1) := by decide +kernel
theorem d_M_insert_79 : decode b_M_insert 79 = .ok (.iaload, 1) := by decide +kernel
theorem d_M_insert_80 : decode b_M_insert 80 = .ok (.iastore, 1) := by decide +kernel
theorem d_M_insert_81 : decode b_M_insert 81 = .ok (.iinc 4 (-1), 3) := by decide +kernel
theorem d_M_insert_84 : decode b_M_insert 84 = .ok (.goto (-41), 3) := by decide +kernel
theorem d_M_insert_87 : decode b_M_insert 87 = .ok (.aload_n 0, 1) := by decide +kernel
theorem d_M_insert_88 : decode b_M_insert 88 = .ok (.getfield 47, 3) := by decide +kernel
theorem d_M_insert_91 : decode b_M_insert 91 = .ok (.iload_n 3, 1) := by decide +kernel
theorem d_M_insert_92 : decode b_M_insert 92 = .ok (.iload_n 1, 1) := by decide +kernel
theorem d_M_insert_93 : decode b_M_insert 93 = .ok (.iastore, 1) := by decide +kernel
theorem d_M_insert_94 : decode b_M_insert 94 = .ok (.aload_n 0, 1) := by decide +kernel
theorem d_M_insert_95 : decode b_M_insert 95 = .ok (.getfield 50, 3) := by decide +kernel
theorem d_M_insert_98 : decode b_M_insert 98 = .ok (.iload_n 3, 1) := by decide +kernel
theorem d_M_insert_99 : decode b_M_insert 99 = .ok (.iload_n 2, 1) := by decide +kernel
theorem d_M_insert_100 : decode b_M_insert 100 = .ok (.iastore, 1) := by decide +kernel
theorem d_M_insert_101 : decode b_M_insert 101 = .ok (.aload_n 0, 1) := by decide +kernel
theorem d_M_insert_102 : decode b_M_insert 102 = .ok (.dup, 1) := by decide +kernel
theorem d_M_insert_103 : decode b_M_insert 103 = .ok (.getfield 323, 3) := by decide +kernel
theorem d_M_insert_106 : decode b_M_insert 106 = .ok (.iconst 1, 1) := by decide +kernel
theorem d_M_insert_107 : decode b_M_insert 107 = .ok (.iadd, 1) := by decide +kernel
theorem d_M_insert_108 : decode b_M_insert 108 = .ok (.putfield 323, 3) := by decide +kernel
theorem d_M_insert_111 : decode b_M_insert 111 = .ok (.return_, 1) := by decide +kernel
set_option maxHeartbeats 4000000 in
set_option maxRecDepth 100000 in
theorem c_M_insert (l : Launch) (dC : Nat → ClassId) (dI : Nat → Nat → Nat) (kA : Nat → ClassId) (sz : Nat) (mo : Nat) (ma : Nat → Nat) (mrf : Int) (mz : Int) (mls : Int) (mfp : Int) (mfm : Int) (mtx : Int) (mwd : Int) (mak : Int) (mli : Int) (mlx : Int) (mat : Int) (mtk : Int) (mtf : Int) (mtt : Int) (mfa : Int) (mla : Int) (mlp : Int) (mdp : Int) (msi : Int) (mpf : Int) (mpt : Int) (mdn : Bool) (ca : Nat → Int) (clf : Nat → Int) (clt : Nat → Int) (ws : List (Int × Int)) (x : Int) (y : Int) (hca : C2 ca) (hHL : HL ws mli clf clt) (hLB : LB ws 0 4000) (hli : mli < 2100) (hxy : 0 ≤ x ∧ x ≤ y ∧ y ≤ 4000) : Met l y_M_insert (wsy y_M_insert b_M_insert 5 none) (rmd 3 0 0) (li_Pr (dC, dI) CL (TY kA) [.ref mo, .int (iI x), .int (iI y)] (fun h => h.size = sz ∧ va_P (dC, dI) CL [(mo, .inr (10, [.int (iI mrf), .ref (ma 0), .int (iI mz), .ref (ma 1), .ref (ma 2), .int (iI mls), .int (iI mfp), .int (iI mfm), .ref (ma 3), .int (iI mtx), .ref (ma 4), .ref (ma 5), .int (iI mwd), .ref (ma 6), .ref (ma 7), .int (iI mak), .ref (ma 8), .ref (ma 9), .int (iI mli), .int (iI mlx), .ref (ma 10), .ref (ma 11), .int (iI mat), .int (iI mtk), .int (iI mtf), .int (iI mtt), .int (iI mfa), .int (iI mla), .int (iI mlp), .int (iI mdp), .ref (ma 12), .ref (ma 13), .int (iI msi), .int (iI (bI mdn)), .int (iI mpf), .int (iI mpt)])), (ma 1, .inl (kA 0, 4120, .inl (aI ca))), (ma 10, .inl (kA 0, 2100, .inl (aI clf))), (ma 11, .inl (kA 0, 2100, .inl (aI clt)))] h ∧ va_D (fun q => dI 100 0 ≤ q) [(mo, .inr (10, [.int (iI mrf), .ref (ma 0), .int (iI mz), .ref (ma 1), .ref (ma 2), .int (iI mls), .int (iI mfp), .int (iI mfm), .ref (ma 3), .int (iI mtx), .ref (ma 4), .ref (ma 5), .int (iI mwd), .ref (ma 6), .ref (ma 7), .int (iI mak), .ref (ma 8), .ref (ma 9), .int (iI mli), .int (iI mlx), .ref (ma 10), .ref (ma 11), .int (iI mat), .int (iI mtk), .int (iI mtf), .int (iI mtt), .int (iI mfa), .int (iI mla), .int (iI mlp), .int (iI mdp), .ref (ma 12), .ref (ma 13), .int (iI msi), .int (iI (bI mdn)), .int (iI mpf), .int (iI mpt)])), (ma 1, .inl (kA 0, 4120, .inl (aI ca))), (ma 10, .inl (kA 0, 2100, .inl (aI clf))), (ma 11, .inl (kA 0, 2100, .inl (aI clt)))] ∧ (fun _ => True) h)) (li_Qw (S := (Int) × (Nat → Int) × (Nat → Int)) (dC, dI) CL (fun u => HL (inM ca ws (x, y)) u.1 u.2.1 u.2.2 ∧ LB (inM ca ws (x, y)) 0 4000 ∧ mli ≤ u.1 ∧ u.1 ≤ mli + 1) (fun _ => none) (fun u => [(mo, .inr (10, [.int (iI mrf), .ref (ma 0), .int (iI mz), .ref (ma 1), .ref (ma 2), .int (iI mls), .int (iI mfp), .int (iI mfm), .ref (ma 3), .int (iI mtx), .ref (ma 4), .ref (ma 5), .int (iI mwd), .ref (ma 6), .ref (ma 7), .int (iI mak), .ref (ma 8), .ref (ma 9), .int (iI u.1), .int (iI mlx), .ref (ma 10), .ref (ma 11), .int (iI mat), .int (iI mtk), .int (iI mtf), .int (iI mtt), .int (iI mfa), .int (iI mla), .int (iI mlp), .int (iI mdp), .ref (ma 12), .ref (ma 13), .int (iI msi), .int (iI (bI mdn)), .int (iI mpf), .int (iI mpt)])), (ma 1, .inl (kA 0, 4120, .inl (aI ca))), (ma 10, .inl (kA 0, 2100, .inl (aI u.2.1))), (ma 11, .inl (kA 0, 2100, .inl (aI u.2.2)))]) (va_A [(mo, .inr (10, [.int (iI mrf), .ref (ma 0), .int (iI mz), .ref (ma 1), .ref (ma 2), .int (iI mls), .int (iI mfp), .int (iI mfm), .ref (ma 3), .int (iI mtx), .ref (ma 4), .ref (ma 5), .int (iI mwd), .ref (ma 6), .ref (ma 7), .int (iI mak), .ref (ma 8), .ref (ma 9), .int (iI mli), .int (iI mlx), .ref (ma 10), .ref (ma 11), .int (iI mat), .int (iI mtk), .int (iI mtf), .int (iI mtt), .int (iI mfa), .int (iI mla), .int (iI mlp), .int (iI mdp), .ref (ma 12), .ref (ma 13), .int (iI msi), .int (iI (bI mdn)), .int (iI mpf), .int (iI mpt)])), (ma 1, .inl (kA 0, 4120, .inl (aI ca))), (ma 10, .inl (kA 0, 2100, .inl (aI clf))), (ma 11, .inl (kA 0, 2100, .inl (aI clt)))] sz)) 0 0 (va_A [(mo, .inr (10, [.int (iI mrf), .ref (ma 0), .int (iI mz), .ref (ma 1), .ref (ma 2), .int (iI mls), .int (iI mfp), .int (iI mfm), .ref (ma 3), .int (iI mtx), .ref (ma 4), .ref (ma 5), .int (iI mwd), .ref (ma 6), .ref (ma 7), .int (iI mak), .ref (ma 8), .ref (ma 9), .int (iI mli), .int (iI mlx), .ref (ma 10), .ref (ma 11), .int (iI mat), .int (iI mtk), .int (iI mtf), .int (iI mtt), .int (iI mfa), .int (iI mla), .int (iI mlp), .int (iI mdp), .ref (ma 12), .ref (ma 13), .int (iI msi), .int (iI (bI mdn)), .int (iI mpf), .int (iI mpt)])), (ma 1, .inl (kA 0, 4120, .inl (aI ca))), (ma 10, .inl (kA 0, 2100, .inl (aI clf))), (ma 11, .inl (kA 0, 2100, .inl (aI clt)))] sz) := by
  refine li_mwv (by decide) (Nat.le_of_ble_eq_true rfl) ?_
  intro p e s m args below meth c Q A C hP hD hBx hK hN hG hA hAi hAN fin ls hl
  obtain ⟨hx, hb, hr, hml, hown, hts, hlocks, hin⟩ := C
  have hown : s.vm.findClass R_M = some m.cls := hown
  have hl : lv_has ls 5 [(0, .ref mo), (1, .int (iI x)), (2, .int (iI y))] := hl
  have hln := hHL.len
  have hn0 := hHL.nn
  suffices h9 : ∀ (H : Heap) (locs : List Loc), H = s.heap → locs = [] → W p l e (rmd 3 0 0) s m args below meth c H locs 0 0 Q (F0 m 0 ls []) from h9 _ _ rfl rfl
  intro H locs eH eL
  have hP : va_P (dC, dI) CL [(mo, .inr (10, [.int (iI mrf), .ref (ma 0), .int (iI mz), .ref (ma 1), .ref (ma 2), .int (iI mls), .int (iI mfp), .int (iI mfm), .ref (ma 3), .int (iI mtx), .ref (ma 4), .ref (ma 5), .int (iI mwd), .ref (ma 6), .ref (ma 7), .int (iI mak), .ref (ma 8), .ref (ma 9), .int (iI mli), .int (iI mlx), .ref (ma 10), .ref (ma 11), .int (iI mat), .int (iI mtk), .int (iI mtf), .int (iI mtt), .int (iI mfa), .int (iI mla), .int (iI mlp), .int (iI mdp), .ref (ma 12), .ref (ma 13), .int (iI msi), .int (iI (bI mdn)), .int (iI mpf), .int (iI mpt)])), (ma 1, .inl (kA 0, 4120, .inl (aI ca))), (ma 10, .inl (kA 0, 2100, .inl (aI clf))), (ma 11, .inl (kA 0, 2100, .inl (aI clt)))] H := by rw [eH]; exact hP
  have hS : va_S A s.heap H locs := by rw [eH, eL]; exact va_S.rf
  refine lv_aload_n hx hb d_M_insert_0 rfl (lv_at hl 0 rfl) ?_
  refine lv_iload_n hx hb d_M_insert_1 rfl (lv_at hl 1 rfl) ?_
  refine lv_iload_n hx hb d_M_insert_2 rfl (lv_at hl 2 rfl) ?_
  refine li_callr ((va_runV (As := [.int (iI x), .int (iI y)]) (rest := []) ⟨hx, hb, hml, hown, hts⟩ (c_M_placeOf l dC dI kA mo ma mrf mz mls mfp mfm mtx mwd mak mli mlx mat mtk mtf mtt mfa mla mlp mdp msi mpf mpt mdn ca clf clt ws x y (by exact hca) (by exact hHL) (by exact hLB) (by omega) (by omega)) (cw_M_326 hts rfl rfl ⟨Nat.le_of_ble_eq_true rfl, Nat.le_of_ble_eq_true rfl⟩) (li_preV (va_recv hK hP (ci := 10) (q0 := 0) rfl rfl) (hP.sub [0, 1, 2, 3] rfl) hK hN (hG.go hS hAN)) rfl rfl hl.1 rfl (lv_room (Nat.le_of_ble_eq_true rfl)) d_M_insert_3 ⟨(by show 0 + 0 ≤ 0; omega), (by show 0 + 0 ≤ 0; omega)⟩).run) ?_
  refine li_nm (fun pl epl => ?_)
  refine lv_istore_n (lv' := [(3, .int (iI pl)), (0, .ref mo), (1, .int (iI x)), (2, .int (iI y))]) hx hb d_M_insert_6 rfl hl (by decide) rfl (fun ls hl => ?_)
  have hpl := plM_r (ca := ca) (ws := ws) (x := x) (y := y)
  rw [← epl, hln] at hpl
  refine lv_iload_n hx hb d_M_insert_7 rfl (lv_at hl 0 rfl) ?_
  refine lv_aload_n hx hb d_M_insert_8 rfl (lv_at hl 1 rfl) ?_
  refine gf_M_323 hx hb hts hown hK hP 0 rfl rfl d_M_insert_9 ?_
  refine li_icmp_ge (tgt := 37) hx hb d_M_insert_12 (by decide) (by first | omega | exact cmr_w (cmM_r hca (by omega))) (by first | omega | exact cmr_w (cmM_r hca (by omega))) (fun c1 => ?_) (fun c1 => ?_)
  · have _q := c1
    have hin9 : inM ca ws (x, y) = ws.take pl.toNat ++ (x, y) :: ws.drop pl.toNat := by unfold inM; simp only; rw [← epl, if_neg (by omega)]
    refine lv_aload_n hx hb d_M_insert_37 rfl (lv_at hl 1 rfl) ?_
    refine gf_M_323 hx hb hts hown hK hP 0 rfl rfl d_M_insert_38 ?_
    refine lv_istore (lv' := [(4, .int (iI mli)), (3, .int (iI pl)), (0, .ref mo), (1, .int (iI x)), (2, .int (iI y))]) hx hb d_M_insert_41 hl (by decide) rfl (fun ls hl => ?_)
    have K_43 : ∀ (nn_43 : Nat) (k : Int) (vf : Nat → Int) (vt : Nat → Int), (pl ≤ k ∧ k ≤ mli) → (∀ j : Nat, (j : Int) ≤ k → vf j = clf j ∧ vt j = clt j) → (∀ j : Nat, k < (j : Int) → (j : Int) ≤ mli → vf j = clf (j - 1) ∧ vt j = clt (j - 1)) → ((k - pl).toNat < nn_43) → ∀ (H : Heap) (locs : List Loc), va_P (dC, dI) CL [(mo, .inr (10, [.int (iI mrf), .ref (ma 0), .int (iI mz), .ref (ma 1), .ref (ma 2), .int (iI mls), .int (iI mfp), .int (iI mfm), .ref (ma 3), .int (iI mtx), .ref (ma 4), .ref (ma 5), .int (iI mwd), .ref (ma 6), .ref (ma 7), .int (iI mak), .ref (ma 8), .ref (ma 9), .int (iI mli), .int (iI mlx), .ref (ma 10), .ref (ma 11), .int (iI mat), .int (iI mtk), .int (iI mtf), .int (iI mtt), .int (iI mfa), .int (iI mla), .int (iI mlp), .int (iI mdp), .ref (ma 12), .ref (ma 13), .int (iI msi), .int (iI (bI mdn)), .int (iI mpf), .int (iI mpt)])), (ma 1, .inl (kA 0, 4120, .inl (aI ca))), (ma 10, .inl (kA 0, 2100, .inl (aI vf))), (ma 11, .inl (kA 0, 2100, .inl (aI vt)))] H → va_D A [(mo, .inr (10, [.int (iI mrf), .ref (ma 0), .int (iI mz), .ref (ma 1), .ref (ma 2), .int (iI mls), .int (iI mfp), .int (iI mfm), .ref (ma 3), .int (iI mtx), .ref (ma 4), .ref (ma 5), .int (iI mwd), .ref (ma 6), .ref (ma 7), .int (iI mak), .ref (ma 8), .ref (ma 9), .int (iI mli), .int (iI mlx), .ref (ma 10), .ref (ma 11), .int (iI mat), .int (iI mtk), .int (iI mtf), .int (iI mtt), .int (iI mfa), .int (iI mla), .int (iI mlp), .int (iI mdp), .ref (ma 12), .ref (ma 13), .int (iI msi), .int (iI (bI mdn)), .int (iI mpf), .int (iI mpt)])), (ma 1, .inl (kA 0, 4120, .inl (aI ca))), (ma 10, .inl (kA 0, 2100, .inl (aI vf))), (ma 11, .inl (kA 0, 2100, .inl (aI vt)))] → va_S A s.heap H locs → ∀ ls : Array Slot, lv_has ls 5 [(4, .int (iI k)), (3, .int (iI pl)), (0, .ref mo), (1, .int (iI x)), (2, .int (iI y))] → W p l e (rmd 3 0 0) s m args below meth c H locs 0 0 Q (F0 m 43 ls []) := by
      intro nn_43
      induction nn_43 with
      | zero => intro k vf vt hk9 hv1 hv2 hm; exact absurd hm (Nat.not_lt_zero _)
      | succ nn_43 ih_43 =>
        intro k vf vt hk9 hv1 hv2 hm_43 H locs hP hD hS ls hl
        refine lv_iload hx hb d_M_insert_43 (lv_at hl 0 rfl) ?_
        refine lv_iload_n hx hb d_M_insert_45 rfl (lv_at hl 1 rfl) ?_
        refine li_icmp_le (tgt := 87) hx hb d_M_insert_46 (by decide) (by first | omega | exact cmr_w (cmM_r hca (by omega))) (by first | omega | exact cmr_w (cmM_r hca (by omega))) (fun c2 => ?_) (fun c2 => ?_)
        · have _q := c2
          refine lv_aload_n hx hb d_M_insert_87 rfl (lv_at hl 2 rfl) ?_
          refine gf_M_47 hx hb hts hown hK hP 0 rfl rfl d_M_insert_88 ?_
          refine lv_iload_n hx hb d_M_insert_91 rfl (lv_at hl 1 rfl) ?_
          refine lv_iload_n hx hb d_M_insert_92 rfl (lv_at hl 3 rfl) ?_
          refine li_iast hx hb hK hP hD hS 2 0 rfl rfl (by omega) (by omega) (by omega) d_M_insert_93 (fun H locs hP hD hS => ?_)
          have hP : va_P (dC, dI) CL [(mo, .inr (10, [.int (iI mrf), .ref (ma 0), .int (iI mz), .ref (ma 1), .ref (ma 2), .int (iI mls), .int (iI mfp), .int (iI mfm), .ref (ma 3), .int (iI mtx), .ref (ma 4), .ref (ma 5), .int (iI mwd), .ref (ma 6), .ref (ma 7), .int (iI mak), .ref (ma 8), .ref (ma 9), .int (iI mli), .int (iI mlx), .ref (ma 10), .ref (ma 11), .int (iI mat), .int (iI mtk), .int (iI mtf), .int (iI mtt), .int (iI mfa), .int (iI mla), .int (iI mlp), .int (iI mdp), .ref (ma 12), .ref (ma 13), .int (iI msi), .int (iI (bI mdn)), .int (iI mpf), .int (iI mpt)])), (ma 1, .inl (kA 0, 4120, .inl (aI ca))), (ma 10, .inl (kA 0, 2100, .inl (aI (va_up vf pl.toNat x)))), (ma 11, .inl (kA 0, 2100, .inl (aI vt)))] H := hP
          have hD : va_D A [(mo, .inr (10, [.int (iI mrf), .ref (ma 0), .int (iI mz), .ref (ma 1), .ref (ma 2), .int (iI mls), .int (iI mfp), .int (iI mfm), .ref (ma 3), .int (iI mtx), .ref (ma 4), .ref (ma 5), .int (iI mwd), .ref (ma 6), .ref (ma 7), .int (iI mak), .ref (ma 8), .ref (ma 9), .int (iI mli), .int (iI mlx), .ref (ma 10), .ref (ma 11), .int (iI mat), .int (iI mtk), .int (iI mtf), .int (iI mtt), .int (iI mfa), .int (iI mla), .int (iI mlp), .int (iI mdp), .ref (ma 12), .ref (ma 13), .int (iI msi), .int (iI (bI mdn)), .int (iI mpf), .int (iI mpt)])), (ma 1, .inl (kA 0, 4120, .inl (aI ca))), (ma 10, .inl (kA 0, 2100, .inl (aI (va_up vf pl.toNat x)))), (ma 11, .inl (kA 0, 2100, .inl (aI vt)))] := hD
          refine lv_aload_n hx hb d_M_insert_94 rfl (lv_at hl 2 rfl) ?_
          refine gf_M_50 hx hb hts hown hK hP 0 rfl rfl d_M_insert_95 ?_
          refine lv_iload_n hx hb d_M_insert_98 rfl (lv_at hl 1 rfl) ?_
          refine lv_iload_n hx hb d_M_insert_99 rfl (lv_at hl 4 rfl) ?_
          refine li_iast hx hb hK hP hD hS 3 0 rfl rfl (by omega) (by omega) (by omega) d_M_insert_100 (fun H locs hP hD hS => ?_)
          have hP : va_P (dC, dI) CL [(mo, .inr (10, [.int (iI mrf), .ref (ma 0), .int (iI mz), .ref (ma 1), .ref (ma 2), .int (iI mls), .int (iI mfp), .int (iI mfm), .ref (ma 3), .int (iI mtx), .ref (ma 4), .ref (ma 5), .int (iI mwd), .ref (ma 6), .ref (ma 7), .int (iI mak), .ref (ma 8), .ref (ma 9), .int (iI mli), .int (iI mlx), .ref (ma 10), .ref (ma 11), .int (iI mat), .int (iI mtk), .int (iI mtf), .int (iI mtt), .int (iI mfa), .int (iI mla), .int (iI mlp), .int (iI mdp), .ref (ma 12), .ref (ma 13), .int (iI msi), .int (iI (bI mdn)), .int (iI mpf), .int (iI mpt)])), (ma 1, .inl (kA 0, 4120, .inl (aI ca))), (ma 10, .inl (kA 0, 2100, .inl (aI (va_up vf pl.toNat x)))), (ma 11, .inl (kA 0, 2100, .inl (aI (va_up vt pl.toNat y))))] H := hP
          have hD : va_D A [(mo, .inr (10, [.int (iI mrf), .ref (ma 0), .int (iI mz), .ref (ma 1), .ref (ma 2), .int (iI mls), .int (iI mfp), .int (iI mfm), .ref (ma 3), .int (iI mtx), .ref (ma 4), .ref (ma 5), .int (iI mwd), .ref (ma 6), .ref (ma 7), .int (iI mak), .ref (ma 8), .ref (ma 9), .int (iI mli), .int (iI mlx), .ref (ma 10), .ref (ma 11), .int (iI mat), .int (iI mtk), .int (iI mtf), .int (iI mtt), .int (iI mfa), .int (iI mla), .int (iI mlp), .int (iI mdp), .ref (ma 12), .ref (ma 13), .int (iI msi), .int (iI (bI mdn)), .int (iI mpf), .int (iI mpt)])), (ma 1, .inl (kA 0, 4120, .inl (aI ca))), (ma 10, .inl (kA 0, 2100, .inl (aI (va_up vf pl.toNat x)))), (ma 11, .inl (kA 0, 2100, .inl (aI (va_up vt pl.toNat y))))] := hD
          refine lv_aload_n hx hb d_M_insert_101 rfl (lv_at hl 2 rfl) ?_
          refine lv_dup hx hb d_M_insert_102 rfl ?_
          refine gf_M_323 hx hb hts hown hK hP 0 rfl rfl d_M_insert_103 ?_
          refine lv_iconst (v := iI 1) hx hb d_M_insert_106 rfl ?_
          refine li_iadd hx hb d_M_insert_107 ?_
          refine li_nm (fun n_n en_n => ?_)
          refine pf_M_323 hx hb hts hown hK hP hD hS 0 rfl (Nat.le_of_ble_eq_true rfl) d_M_insert_108 (fun H locs hP hD hS => ?_)
          have hP : va_P (dC, dI) CL [(mo, .inr (10, [.int (iI mrf), .ref (ma 0), .int (iI mz), .ref (ma 1), .ref (ma 2), .int (iI mls), .int (iI mfp), .int (iI mfm), .ref (ma 3), .int (iI mtx), .ref (ma 4), .ref (ma 5), .int (iI mwd), .ref (ma 6), .ref (ma 7), .int (iI mak), .ref (ma 8), .ref (ma 9), .int (iI n_n), .int (iI mlx), .ref (ma 10), .ref (ma 11), .int (iI mat), .int (iI mtk), .int (iI mtf), .int (iI mtt), .int (iI mfa), .int (iI mla), .int (iI mlp), .int (iI mdp), .ref (ma 12), .ref (ma 13), .int (iI msi), .int (iI (bI mdn)), .int (iI mpf), .int (iI mpt)])), (ma 1, .inl (kA 0, 4120, .inl (aI ca))), (ma 10, .inl (kA 0, 2100, .inl (aI (va_up vf pl.toNat x)))), (ma 11, .inl (kA 0, 2100, .inl (aI (va_up vt pl.toNat y))))] H := hP
          have hD : va_D A [(mo, .inr (10, [.int (iI mrf), .ref (ma 0), .int (iI mz), .ref (ma 1), .ref (ma 2), .int (iI mls), .int (iI mfp), .int (iI mfm), .ref (ma 3), .int (iI mtx), .ref (ma 4), .ref (ma 5), .int (iI mwd), .ref (ma 6), .ref (ma 7), .int (iI mak), .ref (ma 8), .ref (ma 9), .int (iI n_n), .int (iI mlx), .ref (ma 10), .ref (ma 11), .int (iI mat), .int (iI mtk), .int (iI mtf), .int (iI mtt), .int (iI mfa), .int (iI mla), .int (iI mlp), .int (iI mdp), .ref (ma 12), .ref (ma 13), .int (iI msi), .int (iI (bI mdn)), .int (iI mpf), .int (iI mpt)])), (ma 1, .inl (kA 0, 4120, .inl (aI ca))), (ma 10, .inl (kA 0, 2100, .inl (aI (va_up vf pl.toNat x)))), (ma 11, .inl (kA 0, 2100, .inl (aI (va_up vt pl.toNat y))))] := hD
          exact fin (n_n, va_up vf pl.toNat x, va_up vt pl.toNat y) _ _ _ _ (by show HL (inM ca ws (x, y)) n_n (va_up vf pl.toNat x) (va_up vt pl.toNat y) ∧ LB (inM ca ws (x, y)) 0 4000 ∧ mli ≤ n_n ∧ n_n ≤ mli + 1; rw [hin9, en_n]; refine ⟨hHL.ins (by omega) (by omega) ?_ ?_ ?_, hLB.ins _ (by omega), by omega, by omega⟩; (intro j hj; unfold va_up; rw [if_neg (by omega), if_neg (by omega)]; exact hv1 j (by omega)); (unfold va_up; rw [if_pos rfl, if_pos rfl]; exact ⟨rfl, rfl⟩); (intro j hj hj2; unfold va_up; rw [if_neg (by omega), if_neg (by omega)]; exact hv2 j (by omega) hj2)) (by first | exact hP | (subst_vars; exact hP)) (by first | exact hD | (subst_vars; exact hD)) hS d_M_insert_111
        · have _q := c2
          refine lv_aload_n hx hb d_M_insert_49 rfl (lv_at hl 2 rfl) ?_
          refine gf_M_47 hx hb hts hown hK hP 0 rfl rfl d_M_insert_50 ?_
          refine lv_iload hx hb d_M_insert_53 (lv_at hl 0 rfl) ?_
          refine lv_aload_n hx hb d_M_insert_55 rfl (lv_at hl 2 rfl) ?_
          refine gf_M_47 hx hb hts hown hK hP 0 rfl rfl d_M_insert_56 ?_
          refine lv_iload hx hb d_M_insert_59 (lv_at hl 0 rfl) ?_
          refine lv_iconst (v := iI 1) hx hb d_M_insert_61 rfl ?_
          refine li_isub hx hb d_M_insert_62 ?_
          refine li_iald hx hb hK hP 2 0 rfl rfl (by omega) (by omega) (by omega) d_M_insert_63 ?_
          refine li_iast hx hb hK hP hD hS 2 0 rfl rfl (by omega) (by omega) (by omega) d_M_insert_64 (fun H locs hP hD hS => ?_)
          have hP : va_P (dC, dI) CL [(mo, .inr (10, [.int (iI mrf), .ref (ma 0), .int (iI mz), .ref (ma 1), .ref (ma 2), .int (iI mls), .int (iI mfp), .int (iI mfm), .ref (ma 3), .int (iI mtx), .ref (ma 4), .ref (ma 5), .int (iI mwd), .ref (ma 6), .ref (ma 7), .int (iI mak), .ref (ma 8), .ref (ma 9), .int (iI mli), .int (iI mlx), .ref (ma 10), .ref (ma 11), .int (iI mat), .int (iI mtk), .int (iI mtf), .int (iI mtt), .int (iI mfa), .int (iI mla), .int (iI mlp), .int (iI mdp), .ref (ma 12), .ref (ma 13), .int (iI msi), .int (iI (bI mdn)), .int (iI mpf), .int (iI mpt)])), (ma 1, .inl (kA 0, 4120, .inl (aI ca))), (ma 10, .inl (kA 0, 2100, .inl (aI (va_up vf k.toNat (vf ((k - 1).toNat)))))), (ma 11, .inl (kA 0, 2100, .inl (aI vt)))] H := hP
          have hD : va_D A [(mo, .inr (10, [.int (iI mrf), .ref (ma 0), .int (iI mz), .ref (ma 1), .ref (ma 2), .int (iI mls), .int (iI mfp), .int (iI mfm), .ref (ma 3), .int (iI mtx), .ref (ma 4), .ref (ma 5), .int (iI mwd), .ref (ma 6), .ref (ma 7), .int (iI mak), .ref (ma 8), .ref (ma 9), .int (iI mli), .int (iI mlx), .ref (ma 10), .ref (ma 11), .int (iI mat), .int (iI mtk), .int (iI mtf), .int (iI mtt), .int (iI mfa), .int (iI mla), .int (iI mlp), .int (iI mdp), .ref (ma 12), .ref (ma 13), .int (iI msi), .int (iI (bI mdn)), .int (iI mpf), .int (iI mpt)])), (ma 1, .inl (kA 0, 4120, .inl (aI ca))), (ma 10, .inl (kA 0, 2100, .inl (aI (va_up vf k.toNat (vf ((k - 1).toNat)))))), (ma 11, .inl (kA 0, 2100, .inl (aI vt)))] := hD
          refine lv_aload_n hx hb d_M_insert_65 rfl (lv_at hl 2 rfl) ?_
          refine gf_M_50 hx hb hts hown hK hP 0 rfl rfl d_M_insert_66 ?_
          refine lv_iload hx hb d_M_insert_69 (lv_at hl 0 rfl) ?_
          refine lv_aload_n hx hb d_M_insert_71 rfl (lv_at hl 2 rfl) ?_
          refine gf_M_50 hx hb hts hown hK hP 0 rfl rfl d_M_insert_72 ?_
          refine lv_iload hx hb d_M_insert_75 (lv_at hl 0 rfl) ?_
          refine lv_iconst (v := iI 1) hx hb d_M_insert_77 rfl ?_
          refine li_isub hx hb d_M_insert_78 ?_
          refine li_iald hx hb hK hP 3 0 rfl rfl (by omega) (by omega) (by omega) d_M_insert_79 ?_
          refine li_iast hx hb hK hP hD hS 3 0 rfl rfl (by omega) (by omega) (by omega) d_M_insert_80 (fun H locs hP hD hS => ?_)
          have hP : va_P (dC, dI) CL [(mo, .inr (10, [.int (iI mrf), .ref (ma 0), .int (iI mz), .ref (ma 1), .ref (ma 2), .int (iI mls), .int (iI mfp), .int (iI mfm), .ref (ma 3), .int (iI mtx), .ref (ma 4), .ref (ma 5), .int (iI mwd), .ref (ma 6), .ref (ma 7), .int (iI mak), .ref (ma 8), .ref (ma 9), .int (iI mli), .int (iI mlx), .ref (ma 10), .ref (ma 11), .int (iI mat), .int (iI mtk), .int (iI mtf), .int (iI mtt), .int (iI mfa), .int (iI mla), .int (iI mlp), .int (iI mdp), .ref (ma 12), .ref (ma 13), .int (iI msi), .int (iI (bI mdn)), .int (iI mpf), .int (iI mpt)])), (ma 1, .inl (kA 0, 4120, .inl (aI ca))), (ma 10, .inl (kA 0, 2100, .inl (aI (va_up vf k.toNat (vf ((k - 1).toNat)))))), (ma 11, .inl (kA 0, 2100, .inl (aI (va_up vt k.toNat (vt ((k - 1).toNat))))))] H := hP
          have hD : va_D A [(mo, .inr (10, [.int (iI mrf), .ref (ma 0), .int (iI mz), .ref (ma 1), .ref (ma 2), .int (iI mls), .int (iI mfp), .int (iI mfm), .ref (ma 3), .int (iI mtx), .ref (ma 4), .ref (ma 5), .int (iI mwd), .ref (ma 6), .ref (ma 7), .int (iI mak), .ref (ma 8), .ref (ma 9), .int (iI mli), .int (iI mlx), .ref (ma 10), .ref (ma 11), .int (iI mat), .int (iI mtk), .int (iI mtf), .int (iI mtt), .int (iI mfa), .int (iI mla), .int (iI mlp), .int (iI mdp), .ref (ma 12), .ref (ma 13), .int (iI msi), .int (iI (bI mdn)), .int (iI mpf), .int (iI mpt)])), (ma 1, .inl (kA 0, 4120, .inl (aI ca))), (ma 10, .inl (kA 0, 2100, .inl (aI (va_up vf k.toNat (vf ((k - 1).toNat)))))), (ma 11, .inl (kA 0, 2100, .inl (aI (va_up vt k.toNat (vt ((k - 1).toNat))))))] := hD
          obtain ⟨k_n, ek_n⟩ : ∃ y_9 : Int, y_9 = k + (-1) := ⟨_, rfl⟩
          refine lv_iinc (v := iI k_n) (lv' := [(4, .int (iI k_n)), (3, .int (iI pl)), (0, .ref mo), (1, .int (iI x)), (2, .int (iI y))]) hx hb d_M_insert_81 hl (k := 0) rfl (by rw [ek_n]; exact iI_add _ _) (by decide) rfl (fun ls hl => ?_)
          refine lv_goto (tgt := 43) hx hb d_M_insert_84 (by decide) ?_
          exact ih_43 k_n (va_up vf k.toNat (vf ((k - 1).toNat))) (va_up vt k.toNat (vt ((k - 1).toNat))) (by omega) (by intro j hj; unfold va_up; rw [if_neg (by omega), if_neg (by omega)]; exact hv1 j (by omega)) (by intro j hj hj2; unfold va_up; by_cases q : j = k.toNat; (rw [if_pos q, if_pos q, show (k - 1).toNat = j - 1 by omega]; exact hv1 (j - 1) (by omega)); (rw [if_neg q, if_neg q]; exact hv2 j (by omega) hj2)) (by omega) _ _ hP hD hS _ (lv_sub hl [0, 1, 2, 3, 4] rfl)
    exact K_43 ((mli - pl).toNat + 1) mli clf clt (by omega) (by intro j hj; exact ⟨rfl, rfl⟩) (by intro j hj hj2; omega) (Nat.lt_succ_self _) _ _ hP hD hS _ (lv_sub hl [0, 1, 2, 3, 4] rfl)
  · have _q := c1
    have hgd := hHL.getD (k := pl) (by omega) (by omega)
    have hlb := hLB _ (hHL.mem (k := pl) (by omega) (by omega))
    simp only at hlb
    refine lv_aload_n hx hb d_M_insert_15 rfl (lv_at hl 1 rfl) ?_
    refine lv_aload_n hx hb d_M_insert_16 rfl (lv_at hl 1 rfl) ?_
    refine gf_M_47 hx hb hts hown hK hP 0 rfl rfl d_M_insert_17 ?_
    refine lv_iload_n hx hb d_M_insert_20 rfl (lv_at hl 0 rfl) ?_
    refine li_iald hx hb hK hP 2 0 rfl rfl (by omega) (by omega) (by omega) d_M_insert_21 ?_
    refine lv_aload_n hx hb d_M_insert_22 rfl (lv_at hl 1 rfl) ?_
    refine gf_M_50 hx hb hts hown hK hP 0 rfl rfl d_M_insert_23 ?_
    refine lv_iload_n hx hb d_M_insert_26 rfl (lv_at hl 0 rfl) ?_
    refine li_iald hx hb hK hP 3 0 rfl rfl (by omega) (by omega) (by omega) d_M_insert_27 ?_
    refine lv_iload_n hx hb d_M_insert_28 rfl (lv_at hl 2 rfl) ?_
    refine lv_iload_n hx hb d_M_insert_29 rfl (lv_at hl 3 rfl) ?_
    refine li_callr ((va_runV (As := [.int (iI (clf pl.toNat)), .int (iI (clt pl.toNat)), .int (iI x), .int (iI y)]) (rest := []) ⟨hx, hb, hml, hown, hts⟩ (c_M_compareWords l dC dI kA mo ma mrf mz mls mfp mfm mtx mwd mak mli mlx mat mtk mtf mtt mfa mla mlp mdp msi mpf mpt mdn ca (clf pl.toNat) (clt pl.toNat) x y (by exact hca) (by omega)) (cw_M_307 hts rfl rfl ⟨Nat.le_of_ble_eq_true rfl, Nat.le_of_ble_eq_true rfl⟩) (li_preV (va_recv hK hP (ci := 10) (q0 := 0) rfl rfl) (hP.sub [0, 1] rfl) hK hN (hG.go hS hAN)) rfl rfl hl.1 rfl (lv_room (Nat.le_of_ble_eq_true rfl)) d_M_insert_30 ⟨(by show 0 + 0 ≤ 0; omega), (by show 0 + 0 ≤ 0; omega)⟩).run) ?_
    refine li_if_ne (tgt := 37) hx hb d_M_insert_33 (by decide) (by first | omega | exact cmr_w (cmM_r hca (by omega))) (fun c3 => ?_) (fun c3 => ?_)
    · have _q := c3
      have hin9 : inM ca ws (x, y) = ws.take pl.toNat ++ (x, y) :: ws.drop pl.toNat := by unfold inM; simp only; rw [← epl, hgd, if_neg (by intro h5; exact absurd h5.2 (by assumption))]
      refine lv_aload_n hx hb d_M_insert_37 rfl (lv_at hl 1 rfl) ?_
      refine gf_M_323 hx hb hts hown hK hP 0 rfl rfl d_M_insert_38 ?_
      refine lv_istore (lv' := [(4, .int (iI mli)), (3, .int (iI pl)), (0, .ref mo), (1, .int (iI x)), (2, .int (iI y))]) hx hb d_M_insert_41 hl (by decide) rfl (fun ls hl => ?_)
      have K_43 : ∀ (nn_43 : Nat) (k : Int) (vf : Nat → Int) (vt : Nat → Int), (pl ≤ k ∧ k ≤ mli) → (∀ j : Nat, (j : Int) ≤ k → vf j = clf j ∧ vt j = clt j) → (∀ j : Nat, k < (j : Int) → (j : Int) ≤ mli → vf j = clf (j - 1) ∧ vt j = clt (j - 1)) → ((k - pl).toNat < nn_43) → ∀ (H : Heap) (locs : List Loc), va_P (dC, dI) CL [(mo, .inr (10, [.int (iI mrf), .ref (ma 0), .int (iI mz), .ref (ma 1), .ref (ma 2), .int (iI mls), .int (iI mfp), .int (iI mfm), .ref (ma 3), .int (iI mtx), .ref (ma 4), .ref (ma 5), .int (iI mwd), .ref (ma 6), .ref (ma 7), .int (iI mak), .ref (ma 8), .ref (ma 9), .int (iI mli), .int (iI mlx), .ref (ma 10), .ref (ma 11), .int (iI mat), .int (iI mtk), .int (iI mtf), .int (iI mtt), .int (iI mfa), .int (iI mla), .int (iI mlp), .int (iI mdp), .ref (ma 12), .ref (ma 13), .int (iI msi), .int (iI (bI mdn)), .int (iI mpf), .int (iI mpt)])), (ma 1, .inl (kA 0, 4120, .inl (aI ca))), (ma 10, .inl (kA 0, 2100, .inl (aI vf))), (ma 11, .inl (kA 0, 2100, .inl (aI vt)))] H → va_D A [(mo, .inr (10, [.int (iI mrf), .ref (ma 0), .int (iI mz), .ref (ma 1), .ref (ma 2), .int (iI mls), .int (iI mfp), .int (iI mfm), .ref (ma 3), .int (iI mtx), .ref (ma 4), .ref (ma 5), .int (iI mwd), .ref (ma 6), .ref (ma 7), .int (iI mak), .ref (ma 8), .ref (ma 9), .int (iI mli), .int (iI mlx), .ref (ma 10), .ref (ma 11), .int (iI mat), .int (iI mtk), .int (iI mtf), .int (iI mtt), .int (iI mfa), .int (iI mla), .int (iI mlp), .int (iI mdp), .ref (ma 12), .ref (ma 13), .int (iI msi), .int (iI (bI mdn)), .int (iI mpf), .int (iI mpt)])), (ma 1, .inl (kA 0, 4120, .inl (aI ca))), (ma 10, .inl (kA 0, 2100, .inl (aI vf))), (ma 11, .inl (kA 0, 2100, .inl (aI vt)))] → va_S A s.heap H locs → ∀ ls : Array Slot, lv_has ls 5 [(4, .int (iI k)), (3, .int (iI pl)), (0, .ref mo), (1, .int (iI x)), (2, .int (iI y))] → W p l e (rmd 3 0 0) s m args below meth c H locs 0 0 Q (F0 m 43 ls []) := by
        intro nn_43
        induction nn_43 with
        | zero => intro k vf vt hk9 hv1 hv2 hm; exact absurd hm (Nat.not_lt_zero _)
        | succ nn_43 ih_43 =>
          intro k vf vt hk9 hv1 hv2 hm_43 H locs hP hD hS ls hl
          refine lv_iload hx hb d_M_insert_43 (lv_at hl 0 rfl) ?_
          refine lv_iload_n hx hb d_M_insert_45 rfl (lv_at hl 1 rfl) ?_
          refine li_icmp_le (tgt := 87) hx hb d_M_insert_46 (by decide) (by first | omega | exact cmr_w (cmM_r hca (by omega))) (by first | omega | exact cmr_w (cmM_r hca (by omega))) (fun c4 => ?_) (fun c4 => ?_)
          · have _q := c4
            refine lv_aload_n hx hb d_M_insert_87 rfl (lv_at hl 2 rfl) ?_
            refine gf_M_47 hx hb hts hown hK hP 0 rfl rfl d_M_insert_88 ?_
            refine lv_iload_n hx hb d_M_insert_91 rfl (lv_at hl 1 rfl) ?_
            refine lv_iload_n hx hb d_M_insert_92 rfl (lv_at hl 3 rfl) ?_
            refine li_iast hx hb hK hP hD hS 2 0 rfl rfl (by omega) (by omega) (by omega) d_M_insert_93 (fun H locs hP hD hS => ?_)
            have hP : va_P (dC, dI) CL [(mo, .inr (10, [.int (iI mrf), .ref (ma 0), .int (iI mz), .ref (ma 1), .ref (ma 2), .int (iI mls), .int (iI mfp), .int (iI mfm), .ref (ma 3), .int (iI mtx), .ref (ma 4), .ref (ma 5), .int (iI mwd), .ref (ma 6), .ref (ma 7), .int (iI mak), .ref (ma 8), .ref (ma 9), .int (iI mli), .int (iI mlx), .ref (ma 10), .ref (ma 11), .int (iI mat), .int (iI mtk), .int (iI mtf), .int (iI mtt), .int (iI mfa), .int (iI mla), .int (iI mlp), .int (iI mdp), .ref (ma 12), .ref (ma 13), .int (iI msi), .int (iI (bI mdn)), .int (iI mpf), .int (iI mpt)])), (ma 1, .inl (kA 0, 4120, .inl (aI ca))), (ma 10, .inl (kA 0, 2100, .inl (aI (va_up vf pl.toNat x)))), (ma 11, .inl (kA 0, 2100, .inl (aI vt)))] H := hP
            have hD : va_D A [(mo, .inr (10, [.int (iI mrf), .ref (ma 0), .int (iI mz), .ref (ma 1), .ref (ma 2), .int (iI mls), .int (iI mfp), .int (iI mfm), .ref (ma 3), .int (iI mtx), .ref (ma 4), .ref (ma 5), .int (iI mwd), .ref (ma 6), .ref (ma 7), .int (iI mak), .ref (ma 8), .ref (ma 9), .int (iI mli), .int (iI mlx), .ref (ma 10), .ref (ma 11), .int (iI mat), .int (iI mtk), .int (iI mtf), .int (iI mtt), .int (iI mfa), .int (iI mla), .int (iI mlp), .int (iI mdp), .ref (ma 12), .ref (ma 13), .int (iI msi), .int (iI (bI mdn)), .int (iI mpf), .int (iI mpt)])), (ma 1, .inl (kA 0, 4120, .inl (aI ca))), (ma 10, .inl (kA 0, 2100, .inl (aI (va_up vf pl.toNat x)))), (ma 11, .inl (kA 0, 2100, .inl (aI vt)))] := hD
            refine lv_aload_n hx hb d_M_insert_94 rfl (lv_at hl 2 rfl) ?_
            refine gf_M_50 hx hb hts hown hK hP 0 rfl rfl d_M_insert_95 ?_
            refine lv_iload_n hx hb d_M_insert_98 rfl (lv_at hl 1 rfl) ?_
            refine lv_iload_n hx hb d_M_insert_99 rfl (lv_at hl 4 rfl) ?_
            refine li_iast hx hb hK hP hD hS 3 0 rfl rfl (by omega) (by omega) (by omega) d_M_insert_100 (fun H locs hP hD hS => ?_)
            have hP : va_P (dC, dI) CL [(mo, .inr (10, [.int (iI mrf), .ref (ma 0), .int (iI mz), .ref (ma 1), .ref (ma 2), .int (iI mls), .int (iI mfp), .int (iI mfm), .ref (ma 3), .int (iI mtx), .ref (ma 4), .ref (ma 5), .int (iI mwd), .ref (ma 6), .ref (ma 7), .int (iI mak), .ref (ma 8), .ref (ma 9), .int (iI mli), .int (iI mlx), .ref (ma 10), .ref (ma 11), .int (iI mat), .int (iI mtk), .int (iI mtf), .int (iI mtt), .int (iI mfa), .int (iI mla), .int (iI mlp), .int (iI mdp), .ref (ma 12), .ref (ma 13), .int (iI msi), .int (iI (bI mdn)), .int (iI mpf), .int (iI mpt)])), (ma 1, .inl (kA 0, 4120, .inl (aI ca))), (ma 10, .inl (kA 0, 2100, .inl (aI (va_up vf pl.toNat x)))), (ma 11, .inl (kA 0, 2100, .inl (aI (va_up vt pl.toNat y))))] H := hP
            have hD : va_D A [(mo, .inr (10, [.int (iI mrf), .ref (ma 0), .int (iI mz), .ref (ma 1), .ref (ma 2), .int (iI mls), .int (iI mfp), .int (iI mfm), .ref (ma 3), .int (iI mtx), .ref (ma 4), .ref (ma 5), .int (iI mwd), .ref (ma 6), .ref (ma 7), .int (iI mak), .ref (ma 8), .ref (ma 9), .int (iI mli), .int (iI mlx), .ref (ma 10), .ref (ma 11), .int (iI mat), .int (iI mtk), .int (iI mtf), .int (iI mtt), .int (iI mfa), .int (iI mla), .int (iI mlp), .int (iI mdp), .ref (ma 12), .ref (ma 13), .int (iI msi), .int (iI (bI mdn)), .int (iI mpf), .int (iI mpt)])), (ma 1, .inl (kA 0, 4120, .inl (aI ca))), (ma 10, .inl (kA 0, 2100, .inl (aI (va_up vf pl.toNat x)))), (ma 11, .inl (kA 0, 2100, .inl (aI (va_up vt pl.toNat y))))] := hD
            refine lv_aload_n hx hb d_M_insert_101 rfl (lv_at hl 2 rfl) ?_
            refine lv_dup hx hb d_M_insert_102 rfl ?_
            refine gf_M_323 hx hb hts hown hK hP 0 rfl rfl d_M_insert_103 ?_
            refine lv_iconst (v := iI 1) hx hb d_M_insert_106 rfl ?_
            refine li_iadd hx hb d_M_insert_107 ?_
            refine li_nm (fun n_n en_n => ?_)
            refine pf_M_323 hx hb hts hown hK hP hD hS 0 rfl (Nat.le_of_ble_eq_true rfl) d_M_insert_108 (fun H locs hP hD hS => ?_)
            have hP : va_P (dC, dI) CL [(mo, .inr (10, [.int (iI mrf), .ref (ma 0), .int (iI mz), .ref (ma 1), .ref (ma 2), .int (iI mls), .int (iI mfp), .int (iI mfm), .ref (ma 3), .int (iI mtx), .ref (ma 4), .ref (ma 5), .int (iI mwd), .ref (ma 6), .ref (ma 7), .int (iI mak), .ref (ma 8), .ref (ma 9), .int (iI n_n), .int (iI mlx), .ref (ma 10), .ref (ma 11), .int (iI mat), .int (iI mtk), .int (iI mtf), .int (iI mtt), .int (iI mfa), .int (iI mla), .int (iI mlp), .int (iI mdp), .ref (ma 12), .ref (ma 13), .int (iI msi), .int (iI (bI mdn)), .int (iI mpf), .int (iI mpt)])), (ma 1, .inl (kA 0, 4120, .inl (aI ca))), (ma 10, .inl (kA 0, 2100, .inl (aI (va_up vf pl.toNat x)))), (ma 11, .inl (kA 0, 2100, .inl (aI (va_up vt pl.toNat y))))] H := hP
            have hD : va_D A [(mo, .inr (10, [.int (iI mrf), .ref (ma 0), .int (iI mz), .ref (ma 1), .ref (ma 2), .int (iI mls), .int (iI mfp), .int (iI mfm), .ref (ma 3), .int (iI mtx), .ref (ma 4), .ref (ma 5), .int (iI mwd), .ref (ma 6), .ref (ma 7), .int (iI mak), .ref (ma 8), .ref (ma 9), .int (iI n_n), .int (iI mlx), .ref (ma 10), .ref (ma 11), .int (iI mat), .int (iI mtk), .int (iI mtf), .int (iI mtt), .int (iI mfa), .int (iI mla), .int (iI mlp), .int (iI mdp), .ref (ma 12), .ref (ma 13), .int (iI msi), .int (iI (bI mdn)), .int (iI mpf), .int (iI mpt)])), (ma 1, .inl (kA 0, 4120, .inl (aI ca))), (ma 10, .inl (kA 0, 2100, .inl (aI (va_up vf pl.toNat x)))), (ma 11, .inl (kA 0, 2100, .inl (aI (va_up vt pl.toNat y))))] := hD
            exact fin (n_n, va_up vf pl.toNat x, va_up vt pl.toNat y) _ _ _ _ (by show HL (inM ca ws (x, y)) n_n (va_up vf pl.toNat x) (va_up vt pl.toNat y) ∧ LB (inM ca ws (x, y)) 0 4000 ∧ mli ≤ n_n ∧ n_n ≤ mli + 1; rw [hin9, en_n]; refine ⟨hHL.ins (by omega) (by omega) ?_ ?_ ?_, hLB.ins _ (by omega), by omega, by omega⟩; (intro j hj; unfold va_up; rw [if_neg (by omega), if_neg (by omega)]; exact hv1 j (by omega)); (unfold va_up; rw [if_pos rfl, if_pos rfl]; exact ⟨rfl, rfl⟩); (intro j hj hj2; unfold va_up; rw [if_neg (by omega), if_neg (by omega)]; exact hv2 j (by omega) hj2)) (by first | exact hP | (subst_vars; exact hP)) (by first | exact hD | (subst_vars; exact hD)) hS d_M_insert_111
          · have _q := c4
            refine lv_aload_n hx hb d_M_insert_49 rfl (lv_at hl 2 rfl) ?_
            refine gf_M_47 hx hb hts hown hK hP 0 rfl rfl d_M_insert_50 ?_
            refine lv_iload hx hb d_M_insert_53 (lv_at hl 0 rfl) ?_
            refine lv_aload_n hx hb d_M_insert_55 rfl (lv_at hl 2 rfl) ?_
            refine gf_M_47 hx hb hts hown hK hP 0 rfl rfl d_M_insert_56 ?_
            refine lv_iload hx hb d_M_insert_59 (lv_at hl 0 rfl) ?_
            refine lv_iconst (v := iI 1) hx hb d_M_insert_61 rfl ?_
            refine li_isub hx hb d_M_insert_62 ?_
            refine li_iald hx hb hK hP 2 0 rfl rfl (by omega) (by omega) (by omega) d_M_insert_63 ?_
            refine li_iast hx hb hK hP hD hS 2 0 rfl rfl (by omega) (by omega) (by omega) d_M_insert_64 (fun H locs hP hD hS => ?_)
            have hP : va_P (dC, dI) CL [(mo, .inr (10, [.int (iI mrf), .ref (ma 0), .int (iI mz), .ref (ma 1), .ref (ma 2), .int (iI mls), .int (iI mfp), .int (iI mfm), .ref (ma 3), .int (iI mtx), .ref (ma 4), .ref (ma 5), .int (iI mwd), .ref (ma 6), .ref (ma 7), .int (iI mak), .ref (ma 8), .ref (ma 9), .int (iI mli), .int (iI mlx), .ref (ma 10), .ref (ma 11), .int (iI mat), .int (iI mtk), .int (iI mtf), .int (iI mtt), .int (iI mfa), .int (iI mla), .int (iI mlp), .int (iI mdp), .ref (ma 12), .ref (ma 13), .int (iI msi), .int (iI (bI mdn)), .int (iI mpf), .int (iI mpt)])), (ma 1, .inl (kA 0, 4120, .inl (aI ca))), (ma 10, .inl (kA 0, 2100, .inl (aI (va_up vf k.toNat (vf ((k - 1).toNat)))))), (ma 11, .inl (kA 0, 2100, .inl (aI vt)))] H := hP
            have hD : va_D A [(mo, .inr (10, [.int (iI mrf), .ref (ma 0), .int (iI mz), .ref (ma 1), .ref (ma 2), .int (iI mls), .int (iI mfp), .int (iI mfm), .ref (ma 3), .int (iI mtx), .ref (ma 4), .ref (ma 5), .int (iI mwd), .ref (ma 6), .ref (ma 7), .int (iI mak), .ref (ma 8), .ref (ma 9), .int (iI mli), .int (iI mlx), .ref (ma 10), .ref (ma 11), .int (iI mat), .int (iI mtk), .int (iI mtf), .int (iI mtt), .int (iI mfa), .int (iI mla), .int (iI mlp), .int (iI mdp), .ref (ma 12), .ref (ma 13), .int (iI msi), .int (iI (bI mdn)), .int (iI mpf), .int (iI mpt)])), (ma 1, .inl (kA 0, 4120, .inl (aI ca))), (ma 10, .inl (kA 0, 2100, .inl (aI (va_up vf k.toNat (vf ((k - 1).toNat)))))), (ma 11, .inl (kA 0, 2100, .inl (aI vt)))] := hD
            refine lv_aload_n hx hb d_M_insert_65 rfl (lv_at hl 2 rfl) ?_
            refine gf_M_50 hx hb hts hown hK hP 0 rfl rfl d_M_insert_66 ?_
            refine lv_iload hx hb d_M_insert_69 (lv_at hl 0 rfl) ?_
            refine lv_aload_n hx hb d_M_insert_71 rfl (lv_at hl 2 rfl) ?_
            refine gf_M_50 hx hb hts hown hK hP 0 rfl rfl d_M_insert_72 ?_
            refine lv_iload hx hb d_M_insert_75 (lv_at hl 0 rfl) ?_
            refine lv_iconst (v := iI 1) hx hb d_M_insert_77 rfl ?_
            refine li_isub hx hb d_M_insert_78 ?_
            refine li_iald hx hb hK hP 3 0 rfl rfl (by omega) (by omega) (by omega) d_M_insert_79 ?_
            refine li_iast hx hb hK hP hD hS 3 0 rfl rfl (by omega) (by omega) (by omega) d_M_insert_80 (fun H locs hP hD hS => ?_)
            have hP : va_P (dC, dI) CL [(mo, .inr (10, [.int (iI mrf), .ref (ma 0), .int (iI mz), .ref (ma 1), .ref (ma 2), .int (iI mls), .int (iI mfp), .int (iI mfm), .ref (ma 3), .int (iI mtx), .ref (ma 4), .ref (ma 5), .int (iI mwd), .ref (ma 6), .ref (ma 7), .int (iI mak), .ref (ma 8), .ref (ma 9), .int (iI mli), .int (iI mlx), .ref (ma 10), .ref (ma 11), .int (iI mat), .int (iI mtk), .int (iI mtf), .int (iI mtt), .int (iI mfa), .int (iI mla), .int (iI mlp), .int (iI mdp), .ref (ma 12), .ref (ma 13), .int (iI msi), .int (iI (bI mdn)), .int (iI mpf), .int (iI mpt)])), (ma 1, .inl (kA 0, 4120, .inl (aI ca))), (ma 10, .inl (kA 0, 2100, .inl (aI (va_up vf k.toNat (vf ((k - 1).toNat)))))), (ma 11, .inl (kA 0, 2100, .inl (aI (va_up vt k.toNat (vt ((k - 1).toNat))))))] H := hP
            have hD : va_D A [(mo, .inr (10, [.int (iI mrf), .ref (ma 0), .int (iI mz), .ref (ma 1), .ref (ma 2), .int (iI mls), .int (iI mfp), .int (iI mfm), .ref (ma 3), .int (iI mtx), .ref (ma 4), .ref (ma 5), .int (iI mwd), .ref (ma 6), .ref (ma 7), .int (iI mak), .ref (ma 8), .ref (ma 9), .int (iI mli), .int (iI mlx), .ref (ma 10), .ref (ma 11), .int (iI mat), .int (iI mtk), .int (iI mtf), .int (iI mtt), .int (iI mfa), .int (iI mla), .int (iI mlp), .int (iI mdp), .ref (ma 12), .ref (ma 13), .int (iI msi), .int (iI (bI mdn)), .int (iI mpf), .int (iI mpt)])), (ma 1, .inl (kA 0, 4120, .inl (aI ca))), (ma 10, .inl (kA 0, 2100, .inl (aI (va_up vf k.toNat (vf ((k - 1).toNat)))))), (ma 11, .inl (kA 0, 2100, .inl (aI (va_up vt k.toNat (vt ((k - 1).toNat))))))] := hD
            obtain ⟨k_n, ek_n⟩ : ∃ y_9 : Int, y_9 = k + (-1) := ⟨_, rfl⟩
            refine lv_iinc (v := iI k_n) (lv' := [(4, .int (iI k_n)), (3, .int (iI pl)), (0, .ref mo), (1, .int (iI x)), (2, .int (iI y))]) hx hb d_M_insert_81 hl (k := 0) rfl (by rw [ek_n]; exact iI_add _ _) (by decide) rfl (fun ls hl => ?_)
            refine lv_goto (tgt := 43) hx hb d_M_insert_84 (by decide) ?_
            exact ih_43 k_n (va_up vf k.toNat (vf ((k - 1).toNat))) (va_up vt k.toNat (vt ((k - 1).toNat))) (by omega) (by intro j hj; unfold va_up; rw [if_neg (by omega), if_neg (by omega)]; exact hv1 j (by omega)) (by intro j hj hj2; unfold va_up; by_cases q : j = k.toNat; (rw [if_pos q, if_pos q, show (k - 1).toNat = j - 1 by omega]; exact hv1 (j - 1) (by omega)); (rw [if_neg q, if_neg q]; exact hv2 j (by omega) hj2)) (by omega) _ _ hP hD hS _ (lv_sub hl [0, 1, 2, 3, 4] rfl)
      exact K_43 ((mli - pl).toNat + 1) mli clf clt (by omega) (by intro j hj; exact ⟨rfl, rfl⟩) (by intro j hj hj2; omega) (Nat.lt_succ_self _) _ _ hP hD hS _ (lv_sub hl [0, 1, 2, 3, 4] rfl)
    · have _q := c3
      have hin9 : inM ca ws (x, y) = ws := by unfold inM; simp only; rw [← epl, hgd, if_pos ⟨by omega, by assumption⟩]
      exact fin (mli, clf, clt) _ _ _ _ (by show HL (inM ca ws (x, y)) mli clf clt ∧ LB (inM ca ws (x, y)) 0 4000 ∧ mli ≤ mli ∧ mli ≤ mli + 1; rw [hin9]; exact ⟨hHL, hLB, by omega, by omega⟩) (by first | exact hP | (subst_vars; exact hP)) (by first | exact hD | (subst_vars; exact hD)) hS d_M_insert_36
theorem d_M_list_0 : decode b_M_list 0 = .ok (.aload_n 0, 1) := by decide +kernel
theorem d_M_list_1 : decode b_M_list 1 = .ok (.getfield 44, 3) := by decide +kernel
theorem d_M_list_4 : decode b_M_list 4 = .ok (.iload_n 1, 1) := by decide +kernel
theorem d_M_list_5 : decode b_M_list 5 = .ok (.if_icmp .ne 4, 3) := by decide +kernel
theorem d_M_list_8 : decode b_M_list 8 = .ok (.return_, 1) := by decide +kernel
theorem d_M_list_9 : decode b_M_list 9 = .ok (.aload_n 0, 1) := by decide +kernel
theorem d_M_list_10 : decode b_M_list 10 = .ok (.iload_n 1, 1) := by decide +kernel
theorem d_M_list_11 : decode b_M_list 11 = .ok (.putfield 44, 3) := by decide +kernel
theorem d_M_list_14 : decode b_M_list 14 = .ok (.aload_n 0, 1) := by decide +kernel
theorem d_M_list_15 : decode b_M_list 15 = .ok (.iconst 0, 1) := by decide +kernel
theorem d_M_list_16 : decode b_M_list 16 = .ok (.putfield 323, 3) := by decide +kernel
theorem d_M_list_19 : decode b_M_list 19 = .ok (.iconst 0, 1) := by decide +kernel
theorem d_M_list_20 : decode b_M_list 20 = .ok (.istore_n 2, 1) := by decide +kernel
theorem d_M_list_21 : decode b_M_list 21 = .ok (.iload_n 2, 1) := by decide +kernel
theorem d_M_list_22 : decode b_M_list 22 = .ok (.bipush 10, 2) := by decide +kernel
theorem d_M_list_24 : decode b_M_list 24 = .ok (.if_icmp .ge 95, 3) := by decide +kernel
theorem d_M_list_27 : decode b_M_list 27 = .ok (.aload_n 0, 1) := by decide +kernel
theorem d_M_list_28 : decode b_M_list 28 = .ok (.getfield 16, 3) := by decide +kernel
theorem d_M_list_31 : decode b_M_list 31 = .ok (.iload_n 2, 1) := by decide +kernel
theorem d_M_list_32 : decode b_M_list 32 = .ok (.iaload, 1) := by decide +kernel
theorem d_M_list_33 : decode b_M_list 33 = .ok (.ifCond .ne 6, 3) := by decide +kernel
theorem d_M_list_36 : decode b_M_list 36 = .ok (.goto 77, 3) := by decide +kernel
theorem d_M_list_39 : decode b_M_list 39 = .ok (.aload_n 0, 1) := by decide +kernel
theorem d_M_list_40 : decode b_M_list 40 = .ok (.iload_n 2, 1) := by decide +kernel
theorem d_M_list_41 : decode b_M_list 41 = .ok (.iload_n 1, 1) := by decide +kernel
theorem d_M_list_42 : decode b_M_list 42 = .ok (.invokevirtual 130, 3) := by decide +kernel
theorem d_M_list_45 : decode b_M_list 45 = .ok (.iconst 0, 1) := by decide +kernel
theorem d_M_list_46 : decode b_M_list 46 = .ok (.istore_n 3, 1) := by decide +kernel
theorem d_M_list_47 : decode b_M_list 47 = .ok (.iload_n 3, 1) := by decide +kernel
theorem d_M_list_48 : decode b_M_list 48 = .ok (.aload_n 0, 1) := by decide +kernel
theorem d_M_list_49 : decode b_M_list 49 = .ok (.getfield 113, 3) := by decide +kernel
theorem d_M_list_52 : decode b_M_list 52 = .ok (.if_icmp .ge 61, 3) := by decide +kernel
theorem d_M_list_55 : decode b_M_list 55 = .ok (.aload_n 0, 1) := by decide +kernel
theorem d_M_list_56 : decode b_M_list 56 = .ok (.aload_n 0, 1) := by decide +kernel
theorem d_M_list_57 : decode b_M_list 57 = .ok (.getfield 26, 3) := by decide +kernel
theorem d_M_list_60 : decode b_M_list 60 = .ok (.iload_n 3, 1) := by decide +kernel
theorem d_M_list_61 : decode b_M_list 61 = .ok (.iaload, 1) := by decide +kernel
theorem d_M_list_62 : decode b_M_list 62 = .ok (.aload_n 0, 1) := by decide +kernel
theorem d_M_list_63 : decode b_M_list 63 = .ok (.getfield 29, 3) := by decide +kernel
theorem d_M_list_66 : decode b_M_list 66 = .ok (.iload_n 3, 1) := by decide +kernel
theorem d_M_list_67 : decode b_M_list 67 = .ok (.iaload, 1) := by decide +kernel
theorem d_M_list_68 : decode b_M_list 68 = .ok (.invokevirtual 159, 3) := by decide +kernel
theorem d_M_list_71 : decode b_M_list 71 = .ok (.iconst 0, 1) := by decide +kernel
theorem d_M_list_72 : decode b_M_list 72 = .ok (.istore 4, 2) := by decide +kernel
theorem d_M_list_74 : decode b_M_list 74 = .ok (.iload 4, 2) := by decide +kernel
theorem d_M_list_76 : decode b_M_list 76 = .ok (.aload_n 0, 1) := by decide +kernel
theorem d_M_list_77 : decode b_M_list 77 = .ok (.getfield 142, 3) := by decide +kernel
theorem d_M_list_80 : decode b_M_list 80 = .ok (.if_icmp .ge 27, 3) := by decide +kernel
theorem d_M_list_83 : decode b_M_list 83 = .ok (.aload_n 0, 1) := by decide +kernel
theorem d_M_list_84 : decode b_M_list 84 = .ok (.aload_n 0, 1) := by decide +kernel
theorem d_M_list_85 : decode b_M_list 85 = .ok (.getfield 32, 3) := by decide +kernel
theorem d_M_list_88 : decode b_M_list 88 = .ok (.iload 4, 2) := by decide +kernel
theorem d_M_list_90 : decode b_M_list 90 = .ok (.iaload, 1) := by decide +kernel
theorem d_M_list_91 : decode b_M_list 91 = .ok (.aload_n 0, 1) := by decide +kernel
theorem d_M_list_92 : decode b_M_list 92 = .ok (.getfield 35, 3) := by decide +kernel
theorem d_M_list_95 : decode b_M_list 95 = .ok (.iload 4, 2) := by decide +kernel
theorem d_M_list_97 : decode b_M_list 97 = .ok (.iaload, 1) := by decide +kernel
theorem d_M_list_98 : decode b_M_list 98 = .ok (.invokevirtual 329, 3) := by decide +kernel
theorem d_M_list_101 : decode b_M_list 101 = .ok (.iinc 4 1, 3) := by decide +kernel
theorem d_M_list_104 : decode b_M_list 104 = .ok (.goto (-30), 3) := by decide +kernel
theorem d_M_list_107 : decode b_M_list 107 = .ok (.iinc 3 1, 3) := by decide +kernel
theorem d_M_list_110 : decode b_M_list 110 = .ok (.goto (-63), 3) := by decide +kernel
theorem d_M_list_113 : decode b_M_list 113 = .ok (.iinc 2 1, 3) := by decide +kernel
theorem d_M_list_116 : decode b_M_list 116 = .ok (.goto (-95), 3) := by decide +kernel
theorem d_M_list_119 : decode b_M_list 119 = .ok (.return_, 1) := by decide +kernel
set_option maxHeartbeats 4000000 in
set_option maxRecDepth 100000 in
theorem c_M_list (l : Launch) (dC : Nat → ClassId) (dI : Nat → Nat → Nat) (kA : Nat → ClassId) (sz : Nat) (mo : Nat) (ma : Nat → Nat) (mrf : Int) (mz : Int) (mls : Int) (mfp : Int) (mfm : Int) (mtx : Int) (mwd : Int) (mak : Int) (mli : Int) (mlx : Int) (mat : Int) (mtk : Int) (mtf : Int) (mtt : Int) (mfa : Int) (mla : Int) (mlp : Int) (mdp : Int) (msi : Int) (mpf : Int) (mpt : Int) (mdn : Bool) (ca : Nat → Int) (cle : Nat → Int) (ctf : Nat → Int) (ctt : Nat → Int) (cwf : Nat → Int) (cwt : Nat → Int) (clf : Nat → Int) (clt : Nat → Int) (ws : List (Int × Int)) (ix : Int) (hca : C2 ca) (hle : ∀ j, 0 ≤ cle j ∧ cle j ≤ 400) (hRec : Recs ca cle) (hix : 0 ≤ ix ∧ ix ≤ 5) (hlx : -1 ≤ mlx ∧ mlx ≤ 5) (hLI : mlx = ix → HL ws mli clf clt ∧ LB ws 0 4000 ∧ mli ≤ 2100) : Met l y_M_list (wsy y_M_list b_M_list 5 none) (rmd 4 0 0) (li_Pr (dC, dI) CL (TY kA) [.ref mo, .int (iI ix)] (fun h => h.size = sz ∧ va_P (dC, dI) CL [(mo, .inr (10, [.int (iI mrf), .ref (ma 0), .int (iI mz), .ref (ma 1), .ref (ma 2), .int (iI mls), .int (iI mfp), .int (iI mfm), .ref (ma 3), .int (iI mtx), .ref (ma 4), .ref (ma 5), .int (iI mwd), .ref (ma 6), .ref (ma 7), .int (iI mak), .ref (ma 8), .ref (ma 9), .int (iI mli), .int (iI mlx), .ref (ma 10), .ref (ma 11), .int (iI mat), .int (iI mtk), .int (iI mtf), .int (iI mtt), .int (iI mfa), .int (iI mla), .int (iI mlp), .int (iI mdp), .ref (ma 12), .ref (ma 13), .int (iI msi), .int (iI (bI mdn)), .int (iI mpf), .int (iI mpt)])), (ma 1, .inl (kA 0, 4120, .inl (aI ca))), (ma 2, .inl (kA 0, 10, .inl (aI cle))), (ma 4, .inl (kA 0, 400, .inl (aI ctf))), (ma 5, .inl (kA 0, 400, .inl (aI ctt))), (ma 6, .inl (kA 0, 400, .inl (aI cwf))), (ma 7, .inl (kA 0, 400, .inl (aI cwt))), (ma 10, .inl (kA 0, 2100, .inl (aI clf))), (ma 11, .inl (kA 0, 2100, .inl (aI clt)))] h ∧ va_D (fun q => dI 100 0 ≤ q) [(mo, .inr (10, [.int (iI mrf), .ref (ma 0), .int (iI mz), .ref (ma 1), .ref (ma 2), .int (iI mls), .int (iI mfp), .int (iI mfm), .ref (ma 3), .int (iI mtx), .ref (ma 4), .ref (ma 5), .int (iI mwd), .ref (ma 6), .ref (ma 7), .int (iI mak), .ref (ma 8), .ref (ma 9), .int (iI mli), .int (iI mlx), .ref (ma 10), .ref (ma 11), .int (iI mat), .int (iI mtk), .int (iI mtf), .int (iI mtt), .int (iI mfa), .int (iI mla), .int (iI mlp), .int (iI mdp), .ref (ma 12), .ref (ma 13), .int (iI msi), .int (iI (bI mdn)), .int (iI mpf), .int (iI mpt)])), (ma 1, .inl (kA 0, 4120, .inl (aI ca))), (ma 2, .inl (kA 0, 10, .inl (aI cle))), (ma 4, .inl (kA 0, 400, .inl (aI ctf))), (ma 5, .inl (kA 0, 400, .inl (aI ctt))), (ma 6, .inl (kA 0, 400, .inl (aI cwf))), (ma 7, .inl (kA 0, 400, .inl (aI cwt))), (ma 10, .inl (kA 0, 2100, .inl (aI clf))), (ma 11, .inl (kA 0, 2100, .inl (aI clt)))] ∧ (fun _ => True) h)) (li_Qw (S := (Int) × (Nat → Int) × (Nat → Int) × (Int) × (Nat → Int) × (Nat → Int) × (Int) × (Nat → Int) × (Nat → Int) × (Int)) (dC, dI) CL (fun u => u.2.2.2.2.2.2.2.2.2 = ix ∧ HL (if mlx = ix then ws else lsM ca cle ix) u.2.2.2.2.2.2.1 u.2.2.2.2.2.2.2.1 u.2.2.2.2.2.2.2.2.1 ∧ LB (if mlx = ix then ws else lsM ca cle ix) 0 4000 ∧ u.2.2.2.2.2.2.1 ≤ 2100) (fun _ => none) (fun u => [(mo, .inr (10, [.int (iI mrf), .ref (ma 0), .int (iI mz), .ref (ma 1), .ref (ma 2), .int (iI mls), .int (iI mfp), .int (iI mfm), .ref (ma 3), .int (iI u.1), .ref (ma 4), .ref (ma 5), .int (iI u.2.2.2.1), .ref (ma 6), .ref (ma 7), .int (iI mak), .ref (ma 8), .ref (ma 9), .int (iI u.2.2.2.2.2.2.1), .int (iI u.2.2.2.2.2.2.2.2.2), .ref (ma 10), .ref (ma 11), .int (iI mat), .int (iI mtk), .int (iI mtf), .int (iI mtt), .int (iI mfa), .int (iI mla), .int (iI mlp), .int (iI mdp), .ref (ma 12), .ref (ma 13), .int (iI msi), .int (iI (bI mdn)), .int (iI mpf), .int (iI mpt)])), (ma 1, .inl (kA 0, 4120, .inl (aI ca))), (ma 2, .inl (kA 0, 10, .inl (aI cle))), (ma 4, .inl (kA 0, 400, .inl (aI u.2.1))), (ma 5, .inl (kA 0, 400, .inl (aI u.2.2.1))), (ma 6, .inl (kA 0, 400, .inl (aI u.2.2.2.2.1))), (ma 7, .inl (kA 0, 400, .inl (aI u.2.2.2.2.2.1))), (ma 10, .inl (kA 0, 2100, .inl (aI u.2.2.2.2.2.2.2.1))), (ma 11, .inl (kA 0, 2100, .inl (aI u.2.2.2.2.2.2.2.2.1)))]) (va_A [(mo, .inr (10, [.int (iI mrf), .ref (ma 0), .int (iI mz), .ref (ma 1), .ref (ma 2), .int (iI mls), .int (iI mfp), .int (iI mfm), .ref (ma 3), .int (iI mtx), .ref (ma 4), .ref (ma 5), .int (iI mwd), .ref (ma 6), .ref (ma 7), .int (iI mak), .ref (ma 8), .ref (ma 9), .int (iI mli), .int (iI mlx), .ref (ma 10), .ref (ma 11), .int (iI mat), .int (iI mtk), .int (iI mtf), .int (iI mtt), .int (iI mfa), .int (iI mla), .int (iI mlp), .int (iI mdp), .ref (ma 12), .ref (ma 13), .int (iI msi), .int (iI (bI mdn)), .int (iI mpf), .int (iI mpt)])), (ma 1, .inl (kA 0, 4120, .inl (aI ca))), (ma 2, .inl (kA 0, 10, .inl (aI cle))), (ma 4, .inl (kA 0, 400, .inl (aI ctf))), (ma 5, .inl (kA 0, 400, .inl (aI ctt))), (ma 6, .inl (kA 0, 400, .inl (aI cwf))), (ma 7, .inl (kA 0, 400, .inl (aI cwt))), (ma 10, .inl (kA 0, 2100, .inl (aI clf))), (ma 11, .inl (kA 0, 2100, .inl (aI clt)))] sz)) 0 0 (va_A [(mo, .inr (10, [.int (iI mrf), .ref (ma 0), .int (iI mz), .ref (ma 1), .ref (ma 2), .int (iI mls), .int (iI mfp), .int (iI mfm), .ref (ma 3), .int (iI mtx), .ref (ma 4), .ref (ma 5), .int (iI mwd), .ref (ma 6), .ref (ma 7), .int (iI mak), .ref (ma 8), .ref (ma 9), .int (iI mli), .int (iI mlx), .ref (ma 10), .ref (ma 11), .int (iI mat), .int (iI mtk), .int (iI mtf), .int (iI mtt), .int (iI mfa), .int (iI mla), .int (iI mlp), .int (iI mdp), .ref (ma 12), .ref (ma 13), .int (iI msi), .int (iI (bI mdn)), .int (iI mpf), .int (iI mpt)])), (ma 1, .inl (kA 0, 4120, .inl (aI ca))), (ma 2, .inl (kA 0, 10, .inl (aI cle))), (ma 4, .inl (kA 0, 400, .inl (aI ctf))), (ma 5, .inl (kA 0, 400, .inl (aI ctt))), (ma 6, .inl (kA 0, 400, .inl (aI cwf))), (ma 7, .inl (kA 0, 400, .inl (aI cwt))), (ma 10, .inl (kA 0, 2100, .inl (aI clf))), (ma 11, .inl (kA 0, 2100, .inl (aI clt)))] sz) := by
  refine li_mwv (by decide) (Nat.le_of_ble_eq_true rfl) ?_
  intro p e s m args below meth c Q A C hP hD hBx hK hN hG hA hAi hAN fin ls hl
  obtain ⟨hx, hb, hr, hml, hown, hts, hlocks, hin⟩ := C
  have hown : s.vm.findClass R_M = some m.cls := hown
  have hl : lv_has ls 5 [(0, .ref mo), (1, .int (iI ix))] := hl
  suffices h9 : ∀ (H : Heap) (locs : List Loc), H = s.heap → locs = [] → W p l e (rmd 4 0 0) s m args below meth c H locs 0 0 Q (F0 m 0 ls []) from h9 _ _ rfl rfl
  intro H locs eH eL
  have hP : va_P (dC, dI) CL [(mo, .inr (10, [.int (iI mrf), .ref (ma 0), .int (iI mz), .ref (ma 1), .ref (ma 2), .int (iI mls), .int (iI mfp), .int (iI mfm), .ref (ma 3), .int (iI mtx), .ref (ma 4), .ref (ma 5), .int (iI mwd), .ref (ma 6), .ref (ma 7), .int (iI mak), .ref (ma 8), .ref (ma 9), .int (iI mli), .int (iI mlx), .ref (ma 10), .ref (ma 11), .int (iI mat), .int (iI mtk), .int (iI mtf), .int (iI mtt), .int (iI mfa), .int (iI mla), .int (iI mlp), .int (iI mdp), .ref (ma 12), .ref (ma 13), .int (iI msi), .int (iI (bI mdn)), .int (iI mpf), .int (iI mpt)])), (ma 1, .inl (kA 0, 4120, .inl (aI ca))), (ma 2, .inl (kA 0, 10, .inl (aI cle))), (ma 4, .inl (kA 0, 400, .inl (aI ctf))), (ma 5, .inl (kA 0, 400, .inl (aI ctt))), (ma 6, .inl (kA 0, 400, .inl (aI cwf))), (ma 7, .inl (kA 0, 400, .inl (aI cwt))), (ma 10, .inl (kA 0, 2100, .inl (aI clf))), (ma 11, .inl (kA 0, 2100, .inl (aI clt)))] H := by rw [eH]; exact hP
  have hS : va_S A s.heap H locs := by rw [eH, eL]; exact va_S.rf
  refine lv_aload_n hx hb d_M_list_0 rfl (lv_at hl 0 rfl) ?_
  refine gf_M_44 hx hb hts hown hK hP 0 rfl rfl d_M_list_1 ?_
  refine lv_iload_n hx hb d_M_list_4 rfl (lv_at hl 1 rfl) ?_
  refine li_icmp_ne (tgt := 9) hx hb d_M_list_5 (by decide) (by omega) (by omega) (fun c1 => ?_) (fun c1 => ?_)
  · have _q := c1
    refine lv_aload_n hx hb d_M_list_9 rfl (lv_at hl 0 rfl) ?_
    refine lv_iload_n hx hb d_M_list_10 rfl (lv_at hl 1 rfl) ?_
    refine pf_M_44 hx hb hts hown hK hP hD hS 0 rfl (Nat.le_of_ble_eq_true rfl) d_M_list_11 (fun H locs hP hD hS => ?_)
    have hP : va_P (dC, dI) CL [(mo, .inr (10, [.int (iI mrf), .ref (ma 0), .int (iI mz), .ref (ma 1), .ref (ma 2), .int (iI mls), .int (iI mfp), .int (iI mfm), .ref (ma 3), .int (iI mtx), .ref (ma 4), .ref (ma 5), .int (iI mwd), .ref (ma 6), .ref (ma 7), .int (iI mak), .ref (ma 8), .ref (ma 9), .int (iI mli), .int (iI ix), .ref (ma 10), .ref (ma 11), .int (iI mat), .int (iI mtk), .int (iI mtf), .int (iI mtt), .int (iI mfa), .int (iI mla), .int (iI mlp), .int (iI mdp), .ref (ma 12), .ref (ma 13), .int (iI msi), .int (iI (bI mdn)), .int (iI mpf), .int (iI mpt)])), (ma 1, .inl (kA 0, 4120, .inl (aI ca))), (ma 2, .inl (kA 0, 10, .inl (aI cle))), (ma 4, .inl (kA 0, 400, .inl (aI ctf))), (ma 5, .inl (kA 0, 400, .inl (aI ctt))), (ma 6, .inl (kA 0, 400, .inl (aI cwf))), (ma 7, .inl (kA 0, 400, .inl (aI cwt))), (ma 10, .inl (kA 0, 2100, .inl (aI clf))), (ma 11, .inl (kA 0, 2100, .inl (aI clt)))] H := hP
    have hD : va_D A [(mo, .inr (10, [.int (iI mrf), .ref (ma 0), .int (iI mz), .ref (ma 1), .ref (ma 2), .int (iI mls), .int (iI mfp), .int (iI mfm), .ref (ma 3), .int (iI mtx), .ref (ma 4), .ref (ma 5), .int (iI mwd), .ref (ma 6), .ref (ma 7), .int (iI mak), .ref (ma 8), .ref (ma 9), .int (iI mli), .int (iI ix), .ref (ma 10), .ref (ma 11), .int (iI mat), .int (iI mtk), .int (iI mtf), .int (iI mtt), .int (iI mfa), .int (iI mla), .int (iI mlp), .int (iI mdp), .ref (ma 12), .ref (ma 13), .int (iI msi), .int (iI (bI mdn)), .int (iI mpf), .int (iI mpt)])), (ma 1, .inl (kA 0, 4120, .inl (aI ca))), (ma 2, .inl (kA 0, 10, .inl (aI cle))), (ma 4, .inl (kA 0, 400, .inl (aI ctf))), (ma 5, .inl (kA 0, 400, .inl (aI ctt))), (ma 6, .inl (kA 0, 400, .inl (aI cwf))), (ma 7, .inl (kA 0, 400, .inl (aI cwt))), (ma 10, .inl (kA 0, 2100, .inl (aI clf))), (ma 11, .inl (kA 0, 2100, .inl (aI clt)))] := hD
    refine lv_aload_n hx hb d_M_list_14 rfl (lv_at hl 0 rfl) ?_
    refine lv_iconst (v := iI 0) hx hb d_M_list_15 rfl ?_
    refine pf_M_323 hx hb hts hown hK hP hD hS 0 rfl (Nat.le_of_ble_eq_true rfl) d_M_list_16 (fun H locs hP hD hS => ?_)
    have hP : va_P (dC, dI) CL [(mo, .inr (10, [.int (iI mrf), .ref (ma 0), .int (iI mz), .ref (ma 1), .ref (ma 2), .int (iI mls), .int (iI mfp), .int (iI mfm), .ref (ma 3), .int (iI mtx), .ref (ma 4), .ref (ma 5), .int (iI mwd), .ref (ma 6), .ref (ma 7), .int (iI mak), .ref (ma 8), .ref (ma 9), .int (iI 0), .int (iI ix), .ref (ma 10), .ref (ma 11), .int (iI mat), .int (iI mtk), .int (iI mtf), .int (iI mtt), .int (iI mfa), .int (iI mla), .int (iI mlp), .int (iI mdp), .ref (ma 12), .ref (ma 13), .int (iI msi), .int (iI (bI mdn)), .int (iI mpf), .int (iI mpt)])), (ma 1, .inl (kA 0, 4120, .inl (aI ca))), (ma 2, .inl (kA 0, 10, .inl (aI cle))), (ma 4, .inl (kA 0, 400, .inl (aI ctf))), (ma 5, .inl (kA 0, 400, .inl (aI ctt))), (ma 6, .inl (kA 0, 400, .inl (aI cwf))), (ma 7, .inl (kA 0, 400, .inl (aI cwt))), (ma 10, .inl (kA 0, 2100, .inl (aI clf))), (ma 11, .inl (kA 0, 2100, .inl (aI clt)))] H := hP
    have hD : va_D A [(mo, .inr (10, [.int (iI mrf), .ref (ma 0), .int (iI mz), .ref (ma 1), .ref (ma 2), .int (iI mls), .int (iI mfp), .int (iI mfm), .ref (ma 3), .int (iI mtx), .ref (ma 4), .ref (ma 5), .int (iI mwd), .ref (ma 6), .ref (ma 7), .int (iI mak), .ref (ma 8), .ref (ma 9), .int (iI 0), .int (iI ix), .ref (ma 10), .ref (ma 11), .int (iI mat), .int (iI mtk), .int (iI mtf), .int (iI mtt), .int (iI mfa), .int (iI mla), .int (iI mlp), .int (iI mdp), .ref (ma 12), .ref (ma 13), .int (iI msi), .int (iI (bI mdn)), .int (iI mpf), .int (iI mpt)])), (ma 1, .inl (kA 0, 4120, .inl (aI ca))), (ma 2, .inl (kA 0, 10, .inl (aI cle))), (ma 4, .inl (kA 0, 400, .inl (aI ctf))), (ma 5, .inl (kA 0, 400, .inl (aI ctt))), (ma 6, .inl (kA 0, 400, .inl (aI cwf))), (ma 7, .inl (kA 0, 400, .inl (aI cwt))), (ma 10, .inl (kA 0, 2100, .inl (aI clf))), (ma 11, .inl (kA 0, 2100, .inl (aI clt)))] := hD
    refine lv_iconst (v := iI 0) hx hb d_M_list_19 rfl ?_
    refine lv_istore_n (lv' := [(2, .int (iI 0)), (0, .ref mo), (1, .int (iI ix))]) hx hb d_M_list_20 rfl hl (by decide) rfl (fun ls hl => ?_)
    have K_21 : ∀ (nn_21 : Nat) (r : Int) (cur : List (Int × Int)) (vn : Int) (vf : Nat → Int) (vt : Nat → Int) (wn : Int) (wf : Nat → Int) (wt : Nat → Int) (ln : Int) (lf : Nat → Int) (lt : Nat → Int), (0 ≤ r ∧ r ≤ 10) → (HL cur ln lf lt) → (LB cur 0 4000) → (2 * ln ≤ 400 * r) → (lsL ca cle ix (10 - r).toNat r cur = lsM ca cle ix) → ((10 - (r : Int)).toNat < nn_21) → ∀ (H : Heap) (locs : List Loc), va_P (dC, dI) CL [(mo, .inr (10, [.int (iI mrf), .ref (ma 0), .int (iI mz), .ref (ma 1), .ref (ma 2), .int (iI mls), .int (iI mfp), .int (iI mfm), .ref (ma 3), .int (iI vn), .ref (ma 4), .ref (ma 5), .int (iI wn), .ref (ma 6), .ref (ma 7), .int (iI mak), .ref (ma 8), .ref (ma 9), .int (iI ln), .int (iI ix), .ref (ma 10), .ref (ma 11), .int (iI mat), .int (iI mtk), .int (iI mtf), .int (iI mtt), .int (iI mfa), .int (iI mla), .int (iI mlp), .int (iI mdp), .ref (ma 12), .ref (ma 13), .int (iI msi), .int (iI (bI mdn)), .int (iI mpf), .int (iI mpt)])), (ma 1, .inl (kA 0, 4120, .inl (aI ca))), (ma 2, .inl (kA 0, 10, .inl (aI cle))), (ma 4, .inl (kA 0, 400, .inl (aI vf))), (ma 5, .inl (kA 0, 400, .inl (aI vt))), (ma 6, .inl (kA 0, 400, .inl (aI wf))), (ma 7, .inl (kA 0, 400, .inl (aI wt))), (ma 10, .inl (kA 0, 2100, .inl (aI lf))), (ma 11, .inl (kA 0, 2100, .inl (aI lt)))] H → va_D A [(mo, .inr (10, [.int (iI mrf), .ref (ma 0), .int (iI mz), .ref (ma 1), .ref (ma 2), .int (iI mls), .int (iI mfp), .int (iI mfm), .ref (ma 3), .int (iI vn), .ref (ma 4), .ref (ma 5), .int (iI wn), .ref (ma 6), .ref (ma 7), .int (iI mak), .ref (ma 8), .ref (ma 9), .int (iI ln), .int (iI ix), .ref (ma 10), .ref (ma 11), .int (iI mat), .int (iI mtk), .int (iI mtf), .int (iI mtt), .int (iI mfa), .int (iI mla), .int (iI mlp), .int (iI mdp), .ref (ma 12), .ref (ma 13), .int (iI msi), .int (iI (bI mdn)), .int (iI mpf), .int (iI mpt)])), (ma 1, .inl (kA 0, 4120, .inl (aI ca))), (ma 2, .inl (kA 0, 10, .inl (aI cle))), (ma 4, .inl (kA 0, 400, .inl (aI vf))), (ma 5, .inl (kA 0, 400, .inl (aI vt))), (ma 6, .inl (kA 0, 400, .inl (aI wf))), (ma 7, .inl (kA 0, 400, .inl (aI wt))), (ma 10, .inl (kA 0, 2100, .inl (aI lf))), (ma 11, .inl (kA 0, 2100, .inl (aI lt)))] → va_S A s.heap H locs → ∀ ls : Array Slot, lv_has ls 5 [(2, .int (iI r)), (0, .ref mo), (1, .int (iI ix))] → W p l e (rmd 4 0 0) s m args below meth c H locs 0 0 Q (F0 m 21 ls []) := by
      intro nn_21
      induction nn_21 with
      | zero => intro r cur vn vf vt wn wf wt ln lf lt hr9 hHc hLc hcc hres hm; exact absurd hm (Nat.not_lt_zero _)
      | succ nn_21 ih_21 =>
        intro r cur vn vf vt wn wf wt ln lf lt hr9 hHc hLc hcc hres hm_21 H locs hP hD hS ls hl
        refine lv_iload_n hx hb d_M_list_21 rfl (lv_at hl 0 rfl) ?_
        refine lv_bipush (v := iI 10) hx hb d_M_list_22 (by decide) ?_
        refine li_icmp_ge (tgt := 119) hx hb d_M_list_24 (by decide) (by omega) (by omega) (fun c2 => ?_) (fun c2 => ?_)
        · have _q := c2
          rw [show (10 - r).toNat = 0 by omega] at hres
          simp only [lsL] at hres
          exact fin (vn, vf, vt, wn, wf, wt, ln, lf, lt, ix) _ _ _ _ (by show ix = ix ∧ HL (if mlx = ix then ws else lsM ca cle ix) ln lf lt ∧ LB (if mlx = ix then ws else lsM ca cle ix) 0 4000 ∧ ln ≤ 2100; rw [if_neg (by omega), ← hres]; exact ⟨rfl, hHc, hLc, by omega⟩) (by first | exact hP | (subst_vars; exact hP)) (by first | exact hD | (subst_vars; exact hD)) hS d_M_list_119
        · have _q := c2
          rw [show (10 - r).toNat = (10 - (r + 1)).toNat + 1 by omega] at hres
          simp only [lsL] at hres
          refine lv_aload_n hx hb d_M_list_27 rfl (lv_at hl 1 rfl) ?_
          refine gf_M_16 hx hb hts hown hK hP 0 rfl rfl d_M_list_28 ?_
          refine lv_iload_n hx hb d_M_list_31 rfl (lv_at hl 0 rfl) ?_
          refine li_iald hx hb hK hP 2 0 rfl rfl (by omega) (by omega) (by omega) d_M_list_32 ?_
          have f3 := hle r.toNat
          refine li_if_ne (tgt := 39) hx hb d_M_list_33 (by decide) (by omega) (fun c4 => ?_) (fun c4 => ?_)
          · have _q := c4
            rw [if_neg (by assumption)] at hres
            refine lv_aload_n hx hb d_M_list_39 rfl (lv_at hl 1 rfl) ?_
            refine lv_iload_n hx hb d_M_list_40 rfl (lv_at hl 0 rfl) ?_
            refine lv_iload_n hx hb d_M_list_41 rfl (lv_at hl 2 rfl) ?_
            refine li_callw (wc := [(mo, .inr (10, [.int (iI mrf), .ref (ma 0), .int (iI mz), .ref (ma 1), .ref (ma 2), .int (iI mls), .int (iI mfp), .int (iI mfm), .ref (ma 3), .int (iI vn), .ref (ma 4), .ref (ma 5), .int (iI wn), .ref (ma 6), .ref (ma 7), .int (iI mak), .ref (ma 8), .ref (ma 9), .int (iI ln), .int (iI ix), .ref (ma 10), .ref (ma 11), .int (iI mat), .int (iI mtk), .int (iI mtf), .int (iI mtt), .int (iI mfa), .int (iI mla), .int (iI mlp), .int (iI mdp), .ref (ma 12), .ref (ma 13), .int (iI msi), .int (iI (bI mdn)), .int (iI mpf), .int (iI mpt)])), (ma 1, .inl (kA 0, 4120, .inl (aI ca))), (ma 4, .inl (kA 0, 400, .inl (aI vf))), (ma 5, .inl (kA 0, 400, .inl (aI vt)))]) (wr := [(ma 2, .inl (kA 0, 10, .inl (aI cle))), (ma 6, .inl (kA 0, 400, .inl (aI wf))), (ma 7, .inl (kA 0, 400, .inl (aI wt))), (ma 10, .inl (kA 0, 2100, .inl (aI lf))), (ma 11, .inl (kA 0, 2100, .inl (aI lt)))]) (va_runV (As := [.int (iI r), .int (iI ix)]) (rest := []) ⟨hx, hb, hml, hown, hts⟩ (c_M_gather l dC dI kA H.size mo ma mrf mz mls mfp mfm vn wn mak ln ix mat mtk mtf mtt mfa mla mlp mdp msi mpf mpt mdn ca vf vt r ix ((cle r.toNat).toNat) (by exact hca) (by omega) (by omega) (by exact hRec r (by omega) (by omega) (by omega))) (cw_M_130 hts rfl rfl ⟨Nat.le_of_ble_eq_true rfl, Nat.le_of_ble_eq_true rfl⟩) (li_preV (va_recv hK hP (ci := 10) (q0 := 0) rfl rfl) ⟨rfl, hP.sub [0, 1, 3, 4] rfl, (hD.sub [0, 1, 3, 4] (by decide) rfl).weaken (fun _ _ _ h => hAN _ h), trivial⟩ hK hN (hG.go hS hAN)) rfl rfl hl.1 rfl (lv_room (Nat.le_of_ble_eq_true rfl)) d_M_list_42 ⟨(by show 0 + 0 ≤ 0; omega), (by show 0 + 0 ≤ 0; omega)⟩) hP hD hS hA [0, 1, 3, 4] [2, 5, 6, 7, 8] rfl rfl (by decide) (by decide) (fun u5 H locs hu5 hP hD hS _hk => ?_)
            obtain ⟨n_t, f_t, g_t⟩ := u5
            have hP : va_P (dC, dI) CL [(ma 2, .inl (kA 0, 10, .inl (aI cle))), (ma 6, .inl (kA 0, 400, .inl (aI wf))), (ma 7, .inl (kA 0, 400, .inl (aI wt))), (ma 10, .inl (kA 0, 2100, .inl (aI lf))), (ma 11, .inl (kA 0, 2100, .inl (aI lt))), (mo, .inr (10, [.int (iI mrf), .ref (ma 0), .int (iI mz), .ref (ma 1), .ref (ma 2), .int (iI mls), .int (iI mfp), .int (iI mfm), .ref (ma 3), .int (iI n_t), .ref (ma 4), .ref (ma 5), .int (iI wn), .ref (ma 6), .ref (ma 7), .int (iI mak), .ref (ma 8), .ref (ma 9), .int (iI ln), .int (iI ix), .ref (ma 10), .ref (ma 11), .int (iI mat), .int (iI mtk), .int (iI mtf), .int (iI mtt), .int (iI mfa), .int (iI mla), .int (iI mlp), .int (iI mdp), .ref (ma 12), .ref (ma 13), .int (iI msi), .int (iI (bI mdn)), .int (iI mpf), .int (iI mpt)])), (ma 1, .inl (kA 0, 4120, .inl (aI ca))), (ma 4, .inl (kA 0, 400, .inl (aI f_t))), (ma 5, .inl (kA 0, 400, .inl (aI g_t)))] H := hP
            have hD : va_D A [(ma 2, .inl (kA 0, 10, .inl (aI cle))), (ma 6, .inl (kA 0, 400, .inl (aI wf))), (ma 7, .inl (kA 0, 400, .inl (aI wt))), (ma 10, .inl (kA 0, 2100, .inl (aI lf))), (ma 11, .inl (kA 0, 2100, .inl (aI lt))), (mo, .inr (10, [.int (iI mrf), .ref (ma 0), .int (iI mz), .ref (ma 1), .ref (ma 2), .int (iI mls), .int (iI mfp), .int (iI mfm), .ref (ma 3), .int (iI n_t), .ref (ma 4), .ref (ma 5), .int (iI wn), .ref (ma 6), .ref (ma 7), .int (iI mak), .ref (ma 8), .ref (ma 9), .int (iI ln), .int (iI ix), .ref (ma 10), .ref (ma 11), .int (iI mat), .int (iI mtk), .int (iI mtf), .int (iI mtt), .int (iI mfa), .int (iI mla), .int (iI mlp), .int (iI mdp), .ref (ma 12), .ref (ma 13), .int (iI msi), .int (iI (bI mdn)), .int (iI mpf), .int (iI mpt)])), (ma 1, .inl (kA 0, 4120, .inl (aI ca))), (ma 4, .inl (kA 0, 400, .inl (aI f_t))), (ma 5, .inl (kA 0, 400, .inl (aI g_t)))] := hD
            have hp42 : HL (gaT ca r ix) n_t f_t g_t ∧ LB (gaT ca r ix) (400 * r) (400 * r + 400) ∧ n_t ≤ 400 := hu5
            have hnt := hp42.1.nn
            have htsm := gaT_sum (ix := ix) (r := r) (by omega) (hRec r (by omega) (by omega) (by omega))
            refine lv_iconst (v := iI 0) hx hb d_M_list_45 rfl ?_
            refine lv_istore_n (lv' := [(3, .int (iI 0)), (2, .int (iI r)), (0, .ref mo), (1, .int (iI ix))]) hx hb d_M_list_46 rfl hl (by decide) rfl (fun ls hl => ?_)
            have K_47 : ∀ (nn_47 : Nat) (t9 : Int) (cu2 : List (Int × Int)) (wn : Int) (wf : Nat → Int) (wt : Nat → Int) (ln : Int) (lf : Nat → Int) (lt : Nat → Int), (0 ≤ t9 ∧ t9 ≤ n_t) → (HL cu2 ln lf lt) → (LB cu2 0 4000) → (2 * ln + tsum ((gaT ca r ix).drop t9.toNat) ≤ 400 * r + 400) → (lsT ca ((gaT ca r ix).drop t9.toNat) cu2 = lsT ca (gaT ca r ix) cur) → ((n_t - t9).toNat < nn_47) → ∀ (H : Heap) (locs : List Loc), va_P (dC, dI) CL [(ma 2, .inl (kA 0, 10, .inl (aI cle))), (ma 6, .inl (kA 0, 400, .inl (aI wf))), (ma 7, .inl (kA 0, 400, .inl (aI wt))), (ma 10, .inl (kA 0, 2100, .inl (aI lf))), (ma 11, .inl (kA 0, 2100, .inl (aI lt))), (mo, .inr (10, [.int (iI mrf), .ref (ma 0), .int (iI mz), .ref (ma 1), .ref (ma 2), .int (iI mls), .int (iI mfp), .int (iI mfm), .ref (ma 3), .int (iI n_t), .ref (ma 4), .ref (ma 5), .int (iI wn), .ref (ma 6), .ref (ma 7), .int (iI mak), .ref (ma 8), .ref (ma 9), .int (iI ln), .int (iI ix), .ref (ma 10), .ref (ma 11), .int (iI mat), .int (iI mtk), .int (iI mtf), .int (iI mtt), .int (iI mfa), .int (iI mla), .int (iI mlp), .int (iI mdp), .ref (ma 12), .ref (ma 13), .int (iI msi), .int (iI (bI mdn)), .int (iI mpf), .int (iI mpt)])), (ma 1, .inl (kA 0, 4120, .inl (aI ca))), (ma 4, .inl (kA 0, 400, .inl (aI f_t))), (ma 5, .inl (kA 0, 400, .inl (aI g_t)))] H → va_D A [(ma 2, .inl (kA 0, 10, .inl (aI cle))), (ma 6, .inl (kA 0, 400, .inl (aI wf))), (ma 7, .inl (kA 0, 400, .inl (aI wt))), (ma 10, .inl (kA 0, 2100, .inl (aI lf))), (ma 11, .inl (kA 0, 2100, .inl (aI lt))), (mo, .inr (10, [.int (iI mrf), .ref (ma 0), .int (iI mz), .ref (ma 1), .ref (ma 2), .int (iI mls), .int (iI mfp), .int (iI mfm), .ref (ma 3), .int (iI n_t), .ref (ma 4), .ref (ma 5), .int (iI wn), .ref (ma 6), .ref (ma 7), .int (iI mak), .ref (ma 8), .ref (ma 9), .int (iI ln), .int (iI ix), .ref (ma 10), .ref (ma 11), .int (iI mat), .int (iI mtk), .int (iI mtf), .int (iI mtt), .int (iI mfa), .int (iI mla), .int (iI mlp), .int (iI mdp), .ref (ma 12), .ref (ma 13), .int (iI msi), .int (iI (bI mdn)), .int (iI mpf), .int (iI mpt)])), (ma 1, .inl (kA 0, 4120, .inl (aI ca))), (ma 4, .inl (kA 0, 400, .inl (aI f_t))), (ma 5, .inl (kA 0, 400, .inl (aI g_t)))] → va_S A s.heap H locs → ∀ ls : Array Slot, lv_has ls 5 [(3, .int (iI t9)), (2, .int (iI r)), (0, .ref mo), (1, .int (iI ix))] → W p l e (rmd 4 0 0) s m args below meth c H locs 0 0 Q (F0 m 47 ls []) := by
              intro nn_47
              induction nn_47 with
              | zero => intro t9 cu2 wn wf wt ln lf lt ht9 hH2 hL2 hc2 hin hm; exact absurd hm (Nat.not_lt_zero _)
              | succ nn_47 ih_47 =>
                intro t9 cu2 wn wf wt ln lf lt ht9 hH2 hL2 hc2 hin hm_47 H locs hP hD hS ls hl
                refine lv_iload_n hx hb d_M_list_47 rfl (lv_at hl 0 rfl) ?_
                refine lv_aload_n hx hb d_M_list_48 rfl (lv_at hl 2 rfl) ?_
                refine gf_M_113 hx hb hts hown hK hP 5 rfl rfl d_M_list_49 ?_
                refine li_icmp_ge (tgt := 113) hx hb d_M_list_52 (by decide) (by omega) (by omega) (fun c6 => ?_) (fun c6 => ?_)
                · have _q := c6
                  rw [hp42.1.dropE (by omega)] at hin
                  simp only [lsT, List.foldl_nil] at hin
                  obtain ⟨r_n, er_n⟩ : ∃ y_9 : Int, y_9 = r + 1 := ⟨_, rfl⟩
                  refine lv_iinc (v := iI r_n) (lv' := [(2, .int (iI r_n)), (3, .int (iI t9)), (0, .ref mo), (1, .int (iI ix))]) hx hb d_M_list_113 hl (k := 1) rfl (by rw [er_n]; exact iI_add _ _) (by decide) rfl (fun ls hl => ?_)
                  refine lv_goto (tgt := 21) hx hb d_M_list_116 (by decide) ?_
                  exact ih_21 r_n cu2 n_t f_t g_t wn wf wt ln lf lt (by omega) (by exact hH2) (by exact hL2) (by have h8 := tsum_nn _ (hp42.2.1.drop t9.toNat); omega) (by rw [er_n, hin]; exact hres) (by omega) _ _ (hP.sub [5, 6, 0, 7, 8, 1, 2, 3, 4] rfl) (hD.sub [5, 6, 0, 7, 8, 1, 2, 3, 4] (by decide) rfl) hS _ (lv_sub hl [0, 2, 3] rfl)
                · have _q := c6
                  have hdt := hp42.1.drop (k := t9) (by omega) (by omega)
                  rw [hdt] at hin hc2
                  simp only [lsT, List.foldl_cons, tsum] at hin hc2
                  have hlt := hp42.2.1 _ (hp42.1.mem (k := t9) (by omega) (by omega))
                  simp only at hlt
                  refine lv_aload_n hx hb d_M_list_55 rfl (lv_at hl 2 rfl) ?_
                  refine lv_aload_n hx hb d_M_list_56 rfl (lv_at hl 2 rfl) ?_
                  refine gf_M_26 hx hb hts hown hK hP 5 rfl rfl d_M_list_57 ?_
                  refine lv_iload_n hx hb d_M_list_60 rfl (lv_at hl 0 rfl) ?_
                  refine li_iald hx hb hK hP 7 0 rfl rfl (by omega) (by omega) (by omega) d_M_list_61 ?_
                  refine lv_aload_n hx hb d_M_list_62 rfl (lv_at hl 2 rfl) ?_
                  refine gf_M_29 hx hb hts hown hK hP 5 rfl rfl d_M_list_63 ?_
                  refine lv_iload_n hx hb d_M_list_66 rfl (lv_at hl 0 rfl) ?_
                  refine li_iald hx hb hK hP 8 0 rfl rfl (by omega) (by omega) (by omega) d_M_list_67 ?_
                  refine li_callw (wc := [(mo, .inr (10, [.int (iI mrf), .ref (ma 0), .int (iI mz), .ref (ma 1), .ref (ma 2), .int (iI mls), .int (iI mfp), .int (iI mfm), .ref (ma 3), .int (iI n_t), .ref (ma 4), .ref (ma 5), .int (iI wn), .ref (ma 6), .ref (ma 7), .int (iI mak), .ref (ma 8), .ref (ma 9), .int (iI ln), .int (iI ix), .ref (ma 10), .ref (ma 11), .int (iI mat), .int (iI mtk), .int (iI mtf), .int (iI mtt), .int (iI mfa), .int (iI mla), .int (iI mlp), .int (iI mdp), .ref (ma 12), .ref (ma 13), .int (iI msi), .int (iI (bI mdn)), .int (iI mpf), .int (iI mpt)])), (ma 1, .inl (kA 0, 4120, .inl (aI ca))), (ma 6, .inl (kA 0, 400, .inl (aI wf))), (ma 7, .inl (kA 0, 400, .inl (aI wt)))]) (wr := [(ma 2, .inl (kA 0, 10, .inl (aI cle))), (ma 10, .inl (kA 0, 2100, .inl (aI lf))), (ma 11, .inl (kA 0, 2100, .inl (aI lt))), (ma 4, .inl (kA 0, 400, .inl (aI f_t))), (ma 5, .inl (kA 0, 400, .inl (aI g_t)))]) (va_runV (As := [.int (iI (f_t t9.toNat)), .int (iI (g_t t9.toNat))]) (rest := []) ⟨hx, hb, hml, hown, hts⟩ (c_M_split l dC dI kA H.size mo ma mrf mz mls mfp mfm n_t wn mak ln ix mat mtk mtf mtt mfa mla mlp mdp msi mpf mpt mdn ca wf wt (f_t t9.toNat) (g_t t9.toNat) (by exact hca) (by omega)) (cw_M_159 hts rfl rfl ⟨Nat.le_of_ble_eq_true rfl, Nat.le_of_ble_eq_true rfl⟩) (li_preV (va_recv hK hP (ci := 10) (q0 := 5) rfl rfl) ⟨rfl, hP.sub [5, 6, 1, 2] rfl, (hD.sub [5, 6, 1, 2] (by decide) rfl).weaken (fun _ _ _ h => hAN _ h), trivial⟩ hK hN (hG.go hS hAN)) rfl rfl hl.1 rfl (lv_room (Nat.le_of_ble_eq_true rfl)) d_M_list_68 ⟨(by show 0 + 0 ≤ 0; omega), (by show 0 + 0 ≤ 0; omega)⟩) hP hD hS hA [5, 6, 1, 2] [0, 3, 4, 7, 8] rfl rfl (by decide) (by decide) (fun u7 H locs hu7 hP hD hS _hk => ?_)
                  obtain ⟨n_w, f_w, g_w⟩ := u7
                  have hP : va_P (dC, dI) CL [(ma 2, .inl (kA 0, 10, .inl (aI cle))), (ma 10, .inl (kA 0, 2100, .inl (aI lf))), (ma 11, .inl (kA 0, 2100, .inl (aI lt))), (ma 4, .inl (kA 0, 400, .inl (aI f_t))), (ma 5, .inl (kA 0, 400, .inl (aI g_t))), (mo, .inr (10, [.int (iI mrf), .ref (ma 0), .int (iI mz), .ref (ma 1), .ref (ma 2), .int (iI mls), .int (iI mfp), .int (iI mfm), .ref (ma 3), .int (iI n_t), .ref (ma 4), .ref (ma 5), .int (iI n_w), .ref (ma 6), .ref (ma 7), .int (iI mak), .ref (ma 8), .ref (ma 9), .int (iI ln), .int (iI ix), .ref (ma 10), .ref (ma 11), .int (iI mat), .int (iI mtk), .int (iI mtf), .int (iI mtt), .int (iI mfa), .int (iI mla), .int (iI mlp), .int (iI mdp), .ref (ma 12), .ref (ma 13), .int (iI msi), .int (iI (bI mdn)), .int (iI mpf), .int (iI mpt)])), (ma 1, .inl (kA 0, 4120, .inl (aI ca))), (ma 6, .inl (kA 0, 400, .inl (aI f_w))), (ma 7, .inl (kA 0, 400, .inl (aI g_w)))] H := hP
                  have hD : va_D A [(ma 2, .inl (kA 0, 10, .inl (aI cle))), (ma 10, .inl (kA 0, 2100, .inl (aI lf))), (ma 11, .inl (kA 0, 2100, .inl (aI lt))), (ma 4, .inl (kA 0, 400, .inl (aI f_t))), (ma 5, .inl (kA 0, 400, .inl (aI g_t))), (mo, .inr (10, [.int (iI mrf), .ref (ma 0), .int (iI mz), .ref (ma 1), .ref (ma 2), .int (iI mls), .int (iI mfp), .int (iI mfm), .ref (ma 3), .int (iI n_t), .ref (ma 4), .ref (ma 5), .int (iI n_w), .ref (ma 6), .ref (ma 7), .int (iI mak), .ref (ma 8), .ref (ma 9), .int (iI ln), .int (iI ix), .ref (ma 10), .ref (ma 11), .int (iI mat), .int (iI mtk), .int (iI mtf), .int (iI mtt), .int (iI mfa), .int (iI mla), .int (iI mlp), .int (iI mdp), .ref (ma 12), .ref (ma 13), .int (iI msi), .int (iI (bI mdn)), .int (iI mpf), .int (iI mpt)])), (ma 1, .inl (kA 0, 4120, .inl (aI ca))), (ma 6, .inl (kA 0, 400, .inl (aI f_w))), (ma 7, .inl (kA 0, 400, .inl (aI g_w)))] := hD
                  have hp68 : HL (spW ca false (f_t t9.toNat) (g_t t9.toNat)) n_w f_w g_w ∧ LB (spW ca false (f_t t9.toNat) (g_t t9.toNat)) (f_t t9.toNat) (g_t t9.toNat) ∧ n_w ≤ 400 := hu7
                  have hnw := hp68.1.nn
                  have hwl := spW_len (f := ca) (b := false) (x := f_t t9.toNat) (y := g_t t9.toNat) (by omega)
                  have hwn := hp68.1.1
                  have htn := tsum_nn _ (hp42.2.1.drop (t9 + 1).toNat)
                  refine lv_iconst (v := iI 0) hx hb d_M_list_71 rfl ?_
                  refine lv_istore (lv' := [(4, .int (iI 0)), (3, .int (iI t9)), (2, .int (iI r)), (0, .ref mo), (1, .int (iI ix))]) hx hb d_M_list_72 hl (by decide) rfl (fun ls hl => ?_)
                  have K_74 : ∀ (nn_74 : Nat) (w9 : Int) (cu3 : List (Int × Int)) (ln : Int) (lf : Nat → Int) (lt : Nat → Int), (0 ≤ w9 ∧ w9 ≤ n_w) → (HL cu3 ln lf lt) → (LB cu3 0 4000) → (2 * ln + 2 * (n_w - w9) + tsum ((gaT ca r ix).drop (t9 + 1).toNat) ≤ 400 * r + 400) → (((spW ca false (f_t t9.toNat) (g_t t9.toNat)).drop w9.toNat).foldl (inM ca) cu3 = lsW ca cu2 (f_t t9.toNat, g_t t9.toNat)) → ((n_w - w9).toNat < nn_74) → ∀ (H : Heap) (locs : List Loc), va_P (dC, dI) CL [(ma 2, .inl (kA 0, 10, .inl (aI cle))), (ma 10, .inl (kA 0, 2100, .inl (aI lf))), (ma 11, .inl (kA 0, 2100, .inl (aI lt))), (ma 4, .inl (kA 0, 400, .inl (aI f_t))), (ma 5, .inl (kA 0, 400, .inl (aI g_t))), (mo, .inr (10, [.int (iI mrf), .ref (ma 0), .int (iI mz), .ref (ma 1), .ref (ma 2), .int (iI mls), .int (iI mfp), .int (iI mfm), .ref (ma 3), .int (iI n_t), .ref (ma 4), .ref (ma 5), .int (iI n_w), .ref (ma 6), .ref (ma 7), .int (iI mak), .ref (ma 8), .ref (ma 9), .int (iI ln), .int (iI ix), .ref (ma 10), .ref (ma 11), .int (iI mat), .int (iI mtk), .int (iI mtf), .int (iI mtt), .int (iI mfa), .int (iI mla), .int (iI mlp), .int (iI mdp), .ref (ma 12), .ref (ma 13), .int (iI msi), .int (iI (bI mdn)), .int (iI mpf), .int (iI mpt)])), (ma 1, .inl (kA 0, 4120, .inl (aI ca))), (ma 6, .inl (kA 0, 400, .inl (aI f_w))), (ma 7, .inl (kA 0, 400, .inl (aI g_w)))] H → va_D A [(ma 2, .inl (kA 0, 10, .inl (aI cle))), (ma 10, .inl (kA 0, 2100, .inl (aI lf))), (ma 11, .inl (kA 0, 2100, .inl (aI lt))), (ma 4, .inl (kA 0, 400, .inl (aI f_t))), (ma 5, .inl (kA 0, 400, .inl (aI g_t))), (mo, .inr (10, [.int (iI mrf), .ref (ma 0), .int (iI mz), .ref (ma 1), .ref (ma 2), .int (iI mls), .int (iI mfp), .int (iI mfm), .ref (ma 3), .int (iI n_t), .ref (ma 4), .ref (ma 5), .int (iI n_w), .ref (ma 6), .ref (ma 7), .int (iI mak), .ref (ma 8), .ref (ma 9), .int (iI ln), .int (iI ix), .ref (ma 10), .ref (ma 11), .int (iI mat), .int (iI mtk), .int (iI mtf), .int (iI mtt), .int (iI mfa), .int (iI mla), .int (iI mlp), .int (iI mdp), .ref (ma 12), .ref (ma 13), .int (iI msi), .int (iI (bI mdn)), .int (iI mpf), .int (iI mpt)])), (ma 1, .inl (kA 0, 4120, .inl (aI ca))), (ma 6, .inl (kA 0, 400, .inl (aI f_w))), (ma 7, .inl (kA 0, 400, .inl (aI g_w)))] → va_S A s.heap H locs → ∀ ls : Array Slot, lv_has ls 5 [(4, .int (iI w9)), (3, .int (iI t9)), (2, .int (iI r)), (0, .ref mo), (1, .int (iI ix))] → W p l e (rmd 4 0 0) s m args below meth c H locs 0 0 Q (F0 m 74 ls []) := by
                    intro nn_74
                    induction nn_74 with
                    | zero => intro w9 cu3 ln lf lt hw9 hH3 hL3 hc3 hww hm; exact absurd hm (Nat.not_lt_zero _)
                    | succ nn_74 ih_74 =>
                      intro w9 cu3 ln lf lt hw9 hH3 hL3 hc3 hww hm_74 H locs hP hD hS ls hl
                      refine lv_iload hx hb d_M_list_74 (lv_at hl 0 rfl) ?_
                      refine lv_aload_n hx hb d_M_list_76 rfl (lv_at hl 3 rfl) ?_
                      refine gf_M_142 hx hb hts hown hK hP 5 rfl rfl d_M_list_77 ?_
                      refine li_icmp_ge (tgt := 107) hx hb d_M_list_80 (by decide) (by omega) (by omega) (fun c8 => ?_) (fun c8 => ?_)
                      · have _q := c8
                        rw [hp68.1.dropE (by omega)] at hww
                        simp only [List.foldl_nil] at hww
                        obtain ⟨t_n, et_n⟩ : ∃ y_9 : Int, y_9 = t9 + 1 := ⟨_, rfl⟩
                        refine lv_iinc (v := iI t_n) (lv' := [(3, .int (iI t_n)), (4, .int (iI w9)), (2, .int (iI r)), (0, .ref mo), (1, .int (iI ix))]) hx hb d_M_list_107 hl (k := 1) rfl (by rw [et_n]; exact iI_add _ _) (by decide) rfl (fun ls hl => ?_)
                        refine lv_goto (tgt := 47) hx hb d_M_list_110 (by decide) ?_
                        exact ih_47 t_n cu3 n_w f_w g_w ln lf lt (by omega) (by exact hH3) (by exact hL3) (by rw [et_n]; omega) (by rw [et_n, hww]; exact hin) (by omega) _ _ (hP.sub [0, 7, 8, 1, 2, 5, 6, 3, 4] rfl) (hD.sub [0, 7, 8, 1, 2, 5, 6, 3, 4] (by decide) rfl) hS _ (lv_sub hl [0, 2, 3, 4] rfl)
                      · have _q := c8
                        have hdw := hp68.1.drop (k := w9) (by omega) (by omega)
                        rw [hdw] at hww
                        simp only [List.foldl_cons] at hww
                        have hlw := hp68.2.1 _ (hp68.1.mem (k := w9) (by omega) (by omega))
                        simp only at hlw
                        refine lv_aload_n hx hb d_M_list_83 rfl (lv_at hl 3 rfl) ?_
                        refine lv_aload_n hx hb d_M_list_84 rfl (lv_at hl 3 rfl) ?_
                        refine gf_M_32 hx hb hts hown hK hP 5 rfl rfl d_M_list_85 ?_
                        refine lv_iload hx hb d_M_list_88 (lv_at hl 0 rfl) ?_
                        refine li_iald hx hb hK hP 7 0 rfl rfl (by omega) (by omega) (by omega) d_M_list_90 ?_
                        refine lv_aload_n hx hb d_M_list_91 rfl (lv_at hl 3 rfl) ?_
                        refine gf_M_35 hx hb hts hown hK hP 5 rfl rfl d_M_list_92 ?_
                        refine lv_iload hx hb d_M_list_95 (lv_at hl 0 rfl) ?_
                        refine li_iald hx hb hK hP 8 0 rfl rfl (by omega) (by omega) (by omega) d_M_list_97 ?_
                        refine li_callw (wc := [(mo, .inr (10, [.int (iI mrf), .ref (ma 0), .int (iI mz), .ref (ma 1), .ref (ma 2), .int (iI mls), .int (iI mfp), .int (iI mfm), .ref (ma 3), .int (iI n_t), .ref (ma 4), .ref (ma 5), .int (iI n_w), .ref (ma 6), .ref (ma 7), .int (iI mak), .ref (ma 8), .ref (ma 9), .int (iI ln), .int (iI ix), .ref (ma 10), .ref (ma 11), .int (iI mat), .int (iI mtk), .int (iI mtf), .int (iI mtt), .int (iI mfa), .int (iI mla), .int (iI mlp), .int (iI mdp), .ref (ma 12), .ref (ma 13), .int (iI msi), .int (iI (bI mdn)), .int (iI mpf), .int (iI mpt)])), (ma 1, .inl (kA 0, 4120, .inl (aI ca))), (ma 10, .inl (kA 0, 2100, .inl (aI lf))), (ma 11, .inl (kA 0, 2100, .inl (aI lt)))]) (wr := [(ma 2, .inl (kA 0, 10, .inl (aI cle))), (ma 4, .inl (kA 0, 400, .inl (aI f_t))), (ma 5, .inl (kA 0, 400, .inl (aI g_t))), (ma 6, .inl (kA 0, 400, .inl (aI f_w))), (ma 7, .inl (kA 0, 400, .inl (aI g_w)))]) (va_runV (As := [.int (iI (f_w w9.toNat)), .int (iI (g_w w9.toNat))]) (rest := []) ⟨hx, hb, hml, hown, hts⟩ (c_M_insert l dC dI kA H.size mo ma mrf mz mls mfp mfm n_t n_w mak ln ix mat mtk mtf mtt mfa mla mlp mdp msi mpf mpt mdn ca lf lt cu3 (f_w w9.toNat) (g_w w9.toNat) (by exact hca) (by exact hH3) (by exact hL3) (by omega) (by omega)) (cw_M_329 hts rfl rfl ⟨Nat.le_of_ble_eq_true rfl, Nat.le_of_ble_eq_true rfl⟩) (li_preV (va_recv hK hP (ci := 10) (q0 := 5) rfl rfl) ⟨rfl, hP.sub [5, 6, 1, 2] rfl, (hD.sub [5, 6, 1, 2] (by decide) rfl).weaken (fun _ _ _ h => hAN _ h), trivial⟩ hK hN (hG.go hS hAN)) rfl rfl hl.1 rfl (lv_room (Nat.le_of_ble_eq_true rfl)) d_M_list_98 ⟨(by show 0 + 0 ≤ 0; omega), (by show 0 + 0 ≤ 0; omega)⟩) hP hD hS hA [5, 6, 1, 2] [0, 3, 4, 7, 8] rfl rfl (by decide) (by decide) (fun u9 H locs hu9 hP hD hS _hk => ?_)
                        obtain ⟨n_l, f_l, g_l⟩ := u9
                        have hP : va_P (dC, dI) CL [(ma 2, .inl (kA 0, 10, .inl (aI cle))), (ma 4, .inl (kA 0, 400, .inl (aI f_t))), (ma 5, .inl (kA 0, 400, .inl (aI g_t))), (ma 6, .inl (kA 0, 400, .inl (aI f_w))), (ma 7, .inl (kA 0, 400, .inl (aI g_w))), (mo, .inr (10, [.int (iI mrf), .ref (ma 0), .int (iI mz), .ref (ma 1), .ref (ma 2), .int (iI mls), .int (iI mfp), .int (iI mfm), .ref (ma 3), .int (iI n_t), .ref (ma 4), .ref (ma 5), .int (iI n_w), .ref (ma 6), .ref (ma 7), .int (iI mak), .ref (ma 8), .ref (ma 9), .int (iI n_l), .int (iI ix), .ref (ma 10), .ref (ma 11), .int (iI mat), .int (iI mtk), .int (iI mtf), .int (iI mtt), .int (iI mfa), .int (iI mla), .int (iI mlp), .int (iI mdp), .ref (ma 12), .ref (ma 13), .int (iI msi), .int (iI (bI mdn)), .int (iI mpf), .int (iI mpt)])), (ma 1, .inl (kA 0, 4120, .inl (aI ca))), (ma 10, .inl (kA 0, 2100, .inl (aI f_l))), (ma 11, .inl (kA 0, 2100, .inl (aI g_l)))] H := hP
                        have hD : va_D A [(ma 2, .inl (kA 0, 10, .inl (aI cle))), (ma 4, .inl (kA 0, 400, .inl (aI f_t))), (ma 5, .inl (kA 0, 400, .inl (aI g_t))), (ma 6, .inl (kA 0, 400, .inl (aI f_w))), (ma 7, .inl (kA 0, 400, .inl (aI g_w))), (mo, .inr (10, [.int (iI mrf), .ref (ma 0), .int (iI mz), .ref (ma 1), .ref (ma 2), .int (iI mls), .int (iI mfp), .int (iI mfm), .ref (ma 3), .int (iI n_t), .ref (ma 4), .ref (ma 5), .int (iI n_w), .ref (ma 6), .ref (ma 7), .int (iI mak), .ref (ma 8), .ref (ma 9), .int (iI n_l), .int (iI ix), .ref (ma 10), .ref (ma 11), .int (iI mat), .int (iI mtk), .int (iI mtf), .int (iI mtt), .int (iI mfa), .int (iI mla), .int (iI mlp), .int (iI mdp), .ref (ma 12), .ref (ma 13), .int (iI msi), .int (iI (bI mdn)), .int (iI mpf), .int (iI mpt)])), (ma 1, .inl (kA 0, 4120, .inl (aI ca))), (ma 10, .inl (kA 0, 2100, .inl (aI f_l))), (ma 11, .inl (kA 0, 2100, .inl (aI g_l)))] := hD
                        have hp98 : HL (inM ca cu3 ((f_w w9.toNat), (g_w w9.toNat))) n_l f_l g_l ∧ LB (inM ca cu3 ((f_w w9.toNat), (g_w w9.toNat))) 0 4000 ∧ ln ≤ n_l ∧ n_l ≤ ln + 1 := hu9
                        obtain ⟨w_n, ew_n⟩ : ∃ y_9 : Int, y_9 = w9 + 1 := ⟨_, rfl⟩
                        refine lv_iinc (v := iI w_n) (lv' := [(4, .int (iI w_n)), (3, .int (iI t9)), (2, .int (iI r)), (0, .ref mo), (1, .int (iI ix))]) hx hb d_M_list_101 hl (k := 0) rfl (by rw [ew_n]; exact iI_add _ _) (by decide) rfl (fun ls hl => ?_)
                        refine lv_goto (tgt := 74) hx hb d_M_list_104 (by decide) ?_
                        exact ih_74 w_n (inM ca cu3 (f_w w9.toNat, g_w w9.toNat)) n_l f_l g_l (by omega) (by exact hp98.1) (by exact hp98.2.1) (by have h98 := hp98.2.2; omega) (by rw [ew_n]; exact hww) (by omega) _ _ (hP.sub [0, 7, 8, 1, 2, 5, 6, 3, 4] rfl) (hD.sub [0, 7, 8, 1, 2, 5, 6, 3, 4] (by decide) rfl) hS _ (lv_sub hl [0, 1, 2, 3, 4] rfl)
                  exact K_74 ((n_w - 0).toNat + 1) 0 cu2 ln lf lt (by omega) (by exact hH2) (by exact hL2) (by omega) (by rfl) (Nat.lt_succ_self _) _ _ hP hD hS _ (lv_sub hl [0, 1, 2, 3, 4] rfl)
            exact K_47 ((n_t - 0).toNat + 1) 0 cur wn wf wt ln lf lt (by omega) (by exact hHc) (by exact hLc) (by show 2 * ln + tsum (gaT ca r ix) ≤ 400 * r + 400; omega) (by rfl) (Nat.lt_succ_self _) _ _ hP hD hS _ (lv_sub hl [0, 1, 2, 3] rfl)
          · have _q := c4
            rw [if_pos (by assumption)] at hres
            refine lv_goto (tgt := 113) hx hb d_M_list_36 (by decide) ?_
            obtain ⟨r_n, er_n⟩ : ∃ y_9 : Int, y_9 = r + 1 := ⟨_, rfl⟩
            refine lv_iinc (v := iI r_n) (lv' := [(2, .int (iI r_n)), (0, .ref mo), (1, .int (iI ix))]) hx hb d_M_list_113 hl (k := 0) rfl (by rw [er_n]; exact iI_add _ _) (by decide) rfl (fun ls hl => ?_)
            refine lv_goto (tgt := 21) hx hb d_M_list_116 (by decide) ?_
            exact ih_21 r_n cur vn vf vt wn wf wt ln lf lt (by omega) (by exact hHc) (by exact hLc) (by omega) (by rw [er_n]; exact hres) (by omega) _ _ hP hD hS _ (lv_sub hl [0, 1, 2] rfl)
    exact K_21 ((10 - (0 : Int)).toNat + 1) 0 ([]) mtx ctf ctt mwd cwf cwt 0 clf clt (by omega) (by exact HL.nil) (by exact LB.nil) (by omega) (by rfl) (Nat.lt_succ_self _) _ _ hP hD hS _ (lv_sub hl [0, 1, 2] rfl)
  · have _q := c1
    have hLI := hLI (by omega)
    exact fin (mtx, ctf, ctt, mwd, cwf, cwt, mli, clf, clt, mlx) _ _ _ _ (by show mlx = ix ∧ HL (if mlx = ix then ws else lsM ca cle ix) mli clf clt ∧ LB (if mlx = ix then ws else lsM ca cle ix) 0 4000 ∧ mli ≤ 2100; rw [if_pos (by omega)]; exact ⟨by omega, hLI.1, hLI.2.1, hLI.2.2⟩) (by first | exact hP | (subst_vars; exact hP)) (by first | exact hD | (subst_vars; exact hD)) hS d_M_list_8

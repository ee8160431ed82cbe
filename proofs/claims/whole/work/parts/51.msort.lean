/-! the reference's order of what was found -/
theorem getD_at {ps : List (Int × Int)} {k : Nat} (h : k < ps.length) : ps.getD k (0, 0) = ps[k] := by
  rw [List.getD_eq_getElem?_getD, List.getElem?_eq_getElem h]; rfl
theorem numM_4 {f : Nat → Int} (hf : C2 f) {x : Int} : -100000 ≤ numM f 4 x 0 ∧ numM f 4 x 0 ≤ 300000 := by
  simp only [numM]
  have h1 := hf x.toNat
  have h2 := hf (x + 1).toNat
  have h3 := hf (x + 1 + 1).toNat
  have h4 := hf (x + 1 + 1 + 1).toNat
  omega
theorem numM_3 {f : Nat → Int} (hf : C2 f) {x : Int} : -100000 ≤ numM f 3 x 0 ∧ numM f 3 x 0 ≤ 300000 := by
  simp only [numM]
  have h1 := hf x.toNat
  have h2 := hf (x + 1).toNat
  have h3 := hf (x + 1 + 1).toNat
  omega
theorem numM_5 {f : Nat → Int} (hf : C2 f) {x : Int} : -1000000 ≤ numM f 5 x 0 ∧ numM f 5 x 0 ≤ 3000000 := by
  simp only [numM]
  have h1 := hf x.toNat
  have h2 := hf (x + 1).toNat
  have h3 := hf (x + 1 + 1).toNat
  have h4 := hf (x + 1 + 1 + 1).toNat
  have h5 := hf (x + 1 + 1 + 1 + 1).toNat
  omega
theorem dtN_b {f : Nat → Int} (hf : C2 f) : ∀ ts : List (Int × Int), -100000 ≤ dtN f ts ∧ dtN f ts ≤ 300000 := by
  intro ts
  induction ts with
  | nil => simp [dtN]
  | cons q t ih => simp only [dtN]; split; (exact numM_4 hf); exact ih
theorem dtM_b {f : Nat → Int} (hf : C2 f) (r : Int) : -100000 ≤ dtM f r ∧ dtM f r ≤ 300000 := dtN_b hf _
theorem cmM_r {f : Nat → Int} (hf : C2 f) {x xe y ye : Int} (h : 0 ≤ x ∧ x ≤ xe ∧ xe ≤ 4120 ∧ 0 ≤ y ∧ y ≤ ye ∧ ye ≤ 4120) : -1000000 ≤ cmM f x xe y ye ∧ cmM f x xe y ye ≤ 1000000 := by
  unfold cmM
  have e : ∀ (x : Int) (j : Nat), 0 ≤ sml (f (x.toNat + j)) ∧ sml (f (x.toNat + j)) < 65536 := by
    intro x j
    have h9 := hf (x.toNat + j)
    unfold sml; split <;> omega
  exact cmpL_r (f := fun i => sml (f (x.toNat + i))) (g := fun i => sml (f (y.toNat + i))) (e x) (e y) (d := (xe - x) - (ye - y)) (by omega) (min (xe - x) (ye - y)).toNat 0
theorem cmr_w {v : Int} (h : -1000000 ≤ v ∧ v ≤ 1000000) : -2147483648 ≤ v ∧ v < 2147483648 := by omega
theorem toL_r {f : Nat → Int} {y : Int} (hy : f y.toNat = 30) : ∀ (k : Nat) (x : Int), x ≤ y → (y - x).toNat < k → x ≤ toL f k x ∧ toL f k x ≤ y ∧ (f (toL f k x).toNat = 30 ∨ f (toL f k x).toNat = 31) := by
  intro k
  induction k with
  | zero => intro x _ h; omega
  | succ k ih =>
    intro x h0 h1
    simp only [toL]
    split
    · rename_i h2; exact ⟨by omega, h0, h2⟩
    · rename_i h2
      have h3 : x ≠ y := fun h => by subst h; exact h2 (Or.inl hy)
      have := ih (x + 1) (by omega) (by omega)
      exact ⟨by omega, this.2⟩
def FRs (f : Nat → Int) (x y : Int) : Prop := ∀ z : Int, x ≤ z → z < y → f z.toNat ≠ 30 ∧ (f z.toNat = 31 → x + 2 ≤ z ∧ z + 1 < y ∧ f (z + 1).toNat ≠ 31)
theorem toA_r {f : Nat → Int} {x y q : Int} (hy : f y.toNat = 30) (hfr : FRs f x y) (hxy : y < x + 400) (hq : x ≤ q ∧ q < y) (h31 : f q.toNat = 31) : q + 2 ≤ toA f (q + 2) ∧ toA f (q + 2) ≤ y ∧ (toA f (q + 2) < y → f (toA f (q + 2)).toNat = 31) := by
  have h1 := (hfr q hq.1 hq.2).2 h31
  have h2 := toL_r hy 500 (q + 2) (by omega) (by omega)
  refine ⟨h2.1, h2.2.1, fun h3 => ?_⟩
  rcases h2.2.2 with h4 | h4
  · exact absurd h4 (hfr (toL f 500 (q + 2)) (by omega) h3).1
  · exact h4
theorem gpT_LB {f : Nat → Int} {ix tag x y : Int} (hy : f y.toNat = 30) (hfr : FRs f x y) (hxy : y < x + 400) : ∀ (k : Nat) (q : Int), x ≤ q → q ≤ y → (q < y → f q.toNat = 31) → LB (gpT f ix tag x y k q) x y := by
  intro k
  induction k with
  | zero => intro q _ h _; exact LB.nil
  | succ k ih =>
    intro q h0 h1 h2
    simp only [gpT]
    split
    · exact LB.nil
    · have h3 := toA_r hy hfr hxy ⟨h0, by omega⟩ (h2 (by omega))
      refine LB.app ?_ (ih (toA f (q + 2)) (by omega) h3.2.1 h3.2.2)
      unfold gp1
      split
      · have h6 : 0 ≤ skF f ix x (f (q + 1).toNat) := by
          unfold skF; split
          · rename_i h7; have := isDig_r h7.2.2; omega
          · omega
        refine LB.one ?_
        split <;> omega
      · exact LB.nil
theorem gaT_LB {ca : Nat → Int} {r ix : Int} {rn : Nat} (hr0 : 0 ≤ r ∧ r ≤ 9) (hRA : RecA (octM ca r) rn) : LB (gaT ca r ix) (400 * r) (400 * r + 400) := by
  obtain ⟨base, fd, sf, hn4, ⟨hfd, hbase, hs0, hsn, hf⟩, hX, hnb, hfd1⟩ := hRA
  have hb0 : numM ca 5 (400 * r + 12) 0 = base := by rw [← hnb]; exact numA_oct hr0.1 (x := 12) (k := 5) (by omega) (by omega) (by omega)
  have key : ∀ (k : Nat) (e1 : Int), 0 ≤ e1 → e1 + k = fd → LB (gaL ca r ix k e1) (400 * r) (400 * r + 400) := by
    intro k
    induction k with
    | zero => intro e1 _ h; exact LB.nil
    | succ k ih =>
      intro e1 h0 h1
      simp only [gaL]
      refine LB.app ?_ (ih (e1 + 1) (by omega) (by omega))
      obtain ⟨ftag, fst, flen, fb, fid, fsub⟩ := hf e1 (by omega) (by omega)
      obtain ⟨x30, xno, xsub⟩ := hX e1 (by omega) (by omega)
      have etag : numM ca 3 (400 * r + 24 + 12 * e1) 0 = numAt (octM ca r) rn (24 + e1 * 12) 3 := by rw [show 400 * r + 24 + 12 * e1 = 400 * r + (24 + e1 * 12) by omega]; exact numA_oct (k := 3) hr0.1 (by omega) (by omega) (by omega)
      have est : 400 * r + numM ca 5 (400 * r + 12) 0 + numM ca 5 (400 * r + 24 + 12 * e1 + 7) 0 = 400 * r + sf e1 := by rw [← fst, hb0, show 400 * r + 24 + 12 * e1 + 7 = 400 * r + (24 + e1 * 12 + 7) by omega, ← numA_oct (ca := ca) (r := r) (n := rn) (k := 5) hr0.1 (by omega) (by omega) (by omega)]; exact Int.add_assoc _ _ _
      have een : numM ca 4 (400 * r + 24 + 12 * e1 + 3) 0 = sf (e1 + 1) - sf e1 := by rw [← flen, show 400 * r + 24 + 12 * e1 + 3 = 400 * r + (24 + e1 * 12 + 3) by omega]; exact numA_oct (ca := ca) (r := r) (n := rn) (k := 4) hr0.1 (by omega) (by omega) (by omega)
      unfold gaE
      rw [est, een, etag]
      split
      · split
        · exact LB.one (by omega)
        · exact LB.nil
      · rename_i ht
        have hg := fsub (by omega)
        have hfr := fr_oct hr0.1 (show 0 ≤ sf e1 by omega) xno (xsub (by omega))
        rw [show 400 * r + sf e1 + (sf (e1 + 1) - sf e1) - 1 = 400 * r + (sf (e1 + 1) - 1) by omega]
        have := gpT_LB (ix := ix) (tag := numAt (octM ca r) rn (24 + e1 * 12) 3) (x := 400 * r + sf e1) (y := 400 * r + (sf (e1 + 1) - 1)) (by rw [← octM_at (ca := ca) hr0.1 (by omega)]; exact x30) hfr (by omega) 500 (400 * r + sf e1 + 2) (by omega) (by omega) (fun _ => by rw [show 400 * r + sf e1 + 2 = 400 * r + (sf e1 + 2) by omega, ← octM_at (ca := ca) hr0.1 (by omega)]; exact hg.2)
        exact this.wide (by omega) (by omega)
  have := key fd.toNat 0 (by omega) (by omega)
  unfold gaT
  rw [hb0, show (base - 25) / 12 = fd by omega]
  exact this
theorem bI_inj {a b : Bool} (h : bI a = bI b) : a = b := by cases a <;> cases b <;> simp_all [bI]
def hkM (ca : Nat → Int) (si r : Int) : Bool := if si = 4 then decide (0 ≤ dtM ca r) else decide (0 < (gaT ca r si).length)
def cwL (ca : Nat → Int) (xT yT : Int) : Nat → Int → Int → Int
  | 0, _, _ => 0
  | k + 1, x, y => if x < xT ∧ y < yT then (if cmM ca x (edM ca false x xT) y (edM ca false y yT) = 0 then cwL ca xT yT k (bgM ca false (edM ca false x xT) xT) (bgM ca false (edM ca false y yT) yT) else cmM ca x (edM ca false x xT) y (edM ca false y yT)) else if x < xT then 1 else if y < yT then -1 else 0
def cwA (ca : Nat → Int) (s t : Int × Int) : Int := cwL ca s.2 t.2 1000 (bgM ca false s.1 s.2) (bgM ca false t.1 t.2)
def ctM (ca : Nat → Int) (si a b : Int) : Int := if si = 4 then dtM ca a - dtM ca b else cwA ca ((gaT ca a si).getD 0 (0, 0)) ((gaT ca b si).getD 0 (0, 0))
def ibC (dn : Bool) (a b v : Int) : Bool := if v = 0 then decide (a < b) else if dn = true then decide (0 < v) else decide (v < 0)
def ibM (ca : Nat → Int) (si : Int) (dn : Bool) (a b : Int) : Bool := if si < 0 then decide (a < b) else if hkM ca si a = hkM ca si b then ibC dn a b (if hkM ca si a = true then ctM ca si a b else 0) else hkM ca si a
theorem HL.get0 {ps : List (Int × Int)} {n : Int} {f g : Nat → Int} (h : HL ps n f g) (h1 : 0 < n) : ps.getD 0 (0, 0) = (f 0, g 0) := by
  obtain ⟨e1, e2⟩ := h
  have hj : 0 < ps.length := by omega
  have := e2 0 hj
  rw [getD_at hj, this.1, this.2]
theorem hk_l4 {ca : Nat → Int} {si r n : Int} {f g : Nat → Int} (h : hkM ca si r = true) (h4 : ¬ si = 4) (hh : HL (gaT ca r si) n f g) : 0 < n := by
  unfold hkM at h
  rw [if_neg h4] at h
  have h8 := of_decide_eq_true h
  obtain ⟨h1, -⟩ := hh
  rw [h1]; exact Int.ofNat_lt.mpr h8
theorem ctM_r {ca : Nat → Int} {si a b : Int} (hc : C2 ca) (ha : LB (gaT ca a si) 0 4000) (hb : LB (gaT ca b si) 0 4000) (h1 : 0 < (gaT ca a si).length ∨ si = 4) (h2 : 0 < (gaT ca b si).length ∨ si = 4) : -2000000 ≤ ctM ca si a b ∧ ctM ca si a b ≤ 2000000 := by
  unfold ctM
  split
  · have := dtM_b hc a
    have := dtM_b hc b
    omega
  · rename_i h3
    have e1 : (gaT ca a si).getD 0 (0, 0) ∈ gaT ca a si := by rw [getD_at (by omega)]; exact List.getElem_mem _
    have e2 : (gaT ca b si).getD 0 (0, 0) ∈ gaT ca b si := by rw [getD_at (by omega)]; exact List.getElem_mem _
    have f1 := ha _ e1
    have f2 := hb _ e2
    generalize (gaT ca a si).getD 0 (0, 0) = u at *
    generalize (gaT ca b si).getD 0 (0, 0) = v at *
    have key : ∀ (k : Nat) (x y : Int), 0 ≤ x → x ≤ u.2 → 0 ≤ y → y ≤ v.2 → -2000000 ≤ cwL ca u.2 v.2 k x y ∧ cwL ca u.2 v.2 k x y ≤ 2000000 := by
      intro k
      induction k with
      | zero => intro x y _ _ _ _; simp only [cwL]; omega
      | succ k ih =>
        intro x y hx hx2 hy hy2
        simp only [cwL]
        have g1 := edM_r (f := ca) (b := false) hx2
        have g2 := edM_r (f := ca) (b := false) hy2
        have g3 := bgM_r (f := ca) (b := false) g1.2
        have g4 := bgM_r (f := ca) (b := false) g2.2
        split
        · split
          · exact ih _ _ (by omega) (by omega) (by omega) (by omega)
          · have := cmM_r hc (x := x) (xe := edM ca false x u.2) (y := y) (ye := edM ca false y v.2) (by omega)
            omega
        · split
          · omega
          · split <;> omega
    have g1 := bgM_r (f := ca) (b := false) (show u.1 ≤ u.2 by omega)
    have g2 := bgM_r (f := ca) (b := false) (show v.1 ≤ v.2 by omega)
    unfold cwA
    exact key 1000 _ _ (by omega) (by omega) (by omega) (by omega)
theorem hk_len {ca : Nat → Int} {si r : Int} (h : hkM ca si r = true) : 0 < (gaT ca r si).length ∨ si = 4 := by
  unfold hkM at h
  split at h
  · exact Or.inr (by assumption)
  · exact Or.inl (of_decide_eq_true h)
def fiL (bf : Int → Int → Bool) (r : Int) : Nat → (Nat → Int) → (Nat → Int)
  | 0, f => va_up f 0 r
  | k + 1, f => if bf r (f k) = true then fiL bf r k (va_up f (k + 1) (f k)) else va_up f (k + 1) r
def foL (bf : Int → Int → Bool) (v : Int) : Nat → Int → Int × (Nat → Int) → Int × (Nat → Int)
  | 0, _, u => u
  | j + 1, r, u => foL bf v j (r + 1) (if andI (shrI v r) 1 = 1 then (u.1 + 1, fiL bf r u.1.toNat u.2) else u)
def foM (ca : Nat → Int) (si : Int) (dn : Bool) (v : Int) (f : Nat → Int) : Int × (Nat → Int) := foL (ibM ca si dn) v 10 0 (0, f)
def PRs (le : Nat → Int) (v : Int) : Prop := 0 ≤ v ∧ v ≤ 9 ∧ 0 < le v.toNat

theorem d_M_hasKey_0 : decode b_M_hasKey 0 = .ok (.aload_n 0, 1) := by decide +kernel
theorem d_M_hasKey_1 : decode b_M_hasKey 1 = .ok (.getfield 291, 3) := by decide +kernel
theorem d_M_hasKey_4 : decode b_M_hasKey 4 = .ok (.iconst 4, 1) := by decide +kernel
theorem d_M_hasKey_5 : decode b_M_hasKey 5 = .ok (.if_icmp .ne 17, 3) := by decide +kernel
theorem d_M_hasKey_8 : decode b_M_hasKey 8 = .ok (.aload_n 0, 1) := by decide +kernel
theorem d_M_hasKey_9 : decode b_M_hasKey 9 = .ok (.iload_n 1, 1) := by decide +kernel
theorem d_M_hasKey_10 : decode b_M_hasKey 10 = .ok (.invokevirtual 162, 3) := by decide +kernel
theorem d_M_hasKey_13 : decode b_M_hasKey 13 = .ok (.ifCond .lt 7, 3) := by decide +kernel
theorem d_M_hasKey_16 : decode b_M_hasKey 16 = .ok (.iconst 1, 1) := by decide +kernel
theorem d_M_hasKey_17 : decode b_M_hasKey 17 = .ok (.goto 4, 3) := by decide +kernel
theorem d_M_hasKey_20 : decode b_M_hasKey 20 = .ok (.iconst 0, 1) := by decide +kernel
theorem d_M_hasKey_21 : decode b_M_hasKey 21 = .ok (.ireturn, 1) := by decide +kernel
theorem d_M_hasKey_22 : decode b_M_hasKey 22 = .ok (.aload_n 0, 1) := by decide +kernel
theorem d_M_hasKey_23 : decode b_M_hasKey 23 = .ok (.iload_n 1, 1) := by decide +kernel
theorem d_M_hasKey_24 : decode b_M_hasKey 24 = .ok (.aload_n 0, 1) := by decide +kernel
theorem d_M_hasKey_25 : decode b_M_hasKey 25 = .ok (.getfield 291, 3) := by decide +kernel
theorem d_M_hasKey_28 : decode b_M_hasKey 28 = .ok (.invokevirtual 130, 3) := by decide +kernel
theorem d_M_hasKey_31 : decode b_M_hasKey 31 = .ok (.aload_n 0, 1) := by decide +kernel
theorem d_M_hasKey_32 : decode b_M_hasKey 32 = .ok (.getfield 113, 3) := by decide +kernel
theorem d_M_hasKey_35 : decode b_M_hasKey 35 = .ok (.ifCond .le 7, 3) := by decide +kernel
theorem d_M_hasKey_38 : decode b_M_hasKey 38 = .ok (.iconst 1, 1) := by decide +kernel
theorem d_M_hasKey_39 : decode b_M_hasKey 39 = .ok (.goto 4, 3) := by decide +kernel
theorem d_M_hasKey_42 : decode b_M_hasKey 42 = .ok (.iconst 0, 1) := by decide +kernel
theorem d_M_hasKey_43 : decode b_M_hasKey 43 = .ok (.ireturn, 1) := by decide +kernel
set_option maxHeartbeats 4000000 in
set_option maxRecDepth 100000 in
theorem c_M_hasKey (l : Launch) (dC : Nat → ClassId) (dI : Nat → Nat → Nat) (kA : Nat → ClassId) (sz : Nat) (mo : Nat) (ma : Nat → Nat) (mrf : Int) (mz : Int) (mls : Int) (mfp : Int) (mfm : Int) (mtx : Int) (mwd : Int) (mak : Int) (mli : Int) (mlx : Int) (mat : Int) (mtk : Int) (mtf : Int) (mtt : Int) (mfa : Int) (mla : Int) (mlp : Int) (mdp : Int) (msi : Int) (mpf : Int) (mpt : Int) (mdn : Bool) (ca : Nat → Int) (ctf : Nat → Int) (ctt : Nat → Int) (r : Int) (rn : Nat) (hca : C2 ca) (hr0 : 0 ≤ r ∧ r ≤ 9) (hRA : RecA (octM ca r) rn) (hsi : -1 ≤ msi ∧ msi ≤ 5) : Met l y_M_hasKey (wsy y_M_hasKey b_M_hasKey 2 (some .boolean)) (rmd 5 0 0) (li_Pr (dC, dI) CL (TY kA) [.ref mo, .int (iI r)] (fun h => h.size = sz ∧ va_P (dC, dI) CL [(mo, .inr (10, [.int (iI mrf), .ref (ma 0), .int (iI mz), .ref (ma 1), .ref (ma 2), .int (iI mls), .int (iI mfp), .int (iI mfm), .ref (ma 3), .int (iI mtx), .ref (ma 4), .ref (ma 5), .int (iI mwd), .ref (ma 6), .ref (ma 7), .int (iI mak), .ref (ma 8), .ref (ma 9), .int (iI mli), .int (iI mlx), .ref (ma 10), .ref (ma 11), .int (iI mat), .int (iI mtk), .int (iI mtf), .int (iI mtt), .int (iI mfa), .int (iI mla), .int (iI mlp), .int (iI mdp), .ref (ma 12), .ref (ma 13), .int (iI msi), .int (iI (bI mdn)), .int (iI mpf), .int (iI mpt)])), (ma 1, .inl (kA 0, 4120, .inl (aI ca))), (ma 4, .inl (kA 0, 400, .inl (aI ctf))), (ma 5, .inl (kA 0, 400, .inl (aI ctt)))] h ∧ va_D (fun q => dI 100 0 ≤ q) [(mo, .inr (10, [.int (iI mrf), .ref (ma 0), .int (iI mz), .ref (ma 1), .ref (ma 2), .int (iI mls), .int (iI mfp), .int (iI mfm), .ref (ma 3), .int (iI mtx), .ref (ma 4), .ref (ma 5), .int (iI mwd), .ref (ma 6), .ref (ma 7), .int (iI mak), .ref (ma 8), .ref (ma 9), .int (iI mli), .int (iI mlx), .ref (ma 10), .ref (ma 11), .int (iI mat), .int (iI mtk), .int (iI mtf), .int (iI mtt), .int (iI mfa), .int (iI mla), .int (iI mlp), .int (iI mdp), .ref (ma 12), .ref (ma 13), .int (iI msi), .int (iI (bI mdn)), .int (iI mpf), .int (iI mpt)])), (ma 1, .inl (kA 0, 4120, .inl (aI ca))), (ma 4, .inl (kA 0, 400, .inl (aI ctf))), (ma 5, .inl (kA 0, 400, .inl (aI ctt)))] ∧ (fun _ => True) h)) (li_Qw (S := (Int) × (Nat → Int) × (Nat → Int)) (dC, dI) CL (fun _ => True) (fun u => some (.int (iI (bI (hkM ca msi r))))) (fun u => [(mo, .inr (10, [.int (iI mrf), .ref (ma 0), .int (iI mz), .ref (ma 1), .ref (ma 2), .int (iI mls), .int (iI mfp), .int (iI mfm), .ref (ma 3), .int (iI u.1), .ref (ma 4), .ref (ma 5), .int (iI mwd), .ref (ma 6), .ref (ma 7), .int (iI mak), .ref (ma 8), .ref (ma 9), .int (iI mli), .int (iI mlx), .ref (ma 10), .ref (ma 11), .int (iI mat), .int (iI mtk), .int (iI mtf), .int (iI mtt), .int (iI mfa), .int (iI mla), .int (iI mlp), .int (iI mdp), .ref (ma 12), .ref (ma 13), .int (iI msi), .int (iI (bI mdn)), .int (iI mpf), .int (iI mpt)])), (ma 1, .inl (kA 0, 4120, .inl (aI ca))), (ma 4, .inl (kA 0, 400, .inl (aI u.2.1))), (ma 5, .inl (kA 0, 400, .inl (aI u.2.2)))]) (va_A [(mo, .inr (10, [.int (iI mrf), .ref (ma 0), .int (iI mz), .ref (ma 1), .ref (ma 2), .int (iI mls), .int (iI mfp), .int (iI mfm), .ref (ma 3), .int (iI mtx), .ref (ma 4), .ref (ma 5), .int (iI mwd), .ref (ma 6), .ref (ma 7), .int (iI mak), .ref (ma 8), .ref (ma 9), .int (iI mli), .int (iI mlx), .ref (ma 10), .ref (ma 11), .int (iI mat), .int (iI mtk), .int (iI mtf), .int (iI mtt), .int (iI mfa), .int (iI mla), .int (iI mlp), .int (iI mdp), .ref (ma 12), .ref (ma 13), .int (iI msi), .int (iI (bI mdn)), .int (iI mpf), .int (iI mpt)])), (ma 1, .inl (kA 0, 4120, .inl (aI ca))), (ma 4, .inl (kA 0, 400, .inl (aI ctf))), (ma 5, .inl (kA 0, 400, .inl (aI ctt)))] sz)) 0 0 (va_A [(mo, .inr (10, [.int (iI mrf), .ref (ma 0), .int (iI mz), .ref (ma 1), .ref (ma 2), .int (iI mls), .int (iI mfp), .int (iI mfm), .ref (ma 3), .int (iI mtx), .ref (ma 4), .ref (ma 5), .int (iI mwd), .ref (ma 6), .ref (ma 7), .int (iI mak), .ref (ma 8), .ref (ma 9), .int (iI mli), .int (iI mlx), .ref (ma 10), .ref (ma 11), .int (iI mat), .int (iI mtk), .int (iI mtf), .int (iI mtt), .int (iI mfa), .int (iI mla), .int (iI mlp), .int (iI mdp), .ref (ma 12), .ref (ma 13), .int (iI msi), .int (iI (bI mdn)), .int (iI mpf), .int (iI mpt)])), (ma 1, .inl (kA 0, 4120, .inl (aI ca))), (ma 4, .inl (kA 0, 400, .inl (aI ctf))), (ma 5, .inl (kA 0, 400, .inl (aI ctt)))] sz) := by
  refine li_mwi (r := fun (u : (Int) × (Nat → Int) × (Nat → Int)) => bI (hkM ca msi r)) (by decide) (Nat.le_of_ble_eq_true rfl) (fun u _ => by exact li_narZ2 _) ?_
  intro p e s m args below meth c Q A C hP hD hBx hK hN hG hA hAi hAN fin ls hl
  obtain ⟨hx, hb, hr, hml, hown, hts, hlocks, hin⟩ := C
  have hown : s.vm.findClass R_M = some m.cls := hown
  have hl : lv_has ls 2 [(0, .ref mo), (1, .int (iI r))] := hl
  suffices h9 : ∀ (H : Heap) (locs : List Loc), H = s.heap → locs = [] → W p l e (rmd 5 0 0) s m args below meth c H locs 0 0 Q (F0 m 0 ls []) from h9 _ _ rfl rfl
  intro H locs eH eL
  have hP : va_P (dC, dI) CL [(mo, .inr (10, [.int (iI mrf), .ref (ma 0), .int (iI mz), .ref (ma 1), .ref (ma 2), .int (iI mls), .int (iI mfp), .int (iI mfm), .ref (ma 3), .int (iI mtx), .ref (ma 4), .ref (ma 5), .int (iI mwd), .ref (ma 6), .ref (ma 7), .int (iI mak), .ref (ma 8), .ref (ma 9), .int (iI mli), .int (iI mlx), .ref (ma 10), .ref (ma 11), .int (iI mat), .int (iI mtk), .int (iI mtf), .int (iI mtt), .int (iI mfa), .int (iI mla), .int (iI mlp), .int (iI mdp), .ref (ma 12), .ref (ma 13), .int (iI msi), .int (iI (bI mdn)), .int (iI mpf), .int (iI mpt)])), (ma 1, .inl (kA 0, 4120, .inl (aI ca))), (ma 4, .inl (kA 0, 400, .inl (aI ctf))), (ma 5, .inl (kA 0, 400, .inl (aI ctt)))] H := by rw [eH]; exact hP
  have hS : va_S A s.heap H locs := by rw [eH, eL]; exact va_S.rf
  refine lv_aload_n hx hb d_M_hasKey_0 rfl (lv_at hl 0 rfl) ?_
  refine gf_M_291 hx hb hts hown hK hP 0 rfl rfl d_M_hasKey_1 ?_
  refine lv_iconst (v := iI 4) hx hb d_M_hasKey_4 rfl ?_
  refine li_icmp_ne (tgt := 22) hx hb d_M_hasKey_5 (by decide) (by omega) (by omega) (fun c1 => ?_) (fun c1 => ?_)
  · have _q := c1
    refine lv_aload_n hx hb d_M_hasKey_22 rfl (lv_at hl 0 rfl) ?_
    refine lv_iload_n hx hb d_M_hasKey_23 rfl (lv_at hl 1 rfl) ?_
    refine lv_aload_n hx hb d_M_hasKey_24 rfl (lv_at hl 0 rfl) ?_
    refine gf_M_291 hx hb hts hown hK hP 0 rfl rfl d_M_hasKey_25 ?_
    refine li_callw (wc := [(mo, .inr (10, [.int (iI mrf), .ref (ma 0), .int (iI mz), .ref (ma 1), .ref (ma 2), .int (iI mls), .int (iI mfp), .int (iI mfm), .ref (ma 3), .int (iI mtx), .ref (ma 4), .ref (ma 5), .int (iI mwd), .ref (ma 6), .ref (ma 7), .int (iI mak), .ref (ma 8), .ref (ma 9), .int (iI mli), .int (iI mlx), .ref (ma 10), .ref (ma 11), .int (iI mat), .int (iI mtk), .int (iI mtf), .int (iI mtt), .int (iI mfa), .int (iI mla), .int (iI mlp), .int (iI mdp), .ref (ma 12), .ref (ma 13), .int (iI msi), .int (iI (bI mdn)), .int (iI mpf), .int (iI mpt)])), (ma 1, .inl (kA 0, 4120, .inl (aI ca))), (ma 4, .inl (kA 0, 400, .inl (aI ctf))), (ma 5, .inl (kA 0, 400, .inl (aI ctt)))]) (wr := []) (va_runV (As := [.int (iI r), .int (iI msi)]) (rest := []) ⟨hx, hb, hml, hown, hts⟩ (c_M_gather l dC dI kA H.size mo ma mrf mz mls mfp mfm mtx mwd mak mli mlx mat mtk mtf mtt mfa mla mlp mdp msi mpf mpt mdn ca ctf ctt r msi rn (by exact hca) (by exact hr0) (by omega) (by exact hRA)) (cw_M_130 hts rfl rfl ⟨Nat.le_of_ble_eq_true rfl, Nat.le_of_ble_eq_true rfl⟩) (li_preV (va_recv hK hP (ci := 10) (q0 := 0) rfl rfl) ⟨rfl, hP.sub [0, 1, 2, 3] rfl, (hD.sub [0, 1, 2, 3] (by decide) rfl).weaken (fun _ _ _ h => hAN _ h), trivial⟩ hK hN (hG.go hS hAN)) rfl rfl hl.1 rfl (lv_room (Nat.le_of_ble_eq_true rfl)) d_M_hasKey_28 ⟨(by show 0 + 0 ≤ 0; omega), (by show 0 + 0 ≤ 0; omega)⟩) hP hD hS hA [0, 1, 2, 3] [] rfl rfl (by decide) (by decide) (fun u2 H locs hu2 hP hD hS _hk => ?_)
    obtain ⟨n_t, f_t, g_t⟩ := u2
    have hP : va_P (dC, dI) CL [(mo, .inr (10, [.int (iI mrf), .ref (ma 0), .int (iI mz), .ref (ma 1), .ref (ma 2), .int (iI mls), .int (iI mfp), .int (iI mfm), .ref (ma 3), .int (iI n_t), .ref (ma 4), .ref (ma 5), .int (iI mwd), .ref (ma 6), .ref (ma 7), .int (iI mak), .ref (ma 8), .ref (ma 9), .int (iI mli), .int (iI mlx), .ref (ma 10), .ref (ma 11), .int (iI mat), .int (iI mtk), .int (iI mtf), .int (iI mtt), .int (iI mfa), .int (iI mla), .int (iI mlp), .int (iI mdp), .ref (ma 12), .ref (ma 13), .int (iI msi), .int (iI (bI mdn)), .int (iI mpf), .int (iI mpt)])), (ma 1, .inl (kA 0, 4120, .inl (aI ca))), (ma 4, .inl (kA 0, 400, .inl (aI f_t))), (ma 5, .inl (kA 0, 400, .inl (aI g_t)))] H := hP
    have hD : va_D A [(mo, .inr (10, [.int (iI mrf), .ref (ma 0), .int (iI mz), .ref (ma 1), .ref (ma 2), .int (iI mls), .int (iI mfp), .int (iI mfm), .ref (ma 3), .int (iI n_t), .ref (ma 4), .ref (ma 5), .int (iI mwd), .ref (ma 6), .ref (ma 7), .int (iI mak), .ref (ma 8), .ref (ma 9), .int (iI mli), .int (iI mlx), .ref (ma 10), .ref (ma 11), .int (iI mat), .int (iI mtk), .int (iI mtf), .int (iI mtt), .int (iI mfa), .int (iI mla), .int (iI mlp), .int (iI mdp), .ref (ma 12), .ref (ma 13), .int (iI msi), .int (iI (bI mdn)), .int (iI mpf), .int (iI mpt)])), (ma 1, .inl (kA 0, 4120, .inl (aI ca))), (ma 4, .inl (kA 0, 400, .inl (aI f_t))), (ma 5, .inl (kA 0, 400, .inl (aI g_t)))] := hD
    have hp28 : HL (gaT ca r msi) n_t f_t g_t ∧ LB (gaT ca r msi) (400 * r) (400 * r + 400) ∧ n_t ≤ 400 := hu2
    have hln := hp28.1.1
    refine lv_aload_n hx hb d_M_hasKey_31 rfl (lv_at hl 0 rfl) ?_
    refine gf_M_113 hx hb hts hown hK hP 0 rfl rfl d_M_hasKey_32 ?_
    refine li_if_le (tgt := 42) hx hb d_M_hasKey_35 (by decide) (by omega) (fun c3 => ?_) (fun c3 => ?_)
    · have _q := c3
      refine lv_iconst (v := iI 0) hx hb d_M_hasKey_42 rfl ?_
      exact fin (n_t, f_t, g_t) _ _ _ _ _ (by unfold hkM; first | (rw [if_pos (by omega)]; first | exact bI_t (decide_eq_true (by omega)) | exact bI_f (decide_eq_false (by omega))) | (rw [if_neg (by omega)]; first | exact bI_t (decide_eq_true (by omega)) | exact bI_f (decide_eq_false (by omega)))) (by trivial) (by first | exact hP | (subst_vars; exact hP)) (by first | exact hD | (subst_vars; exact hD)) hS d_M_hasKey_43
    · have _q := c3
      refine lv_iconst (v := iI 1) hx hb d_M_hasKey_38 rfl ?_
      refine lv_goto (tgt := 43) hx hb d_M_hasKey_39 (by decide) ?_
      exact fin (n_t, f_t, g_t) _ _ _ _ _ (by unfold hkM; first | (rw [if_pos (by omega)]; first | exact bI_t (decide_eq_true (by omega)) | exact bI_f (decide_eq_false (by omega))) | (rw [if_neg (by omega)]; first | exact bI_t (decide_eq_true (by omega)) | exact bI_f (decide_eq_false (by omega)))) (by trivial) (by first | exact hP | (subst_vars; exact hP)) (by first | exact hD | (subst_vars; exact hD)) hS d_M_hasKey_43
  · have _q := c1
    refine lv_aload_n hx hb d_M_hasKey_8 rfl (lv_at hl 0 rfl) ?_
    refine lv_iload_n hx hb d_M_hasKey_9 rfl (lv_at hl 1 rfl) ?_
    refine li_callw (wc := [(mo, .inr (10, [.int (iI mrf), .ref (ma 0), .int (iI mz), .ref (ma 1), .ref (ma 2), .int (iI mls), .int (iI mfp), .int (iI mfm), .ref (ma 3), .int (iI mtx), .ref (ma 4), .ref (ma 5), .int (iI mwd), .ref (ma 6), .ref (ma 7), .int (iI mak), .ref (ma 8), .ref (ma 9), .int (iI mli), .int (iI mlx), .ref (ma 10), .ref (ma 11), .int (iI mat), .int (iI mtk), .int (iI mtf), .int (iI mtt), .int (iI mfa), .int (iI mla), .int (iI mlp), .int (iI mdp), .ref (ma 12), .ref (ma 13), .int (iI msi), .int (iI (bI mdn)), .int (iI mpf), .int (iI mpt)])), (ma 1, .inl (kA 0, 4120, .inl (aI ca))), (ma 4, .inl (kA 0, 400, .inl (aI ctf))), (ma 5, .inl (kA 0, 400, .inl (aI ctt)))]) (wr := []) (va_runV (As := [.int (iI r)]) (rest := []) ⟨hx, hb, hml, hown, hts⟩ (c_M_dateOf l dC dI kA H.size mo ma mrf mz mls mfp mfm mtx mwd mak mli mlx mat mtk mtf mtt mfa mla mlp mdp msi mpf mpt mdn ca ctf ctt r rn (by exact hca) (by exact hr0) (by exact hRA)) (cw_M_162 hts rfl rfl ⟨Nat.le_of_ble_eq_true rfl, Nat.le_of_ble_eq_true rfl⟩) (li_preV (va_recv hK hP (ci := 10) (q0 := 0) rfl rfl) ⟨rfl, hP.sub [0, 1, 2, 3] rfl, (hD.sub [0, 1, 2, 3] (by decide) rfl).weaken (fun _ _ _ h => hAN _ h), trivial⟩ hK hN (hG.go hS hAN)) rfl rfl hl.1 rfl (lv_room (Nat.le_of_ble_eq_true rfl)) d_M_hasKey_10 ⟨(by show 0 + 0 ≤ 0; omega), (by show 0 + 0 ≤ 0; omega)⟩) hP hD hS hA [0, 1, 2, 3] [] rfl rfl (by decide) (by decide) (fun u4 H locs hu4 hP hD hS _hk => ?_)
    obtain ⟨n95, f96, g97⟩ := u4
    have hP : va_P (dC, dI) CL [(mo, .inr (10, [.int (iI mrf), .ref (ma 0), .int (iI mz), .ref (ma 1), .ref (ma 2), .int (iI mls), .int (iI mfp), .int (iI mfm), .ref (ma 3), .int (iI n95), .ref (ma 4), .ref (ma 5), .int (iI mwd), .ref (ma 6), .ref (ma 7), .int (iI mak), .ref (ma 8), .ref (ma 9), .int (iI mli), .int (iI mlx), .ref (ma 10), .ref (ma 11), .int (iI mat), .int (iI mtk), .int (iI mtf), .int (iI mtt), .int (iI mfa), .int (iI mla), .int (iI mlp), .int (iI mdp), .ref (ma 12), .ref (ma 13), .int (iI msi), .int (iI (bI mdn)), .int (iI mpf), .int (iI mpt)])), (ma 1, .inl (kA 0, 4120, .inl (aI ca))), (ma 4, .inl (kA 0, 400, .inl (aI f96))), (ma 5, .inl (kA 0, 400, .inl (aI g97)))] H := hP
    have hD : va_D A [(mo, .inr (10, [.int (iI mrf), .ref (ma 0), .int (iI mz), .ref (ma 1), .ref (ma 2), .int (iI mls), .int (iI mfp), .int (iI mfm), .ref (ma 3), .int (iI n95), .ref (ma 4), .ref (ma 5), .int (iI mwd), .ref (ma 6), .ref (ma 7), .int (iI mak), .ref (ma 8), .ref (ma 9), .int (iI mli), .int (iI mlx), .ref (ma 10), .ref (ma 11), .int (iI mat), .int (iI mtk), .int (iI mtf), .int (iI mtt), .int (iI mfa), .int (iI mla), .int (iI mlp), .int (iI mdp), .ref (ma 12), .ref (ma 13), .int (iI msi), .int (iI (bI mdn)), .int (iI mpf), .int (iI mpt)])), (ma 1, .inl (kA 0, 4120, .inl (aI ca))), (ma 4, .inl (kA 0, 400, .inl (aI f96))), (ma 5, .inl (kA 0, 400, .inl (aI g97)))] := hD
    have hdb := dtM_b hca r
    refine W.eq (g2 := F0 m 13 ls [.int (iI (dtM ca r))]) rfl ?_
    refine li_if_lt (tgt := 20) hx hb d_M_hasKey_13 (by decide) (by omega) (fun c8 => ?_) (fun c8 => ?_)
    · have _q := c8
      refine lv_iconst (v := iI 0) hx hb d_M_hasKey_20 rfl ?_
      exact fin (n95, f96, g97) _ _ _ _ _ (by unfold hkM; first | (rw [if_pos (by omega)]; first | exact bI_t (decide_eq_true (by omega)) | exact bI_f (decide_eq_false (by omega))) | (rw [if_neg (by omega)]; first | exact bI_t (decide_eq_true (by omega)) | exact bI_f (decide_eq_false (by omega)))) (by trivial) (by first | exact hP | (subst_vars; exact hP)) (by first | exact hD | (subst_vars; exact hD)) hS d_M_hasKey_21
    · have _q := c8
      refine lv_iconst (v := iI 1) hx hb d_M_hasKey_16 rfl ?_
      refine lv_goto (tgt := 21) hx hb d_M_hasKey_17 (by decide) ?_
      exact fin (n95, f96, g97) _ _ _ _ _ (by unfold hkM; first | (rw [if_pos (by omega)]; first | exact bI_t (decide_eq_true (by omega)) | exact bI_f (decide_eq_false (by omega))) | (rw [if_neg (by omega)]; first | exact bI_t (decide_eq_true (by omega)) | exact bI_f (decide_eq_false (by omega)))) (by trivial) (by first | exact hP | (subst_vars; exact hP)) (by first | exact hD | (subst_vars; exact hD)) hS d_M_hasKey_21
theorem d_M_compareTexts_0 : decode b_M_compareTexts 0 = .ok (.aload_n 0, 1) := by decide +kernel
theorem d_M_compareTexts_1 : decode b_M_compareTexts 1 = .ok (.getfield 291, 3) := by decide +kernel
theorem d_M_compareTexts_4 : decode b_M_compareTexts 4 = .ok (.iconst 4, 1) := by decide +kernel
theorem d_M_compareTexts_5 : decode b_M_compareTexts 5 = .ok (.if_icmp .ne 15, 3) := by decide +kernel
theorem d_M_compareTexts_8 : decode b_M_compareTexts 8 = .ok (.aload_n 0, 1) := by decide +kernel
theorem d_M_compareTexts_9 : decode b_M_compareTexts 9 = .ok (.iload_n 1, 1) := by decide +kernel
theorem d_M_compareTexts_10 : decode b_M_compareTexts 10 = .ok (.invokevirtual 162, 3) := by decide +kernel
theorem d_M_compareTexts_13 : decode b_M_compareTexts 13 = .ok (.aload_n 0, 1) := by decide +kernel
theorem d_M_compareTexts_14 : decode b_M_compareTexts 14 = .ok (.iload_n 2, 1) := by decide +kernel
theorem d_M_compareTexts_15 : decode b_M_compareTexts 15 = .ok (.invokevirtual 162, 3) := by decide +kernel
theorem d_M_compareTexts_18 : decode b_M_compareTexts 18 = .ok (.isub, 1) := by decide +kernel
theorem d_M_compareTexts_19 : decode b_M_compareTexts 19 = .ok (.ireturn, 1) := by decide +kernel
theorem d_M_compareTexts_20 : decode b_M_compareTexts 20 = .ok (.aload_n 0, 1) := by decide +kernel
theorem d_M_compareTexts_21 : decode b_M_compareTexts 21 = .ok (.iload_n 1, 1) := by decide +kernel
theorem d_M_compareTexts_22 : decode b_M_compareTexts 22 = .ok (.aload_n 0, 1) := by decide +kernel
theorem d_M_compareTexts_23 : decode b_M_compareTexts 23 = .ok (.getfield 291, 3) := by decide +kernel
theorem d_M_compareTexts_26 : decode b_M_compareTexts 26 = .ok (.invokevirtual 130, 3) := by decide +kernel
theorem d_M_compareTexts_29 : decode b_M_compareTexts 29 = .ok (.aload_n 0, 1) := by decide +kernel
theorem d_M_compareTexts_30 : decode b_M_compareTexts 30 = .ok (.getfield 26, 3) := by decide +kernel
theorem d_M_compareTexts_33 : decode b_M_compareTexts 33 = .ok (.iconst 0, 1) := by decide +kernel
theorem d_M_compareTexts_34 : decode b_M_compareTexts 34 = .ok (.iaload, 1) := by decide +kernel
theorem d_M_compareTexts_35 : decode b_M_compareTexts 35 = .ok (.istore_n 3, 1) := by decide +kernel
theorem d_M_compareTexts_36 : decode b_M_compareTexts 36 = .ok (.aload_n 0, 1) := by decide +kernel
theorem d_M_compareTexts_37 : decode b_M_compareTexts 37 = .ok (.getfield 29, 3) := by decide +kernel
theorem d_M_compareTexts_40 : decode b_M_compareTexts 40 = .ok (.iconst 0, 1) := by decide +kernel
theorem d_M_compareTexts_41 : decode b_M_compareTexts 41 = .ok (.iaload, 1) := by decide +kernel
theorem d_M_compareTexts_42 : decode b_M_compareTexts 42 = .ok (.istore 4, 2) := by decide +kernel
theorem d_M_compareTexts_44 : decode b_M_compareTexts 44 = .ok (.aload_n 0, 1) := by decide +kernel
theorem d_M_compareTexts_45 : decode b_M_compareTexts 45 = .ok (.iload_n 2, 1) := by decide +kernel
theorem d_M_compareTexts_46 : decode b_M_compareTexts 46 = .ok (.aload_n 0, 1) := by decide +kernel
theorem d_M_compareTexts_47 : decode b_M_compareTexts 47 = .ok (.getfield 291, 3) := by decide +kernel
theorem d_M_compareTexts_50 : decode b_M_compareTexts 50 = .ok (.invokevirtual 130, 3) := by decide +kernel
theorem d_M_compareTexts_53 : decode b_M_compareTexts 53 = .ok (.aload_n 0, 1) := by decide +kernel
theorem d_M_compareTexts_54 : decode b_M_compareTexts 54 = .ok (.getfield 26, 3) := by decide +kernel
theorem d_M_compareTexts_57 : decode b_M_compareTexts 57 = .ok (.iconst 0, 1) := by decide +kernel
theorem d_M_compareTexts_58 : decode b_M_compareTexts 58 = .ok (.iaload, 1) := by decide +kernel
theorem d_M_compareTexts_59 : decode b_M_compareTexts 59 = .ok (.istore 5, 2) := by decide +kernel
theorem d_M_compareTexts_61 : decode b_M_compareTexts 61 = .ok (.aload_n 0, 1) := by decide +kernel
theorem d_M_compareTexts_62 : decode b_M_compareTexts 62 = .ok (.getfield 29, 3) := by decide +kernel
theorem d_M_compareTexts_65 : decode b_M_compareTexts 65 = .ok (.iconst 0, 1) := by decide +kernel
theorem d_M_compareTexts_66 : decode b_M_compareTexts 66 = .ok (.iaload, 1) := by decide +kernel
theorem d_M_compareTexts_67 : decode b_M_compareTexts 67 = .ok (.istore 6, 2) := by decide +kernel
theorem d_M_compareTexts_69 : decode b_M_compareTexts 69 = .ok (.aload_n 0, 1) := by decide +kernel
theorem d_M_compareTexts_70 : decode b_M_compareTexts 70 = .ok (.iload_n 3, 1) := by decide +kernel
theorem d_M_compareTexts_71 : decode b_M_compareTexts 71 = .ok (.iload 4, 2) := by decide +kernel
theorem d_M_compareTexts_73 : decode b_M_compareTexts 73 = .ok (.iconst 0, 1) := by decide +kernel
theorem d_M_compareTexts_74 : decode b_M_compareTexts 74 = .ok (.invokevirtual 145, 3) := by decide +kernel
theorem d_M_compareTexts_77 : decode b_M_compareTexts 77 = .ok (.istore_n 3, 1) := by decide +kernel
theorem d_M_compareTexts_78 : decode b_M_compareTexts 78 = .ok (.aload_n 0, 1) := by decide +kernel
theorem d_M_compareTexts_79 : decode b_M_compareTexts 79 = .ok (.iload 5, 2) := by decide +kernel
theorem d_M_compareTexts_81 : decode b_M_compareTexts 81 = .ok (.iload 6, 2) := by decide +kernel
theorem d_M_compareTexts_83 : decode b_M_compareTexts 83 = .ok (.iconst 0, 1) := by decide +kernel
theorem d_M_compareTexts_84 : decode b_M_compareTexts 84 = .ok (.invokevirtual 145, 3) := by decide +kernel
theorem d_M_compareTexts_87 : decode b_M_compareTexts 87 = .ok (.istore 5, 2) := by decide +kernel
theorem d_M_compareTexts_89 : decode b_M_compareTexts 89 = .ok (.iload_n 3, 1) := by decide +kernel
theorem d_M_compareTexts_90 : decode b_M_compareTexts 90 = .ok (.iload 4, 2) := by decide +kernel
theorem d_M_compareTexts_92 : decode b_M_compareTexts 92 = .ok (.if_icmp .ge 76, 3) := by decide +kernel
theorem d_M_compareTexts_95 : decode b_M_compareTexts 95 = .ok (.iload 5, 2) := by decide +kernel
theorem d_M_compareTexts_97 : decode b_M_compareTexts 97 = .ok (.iload 6, 2) := by decide +kernel
theorem d_M_compareTexts_99 : decode b_M_compareTexts 99 = .ok (.if_icmp .ge 69, 3) := by decide +kernel
theorem d_M_compareTexts_102 : decode b_M_compareTexts 102 = .ok (.aload_n 0, 1) := by decide +kernel
theorem d_M_compareTexts_103 : decode b_M_compareTexts 103 = .ok (.iload_n 3, 1) := by decide +kernel
theorem d_M_compareTexts_104 : decode b_M_compareTexts 104 = .ok (.iload 4, 2) := by decide +kernel
theorem d_M_compareTexts_106 : decode b_M_compareTexts 106 = .ok (.iconst 0, 1) := by decide +kernel
theorem d_M_compareTexts_107 : decode b_M_compareTexts 107 = .ok (.invokevirtual 149, 3) := by decide +kernel
theorem d_M_compareTexts_110 : decode b_M_compareTexts 110 = .ok (.istore 7, 2) := by decide +kernel
theorem d_M_compareTexts_112 : decode b_M_compareTexts 112 = .ok (.aload_n 0, 1) := by decide +kernel
theorem d_M_compareTexts_113 : decode b_M_compareTexts 113 = .ok (.iload 5, 2) := by decide +kernel
theorem d_M_compareTexts_115 : decode b_M_compareTexts 115 = .ok (.iload 6, 2) := by decide +kernel
theorem d_M_compareTexts_117 : decode b_M_compareTexts 117 = .ok (.iconst 0, 1) := by decide +kernel
theorem d_M_compareTexts_118 : decode b_M_compareTexts 118 = .ok (.invokevirtual 149, 3) := by decide +kernel
theorem d_M_compareTexts_121 : decode b_M_compareTexts 121 = .ok (.istore 8, 2) := by decide +kernel
theorem d_M_compareTexts_123 : decode b_M_compareTexts 123 = .ok (.aload_n 0, 1) := by decide +kernel
theorem d_M_compareTexts_124 : decode b_M_compareTexts 124 = .ok (.iload_n 3, 1) := by decide +kernel
theorem d_M_compareTexts_125 : decode b_M_compareTexts 125 = .ok (.iload 7, 2) := by decide +kernel
theorem d_M_compareTexts_127 : decode b_M_compareTexts 127 = .ok (.iload 5, 2) := by decide +kernel
theorem d_M_compareTexts_129 : decode b_M_compareTexts 129 = .ok (.iload 8, 2) := by decide +kernel
theorem d_M_compareTexts_131 : decode b_M_compareTexts 131 = .ok (.invokevirtual 307, 3) := by decide +kernel
theorem d_M_compareTexts_134 : decode b_M_compareTexts 134 = .ok (.istore 9, 2) := by decide +kernel
theorem d_M_compareTexts_136 : decode b_M_compareTexts 136 = .ok (.iload 9, 2) := by decide +kernel
theorem d_M_compareTexts_138 : decode b_M_compareTexts 138 = .ok (.ifCond .eq 6, 3) := by decide +kernel
theorem d_M_compareTexts_141 : decode b_M_compareTexts 141 = .ok (.iload 9, 2) := by decide +kernel
theorem d_M_compareTexts_143 : decode b_M_compareTexts 143 = .ok (.ireturn, 1) := by decide +kernel
theorem d_M_compareTexts_144 : decode b_M_compareTexts 144 = .ok (.aload_n 0, 1) := by decide +kernel
theorem d_M_compareTexts_145 : decode b_M_compareTexts 145 = .ok (.iload 7, 2) := by decide +kernel
theorem d_M_compareTexts_147 : decode b_M_compareTexts 147 = .ok (.iload 4, 2) := by decide +kernel
theorem d_M_compareTexts_149 : decode b_M_compareTexts 149 = .ok (.iconst 0, 1) := by decide +kernel
theorem d_M_compareTexts_150 : decode b_M_compareTexts 150 = .ok (.invokevirtual 145, 3) := by decide +kernel
theorem d_M_compareTexts_153 : decode b_M_compareTexts 153 = .ok (.istore_n 3, 1) := by decide +kernel
theorem d_M_compareTexts_154 : decode b_M_compareTexts 154 = .ok (.aload_n 0, 1) := by decide +kernel
theorem d_M_compareTexts_155 : decode b_M_compareTexts 155 = .ok (.iload 8, 2) := by decide +kernel
theorem d_M_compareTexts_157 : decode b_M_compareTexts 157 = .ok (.iload 6, 2) := by decide +kernel
theorem d_M_compareTexts_159 : decode b_M_compareTexts 159 = .ok (.iconst 0, 1) := by decide +kernel
theorem d_M_compareTexts_160 : decode b_M_compareTexts 160 = .ok (.invokevirtual 145, 3) := by decide +kernel
theorem d_M_compareTexts_163 : decode b_M_compareTexts 163 = .ok (.istore 5, 2) := by decide +kernel
theorem d_M_compareTexts_165 : decode b_M_compareTexts 165 = .ok (.goto (-76), 3) := by decide +kernel
theorem d_M_compareTexts_168 : decode b_M_compareTexts 168 = .ok (.iload_n 3, 1) := by decide +kernel
theorem d_M_compareTexts_169 : decode b_M_compareTexts 169 = .ok (.iload 4, 2) := by decide +kernel
theorem d_M_compareTexts_171 : decode b_M_compareTexts 171 = .ok (.if_icmp .ge 7, 3) := by decide +kernel
theorem d_M_compareTexts_174 : decode b_M_compareTexts 174 = .ok (.iconst 1, 1) := by decide +kernel
theorem d_M_compareTexts_175 : decode b_M_compareTexts 175 = .ok (.goto 15, 3) := by decide +kernel
theorem d_M_compareTexts_178 : decode b_M_compareTexts 178 = .ok (.iload 5, 2) := by decide +kernel
theorem d_M_compareTexts_180 : decode b_M_compareTexts 180 = .ok (.iload 6, 2) := by decide +kernel
theorem d_M_compareTexts_182 : decode b_M_compareTexts 182 = .ok (.if_icmp .ge 7, 3) := by decide +kernel
theorem d_M_compareTexts_185 : decode b_M_compareTexts 185 = .ok (.iconst (-1), 1) := by decide +kernel
theorem d_M_compareTexts_186 : decode b_M_compareTexts 186 = .ok (.goto 4, 3) := by decide +kernel
theorem d_M_compareTexts_189 : decode b_M_compareTexts 189 = .ok (.iconst 0, 1) := by decide +kernel
theorem d_M_compareTexts_190 : decode b_M_compareTexts 190 = .ok (.ireturn, 1) := by decide +kernel
set_option maxHeartbeats 4000000 in
set_option maxRecDepth 100000 in
theorem c_M_compareTexts (l : Launch) (dC : Nat → ClassId) (dI : Nat → Nat → Nat) (kA : Nat → ClassId) (sz : Nat) (mo : Nat) (ma : Nat → Nat) (mrf : Int) (mz : Int) (mls : Int) (mfp : Int) (mfm : Int) (mtx : Int) (mwd : Int) (mak : Int) (mli : Int) (mlx : Int) (mat : Int) (mtk : Int) (mtf : Int) (mtt : Int) (mfa : Int) (mla : Int) (mlp : Int) (mdp : Int) (msi : Int) (mpf : Int) (mpt : Int) (mdn : Bool) (ca : Nat → Int) (ctf : Nat → Int) (ctt : Nat → Int) (r : Int) (r2 : Int) (rn : Nat) (rm : Nat) (hca : C2 ca) (hab : 0 ≤ r ∧ r ≤ 9 ∧ 0 ≤ r2 ∧ r2 ≤ 9) (hRA : RecA (octM ca r) rn) (hRB : RecA (octM ca r2) rm) (hsi : -1 ≤ msi ∧ msi ≤ 5) (hka : hkM ca msi r = true) (hkb : hkM ca msi r2 = true) : Met l y_M_compareTexts (wsy y_M_compareTexts b_M_compareTexts 10 (some .int)) (rmd 5 0 0) (li_Pr (dC, dI) CL (TY kA) [.ref mo, .int (iI r), .int (iI r2)] (fun h => h.size = sz ∧ va_P (dC, dI) CL [(mo, .inr (10, [.int (iI mrf), .ref (ma 0), .int (iI mz), .ref (ma 1), .ref (ma 2), .int (iI mls), .int (iI mfp), .int (iI mfm), .ref (ma 3), .int (iI mtx), .ref (ma 4), .ref (ma 5), .int (iI mwd), .ref (ma 6), .ref (ma 7), .int (iI mak), .ref (ma 8), .ref (ma 9), .int (iI mli), .int (iI mlx), .ref (ma 10), .ref (ma 11), .int (iI mat), .int (iI mtk), .int (iI mtf), .int (iI mtt), .int (iI mfa), .int (iI mla), .int (iI mlp), .int (iI mdp), .ref (ma 12), .ref (ma 13), .int (iI msi), .int (iI (bI mdn)), .int (iI mpf), .int (iI mpt)])), (ma 1, .inl (kA 0, 4120, .inl (aI ca))), (ma 4, .inl (kA 0, 400, .inl (aI ctf))), (ma 5, .inl (kA 0, 400, .inl (aI ctt)))] h ∧ va_D (fun q => dI 100 0 ≤ q) [(mo, .inr (10, [.int (iI mrf), .ref (ma 0), .int (iI mz), .ref (ma 1), .ref (ma 2), .int (iI mls), .int (iI mfp), .int (iI mfm), .ref (ma 3), .int (iI mtx), .ref (ma 4), .ref (ma 5), .int (iI mwd), .ref (ma 6), .ref (ma 7), .int (iI mak), .ref (ma 8), .ref (ma 9), .int (iI mli), .int (iI mlx), .ref (ma 10), .ref (ma 11), .int (iI mat), .int (iI mtk), .int (iI mtf), .int (iI mtt), .int (iI mfa), .int (iI mla), .int (iI mlp), .int (iI mdp), .ref (ma 12), .ref (ma 13), .int (iI msi), .int (iI (bI mdn)), .int (iI mpf), .int (iI mpt)])), (ma 1, .inl (kA 0, 4120, .inl (aI ca))), (ma 4, .inl (kA 0, 400, .inl (aI ctf))), (ma 5, .inl (kA 0, 400, .inl (aI ctt)))] ∧ (fun _ => True) h)) (li_Qw (S := (Int) × (Nat → Int) × (Nat → Int)) (dC, dI) CL (fun _ => True) (fun u => some (.int (iI (ctM ca msi r r2)))) (fun u => [(mo, .inr (10, [.int (iI mrf), .ref (ma 0), .int (iI mz), .ref (ma 1), .ref (ma 2), .int (iI mls), .int (iI mfp), .int (iI mfm), .ref (ma 3), .int (iI u.1), .ref (ma 4), .ref (ma 5), .int (iI mwd), .ref (ma 6), .ref (ma 7), .int (iI mak), .ref (ma 8), .ref (ma 9), .int (iI mli), .int (iI mlx), .ref (ma 10), .ref (ma 11), .int (iI mat), .int (iI mtk), .int (iI mtf), .int (iI mtt), .int (iI mfa), .int (iI mla), .int (iI mlp), .int (iI mdp), .ref (ma 12), .ref (ma 13), .int (iI msi), .int (iI (bI mdn)), .int (iI mpf), .int (iI mpt)])), (ma 1, .inl (kA 0, 4120, .inl (aI ca))), (ma 4, .inl (kA 0, 400, .inl (aI u.2.1))), (ma 5, .inl (kA 0, 400, .inl (aI u.2.2)))]) (va_A [(mo, .inr (10, [.int (iI mrf), .ref (ma 0), .int (iI mz), .ref (ma 1), .ref (ma 2), .int (iI mls), .int (iI mfp), .int (iI mfm), .ref (ma 3), .int (iI mtx), .ref (ma 4), .ref (ma 5), .int (iI mwd), .ref (ma 6), .ref (ma 7), .int (iI mak), .ref (ma 8), .ref (ma 9), .int (iI mli), .int (iI mlx), .ref (ma 10), .ref (ma 11), .int (iI mat), .int (iI mtk), .int (iI mtf), .int (iI mtt), .int (iI mfa), .int (iI mla), .int (iI mlp), .int (iI mdp), .ref (ma 12), .ref (ma 13), .int (iI msi), .int (iI (bI mdn)), .int (iI mpf), .int (iI mpt)])), (ma 1, .inl (kA 0, 4120, .inl (aI ca))), (ma 4, .inl (kA 0, 400, .inl (aI ctf))), (ma 5, .inl (kA 0, 400, .inl (aI ctt)))] sz)) 0 0 (va_A [(mo, .inr (10, [.int (iI mrf), .ref (ma 0), .int (iI mz), .ref (ma 1), .ref (ma 2), .int (iI mls), .int (iI mfp), .int (iI mfm), .ref (ma 3), .int (iI mtx), .ref (ma 4), .ref (ma 5), .int (iI mwd), .ref (ma 6), .ref (ma 7), .int (iI mak), .ref (ma 8), .ref (ma 9), .int (iI mli), .int (iI mlx), .ref (ma 10), .ref (ma 11), .int (iI mat), .int (iI mtk), .int (iI mtf), .int (iI mtt), .int (iI mfa), .int (iI mla), .int (iI mlp), .int (iI mdp), .ref (ma 12), .ref (ma 13), .int (iI msi), .int (iI (bI mdn)), .int (iI mpf), .int (iI mpt)])), (ma 1, .inl (kA 0, 4120, .inl (aI ca))), (ma 4, .inl (kA 0, 400, .inl (aI ctf))), (ma 5, .inl (kA 0, 400, .inl (aI ctt)))] sz) := by
  refine li_mwi (r := fun (u : (Int) × (Nat → Int) × (Nat → Int)) => ctM ca msi r r2) (by decide) (Nat.le_of_ble_eq_true rfl) (fun u _ => by rfl) ?_
  intro p e s m args below meth c Q A C hP hD hBx hK hN hG hA hAi hAN fin ls hl
  obtain ⟨hx, hb, hr, hml, hown, hts, hlocks, hin⟩ := C
  have hown : s.vm.findClass R_M = some m.cls := hown
  have hl : lv_has ls 10 [(0, .ref mo), (1, .int (iI r)), (2, .int (iI r2))] := hl
  suffices h9 : ∀ (H : Heap) (locs : List Loc), H = s.heap → locs = [] → W p l e (rmd 5 0 0) s m args below meth c H locs 0 0 Q (F0 m 0 ls []) from h9 _ _ rfl rfl
  intro H locs eH eL
  have hP : va_P (dC, dI) CL [(mo, .inr (10, [.int (iI mrf), .ref (ma 0), .int (iI mz), .ref (ma 1), .ref (ma 2), .int (iI mls), .int (iI mfp), .int (iI mfm), .ref (ma 3), .int (iI mtx), .ref (ma 4), .ref (ma 5), .int (iI mwd), .ref (ma 6), .ref (ma 7), .int (iI mak), .ref (ma 8), .ref (ma 9), .int (iI mli), .int (iI mlx), .ref (ma 10), .ref (ma 11), .int (iI mat), .int (iI mtk), .int (iI mtf), .int (iI mtt), .int (iI mfa), .int (iI mla), .int (iI mlp), .int (iI mdp), .ref (ma 12), .ref (ma 13), .int (iI msi), .int (iI (bI mdn)), .int (iI mpf), .int (iI mpt)])), (ma 1, .inl (kA 0, 4120, .inl (aI ca))), (ma 4, .inl (kA 0, 400, .inl (aI ctf))), (ma 5, .inl (kA 0, 400, .inl (aI ctt)))] H := by rw [eH]; exact hP
  have hS : va_S A s.heap H locs := by rw [eH, eL]; exact va_S.rf
  refine lv_aload_n hx hb d_M_compareTexts_0 rfl (lv_at hl 0 rfl) ?_
  refine gf_M_291 hx hb hts hown hK hP 0 rfl rfl d_M_compareTexts_1 ?_
  refine lv_iconst (v := iI 4) hx hb d_M_compareTexts_4 rfl ?_
  refine li_icmp_ne (tgt := 20) hx hb d_M_compareTexts_5 (by decide) (by omega) (by omega) (fun c1 => ?_) (fun c1 => ?_)
  · have _q := c1
    refine lv_aload_n hx hb d_M_compareTexts_20 rfl (lv_at hl 0 rfl) ?_
    refine lv_iload_n hx hb d_M_compareTexts_21 rfl (lv_at hl 1 rfl) ?_
    refine lv_aload_n hx hb d_M_compareTexts_22 rfl (lv_at hl 0 rfl) ?_
    refine gf_M_291 hx hb hts hown hK hP 0 rfl rfl d_M_compareTexts_23 ?_
    refine li_callw (wc := [(mo, .inr (10, [.int (iI mrf), .ref (ma 0), .int (iI mz), .ref (ma 1), .ref (ma 2), .int (iI mls), .int (iI mfp), .int (iI mfm), .ref (ma 3), .int (iI mtx), .ref (ma 4), .ref (ma 5), .int (iI mwd), .ref (ma 6), .ref (ma 7), .int (iI mak), .ref (ma 8), .ref (ma 9), .int (iI mli), .int (iI mlx), .ref (ma 10), .ref (ma 11), .int (iI mat), .int (iI mtk), .int (iI mtf), .int (iI mtt), .int (iI mfa), .int (iI mla), .int (iI mlp), .int (iI mdp), .ref (ma 12), .ref (ma 13), .int (iI msi), .int (iI (bI mdn)), .int (iI mpf), .int (iI mpt)])), (ma 1, .inl (kA 0, 4120, .inl (aI ca))), (ma 4, .inl (kA 0, 400, .inl (aI ctf))), (ma 5, .inl (kA 0, 400, .inl (aI ctt)))]) (wr := []) (va_runV (As := [.int (iI r), .int (iI msi)]) (rest := []) ⟨hx, hb, hml, hown, hts⟩ (c_M_gather l dC dI kA H.size mo ma mrf mz mls mfp mfm mtx mwd mak mli mlx mat mtk mtf mtt mfa mla mlp mdp msi mpf mpt mdn ca ctf ctt r msi rn (by exact hca) (by omega) (by omega) (by exact hRA)) (cw_M_130 hts rfl rfl ⟨Nat.le_of_ble_eq_true rfl, Nat.le_of_ble_eq_true rfl⟩) (li_preV (va_recv hK hP (ci := 10) (q0 := 0) rfl rfl) ⟨rfl, hP.sub [0, 1, 2, 3] rfl, (hD.sub [0, 1, 2, 3] (by decide) rfl).weaken (fun _ _ _ h => hAN _ h), trivial⟩ hK hN (hG.go hS hAN)) rfl rfl hl.1 rfl (lv_room (Nat.le_of_ble_eq_true rfl)) d_M_compareTexts_26 ⟨(by show 0 + 0 ≤ 0; omega), (by show 0 + 0 ≤ 0; omega)⟩) hP hD hS hA [0, 1, 2, 3] [] rfl rfl (by decide) (by decide) (fun u2 H locs hu2 hP hD hS _hk => ?_)
    obtain ⟨n_t, f_t, g_t⟩ := u2
    have hP : va_P (dC, dI) CL [(mo, .inr (10, [.int (iI mrf), .ref (ma 0), .int (iI mz), .ref (ma 1), .ref (ma 2), .int (iI mls), .int (iI mfp), .int (iI mfm), .ref (ma 3), .int (iI n_t), .ref (ma 4), .ref (ma 5), .int (iI mwd), .ref (ma 6), .ref (ma 7), .int (iI mak), .ref (ma 8), .ref (ma 9), .int (iI mli), .int (iI mlx), .ref (ma 10), .ref (ma 11), .int (iI mat), .int (iI mtk), .int (iI mtf), .int (iI mtt), .int (iI mfa), .int (iI mla), .int (iI mlp), .int (iI mdp), .ref (ma 12), .ref (ma 13), .int (iI msi), .int (iI (bI mdn)), .int (iI mpf), .int (iI mpt)])), (ma 1, .inl (kA 0, 4120, .inl (aI ca))), (ma 4, .inl (kA 0, 400, .inl (aI f_t))), (ma 5, .inl (kA 0, 400, .inl (aI g_t)))] H := hP
    have hD : va_D A [(mo, .inr (10, [.int (iI mrf), .ref (ma 0), .int (iI mz), .ref (ma 1), .ref (ma 2), .int (iI mls), .int (iI mfp), .int (iI mfm), .ref (ma 3), .int (iI n_t), .ref (ma 4), .ref (ma 5), .int (iI mwd), .ref (ma 6), .ref (ma 7), .int (iI mak), .ref (ma 8), .ref (ma 9), .int (iI mli), .int (iI mlx), .ref (ma 10), .ref (ma 11), .int (iI mat), .int (iI mtk), .int (iI mtf), .int (iI mtt), .int (iI mfa), .int (iI mla), .int (iI mlp), .int (iI mdp), .ref (ma 12), .ref (ma 13), .int (iI msi), .int (iI (bI mdn)), .int (iI mpf), .int (iI mpt)])), (ma 1, .inl (kA 0, 4120, .inl (aI ca))), (ma 4, .inl (kA 0, 400, .inl (aI f_t))), (ma 5, .inl (kA 0, 400, .inl (aI g_t)))] := hD
    have hp26 : HL (gaT ca r msi) n_t f_t g_t ∧ LB (gaT ca r msi) (400 * r) (400 * r + 400) ∧ n_t ≤ 400 := hu2
    have hna : 0 < n_t := hk_l4 hka (by assumption) hp26.1
    have hma := hp26.2.1 _ (hp26.1.mem (k := 0) (by omega) hna)
    simp only at hma
    have hga := hp26.1.get0 hna
    refine lv_aload_n hx hb d_M_compareTexts_29 rfl (lv_at hl 0 rfl) ?_
    refine gf_M_26 hx hb hts hown hK hP 0 rfl rfl d_M_compareTexts_30 ?_
    refine lv_iconst (v := iI 0) hx hb d_M_compareTexts_33 rfl ?_
    refine li_iald hx hb hK hP 2 0 rfl rfl (by omega) (by omega) (by omega) d_M_compareTexts_34 ?_
    refine li_nm (fun x0 ex0 => ?_)
    refine lv_istore_n (lv' := [(3, .int (iI x0)), (0, .ref mo), (1, .int (iI r)), (2, .int (iI r2))]) hx hb d_M_compareTexts_35 rfl hl (by decide) rfl (fun ls hl => ?_)
    refine lv_aload_n hx hb d_M_compareTexts_36 rfl (lv_at hl 1 rfl) ?_
    refine gf_M_29 hx hb hts hown hK hP 0 rfl rfl d_M_compareTexts_37 ?_
    refine lv_iconst (v := iI 0) hx hb d_M_compareTexts_40 rfl ?_
    refine li_iald hx hb hK hP 3 0 rfl rfl (by omega) (by omega) (by omega) d_M_compareTexts_41 ?_
    refine li_nm (fun xT exT => ?_)
    refine lv_istore (lv' := [(4, .int (iI xT)), (3, .int (iI x0)), (0, .ref mo), (1, .int (iI r)), (2, .int (iI r2))]) hx hb d_M_compareTexts_42 hl (by decide) rfl (fun ls hl => ?_)
    refine lv_aload_n hx hb d_M_compareTexts_44 rfl (lv_at hl 2 rfl) ?_
    refine lv_iload_n hx hb d_M_compareTexts_45 rfl (lv_at hl 4 rfl) ?_
    refine lv_aload_n hx hb d_M_compareTexts_46 rfl (lv_at hl 2 rfl) ?_
    refine gf_M_291 hx hb hts hown hK hP 0 rfl rfl d_M_compareTexts_47 ?_
    refine li_callw (wc := [(mo, .inr (10, [.int (iI mrf), .ref (ma 0), .int (iI mz), .ref (ma 1), .ref (ma 2), .int (iI mls), .int (iI mfp), .int (iI mfm), .ref (ma 3), .int (iI n_t), .ref (ma 4), .ref (ma 5), .int (iI mwd), .ref (ma 6), .ref (ma 7), .int (iI mak), .ref (ma 8), .ref (ma 9), .int (iI mli), .int (iI mlx), .ref (ma 10), .ref (ma 11), .int (iI mat), .int (iI mtk), .int (iI mtf), .int (iI mtt), .int (iI mfa), .int (iI mla), .int (iI mlp), .int (iI mdp), .ref (ma 12), .ref (ma 13), .int (iI msi), .int (iI (bI mdn)), .int (iI mpf), .int (iI mpt)])), (ma 1, .inl (kA 0, 4120, .inl (aI ca))), (ma 4, .inl (kA 0, 400, .inl (aI f_t))), (ma 5, .inl (kA 0, 400, .inl (aI g_t)))]) (wr := []) (va_runV (As := [.int (iI r2), .int (iI msi)]) (rest := []) ⟨hx, hb, hml, hown, hts⟩ (c_M_gather l dC dI kA H.size mo ma mrf mz mls mfp mfm n_t mwd mak mli mlx mat mtk mtf mtt mfa mla mlp mdp msi mpf mpt mdn ca f_t g_t r2 msi rm (by exact hca) (by omega) (by omega) (by exact hRB)) (cw_M_130 hts rfl rfl ⟨Nat.le_of_ble_eq_true rfl, Nat.le_of_ble_eq_true rfl⟩) (li_preV (va_recv hK hP (ci := 10) (q0 := 0) rfl rfl) ⟨rfl, hP.sub [0, 1, 2, 3] rfl, (hD.sub [0, 1, 2, 3] (by decide) rfl).weaken (fun _ _ _ h => hAN _ h), trivial⟩ hK hN (hG.go hS hAN)) rfl rfl hl.1 rfl (lv_room (Nat.le_of_ble_eq_true rfl)) d_M_compareTexts_50 ⟨(by show 0 + 0 ≤ 0; omega), (by show 0 + 0 ≤ 0; omega)⟩) hP hD hS hA [0, 1, 2, 3] [] rfl rfl (by decide) (by decide) (fun u3 H locs hu3 hP hD hS _hk => ?_)
    obtain ⟨n_s, f_s, g_s⟩ := u3
    have hP : va_P (dC, dI) CL [(mo, .inr (10, [.int (iI mrf), .ref (ma 0), .int (iI mz), .ref (ma 1), .ref (ma 2), .int (iI mls), .int (iI mfp), .int (iI mfm), .ref (ma 3), .int (iI n_s), .ref (ma 4), .ref (ma 5), .int (iI mwd), .ref (ma 6), .ref (ma 7), .int (iI mak), .ref (ma 8), .ref (ma 9), .int (iI mli), .int (iI mlx), .ref (ma 10), .ref (ma 11), .int (iI mat), .int (iI mtk), .int (iI mtf), .int (iI mtt), .int (iI mfa), .int (iI mla), .int (iI mlp), .int (iI mdp), .ref (ma 12), .ref (ma 13), .int (iI msi), .int (iI (bI mdn)), .int (iI mpf), .int (iI mpt)])), (ma 1, .inl (kA 0, 4120, .inl (aI ca))), (ma 4, .inl (kA 0, 400, .inl (aI f_s))), (ma 5, .inl (kA 0, 400, .inl (aI g_s)))] H := hP
    have hD : va_D A [(mo, .inr (10, [.int (iI mrf), .ref (ma 0), .int (iI mz), .ref (ma 1), .ref (ma 2), .int (iI mls), .int (iI mfp), .int (iI mfm), .ref (ma 3), .int (iI n_s), .ref (ma 4), .ref (ma 5), .int (iI mwd), .ref (ma 6), .ref (ma 7), .int (iI mak), .ref (ma 8), .ref (ma 9), .int (iI mli), .int (iI mlx), .ref (ma 10), .ref (ma 11), .int (iI mat), .int (iI mtk), .int (iI mtf), .int (iI mtt), .int (iI mfa), .int (iI mla), .int (iI mlp), .int (iI mdp), .ref (ma 12), .ref (ma 13), .int (iI msi), .int (iI (bI mdn)), .int (iI mpf), .int (iI mpt)])), (ma 1, .inl (kA 0, 4120, .inl (aI ca))), (ma 4, .inl (kA 0, 400, .inl (aI f_s))), (ma 5, .inl (kA 0, 400, .inl (aI g_s)))] := hD
    have hp50 : HL (gaT ca r2 msi) n_s f_s g_s ∧ LB (gaT ca r2 msi) (400 * r2) (400 * r2 + 400) ∧ n_s ≤ 400 := hu3
    have hnb : 0 < n_s := hk_l4 hkb (by assumption) hp50.1
    have hmb := hp50.2.1 _ (hp50.1.mem (k := 0) (by omega) hnb)
    simp only at hmb
    have hgb := hp50.1.get0 hnb
    refine lv_aload_n hx hb d_M_compareTexts_53 rfl (lv_at hl 2 rfl) ?_
    refine gf_M_26 hx hb hts hown hK hP 0 rfl rfl d_M_compareTexts_54 ?_
    refine lv_iconst (v := iI 0) hx hb d_M_compareTexts_57 rfl ?_
    refine li_iald hx hb hK hP 2 0 rfl rfl (by omega) (by omega) (by omega) d_M_compareTexts_58 ?_
    refine li_nm (fun y0 ey0 => ?_)
    refine lv_istore (lv' := [(5, .int (iI y0)), (4, .int (iI xT)), (3, .int (iI x0)), (0, .ref mo), (1, .int (iI r)), (2, .int (iI r2))]) hx hb d_M_compareTexts_59 hl (by decide) rfl (fun ls hl => ?_)
    refine lv_aload_n hx hb d_M_compareTexts_61 rfl (lv_at hl 3 rfl) ?_
    refine gf_M_29 hx hb hts hown hK hP 0 rfl rfl d_M_compareTexts_62 ?_
    refine lv_iconst (v := iI 0) hx hb d_M_compareTexts_65 rfl ?_
    refine li_iald hx hb hK hP 3 0 rfl rfl (by omega) (by omega) (by omega) d_M_compareTexts_66 ?_
    refine li_nm (fun yT eyT => ?_)
    refine lv_istore (lv' := [(6, .int (iI yT)), (5, .int (iI y0)), (4, .int (iI xT)), (3, .int (iI x0)), (0, .ref mo), (1, .int (iI r)), (2, .int (iI r2))]) hx hb d_M_compareTexts_67 hl (by decide) rfl (fun ls hl => ?_)
    refine lv_aload_n hx hb d_M_compareTexts_69 rfl (lv_at hl 4 rfl) ?_
    refine lv_iload_n hx hb d_M_compareTexts_70 rfl (lv_at hl 3 rfl) ?_
    refine lv_iload hx hb d_M_compareTexts_71 (lv_at hl 2 rfl) ?_
    refine lv_iconst (v := iI 0) hx hb d_M_compareTexts_73 rfl ?_
    refine li_callr ((va_runV (As := [.int (iI x0), .int (iI xT), .int (iI 0)]) (rest := []) ⟨hx, hb, hml, hown, hts⟩ (c_M_beginOf l dC dI kA mo ma mrf mz mls mfp mfm n_s mwd mak mli mlx mat mtk mtf mtt mfa mla mlp mdp msi mpf mpt mdn ca x0 xT false (by exact hca) (by omega)) (cw_M_145 hts rfl rfl ⟨Nat.le_of_ble_eq_true rfl, Nat.le_of_ble_eq_true rfl⟩) (li_preV (va_recv hK hP (ci := 10) (q0 := 0) rfl rfl) (hP.sub [0, 1] rfl) hK hN (hG.go hS hAN)) rfl rfl hl.1 rfl (lv_room (Nat.le_of_ble_eq_true rfl)) d_M_compareTexts_74 ⟨(by show 0 + 0 ≤ 0; omega), (by show 0 + 0 ≤ 0; omega)⟩).run) ?_
    refine li_nm (fun xa exa => ?_)
    refine lv_istore_n (lv' := [(3, .int (iI xa)), (6, .int (iI yT)), (5, .int (iI y0)), (4, .int (iI xT)), (0, .ref mo), (1, .int (iI r)), (2, .int (iI r2))]) hx hb d_M_compareTexts_77 rfl hl (by decide) rfl (fun ls hl => ?_)
    have hxa := bgM_r (f := ca) (b := false) (x := x0) (y := xT) (by omega)
    rw [← exa] at hxa
    refine lv_aload_n hx hb d_M_compareTexts_78 rfl (lv_at hl 4 rfl) ?_
    refine lv_iload hx hb d_M_compareTexts_79 (lv_at hl 2 rfl) ?_
    refine lv_iload hx hb d_M_compareTexts_81 (lv_at hl 1 rfl) ?_
    refine lv_iconst (v := iI 0) hx hb d_M_compareTexts_83 rfl ?_
    refine li_callr ((va_runV (As := [.int (iI y0), .int (iI yT), .int (iI 0)]) (rest := []) ⟨hx, hb, hml, hown, hts⟩ (c_M_beginOf l dC dI kA mo ma mrf mz mls mfp mfm n_s mwd mak mli mlx mat mtk mtf mtt mfa mla mlp mdp msi mpf mpt mdn ca y0 yT false (by exact hca) (by omega)) (cw_M_145 hts rfl rfl ⟨Nat.le_of_ble_eq_true rfl, Nat.le_of_ble_eq_true rfl⟩) (li_preV (va_recv hK hP (ci := 10) (q0 := 0) rfl rfl) (hP.sub [0, 1] rfl) hK hN (hG.go hS hAN)) rfl rfl hl.1 rfl (lv_room (Nat.le_of_ble_eq_true rfl)) d_M_compareTexts_84 ⟨(by show 0 + 0 ≤ 0; omega), (by show 0 + 0 ≤ 0; omega)⟩).run) ?_
    refine li_nm (fun ya eya => ?_)
    refine lv_istore (lv' := [(5, .int (iI ya)), (3, .int (iI xa)), (6, .int (iI yT)), (4, .int (iI xT)), (0, .ref mo), (1, .int (iI r)), (2, .int (iI r2))]) hx hb d_M_compareTexts_87 hl (by decide) rfl (fun ls hl => ?_)
    have hya := bgM_r (f := ca) (b := false) (x := y0) (y := yT) (by omega)
    rw [← eya] at hya
    have K_89 : ∀ (nn_89 : Nat) (x : Int) (y : Int) (h : Nat), (0 ≤ x ∧ x ≤ xT ∧ 0 ≤ y ∧ y ≤ yT) → (x < xT → isLw (ca x.toNat) false = true) → ((xT - x).toNat < h) → (cwL ca xT yT h x y = ctM ca msi r r2) → ((xT - x).toNat < nn_89) → ∀ (H : Heap) (locs : List Loc), va_P (dC, dI) CL [(mo, .inr (10, [.int (iI mrf), .ref (ma 0), .int (iI mz), .ref (ma 1), .ref (ma 2), .int (iI mls), .int (iI mfp), .int (iI mfm), .ref (ma 3), .int (iI n_s), .ref (ma 4), .ref (ma 5), .int (iI mwd), .ref (ma 6), .ref (ma 7), .int (iI mak), .ref (ma 8), .ref (ma 9), .int (iI mli), .int (iI mlx), .ref (ma 10), .ref (ma 11), .int (iI mat), .int (iI mtk), .int (iI mtf), .int (iI mtt), .int (iI mfa), .int (iI mla), .int (iI mlp), .int (iI mdp), .ref (ma 12), .ref (ma 13), .int (iI msi), .int (iI (bI mdn)), .int (iI mpf), .int (iI mpt)])), (ma 1, .inl (kA 0, 4120, .inl (aI ca))), (ma 4, .inl (kA 0, 400, .inl (aI f_s))), (ma 5, .inl (kA 0, 400, .inl (aI g_s)))] H → va_D A [(mo, .inr (10, [.int (iI mrf), .ref (ma 0), .int (iI mz), .ref (ma 1), .ref (ma 2), .int (iI mls), .int (iI mfp), .int (iI mfm), .ref (ma 3), .int (iI n_s), .ref (ma 4), .ref (ma 5), .int (iI mwd), .ref (ma 6), .ref (ma 7), .int (iI mak), .ref (ma 8), .ref (ma 9), .int (iI mli), .int (iI mlx), .ref (ma 10), .ref (ma 11), .int (iI mat), .int (iI mtk), .int (iI mtf), .int (iI mtt), .int (iI mfa), .int (iI mla), .int (iI mlp), .int (iI mdp), .ref (ma 12), .ref (ma 13), .int (iI msi), .int (iI (bI mdn)), .int (iI mpf), .int (iI mpt)])), (ma 1, .inl (kA 0, 4120, .inl (aI ca))), (ma 4, .inl (kA 0, 400, .inl (aI f_s))), (ma 5, .inl (kA 0, 400, .inl (aI g_s)))] → va_S A s.heap H locs → ∀ ls : Array Slot, lv_has ls 10 [(5, .int (iI y)), (3, .int (iI x)), (6, .int (iI yT)), (4, .int (iI xT)), (0, .ref mo), (1, .int (iI r)), (2, .int (iI r2))] → W p l e (rmd 5 0 0) s m args below meth c H locs 0 0 Q (F0 m 89 ls []) := by
      intro nn_89
      induction nn_89 with
      | zero => intro x y h hx9 hlx hhf hres hm; exact absurd hm (Nat.not_lt_zero _)
      | succ nn_89 ih_89 =>
        intro x y h hx9 hlx hhf hres hm_89 H locs hP hD hS ls hl
        obtain ⟨g, rfl⟩ : ∃ g, h = g + 1 := ⟨h - 1, by omega⟩
        simp only [cwL] at hres
        refine lv_iload_n hx hb d_M_compareTexts_89 rfl (lv_at hl 1 rfl) ?_
        refine lv_iload hx hb d_M_compareTexts_90 (lv_at hl 3 rfl) ?_
        refine li_icmp_ge (tgt := 168) hx hb d_M_compareTexts_92 (by decide) (by omega) (by omega) (fun c4 => ?_) (fun c4 => ?_)
        · have _q := c4
          rw [if_neg (by omega)] at hres
          refine lv_iload_n hx hb d_M_compareTexts_168 rfl (lv_at hl 1 rfl) ?_
          refine lv_iload hx hb d_M_compareTexts_169 (lv_at hl 3 rfl) ?_
          refine li_icmp_ge (tgt := 178) hx hb d_M_compareTexts_171 (by decide) (by omega) (by omega) (fun c5 => ?_) (fun c5 => ?_)
          · have _q := c5
            refine lv_iload hx hb d_M_compareTexts_178 (lv_at hl 0 rfl) ?_
            refine lv_iload hx hb d_M_compareTexts_180 (lv_at hl 2 rfl) ?_
            refine li_icmp_ge (tgt := 189) hx hb d_M_compareTexts_182 (by decide) (by omega) (by omega) (fun c6 => ?_) (fun c6 => ?_)
            · have _q := c6
              refine lv_iconst (v := iI 0) hx hb d_M_compareTexts_189 rfl ?_
              exact fin (n_s, f_s, g_s) _ _ _ _ _ (by rw [← hres]; (repeat (first | rw [if_pos (by omega)] | rw [if_neg (by omega)]))) (by trivial) (by first | exact hP | (subst_vars; exact hP)) (by first | exact hD | (subst_vars; exact hD)) hS d_M_compareTexts_190
            · have _q := c6
              refine lv_iconst (v := iI (-1)) hx hb d_M_compareTexts_185 rfl ?_
              refine lv_goto (tgt := 190) hx hb d_M_compareTexts_186 (by decide) ?_
              exact fin (n_s, f_s, g_s) _ _ _ _ _ (by rw [← hres]; (repeat (first | rw [if_pos (by omega)] | rw [if_neg (by omega)]))) (by trivial) (by first | exact hP | (subst_vars; exact hP)) (by first | exact hD | (subst_vars; exact hD)) hS d_M_compareTexts_190
          · have _q := c5
            exact absurd c5 (by omega)
        · have _q := c4
          refine lv_iload hx hb d_M_compareTexts_95 (lv_at hl 0 rfl) ?_
          refine lv_iload hx hb d_M_compareTexts_97 (lv_at hl 2 rfl) ?_
          refine li_icmp_ge (tgt := 168) hx hb d_M_compareTexts_99 (by decide) (by omega) (by omega) (fun c7 => ?_) (fun c7 => ?_)
          · have _q := c7
            rw [if_neg (by omega)] at hres
            refine lv_iload_n hx hb d_M_compareTexts_168 rfl (lv_at hl 1 rfl) ?_
            refine lv_iload hx hb d_M_compareTexts_169 (lv_at hl 3 rfl) ?_
            refine li_icmp_ge (tgt := 178) hx hb d_M_compareTexts_171 (by decide) (by omega) (by omega) (fun c8 => ?_) (fun c8 => ?_)
            · have _q := c8
              exact absurd c8 (by omega)
            · have _q := c8
              refine lv_iconst (v := iI 1) hx hb d_M_compareTexts_174 rfl ?_
              refine lv_goto (tgt := 190) hx hb d_M_compareTexts_175 (by decide) ?_
              exact fin (n_s, f_s, g_s) _ _ _ _ _ (by rw [← hres]; (repeat (first | rw [if_pos (by omega)] | rw [if_neg (by omega)]))) (by trivial) (by first | exact hP | (subst_vars; exact hP)) (by first | exact hD | (subst_vars; exact hD)) hS d_M_compareTexts_190
          · have _q := c7
            refine lv_aload_n hx hb d_M_compareTexts_102 rfl (lv_at hl 4 rfl) ?_
            refine lv_iload_n hx hb d_M_compareTexts_103 rfl (lv_at hl 1 rfl) ?_
            refine lv_iload hx hb d_M_compareTexts_104 (lv_at hl 3 rfl) ?_
            refine lv_iconst (v := iI 0) hx hb d_M_compareTexts_106 rfl ?_
            refine li_callr ((va_runV (As := [.int (iI x), .int (iI xT), .int (iI 0)]) (rest := []) ⟨hx, hb, hml, hown, hts⟩ (c_M_endOf l dC dI kA mo ma mrf mz mls mfp mfm n_s mwd mak mli mlx mat mtk mtf mtt mfa mla mlp mdp msi mpf mpt mdn ca x xT false (by exact hca) (by omega)) (cw_M_149 hts rfl rfl ⟨Nat.le_of_ble_eq_true rfl, Nat.le_of_ble_eq_true rfl⟩) (li_preV (va_recv hK hP (ci := 10) (q0 := 0) rfl rfl) (hP.sub [0, 1] rfl) hK hN (hG.go hS hAN)) rfl rfl hl.1 rfl (lv_room (Nat.le_of_ble_eq_true rfl)) d_M_compareTexts_107 ⟨(by show 0 + 0 ≤ 0; omega), (by show 0 + 0 ≤ 0; omega)⟩).run) ?_
            refine li_nm (fun xe exe => ?_)
            refine lv_istore (lv' := [(7, .int (iI xe)), (5, .int (iI y)), (3, .int (iI x)), (6, .int (iI yT)), (4, .int (iI xT)), (0, .ref mo), (1, .int (iI r)), (2, .int (iI r2))]) hx hb d_M_compareTexts_110 hl (by decide) rfl (fun ls hl => ?_)
            have hxe := edM_r (f := ca) (b := false) (x := x) (y := xT) (by omega)
            have hxp := edM_p (f := ca) (b := false) (x := x) (y := xT) (by omega) (hlx (by omega))
            rw [← exe] at hxe hxp
            refine lv_aload_n hx hb d_M_compareTexts_112 rfl (lv_at hl 5 rfl) ?_
            refine lv_iload hx hb d_M_compareTexts_113 (lv_at hl 1 rfl) ?_
            refine lv_iload hx hb d_M_compareTexts_115 (lv_at hl 3 rfl) ?_
            refine lv_iconst (v := iI 0) hx hb d_M_compareTexts_117 rfl ?_
            refine li_callr ((va_runV (As := [.int (iI y), .int (iI yT), .int (iI 0)]) (rest := []) ⟨hx, hb, hml, hown, hts⟩ (c_M_endOf l dC dI kA mo ma mrf mz mls mfp mfm n_s mwd mak mli mlx mat mtk mtf mtt mfa mla mlp mdp msi mpf mpt mdn ca y yT false (by exact hca) (by omega)) (cw_M_149 hts rfl rfl ⟨Nat.le_of_ble_eq_true rfl, Nat.le_of_ble_eq_true rfl⟩) (li_preV (va_recv hK hP (ci := 10) (q0 := 0) rfl rfl) (hP.sub [0, 1] rfl) hK hN (hG.go hS hAN)) rfl rfl hl.1 rfl (lv_room (Nat.le_of_ble_eq_true rfl)) d_M_compareTexts_118 ⟨(by show 0 + 0 ≤ 0; omega), (by show 0 + 0 ≤ 0; omega)⟩).run) ?_
            refine li_nm (fun ye eye => ?_)
            refine lv_istore (lv' := [(8, .int (iI ye)), (7, .int (iI xe)), (5, .int (iI y)), (3, .int (iI x)), (6, .int (iI yT)), (4, .int (iI xT)), (0, .ref mo), (1, .int (iI r)), (2, .int (iI r2))]) hx hb d_M_compareTexts_121 hl (by decide) rfl (fun ls hl => ?_)
            have hye := edM_r (f := ca) (b := false) (x := y) (y := yT) (by omega)
            rw [← eye] at hye
            rw [if_pos (by omega), ← exe, ← eye] at hres
            refine lv_aload_n hx hb d_M_compareTexts_123 rfl (lv_at hl 6 rfl) ?_
            refine lv_iload_n hx hb d_M_compareTexts_124 rfl (lv_at hl 3 rfl) ?_
            refine lv_iload hx hb d_M_compareTexts_125 (lv_at hl 1 rfl) ?_
            refine lv_iload hx hb d_M_compareTexts_127 (lv_at hl 2 rfl) ?_
            refine lv_iload hx hb d_M_compareTexts_129 (lv_at hl 0 rfl) ?_
            refine li_callr ((va_runV (As := [.int (iI x), .int (iI xe), .int (iI y), .int (iI ye)]) (rest := []) ⟨hx, hb, hml, hown, hts⟩ (c_M_compareWords l dC dI kA mo ma mrf mz mls mfp mfm n_s mwd mak mli mlx mat mtk mtf mtt mfa mla mlp mdp msi mpf mpt mdn ca x xe y ye (by exact hca) (by omega)) (cw_M_307 hts rfl rfl ⟨Nat.le_of_ble_eq_true rfl, Nat.le_of_ble_eq_true rfl⟩) (li_preV (va_recv hK hP (ci := 10) (q0 := 0) rfl rfl) (hP.sub [0, 1] rfl) hK hN (hG.go hS hAN)) rfl rfl hl.1 rfl (lv_room (Nat.le_of_ble_eq_true rfl)) d_M_compareTexts_131 ⟨(by show 0 + 0 ≤ 0; omega), (by show 0 + 0 ≤ 0; omega)⟩).run) ?_
            refine li_nm (fun cv ecv => ?_)
            refine lv_istore (lv' := [(9, .int (iI cv)), (8, .int (iI ye)), (7, .int (iI xe)), (5, .int (iI y)), (3, .int (iI x)), (6, .int (iI yT)), (4, .int (iI xT)), (0, .ref mo), (1, .int (iI r)), (2, .int (iI r2))]) hx hb d_M_compareTexts_134 hl (by decide) rfl (fun ls hl => ?_)
            have hcv := cmM_r hca (x := x) (xe := xe) (y := y) (ye := ye) (by omega)
            rw [← ecv] at hcv hres
            refine lv_iload hx hb d_M_compareTexts_136 (lv_at hl 0 rfl) ?_
            refine li_if_eq (tgt := 144) hx hb d_M_compareTexts_138 (by decide) (by omega) (fun c9 => ?_) (fun c9 => ?_)
            · have _q := c9
              rw [if_pos (by omega)] at hres
              refine lv_aload_n hx hb d_M_compareTexts_144 rfl (lv_at hl 7 rfl) ?_
              refine lv_iload hx hb d_M_compareTexts_145 (lv_at hl 2 rfl) ?_
              refine lv_iload hx hb d_M_compareTexts_147 (lv_at hl 6 rfl) ?_
              refine lv_iconst (v := iI 0) hx hb d_M_compareTexts_149 rfl ?_
              refine li_callr ((va_runV (As := [.int (iI xe), .int (iI xT), .int (iI 0)]) (rest := []) ⟨hx, hb, hml, hown, hts⟩ (c_M_beginOf l dC dI kA mo ma mrf mz mls mfp mfm n_s mwd mak mli mlx mat mtk mtf mtt mfa mla mlp mdp msi mpf mpt mdn ca xe xT false (by exact hca) (by omega)) (cw_M_145 hts rfl rfl ⟨Nat.le_of_ble_eq_true rfl, Nat.le_of_ble_eq_true rfl⟩) (li_preV (va_recv hK hP (ci := 10) (q0 := 0) rfl rfl) (hP.sub [0, 1] rfl) hK hN (hG.go hS hAN)) rfl rfl hl.1 rfl (lv_room (Nat.le_of_ble_eq_true rfl)) d_M_compareTexts_150 ⟨(by show 0 + 0 ≤ 0; omega), (by show 0 + 0 ≤ 0; omega)⟩).run) ?_
              refine li_nm (fun xb exb => ?_)
              refine lv_istore_n (lv' := [(3, .int (iI xb)), (9, .int (iI cv)), (8, .int (iI ye)), (7, .int (iI xe)), (5, .int (iI y)), (6, .int (iI yT)), (4, .int (iI xT)), (0, .ref mo), (1, .int (iI r)), (2, .int (iI r2))]) hx hb d_M_compareTexts_153 rfl hl (by decide) rfl (fun ls hl => ?_)
              have hxb := bgM_r (f := ca) (b := false) (x := xe) (y := xT) (by omega)
              rw [← exb] at hxb
              refine lv_aload_n hx hb d_M_compareTexts_154 rfl (lv_at hl 7 rfl) ?_
              refine lv_iload hx hb d_M_compareTexts_155 (lv_at hl 2 rfl) ?_
              refine lv_iload hx hb d_M_compareTexts_157 (lv_at hl 5 rfl) ?_
              refine lv_iconst (v := iI 0) hx hb d_M_compareTexts_159 rfl ?_
              refine li_callr ((va_runV (As := [.int (iI ye), .int (iI yT), .int (iI 0)]) (rest := []) ⟨hx, hb, hml, hown, hts⟩ (c_M_beginOf l dC dI kA mo ma mrf mz mls mfp mfm n_s mwd mak mli mlx mat mtk mtf mtt mfa mla mlp mdp msi mpf mpt mdn ca ye yT false (by exact hca) (by omega)) (cw_M_145 hts rfl rfl ⟨Nat.le_of_ble_eq_true rfl, Nat.le_of_ble_eq_true rfl⟩) (li_preV (va_recv hK hP (ci := 10) (q0 := 0) rfl rfl) (hP.sub [0, 1] rfl) hK hN (hG.go hS hAN)) rfl rfl hl.1 rfl (lv_room (Nat.le_of_ble_eq_true rfl)) d_M_compareTexts_160 ⟨(by show 0 + 0 ≤ 0; omega), (by show 0 + 0 ≤ 0; omega)⟩).run) ?_
              refine li_nm (fun yb eyb => ?_)
              refine lv_istore (lv' := [(5, .int (iI yb)), (3, .int (iI xb)), (9, .int (iI cv)), (8, .int (iI ye)), (7, .int (iI xe)), (6, .int (iI yT)), (4, .int (iI xT)), (0, .ref mo), (1, .int (iI r)), (2, .int (iI r2))]) hx hb d_M_compareTexts_163 hl (by decide) rfl (fun ls hl => ?_)
              have hyb := bgM_r (f := ca) (b := false) (x := ye) (y := yT) (by omega)
              rw [← eyb] at hyb
              refine lv_goto (tgt := 89) hx hb d_M_compareTexts_165 (by decide) ?_
              exact ih_89 xb yb g (by omega) (by intro h5; rw [exb]; exact bgM_w (by omega) (by rw [← exb]; exact h5)) (by omega) (by rw [exb, eyb]; exact hres) (by omega) _ _ hP hD hS _ (lv_sub hl [0, 1, 5, 6, 7, 8, 9] rfl)
            · have _q := c9
              rw [if_neg (by omega)] at hres
              refine lv_iload hx hb d_M_compareTexts_141 (lv_at hl 0 rfl) ?_
              exact fin (n_s, f_s, g_s) _ _ _ _ _ (by exact hres) (by trivial) (by first | exact hP | (subst_vars; exact hP)) (by first | exact hD | (subst_vars; exact hD)) hS d_M_compareTexts_143
    exact K_89 ((xT - xa).toNat + 1) xa ya 1000 (by omega) (by intro h5; rw [exa]; exact bgM_w (by omega) (by rw [← exa]; exact h5)) (by omega) (by unfold ctM; rw [if_neg (by omega), hga, hgb]; unfold cwA; dsimp only; rw [show g_t 0 = xT from exT.symm, show f_t 0 = x0 from ex0.symm, show g_s 0 = yT from eyT.symm, show f_s 0 = y0 from ey0.symm, ← exa, ← eya]) (Nat.lt_succ_self _) _ _ hP hD hS _ (lv_sub hl [0, 1, 2, 3, 4, 5, 6] rfl)
  · have _q := c1
    refine lv_aload_n hx hb d_M_compareTexts_8 rfl (lv_at hl 0 rfl) ?_
    refine lv_iload_n hx hb d_M_compareTexts_9 rfl (lv_at hl 1 rfl) ?_
    refine li_callw (wc := [(mo, .inr (10, [.int (iI mrf), .ref (ma 0), .int (iI mz), .ref (ma 1), .ref (ma 2), .int (iI mls), .int (iI mfp), .int (iI mfm), .ref (ma 3), .int (iI mtx), .ref (ma 4), .ref (ma 5), .int (iI mwd), .ref (ma 6), .ref (ma 7), .int (iI mak), .ref (ma 8), .ref (ma 9), .int (iI mli), .int (iI mlx), .ref (ma 10), .ref (ma 11), .int (iI mat), .int (iI mtk), .int (iI mtf), .int (iI mtt), .int (iI mfa), .int (iI mla), .int (iI mlp), .int (iI mdp), .ref (ma 12), .ref (ma 13), .int (iI msi), .int (iI (bI mdn)), .int (iI mpf), .int (iI mpt)])), (ma 1, .inl (kA 0, 4120, .inl (aI ca))), (ma 4, .inl (kA 0, 400, .inl (aI ctf))), (ma 5, .inl (kA 0, 400, .inl (aI ctt)))]) (wr := []) (va_runV (As := [.int (iI r)]) (rest := []) ⟨hx, hb, hml, hown, hts⟩ (c_M_dateOf l dC dI kA H.size mo ma mrf mz mls mfp mfm mtx mwd mak mli mlx mat mtk mtf mtt mfa mla mlp mdp msi mpf mpt mdn ca ctf ctt r rn (by exact hca) (by omega) (by exact hRA)) (cw_M_162 hts rfl rfl ⟨Nat.le_of_ble_eq_true rfl, Nat.le_of_ble_eq_true rfl⟩) (li_preV (va_recv hK hP (ci := 10) (q0 := 0) rfl rfl) ⟨rfl, hP.sub [0, 1, 2, 3] rfl, (hD.sub [0, 1, 2, 3] (by decide) rfl).weaken (fun _ _ _ h => hAN _ h), trivial⟩ hK hN (hG.go hS hAN)) rfl rfl hl.1 rfl (lv_room (Nat.le_of_ble_eq_true rfl)) d_M_compareTexts_10 ⟨(by show 0 + 0 ≤ 0; omega), (by show 0 + 0 ≤ 0; omega)⟩) hP hD hS hA [0, 1, 2, 3] [] rfl rfl (by decide) (by decide) (fun u10 H locs hu10 hP hD hS _hk => ?_)
    obtain ⟨n911, f912, g913⟩ := u10
    have hP : va_P (dC, dI) CL [(mo, .inr (10, [.int (iI mrf), .ref (ma 0), .int (iI mz), .ref (ma 1), .ref (ma 2), .int (iI mls), .int (iI mfp), .int (iI mfm), .ref (ma 3), .int (iI n911), .ref (ma 4), .ref (ma 5), .int (iI mwd), .ref (ma 6), .ref (ma 7), .int (iI mak), .ref (ma 8), .ref (ma 9), .int (iI mli), .int (iI mlx), .ref (ma 10), .ref (ma 11), .int (iI mat), .int (iI mtk), .int (iI mtf), .int (iI mtt), .int (iI mfa), .int (iI mla), .int (iI mlp), .int (iI mdp), .ref (ma 12), .ref (ma 13), .int (iI msi), .int (iI (bI mdn)), .int (iI mpf), .int (iI mpt)])), (ma 1, .inl (kA 0, 4120, .inl (aI ca))), (ma 4, .inl (kA 0, 400, .inl (aI f912))), (ma 5, .inl (kA 0, 400, .inl (aI g913)))] H := hP
    have hD : va_D A [(mo, .inr (10, [.int (iI mrf), .ref (ma 0), .int (iI mz), .ref (ma 1), .ref (ma 2), .int (iI mls), .int (iI mfp), .int (iI mfm), .ref (ma 3), .int (iI n911), .ref (ma 4), .ref (ma 5), .int (iI mwd), .ref (ma 6), .ref (ma 7), .int (iI mak), .ref (ma 8), .ref (ma 9), .int (iI mli), .int (iI mlx), .ref (ma 10), .ref (ma 11), .int (iI mat), .int (iI mtk), .int (iI mtf), .int (iI mtt), .int (iI mfa), .int (iI mla), .int (iI mlp), .int (iI mdp), .ref (ma 12), .ref (ma 13), .int (iI msi), .int (iI (bI mdn)), .int (iI mpf), .int (iI mpt)])), (ma 1, .inl (kA 0, 4120, .inl (aI ca))), (ma 4, .inl (kA 0, 400, .inl (aI f912))), (ma 5, .inl (kA 0, 400, .inl (aI g913)))] := hD
    refine W.eq (g2 := F0 m 13 ls [.int (iI (dtM ca r))]) rfl ?_
    refine lv_aload_n hx hb d_M_compareTexts_13 rfl (lv_at hl 0 rfl) ?_
    refine lv_iload_n hx hb d_M_compareTexts_14 rfl (lv_at hl 2 rfl) ?_
    refine li_callw (wc := [(mo, .inr (10, [.int (iI mrf), .ref (ma 0), .int (iI mz), .ref (ma 1), .ref (ma 2), .int (iI mls), .int (iI mfp), .int (iI mfm), .ref (ma 3), .int (iI n911), .ref (ma 4), .ref (ma 5), .int (iI mwd), .ref (ma 6), .ref (ma 7), .int (iI mak), .ref (ma 8), .ref (ma 9), .int (iI mli), .int (iI mlx), .ref (ma 10), .ref (ma 11), .int (iI mat), .int (iI mtk), .int (iI mtf), .int (iI mtt), .int (iI mfa), .int (iI mla), .int (iI mlp), .int (iI mdp), .ref (ma 12), .ref (ma 13), .int (iI msi), .int (iI (bI mdn)), .int (iI mpf), .int (iI mpt)])), (ma 1, .inl (kA 0, 4120, .inl (aI ca))), (ma 4, .inl (kA 0, 400, .inl (aI f912))), (ma 5, .inl (kA 0, 400, .inl (aI g913)))]) (wr := []) (va_runV (As := [.int (iI r2)]) (rest := [.int (iI (dtM ca r))]) ⟨hx, hb, hml, hown, hts⟩ (c_M_dateOf l dC dI kA H.size mo ma mrf mz mls mfp mfm n911 mwd mak mli mlx mat mtk mtf mtt mfa mla mlp mdp msi mpf mpt mdn ca f912 g913 r2 rm (by exact hca) (by omega) (by exact hRB)) (cw_M_162 hts rfl rfl ⟨Nat.le_of_ble_eq_true rfl, Nat.le_of_ble_eq_true rfl⟩) (li_preV (va_recv hK hP (ci := 10) (q0 := 0) rfl rfl) ⟨rfl, hP.sub [0, 1, 2, 3] rfl, (hD.sub [0, 1, 2, 3] (by decide) rfl).weaken (fun _ _ _ h => hAN _ h), trivial⟩ hK hN (hG.go hS hAN)) rfl rfl hl.1 rfl (lv_room (Nat.le_of_ble_eq_true rfl)) d_M_compareTexts_15 ⟨(by show 0 + 0 ≤ 0; omega), (by show 0 + 0 ≤ 0; omega)⟩) hP hD hS hA [0, 1, 2, 3] [] rfl rfl (by decide) (by decide) (fun u14 H locs hu14 hP hD hS _hk => ?_)
    obtain ⟨n915, f916, g917⟩ := u14
    have hP : va_P (dC, dI) CL [(mo, .inr (10, [.int (iI mrf), .ref (ma 0), .int (iI mz), .ref (ma 1), .ref (ma 2), .int (iI mls), .int (iI mfp), .int (iI mfm), .ref (ma 3), .int (iI n915), .ref (ma 4), .ref (ma 5), .int (iI mwd), .ref (ma 6), .ref (ma 7), .int (iI mak), .ref (ma 8), .ref (ma 9), .int (iI mli), .int (iI mlx), .ref (ma 10), .ref (ma 11), .int (iI mat), .int (iI mtk), .int (iI mtf), .int (iI mtt), .int (iI mfa), .int (iI mla), .int (iI mlp), .int (iI mdp), .ref (ma 12), .ref (ma 13), .int (iI msi), .int (iI (bI mdn)), .int (iI mpf), .int (iI mpt)])), (ma 1, .inl (kA 0, 4120, .inl (aI ca))), (ma 4, .inl (kA 0, 400, .inl (aI f916))), (ma 5, .inl (kA 0, 400, .inl (aI g917)))] H := hP
    have hD : va_D A [(mo, .inr (10, [.int (iI mrf), .ref (ma 0), .int (iI mz), .ref (ma 1), .ref (ma 2), .int (iI mls), .int (iI mfp), .int (iI mfm), .ref (ma 3), .int (iI n915), .ref (ma 4), .ref (ma 5), .int (iI mwd), .ref (ma 6), .ref (ma 7), .int (iI mak), .ref (ma 8), .ref (ma 9), .int (iI mli), .int (iI mlx), .ref (ma 10), .ref (ma 11), .int (iI mat), .int (iI mtk), .int (iI mtf), .int (iI mtt), .int (iI mfa), .int (iI mla), .int (iI mlp), .int (iI mdp), .ref (ma 12), .ref (ma 13), .int (iI msi), .int (iI (bI mdn)), .int (iI mpf), .int (iI mpt)])), (ma 1, .inl (kA 0, 4120, .inl (aI ca))), (ma 4, .inl (kA 0, 400, .inl (aI f916))), (ma 5, .inl (kA 0, 400, .inl (aI g917)))] := hD
    refine W.eq (g2 := F0 m 18 ls [.int (iI (dtM ca r2)), .int (iI (dtM ca r))]) rfl ?_
    refine li_isub hx hb d_M_compareTexts_18 ?_
    exact fin (n915, f916, g917) _ _ _ _ _ (by unfold ctM; rw [if_pos (by omega)]) (by trivial) (by first | exact hP | (subst_vars; exact hP)) (by first | exact hD | (subst_vars; exact hD)) hS d_M_compareTexts_19
theorem d_M_isBefore_0 : decode b_M_isBefore 0 = .ok (.aload_n 0, 1) := by decide +kernel
theorem d_M_isBefore_1 : decode b_M_isBefore 1 = .ok (.getfield 291, 3) := by decide +kernel
theorem d_M_isBefore_4 : decode b_M_isBefore 4 = .ok (.ifCond .ge 14, 3) := by decide +kernel
theorem d_M_isBefore_7 : decode b_M_isBefore 7 = .ok (.iload_n 1, 1) := by decide +kernel
theorem d_M_isBefore_8 : decode b_M_isBefore 8 = .ok (.iload_n 2, 1) := by decide +kernel
theorem d_M_isBefore_9 : decode b_M_isBefore 9 = .ok (.if_icmp .ge 7, 3) := by decide +kernel
theorem d_M_isBefore_12 : decode b_M_isBefore 12 = .ok (.iconst 1, 1) := by decide +kernel
theorem d_M_isBefore_13 : decode b_M_isBefore 13 = .ok (.goto 4, 3) := by decide +kernel
theorem d_M_isBefore_16 : decode b_M_isBefore 16 = .ok (.iconst 0, 1) := by decide +kernel
theorem d_M_isBefore_17 : decode b_M_isBefore 17 = .ok (.ireturn, 1) := by decide +kernel
theorem d_M_isBefore_18 : decode b_M_isBefore 18 = .ok (.aload_n 0, 1) := by decide +kernel
theorem d_M_isBefore_19 : decode b_M_isBefore 19 = .ok (.iload_n 1, 1) := by decide +kernel
theorem d_M_isBefore_20 : decode b_M_isBefore 20 = .ok (.invokevirtual 311, 3) := by decide +kernel
theorem d_M_isBefore_23 : decode b_M_isBefore 23 = .ok (.istore_n 3, 1) := by decide +kernel
theorem d_M_isBefore_24 : decode b_M_isBefore 24 = .ok (.aload_n 0, 1) := by decide +kernel
theorem d_M_isBefore_25 : decode b_M_isBefore 25 = .ok (.iload_n 2, 1) := by decide +kernel
theorem d_M_isBefore_26 : decode b_M_isBefore 26 = .ok (.invokevirtual 311, 3) := by decide +kernel
theorem d_M_isBefore_29 : decode b_M_isBefore 29 = .ok (.istore 4, 2) := by decide +kernel
theorem d_M_isBefore_31 : decode b_M_isBefore 31 = .ok (.iload_n 3, 1) := by decide +kernel
theorem d_M_isBefore_32 : decode b_M_isBefore 32 = .ok (.iload 4, 2) := by decide +kernel
theorem d_M_isBefore_34 : decode b_M_isBefore 34 = .ok (.if_icmp .eq 5, 3) := by decide +kernel
theorem d_M_isBefore_37 : decode b_M_isBefore 37 = .ok (.iload_n 3, 1) := by decide +kernel
theorem d_M_isBefore_38 : decode b_M_isBefore 38 = .ok (.ireturn, 1) := by decide +kernel
theorem d_M_isBefore_39 : decode b_M_isBefore 39 = .ok (.iload_n 3, 1) := by decide +kernel
theorem d_M_isBefore_40 : decode b_M_isBefore 40 = .ok (.ifCond .eq 12, 3) := by decide +kernel
theorem d_M_isBefore_43 : decode b_M_isBefore 43 = .ok (.aload_n 0, 1) := by decide +kernel
theorem d_M_isBefore_44 : decode b_M_isBefore 44 = .ok (.iload_n 1, 1) := by decide +kernel
theorem d_M_isBefore_45 : decode b_M_isBefore 45 = .ok (.iload_n 2, 1) := by decide +kernel
theorem d_M_isBefore_46 : decode b_M_isBefore 46 = .ok (.invokevirtual 314, 3) := by decide +kernel
theorem d_M_isBefore_49 : decode b_M_isBefore 49 = .ok (.goto 4, 3) := by decide +kernel
theorem d_M_isBefore_52 : decode b_M_isBefore 52 = .ok (.iconst 0, 1) := by decide +kernel
theorem d_M_isBefore_53 : decode b_M_isBefore 53 = .ok (.istore 5, 2) := by decide +kernel
theorem d_M_isBefore_55 : decode b_M_isBefore 55 = .ok (.iload 5, 2) := by decide +kernel
theorem d_M_isBefore_57 : decode b_M_isBefore 57 = .ok (.ifCond .ne 16, 3) := by decide +kernel
theorem d_M_isBefore_60 : decode b_M_isBefore 60 = .ok (.iload_n 1, 1) := by decide +kernel
theorem d_M_isBefore_61 : decode b_M_isBefore 61 = .ok (.iload_n 2, 1) := by decide +kernel
theorem d_M_isBefore_62 : decode b_M_isBefore 62 = .ok (.if_icmp .ge 7, 3) := by decide +kernel
theorem d_M_isBefore_65 : decode b_M_isBefore 65 = .ok (.iconst 1, 1) := by decide +kernel
theorem d_M_isBefore_66 : decode b_M_isBefore 66 = .ok (.goto 37, 3) := by decide +kernel
theorem d_M_isBefore_69 : decode b_M_isBefore 69 = .ok (.iconst 0, 1) := by decide +kernel
theorem d_M_isBefore_70 : decode b_M_isBefore 70 = .ok (.goto 33, 3) := by decide +kernel
theorem d_M_isBefore_73 : decode b_M_isBefore 73 = .ok (.aload_n 0, 1) := by decide +kernel
theorem d_M_isBefore_74 : decode b_M_isBefore 74 = .ok (.getfield 294, 3) := by decide +kernel
theorem d_M_isBefore_77 : decode b_M_isBefore 77 = .ok (.ifCond .eq 16, 3) := by decide +kernel
theorem d_M_isBefore_80 : decode b_M_isBefore 80 = .ok (.iload 5, 2) := by decide +kernel
theorem d_M_isBefore_82 : decode b_M_isBefore 82 = .ok (.ifCond .le 7, 3) := by decide +kernel
theorem d_M_isBefore_85 : decode b_M_isBefore 85 = .ok (.iconst 1, 1) := by decide +kernel
theorem d_M_isBefore_86 : decode b_M_isBefore 86 = .ok (.goto 17, 3) := by decide +kernel
theorem d_M_isBefore_89 : decode b_M_isBefore 89 = .ok (.iconst 0, 1) := by decide +kernel
theorem d_M_isBefore_90 : decode b_M_isBefore 90 = .ok (.goto 13, 3) := by decide +kernel
theorem d_M_isBefore_93 : decode b_M_isBefore 93 = .ok (.iload 5, 2) := by decide +kernel
theorem d_M_isBefore_95 : decode b_M_isBefore 95 = .ok (.ifCond .ge 7, 3) := by decide +kernel
theorem d_M_isBefore_98 : decode b_M_isBefore 98 = .ok (.iconst 1, 1) := by decide +kernel
theorem d_M_isBefore_99 : decode b_M_isBefore 99 = .ok (.goto 4, 3) := by decide +kernel
theorem d_M_isBefore_102 : decode b_M_isBefore 102 = .ok (.iconst 0, 1) := by decide +kernel
theorem d_M_isBefore_103 : decode b_M_isBefore 103 = .ok (.ireturn, 1) := by decide +kernel
set_option maxHeartbeats 4000000 in
set_option maxRecDepth 100000 in
theorem c_M_isBefore (l : Launch) (dC : Nat → ClassId) (dI : Nat → Nat → Nat) (kA : Nat → ClassId) (sz : Nat) (mo : Nat) (ma : Nat → Nat) (mrf : Int) (mz : Int) (mls : Int) (mfp : Int) (mfm : Int) (mtx : Int) (mwd : Int) (mak : Int) (mli : Int) (mlx : Int) (mat : Int) (mtk : Int) (mtf : Int) (mtt : Int) (mfa : Int) (mla : Int) (mlp : Int) (mdp : Int) (msi : Int) (mpf : Int) (mpt : Int) (mdn : Bool) (ca : Nat → Int) (ctf : Nat → Int) (ctt : Nat → Int) (r : Int) (r2 : Int) (rn : Nat) (rm : Nat) (hca : C2 ca) (hab : 0 ≤ r ∧ r ≤ 9 ∧ 0 ≤ r2 ∧ r2 ≤ 9) (hRA : RecA (octM ca r) rn) (hRB : RecA (octM ca r2) rm) (hsi : -1 ≤ msi ∧ msi ≤ 5) (hla : LB (gaT ca r msi) 0 4000) (hlb : LB (gaT ca r2 msi) 0 4000) : Met l y_M_isBefore (wsy y_M_isBefore b_M_isBefore 6 (some .boolean)) (rmd 6 0 0) (li_Pr (dC, dI) CL (TY kA) [.ref mo, .int (iI r), .int (iI r2)] (fun h => h.size = sz ∧ va_P (dC, dI) CL [(mo, .inr (10, [.int (iI mrf), .ref (ma 0), .int (iI mz), .ref (ma 1), .ref (ma 2), .int (iI mls), .int (iI mfp), .int (iI mfm), .ref (ma 3), .int (iI mtx), .ref (ma 4), .ref (ma 5), .int (iI mwd), .ref (ma 6), .ref (ma 7), .int (iI mak), .ref (ma 8), .ref (ma 9), .int (iI mli), .int (iI mlx), .ref (ma 10), .ref (ma 11), .int (iI mat), .int (iI mtk), .int (iI mtf), .int (iI mtt), .int (iI mfa), .int (iI mla), .int (iI mlp), .int (iI mdp), .ref (ma 12), .ref (ma 13), .int (iI msi), .int (iI (bI mdn)), .int (iI mpf), .int (iI mpt)])), (ma 1, .inl (kA 0, 4120, .inl (aI ca))), (ma 4, .inl (kA 0, 400, .inl (aI ctf))), (ma 5, .inl (kA 0, 400, .inl (aI ctt)))] h ∧ va_D (fun q => dI 100 0 ≤ q) [(mo, .inr (10, [.int (iI mrf), .ref (ma 0), .int (iI mz), .ref (ma 1), .ref (ma 2), .int (iI mls), .int (iI mfp), .int (iI mfm), .ref (ma 3), .int (iI mtx), .ref (ma 4), .ref (ma 5), .int (iI mwd), .ref (ma 6), .ref (ma 7), .int (iI mak), .ref (ma 8), .ref (ma 9), .int (iI mli), .int (iI mlx), .ref (ma 10), .ref (ma 11), .int (iI mat), .int (iI mtk), .int (iI mtf), .int (iI mtt), .int (iI mfa), .int (iI mla), .int (iI mlp), .int (iI mdp), .ref (ma 12), .ref (ma 13), .int (iI msi), .int (iI (bI mdn)), .int (iI mpf), .int (iI mpt)])), (ma 1, .inl (kA 0, 4120, .inl (aI ca))), (ma 4, .inl (kA 0, 400, .inl (aI ctf))), (ma 5, .inl (kA 0, 400, .inl (aI ctt)))] ∧ (fun _ => True) h)) (li_Qw (S := (Int) × (Nat → Int) × (Nat → Int)) (dC, dI) CL (fun _ => True) (fun u => some (.int (iI (bI (ibM ca msi mdn r r2))))) (fun u => [(mo, .inr (10, [.int (iI mrf), .ref (ma 0), .int (iI mz), .ref (ma 1), .ref (ma 2), .int (iI mls), .int (iI mfp), .int (iI mfm), .ref (ma 3), .int (iI u.1), .ref (ma 4), .ref (ma 5), .int (iI mwd), .ref (ma 6), .ref (ma 7), .int (iI mak), .ref (ma 8), .ref (ma 9), .int (iI mli), .int (iI mlx), .ref (ma 10), .ref (ma 11), .int (iI mat), .int (iI mtk), .int (iI mtf), .int (iI mtt), .int (iI mfa), .int (iI mla), .int (iI mlp), .int (iI mdp), .ref (ma 12), .ref (ma 13), .int (iI msi), .int (iI (bI mdn)), .int (iI mpf), .int (iI mpt)])), (ma 1, .inl (kA 0, 4120, .inl (aI ca))), (ma 4, .inl (kA 0, 400, .inl (aI u.2.1))), (ma 5, .inl (kA 0, 400, .inl (aI u.2.2)))]) (va_A [(mo, .inr (10, [.int (iI mrf), .ref (ma 0), .int (iI mz), .ref (ma 1), .ref (ma 2), .int (iI mls), .int (iI mfp), .int (iI mfm), .ref (ma 3), .int (iI mtx), .ref (ma 4), .ref (ma 5), .int (iI mwd), .ref (ma 6), .ref (ma 7), .int (iI mak), .ref (ma 8), .ref (ma 9), .int (iI mli), .int (iI mlx), .ref (ma 10), .ref (ma 11), .int (iI mat), .int (iI mtk), .int (iI mtf), .int (iI mtt), .int (iI mfa), .int (iI mla), .int (iI mlp), .int (iI mdp), .ref (ma 12), .ref (ma 13), .int (iI msi), .int (iI (bI mdn)), .int (iI mpf), .int (iI mpt)])), (ma 1, .inl (kA 0, 4120, .inl (aI ca))), (ma 4, .inl (kA 0, 400, .inl (aI ctf))), (ma 5, .inl (kA 0, 400, .inl (aI ctt)))] sz)) 0 0 (va_A [(mo, .inr (10, [.int (iI mrf), .ref (ma 0), .int (iI mz), .ref (ma 1), .ref (ma 2), .int (iI mls), .int (iI mfp), .int (iI mfm), .ref (ma 3), .int (iI mtx), .ref (ma 4), .ref (ma 5), .int (iI mwd), .ref (ma 6), .ref (ma 7), .int (iI mak), .ref (ma 8), .ref (ma 9), .int (iI mli), .int (iI mlx), .ref (ma 10), .ref (ma 11), .int (iI mat), .int (iI mtk), .int (iI mtf), .int (iI mtt), .int (iI mfa), .int (iI mla), .int (iI mlp), .int (iI mdp), .ref (ma 12), .ref (ma 13), .int (iI msi), .int (iI (bI mdn)), .int (iI mpf), .int (iI mpt)])), (ma 1, .inl (kA 0, 4120, .inl (aI ca))), (ma 4, .inl (kA 0, 400, .inl (aI ctf))), (ma 5, .inl (kA 0, 400, .inl (aI ctt)))] sz) := by
  refine li_mwi (r := fun (u : (Int) × (Nat → Int) × (Nat → Int)) => bI (ibM ca msi mdn r r2)) (by decide) (Nat.le_of_ble_eq_true rfl) (fun u _ => by exact li_narZ2 _) ?_
  intro p e s m args below meth c Q A C hP hD hBx hK hN hG hA hAi hAN fin ls hl
  obtain ⟨hx, hb, hr, hml, hown, hts, hlocks, hin⟩ := C
  have hown : s.vm.findClass R_M = some m.cls := hown
  have hl : lv_has ls 6 [(0, .ref mo), (1, .int (iI r)), (2, .int (iI r2))] := hl
  suffices h9 : ∀ (H : Heap) (locs : List Loc), H = s.heap → locs = [] → W p l e (rmd 6 0 0) s m args below meth c H locs 0 0 Q (F0 m 0 ls []) from h9 _ _ rfl rfl
  intro H locs eH eL
  have hP : va_P (dC, dI) CL [(mo, .inr (10, [.int (iI mrf), .ref (ma 0), .int (iI mz), .ref (ma 1), .ref (ma 2), .int (iI mls), .int (iI mfp), .int (iI mfm), .ref (ma 3), .int (iI mtx), .ref (ma 4), .ref (ma 5), .int (iI mwd), .ref (ma 6), .ref (ma 7), .int (iI mak), .ref (ma 8), .ref (ma 9), .int (iI mli), .int (iI mlx), .ref (ma 10), .ref (ma 11), .int (iI mat), .int (iI mtk), .int (iI mtf), .int (iI mtt), .int (iI mfa), .int (iI mla), .int (iI mlp), .int (iI mdp), .ref (ma 12), .ref (ma 13), .int (iI msi), .int (iI (bI mdn)), .int (iI mpf), .int (iI mpt)])), (ma 1, .inl (kA 0, 4120, .inl (aI ca))), (ma 4, .inl (kA 0, 400, .inl (aI ctf))), (ma 5, .inl (kA 0, 400, .inl (aI ctt)))] H := by rw [eH]; exact hP
  have hS : va_S A s.heap H locs := by rw [eH, eL]; exact va_S.rf
  refine lv_aload_n hx hb d_M_isBefore_0 rfl (lv_at hl 0 rfl) ?_
  refine gf_M_291 hx hb hts hown hK hP 0 rfl rfl d_M_isBefore_1 ?_
  refine li_if_ge (tgt := 18) hx hb d_M_isBefore_4 (by decide) (by omega) (fun c1 => ?_) (fun c1 => ?_)
  · have _q := c1
    refine lv_aload_n hx hb d_M_isBefore_18 rfl (lv_at hl 0 rfl) ?_
    refine lv_iload_n hx hb d_M_isBefore_19 rfl (lv_at hl 1 rfl) ?_
    refine li_callw (wc := [(mo, .inr (10, [.int (iI mrf), .ref (ma 0), .int (iI mz), .ref (ma 1), .ref (ma 2), .int (iI mls), .int (iI mfp), .int (iI mfm), .ref (ma 3), .int (iI mtx), .ref (ma 4), .ref (ma 5), .int (iI mwd), .ref (ma 6), .ref (ma 7), .int (iI mak), .ref (ma 8), .ref (ma 9), .int (iI mli), .int (iI mlx), .ref (ma 10), .ref (ma 11), .int (iI mat), .int (iI mtk), .int (iI mtf), .int (iI mtt), .int (iI mfa), .int (iI mla), .int (iI mlp), .int (iI mdp), .ref (ma 12), .ref (ma 13), .int (iI msi), .int (iI (bI mdn)), .int (iI mpf), .int (iI mpt)])), (ma 1, .inl (kA 0, 4120, .inl (aI ca))), (ma 4, .inl (kA 0, 400, .inl (aI ctf))), (ma 5, .inl (kA 0, 400, .inl (aI ctt)))]) (wr := []) (va_runV (As := [.int (iI r)]) (rest := []) ⟨hx, hb, hml, hown, hts⟩ (c_M_hasKey l dC dI kA H.size mo ma mrf mz mls mfp mfm mtx mwd mak mli mlx mat mtk mtf mtt mfa mla mlp mdp msi mpf mpt mdn ca ctf ctt r rn (by exact hca) (by omega) (by exact hRA) (by exact hsi)) (cw_M_311 hts rfl rfl ⟨Nat.le_of_ble_eq_true rfl, Nat.le_of_ble_eq_true rfl⟩) (li_preV (va_recv hK hP (ci := 10) (q0 := 0) rfl rfl) ⟨rfl, hP.sub [0, 1, 2, 3] rfl, (hD.sub [0, 1, 2, 3] (by decide) rfl).weaken (fun _ _ _ h => hAN _ h), trivial⟩ hK hN (hG.go hS hAN)) rfl rfl hl.1 rfl (lv_room (Nat.le_of_ble_eq_true rfl)) d_M_isBefore_20 ⟨(by show 0 + 0 ≤ 0; omega), (by show 0 + 0 ≤ 0; omega)⟩) hP hD hS hA [0, 1, 2, 3] [] rfl rfl (by decide) (by decide) (fun u2 H locs hu2 hP hD hS _hk => ?_)
    obtain ⟨n93, f94, g95⟩ := u2
    have hP : va_P (dC, dI) CL [(mo, .inr (10, [.int (iI mrf), .ref (ma 0), .int (iI mz), .ref (ma 1), .ref (ma 2), .int (iI mls), .int (iI mfp), .int (iI mfm), .ref (ma 3), .int (iI n93), .ref (ma 4), .ref (ma 5), .int (iI mwd), .ref (ma 6), .ref (ma 7), .int (iI mak), .ref (ma 8), .ref (ma 9), .int (iI mli), .int (iI mlx), .ref (ma 10), .ref (ma 11), .int (iI mat), .int (iI mtk), .int (iI mtf), .int (iI mtt), .int (iI mfa), .int (iI mla), .int (iI mlp), .int (iI mdp), .ref (ma 12), .ref (ma 13), .int (iI msi), .int (iI (bI mdn)), .int (iI mpf), .int (iI mpt)])), (ma 1, .inl (kA 0, 4120, .inl (aI ca))), (ma 4, .inl (kA 0, 400, .inl (aI f94))), (ma 5, .inl (kA 0, 400, .inl (aI g95)))] H := hP
    have hD : va_D A [(mo, .inr (10, [.int (iI mrf), .ref (ma 0), .int (iI mz), .ref (ma 1), .ref (ma 2), .int (iI mls), .int (iI mfp), .int (iI mfm), .ref (ma 3), .int (iI n93), .ref (ma 4), .ref (ma 5), .int (iI mwd), .ref (ma 6), .ref (ma 7), .int (iI mak), .ref (ma 8), .ref (ma 9), .int (iI mli), .int (iI mlx), .ref (ma 10), .ref (ma 11), .int (iI mat), .int (iI mtk), .int (iI mtf), .int (iI mtt), .int (iI mfa), .int (iI mla), .int (iI mlp), .int (iI mdp), .ref (ma 12), .ref (ma 13), .int (iI msi), .int (iI (bI mdn)), .int (iI mpf), .int (iI mpt)])), (ma 1, .inl (kA 0, 4120, .inl (aI ca))), (ma 4, .inl (kA 0, 400, .inl (aI f94))), (ma 5, .inl (kA 0, 400, .inl (aI g95)))] := hD
    refine W.eq (g2 := F0 m 23 ls [.int (iI (bI (hkM ca msi r)))]) rfl ?_
    refine lv_istore_n (lv' := [(3, .int (iI (bI (hkM ca msi r)))), (0, .ref mo), (1, .int (iI r)), (2, .int (iI r2))]) hx hb d_M_isBefore_23 rfl hl (by decide) rfl (fun ls hl => ?_)
    refine lv_aload_n hx hb d_M_isBefore_24 rfl (lv_at hl 1 rfl) ?_
    refine lv_iload_n hx hb d_M_isBefore_25 rfl (lv_at hl 3 rfl) ?_
    refine li_callw (wc := [(mo, .inr (10, [.int (iI mrf), .ref (ma 0), .int (iI mz), .ref (ma 1), .ref (ma 2), .int (iI mls), .int (iI mfp), .int (iI mfm), .ref (ma 3), .int (iI n93), .ref (ma 4), .ref (ma 5), .int (iI mwd), .ref (ma 6), .ref (ma 7), .int (iI mak), .ref (ma 8), .ref (ma 9), .int (iI mli), .int (iI mlx), .ref (ma 10), .ref (ma 11), .int (iI mat), .int (iI mtk), .int (iI mtf), .int (iI mtt), .int (iI mfa), .int (iI mla), .int (iI mlp), .int (iI mdp), .ref (ma 12), .ref (ma 13), .int (iI msi), .int (iI (bI mdn)), .int (iI mpf), .int (iI mpt)])), (ma 1, .inl (kA 0, 4120, .inl (aI ca))), (ma 4, .inl (kA 0, 400, .inl (aI f94))), (ma 5, .inl (kA 0, 400, .inl (aI g95)))]) (wr := []) (va_runV (As := [.int (iI r2)]) (rest := []) ⟨hx, hb, hml, hown, hts⟩ (c_M_hasKey l dC dI kA H.size mo ma mrf mz mls mfp mfm n93 mwd mak mli mlx mat mtk mtf mtt mfa mla mlp mdp msi mpf mpt mdn ca f94 g95 r2 rm (by exact hca) (by omega) (by exact hRB) (by exact hsi)) (cw_M_311 hts rfl rfl ⟨Nat.le_of_ble_eq_true rfl, Nat.le_of_ble_eq_true rfl⟩) (li_preV (va_recv hK hP (ci := 10) (q0 := 0) rfl rfl) ⟨rfl, hP.sub [0, 1, 2, 3] rfl, (hD.sub [0, 1, 2, 3] (by decide) rfl).weaken (fun _ _ _ h => hAN _ h), trivial⟩ hK hN (hG.go hS hAN)) rfl rfl hl.1 rfl (lv_room (Nat.le_of_ble_eq_true rfl)) d_M_isBefore_26 ⟨(by show 0 + 0 ≤ 0; omega), (by show 0 + 0 ≤ 0; omega)⟩) hP hD hS hA [0, 1, 2, 3] [] rfl rfl (by decide) (by decide) (fun u6 H locs hu6 hP hD hS _hk => ?_)
    obtain ⟨n97, f98, g99⟩ := u6
    have hP : va_P (dC, dI) CL [(mo, .inr (10, [.int (iI mrf), .ref (ma 0), .int (iI mz), .ref (ma 1), .ref (ma 2), .int (iI mls), .int (iI mfp), .int (iI mfm), .ref (ma 3), .int (iI n97), .ref (ma 4), .ref (ma 5), .int (iI mwd), .ref (ma 6), .ref (ma 7), .int (iI mak), .ref (ma 8), .ref (ma 9), .int (iI mli), .int (iI mlx), .ref (ma 10), .ref (ma 11), .int (iI mat), .int (iI mtk), .int (iI mtf), .int (iI mtt), .int (iI mfa), .int (iI mla), .int (iI mlp), .int (iI mdp), .ref (ma 12), .ref (ma 13), .int (iI msi), .int (iI (bI mdn)), .int (iI mpf), .int (iI mpt)])), (ma 1, .inl (kA 0, 4120, .inl (aI ca))), (ma 4, .inl (kA 0, 400, .inl (aI f98))), (ma 5, .inl (kA 0, 400, .inl (aI g99)))] H := hP
    have hD : va_D A [(mo, .inr (10, [.int (iI mrf), .ref (ma 0), .int (iI mz), .ref (ma 1), .ref (ma 2), .int (iI mls), .int (iI mfp), .int (iI mfm), .ref (ma 3), .int (iI n97), .ref (ma 4), .ref (ma 5), .int (iI mwd), .ref (ma 6), .ref (ma 7), .int (iI mak), .ref (ma 8), .ref (ma 9), .int (iI mli), .int (iI mlx), .ref (ma 10), .ref (ma 11), .int (iI mat), .int (iI mtk), .int (iI mtf), .int (iI mtt), .int (iI mfa), .int (iI mla), .int (iI mlp), .int (iI mdp), .ref (ma 12), .ref (ma 13), .int (iI msi), .int (iI (bI mdn)), .int (iI mpf), .int (iI mpt)])), (ma 1, .inl (kA 0, 4120, .inl (aI ca))), (ma 4, .inl (kA 0, 400, .inl (aI f98))), (ma 5, .inl (kA 0, 400, .inl (aI g99)))] := hD
    refine W.eq (g2 := F0 m 29 ls [.int (iI (bI (hkM ca msi r2)))]) rfl ?_
    refine lv_istore (lv' := [(4, .int (iI (bI (hkM ca msi r2)))), (3, .int (iI (bI (hkM ca msi r)))), (0, .ref mo), (1, .int (iI r)), (2, .int (iI r2))]) hx hb d_M_isBefore_29 hl (by decide) rfl (fun ls hl => ?_)
    refine lv_iload_n hx hb d_M_isBefore_31 rfl (lv_at hl 1 rfl) ?_
    refine lv_iload hx hb d_M_isBefore_32 (lv_at hl 0 rfl) ?_
    refine li_icmp_eq (tgt := 39) hx hb d_M_isBefore_34 (by decide) (by exact bI_r _) (by exact bI_r _) (fun c10 => ?_) (fun c10 => ?_)
    · have _q := c10
      have hkq := bI_inj (show bI (hkM ca msi r) = bI (hkM ca msi r2) by assumption)
      refine lv_iload_n hx hb d_M_isBefore_39 rfl (lv_at hl 1 rfl) ?_
      refine li_bz (tgt := 52) hx hb d_M_isBefore_40 (by decide) (fun c11 => ?_) (fun c11 => ?_)
      · have _q := c11
        refine lv_iconst (v := iI 0) hx hb d_M_isBefore_52 rfl ?_
        refine li_nm (fun cv ecv => ?_)
        refine lv_istore (lv' := [(5, .int (iI cv)), (4, .int (iI (bI (hkM ca msi r2)))), (3, .int (iI (bI (hkM ca msi r)))), (0, .ref mo), (1, .int (iI r)), (2, .int (iI r2))]) hx hb d_M_isBefore_53 hl (by decide) rfl (fun ls hl => ?_)
        have hcv : -2000000 ≤ cv ∧ cv ≤ 2000000 := by first | omega | (rw [ecv]; exact ctM_r hca hla hlb (hk_len (by assumption)) (hk_len (by rw [← hkq]; assumption)))
        refine lv_iload hx hb d_M_isBefore_55 (lv_at hl 0 rfl) ?_
        refine li_if_ne (tgt := 73) hx hb d_M_isBefore_57 (by decide) (by omega) (fun c12 => ?_) (fun c12 => ?_)
        · have _q := c12
          refine lv_aload_n hx hb d_M_isBefore_73 rfl (lv_at hl 3 rfl) ?_
          refine gf_M_294 hx hb hts hown hK hP 0 rfl rfl d_M_isBefore_74 ?_
          refine li_bz (tgt := 93) hx hb d_M_isBefore_77 (by decide) (fun c13 => ?_) (fun c13 => ?_)
          · have _q := c13
            refine lv_iload hx hb d_M_isBefore_93 (lv_at hl 0 rfl) ?_
            refine li_if_ge (tgt := 102) hx hb d_M_isBefore_95 (by decide) (by omega) (fun c14 => ?_) (fun c14 => ?_)
            · have _q := c14
              refine lv_iconst (v := iI 0) hx hb d_M_isBefore_102 rfl ?_
              exact fin (n97, f98, g99) _ _ _ _ _ (by unfold ibM; rw [if_neg (by omega), if_pos hkq]; first | (rw [if_pos (show hkM ca msi r = true by assumption), ← ecv]; unfold ibC; first | (rw [if_pos (by omega)]; first | exact bI_t (decide_eq_true (by omega)) | exact bI_f (decide_eq_false (by omega))) | (rw [if_neg (by omega), if_pos (by assumption)]; first | exact bI_t (decide_eq_true (by omega)) | exact bI_f (decide_eq_false (by omega))) | (rw [if_neg (by omega), if_neg (nbt (by assumption))]; first | exact bI_t (decide_eq_true (by omega)) | exact bI_f (decide_eq_false (by omega)))) | (rw [if_neg (nbt (by assumption))]; unfold ibC; rw [if_pos rfl]; first | exact bI_t (decide_eq_true (by omega)) | exact bI_f (decide_eq_false (by omega)))) (by trivial) (by first | exact hP | (subst_vars; exact hP)) (by first | exact hD | (subst_vars; exact hD)) hS d_M_isBefore_103
            · have _q := c14
              refine lv_iconst (v := iI 1) hx hb d_M_isBefore_98 rfl ?_
              refine lv_goto (tgt := 103) hx hb d_M_isBefore_99 (by decide) ?_
              exact fin (n97, f98, g99) _ _ _ _ _ (by unfold ibM; rw [if_neg (by omega), if_pos hkq]; first | (rw [if_pos (show hkM ca msi r = true by assumption), ← ecv]; unfold ibC; first | (rw [if_pos (by omega)]; first | exact bI_t (decide_eq_true (by omega)) | exact bI_f (decide_eq_false (by omega))) | (rw [if_neg (by omega), if_pos (by assumption)]; first | exact bI_t (decide_eq_true (by omega)) | exact bI_f (decide_eq_false (by omega))) | (rw [if_neg (by omega), if_neg (nbt (by assumption))]; first | exact bI_t (decide_eq_true (by omega)) | exact bI_f (decide_eq_false (by omega)))) | (rw [if_neg (nbt (by assumption))]; unfold ibC; rw [if_pos rfl]; first | exact bI_t (decide_eq_true (by omega)) | exact bI_f (decide_eq_false (by omega)))) (by trivial) (by first | exact hP | (subst_vars; exact hP)) (by first | exact hD | (subst_vars; exact hD)) hS d_M_isBefore_103
          · have _q := c13
            refine lv_iload hx hb d_M_isBefore_80 (lv_at hl 0 rfl) ?_
            refine li_if_le (tgt := 89) hx hb d_M_isBefore_82 (by decide) (by omega) (fun c15 => ?_) (fun c15 => ?_)
            · have _q := c15
              refine lv_iconst (v := iI 0) hx hb d_M_isBefore_89 rfl ?_
              refine lv_goto (tgt := 103) hx hb d_M_isBefore_90 (by decide) ?_
              exact fin (n97, f98, g99) _ _ _ _ _ (by unfold ibM; rw [if_neg (by omega), if_pos hkq]; first | (rw [if_pos (show hkM ca msi r = true by assumption), ← ecv]; unfold ibC; first | (rw [if_pos (by omega)]; first | exact bI_t (decide_eq_true (by omega)) | exact bI_f (decide_eq_false (by omega))) | (rw [if_neg (by omega), if_pos (by assumption)]; first | exact bI_t (decide_eq_true (by omega)) | exact bI_f (decide_eq_false (by omega))) | (rw [if_neg (by omega), if_neg (nbt (by assumption))]; first | exact bI_t (decide_eq_true (by omega)) | exact bI_f (decide_eq_false (by omega)))) | (rw [if_neg (nbt (by assumption))]; unfold ibC; rw [if_pos rfl]; first | exact bI_t (decide_eq_true (by omega)) | exact bI_f (decide_eq_false (by omega)))) (by trivial) (by first | exact hP | (subst_vars; exact hP)) (by first | exact hD | (subst_vars; exact hD)) hS d_M_isBefore_103
            · have _q := c15
              refine lv_iconst (v := iI 1) hx hb d_M_isBefore_85 rfl ?_
              refine lv_goto (tgt := 103) hx hb d_M_isBefore_86 (by decide) ?_
              exact fin (n97, f98, g99) _ _ _ _ _ (by unfold ibM; rw [if_neg (by omega), if_pos hkq]; first | (rw [if_pos (show hkM ca msi r = true by assumption), ← ecv]; unfold ibC; first | (rw [if_pos (by omega)]; first | exact bI_t (decide_eq_true (by omega)) | exact bI_f (decide_eq_false (by omega))) | (rw [if_neg (by omega), if_pos (by assumption)]; first | exact bI_t (decide_eq_true (by omega)) | exact bI_f (decide_eq_false (by omega))) | (rw [if_neg (by omega), if_neg (nbt (by assumption))]; first | exact bI_t (decide_eq_true (by omega)) | exact bI_f (decide_eq_false (by omega)))) | (rw [if_neg (nbt (by assumption))]; unfold ibC; rw [if_pos rfl]; first | exact bI_t (decide_eq_true (by omega)) | exact bI_f (decide_eq_false (by omega)))) (by trivial) (by first | exact hP | (subst_vars; exact hP)) (by first | exact hD | (subst_vars; exact hD)) hS d_M_isBefore_103
        · have _q := c12
          refine lv_iload_n hx hb d_M_isBefore_60 rfl (lv_at hl 4 rfl) ?_
          refine lv_iload_n hx hb d_M_isBefore_61 rfl (lv_at hl 5 rfl) ?_
          refine li_icmp_ge (tgt := 69) hx hb d_M_isBefore_62 (by decide) (by omega) (by omega) (fun c16 => ?_) (fun c16 => ?_)
          · have _q := c16
            refine lv_iconst (v := iI 0) hx hb d_M_isBefore_69 rfl ?_
            refine lv_goto (tgt := 103) hx hb d_M_isBefore_70 (by decide) ?_
            exact fin (n97, f98, g99) _ _ _ _ _ (by unfold ibM; rw [if_neg (by omega), if_pos hkq]; first | (rw [if_pos (show hkM ca msi r = true by assumption), ← ecv]; unfold ibC; first | (rw [if_pos (by omega)]; first | exact bI_t (decide_eq_true (by omega)) | exact bI_f (decide_eq_false (by omega))) | (rw [if_neg (by omega), if_pos (by assumption)]; first | exact bI_t (decide_eq_true (by omega)) | exact bI_f (decide_eq_false (by omega))) | (rw [if_neg (by omega), if_neg (nbt (by assumption))]; first | exact bI_t (decide_eq_true (by omega)) | exact bI_f (decide_eq_false (by omega)))) | (rw [if_neg (nbt (by assumption))]; unfold ibC; rw [if_pos rfl]; first | exact bI_t (decide_eq_true (by omega)) | exact bI_f (decide_eq_false (by omega)))) (by trivial) (by first | exact hP | (subst_vars; exact hP)) (by first | exact hD | (subst_vars; exact hD)) hS d_M_isBefore_103
          · have _q := c16
            refine lv_iconst (v := iI 1) hx hb d_M_isBefore_65 rfl ?_
            refine lv_goto (tgt := 103) hx hb d_M_isBefore_66 (by decide) ?_
            exact fin (n97, f98, g99) _ _ _ _ _ (by unfold ibM; rw [if_neg (by omega), if_pos hkq]; first | (rw [if_pos (show hkM ca msi r = true by assumption), ← ecv]; unfold ibC; first | (rw [if_pos (by omega)]; first | exact bI_t (decide_eq_true (by omega)) | exact bI_f (decide_eq_false (by omega))) | (rw [if_neg (by omega), if_pos (by assumption)]; first | exact bI_t (decide_eq_true (by omega)) | exact bI_f (decide_eq_false (by omega))) | (rw [if_neg (by omega), if_neg (nbt (by assumption))]; first | exact bI_t (decide_eq_true (by omega)) | exact bI_f (decide_eq_false (by omega)))) | (rw [if_neg (nbt (by assumption))]; unfold ibC; rw [if_pos rfl]; first | exact bI_t (decide_eq_true (by omega)) | exact bI_f (decide_eq_false (by omega)))) (by trivial) (by first | exact hP | (subst_vars; exact hP)) (by first | exact hD | (subst_vars; exact hD)) hS d_M_isBefore_103
      · have _q := c11
        refine lv_aload_n hx hb d_M_isBefore_43 rfl (lv_at hl 2 rfl) ?_
        refine lv_iload_n hx hb d_M_isBefore_44 rfl (lv_at hl 3 rfl) ?_
        refine lv_iload_n hx hb d_M_isBefore_45 rfl (lv_at hl 4 rfl) ?_
        refine li_callw (wc := [(mo, .inr (10, [.int (iI mrf), .ref (ma 0), .int (iI mz), .ref (ma 1), .ref (ma 2), .int (iI mls), .int (iI mfp), .int (iI mfm), .ref (ma 3), .int (iI n97), .ref (ma 4), .ref (ma 5), .int (iI mwd), .ref (ma 6), .ref (ma 7), .int (iI mak), .ref (ma 8), .ref (ma 9), .int (iI mli), .int (iI mlx), .ref (ma 10), .ref (ma 11), .int (iI mat), .int (iI mtk), .int (iI mtf), .int (iI mtt), .int (iI mfa), .int (iI mla), .int (iI mlp), .int (iI mdp), .ref (ma 12), .ref (ma 13), .int (iI msi), .int (iI (bI mdn)), .int (iI mpf), .int (iI mpt)])), (ma 1, .inl (kA 0, 4120, .inl (aI ca))), (ma 4, .inl (kA 0, 400, .inl (aI f98))), (ma 5, .inl (kA 0, 400, .inl (aI g99)))]) (wr := []) (va_runV (As := [.int (iI r), .int (iI r2)]) (rest := []) ⟨hx, hb, hml, hown, hts⟩ (c_M_compareTexts l dC dI kA H.size mo ma mrf mz mls mfp mfm n97 mwd mak mli mlx mat mtk mtf mtt mfa mla mlp mdp msi mpf mpt mdn ca f98 g99 r r2 rn rm (by exact hca) (by exact hab) (by exact hRA) (by exact hRB) (by exact hsi) (by assumption) (by rw [← hkq]; assumption)) (cw_M_314 hts rfl rfl ⟨Nat.le_of_ble_eq_true rfl, Nat.le_of_ble_eq_true rfl⟩) (li_preV (va_recv hK hP (ci := 10) (q0 := 0) rfl rfl) ⟨rfl, hP.sub [0, 1, 2, 3] rfl, (hD.sub [0, 1, 2, 3] (by decide) rfl).weaken (fun _ _ _ h => hAN _ h), trivial⟩ hK hN (hG.go hS hAN)) rfl rfl hl.1 rfl (lv_room (Nat.le_of_ble_eq_true rfl)) d_M_isBefore_46 ⟨(by show 0 + 0 ≤ 0; omega), (by show 0 + 0 ≤ 0; omega)⟩) hP hD hS hA [0, 1, 2, 3] [] rfl rfl (by decide) (by decide) (fun u17 H locs hu17 hP hD hS _hk => ?_)
        obtain ⟨n918, f919, g920⟩ := u17
        have hP : va_P (dC, dI) CL [(mo, .inr (10, [.int (iI mrf), .ref (ma 0), .int (iI mz), .ref (ma 1), .ref (ma 2), .int (iI mls), .int (iI mfp), .int (iI mfm), .ref (ma 3), .int (iI n918), .ref (ma 4), .ref (ma 5), .int (iI mwd), .ref (ma 6), .ref (ma 7), .int (iI mak), .ref (ma 8), .ref (ma 9), .int (iI mli), .int (iI mlx), .ref (ma 10), .ref (ma 11), .int (iI mat), .int (iI mtk), .int (iI mtf), .int (iI mtt), .int (iI mfa), .int (iI mla), .int (iI mlp), .int (iI mdp), .ref (ma 12), .ref (ma 13), .int (iI msi), .int (iI (bI mdn)), .int (iI mpf), .int (iI mpt)])), (ma 1, .inl (kA 0, 4120, .inl (aI ca))), (ma 4, .inl (kA 0, 400, .inl (aI f919))), (ma 5, .inl (kA 0, 400, .inl (aI g920)))] H := hP
        have hD : va_D A [(mo, .inr (10, [.int (iI mrf), .ref (ma 0), .int (iI mz), .ref (ma 1), .ref (ma 2), .int (iI mls), .int (iI mfp), .int (iI mfm), .ref (ma 3), .int (iI n918), .ref (ma 4), .ref (ma 5), .int (iI mwd), .ref (ma 6), .ref (ma 7), .int (iI mak), .ref (ma 8), .ref (ma 9), .int (iI mli), .int (iI mlx), .ref (ma 10), .ref (ma 11), .int (iI mat), .int (iI mtk), .int (iI mtf), .int (iI mtt), .int (iI mfa), .int (iI mla), .int (iI mlp), .int (iI mdp), .ref (ma 12), .ref (ma 13), .int (iI msi), .int (iI (bI mdn)), .int (iI mpf), .int (iI mpt)])), (ma 1, .inl (kA 0, 4120, .inl (aI ca))), (ma 4, .inl (kA 0, 400, .inl (aI f919))), (ma 5, .inl (kA 0, 400, .inl (aI g920)))] := hD
        refine W.eq (g2 := F0 m 49 ls [.int (iI (ctM ca msi r r2))]) rfl ?_
        refine lv_goto (tgt := 53) hx hb d_M_isBefore_49 (by decide) ?_
        refine li_nm (fun cv ecv => ?_)
        refine lv_istore (lv' := [(5, .int (iI cv)), (4, .int (iI (bI (hkM ca msi r2)))), (3, .int (iI (bI (hkM ca msi r)))), (0, .ref mo), (1, .int (iI r)), (2, .int (iI r2))]) hx hb d_M_isBefore_53 hl (by decide) rfl (fun ls hl => ?_)
        have hcv : -2000000 ≤ cv ∧ cv ≤ 2000000 := by first | omega | (rw [ecv]; exact ctM_r hca hla hlb (hk_len (by assumption)) (hk_len (by rw [← hkq]; assumption)))
        refine lv_iload hx hb d_M_isBefore_55 (lv_at hl 0 rfl) ?_
        refine li_if_ne (tgt := 73) hx hb d_M_isBefore_57 (by decide) (by omega) (fun c21 => ?_) (fun c21 => ?_)
        · have _q := c21
          refine lv_aload_n hx hb d_M_isBefore_73 rfl (lv_at hl 3 rfl) ?_
          refine gf_M_294 hx hb hts hown hK hP 0 rfl rfl d_M_isBefore_74 ?_
          refine li_bz (tgt := 93) hx hb d_M_isBefore_77 (by decide) (fun c22 => ?_) (fun c22 => ?_)
          · have _q := c22
            refine lv_iload hx hb d_M_isBefore_93 (lv_at hl 0 rfl) ?_
            refine li_if_ge (tgt := 102) hx hb d_M_isBefore_95 (by decide) (by omega) (fun c23 => ?_) (fun c23 => ?_)
            · have _q := c23
              refine lv_iconst (v := iI 0) hx hb d_M_isBefore_102 rfl ?_
              exact fin (n918, f919, g920) _ _ _ _ _ (by unfold ibM; rw [if_neg (by omega), if_pos hkq]; first | (rw [if_pos (show hkM ca msi r = true by assumption), ← ecv]; unfold ibC; first | (rw [if_pos (by omega)]; first | exact bI_t (decide_eq_true (by omega)) | exact bI_f (decide_eq_false (by omega))) | (rw [if_neg (by omega), if_pos (by assumption)]; first | exact bI_t (decide_eq_true (by omega)) | exact bI_f (decide_eq_false (by omega))) | (rw [if_neg (by omega), if_neg (nbt (by assumption))]; first | exact bI_t (decide_eq_true (by omega)) | exact bI_f (decide_eq_false (by omega)))) | (rw [if_neg (nbt (by assumption))]; unfold ibC; rw [if_pos rfl]; first | exact bI_t (decide_eq_true (by omega)) | exact bI_f (decide_eq_false (by omega)))) (by trivial) (by first | exact hP | (subst_vars; exact hP)) (by first | exact hD | (subst_vars; exact hD)) hS d_M_isBefore_103
            · have _q := c23
              refine lv_iconst (v := iI 1) hx hb d_M_isBefore_98 rfl ?_
              refine lv_goto (tgt := 103) hx hb d_M_isBefore_99 (by decide) ?_
              exact fin (n918, f919, g920) _ _ _ _ _ (by unfold ibM; rw [if_neg (by omega), if_pos hkq]; first | (rw [if_pos (show hkM ca msi r = true by assumption), ← ecv]; unfold ibC; first | (rw [if_pos (by omega)]; first | exact bI_t (decide_eq_true (by omega)) | exact bI_f (decide_eq_false (by omega))) | (rw [if_neg (by omega), if_pos (by assumption)]; first | exact bI_t (decide_eq_true (by omega)) | exact bI_f (decide_eq_false (by omega))) | (rw [if_neg (by omega), if_neg (nbt (by assumption))]; first | exact bI_t (decide_eq_true (by omega)) | exact bI_f (decide_eq_false (by omega)))) | (rw [if_neg (nbt (by assumption))]; unfold ibC; rw [if_pos rfl]; first | exact bI_t (decide_eq_true (by omega)) | exact bI_f (decide_eq_false (by omega)))) (by trivial) (by first | exact hP | (subst_vars; exact hP)) (by first | exact hD | (subst_vars; exact hD)) hS d_M_isBefore_103
          · have _q := c22
            refine lv_iload hx hb d_M_isBefore_80 (lv_at hl 0 rfl) ?_
            refine li_if_le (tgt := 89) hx hb d_M_isBefore_82 (by decide) (by omega) (fun c24 => ?_) (fun c24 => ?_)
            · have _q := c24
              refine lv_iconst (v := iI 0) hx hb d_M_isBefore_89 rfl ?_
              refine lv_goto (tgt := 103) hx hb d_M_isBefore_90 (by decide) ?_
              exact fin (n918, f919, g920) _ _ _ _ _ (by unfold ibM; rw [if_neg (by omega), if_pos hkq]; first | (rw [if_pos (show hkM ca msi r = true by assumption), ← ecv]; unfold ibC; first | (rw [if_pos (by omega)]; first | exact bI_t (decide_eq_true (by omega)) | exact bI_f (decide_eq_false (by omega))) | (rw [if_neg (by omega), if_pos (by assumption)]; first | exact bI_t (decide_eq_true (by omega)) | exact bI_f (decide_eq_false (by omega))) | (rw [if_neg (by omega), if_neg (nbt (by assumption))]; first | exact bI_t (decide_eq_true (by omega)) | exact bI_f (decide_eq_false (by omega)))) | (rw [if_neg (nbt (by assumption))]; unfold ibC; rw [if_pos rfl]; first | exact bI_t (decide_eq_true (by omega)) | exact bI_f (decide_eq_false (by omega)))) (by trivial) (by first | exact hP | (subst_vars; exact hP)) (by first | exact hD | (subst_vars; exact hD)) hS d_M_isBefore_103
            · have _q := c24
              refine lv_iconst (v := iI 1) hx hb d_M_isBefore_85 rfl ?_
              refine lv_goto (tgt := 103) hx hb d_M_isBefore_86 (by decide) ?_
              exact fin (n918, f919, g920) _ _ _ _ _ (by unfold ibM; rw [if_neg (by omega), if_pos hkq]; first | (rw [if_pos (show hkM ca msi r = true by assumption), ← ecv]; unfold ibC; first | (rw [if_pos (by omega)]; first | exact bI_t (decide_eq_true (by omega)) | exact bI_f (decide_eq_false (by omega))) | (rw [if_neg (by omega), if_pos (by assumption)]; first | exact bI_t (decide_eq_true (by omega)) | exact bI_f (decide_eq_false (by omega))) | (rw [if_neg (by omega), if_neg (nbt (by assumption))]; first | exact bI_t (decide_eq_true (by omega)) | exact bI_f (decide_eq_false (by omega)))) | (rw [if_neg (nbt (by assumption))]; unfold ibC; rw [if_pos rfl]; first | exact bI_t (decide_eq_true (by omega)) | exact bI_f (decide_eq_false (by omega)))) (by trivial) (by first | exact hP | (subst_vars; exact hP)) (by first | exact hD | (subst_vars; exact hD)) hS d_M_isBefore_103
        · have _q := c21
          refine lv_iload_n hx hb d_M_isBefore_60 rfl (lv_at hl 4 rfl) ?_
          refine lv_iload_n hx hb d_M_isBefore_61 rfl (lv_at hl 5 rfl) ?_
          refine li_icmp_ge (tgt := 69) hx hb d_M_isBefore_62 (by decide) (by omega) (by omega) (fun c25 => ?_) (fun c25 => ?_)
          · have _q := c25
            refine lv_iconst (v := iI 0) hx hb d_M_isBefore_69 rfl ?_
            refine lv_goto (tgt := 103) hx hb d_M_isBefore_70 (by decide) ?_
            exact fin (n918, f919, g920) _ _ _ _ _ (by unfold ibM; rw [if_neg (by omega), if_pos hkq]; first | (rw [if_pos (show hkM ca msi r = true by assumption), ← ecv]; unfold ibC; first | (rw [if_pos (by omega)]; first | exact bI_t (decide_eq_true (by omega)) | exact bI_f (decide_eq_false (by omega))) | (rw [if_neg (by omega), if_pos (by assumption)]; first | exact bI_t (decide_eq_true (by omega)) | exact bI_f (decide_eq_false (by omega))) | (rw [if_neg (by omega), if_neg (nbt (by assumption))]; first | exact bI_t (decide_eq_true (by omega)) | exact bI_f (decide_eq_false (by omega)))) | (rw [if_neg (nbt (by assumption))]; unfold ibC; rw [if_pos rfl]; first | exact bI_t (decide_eq_true (by omega)) | exact bI_f (decide_eq_false (by omega)))) (by trivial) (by first | exact hP | (subst_vars; exact hP)) (by first | exact hD | (subst_vars; exact hD)) hS d_M_isBefore_103
          · have _q := c25
            refine lv_iconst (v := iI 1) hx hb d_M_isBefore_65 rfl ?_
            refine lv_goto (tgt := 103) hx hb d_M_isBefore_66 (by decide) ?_
            exact fin (n918, f919, g920) _ _ _ _ _ (by unfold ibM; rw [if_neg (by omega), if_pos hkq]; first | (rw [if_pos (show hkM ca msi r = true by assumption), ← ecv]; unfold ibC; first | (rw [if_pos (by omega)]; first | exact bI_t (decide_eq_true (by omega)) | exact bI_f (decide_eq_false (by omega))) | (rw [if_neg (by omega), if_pos (by assumption)]; first | exact bI_t (decide_eq_true (by omega)) | exact bI_f (decide_eq_false (by omega))) | (rw [if_neg (by omega), if_neg (nbt (by assumption))]; first | exact bI_t (decide_eq_true (by omega)) | exact bI_f (decide_eq_false (by omega)))) | (rw [if_neg (nbt (by assumption))]; unfold ibC; rw [if_pos rfl]; first | exact bI_t (decide_eq_true (by omega)) | exact bI_f (decide_eq_false (by omega)))) (by trivial) (by first | exact hP | (subst_vars; exact hP)) (by first | exact hD | (subst_vars; exact hD)) hS d_M_isBefore_103
    · have _q := c10
      refine lv_iload_n hx hb d_M_isBefore_37 rfl (lv_at hl 1 rfl) ?_
      exact fin (n97, f98, g99) _ _ _ _ _ (by unfold ibM; rw [if_neg (by omega), if_neg (fun h8 => absurd (congrArg bI h8) (by assumption))]) (by trivial) (by first | exact hP | (subst_vars; exact hP)) (by first | exact hD | (subst_vars; exact hD)) hS d_M_isBefore_38
  · have _q := c1
    refine lv_iload_n hx hb d_M_isBefore_7 rfl (lv_at hl 1 rfl) ?_
    refine lv_iload_n hx hb d_M_isBefore_8 rfl (lv_at hl 2 rfl) ?_
    refine li_icmp_ge (tgt := 16) hx hb d_M_isBefore_9 (by decide) (by omega) (by omega) (fun c26 => ?_) (fun c26 => ?_)
    · have _q := c26
      refine lv_iconst (v := iI 0) hx hb d_M_isBefore_16 rfl ?_
      exact fin (mtx, ctf, ctt) _ _ _ _ _ (by unfold ibM; rw [if_pos (by omega)]; first | exact bI_t (decide_eq_true (by omega)) | exact bI_f (decide_eq_false (by omega))) (by trivial) (by first | exact hP | (subst_vars; exact hP)) (by first | exact hD | (subst_vars; exact hD)) hS d_M_isBefore_17
    · have _q := c26
      refine lv_iconst (v := iI 1) hx hb d_M_isBefore_12 rfl ?_
      refine lv_goto (tgt := 17) hx hb d_M_isBefore_13 (by decide) ?_
      exact fin (mtx, ctf, ctt) _ _ _ _ _ (by unfold ibM; rw [if_pos (by omega)]; first | exact bI_t (decide_eq_true (by omega)) | exact bI_f (decide_eq_false (by omega))) (by trivial) (by first | exact hP | (subst_vars; exact hP)) (by first | exact hD | (subst_vars; exact hD)) hS d_M_isBefore_17
theorem d_M_search_0 : decode b_M_search 0 = .ok (.aload_n 0, 1) := by decide +kernel
theorem d_M_search_1 : decode b_M_search 1 = .ok (.iconst 0, 1) := by decide +kernel
theorem d_M_search_2 : decode b_M_search 2 = .ok (.putfield 59, 3) := by decide +kernel
theorem d_M_search_5 : decode b_M_search 5 = .ok (.aload_n 0, 1) := by decide +kernel
theorem d_M_search_6 : decode b_M_search 6 = .ok (.iconst (-1), 1) := by decide +kernel
theorem d_M_search_7 : decode b_M_search 7 = .ok (.putfield 19, 3) := by decide +kernel
theorem d_M_search_10 : decode b_M_search 10 = .ok (.aload_n 0, 1) := by decide +kernel
theorem d_M_search_11 : decode b_M_search 11 = .ok (.iconst 0, 1) := by decide +kernel
theorem d_M_search_12 : decode b_M_search 12 = .ok (.putfield 224, 3) := by decide +kernel
theorem d_M_search_15 : decode b_M_search 15 = .ok (.aload_n 0, 1) := by decide +kernel
theorem d_M_search_16 : decode b_M_search 16 = .ok (.iconst 0, 1) := by decide +kernel
theorem d_M_search_17 : decode b_M_search 17 = .ok (.putfield 233, 3) := by decide +kernel
theorem d_M_search_20 : decode b_M_search 20 = .ok (.aload_n 0, 1) := by decide +kernel
theorem d_M_search_21 : decode b_M_search 21 = .ok (.sipush 4000, 3) := by decide +kernel
theorem d_M_search_24 : decode b_M_search 24 = .ok (.putfield 193, 3) := by decide +kernel
theorem d_M_search_27 : decode b_M_search 27 = .ok (.aload_n 0, 1) := by decide +kernel
theorem d_M_search_28 : decode b_M_search 28 = .ok (.invokevirtual 317, 3) := by decide +kernel
theorem d_M_search_31 : decode b_M_search 31 = .ok (.istore_n 1, 1) := by decide +kernel
theorem d_M_search_32 : decode b_M_search 32 = .ok (.aload_n 0, 1) := by decide +kernel
theorem d_M_search_33 : decode b_M_search 33 = .ok (.getfield 224, 3) := by decide +kernel
theorem d_M_search_36 : decode b_M_search 36 = .ok (.ifCond .eq 8, 3) := by decide +kernel
theorem d_M_search_39 : decode b_M_search 39 = .ok (.aload_n 0, 1) := by decide +kernel
theorem d_M_search_40 : decode b_M_search 40 = .ok (.getfield 224, 3) := by decide +kernel
theorem d_M_search_43 : decode b_M_search 43 = .ok (.ireturn, 1) := by decide +kernel
theorem d_M_search_44 : decode b_M_search 44 = .ok (.aload_n 0, 1) := by decide +kernel
theorem d_M_search_45 : decode b_M_search 45 = .ok (.getfield 233, 3) := by decide +kernel
theorem d_M_search_48 : decode b_M_search 48 = .ok (.ifCond .eq 16, 3) := by decide +kernel
theorem d_M_search_51 : decode b_M_search 51 = .ok (.aload_n 0, 1) := by decide +kernel
theorem d_M_search_52 : decode b_M_search 52 = .ok (.aload_n 0, 1) := by decide +kernel
theorem d_M_search_53 : decode b_M_search 53 = .ok (.getfield 233, 3) := by decide +kernel
theorem d_M_search_56 : decode b_M_search 56 = .ok (.aload_n 0, 1) := by decide +kernel
theorem d_M_search_57 : decode b_M_search 57 = .ok (.getfield 236, 3) := by decide +kernel
theorem d_M_search_60 : decode b_M_search 60 = .ok (.invokevirtual 86, 3) := by decide +kernel
theorem d_M_search_63 : decode b_M_search 63 = .ok (.ireturn, 1) := by decide +kernel
theorem d_M_search_64 : decode b_M_search 64 = .ok (.aload_n 0, 1) := by decide +kernel
theorem d_M_search_65 : decode b_M_search 65 = .ok (.iconst 0, 1) := by decide +kernel
theorem d_M_search_66 : decode b_M_search 66 = .ok (.putfield 107, 3) := by decide +kernel
theorem d_M_search_69 : decode b_M_search 69 = .ok (.iconst 0, 1) := by decide +kernel
theorem d_M_search_70 : decode b_M_search 70 = .ok (.istore_n 2, 1) := by decide +kernel
theorem d_M_search_71 : decode b_M_search 71 = .ok (.iload_n 2, 1) := by decide +kernel
theorem d_M_search_72 : decode b_M_search 72 = .ok (.bipush 10, 2) := by decide +kernel
theorem d_M_search_74 : decode b_M_search 74 = .ok (.if_icmp .ge 80, 3) := by decide +kernel
theorem d_M_search_77 : decode b_M_search 77 = .ok (.iload_n 1, 1) := by decide +kernel
theorem d_M_search_78 : decode b_M_search 78 = .ok (.iload_n 2, 1) := by decide +kernel
theorem d_M_search_79 : decode b_M_search 79 = .ok (.ishr, 1) := by decide +kernel
theorem d_M_search_80 : decode b_M_search 80 = .ok (.iconst 1, 1) := by decide +kernel
theorem d_M_search_81 : decode b_M_search 81 = .ok (.iand, 1) := by decide +kernel
theorem d_M_search_82 : decode b_M_search 82 = .ok (.iconst 1, 1) := by decide +kernel
theorem d_M_search_83 : decode b_M_search 83 = .ok (.if_icmp .ne 65, 3) := by decide +kernel
theorem d_M_search_86 : decode b_M_search 86 = .ok (.aload_n 0, 1) := by decide +kernel
theorem d_M_search_87 : decode b_M_search 87 = .ok (.getfield 107, 3) := by decide +kernel
theorem d_M_search_90 : decode b_M_search 90 = .ok (.istore_n 3, 1) := by decide +kernel
theorem d_M_search_91 : decode b_M_search 91 = .ok (.iload_n 3, 1) := by decide +kernel
theorem d_M_search_92 : decode b_M_search 92 = .ok (.ifCond .le 39, 3) := by decide +kernel
theorem d_M_search_95 : decode b_M_search 95 = .ok (.aload_n 0, 1) := by decide +kernel
theorem d_M_search_96 : decode b_M_search 96 = .ok (.iload_n 2, 1) := by decide +kernel
theorem d_M_search_97 : decode b_M_search 97 = .ok (.aload_n 0, 1) := by decide +kernel
theorem d_M_search_98 : decode b_M_search 98 = .ok (.getfield 23, 3) := by decide +kernel
theorem d_M_search_101 : decode b_M_search 101 = .ok (.iload_n 3, 1) := by decide +kernel
theorem d_M_search_102 : decode b_M_search 102 = .ok (.iconst 1, 1) := by decide +kernel
theorem d_M_search_103 : decode b_M_search 103 = .ok (.isub, 1) := by decide +kernel
theorem d_M_search_104 : decode b_M_search 104 = .ok (.iaload, 1) := by decide +kernel
theorem d_M_search_105 : decode b_M_search 105 = .ok (.invokevirtual 320, 3) := by decide +kernel
theorem d_M_search_108 : decode b_M_search 108 = .ok (.ifCond .eq 23, 3) := by decide +kernel
theorem d_M_search_111 : decode b_M_search 111 = .ok (.aload_n 0, 1) := by decide +kernel
theorem d_M_search_112 : decode b_M_search 112 = .ok (.getfield 23, 3) := by decide +kernel
theorem d_M_search_115 : decode b_M_search 115 = .ok (.iload_n 3, 1) := by decide +kernel
theorem d_M_search_116 : decode b_M_search 116 = .ok (.aload_n 0, 1) := by decide +kernel
theorem d_M_search_117 : decode b_M_search 117 = .ok (.getfield 23, 3) := by decide +kernel
theorem d_M_search_120 : decode b_M_search 120 = .ok (.iload_n 3, 1) := by decide +kernel
theorem d_M_search_121 : decode b_M_search 121 = .ok (.iconst 1, 1) := by decide +kernel
theorem d_M_search_122 : decode b_M_search 122 = .ok (.isub, 1) := by decide +kernel
theorem d_M_search_123 : decode b_M_search 123 = .ok (.iaload, 1) := by decide +kernel
theorem d_M_search_124 : decode b_M_search 124 = .ok (.iastore, 1) := by decide +kernel
theorem d_M_search_125 : decode b_M_search 125 = .ok (.iinc 3 (-1), 3) := by decide +kernel
theorem d_M_search_128 : decode b_M_search 128 = .ok (.goto (-37), 3) := by decide +kernel
theorem d_M_search_131 : decode b_M_search 131 = .ok (.aload_n 0, 1) := by decide +kernel
theorem d_M_search_132 : decode b_M_search 132 = .ok (.getfield 23, 3) := by decide +kernel
theorem d_M_search_135 : decode b_M_search 135 = .ok (.iload_n 3, 1) := by decide +kernel
theorem d_M_search_136 : decode b_M_search 136 = .ok (.iload_n 2, 1) := by decide +kernel
theorem d_M_search_137 : decode b_M_search 137 = .ok (.iastore, 1) := by decide +kernel
theorem d_M_search_138 : decode b_M_search 138 = .ok (.aload_n 0, 1) := by decide +kernel
theorem d_M_search_139 : decode b_M_search 139 = .ok (.dup, 1) := by decide +kernel
theorem d_M_search_140 : decode b_M_search 140 = .ok (.getfield 107, 3) := by decide +kernel
theorem d_M_search_143 : decode b_M_search 143 = .ok (.iconst 1, 1) := by decide +kernel
theorem d_M_search_144 : decode b_M_search 144 = .ok (.iadd, 1) := by decide +kernel
theorem d_M_search_145 : decode b_M_search 145 = .ok (.putfield 107, 3) := by decide +kernel
theorem d_M_search_148 : decode b_M_search 148 = .ok (.iinc 2 1, 3) := by decide +kernel
theorem d_M_search_151 : decode b_M_search 151 = .ok (.goto (-80), 3) := by decide +kernel
theorem d_M_search_154 : decode b_M_search 154 = .ok (.aload_n 0, 1) := by decide +kernel
theorem d_M_search_155 : decode b_M_search 155 = .ok (.getfield 107, 3) := by decide +kernel
theorem d_M_search_158 : decode b_M_search 158 = .ok (.ireturn, 1) := by decide +kernel
set_option maxHeartbeats 4000000 in
set_option maxRecDepth 100000 in
theorem c_M_search (l : Launch) (dC : Nat → ClassId) (dI : Nat → Nat → Nat) (kA : Nat → ClassId) (sz : Nat) (mo : Nat) (ma : Nat → Nat) (mrf : Int) (mz : Int) (mls : Int) (mfp : Int) (mfm : Int) (mtx : Int) (mwd : Int) (mak : Int) (mli : Int) (mlx : Int) (mat : Int) (mtk : Int) (mtf : Int) (mtt : Int) (mfa : Int) (mla : Int) (mlp : Int) (mdp : Int) (msi : Int) (mpf : Int) (mpt : Int) (mdn : Bool) (ca : Nat → Int) (cle : Nat → Int) (ctf : Nat → Int) (ctt : Nat → Int) (cwf : Nat → Int) (cwt : Nat → Int) (caf : Nat → Int) (cat : Nat → Int) (cva : Nat → Int) (cpe : Nat → Int) (cfr : Nat → Int) (hca : C2 ca) (hls : 0 ≤ mls ∧ mls ≤ 100) (hle : ∀ j, 0 ≤ cle j ∧ cle j ≤ 400) (hRec : Recs ca cle) (hpe : ∀ j, 0 ≤ cpe j ∧ cpe j ≤ 12) (hGd : ∀ r : Int, 0 ≤ r → r ≤ 9 → (quM ca cle mls cva cpe (PS.mk 4000 mtk mtf mtt 0 (-1) 0 mlp mpf mpt)).p.fa = 0 → andI (shrI ((quM ca cle mls cva cpe (PS.mk 4000 mtk mtf mtt 0 (-1) 0 mlp mpf mpt)).va 0) r) 1 = 1 → 0 < cle r.toNat) : Met l y_M_search (wsy y_M_search b_M_search 4 (some .int)) (rmd 9 0 0) (li_Pr (dC, dI) CL (TY kA) [.ref mo] (fun h => h.size = sz ∧ va_P (dC, dI) CL [(mo, .inr (10, [.int (iI mrf), .ref (ma 0), .int (iI mz), .ref (ma 1), .ref (ma 2), .int (iI mls), .int (iI mfp), .int (iI mfm), .ref (ma 3), .int (iI mtx), .ref (ma 4), .ref (ma 5), .int (iI mwd), .ref (ma 6), .ref (ma 7), .int (iI mak), .ref (ma 8), .ref (ma 9), .int (iI mli), .int (iI mlx), .ref (ma 10), .ref (ma 11), .int (iI mat), .int (iI mtk), .int (iI mtf), .int (iI mtt), .int (iI mfa), .int (iI mla), .int (iI mlp), .int (iI mdp), .ref (ma 12), .ref (ma 13), .int (iI msi), .int (iI (bI mdn)), .int (iI mpf), .int (iI mpt)])), (ma 1, .inl (kA 0, 4120, .inl (aI ca))), (ma 4, .inl (kA 0, 400, .inl (aI ctf))), (ma 5, .inl (kA 0, 400, .inl (aI ctt))), (ma 6, .inl (kA 0, 400, .inl (aI cwf))), (ma 7, .inl (kA 0, 400, .inl (aI cwt))), (ma 8, .inl (kA 0, 110, .inl (aI caf))), (ma 9, .inl (kA 0, 110, .inl (aI cat))), (ma 2, .inl (kA 0, 10, .inl (aI cle))), (ma 12, .inl (kA 0, 8, .inl (aI cva))), (ma 13, .inl (kA 0, 8, .inl (aI cpe))), (ma 3, .inl (kA 0, 10, .inl (aI cfr)))] h ∧ va_D (fun q => dI 100 0 ≤ q) [(mo, .inr (10, [.int (iI mrf), .ref (ma 0), .int (iI mz), .ref (ma 1), .ref (ma 2), .int (iI mls), .int (iI mfp), .int (iI mfm), .ref (ma 3), .int (iI mtx), .ref (ma 4), .ref (ma 5), .int (iI mwd), .ref (ma 6), .ref (ma 7), .int (iI mak), .ref (ma 8), .ref (ma 9), .int (iI mli), .int (iI mlx), .ref (ma 10), .ref (ma 11), .int (iI mat), .int (iI mtk), .int (iI mtf), .int (iI mtt), .int (iI mfa), .int (iI mla), .int (iI mlp), .int (iI mdp), .ref (ma 12), .ref (ma 13), .int (iI msi), .int (iI (bI mdn)), .int (iI mpf), .int (iI mpt)])), (ma 1, .inl (kA 0, 4120, .inl (aI ca))), (ma 4, .inl (kA 0, 400, .inl (aI ctf))), (ma 5, .inl (kA 0, 400, .inl (aI ctt))), (ma 6, .inl (kA 0, 400, .inl (aI cwf))), (ma 7, .inl (kA 0, 400, .inl (aI cwt))), (ma 8, .inl (kA 0, 110, .inl (aI caf))), (ma 9, .inl (kA 0, 110, .inl (aI cat))), (ma 2, .inl (kA 0, 10, .inl (aI cle))), (ma 12, .inl (kA 0, 8, .inl (aI cva))), (ma 13, .inl (kA 0, 8, .inl (aI cpe))), (ma 3, .inl (kA 0, 10, .inl (aI cfr)))] ∧ (fun _ => True) h)) (li_Qw (S := (Int) × (Nat → Int) × (Nat → Int) × (Int) × (Nat → Int) × (Nat → Int) × (Int) × (Nat → Int) × (Nat → Int) × (Int) × (Int) × (Int) × (Int) × (Int) × (Int) × (Int) × (Int) × (Int) × (Int) × (Int) × (Nat → Int) × (Nat → Int) × (Int) × (Bool) × (Int) × (Nat → Int) × (Int)) (dC, dI) CL (fun u => (∃ wa mq fp0, quM ca cle mls cva cpe (PS.mk 4000 mtk mtf mtt 0 (-1) 0 mlp mpf mpt) = QS.mk (PS.mk u.2.2.2.2.2.2.2.2.2.1 u.2.2.2.2.2.2.2.2.2.2.1 u.2.2.2.2.2.2.2.2.2.2.2.1 u.2.2.2.2.2.2.2.2.2.2.2.2.1 u.2.2.2.2.2.2.2.2.2.2.2.2.2.1 fp0 u.2.2.2.2.2.2.2.2.2.2.2.2.2.2.2.1 u.2.2.2.2.2.2.2.2.2.2.2.2.2.2.2.2.1 u.2.2.2.2.2.2.2.2.2.2.2.2.2.2.2.2.2.1 u.2.2.2.2.2.2.2.2.2.2.2.2.2.2.2.2.2.2.1) u.2.2.2.2.2.2.2.2.2.2.2.2.2.2.2.2.2.2.2.1 u.2.2.2.2.2.2.2.2.2.2.2.2.2.2.2.2.2.2.2.2.1 u.2.2.2.2.2.2.2.2.2.2.2.2.2.2.2.2.2.2.2.2.2.1 wa mq u.2.2.2.2.2.2.2.2.2.2.2.2.2.2.2.2.2.2.2.2.2.2.1 u.2.2.2.2.2.2.2.2.2.2.2.2.2.2.2.2.2.2.2.2.2.2.2.1 ∧ ((¬ u.2.2.2.2.2.2.2.2.2.2.2.2.2.1 = 0 ∧ u.2.2.2.2.2.2.2.2.2.2.2.2.2.2.2.2.2.2.2.2.2.2.2.2.2.2 = u.2.2.2.2.2.2.2.2.2.2.2.2.2.1 ∧ u.2.2.2.2.2.2.2.2.2.2.2.2.2.2.1 = fp0 ∧ u.2.2.2.2.2.2.2.2.2.2.2.2.2.2.2.2.2.2.2.2.2.2.2.2.1 = mfm ∧ u.2.2.2.2.2.2.2.2.2.2.2.2.2.2.2.2.2.2.2.2.2.2.2.2.2.1 = cfr) ∨ (u.2.2.2.2.2.2.2.2.2.2.2.2.2.1 = 0 ∧ ¬ u.2.2.2.2.2.2.2.2.2.2.2.2.2.2.2.1 = 0 ∧ u.2.2.2.2.2.2.2.2.2.2.2.2.2.2.2.2.2.2.2.2.2.2.2.2.2.2 = u.2.2.2.2.2.2.2.2.2.2.2.2.2.2.2.1 ∧ u.2.2.2.2.2.2.2.2.2.2.2.2.2.2.1 = u.2.2.2.2.2.2.2.2.2.2.2.2.2.2.2.2.1 ∧ u.2.2.2.2.2.2.2.2.2.2.2.2.2.2.2.2.2.2.2.2.2.2.2.2.1 = mfm ∧ u.2.2.2.2.2.2.2.2.2.2.2.2.2.2.2.2.2.2.2.2.2.2.2.2.2.1 = cfr) ∨ (u.2.2.2.2.2.2.2.2.2.2.2.2.2.1 = 0 ∧ u.2.2.2.2.2.2.2.2.2.2.2.2.2.2.2.1 = 0 ∧ u.2.2.2.2.2.2.2.2.2.2.2.2.2.2.2.2.2.2.2.2.2.2.2.2.2.2 = u.2.2.2.2.2.2.2.2.2.2.2.2.2.2.2.2.2.2.2.2.2.2.2.2.1 ∧ u.2.2.2.2.2.2.2.2.2.2.2.2.2.2.1 = fp0 ∧ (u.2.2.2.2.2.2.2.2.2.2.2.2.2.2.2.2.2.2.2.2.2.2.2.2.1, u.2.2.2.2.2.2.2.2.2.2.2.2.2.2.2.2.2.2.2.2.2.2.2.2.2.1) = foM ca u.2.2.2.2.2.2.2.2.2.2.2.2.2.2.2.2.2.2.2.2.2.2.1 u.2.2.2.2.2.2.2.2.2.2.2.2.2.2.2.2.2.2.2.2.2.2.2.1 (u.2.2.2.2.2.2.2.2.2.2.2.2.2.2.2.2.2.2.2.2.1 0) cfr ∧ 0 ≤ u.2.2.2.2.2.2.2.2.2.2.2.2.2.2.2.2.2.2.2.2.2.2.2.2.1 ∧ u.2.2.2.2.2.2.2.2.2.2.2.2.2.2.2.2.2.2.2.2.2.2.2.2.1 ≤ 10 ∧ (∀ j : Nat, (j : Int) < u.2.2.2.2.2.2.2.2.2.2.2.2.2.2.2.2.2.2.2.2.2.2.2.2.1 → PRs cle (u.2.2.2.2.2.2.2.2.2.2.2.2.2.2.2.2.2.2.2.2.2.2.2.2.2.1 j))))) ∧ (∀ j, 0 ≤ u.2.2.2.2.2.2.2.2.2.2.2.2.2.2.2.2.2.2.2.2.2.1 j ∧ u.2.2.2.2.2.2.2.2.2.2.2.2.2.2.2.2.2.2.2.2.2.1 j ≤ 12) ∧ -1 ≤ u.2.2.2.2.2.2.2.2.2.2.2.2.2.2.2.2.2.2.2.2.2.2.1 ∧ u.2.2.2.2.2.2.2.2.2.2.2.2.2.2.2.2.2.2.2.2.2.2.1 ≤ 5) (fun u => some (.int (iI (u.2.2.2.2.2.2.2.2.2.2.2.2.2.2.2.2.2.2.2.2.2.2.2.2.2.2)))) (fun u => [(mo, .inr (10, [.int (iI 0), .ref (ma 0), .int (iI mz), .ref (ma 1), .ref (ma 2), .int (iI mls), .int (iI u.2.2.2.2.2.2.2.2.2.2.2.2.2.2.1), .int (iI u.2.2.2.2.2.2.2.2.2.2.2.2.2.2.2.2.2.2.2.2.2.2.2.2.1), .ref (ma 3), .int (iI u.1), .ref (ma 4), .ref (ma 5), .int (iI u.2.2.2.1), .ref (ma 6), .ref (ma 7), .int (iI u.2.2.2.2.2.2.1), .ref (ma 8), .ref (ma 9), .int (iI mli), .int (iI mlx), .ref (ma 10), .ref (ma 11), .int (iI u.2.2.2.2.2.2.2.2.2.1), .int (iI u.2.2.2.2.2.2.2.2.2.2.1), .int (iI u.2.2.2.2.2.2.2.2.2.2.2.1), .int (iI u.2.2.2.2.2.2.2.2.2.2.2.2.1), .int (iI u.2.2.2.2.2.2.2.2.2.2.2.2.2.1), .int (iI u.2.2.2.2.2.2.2.2.2.2.2.2.2.2.2.1), .int (iI u.2.2.2.2.2.2.2.2.2.2.2.2.2.2.2.2.1), .int (iI u.2.2.2.2.2.2.2.2.2.2.2.2.2.2.2.2.2.2.2.1), .ref (ma 12), .ref (ma 13), .int (iI u.2.2.2.2.2.2.2.2.2.2.2.2.2.2.2.2.2.2.2.2.2.2.1), .int (iI (bI u.2.2.2.2.2.2.2.2.2.2.2.2.2.2.2.2.2.2.2.2.2.2.2.1)), .int (iI u.2.2.2.2.2.2.2.2.2.2.2.2.2.2.2.2.2.1), .int (iI u.2.2.2.2.2.2.2.2.2.2.2.2.2.2.2.2.2.2.1)])), (ma 1, .inl (kA 0, 4120, .inl (aI ca))), (ma 4, .inl (kA 0, 400, .inl (aI u.2.1))), (ma 5, .inl (kA 0, 400, .inl (aI u.2.2.1))), (ma 6, .inl (kA 0, 400, .inl (aI u.2.2.2.2.1))), (ma 7, .inl (kA 0, 400, .inl (aI u.2.2.2.2.2.1))), (ma 8, .inl (kA 0, 110, .inl (aI u.2.2.2.2.2.2.2.1))), (ma 9, .inl (kA 0, 110, .inl (aI u.2.2.2.2.2.2.2.2.1))), (ma 2, .inl (kA 0, 10, .inl (aI cle))), (ma 12, .inl (kA 0, 8, .inl (aI u.2.2.2.2.2.2.2.2.2.2.2.2.2.2.2.2.2.2.2.2.1))), (ma 13, .inl (kA 0, 8, .inl (aI u.2.2.2.2.2.2.2.2.2.2.2.2.2.2.2.2.2.2.2.2.2.1))), (ma 3, .inl (kA 0, 10, .inl (aI u.2.2.2.2.2.2.2.2.2.2.2.2.2.2.2.2.2.2.2.2.2.2.2.2.2.1)))]) (va_A [(mo, .inr (10, [.int (iI mrf), .ref (ma 0), .int (iI mz), .ref (ma 1), .ref (ma 2), .int (iI mls), .int (iI mfp), .int (iI mfm), .ref (ma 3), .int (iI mtx), .ref (ma 4), .ref (ma 5), .int (iI mwd), .ref (ma 6), .ref (ma 7), .int (iI mak), .ref (ma 8), .ref (ma 9), .int (iI mli), .int (iI mlx), .ref (ma 10), .ref (ma 11), .int (iI mat), .int (iI mtk), .int (iI mtf), .int (iI mtt), .int (iI mfa), .int (iI mla), .int (iI mlp), .int (iI mdp), .ref (ma 12), .ref (ma 13), .int (iI msi), .int (iI (bI mdn)), .int (iI mpf), .int (iI mpt)])), (ma 1, .inl (kA 0, 4120, .inl (aI ca))), (ma 4, .inl (kA 0, 400, .inl (aI ctf))), (ma 5, .inl (kA 0, 400, .inl (aI ctt))), (ma 6, .inl (kA 0, 400, .inl (aI cwf))), (ma 7, .inl (kA 0, 400, .inl (aI cwt))), (ma 8, .inl (kA 0, 110, .inl (aI caf))), (ma 9, .inl (kA 0, 110, .inl (aI cat))), (ma 2, .inl (kA 0, 10, .inl (aI cle))), (ma 12, .inl (kA 0, 8, .inl (aI cva))), (ma 13, .inl (kA 0, 8, .inl (aI cpe))), (ma 3, .inl (kA 0, 10, .inl (aI cfr)))] sz)) 0 0 (va_A [(mo, .inr (10, [.int (iI mrf), .ref (ma 0), .int (iI mz), .ref (ma 1), .ref (ma 2), .int (iI mls), .int (iI mfp), .int (iI mfm), .ref (ma 3), .int (iI mtx), .ref (ma 4), .ref (ma 5), .int (iI mwd), .ref (ma 6), .ref (ma 7), .int (iI mak), .ref (ma 8), .ref (ma 9), .int (iI mli), .int (iI mlx), .ref (ma 10), .ref (ma 11), .int (iI mat), .int (iI mtk), .int (iI mtf), .int (iI mtt), .int (iI mfa), .int (iI mla), .int (iI mlp), .int (iI mdp), .ref (ma 12), .ref (ma 13), .int (iI msi), .int (iI (bI mdn)), .int (iI mpf), .int (iI mpt)])), (ma 1, .inl (kA 0, 4120, .inl (aI ca))), (ma 4, .inl (kA 0, 400, .inl (aI ctf))), (ma 5, .inl (kA 0, 400, .inl (aI ctt))), (ma 6, .inl (kA 0, 400, .inl (aI cwf))), (ma 7, .inl (kA 0, 400, .inl (aI cwt))), (ma 8, .inl (kA 0, 110, .inl (aI caf))), (ma 9, .inl (kA 0, 110, .inl (aI cat))), (ma 2, .inl (kA 0, 10, .inl (aI cle))), (ma 12, .inl (kA 0, 8, .inl (aI cva))), (ma 13, .inl (kA 0, 8, .inl (aI cpe))), (ma 3, .inl (kA 0, 10, .inl (aI cfr)))] sz) := by
  refine li_mwi (r := fun (u : (Int) × (Nat → Int) × (Nat → Int) × (Int) × (Nat → Int) × (Nat → Int) × (Int) × (Nat → Int) × (Nat → Int) × (Int) × (Int) × (Int) × (Int) × (Int) × (Int) × (Int) × (Int) × (Int) × (Int) × (Int) × (Nat → Int) × (Nat → Int) × (Int) × (Bool) × (Int) × (Nat → Int) × (Int)) => u.2.2.2.2.2.2.2.2.2.2.2.2.2.2.2.2.2.2.2.2.2.2.2.2.2.2) (by decide) (Nat.le_of_ble_eq_true rfl) (fun u _ => by rfl) ?_
  intro p e s m args below meth c Q A C hP hD hBx hK hN hG hA hAi hAN fin ls hl
  obtain ⟨hx, hb, hr, hml, hown, hts, hlocks, hin⟩ := C
  have hown : s.vm.findClass R_M = some m.cls := hown
  have hl : lv_has ls 4 [(0, .ref mo)] := hl
  suffices h9 : ∀ (H : Heap) (locs : List Loc), H = s.heap → locs = [] → W p l e (rmd 9 0 0) s m args below meth c H locs 0 0 Q (F0 m 0 ls []) from h9 _ _ rfl rfl
  intro H locs eH eL
  have hP : va_P (dC, dI) CL [(mo, .inr (10, [.int (iI mrf), .ref (ma 0), .int (iI mz), .ref (ma 1), .ref (ma 2), .int (iI mls), .int (iI mfp), .int (iI mfm), .ref (ma 3), .int (iI mtx), .ref (ma 4), .ref (ma 5), .int (iI mwd), .ref (ma 6), .ref (ma 7), .int (iI mak), .ref (ma 8), .ref (ma 9), .int (iI mli), .int (iI mlx), .ref (ma 10), .ref (ma 11), .int (iI mat), .int (iI mtk), .int (iI mtf), .int (iI mtt), .int (iI mfa), .int (iI mla), .int (iI mlp), .int (iI mdp), .ref (ma 12), .ref (ma 13), .int (iI msi), .int (iI (bI mdn)), .int (iI mpf), .int (iI mpt)])), (ma 1, .inl (kA 0, 4120, .inl (aI ca))), (ma 4, .inl (kA 0, 400, .inl (aI ctf))), (ma 5, .inl (kA 0, 400, .inl (aI ctt))), (ma 6, .inl (kA 0, 400, .inl (aI cwf))), (ma 7, .inl (kA 0, 400, .inl (aI cwt))), (ma 8, .inl (kA 0, 110, .inl (aI caf))), (ma 9, .inl (kA 0, 110, .inl (aI cat))), (ma 2, .inl (kA 0, 10, .inl (aI cle))), (ma 12, .inl (kA 0, 8, .inl (aI cva))), (ma 13, .inl (kA 0, 8, .inl (aI cpe))), (ma 3, .inl (kA 0, 10, .inl (aI cfr)))] H := by rw [eH]; exact hP
  have hS : va_S A s.heap H locs := by rw [eH, eL]; exact va_S.rf
  refine lv_aload_n hx hb d_M_search_0 rfl (lv_at hl 0 rfl) ?_
  refine lv_iconst (v := iI 0) hx hb d_M_search_1 rfl ?_
  refine pf_M_59 hx hb hts hown hK hP hD hS 0 rfl (Nat.le_of_ble_eq_true rfl) d_M_search_2 (fun H locs hP hD hS => ?_)
  have hP : va_P (dC, dI) CL [(mo, .inr (10, [.int (iI 0), .ref (ma 0), .int (iI mz), .ref (ma 1), .ref (ma 2), .int (iI mls), .int (iI mfp), .int (iI mfm), .ref (ma 3), .int (iI mtx), .ref (ma 4), .ref (ma 5), .int (iI mwd), .ref (ma 6), .ref (ma 7), .int (iI mak), .ref (ma 8), .ref (ma 9), .int (iI mli), .int (iI mlx), .ref (ma 10), .ref (ma 11), .int (iI mat), .int (iI mtk), .int (iI mtf), .int (iI mtt), .int (iI mfa), .int (iI mla), .int (iI mlp), .int (iI mdp), .ref (ma 12), .ref (ma 13), .int (iI msi), .int (iI (bI mdn)), .int (iI mpf), .int (iI mpt)])), (ma 1, .inl (kA 0, 4120, .inl (aI ca))), (ma 4, .inl (kA 0, 400, .inl (aI ctf))), (ma 5, .inl (kA 0, 400, .inl (aI ctt))), (ma 6, .inl (kA 0, 400, .inl (aI cwf))), (ma 7, .inl (kA 0, 400, .inl (aI cwt))), (ma 8, .inl (kA 0, 110, .inl (aI caf))), (ma 9, .inl (kA 0, 110, .inl (aI cat))), (ma 2, .inl (kA 0, 10, .inl (aI cle))), (ma 12, .inl (kA 0, 8, .inl (aI cva))), (ma 13, .inl (kA 0, 8, .inl (aI cpe))), (ma 3, .inl (kA 0, 10, .inl (aI cfr)))] H := hP
  have hD : va_D A [(mo, .inr (10, [.int (iI 0), .ref (ma 0), .int (iI mz), .ref (ma 1), .ref (ma 2), .int (iI mls), .int (iI mfp), .int (iI mfm), .ref (ma 3), .int (iI mtx), .ref (ma 4), .ref (ma 5), .int (iI mwd), .ref (ma 6), .ref (ma 7), .int (iI mak), .ref (ma 8), .ref (ma 9), .int (iI mli), .int (iI mlx), .ref (ma 10), .ref (ma 11), .int (iI mat), .int (iI mtk), .int (iI mtf), .int (iI mtt), .int (iI mfa), .int (iI mla), .int (iI mlp), .int (iI mdp), .ref (ma 12), .ref (ma 13), .int (iI msi), .int (iI (bI mdn)), .int (iI mpf), .int (iI mpt)])), (ma 1, .inl (kA 0, 4120, .inl (aI ca))), (ma 4, .inl (kA 0, 400, .inl (aI ctf))), (ma 5, .inl (kA 0, 400, .inl (aI ctt))), (ma 6, .inl (kA 0, 400, .inl (aI cwf))), (ma 7, .inl (kA 0, 400, .inl (aI cwt))), (ma 8, .inl (kA 0, 110, .inl (aI caf))), (ma 9, .inl (kA 0, 110, .inl (aI cat))), (ma 2, .inl (kA 0, 10, .inl (aI cle))), (ma 12, .inl (kA 0, 8, .inl (aI cva))), (ma 13, .inl (kA 0, 8, .inl (aI cpe))), (ma 3, .inl (kA 0, 10, .inl (aI cfr)))] := hD
  refine lv_aload_n hx hb d_M_search_5 rfl (lv_at hl 0 rfl) ?_
  refine lv_iconst (v := iI (-1)) hx hb d_M_search_6 rfl ?_
  refine pf_M_19 hx hb hts hown hK hP hD hS 0 rfl (Nat.le_of_ble_eq_true rfl) d_M_search_7 (fun H locs hP hD hS => ?_)
  have hP : va_P (dC, dI) CL [(mo, .inr (10, [.int (iI 0), .ref (ma 0), .int (iI mz), .ref (ma 1), .ref (ma 2), .int (iI mls), .int (iI (-1)), .int (iI mfm), .ref (ma 3), .int (iI mtx), .ref (ma 4), .ref (ma 5), .int (iI mwd), .ref (ma 6), .ref (ma 7), .int (iI mak), .ref (ma 8), .ref (ma 9), .int (iI mli), .int (iI mlx), .ref (ma 10), .ref (ma 11), .int (iI mat), .int (iI mtk), .int (iI mtf), .int (iI mtt), .int (iI mfa), .int (iI mla), .int (iI mlp), .int (iI mdp), .ref (ma 12), .ref (ma 13), .int (iI msi), .int (iI (bI mdn)), .int (iI mpf), .int (iI mpt)])), (ma 1, .inl (kA 0, 4120, .inl (aI ca))), (ma 4, .inl (kA 0, 400, .inl (aI ctf))), (ma 5, .inl (kA 0, 400, .inl (aI ctt))), (ma 6, .inl (kA 0, 400, .inl (aI cwf))), (ma 7, .inl (kA 0, 400, .inl (aI cwt))), (ma 8, .inl (kA 0, 110, .inl (aI caf))), (ma 9, .inl (kA 0, 110, .inl (aI cat))), (ma 2, .inl (kA 0, 10, .inl (aI cle))), (ma 12, .inl (kA 0, 8, .inl (aI cva))), (ma 13, .inl (kA 0, 8, .inl (aI cpe))), (ma 3, .inl (kA 0, 10, .inl (aI cfr)))] H := hP
  have hD : va_D A [(mo, .inr (10, [.int (iI 0), .ref (ma 0), .int (iI mz), .ref (ma 1), .ref (ma 2), .int (iI mls), .int (iI (-1)), .int (iI mfm), .ref (ma 3), .int (iI mtx), .ref (ma 4), .ref (ma 5), .int (iI mwd), .ref (ma 6), .ref (ma 7), .int (iI mak), .ref (ma 8), .ref (ma 9), .int (iI mli), .int (iI mlx), .ref (ma 10), .ref (ma 11), .int (iI mat), .int (iI mtk), .int (iI mtf), .int (iI mtt), .int (iI mfa), .int (iI mla), .int (iI mlp), .int (iI mdp), .ref (ma 12), .ref (ma 13), .int (iI msi), .int (iI (bI mdn)), .int (iI mpf), .int (iI mpt)])), (ma 1, .inl (kA 0, 4120, .inl (aI ca))), (ma 4, .inl (kA 0, 400, .inl (aI ctf))), (ma 5, .inl (kA 0, 400, .inl (aI ctt))), (ma 6, .inl (kA 0, 400, .inl (aI cwf))), (ma 7, .inl (kA 0, 400, .inl (aI cwt))), (ma 8, .inl (kA 0, 110, .inl (aI caf))), (ma 9, .inl (kA 0, 110, .inl (aI cat))), (ma 2, .inl (kA 0, 10, .inl (aI cle))), (ma 12, .inl (kA 0, 8, .inl (aI cva))), (ma 13, .inl (kA 0, 8, .inl (aI cpe))), (ma 3, .inl (kA 0, 10, .inl (aI cfr)))] := hD
  refine lv_aload_n hx hb d_M_search_10 rfl (lv_at hl 0 rfl) ?_
  refine lv_iconst (v := iI 0) hx hb d_M_search_11 rfl ?_
  refine pf_M_224 hx hb hts hown hK hP hD hS 0 rfl (Nat.le_of_ble_eq_true rfl) d_M_search_12 (fun H locs hP hD hS => ?_)
  have hP : va_P (dC, dI) CL [(mo, .inr (10, [.int (iI 0), .ref (ma 0), .int (iI mz), .ref (ma 1), .ref (ma 2), .int (iI mls), .int (iI (-1)), .int (iI mfm), .ref (ma 3), .int (iI mtx), .ref (ma 4), .ref (ma 5), .int (iI mwd), .ref (ma 6), .ref (ma 7), .int (iI mak), .ref (ma 8), .ref (ma 9), .int (iI mli), .int (iI mlx), .ref (ma 10), .ref (ma 11), .int (iI mat), .int (iI mtk), .int (iI mtf), .int (iI mtt), .int (iI 0), .int (iI mla), .int (iI mlp), .int (iI mdp), .ref (ma 12), .ref (ma 13), .int (iI msi), .int (iI (bI mdn)), .int (iI mpf), .int (iI mpt)])), (ma 1, .inl (kA 0, 4120, .inl (aI ca))), (ma 4, .inl (kA 0, 400, .inl (aI ctf))), (ma 5, .inl (kA 0, 400, .inl (aI ctt))), (ma 6, .inl (kA 0, 400, .inl (aI cwf))), (ma 7, .inl (kA 0, 400, .inl (aI cwt))), (ma 8, .inl (kA 0, 110, .inl (aI caf))), (ma 9, .inl (kA 0, 110, .inl (aI cat))), (ma 2, .inl (kA 0, 10, .inl (aI cle))), (ma 12, .inl (kA 0, 8, .inl (aI cva))), (ma 13, .inl (kA 0, 8, .inl (aI cpe))), (ma 3, .inl (kA 0, 10, .inl (aI cfr)))] H := hP
  have hD : va_D A [(mo, .inr (10, [.int (iI 0), .ref (ma 0), .int (iI mz), .ref (ma 1), .ref (ma 2), .int (iI mls), .int (iI (-1)), .int (iI mfm), .ref (ma 3), .int (iI mtx), .ref (ma 4), .ref (ma 5), .int (iI mwd), .ref (ma 6), .ref (ma 7), .int (iI mak), .ref (ma 8), .ref (ma 9), .int (iI mli), .int (iI mlx), .ref (ma 10), .ref (ma 11), .int (iI mat), .int (iI mtk), .int (iI mtf), .int (iI mtt), .int (iI 0), .int (iI mla), .int (iI mlp), .int (iI mdp), .ref (ma 12), .ref (ma 13), .int (iI msi), .int (iI (bI mdn)), .int (iI mpf), .int (iI mpt)])), (ma 1, .inl (kA 0, 4120, .inl (aI ca))), (ma 4, .inl (kA 0, 400, .inl (aI ctf))), (ma 5, .inl (kA 0, 400, .inl (aI ctt))), (ma 6, .inl (kA 0, 400, .inl (aI cwf))), (ma 7, .inl (kA 0, 400, .inl (aI cwt))), (ma 8, .inl (kA 0, 110, .inl (aI caf))), (ma 9, .inl (kA 0, 110, .inl (aI cat))), (ma 2, .inl (kA 0, 10, .inl (aI cle))), (ma 12, .inl (kA 0, 8, .inl (aI cva))), (ma 13, .inl (kA 0, 8, .inl (aI cpe))), (ma 3, .inl (kA 0, 10, .inl (aI cfr)))] := hD
  refine lv_aload_n hx hb d_M_search_15 rfl (lv_at hl 0 rfl) ?_
  refine lv_iconst (v := iI 0) hx hb d_M_search_16 rfl ?_
  refine pf_M_233 hx hb hts hown hK hP hD hS 0 rfl (Nat.le_of_ble_eq_true rfl) d_M_search_17 (fun H locs hP hD hS => ?_)
  have hP : va_P (dC, dI) CL [(mo, .inr (10, [.int (iI 0), .ref (ma 0), .int (iI mz), .ref (ma 1), .ref (ma 2), .int (iI mls), .int (iI (-1)), .int (iI mfm), .ref (ma 3), .int (iI mtx), .ref (ma 4), .ref (ma 5), .int (iI mwd), .ref (ma 6), .ref (ma 7), .int (iI mak), .ref (ma 8), .ref (ma 9), .int (iI mli), .int (iI mlx), .ref (ma 10), .ref (ma 11), .int (iI mat), .int (iI mtk), .int (iI mtf), .int (iI mtt), .int (iI 0), .int (iI 0), .int (iI mlp), .int (iI mdp), .ref (ma 12), .ref (ma 13), .int (iI msi), .int (iI (bI mdn)), .int (iI mpf), .int (iI mpt)])), (ma 1, .inl (kA 0, 4120, .inl (aI ca))), (ma 4, .inl (kA 0, 400, .inl (aI ctf))), (ma 5, .inl (kA 0, 400, .inl (aI ctt))), (ma 6, .inl (kA 0, 400, .inl (aI cwf))), (ma 7, .inl (kA 0, 400, .inl (aI cwt))), (ma 8, .inl (kA 0, 110, .inl (aI caf))), (ma 9, .inl (kA 0, 110, .inl (aI cat))), (ma 2, .inl (kA 0, 10, .inl (aI cle))), (ma 12, .inl (kA 0, 8, .inl (aI cva))), (ma 13, .inl (kA 0, 8, .inl (aI cpe))), (ma 3, .inl (kA 0, 10, .inl (aI cfr)))] H := hP
  have hD : va_D A [(mo, .inr (10, [.int (iI 0), .ref (ma 0), .int (iI mz), .ref (ma 1), .ref (ma 2), .int (iI mls), .int (iI (-1)), .int (iI mfm), .ref (ma 3), .int (iI mtx), .ref (ma 4), .ref (ma 5), .int (iI mwd), .ref (ma 6), .ref (ma 7), .int (iI mak), .ref (ma 8), .ref (ma 9), .int (iI mli), .int (iI mlx), .ref (ma 10), .ref (ma 11), .int (iI mat), .int (iI mtk), .int (iI mtf), .int (iI mtt), .int (iI 0), .int (iI 0), .int (iI mlp), .int (iI mdp), .ref (ma 12), .ref (ma 13), .int (iI msi), .int (iI (bI mdn)), .int (iI mpf), .int (iI mpt)])), (ma 1, .inl (kA 0, 4120, .inl (aI ca))), (ma 4, .inl (kA 0, 400, .inl (aI ctf))), (ma 5, .inl (kA 0, 400, .inl (aI ctt))), (ma 6, .inl (kA 0, 400, .inl (aI cwf))), (ma 7, .inl (kA 0, 400, .inl (aI cwt))), (ma 8, .inl (kA 0, 110, .inl (aI caf))), (ma 9, .inl (kA 0, 110, .inl (aI cat))), (ma 2, .inl (kA 0, 10, .inl (aI cle))), (ma 12, .inl (kA 0, 8, .inl (aI cva))), (ma 13, .inl (kA 0, 8, .inl (aI cpe))), (ma 3, .inl (kA 0, 10, .inl (aI cfr)))] := hD
  refine lv_aload_n hx hb d_M_search_20 rfl (lv_at hl 0 rfl) ?_
  refine lv_sipush (v := iI 4000) hx hb d_M_search_21 (by decide) ?_
  refine pf_M_193 hx hb hts hown hK hP hD hS 0 rfl (Nat.le_of_ble_eq_true rfl) d_M_search_24 (fun H locs hP hD hS => ?_)
  have hP : va_P (dC, dI) CL [(mo, .inr (10, [.int (iI 0), .ref (ma 0), .int (iI mz), .ref (ma 1), .ref (ma 2), .int (iI mls), .int (iI (-1)), .int (iI mfm), .ref (ma 3), .int (iI mtx), .ref (ma 4), .ref (ma 5), .int (iI mwd), .ref (ma 6), .ref (ma 7), .int (iI mak), .ref (ma 8), .ref (ma 9), .int (iI mli), .int (iI mlx), .ref (ma 10), .ref (ma 11), .int (iI 4000), .int (iI mtk), .int (iI mtf), .int (iI mtt), .int (iI 0), .int (iI 0), .int (iI mlp), .int (iI mdp), .ref (ma 12), .ref (ma 13), .int (iI msi), .int (iI (bI mdn)), .int (iI mpf), .int (iI mpt)])), (ma 1, .inl (kA 0, 4120, .inl (aI ca))), (ma 4, .inl (kA 0, 400, .inl (aI ctf))), (ma 5, .inl (kA 0, 400, .inl (aI ctt))), (ma 6, .inl (kA 0, 400, .inl (aI cwf))), (ma 7, .inl (kA 0, 400, .inl (aI cwt))), (ma 8, .inl (kA 0, 110, .inl (aI caf))), (ma 9, .inl (kA 0, 110, .inl (aI cat))), (ma 2, .inl (kA 0, 10, .inl (aI cle))), (ma 12, .inl (kA 0, 8, .inl (aI cva))), (ma 13, .inl (kA 0, 8, .inl (aI cpe))), (ma 3, .inl (kA 0, 10, .inl (aI cfr)))] H := hP
  have hD : va_D A [(mo, .inr (10, [.int (iI 0), .ref (ma 0), .int (iI mz), .ref (ma 1), .ref (ma 2), .int (iI mls), .int (iI (-1)), .int (iI mfm), .ref (ma 3), .int (iI mtx), .ref (ma 4), .ref (ma 5), .int (iI mwd), .ref (ma 6), .ref (ma 7), .int (iI mak), .ref (ma 8), .ref (ma 9), .int (iI mli), .int (iI mlx), .ref (ma 10), .ref (ma 11), .int (iI 4000), .int (iI mtk), .int (iI mtf), .int (iI mtt), .int (iI 0), .int (iI 0), .int (iI mlp), .int (iI mdp), .ref (ma 12), .ref (ma 13), .int (iI msi), .int (iI (bI mdn)), .int (iI mpf), .int (iI mpt)])), (ma 1, .inl (kA 0, 4120, .inl (aI ca))), (ma 4, .inl (kA 0, 400, .inl (aI ctf))), (ma 5, .inl (kA 0, 400, .inl (aI ctt))), (ma 6, .inl (kA 0, 400, .inl (aI cwf))), (ma 7, .inl (kA 0, 400, .inl (aI cwt))), (ma 8, .inl (kA 0, 110, .inl (aI caf))), (ma 9, .inl (kA 0, 110, .inl (aI cat))), (ma 2, .inl (kA 0, 10, .inl (aI cle))), (ma 12, .inl (kA 0, 8, .inl (aI cva))), (ma 13, .inl (kA 0, 8, .inl (aI cpe))), (ma 3, .inl (kA 0, 10, .inl (aI cfr)))] := hD
  refine lv_aload_n hx hb d_M_search_27 rfl (lv_at hl 0 rfl) ?_
  refine li_callw (wc := [(mo, .inr (10, [.int (iI 0), .ref (ma 0), .int (iI mz), .ref (ma 1), .ref (ma 2), .int (iI mls), .int (iI (-1)), .int (iI mfm), .ref (ma 3), .int (iI mtx), .ref (ma 4), .ref (ma 5), .int (iI mwd), .ref (ma 6), .ref (ma 7), .int (iI mak), .ref (ma 8), .ref (ma 9), .int (iI mli), .int (iI mlx), .ref (ma 10), .ref (ma 11), .int (iI 4000), .int (iI mtk), .int (iI mtf), .int (iI mtt), .int (iI 0), .int (iI 0), .int (iI mlp), .int (iI mdp), .ref (ma 12), .ref (ma 13), .int (iI msi), .int (iI (bI mdn)), .int (iI mpf), .int (iI mpt)])), (ma 1, .inl (kA 0, 4120, .inl (aI ca))), (ma 4, .inl (kA 0, 400, .inl (aI ctf))), (ma 5, .inl (kA 0, 400, .inl (aI ctt))), (ma 6, .inl (kA 0, 400, .inl (aI cwf))), (ma 7, .inl (kA 0, 400, .inl (aI cwt))), (ma 8, .inl (kA 0, 110, .inl (aI caf))), (ma 9, .inl (kA 0, 110, .inl (aI cat))), (ma 2, .inl (kA 0, 10, .inl (aI cle))), (ma 12, .inl (kA 0, 8, .inl (aI cva))), (ma 13, .inl (kA 0, 8, .inl (aI cpe)))]) (wr := [(ma 3, .inl (kA 0, 10, .inl (aI cfr)))]) (va_runV (As := []) (rest := []) ⟨hx, hb, hml, hown, hts⟩ (c_M_query l dC dI kA H.size mo ma 0 mz mls (-1) mfm mtx mwd mak mli mlx 4000 mtk mtf mtt 0 0 mlp mdp msi mpf mpt mdn ca cle ctf ctt cwf cwt caf cat cva cpe (by exact hca) (by exact hls) (by exact hle) (by exact hRec) (by omega) (by exact hpe) (by omega)) (cw_M_317 hts rfl rfl ⟨Nat.le_of_ble_eq_true rfl, Nat.le_of_ble_eq_true rfl⟩) (li_preV (va_recv hK hP (ci := 10) (q0 := 0) rfl rfl) ⟨rfl, hP.sub [0, 1, 2, 3, 4, 5, 6, 7, 8, 9, 10] rfl, (hD.sub [0, 1, 2, 3, 4, 5, 6, 7, 8, 9, 10] (by decide) rfl).weaken (fun _ _ _ h => hAN _ h), trivial⟩ hK hN (hG.go hS hAN)) rfl rfl hl.1 rfl (lv_room (Nat.le_of_ble_eq_true rfl)) d_M_search_28 ⟨(by show 0 + 0 ≤ 0; omega), (by show 0 + 0 ≤ 0; omega)⟩) hP hD hS hA [0, 1, 2, 3, 4, 5, 6, 7, 8, 9, 10] [11] rfl rfl (by decide) (by decide) (fun u1 H locs hu1 hP hD hS _hk => ?_)
  obtain ⟨n_t, f_t, g_t, n_w, f_w, g_w, n_a, f_a, g_a, q_a, q_b, q_c, q_d, q_e, q_f, q_g, q_h, q_i, q_j, d_q, v_q, p_q, s_q, b_q⟩ := u1
  have hP : va_P (dC, dI) CL [(ma 3, .inl (kA 0, 10, .inl (aI cfr))), (mo, .inr (10, [.int (iI 0), .ref (ma 0), .int (iI mz), .ref (ma 1), .ref (ma 2), .int (iI mls), .int (iI q_f), .int (iI mfm), .ref (ma 3), .int (iI n_t), .ref (ma 4), .ref (ma 5), .int (iI n_w), .ref (ma 6), .ref (ma 7), .int (iI n_a), .ref (ma 8), .ref (ma 9), .int (iI mli), .int (iI mlx), .ref (ma 10), .ref (ma 11), .int (iI q_a), .int (iI q_b), .int (iI q_c), .int (iI q_d), .int (iI q_e), .int (iI q_g), .int (iI q_h), .int (iI d_q), .ref (ma 12), .ref (ma 13), .int (iI s_q), .int (iI (bI b_q)), .int (iI q_i), .int (iI q_j)])), (ma 1, .inl (kA 0, 4120, .inl (aI ca))), (ma 4, .inl (kA 0, 400, .inl (aI f_t))), (ma 5, .inl (kA 0, 400, .inl (aI g_t))), (ma 6, .inl (kA 0, 400, .inl (aI f_w))), (ma 7, .inl (kA 0, 400, .inl (aI g_w))), (ma 8, .inl (kA 0, 110, .inl (aI f_a))), (ma 9, .inl (kA 0, 110, .inl (aI g_a))), (ma 2, .inl (kA 0, 10, .inl (aI cle))), (ma 12, .inl (kA 0, 8, .inl (aI v_q))), (ma 13, .inl (kA 0, 8, .inl (aI p_q)))] H := hP
  have hD : va_D A [(ma 3, .inl (kA 0, 10, .inl (aI cfr))), (mo, .inr (10, [.int (iI 0), .ref (ma 0), .int (iI mz), .ref (ma 1), .ref (ma 2), .int (iI mls), .int (iI q_f), .int (iI mfm), .ref (ma 3), .int (iI n_t), .ref (ma 4), .ref (ma 5), .int (iI n_w), .ref (ma 6), .ref (ma 7), .int (iI n_a), .ref (ma 8), .ref (ma 9), .int (iI mli), .int (iI mlx), .ref (ma 10), .ref (ma 11), .int (iI q_a), .int (iI q_b), .int (iI q_c), .int (iI q_d), .int (iI q_e), .int (iI q_g), .int (iI q_h), .int (iI d_q), .ref (ma 12), .ref (ma 13), .int (iI s_q), .int (iI (bI b_q)), .int (iI q_i), .int (iI q_j)])), (ma 1, .inl (kA 0, 4120, .inl (aI ca))), (ma 4, .inl (kA 0, 400, .inl (aI f_t))), (ma 5, .inl (kA 0, 400, .inl (aI g_t))), (ma 6, .inl (kA 0, 400, .inl (aI f_w))), (ma 7, .inl (kA 0, 400, .inl (aI g_w))), (ma 8, .inl (kA 0, 110, .inl (aI f_a))), (ma 9, .inl (kA 0, 110, .inl (aI g_a))), (ma 2, .inl (kA 0, 10, .inl (aI cle))), (ma 12, .inl (kA 0, 8, .inl (aI v_q))), (ma 13, .inl (kA 0, 8, .inl (aI p_q)))] := hD
  have hp28 : (∃ wa mq, quM ca cle mls cva cpe (PS.mk 4000 mtk mtf mtt 0 (-1) 0 mlp mpf mpt) = QS.mk (PS.mk q_a q_b q_c q_d q_e q_f q_g q_h q_i q_j) d_q v_q p_q wa mq s_q b_q) ∧ (q_e = 0 ∨ q_e = -2) ∧ (q_g = 0 ∨ q_g = -3 ∨ q_g = -4) ∧ -1 ≤ s_q ∧ s_q ≤ 5 ∧ (∀ j, 0 ≤ p_q j ∧ p_q j ≤ 12) ∧ 4000 ≤ q_a ∧ q_a ≤ 4100 ∧ 0 ≤ q_b ∧ q_b ≤ 12 := hu1
  obtain ⟨wq, mq, hqq⟩ := hp28.1
  have h28 := hp28.2
  refine W.eq (g2 := F0 m 31 ls [.int (iI (v_q 0))]) rfl ?_
  refine li_nm (fun st est => ?_)
  refine lv_istore_n (lv' := [(1, .int (iI st)), (0, .ref mo)]) hx hb d_M_search_31 rfl hl (by decide) rfl (fun ls hl => ?_)
  refine lv_aload_n hx hb d_M_search_32 rfl (lv_at hl 1 rfl) ?_
  refine gf_M_224 hx hb hts hown hK hP 1 rfl rfl d_M_search_33 ?_
  refine li_if_eq (tgt := 44) hx hb d_M_search_36 (by decide) (by first | omega | exact toInt_rr _) (fun c2 => ?_) (fun c2 => ?_)
  · have _q := c2
    refine lv_aload_n hx hb d_M_search_44 rfl (lv_at hl 1 rfl) ?_
    refine gf_M_233 hx hb hts hown hK hP 1 rfl rfl d_M_search_45 ?_
    refine li_if_eq (tgt := 64) hx hb d_M_search_48 (by decide) (by first | omega | exact toInt_rr _) (fun c3 => ?_) (fun c3 => ?_)
    · have _q := c3
      refine lv_aload_n hx hb d_M_search_64 rfl (lv_at hl 1 rfl) ?_
      refine lv_iconst (v := iI 0) hx hb d_M_search_65 rfl ?_
      refine pf_M_107 hx hb hts hown hK hP hD hS 1 rfl (Nat.le_of_ble_eq_true rfl) d_M_search_66 (fun H locs hP hD hS => ?_)
      have hP : va_P (dC, dI) CL [(ma 3, .inl (kA 0, 10, .inl (aI cfr))), (mo, .inr (10, [.int (iI 0), .ref (ma 0), .int (iI mz), .ref (ma 1), .ref (ma 2), .int (iI mls), .int (iI q_f), .int (iI 0), .ref (ma 3), .int (iI n_t), .ref (ma 4), .ref (ma 5), .int (iI n_w), .ref (ma 6), .ref (ma 7), .int (iI n_a), .ref (ma 8), .ref (ma 9), .int (iI mli), .int (iI mlx), .ref (ma 10), .ref (ma 11), .int (iI q_a), .int (iI q_b), .int (iI q_c), .int (iI q_d), .int (iI q_e), .int (iI q_g), .int (iI q_h), .int (iI d_q), .ref (ma 12), .ref (ma 13), .int (iI s_q), .int (iI (bI b_q)), .int (iI q_i), .int (iI q_j)])), (ma 1, .inl (kA 0, 4120, .inl (aI ca))), (ma 4, .inl (kA 0, 400, .inl (aI f_t))), (ma 5, .inl (kA 0, 400, .inl (aI g_t))), (ma 6, .inl (kA 0, 400, .inl (aI f_w))), (ma 7, .inl (kA 0, 400, .inl (aI g_w))), (ma 8, .inl (kA 0, 110, .inl (aI f_a))), (ma 9, .inl (kA 0, 110, .inl (aI g_a))), (ma 2, .inl (kA 0, 10, .inl (aI cle))), (ma 12, .inl (kA 0, 8, .inl (aI v_q))), (ma 13, .inl (kA 0, 8, .inl (aI p_q)))] H := hP
      have hD : va_D A [(ma 3, .inl (kA 0, 10, .inl (aI cfr))), (mo, .inr (10, [.int (iI 0), .ref (ma 0), .int (iI mz), .ref (ma 1), .ref (ma 2), .int (iI mls), .int (iI q_f), .int (iI 0), .ref (ma 3), .int (iI n_t), .ref (ma 4), .ref (ma 5), .int (iI n_w), .ref (ma 6), .ref (ma 7), .int (iI n_a), .ref (ma 8), .ref (ma 9), .int (iI mli), .int (iI mlx), .ref (ma 10), .ref (ma 11), .int (iI q_a), .int (iI q_b), .int (iI q_c), .int (iI q_d), .int (iI q_e), .int (iI q_g), .int (iI q_h), .int (iI d_q), .ref (ma 12), .ref (ma 13), .int (iI s_q), .int (iI (bI b_q)), .int (iI q_i), .int (iI q_j)])), (ma 1, .inl (kA 0, 4120, .inl (aI ca))), (ma 4, .inl (kA 0, 400, .inl (aI f_t))), (ma 5, .inl (kA 0, 400, .inl (aI g_t))), (ma 6, .inl (kA 0, 400, .inl (aI f_w))), (ma 7, .inl (kA 0, 400, .inl (aI g_w))), (ma 8, .inl (kA 0, 110, .inl (aI f_a))), (ma 9, .inl (kA 0, 110, .inl (aI g_a))), (ma 2, .inl (kA 0, 10, .inl (aI cle))), (ma 12, .inl (kA 0, 8, .inl (aI v_q))), (ma 13, .inl (kA 0, 8, .inl (aI p_q)))] := hD
      refine lv_iconst (v := iI 0) hx hb d_M_search_69 rfl ?_
      refine lv_istore_n (lv' := [(2, .int (iI 0)), (1, .int (iI st)), (0, .ref mo)]) hx hb d_M_search_70 rfl hl (by decide) rfl (fun ls hl => ?_)
      have K_71 : ∀ (nn_71 : Nat) (r : Int) (fm : Int) (row : Nat → Int) (vn : Int) (vf : Nat → Int) (vt : Nat → Int), (0 ≤ r ∧ r ≤ 10 ∧ 0 ≤ fm ∧ fm ≤ r) → (∀ j : Nat, (j : Int) < fm → PRs cle (row j)) → (foL (ibM ca s_q b_q) st (10 - r).toNat r (fm, row) = foM ca s_q b_q (v_q 0) cfr) → ((10 - (r : Int)).toNat < nn_71) → ∀ (H : Heap) (locs : List Loc), va_P (dC, dI) CL [(ma 3, .inl (kA 0, 10, .inl (aI row))), (mo, .inr (10, [.int (iI 0), .ref (ma 0), .int (iI mz), .ref (ma 1), .ref (ma 2), .int (iI mls), .int (iI q_f), .int (iI fm), .ref (ma 3), .int (iI vn), .ref (ma 4), .ref (ma 5), .int (iI n_w), .ref (ma 6), .ref (ma 7), .int (iI n_a), .ref (ma 8), .ref (ma 9), .int (iI mli), .int (iI mlx), .ref (ma 10), .ref (ma 11), .int (iI q_a), .int (iI q_b), .int (iI q_c), .int (iI q_d), .int (iI q_e), .int (iI q_g), .int (iI q_h), .int (iI d_q), .ref (ma 12), .ref (ma 13), .int (iI s_q), .int (iI (bI b_q)), .int (iI q_i), .int (iI q_j)])), (ma 1, .inl (kA 0, 4120, .inl (aI ca))), (ma 4, .inl (kA 0, 400, .inl (aI vf))), (ma 5, .inl (kA 0, 400, .inl (aI vt))), (ma 6, .inl (kA 0, 400, .inl (aI f_w))), (ma 7, .inl (kA 0, 400, .inl (aI g_w))), (ma 8, .inl (kA 0, 110, .inl (aI f_a))), (ma 9, .inl (kA 0, 110, .inl (aI g_a))), (ma 2, .inl (kA 0, 10, .inl (aI cle))), (ma 12, .inl (kA 0, 8, .inl (aI v_q))), (ma 13, .inl (kA 0, 8, .inl (aI p_q)))] H → va_D A [(ma 3, .inl (kA 0, 10, .inl (aI row))), (mo, .inr (10, [.int (iI 0), .ref (ma 0), .int (iI mz), .ref (ma 1), .ref (ma 2), .int (iI mls), .int (iI q_f), .int (iI fm), .ref (ma 3), .int (iI vn), .ref (ma 4), .ref (ma 5), .int (iI n_w), .ref (ma 6), .ref (ma 7), .int (iI n_a), .ref (ma 8), .ref (ma 9), .int (iI mli), .int (iI mlx), .ref (ma 10), .ref (ma 11), .int (iI q_a), .int (iI q_b), .int (iI q_c), .int (iI q_d), .int (iI q_e), .int (iI q_g), .int (iI q_h), .int (iI d_q), .ref (ma 12), .ref (ma 13), .int (iI s_q), .int (iI (bI b_q)), .int (iI q_i), .int (iI q_j)])), (ma 1, .inl (kA 0, 4120, .inl (aI ca))), (ma 4, .inl (kA 0, 400, .inl (aI vf))), (ma 5, .inl (kA 0, 400, .inl (aI vt))), (ma 6, .inl (kA 0, 400, .inl (aI f_w))), (ma 7, .inl (kA 0, 400, .inl (aI g_w))), (ma 8, .inl (kA 0, 110, .inl (aI f_a))), (ma 9, .inl (kA 0, 110, .inl (aI g_a))), (ma 2, .inl (kA 0, 10, .inl (aI cle))), (ma 12, .inl (kA 0, 8, .inl (aI v_q))), (ma 13, .inl (kA 0, 8, .inl (aI p_q)))] → va_S A s.heap H locs → ∀ ls : Array Slot, lv_has ls 4 [(2, .int (iI r)), (1, .int (iI st)), (0, .ref mo)] → W p l e (rmd 9 0 0) s m args below meth c H locs 0 0 Q (F0 m 71 ls []) := by
        intro nn_71
        induction nn_71 with
        | zero => intro r fm row vn vf vt hr9 hrow hres hm; exact absurd hm (Nat.not_lt_zero _)
        | succ nn_71 ih_71 =>
          intro r fm row vn vf vt hr9 hrow hres hm_71 H locs hP hD hS ls hl
          refine lv_iload_n hx hb d_M_search_71 rfl (lv_at hl 0 rfl) ?_
          refine lv_bipush (v := iI 10) hx hb d_M_search_72 (by decide) ?_
          refine li_icmp_ge (tgt := 154) hx hb d_M_search_74 (by decide) (by first | omega | exact toInt_rr _) (by first | omega | exact toInt_rr _) (fun c4 => ?_) (fun c4 => ?_)
          · have _q := c4
            rw [show (10 - r).toNat = 0 by omega] at hres
            simp only [foL] at hres
            refine lv_aload_n hx hb d_M_search_154 rfl (lv_at hl 2 rfl) ?_
            refine gf_M_107 hx hb hts hown hK hP 1 rfl rfl d_M_search_155 ?_
            exact fin (vn, vf, vt, n_w, f_w, g_w, n_a, f_a, g_a, q_a, q_b, q_c, q_d, q_e, q_f, q_g, q_h, q_i, q_j, d_q, v_q, p_q, s_q, b_q, fm, row, fm) _ _ _ _ _ (by rfl) (by show (∃ wa mq fp0, quM ca cle mls cva cpe (PS.mk 4000 mtk mtf mtt 0 (-1) 0 mlp mpf mpt) = QS.mk (PS.mk q_a q_b q_c q_d q_e fp0 q_g q_h q_i q_j) d_q v_q p_q wa mq s_q b_q ∧ ((¬ q_e = 0 ∧ fm = q_e ∧ q_f = fp0 ∧ fm = mfm ∧ row = cfr) ∨ (q_e = 0 ∧ ¬ q_g = 0 ∧ fm = q_g ∧ q_f = q_h ∧ fm = mfm ∧ row = cfr) ∨ (q_e = 0 ∧ q_g = 0 ∧ fm = fm ∧ q_f = fp0 ∧ (fm, row) = foM ca s_q b_q (v_q 0) cfr ∧ 0 ≤ fm ∧ fm ≤ 10 ∧ (∀ j : Nat, (j : Int) < fm → PRs cle (row j))))) ∧ (∀ j, 0 ≤ p_q j ∧ p_q j ≤ 12) ∧ -1 ≤ s_q ∧ s_q ≤ 5; exact ⟨⟨_, _, _, hqq, Or.inr (Or.inr ⟨by omega, by omega, rfl, rfl, hres, by omega, by omega, hrow⟩)⟩, h28.2.2.2.2.1, by omega, by omega⟩) (by first | exact hP.sub [1, 2, 3, 4, 5, 6, 7, 8, 9, 10, 11, 0] rfl | (subst_vars; exact hP.sub [1, 2, 3, 4, 5, 6, 7, 8, 9, 10, 11, 0] rfl)) (by first | exact hD.sub [1, 2, 3, 4, 5, 6, 7, 8, 9, 10, 11, 0] (by decide) rfl | (subst_vars; exact hD.sub [1, 2, 3, 4, 5, 6, 7, 8, 9, 10, 11, 0] (by decide) rfl)) hS d_M_search_158
          · have _q := c4
            rw [show (10 - r).toNat = (10 - (r + 1)).toNat + 1 by omega] at hres
            simp only [foL] at hres
            refine lv_iload_n hx hb d_M_search_77 rfl (lv_at hl 1 rfl) ?_
            refine lv_iload_n hx hb d_M_search_78 rfl (lv_at hl 0 rfl) ?_
            refine li_ishrI hx hb d_M_search_79 ?_
            refine lv_iconst (v := iI 1) hx hb d_M_search_80 rfl ?_
            refine li_iandI hx hb d_M_search_81 ?_
            refine lv_iconst (v := iI 1) hx hb d_M_search_82 rfl ?_
            refine li_icmp_ne (tgt := 148) hx hb d_M_search_83 (by decide) (by first | omega | exact toInt_rr _) (by first | omega | exact toInt_rr _) (fun c5 => ?_) (fun c5 => ?_)
            · have _q := c5
              rw [if_neg (by assumption)] at hres
              obtain ⟨r_n, er_n⟩ : ∃ y_9 : Int, y_9 = r + 1 := ⟨_, rfl⟩
              refine lv_iinc (v := iI r_n) (lv' := [(2, .int (iI r_n)), (1, .int (iI st)), (0, .ref mo)]) hx hb d_M_search_148 hl (k := 0) rfl (by rw [er_n]; exact iI_add _ _) (by decide) rfl (fun ls hl => ?_)
              refine lv_goto (tgt := 71) hx hb d_M_search_151 (by decide) ?_
              exact ih_71 r_n fm row vn vf vt (by omega) (by intro j hj; first | (exfalso; omega) | exact hrow j (by omega)) (by first | (rw [er_n]; exact hres) | (rw [est]; rfl)) (by omega) _ _ hP hD hS _ (lv_sub hl [0, 1, 2] rfl)
            · have _q := c5
              rw [if_pos (by assumption)] at hres
              have hrp := hGd r (by omega) (by omega) (by rw [hqq]; show q_e = 0; omega) (by rw [hqq]; show andI (shrI (v_q 0) r) 1 = 1; rw [← est]; assumption)
              refine lv_aload_n hx hb d_M_search_86 rfl (lv_at hl 2 rfl) ?_
              refine gf_M_107 hx hb hts hown hK hP 1 rfl rfl d_M_search_87 ?_
              refine lv_istore_n (lv' := [(3, .int (iI fm)), (2, .int (iI r)), (1, .int (iI st)), (0, .ref mo)]) hx hb d_M_search_90 rfl hl (by decide) rfl (fun ls hl => ?_)
              have K_91 : ∀ (nn_91 : Nat) (k : Int) (ro2 : Nat → Int) (vn : Int) (vf : Nat → Int) (vt : Nat → Int), (0 ≤ k ∧ k ≤ fm) → (∀ j : Nat, (j : Int) ≤ fm → ¬ (j : Int) = k → PRs cle (ro2 j)) → (fiL (ibM ca s_q b_q) r k.toNat ro2 = fiL (ibM ca s_q b_q) r fm.toNat row) → (k.toNat < nn_91) → ∀ (H : Heap) (locs : List Loc), va_P (dC, dI) CL [(ma 3, .inl (kA 0, 10, .inl (aI ro2))), (mo, .inr (10, [.int (iI 0), .ref (ma 0), .int (iI mz), .ref (ma 1), .ref (ma 2), .int (iI mls), .int (iI q_f), .int (iI fm), .ref (ma 3), .int (iI vn), .ref (ma 4), .ref (ma 5), .int (iI n_w), .ref (ma 6), .ref (ma 7), .int (iI n_a), .ref (ma 8), .ref (ma 9), .int (iI mli), .int (iI mlx), .ref (ma 10), .ref (ma 11), .int (iI q_a), .int (iI q_b), .int (iI q_c), .int (iI q_d), .int (iI q_e), .int (iI q_g), .int (iI q_h), .int (iI d_q), .ref (ma 12), .ref (ma 13), .int (iI s_q), .int (iI (bI b_q)), .int (iI q_i), .int (iI q_j)])), (ma 1, .inl (kA 0, 4120, .inl (aI ca))), (ma 4, .inl (kA 0, 400, .inl (aI vf))), (ma 5, .inl (kA 0, 400, .inl (aI vt))), (ma 6, .inl (kA 0, 400, .inl (aI f_w))), (ma 7, .inl (kA 0, 400, .inl (aI g_w))), (ma 8, .inl (kA 0, 110, .inl (aI f_a))), (ma 9, .inl (kA 0, 110, .inl (aI g_a))), (ma 2, .inl (kA 0, 10, .inl (aI cle))), (ma 12, .inl (kA 0, 8, .inl (aI v_q))), (ma 13, .inl (kA 0, 8, .inl (aI p_q)))] H → va_D A [(ma 3, .inl (kA 0, 10, .inl (aI ro2))), (mo, .inr (10, [.int (iI 0), .ref (ma 0), .int (iI mz), .ref (ma 1), .ref (ma 2), .int (iI mls), .int (iI q_f), .int (iI fm), .ref (ma 3), .int (iI vn), .ref (ma 4), .ref (ma 5), .int (iI n_w), .ref (ma 6), .ref (ma 7), .int (iI n_a), .ref (ma 8), .ref (ma 9), .int (iI mli), .int (iI mlx), .ref (ma 10), .ref (ma 11), .int (iI q_a), .int (iI q_b), .int (iI q_c), .int (iI q_d), .int (iI q_e), .int (iI q_g), .int (iI q_h), .int (iI d_q), .ref (ma 12), .ref (ma 13), .int (iI s_q), .int (iI (bI b_q)), .int (iI q_i), .int (iI q_j)])), (ma 1, .inl (kA 0, 4120, .inl (aI ca))), (ma 4, .inl (kA 0, 400, .inl (aI vf))), (ma 5, .inl (kA 0, 400, .inl (aI vt))), (ma 6, .inl (kA 0, 400, .inl (aI f_w))), (ma 7, .inl (kA 0, 400, .inl (aI g_w))), (ma 8, .inl (kA 0, 110, .inl (aI f_a))), (ma 9, .inl (kA 0, 110, .inl (aI g_a))), (ma 2, .inl (kA 0, 10, .inl (aI cle))), (ma 12, .inl (kA 0, 8, .inl (aI v_q))), (ma 13, .inl (kA 0, 8, .inl (aI p_q)))] → va_S A s.heap H locs → ∀ ls : Array Slot, lv_has ls 4 [(3, .int (iI k)), (2, .int (iI r)), (1, .int (iI st)), (0, .ref mo)] → W p l e (rmd 9 0 0) s m args below meth c H locs 0 0 Q (F0 m 91 ls []) := by
                intro nn_91
                induction nn_91 with
                | zero => intro k ro2 vn vf vt hk9 hro hin hm; exact absurd hm (Nat.not_lt_zero _)
                | succ nn_91 ih_91 =>
                  intro k ro2 vn vf vt hk9 hro hin hm_91 H locs hP hD hS ls hl
                  refine lv_iload_n hx hb d_M_search_91 rfl (lv_at hl 0 rfl) ?_
                  refine li_if_le (tgt := 131) hx hb d_M_search_92 (by decide) (by first | omega | exact toInt_rr _) (fun c6 => ?_) (fun c6 => ?_)
                  · have _q := c6
                    rw [show k.toNat = 0 by omega] at hin
                    simp only [fiL] at hin
                    refine lv_aload_n hx hb d_M_search_131 rfl (lv_at hl 3 rfl) ?_
                    refine gf_M_23 hx hb hts hown hK hP 1 rfl rfl d_M_search_132 ?_
                    refine lv_iload_n hx hb d_M_search_135 rfl (lv_at hl 0 rfl) ?_
                    refine lv_iload_n hx hb d_M_search_136 rfl (lv_at hl 1 rfl) ?_
                    refine li_iast hx hb hK hP hD hS 0 0 rfl rfl (by omega) (by omega) (by omega) d_M_search_137 (fun H locs hP hD hS => ?_)
                    have hP : va_P (dC, dI) CL [(ma 3, .inl (kA 0, 10, .inl (aI (va_up ro2 k.toNat r)))), (mo, .inr (10, [.int (iI 0), .ref (ma 0), .int (iI mz), .ref (ma 1), .ref (ma 2), .int (iI mls), .int (iI q_f), .int (iI fm), .ref (ma 3), .int (iI vn), .ref (ma 4), .ref (ma 5), .int (iI n_w), .ref (ma 6), .ref (ma 7), .int (iI n_a), .ref (ma 8), .ref (ma 9), .int (iI mli), .int (iI mlx), .ref (ma 10), .ref (ma 11), .int (iI q_a), .int (iI q_b), .int (iI q_c), .int (iI q_d), .int (iI q_e), .int (iI q_g), .int (iI q_h), .int (iI d_q), .ref (ma 12), .ref (ma 13), .int (iI s_q), .int (iI (bI b_q)), .int (iI q_i), .int (iI q_j)])), (ma 1, .inl (kA 0, 4120, .inl (aI ca))), (ma 4, .inl (kA 0, 400, .inl (aI vf))), (ma 5, .inl (kA 0, 400, .inl (aI vt))), (ma 6, .inl (kA 0, 400, .inl (aI f_w))), (ma 7, .inl (kA 0, 400, .inl (aI g_w))), (ma 8, .inl (kA 0, 110, .inl (aI f_a))), (ma 9, .inl (kA 0, 110, .inl (aI g_a))), (ma 2, .inl (kA 0, 10, .inl (aI cle))), (ma 12, .inl (kA 0, 8, .inl (aI v_q))), (ma 13, .inl (kA 0, 8, .inl (aI p_q)))] H := hP
                    have hD : va_D A [(ma 3, .inl (kA 0, 10, .inl (aI (va_up ro2 k.toNat r)))), (mo, .inr (10, [.int (iI 0), .ref (ma 0), .int (iI mz), .ref (ma 1), .ref (ma 2), .int (iI mls), .int (iI q_f), .int (iI fm), .ref (ma 3), .int (iI vn), .ref (ma 4), .ref (ma 5), .int (iI n_w), .ref (ma 6), .ref (ma 7), .int (iI n_a), .ref (ma 8), .ref (ma 9), .int (iI mli), .int (iI mlx), .ref (ma 10), .ref (ma 11), .int (iI q_a), .int (iI q_b), .int (iI q_c), .int (iI q_d), .int (iI q_e), .int (iI q_g), .int (iI q_h), .int (iI d_q), .ref (ma 12), .ref (ma 13), .int (iI s_q), .int (iI (bI b_q)), .int (iI q_i), .int (iI q_j)])), (ma 1, .inl (kA 0, 4120, .inl (aI ca))), (ma 4, .inl (kA 0, 400, .inl (aI vf))), (ma 5, .inl (kA 0, 400, .inl (aI vt))), (ma 6, .inl (kA 0, 400, .inl (aI f_w))), (ma 7, .inl (kA 0, 400, .inl (aI g_w))), (ma 8, .inl (kA 0, 110, .inl (aI f_a))), (ma 9, .inl (kA 0, 110, .inl (aI g_a))), (ma 2, .inl (kA 0, 10, .inl (aI cle))), (ma 12, .inl (kA 0, 8, .inl (aI v_q))), (ma 13, .inl (kA 0, 8, .inl (aI p_q)))] := hD
                    refine lv_aload_n hx hb d_M_search_138 rfl (lv_at hl 3 rfl) ?_
                    refine lv_dup hx hb d_M_search_139 rfl ?_
                    refine gf_M_107 hx hb hts hown hK hP 1 rfl rfl d_M_search_140 ?_
                    refine lv_iconst (v := iI 1) hx hb d_M_search_143 rfl ?_
                    refine li_iadd hx hb d_M_search_144 ?_
                    refine li_nm (fun m_n em_n => ?_)
                    refine pf_M_107 hx hb hts hown hK hP hD hS 1 rfl (Nat.le_of_ble_eq_true rfl) d_M_search_145 (fun H locs hP hD hS => ?_)
                    have hP : va_P (dC, dI) CL [(ma 3, .inl (kA 0, 10, .inl (aI (va_up ro2 k.toNat r)))), (mo, .inr (10, [.int (iI 0), .ref (ma 0), .int (iI mz), .ref (ma 1), .ref (ma 2), .int (iI mls), .int (iI q_f), .int (iI m_n), .ref (ma 3), .int (iI vn), .ref (ma 4), .ref (ma 5), .int (iI n_w), .ref (ma 6), .ref (ma 7), .int (iI n_a), .ref (ma 8), .ref (ma 9), .int (iI mli), .int (iI mlx), .ref (ma 10), .ref (ma 11), .int (iI q_a), .int (iI q_b), .int (iI q_c), .int (iI q_d), .int (iI q_e), .int (iI q_g), .int (iI q_h), .int (iI d_q), .ref (ma 12), .ref (ma 13), .int (iI s_q), .int (iI (bI b_q)), .int (iI q_i), .int (iI q_j)])), (ma 1, .inl (kA 0, 4120, .inl (aI ca))), (ma 4, .inl (kA 0, 400, .inl (aI vf))), (ma 5, .inl (kA 0, 400, .inl (aI vt))), (ma 6, .inl (kA 0, 400, .inl (aI f_w))), (ma 7, .inl (kA 0, 400, .inl (aI g_w))), (ma 8, .inl (kA 0, 110, .inl (aI f_a))), (ma 9, .inl (kA 0, 110, .inl (aI g_a))), (ma 2, .inl (kA 0, 10, .inl (aI cle))), (ma 12, .inl (kA 0, 8, .inl (aI v_q))), (ma 13, .inl (kA 0, 8, .inl (aI p_q)))] H := hP
                    have hD : va_D A [(ma 3, .inl (kA 0, 10, .inl (aI (va_up ro2 k.toNat r)))), (mo, .inr (10, [.int (iI 0), .ref (ma 0), .int (iI mz), .ref (ma 1), .ref (ma 2), .int (iI mls), .int (iI q_f), .int (iI m_n), .ref (ma 3), .int (iI vn), .ref (ma 4), .ref (ma 5), .int (iI n_w), .ref (ma 6), .ref (ma 7), .int (iI n_a), .ref (ma 8), .ref (ma 9), .int (iI mli), .int (iI mlx), .ref (ma 10), .ref (ma 11), .int (iI q_a), .int (iI q_b), .int (iI q_c), .int (iI q_d), .int (iI q_e), .int (iI q_g), .int (iI q_h), .int (iI d_q), .ref (ma 12), .ref (ma 13), .int (iI s_q), .int (iI (bI b_q)), .int (iI q_i), .int (iI q_j)])), (ma 1, .inl (kA 0, 4120, .inl (aI ca))), (ma 4, .inl (kA 0, 400, .inl (aI vf))), (ma 5, .inl (kA 0, 400, .inl (aI vt))), (ma 6, .inl (kA 0, 400, .inl (aI f_w))), (ma 7, .inl (kA 0, 400, .inl (aI g_w))), (ma 8, .inl (kA 0, 110, .inl (aI f_a))), (ma 9, .inl (kA 0, 110, .inl (aI g_a))), (ma 2, .inl (kA 0, 10, .inl (aI cle))), (ma 12, .inl (kA 0, 8, .inl (aI v_q))), (ma 13, .inl (kA 0, 8, .inl (aI p_q)))] := hD
                    obtain ⟨r_n, er_n⟩ : ∃ y_9 : Int, y_9 = r + 1 := ⟨_, rfl⟩
                    refine lv_iinc (v := iI r_n) (lv' := [(2, .int (iI r_n)), (3, .int (iI k)), (1, .int (iI st)), (0, .ref mo)]) hx hb d_M_search_148 hl (k := 1) rfl (by rw [er_n]; exact iI_add _ _) (by decide) rfl (fun ls hl => ?_)
                    refine lv_goto (tgt := 71) hx hb d_M_search_151 (by decide) ?_
                    exact ih_71 r_n m_n (va_up ro2 k.toNat r) vn vf vt (by omega) (by intro j hj; unfold va_up; split; (exact ⟨by omega, by omega, hrp⟩); exact hro j (by omega) (by omega)) (by rw [er_n, em_n, ← hres, ← hin]; first | (rw [show (k - 1).toNat + 1 = k.toNat by omega]) | (rw [show k.toNat = 0 by omega])) (by omega) _ _ hP hD hS _ (lv_sub hl [0, 2, 3] rfl)
                  · have _q := c6
                    rw [show k.toNat = (k - 1).toNat + 1 by omega] at hin
                    simp only [fiL] at hin
                    have hrk := hro (k - 1).toNat (by omega) (by omega)
                    refine lv_aload_n hx hb d_M_search_95 rfl (lv_at hl 3 rfl) ?_
                    refine lv_iload_n hx hb d_M_search_96 rfl (lv_at hl 1 rfl) ?_
                    refine lv_aload_n hx hb d_M_search_97 rfl (lv_at hl 3 rfl) ?_
                    refine gf_M_23 hx hb hts hown hK hP 1 rfl rfl d_M_search_98 ?_
                    refine lv_iload_n hx hb d_M_search_101 rfl (lv_at hl 0 rfl) ?_
                    refine lv_iconst (v := iI 1) hx hb d_M_search_102 rfl ?_
                    refine li_isub hx hb d_M_search_103 ?_
                    refine li_iald hx hb hK hP 0 0 rfl rfl (by omega) (by omega) (by omega) d_M_search_104 ?_
                    refine li_callw (wc := [(mo, .inr (10, [.int (iI 0), .ref (ma 0), .int (iI mz), .ref (ma 1), .ref (ma 2), .int (iI mls), .int (iI q_f), .int (iI fm), .ref (ma 3), .int (iI vn), .ref (ma 4), .ref (ma 5), .int (iI n_w), .ref (ma 6), .ref (ma 7), .int (iI n_a), .ref (ma 8), .ref (ma 9), .int (iI mli), .int (iI mlx), .ref (ma 10), .ref (ma 11), .int (iI q_a), .int (iI q_b), .int (iI q_c), .int (iI q_d), .int (iI q_e), .int (iI q_g), .int (iI q_h), .int (iI d_q), .ref (ma 12), .ref (ma 13), .int (iI s_q), .int (iI (bI b_q)), .int (iI q_i), .int (iI q_j)])), (ma 1, .inl (kA 0, 4120, .inl (aI ca))), (ma 4, .inl (kA 0, 400, .inl (aI vf))), (ma 5, .inl (kA 0, 400, .inl (aI vt)))]) (wr := [(ma 3, .inl (kA 0, 10, .inl (aI ro2))), (ma 6, .inl (kA 0, 400, .inl (aI f_w))), (ma 7, .inl (kA 0, 400, .inl (aI g_w))), (ma 8, .inl (kA 0, 110, .inl (aI f_a))), (ma 9, .inl (kA 0, 110, .inl (aI g_a))), (ma 2, .inl (kA 0, 10, .inl (aI cle))), (ma 12, .inl (kA 0, 8, .inl (aI v_q))), (ma 13, .inl (kA 0, 8, .inl (aI p_q)))]) (va_runV (As := [.int (iI r), .int (iI (ro2 ((k - 1).toNat)))]) (rest := []) ⟨hx, hb, hml, hown, hts⟩ (c_M_isBefore l dC dI kA H.size mo ma 0 mz mls q_f fm vn n_w n_a mli mlx q_a q_b q_c q_d q_e q_g q_h d_q s_q q_i q_j b_q ca vf vt r (ro2 ((k - 1).toNat)) ((cle r.toNat).toNat) ((cle (ro2 (k - 1).toNat).toNat).toNat) (by exact hca) (by exact ⟨by omega, by omega, hrk.1, hrk.2.1⟩) (by exact hRec r (by omega) (by omega) hrp) (by exact hRec _ hrk.1 hrk.2.1 hrk.2.2) (by omega) (by exact (gaT_LB (by omega) (hRec r (by omega) (by omega) hrp)).wide (by omega) (by omega)) (by exact (gaT_LB ⟨hrk.1, hrk.2.1⟩ (hRec _ hrk.1 hrk.2.1 hrk.2.2)).wide (by have := hrk.1; omega) (by have := hrk.2.1; omega))) (cw_M_320 hts rfl rfl ⟨Nat.le_of_ble_eq_true rfl, Nat.le_of_ble_eq_true rfl⟩) (li_preV (va_recv hK hP (ci := 10) (q0 := 1) rfl rfl) ⟨rfl, hP.sub [1, 2, 3, 4] rfl, (hD.sub [1, 2, 3, 4] (by decide) rfl).weaken (fun _ _ _ h => hAN _ h), trivial⟩ hK hN (hG.go hS hAN)) rfl rfl hl.1 rfl (lv_room (Nat.le_of_ble_eq_true rfl)) d_M_search_105 ⟨(by show 0 + 0 ≤ 0; omega), (by show 0 + 0 ≤ 0; omega)⟩) hP hD hS hA [1, 2, 3, 4] [0, 5, 6, 7, 8, 9, 10, 11] rfl rfl (by decide) (by decide) (fun u7 H locs hu7 hP hD hS _hk => ?_)
                    obtain ⟨n_s, f_s, g_s⟩ := u7
                    have hP : va_P (dC, dI) CL [(ma 3, .inl (kA 0, 10, .inl (aI ro2))), (ma 6, .inl (kA 0, 400, .inl (aI f_w))), (ma 7, .inl (kA 0, 400, .inl (aI g_w))), (ma 8, .inl (kA 0, 110, .inl (aI f_a))), (ma 9, .inl (kA 0, 110, .inl (aI g_a))), (ma 2, .inl (kA 0, 10, .inl (aI cle))), (ma 12, .inl (kA 0, 8, .inl (aI v_q))), (ma 13, .inl (kA 0, 8, .inl (aI p_q))), (mo, .inr (10, [.int (iI 0), .ref (ma 0), .int (iI mz), .ref (ma 1), .ref (ma 2), .int (iI mls), .int (iI q_f), .int (iI fm), .ref (ma 3), .int (iI n_s), .ref (ma 4), .ref (ma 5), .int (iI n_w), .ref (ma 6), .ref (ma 7), .int (iI n_a), .ref (ma 8), .ref (ma 9), .int (iI mli), .int (iI mlx), .ref (ma 10), .ref (ma 11), .int (iI q_a), .int (iI q_b), .int (iI q_c), .int (iI q_d), .int (iI q_e), .int (iI q_g), .int (iI q_h), .int (iI d_q), .ref (ma 12), .ref (ma 13), .int (iI s_q), .int (iI (bI b_q)), .int (iI q_i), .int (iI q_j)])), (ma 1, .inl (kA 0, 4120, .inl (aI ca))), (ma 4, .inl (kA 0, 400, .inl (aI f_s))), (ma 5, .inl (kA 0, 400, .inl (aI g_s)))] H := hP
                    have hD : va_D A [(ma 3, .inl (kA 0, 10, .inl (aI ro2))), (ma 6, .inl (kA 0, 400, .inl (aI f_w))), (ma 7, .inl (kA 0, 400, .inl (aI g_w))), (ma 8, .inl (kA 0, 110, .inl (aI f_a))), (ma 9, .inl (kA 0, 110, .inl (aI g_a))), (ma 2, .inl (kA 0, 10, .inl (aI cle))), (ma 12, .inl (kA 0, 8, .inl (aI v_q))), (ma 13, .inl (kA 0, 8, .inl (aI p_q))), (mo, .inr (10, [.int (iI 0), .ref (ma 0), .int (iI mz), .ref (ma 1), .ref (ma 2), .int (iI mls), .int (iI q_f), .int (iI fm), .ref (ma 3), .int (iI n_s), .ref (ma 4), .ref (ma 5), .int (iI n_w), .ref (ma 6), .ref (ma 7), .int (iI n_a), .ref (ma 8), .ref (ma 9), .int (iI mli), .int (iI mlx), .ref (ma 10), .ref (ma 11), .int (iI q_a), .int (iI q_b), .int (iI q_c), .int (iI q_d), .int (iI q_e), .int (iI q_g), .int (iI q_h), .int (iI d_q), .ref (ma 12), .ref (ma 13), .int (iI s_q), .int (iI (bI b_q)), .int (iI q_i), .int (iI q_j)])), (ma 1, .inl (kA 0, 4120, .inl (aI ca))), (ma 4, .inl (kA 0, 400, .inl (aI f_s))), (ma 5, .inl (kA 0, 400, .inl (aI g_s)))] := hD
                    refine W.eq (g2 := F0 m 108 ls [.int (iI (bI (ibM ca s_q b_q r (ro2 ((k - 1).toNat)))))]) rfl ?_
                    refine li_bz (tgt := 131) hx hb d_M_search_108 (by decide) (fun c8 => ?_) (fun c8 => ?_)
                    · have _q := c8
                      rw [if_neg (nbt (by assumption))] at hin
                      refine lv_aload_n hx hb d_M_search_131 rfl (lv_at hl 3 rfl) ?_
                      refine gf_M_23 hx hb hts hown hK hP 8 rfl rfl d_M_search_132 ?_
                      refine lv_iload_n hx hb d_M_search_135 rfl (lv_at hl 0 rfl) ?_
                      refine lv_iload_n hx hb d_M_search_136 rfl (lv_at hl 1 rfl) ?_
                      refine li_iast hx hb hK hP hD hS 0 0 rfl rfl (by omega) (by omega) (by omega) d_M_search_137 (fun H locs hP hD hS => ?_)
                      have hP : va_P (dC, dI) CL [(ma 3, .inl (kA 0, 10, .inl (aI (va_up ro2 k.toNat r)))), (ma 6, .inl (kA 0, 400, .inl (aI f_w))), (ma 7, .inl (kA 0, 400, .inl (aI g_w))), (ma 8, .inl (kA 0, 110, .inl (aI f_a))), (ma 9, .inl (kA 0, 110, .inl (aI g_a))), (ma 2, .inl (kA 0, 10, .inl (aI cle))), (ma 12, .inl (kA 0, 8, .inl (aI v_q))), (ma 13, .inl (kA 0, 8, .inl (aI p_q))), (mo, .inr (10, [.int (iI 0), .ref (ma 0), .int (iI mz), .ref (ma 1), .ref (ma 2), .int (iI mls), .int (iI q_f), .int (iI fm), .ref (ma 3), .int (iI n_s), .ref (ma 4), .ref (ma 5), .int (iI n_w), .ref (ma 6), .ref (ma 7), .int (iI n_a), .ref (ma 8), .ref (ma 9), .int (iI mli), .int (iI mlx), .ref (ma 10), .ref (ma 11), .int (iI q_a), .int (iI q_b), .int (iI q_c), .int (iI q_d), .int (iI q_e), .int (iI q_g), .int (iI q_h), .int (iI d_q), .ref (ma 12), .ref (ma 13), .int (iI s_q), .int (iI (bI b_q)), .int (iI q_i), .int (iI q_j)])), (ma 1, .inl (kA 0, 4120, .inl (aI ca))), (ma 4, .inl (kA 0, 400, .inl (aI f_s))), (ma 5, .inl (kA 0, 400, .inl (aI g_s)))] H := hP
                      have hD : va_D A [(ma 3, .inl (kA 0, 10, .inl (aI (va_up ro2 k.toNat r)))), (ma 6, .inl (kA 0, 400, .inl (aI f_w))), (ma 7, .inl (kA 0, 400, .inl (aI g_w))), (ma 8, .inl (kA 0, 110, .inl (aI f_a))), (ma 9, .inl (kA 0, 110, .inl (aI g_a))), (ma 2, .inl (kA 0, 10, .inl (aI cle))), (ma 12, .inl (kA 0, 8, .inl (aI v_q))), (ma 13, .inl (kA 0, 8, .inl (aI p_q))), (mo, .inr (10, [.int (iI 0), .ref (ma 0), .int (iI mz), .ref (ma 1), .ref (ma 2), .int (iI mls), .int (iI q_f), .int (iI fm), .ref (ma 3), .int (iI n_s), .ref (ma 4), .ref (ma 5), .int (iI n_w), .ref (ma 6), .ref (ma 7), .int (iI n_a), .ref (ma 8), .ref (ma 9), .int (iI mli), .int (iI mlx), .ref (ma 10), .ref (ma 11), .int (iI q_a), .int (iI q_b), .int (iI q_c), .int (iI q_d), .int (iI q_e), .int (iI q_g), .int (iI q_h), .int (iI d_q), .ref (ma 12), .ref (ma 13), .int (iI s_q), .int (iI (bI b_q)), .int (iI q_i), .int (iI q_j)])), (ma 1, .inl (kA 0, 4120, .inl (aI ca))), (ma 4, .inl (kA 0, 400, .inl (aI f_s))), (ma 5, .inl (kA 0, 400, .inl (aI g_s)))] := hD
                      refine lv_aload_n hx hb d_M_search_138 rfl (lv_at hl 3 rfl) ?_
                      refine lv_dup hx hb d_M_search_139 rfl ?_
                      refine gf_M_107 hx hb hts hown hK hP 8 rfl rfl d_M_search_140 ?_
                      refine lv_iconst (v := iI 1) hx hb d_M_search_143 rfl ?_
                      refine li_iadd hx hb d_M_search_144 ?_
                      refine li_nm (fun m_n em_n => ?_)
                      refine pf_M_107 hx hb hts hown hK hP hD hS 8 rfl (Nat.le_of_ble_eq_true rfl) d_M_search_145 (fun H locs hP hD hS => ?_)
                      have hP : va_P (dC, dI) CL [(ma 3, .inl (kA 0, 10, .inl (aI (va_up ro2 k.toNat r)))), (ma 6, .inl (kA 0, 400, .inl (aI f_w))), (ma 7, .inl (kA 0, 400, .inl (aI g_w))), (ma 8, .inl (kA 0, 110, .inl (aI f_a))), (ma 9, .inl (kA 0, 110, .inl (aI g_a))), (ma 2, .inl (kA 0, 10, .inl (aI cle))), (ma 12, .inl (kA 0, 8, .inl (aI v_q))), (ma 13, .inl (kA 0, 8, .inl (aI p_q))), (mo, .inr (10, [.int (iI 0), .ref (ma 0), .int (iI mz), .ref (ma 1), .ref (ma 2), .int (iI mls), .int (iI q_f), .int (iI m_n), .ref (ma 3), .int (iI n_s), .ref (ma 4), .ref (ma 5), .int (iI n_w), .ref (ma 6), .ref (ma 7), .int (iI n_a), .ref (ma 8), .ref (ma 9), .int (iI mli), .int (iI mlx), .ref (ma 10), .ref (ma 11), .int (iI q_a), .int (iI q_b), .int (iI q_c), .int (iI q_d), .int (iI q_e), .int (iI q_g), .int (iI q_h), .int (iI d_q), .ref (ma 12), .ref (ma 13), .int (iI s_q), .int (iI (bI b_q)), .int (iI q_i), .int (iI q_j)])), (ma 1, .inl (kA 0, 4120, .inl (aI ca))), (ma 4, .inl (kA 0, 400, .inl (aI f_s))), (ma 5, .inl (kA 0, 400, .inl (aI g_s)))] H := hP
                      have hD : va_D A [(ma 3, .inl (kA 0, 10, .inl (aI (va_up ro2 k.toNat r)))), (ma 6, .inl (kA 0, 400, .inl (aI f_w))), (ma 7, .inl (kA 0, 400, .inl (aI g_w))), (ma 8, .inl (kA 0, 110, .inl (aI f_a))), (ma 9, .inl (kA 0, 110, .inl (aI g_a))), (ma 2, .inl (kA 0, 10, .inl (aI cle))), (ma 12, .inl (kA 0, 8, .inl (aI v_q))), (ma 13, .inl (kA 0, 8, .inl (aI p_q))), (mo, .inr (10, [.int (iI 0), .ref (ma 0), .int (iI mz), .ref (ma 1), .ref (ma 2), .int (iI mls), .int (iI q_f), .int (iI m_n), .ref (ma 3), .int (iI n_s), .ref (ma 4), .ref (ma 5), .int (iI n_w), .ref (ma 6), .ref (ma 7), .int (iI n_a), .ref (ma 8), .ref (ma 9), .int (iI mli), .int (iI mlx), .ref (ma 10), .ref (ma 11), .int (iI q_a), .int (iI q_b), .int (iI q_c), .int (iI q_d), .int (iI q_e), .int (iI q_g), .int (iI q_h), .int (iI d_q), .ref (ma 12), .ref (ma 13), .int (iI s_q), .int (iI (bI b_q)), .int (iI q_i), .int (iI q_j)])), (ma 1, .inl (kA 0, 4120, .inl (aI ca))), (ma 4, .inl (kA 0, 400, .inl (aI f_s))), (ma 5, .inl (kA 0, 400, .inl (aI g_s)))] := hD
                      obtain ⟨r_n, er_n⟩ : ∃ y_9 : Int, y_9 = r + 1 := ⟨_, rfl⟩
                      refine lv_iinc (v := iI r_n) (lv' := [(2, .int (iI r_n)), (3, .int (iI k)), (1, .int (iI st)), (0, .ref mo)]) hx hb d_M_search_148 hl (k := 1) rfl (by rw [er_n]; exact iI_add _ _) (by decide) rfl (fun ls hl => ?_)
                      refine lv_goto (tgt := 71) hx hb d_M_search_151 (by decide) ?_
                      exact ih_71 r_n m_n (va_up ro2 k.toNat r) n_s f_s g_s (by omega) (by intro j hj; unfold va_up; split; (exact ⟨by omega, by omega, hrp⟩); exact hro j (by omega) (by omega)) (by rw [er_n, em_n, ← hres, ← hin]; first | (rw [show (k - 1).toNat + 1 = k.toNat by omega]) | (rw [show k.toNat = 0 by omega])) (by omega) _ _ (hP.sub [0, 8, 9, 10, 11, 1, 2, 3, 4, 5, 6, 7] rfl) (hD.sub [0, 8, 9, 10, 11, 1, 2, 3, 4, 5, 6, 7] (by decide) rfl) hS _ (lv_sub hl [0, 2, 3] rfl)
                    · have _q := c8
                      rw [if_pos (by assumption)] at hin
                      refine lv_aload_n hx hb d_M_search_111 rfl (lv_at hl 3 rfl) ?_
                      refine gf_M_23 hx hb hts hown hK hP 8 rfl rfl d_M_search_112 ?_
                      refine lv_iload_n hx hb d_M_search_115 rfl (lv_at hl 0 rfl) ?_
                      refine lv_aload_n hx hb d_M_search_116 rfl (lv_at hl 3 rfl) ?_
                      refine gf_M_23 hx hb hts hown hK hP 8 rfl rfl d_M_search_117 ?_
                      refine lv_iload_n hx hb d_M_search_120 rfl (lv_at hl 0 rfl) ?_
                      refine lv_iconst (v := iI 1) hx hb d_M_search_121 rfl ?_
                      refine li_isub hx hb d_M_search_122 ?_
                      refine li_iald hx hb hK hP 0 0 rfl rfl (by omega) (by omega) (by omega) d_M_search_123 ?_
                      refine li_iast hx hb hK hP hD hS 0 0 rfl rfl (by omega) (by omega) (by omega) d_M_search_124 (fun H locs hP hD hS => ?_)
                      have hP : va_P (dC, dI) CL [(ma 3, .inl (kA 0, 10, .inl (aI (va_up ro2 k.toNat (ro2 ((k - 1).toNat)))))), (ma 6, .inl (kA 0, 400, .inl (aI f_w))), (ma 7, .inl (kA 0, 400, .inl (aI g_w))), (ma 8, .inl (kA 0, 110, .inl (aI f_a))), (ma 9, .inl (kA 0, 110, .inl (aI g_a))), (ma 2, .inl (kA 0, 10, .inl (aI cle))), (ma 12, .inl (kA 0, 8, .inl (aI v_q))), (ma 13, .inl (kA 0, 8, .inl (aI p_q))), (mo, .inr (10, [.int (iI 0), .ref (ma 0), .int (iI mz), .ref (ma 1), .ref (ma 2), .int (iI mls), .int (iI q_f), .int (iI fm), .ref (ma 3), .int (iI n_s), .ref (ma 4), .ref (ma 5), .int (iI n_w), .ref (ma 6), .ref (ma 7), .int (iI n_a), .ref (ma 8), .ref (ma 9), .int (iI mli), .int (iI mlx), .ref (ma 10), .ref (ma 11), .int (iI q_a), .int (iI q_b), .int (iI q_c), .int (iI q_d), .int (iI q_e), .int (iI q_g), .int (iI q_h), .int (iI d_q), .ref (ma 12), .ref (ma 13), .int (iI s_q), .int (iI (bI b_q)), .int (iI q_i), .int (iI q_j)])), (ma 1, .inl (kA 0, 4120, .inl (aI ca))), (ma 4, .inl (kA 0, 400, .inl (aI f_s))), (ma 5, .inl (kA 0, 400, .inl (aI g_s)))] H := hP
                      have hD : va_D A [(ma 3, .inl (kA 0, 10, .inl (aI (va_up ro2 k.toNat (ro2 ((k - 1).toNat)))))), (ma 6, .inl (kA 0, 400, .inl (aI f_w))), (ma 7, .inl (kA 0, 400, .inl (aI g_w))), (ma 8, .inl (kA 0, 110, .inl (aI f_a))), (ma 9, .inl (kA 0, 110, .inl (aI g_a))), (ma 2, .inl (kA 0, 10, .inl (aI cle))), (ma 12, .inl (kA 0, 8, .inl (aI v_q))), (ma 13, .inl (kA 0, 8, .inl (aI p_q))), (mo, .inr (10, [.int (iI 0), .ref (ma 0), .int (iI mz), .ref (ma 1), .ref (ma 2), .int (iI mls), .int (iI q_f), .int (iI fm), .ref (ma 3), .int (iI n_s), .ref (ma 4), .ref (ma 5), .int (iI n_w), .ref (ma 6), .ref (ma 7), .int (iI n_a), .ref (ma 8), .ref (ma 9), .int (iI mli), .int (iI mlx), .ref (ma 10), .ref (ma 11), .int (iI q_a), .int (iI q_b), .int (iI q_c), .int (iI q_d), .int (iI q_e), .int (iI q_g), .int (iI q_h), .int (iI d_q), .ref (ma 12), .ref (ma 13), .int (iI s_q), .int (iI (bI b_q)), .int (iI q_i), .int (iI q_j)])), (ma 1, .inl (kA 0, 4120, .inl (aI ca))), (ma 4, .inl (kA 0, 400, .inl (aI f_s))), (ma 5, .inl (kA 0, 400, .inl (aI g_s)))] := hD
                      obtain ⟨k_n, ek_n⟩ : ∃ y_9 : Int, y_9 = k + (-1) := ⟨_, rfl⟩
                      refine lv_iinc (v := iI k_n) (lv' := [(3, .int (iI k_n)), (2, .int (iI r)), (1, .int (iI st)), (0, .ref mo)]) hx hb d_M_search_125 hl (k := 0) rfl (by rw [ek_n]; exact iI_add _ _) (by decide) rfl (fun ls hl => ?_)
                      refine lv_goto (tgt := 91) hx hb d_M_search_128 (by decide) ?_
                      exact ih_91 k_n (va_up ro2 k.toNat (ro2 ((k - 1).toNat))) n_s f_s g_s (by omega) (by intro j hj hj2; unfold va_up; split; (exact hrk); exact hro j (by omega) (by omega)) (by rw [ek_n, show k + -1 = k - 1 by omega, ← hin, show (k - 1).toNat + 1 = k.toNat by omega]) (by omega) _ _ (hP.sub [0, 8, 9, 10, 11, 1, 2, 3, 4, 5, 6, 7] rfl) (hD.sub [0, 8, 9, 10, 11, 1, 2, 3, 4, 5, 6, 7] (by decide) rfl) hS _ (lv_sub hl [0, 1, 2, 3] rfl)
              exact K_91 (fm.toNat + 1) fm row vn vf vt (by omega) (by intro j hj hj2; exact hrow j (by omega)) (by rfl) (Nat.lt_succ_self _) _ _ hP hD hS _ (lv_sub hl [0, 1, 2, 3] rfl)
      exact K_71 ((10 - (0 : Int)).toNat + 1) 0 0 cfr n_t f_t g_t (by omega) (by intro j hj; first | (exfalso; omega) | exact hrow j (by omega)) (by first | (rw [er_n]; exact hres) | (rw [est]; rfl)) (Nat.lt_succ_self _) _ _ hP hD hS _ (lv_sub hl [0, 1, 2] rfl)
    · have _q := c3
      refine lv_aload_n hx hb d_M_search_51 rfl (lv_at hl 1 rfl) ?_
      refine lv_aload_n hx hb d_M_search_52 rfl (lv_at hl 1 rfl) ?_
      refine gf_M_233 hx hb hts hown hK hP 1 rfl rfl d_M_search_53 ?_
      refine lv_aload_n hx hb d_M_search_56 rfl (lv_at hl 1 rfl) ?_
      refine gf_M_236 hx hb hts hown hK hP 1 rfl rfl d_M_search_57 ?_
      refine li_callw (wc := [(mo, .inr (10, [.int (iI 0), .ref (ma 0), .int (iI mz), .ref (ma 1), .ref (ma 2), .int (iI mls), .int (iI q_f), .int (iI mfm), .ref (ma 3), .int (iI n_t), .ref (ma 4), .ref (ma 5), .int (iI n_w), .ref (ma 6), .ref (ma 7), .int (iI n_a), .ref (ma 8), .ref (ma 9), .int (iI mli), .int (iI mlx), .ref (ma 10), .ref (ma 11), .int (iI q_a), .int (iI q_b), .int (iI q_c), .int (iI q_d), .int (iI q_e), .int (iI q_g), .int (iI q_h), .int (iI d_q), .ref (ma 12), .ref (ma 13), .int (iI s_q), .int (iI (bI b_q)), .int (iI q_i), .int (iI q_j)]))]) (wr := [(ma 3, .inl (kA 0, 10, .inl (aI cfr))), (ma 1, .inl (kA 0, 4120, .inl (aI ca))), (ma 4, .inl (kA 0, 400, .inl (aI f_t))), (ma 5, .inl (kA 0, 400, .inl (aI g_t))), (ma 6, .inl (kA 0, 400, .inl (aI f_w))), (ma 7, .inl (kA 0, 400, .inl (aI g_w))), (ma 8, .inl (kA 0, 110, .inl (aI f_a))), (ma 9, .inl (kA 0, 110, .inl (aI g_a))), (ma 2, .inl (kA 0, 10, .inl (aI cle))), (ma 12, .inl (kA 0, 8, .inl (aI v_q))), (ma 13, .inl (kA 0, 8, .inl (aI p_q)))]) (va_runV (As := [.int (iI q_g), .int (iI q_h)]) (rest := []) ⟨hx, hb, hml, hown, hts⟩ (c_M_wrong l dC dI kA H.size mo ma 0 mz mls q_f mfm n_t n_w n_a mli mlx q_a q_b q_c q_d q_e q_g q_h d_q s_q q_i q_j b_q q_g q_h ) (cw_M_86 hts rfl rfl ⟨Nat.le_of_ble_eq_true rfl, Nat.le_of_ble_eq_true rfl⟩) (li_preV (va_recv hK hP (ci := 10) (q0 := 1) rfl rfl) ⟨rfl, hP.sub [1] rfl, (hD.sub [1] (by decide) rfl).weaken (fun _ _ _ h => hAN _ h), trivial⟩ hK hN (hG.go hS hAN)) rfl rfl hl.1 rfl (lv_room (Nat.le_of_ble_eq_true rfl)) d_M_search_60 ⟨(by show 0 + 0 ≤ 0; omega), (by show 0 + 0 ≤ 0; omega)⟩) hP hD hS hA [1] [0, 2, 3, 4, 5, 6, 7, 8, 9, 10, 11] rfl rfl (by decide) (by decide) (fun u9 H locs hu9 hP hD hS _hk => ?_)
      have hP : va_P (dC, dI) CL [(ma 3, .inl (kA 0, 10, .inl (aI cfr))), (ma 1, .inl (kA 0, 4120, .inl (aI ca))), (ma 4, .inl (kA 0, 400, .inl (aI f_t))), (ma 5, .inl (kA 0, 400, .inl (aI g_t))), (ma 6, .inl (kA 0, 400, .inl (aI f_w))), (ma 7, .inl (kA 0, 400, .inl (aI g_w))), (ma 8, .inl (kA 0, 110, .inl (aI f_a))), (ma 9, .inl (kA 0, 110, .inl (aI g_a))), (ma 2, .inl (kA 0, 10, .inl (aI cle))), (ma 12, .inl (kA 0, 8, .inl (aI v_q))), (ma 13, .inl (kA 0, 8, .inl (aI p_q))), (mo, .inr (10, [.int (iI 0), .ref (ma 0), .int (iI mz), .ref (ma 1), .ref (ma 2), .int (iI mls), .int (iI q_h), .int (iI mfm), .ref (ma 3), .int (iI n_t), .ref (ma 4), .ref (ma 5), .int (iI n_w), .ref (ma 6), .ref (ma 7), .int (iI n_a), .ref (ma 8), .ref (ma 9), .int (iI mli), .int (iI mlx), .ref (ma 10), .ref (ma 11), .int (iI q_a), .int (iI q_b), .int (iI q_c), .int (iI q_d), .int (iI q_e), .int (iI q_g), .int (iI q_h), .int (iI d_q), .ref (ma 12), .ref (ma 13), .int (iI s_q), .int (iI (bI b_q)), .int (iI q_i), .int (iI q_j)]))] H := hP
      have hD : va_D A [(ma 3, .inl (kA 0, 10, .inl (aI cfr))), (ma 1, .inl (kA 0, 4120, .inl (aI ca))), (ma 4, .inl (kA 0, 400, .inl (aI f_t))), (ma 5, .inl (kA 0, 400, .inl (aI g_t))), (ma 6, .inl (kA 0, 400, .inl (aI f_w))), (ma 7, .inl (kA 0, 400, .inl (aI g_w))), (ma 8, .inl (kA 0, 110, .inl (aI f_a))), (ma 9, .inl (kA 0, 110, .inl (aI g_a))), (ma 2, .inl (kA 0, 10, .inl (aI cle))), (ma 12, .inl (kA 0, 8, .inl (aI v_q))), (ma 13, .inl (kA 0, 8, .inl (aI p_q))), (mo, .inr (10, [.int (iI 0), .ref (ma 0), .int (iI mz), .ref (ma 1), .ref (ma 2), .int (iI mls), .int (iI q_h), .int (iI mfm), .ref (ma 3), .int (iI n_t), .ref (ma 4), .ref (ma 5), .int (iI n_w), .ref (ma 6), .ref (ma 7), .int (iI n_a), .ref (ma 8), .ref (ma 9), .int (iI mli), .int (iI mlx), .ref (ma 10), .ref (ma 11), .int (iI q_a), .int (iI q_b), .int (iI q_c), .int (iI q_d), .int (iI q_e), .int (iI q_g), .int (iI q_h), .int (iI d_q), .ref (ma 12), .ref (ma 13), .int (iI s_q), .int (iI (bI b_q)), .int (iI q_i), .int (iI q_j)]))] := hD
      exact fin (n_t, f_t, g_t, n_w, f_w, g_w, n_a, f_a, g_a, q_a, q_b, q_c, q_d, q_e, q_h, q_g, q_h, q_i, q_j, d_q, v_q, p_q, s_q, b_q, mfm, cfr, q_g) _ _ _ _ _ (by rfl) (by show (∃ wa mq fp0, quM ca cle mls cva cpe (PS.mk 4000 mtk mtf mtt 0 (-1) 0 mlp mpf mpt) = QS.mk (PS.mk q_a q_b q_c q_d q_e fp0 q_g q_h q_i q_j) d_q v_q p_q wa mq s_q b_q ∧ ((¬ q_e = 0 ∧ q_g = q_e ∧ q_h = fp0 ∧ mfm = mfm ∧ cfr = cfr) ∨ (q_e = 0 ∧ ¬ q_g = 0 ∧ q_g = q_g ∧ q_h = q_h ∧ mfm = mfm ∧ cfr = cfr) ∨ (q_e = 0 ∧ q_g = 0 ∧ q_g = mfm ∧ q_h = fp0 ∧ (mfm, cfr) = foM ca s_q b_q (v_q 0) cfr ∧ 0 ≤ mfm ∧ mfm ≤ 10 ∧ (∀ j : Nat, (j : Int) < mfm → PRs cle (cfr j))))) ∧ (∀ j, 0 ≤ p_q j ∧ p_q j ≤ 12) ∧ -1 ≤ s_q ∧ s_q ≤ 5; exact ⟨⟨_, _, _, hqq, Or.inr (Or.inl ⟨by omega, by omega, rfl, rfl, rfl, rfl⟩)⟩, h28.2.2.2.2.1, by omega, by omega⟩) (by first | exact hP.sub [11, 1, 2, 3, 4, 5, 6, 7, 8, 9, 10, 0] rfl | (subst_vars; exact hP.sub [11, 1, 2, 3, 4, 5, 6, 7, 8, 9, 10, 0] rfl)) (by first | exact hD.sub [11, 1, 2, 3, 4, 5, 6, 7, 8, 9, 10, 0] (by decide) rfl | (subst_vars; exact hD.sub [11, 1, 2, 3, 4, 5, 6, 7, 8, 9, 10, 0] (by decide) rfl)) hS d_M_search_63
  · have _q := c2
    refine lv_aload_n hx hb d_M_search_39 rfl (lv_at hl 1 rfl) ?_
    refine gf_M_224 hx hb hts hown hK hP 1 rfl rfl d_M_search_40 ?_
    exact fin (n_t, f_t, g_t, n_w, f_w, g_w, n_a, f_a, g_a, q_a, q_b, q_c, q_d, q_e, q_f, q_g, q_h, q_i, q_j, d_q, v_q, p_q, s_q, b_q, mfm, cfr, q_e) _ _ _ _ _ (by rfl) (by show (∃ wa mq fp0, quM ca cle mls cva cpe (PS.mk 4000 mtk mtf mtt 0 (-1) 0 mlp mpf mpt) = QS.mk (PS.mk q_a q_b q_c q_d q_e fp0 q_g q_h q_i q_j) d_q v_q p_q wa mq s_q b_q ∧ ((¬ q_e = 0 ∧ q_e = q_e ∧ q_f = fp0 ∧ mfm = mfm ∧ cfr = cfr) ∨ (q_e = 0 ∧ ¬ q_g = 0 ∧ q_e = q_g ∧ q_f = q_h ∧ mfm = mfm ∧ cfr = cfr) ∨ (q_e = 0 ∧ q_g = 0 ∧ q_e = mfm ∧ q_f = fp0 ∧ (mfm, cfr) = foM ca s_q b_q (v_q 0) cfr ∧ 0 ≤ mfm ∧ mfm ≤ 10 ∧ (∀ j : Nat, (j : Int) < mfm → PRs cle (cfr j))))) ∧ (∀ j, 0 ≤ p_q j ∧ p_q j ≤ 12) ∧ -1 ≤ s_q ∧ s_q ≤ 5; exact ⟨⟨_, _, _, hqq, Or.inl ⟨by omega, rfl, rfl, rfl, rfl⟩⟩, h28.2.2.2.2.1, by omega, by omega⟩) (by first | exact hP.sub [1, 2, 3, 4, 5, 6, 7, 8, 9, 10, 11, 0] rfl | (subst_vars; exact hP.sub [1, 2, 3, 4, 5, 6, 7, 8, 9, 10, 11, 0] rfl)) (by first | exact hD.sub [1, 2, 3, 4, 5, 6, 7, 8, 9, 10, 11, 0] (by decide) rfl | (subst_vars; exact hD.sub [1, 2, 3, 4, 5, 6, 7, 8, 9, 10, 11, 0] (by decide) rfl)) hS d_M_search_43

theorem ixA_r {lc : Nat → Int} {kn : Int} {gs ge : Nat → Int} {kz x : Int} : -1 ≤ ixA lc kn gs ge kz x ∧ ixA lc kn gs ge kz x ≤ 5 := by
  have := ixL_r (lc := lc) (kn := kn) (x := seF gs kz kn x) (y := seF ge kz kn x) 6 0 (by omega)
  unfold ixA
  omega
def FTo (t : Int) : Prop := t = 0 ∨ t = -3 ∨ t = -4
theorem reE_ft {lc : Nat → Int} {kn : Int} {gk gs ge : Nat → Int} {kz x si : Int} {dn : Bool} {ft fp : Int} (h : FTo ft) (hs : -1 ≤ si ∧ si ≤ 5) : FTo (reE lc kn gk gs ge kz x si dn ft fp).2.2.2.2.1 ∧ -1 ≤ (reE lc kn gk gs ge kz x si dn ft fp).2.2.1 ∧ (reE lc kn gk gs ge kz x si dn ft fp).2.2.1 ≤ 5 := by
  have h1 := rdX_r (lc := lc) (kn := kn) (gs := gs) (ge := ge) (kz := kz) (x := x + 1) (ft := ft) (fp := fp)
  have h2 := ixA_r (lc := lc) (kn := kn) (gs := gs) (ge := ge) (kz := kz) (x := x + 1)
  have h3 : FTo (rdX lc kn gs ge kz (x + 1) ft fp).1 := by
    unfold FTo at h ⊢
    rcases h1 with e | e <;> omega
  unfold reE
  (repeat' split) <;> first | exact ⟨h3, h2⟩ | exact ⟨h, hs⟩
theorem rqL_ft {lc : Nat → Int} {kn : Int} {gk gs ge : Nat → Int} {kz si : Int} {dn : Bool} (hs : -1 ≤ si ∧ si ≤ 5) : ∀ (k : Nat) (o : Int) (b : Bool) (w : YU), FTo w.1 → FTo (rqL lc kn gk gs ge kz si dn k o b w).2.2.2.1 ∧ -1 ≤ (rqL lc kn gk gs ge kz si dn k o b w).2.1 ∧ (rqL lc kn gk gs ge kz si dn k o b w).2.1 ≤ 5 := by
  intro k
  induction k with
  | zero => intro o b w h; exact ⟨h, hs⟩
  | succ k ih =>
    intro o b w h
    have hr : (rcY lc kn gk gs ge kz w.1 w.2.1 w.2.2).2.1 = w.1 ∨ (rcY lc kn gk gs ge kz w.1 w.2.1 w.2.2).2.1 = -3 ∨ (rcY lc kn gk gs ge kz w.1 w.2.1 w.2.2).2.1 = -4 := (rcY_r (Eq.refl (rcY lc kn gk gs ge kz w.1 w.2.1 w.2.2))).1
    have h3 : FTo (rcY lc kn gk gs ge kz w.1 w.2.1 w.2.2).2.1 := by
      unfold FTo at h ⊢
      rcases hr with e | e | e <;> omega
    simp only [rqL]
    split
    · split
      · exact ih _ _ _ h
      · split
        · exact ih _ _ _ h3
        · exact ⟨h3, hs⟩
    · split
      · exact ih _ _ _ h
      · split
        · exact ih _ _ _ h
        · split
          · exact reE_ft h hs
          · exact ⟨h, hs⟩
theorem rdQ_ft {lc : Nat → Int} {kn : Int} {tk : St6} {fp : Int} {ys : Nat → Int} {g : Nat → CEt} : FTo (rdQ lc kn tk fp ys g).2.2.2.1 ∧ -1 ≤ (rdQ lc kn tk fp ys g).2.1 ∧ (rdQ lc kn tk fp ys g).2.1 ≤ 5 := by
  unfold rdQ rqM
  exact rqL_ft (by omega) _ _ _ _ (Or.inl rfl)
theorem rdM_ft {lc : Nat → Int} {kn : Int} {tk : St6} {fp : Int} {ys : Nat → Int} {g : Nat → CEt} : (-10 ≤ (rdM lc kn tk fp ys g).2.2.2.1 ∧ (rdM lc kn tk fp ys g).2.2.2.1 ≤ 0) ∧ -1 ≤ (rdM lc kn tk fp ys g).2.1 ∧ (rdM lc kn tk fp ys g).2.1 ≤ 5 := by
  have h := rdQ_ft (lc := lc) (kn := kn) (tk := tk) (fp := fp) (ys := ys) (g := g)
  unfold rdM
  split
  · refine ⟨?_, h.2⟩
    have h1 := h.1
    unfold FTo at h1
    omega
  · exact ⟨by dsimp only; omega, h.2⟩
theorem anG_v {hd : Nat → Option HD} {lc : Nat → Int} {g : Nat → CEt} {c : Int} {j : Nat} (h : (j : Int) < c) : (anG hd lc g c.toNat j).2.2.2.2 = recC hd lc (g j) := by
  unfold anG
  rw [if_pos (by omega)]
theorem SR.has {ca le : Nat → Int} {hd : Nat → Option HD} (h : SR ca le hd) {r : Int} (h0 : 0 ≤ r) (h9 : r ≤ 9) (hl : 0 < le r.toNat) : ∃ d, hd r.toNat = some d := by
  rcases h r h0 h9 with e | ⟨d, e, _⟩
  · omega
  · exact ⟨d, e⟩
theorem QOK_of {ca le lc : Nat → Int} {kn : Int} {hd : Nat → Option HD} (hL : LNf ca lc kn) (hS : SR ca le hd) (gk gs ge : Nat → Int) (fp : Int) (ys : Nat → Int) (g : Nat → CEt) (yr yj : Nat → Int) : QOK hd lc yr yj (rdM lc kn (tkF lc kn gk gs ge) fp ys g).2 := by
  have hs := srch hL hS gk gs ge fp ys g (fun _ => 0) (fun _ => 0) yr yj 0 0 0 0 0 0
  have hf := rdM_ft (lc := lc) (kn := kn) (tk := tkF lc kn gk gs ge) (fp := fp) (ys := ys) (g := g)
  refine ⟨hf.1, fun h0 => ?_⟩
  rcases hs with ⟨h1, h2, _⟩ | ⟨h1, _, _, _, hsi, hdn, hcc, hJ, hC, hB, hv⟩
  · have h0 : (rdM lc kn (tkF lc kn gk gs ge) fp ys g).2.2.2.1 = 0 := h0
    omega
  · refine ⟨hcc, hJ, hC, hf.2, fun r r0 r9 hb => ?_⟩
    have e := hv h0 (anG hd lc (rdM lc kn (tkF lc kn gk gs ge) fp ys g).2.2.2.2.2.2.2.2.2 (rdM lc kn (tkF lc kn gk gs ge) fp ys g).2.2.2.2.2.2.2.1.toNat) (fun j hj => anG_v hj)
    rw [e] at hb
    exact hS.has r0 r9 (hB r r0 r9 hb)
/-- what the reference asks of a search -/
theorem hGd_of {ca le lc : Nat → Int} {kn : Int} {hd : Nat → Option HD} (hL : LNf ca lc kn) (hS : SR ca le hd) (va pe : Nat → Int) (a1 a2 a3 a4 a5 a6 : Int) : ∀ r : Int, 0 ≤ r → r ≤ 9 → (quM ca le kn va pe (PS.mk 4000 a1 a2 a3 0 (-1) 0 a4 a5 a6)).p.fa = 0 → andI (shrI ((quM ca le kn va pe (PS.mk 4000 a1 a2 a3 0 (-1) 0 a4 a5 a6)).va 0) r) 1 = 1 → 0 < le r.toNat := by
  intro r r0 r9 hfa hb
  have hs := srch hL hS (fun _ => 0) (fun _ => 0) (fun _ => 0) 0 (fun _ => 0) (fun _ => (0, 0, 0, 0, 0)) va pe (fun _ => 0) (fun _ => 0) a1 a2 a3 a4 a5 a6
  rcases hs with ⟨_, _, h3, _⟩ | ⟨_, _, _, _, _, _, _, _, _, hB, _⟩
  · omega
  · exact hB r r0 r9 hb
/-! the found ones, both sides -/
def FNe (fc : Int) (uf : Nat → Int) (fm : Int) (cf : Nat → Int) : Prop := fm = fc ∧ ∀ j : Nat, (j : Int) < fm → cf j = uf j
theorem srch_both {ca le ul : Nat → Int} {kn : Int} {hd : Nat → Option HD} (hL : LNf ca ul kn) (hS : SR ca le hd) {gk gs ge : Nat → Int} {yfp : Int} {ys : Nat → Int} {g : Nat → CEt} {va pe yr yj uf cf : Nat → Int} {a1 a2 a3 a4 a5 a6 fc fm : Int} (hF : FNe fc uf fm cf)
    {s8 : Int} {d8 : Bool} {t9 p9 n9 z9 c9 : Int} {s9 : Nat → Int} {q9 fc9 : Int} {f9 : Nat → Int}
    (hR : (s8, d8, t9, p9, n9, z9, c9, s9, (rdM ul kn (tkF ul kn gk gs ge) yfp ys g).2.2.2.2.2.2.2.2.2) = (rdM ul kn (tkF ul kn gk gs ge) yfp ys g).2)
    (hC : (¬ t9 = 0 ∧ q9 = p9 ∧ fc9 = fc ∧ f9 = uf) ∨ (t9 = 0 ∧ q9 = -1 ∧ (fc9, f9) = soF hd s8 d8 (kpM ((jaM s9 (anG hd ul (rdM ul kn (tkF ul kn gk gs ge) yfp ys g).2.2.2.2.2.2.2.2.2 c9.toNat) z9 yr yj).2.2.1 0) uf) ∧ 0 ≤ fc9 ∧ fc9 ≤ 10))
    {n1 n2 n3 n4 n5 fp0 p1 p2 p3 p4 dp9 : Int} {va9 pe9 : Nat → Int} {wa mq b9 : Bool} {si m9 v9 n6 : Int} {r9 : Nat → Int}
    (hQ : quM ca le kn va pe (PS.mk 4000 a1 a2 a3 0 (-1) 0 a4 a5 a6) = QS.mk (PS.mk n1 n2 n3 n4 n5 fp0 p1 p2 p3 p4) dp9 va9 pe9 wa mq si b9)
    (hM : (¬ n5 = 0 ∧ v9 = n5 ∧ n6 = fp0 ∧ m9 = fm ∧ r9 = cf) ∨ (n5 = 0 ∧ ¬ p1 = 0 ∧ v9 = p1 ∧ n6 = p2 ∧ m9 = fm ∧ r9 = cf) ∨ (n5 = 0 ∧ p1 = 0 ∧ v9 = m9 ∧ n6 = fp0 ∧ (m9, r9) = foM ca si b9 (va9 0) cf ∧ 0 ≤ m9 ∧ m9 ≤ 10 ∧ (∀ j : Nat, (j : Int) < m9 → PRs le (r9 j)))) :
    (if t9 = 0 then fc9 else t9) = v9 ∧ q9 = n6 ∧ FNe fc9 f9 m9 r9 := by
  have hf := rdM_ft (lc := ul) (kn := kn) (tk := tkF ul kn gk gs ge) (fp := yfp) (ys := ys) (g := g)
  have hs := srch hL hS gk gs ge yfp ys g va pe yr yj a1 a2 a3 a4 a5 a6
  rw [hQ] at hs
  have e1 : (rdM ul kn (tkF ul kn gk gs ge) yfp ys g).2.1 = s8 := by rw [← hR]
  have e2 : (rdM ul kn (tkF ul kn gk gs ge) yfp ys g).2.2.1 = d8 := by rw [← hR]
  have e3 : (rdM ul kn (tkF ul kn gk gs ge) yfp ys g).2.2.2.1 = t9 := by rw [← hR]
  have e4 : (rdM ul kn (tkF ul kn gk gs ge) yfp ys g).2.2.2.2.1 = p9 := by rw [← hR]
  have e6 : (rdM ul kn (tkF ul kn gk gs ge) yfp ys g).2.2.2.2.2.2.1 = z9 := by rw [← hR]
  have e7 : (rdM ul kn (tkF ul kn gk gs ge) yfp ys g).2.2.2.2.2.2.2.1 = c9 := by rw [← hR]
  have e8 : (rdM ul kn (tkF ul kn gk gs ge) yfp ys g).2.2.2.2.2.2.2.2.1 = s9 := by rw [← hR]
  rw [e1, e2, e3, e4, e6, e7, e8] at hs
  rw [e1] at hf
  rcases hs with ⟨h1, h2, h3, h4⟩ | ⟨h1, h2, h3, h4, hsi, hdn, hcc, hJ, hC2, hB, hv⟩
  · have h3 : n5 = -2 := h3
    have h4 : fp0 = p9 := h4
    rcases hC with ⟨c1, c2, c3, c4⟩ | ⟨c1, _⟩
    · rcases hM with ⟨m1, m2, m3, m4, m5⟩ | ⟨m1, _⟩ | ⟨m1, _⟩
      · rw [if_neg c1]
        refine ⟨by omega, by omega, ?_⟩
        rw [c3, c4, m4, m5]; exact hF
      · omega
      · omega
    · omega
  · have h2 : n5 = 0 := h2
    have h3 : fp0 = -1 := h3
    have h4 : p1 = t9 ∧ (t9 ≠ 0 → p2 = p9) := h4
    have hsi : si = s8 := hsi
    have hdn : b9 = d8 := hdn
    have hB : BMv le (va9 0) := hB
    rcases hC with ⟨c1, c2, c3, c4⟩ | ⟨c1, c2, c3, c4⟩
    · rcases hM with ⟨m1, _⟩ | ⟨m1, m2, m3, m4, m5, m6⟩ | ⟨m1, m2, _⟩
      · omega
      · rw [if_neg c1]
        refine ⟨by omega, by rw [c2, m4]; exact (h4.2 c1).symm, ?_⟩
        rw [c3, c4, m5, m6]; exact hF
      · omega
    · rcases hM with ⟨m1, _⟩ | ⟨m1, m2, _⟩ | ⟨m1, m2, m3, m4, m5, m6⟩
      · omega
      · omega
      · have hvv : (jaM s9 (anG hd ul (rdM ul kn (tkF ul kn gk gs ge) yfp ys g).2.2.2.2.2.2.2.2.2 c9.toNat) z9 yr yj).2.2.1 0 = va9 0 := hv c1 _ (fun j hj => anG_v hj)
        rw [hvv] at c3
        have hk := foM_F (f := cf) (g := uf) (dn := b9) hS (si := si) (v := va9 0) (by omega) hB
        rw [hsi, hdn] at hk m5
        rw [← m5, ← c3] at hk
        rw [if_pos c1]
        exact ⟨by rw [m3]; exact hk.1.symm, by omega, hk⟩
/-! ranges of the found ones -/
def R100 (f : Nat → Int) : Prop := ∀ j, 0 ≤ f j ∧ f j ≤ 100
theorem R100.up {f : Nat → Int} (h : R100 f) {k : Nat} {v : Int} (hv : 0 ≤ v ∧ v ≤ 100) : R100 (va_up f k v) := by
  intro j
  unfold va_up
  split
  · exact hv
  · exact h j
theorem kpL_r {v : Int} : ∀ (j : Nat) (r : Int) (u : Int × (Nat → Int)), 0 ≤ r → r + j ≤ 100 → R100 u.2 → R100 (kpL v j r u).2 := by
  intro j
  induction j with
  | zero => intro r u _ _ h; exact h
  | succ j ih =>
    intro r u h0 h1 h
    simp only [kpL]
    refine ih (r + 1) _ (by omega) (by omega) ?_
    split
    · exact h.up (by omega)
    · exact h
theorem siL_r {cf : Int → Int → Int} : ∀ (j : Nat) (f : Nat → Int), R100 f → R100 (siL cf j f) := by
  intro j
  induction j with
  | zero => intro f h; exact h
  | succ j ih =>
    intro f h
    simp only [siL]
    split
    · exact ih _ ((h.up (h j)).up (h (j + 1)))
    · exact h
theorem soS_r {cf : Int → Int → Int} : ∀ (k : Nat) (i : Int) (f : Nat → Int), R100 f → R100 (soS cf k i f) := by
  intro k
  induction k with
  | zero => intro i f h; exact h
  | succ k ih => intro i f h; simp only [soS]; exact ih _ _ (siL_r _ _ h)
theorem soF_r {hd : Nat → Option HD} {si : Int} {dn : Bool} {v : Int} {f : Nat → Int} (h : R100 f) : R100 (soF hd si dn (kpM v f)).2 := by
  have hk : R100 (kpM v f).2 := kpL_r 10 0 (0, f) (by omega) (by omega) h
  unfold soF
  split
  · exact hk
  · exact soS_r _ _ _ hk
theorem fiL_r {bf : Int → Int → Bool} {r : Int} (hr : 0 ≤ r ∧ r ≤ 100) : ∀ (k : Nat) (f : Nat → Int), R100 f → R100 (fiL bf r k f) := by
  intro k
  induction k with
  | zero => intro f h; exact h.up hr
  | succ k ih =>
    intro f h
    simp only [fiL]
    split
    · exact ih _ (h.up (h k))
    · exact h.up hr
theorem foL_r {bf : Int → Int → Bool} {v : Int} : ∀ (j : Nat) (r : Int) (u : Int × (Nat → Int)), 0 ≤ r → r + j ≤ 100 → R100 u.2 → R100 (foL bf v j r u).2 := by
  intro j
  induction j with
  | zero => intro r u _ _ h; exact h
  | succ j ih =>
    intro r u h0 h1 h
    simp only [foL]
    refine ih (r + 1) _ (by omega) (by omega) ?_
    split
    · exact fiL_r (by omega) _ _ h
    · exact h
theorem foM_r {ca : Nat → Int} {si : Int} {dn : Bool} {v : Int} {f : Nat → Int} (h : R100 f) : R100 (foM ca si dn v f).2 := foL_r 10 0 (0, f) (by omega) (by omega) h
theorem kfL_e {rec : Int} : ∀ (j : Nat) (k : Int) (u v : Int × (Nat → Int)), 0 ≤ k → 0 ≤ u.1 → u.1 ≤ k → u.1 = v.1 → (∀ q : Nat, (q : Int) < k + j → u.2 q = v.2 q) → (kfL rec j k u).1 = (kfL rec j k v).1 ∧ ∀ q : Nat, (q : Int) < k + j → (kfL rec j k u).2 q = (kfL rec j k v).2 q := by
  intro j
  induction j with
  | zero => intro k u v _ _ _ h1 h2; exact ⟨h1, h2⟩
  | succ j ih =>
    intro k u v h0 hu0 hu h1 h2
    simp only [kfL]
    rw [h2 k.toNat (by omega)]
    split
    · have := ih (k + 1) u v (by omega) hu0 (by omega) h1 (fun q hq => h2 q (by omega))
      exact ⟨this.1, fun q hq => this.2 q (by omega)⟩
    · have := ih (k + 1) (u.1 + 1, va_up u.2 u.1.toNat (v.2 k.toNat)) (v.1 + 1, va_up v.2 v.1.toNat (v.2 k.toNat)) (by omega) (by dsimp only; omega) (by dsimp only; omega) (by dsimp only; omega) (fun q hq => by
        dsimp only
        unfold va_up
        rw [h1]
        split
        · rfl
        · exact h2 q (by omega))
      exact ⟨this.1, fun q hq => this.2 q (by omega)⟩
theorem kfL_n {rec : Int} : ∀ (j : Nat) (k : Int) (u : Int × (Nat → Int)), (kfL rec j k u).1 ≤ u.1 + j := by
  intro j
  induction j with
  | zero => intro k u; simp only [kfL]; omega
  | succ j ih =>
    intro k u
    simp only [kfL]
    split
    · have := ih (k + 1) u; omega
    · have := ih (k + 1) (u.1 + 1, va_up u.2 u.1.toNat (u.2 k.toNat)); dsimp only at this; omega
theorem kf_both {r fc fm : Int} {uf cf : Nat → Int} (h : FNe fc uf fm cf) (h0 : 0 ≤ fm) {n9 m9 : Int} {f9 g9 : Nat → Int} (h1 : (n9, f9) = kfM r fc uf) (h2 : (m9, g9) = kfM r fm cf) : FNe n9 f9 m9 g9 := by
  obtain ⟨he, hq⟩ := h
  subst he
  unfold kfM at h1 h2
  have := kfL_e (rec := r) fm.toNat 0 (0, cf) (0, uf) (by omega) (by dsimp only; omega) (by dsimp only; omega) rfl (fun q hq2 => hq q (by omega))
  have hn := kfL_n (rec := r) fm.toNat 0 (0, cf)
  rw [← h1, ← h2] at this
  rw [← h2] at hn
  dsimp only at this hn
  exact ⟨this.1, fun j hj => this.2 j (by omega)⟩

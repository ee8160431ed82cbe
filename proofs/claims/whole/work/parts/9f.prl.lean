theorem txCnt_len {ti ts te tl : Nat → Int} {tc ix : Int} : ∀ (k : Nat) (i v : Int), txCnt ti tc ix k i v = v + ((txL ti ts te tl tc ix k i).length : Int) := by
  intro k
  induction k with
  | zero => intro i v; simp only [txCnt, txL, List.length_nil]; omega
  | succ k ih =>
    intro i v
    simp only [txCnt, txL]
    rw [ih]
    split
    · rw [List.length_cons]; omega
    · rfl
theorem rec_both {ca le : Nat → Int} {hd : Nat → Option HD} (h : SR ca le hd) {r w : Int} (hr : 0 ≤ r ∧ r ≤ 9) (hw : 0 ≤ w ∧ w ≤ 3) : rcD hd r w = rcM ca le r w := by
  rcases h r hr.1 hr.2 with ⟨e1, e2⟩ | ⟨d, e1, e2, e3, hR, hO, hT⟩
  · rw [rcD_n e1]; unfold rcM; rw [if_pos e2]
  · rw [rcD_s e1]
    unfold rcM
    rw [if_neg (show ¬ le r.toNat = 0 by omega)]
    by_cases w3 : w = 3
    · rw [if_neg (by omega), if_neg (by omega), if_neg (by omega), if_pos w3, (hR.tx_ 0).1, List.length_map, txCnt_len (ts := d.ts) (te := d.te) (tl := d.tl)]
      unfold txs
      omega
    · rw [if_neg w3]
      by_cases w0 : w = 0
      · rw [if_pos w0, if_pos w0]
        obtain ⟨base, fd, sf, h1, h2, h3, h4, h5, h6, h7, h8, h9, h10⟩ := hR
        obtain ⟨⟨k1, k2, k3⟩, k4, _⟩ := h2
        have e := numM_A (t := d.t) (f := ca) (n := d.n) (s := 400 * r) h8 5 12 0 (by omega) (by omega)
        have e2 : numL d.t d.n 5 12 0 = base := h4
        rw [e, e2, h6, k4]
        omega
      · rw [if_neg w0, if_neg w0]
        by_cases w1 : w = 1
        · rw [if_pos w1, if_pos w1, e2]
        · rw [if_neg w1, if_neg w1, if_pos (by omega)]
          exact (dtM_F hR hO.2).symm
theorem oct_both {ca le : Nat → Int} {hd : Nat → Option HD} (h : SR ca le hd) {r k : Int} (hr : 0 ≤ r ∧ r ≤ 9) : ocD hd r k = if 0 ≤ k ∧ k < le r.toNat then ca (400 * r + k).toNat else -1 := by
  rcases h r hr.1 hr.2 with ⟨e1, e2⟩ | ⟨d, e1, e2, e3, hR, hO, hT⟩
  · rw [ocD_n e1, if_neg (by omega)]
  · rw [ocD_s e1, e2]
    obtain ⟨base, fd, sf, h1, h2, h3, h4, h5, h6, h7, h8, h9, h10⟩ := hR
    by_cases hk : 0 ≤ k ∧ k < d.n
    · rw [if_pos hk, if_pos hk, h8 k hk.1 hk.2]
    · rw [if_neg hk, if_neg hk]
theorem SR.recs {ca le : Nat → Int} {hd : Nat → Option HD} (h : SR ca le hd) : Recs ca le := by
  intro r h0 h9 hl
  rcases h r h0 h9 with ⟨e1, e2⟩ | ⟨d, e1, e2, e3, hR, hO, hT⟩
  · omega
  · rw [e2]
    exact hR.rec
theorem SR.le_ {ca le : Nat → Int} {hd : Nat → Option HD} (h : SR ca le hd) {r : Int} (h0 : 0 ≤ r) (h9 : r ≤ 9) : 0 ≤ le r.toNat ∧ le r.toNat ≤ 400 ∧ (0 < le r.toNat ↔ ∃ d, hd r.toNat = some d) := by
  rcases h r h0 h9 with ⟨e1, e2⟩ | ⟨d, e1, e2, e3, hR, hO, hT⟩
  · refine ⟨by omega, by omega, fun q => by omega, fun ⟨d, q⟩ => by rw [e1] at q; cases q⟩
  · have := hO.1.1
    refine ⟨by omega, by omega, fun _ => ⟨d, e1⟩, fun _ => by omega⟩
/-! the same records where the bytes of the records are the same -/
theorem RD.cong {ca ca2 : Nat → Int} {r : Int} {d : HD} (h : RD ca r d) (hc : ∀ j : Int, 0 ≤ j → j < d.n → ca2 (400 * r + j).toNat = ca (400 * r + j).toNat) : RD ca2 r d := by
  obtain ⟨base, fd, sf, h1, h2, h3, h4, h5, h6, h7, h8, h9, h10⟩ := h
  exact ⟨base, fd, sf, h1, h2, h3, h4, h5, h6, h7, fun j j0 j1 => by rw [hc j j0 j1]; exact h8 j j0 j1, h9, h10⟩
theorem RD.n_ {ca : Nat → Int} {r : Int} {d : HD} (h : RD ca r d) : d.n ≤ 400 := by
  obtain ⟨base, fd, sf, h1, _⟩ := h
  exact h1
theorem SR.cong {ca ca2 le : Nat → Int} {hd : Nat → Option HD} (h : SR ca le hd) (hc : ∀ j : Nat, j < 4000 → ca2 j = ca j) : SR ca2 le hd := by
  intro r h0 h9
  rcases h r h0 h9 with e | ⟨d, e1, e2, e3, hR, hO, hT⟩
  · exact Or.inl e
  · have := hR.n_
    exact Or.inr ⟨d, e1, e2, e3, hR.cong (fun j j0 j1 => hc _ (by omega)), hO, hT⟩
theorem SR.drop_ {ca le : Nat → Int} {hd : Nat → Option HD} (h : SR ca le hd) {r : Int} (hr : 0 ≤ r ∧ r ≤ 9) : SR ca (va_up le r.toNat 0) (va_up hd r.toNat none) := by
  intro q h0 h9
  by_cases e : q.toNat = r.toNat
  · rw [e, vu_e, vu_e]; exact Or.inl ⟨rfl, rfl⟩
  · rw [vu_n e, vu_n e]; exact h q h0 h9
theorem SR.dropN {ca le : Nat → Int} {hd : Nat → Option HD} (h : SR ca le hd) {r : Int} (hr : 0 ≤ r ∧ r ≤ 9) (hn : hd r.toNat = none) : SR ca (va_up le r.toNat 0) hd := by
  intro q h0 h9
  by_cases e : q.toNat = r.toNat
  · rw [e, vu_e]; exact Or.inl ⟨hn, rfl⟩
  · rw [vu_n e]; exact h q h0 h9
theorem shO_up {hd : Nat → Option HD} {k : Nat} {o : Option HD} : shO (va_up hd k o) = va_up (shO hd) k (o.map HD.ho) := by
  funext j
  unfold shO va_up
  split <;> rfl
/-! a new record -/
theorem mkL_C {t : Nat → Int} : ∀ (k x : Nat) (v : Int), mkL t k x v = v + mkC t k x := by
  intro k
  induction k with
  | zero => intro x v; simp only [mkL, mkC]; omega
  | succ k ih =>
    intro x v
    simp only [mkL, mkC]
    rw [ih]
    split <;> omega
theorem mkC_le {t : Nat → Int} : ∀ (k x : Nat), mkC t k x ≤ k := by
  intro k
  induction k with
  | zero => intro x; simp only [mkC]; omega
  | succ k ih =>
    intro x
    simp only [mkC]
    have := ih (x + 1)
    split <;> omega
def mxF (t : Nat → Int) (n : Nat) : Nat := (1 + mkL t n 0 0).toNat
theorem mxF_e {t : Nat → Int} {n : Nat} (hn : n ≤ 400) : (mxF t n : Int) = 1 + mkL t n 0 0 ∧ mxF t n ≤ 401 := by
  have h1 := mkC_nn t n 0
  have h2 := mkC_le (t := t) n 0
  unfold mxF
  rw [mkL_C]
  omega
theorem mxF_c {t : Nat → Int} {n b : Nat} (hb : b ≤ n) (hn : n ≤ 400) : mkC t (n - b) b + 1 ≤ (mxF t n : Int) := by
  have h1 := mkC_mono t (a := 0) (a2 := b) (b2 := n) (b := n) (by omega) hb (by omega)
  rw [(mxF_e hn).1, mkL_C]
  rw [show n - 0 = n by omega] at h1
  omega
theorem ndR_k {tb : Nat → Int} {cn fp fe : Int} : -10 ≤ (ndR tb cn fp fe).1 ∧ (ndR tb cn fp fe).1 ≤ 0 := by
  unfold ndR; (repeat' split) <;> simp only <;> omega
theorem inR_k {tb : Nat → Int} {nb : Nat} {cn fp en bs ie fe : Int} (hc : cn ≤ 1000) : -10 ≤ (inR tb nb cn fp en bs ie fe).1 ∧ (inR tb nb cn fp en bs ie fe).1 ≤ 0 := by
  unfold inR
  split
  · rename_i h1
    have h24 := ldR_ok h1
    split
    · rename_i h2
      obtain ⟨⟨b1, b2⟩, _⟩ := enR_ok ⟨h24, hc⟩ h2
      split
      · exact ndR_k
      · exact (fdL_k _ _ _ (by omega) ⟨by dsimp only; omega, by dsimp only; omega⟩).1
    · exact enR_k
  · exact ldR_k
theorem cpy_t {ub : Nat → Int} {n : Nat} : ∀ j : Nat, j < n → va_cpy ub (fun _ => 0) 0 0 n j = ub j := by
  intro j hj
  unfold va_cpy
  rw [if_pos ⟨Nat.zero_le _, by omega⟩]
  congr 1
  omega
/-- what is known where the look through the bytes finds no fault -/
theorem in_ok {ub ca le : Nat → Int} {n : Nat} {fp en bs ie fe fp2 : Int} (hn : n ≤ 400) (h : (inR ub 400 n fp en bs ie fe).1 = 0) : ∃ sf : Int → Int, RecOK (va_cpy ub (fun _ => 0) 0 0 n) n (inR ub 400 n fp en bs ie fe).2.2.2.1 (inR ub 400 n fp en bs ie fe).2.2.1 sf ∧ RecX (va_cpy ub (fun _ => 0) 0 0 n) n (inR ub 400 n fp en bs ie fe).2.2.1 sf ∧ numAt (va_cpy ub (fun _ => 0) 0 0 n) n 12 5 = (inR ub 400 n fp en bs ie fe).2.2.2.1 ∧ 1 ≤ (inR ub 400 n fp en bs ie fe).2.2.1 ∧ (inR ub 400 n fp en bs ie fe).2.2.2.2.1 = sf 1 - 1 ∧ 24 ≤ n ∧ ckM ub ca le n fp2 = coM ub ca le fp2 (inR ub 400 n fp en bs ie fe).2.2.2.1 := by
  rcases ckM_in (tb := ub) (ca := ca) (le := le) (nb := 400) (cn := n) (fp := fp) (en := en) (bs := bs) (ie := ie) (fe := fe) (fp2 := fp2) rfl (by omega) with ⟨h1, _⟩ | ⟨h1, h2, ⟨h3, h4, h5⟩, h6, h7, h8, h9, h10, h11, h12⟩
  · omega
  · obtain ⟨r1, r2, r3, r4, r5⟩ := rec_in (tb := ub) (t := va_cpy ub (fun _ => 0) 0 0 n) (nb := 400) (n := n) (cn := n) (fp := fp) (ie := ie) rfl rfl (by omega) cpy_t h4 h5 h10 h12
    rw [h7, h8, h9]
    exact ⟨_, r1, r2, r3, r4, r5, by omega, by rw [h2, h8]⟩
theorem hib_of {ub : Nat → Int} {n : Nat} {fp en bs ie fe : Int} (hn : n ≤ 400) (h : (inR ub 400 n fp en bs ie fe).1 = 0) : 0 ≤ (inR ub 400 n fp en bs ie fe).2.2.2.1 ∧ (inR ub 400 n fp en bs ie fe).2.2.2.1 ≤ 1000 ∧ 0 ≤ (inR ub 400 n fp en bs ie fe).2.2.2.2.1 ∧ (inR ub 400 n fp en bs ie fe).2.2.2.2.1 ≤ 1000 := by
  obtain ⟨sf, h1, h2, h3, h4, h5, h6, -⟩ := in_ok (ca := fun _ => 0) (le := fun _ => 0) (fp2 := 0) hn h
  obtain ⟨⟨k1, k2, k3⟩, k4, k5, k6, k7⟩ := h1
  have := (k7 0 (by omega) (by omega)).2.2.2.1
  rw [show (0 : Int) + 1 = 1 by omega] at this
  omega
/-- load, where nothing comes of it -/
theorem ld_fail {ub ca le : Nat → Int} {hd : Nat → Option HD} (hS : SR ca le hd) {n : Nat} {fp en bs ie fe : Int} (hn : n ≤ 400) (hcs : (inR ub 400 n fp en bs ie fe).1 = 0 → itM hd ub (inR ub 400 n fp en bs ie fe).2.2.2.1 (inR ub 400 n fp en bs ie fe).2.2.2.2.1 = false → lfM hd = -1) : (ckM ub ca le n (-1)).1 < 0 ∧ ckM ub ca le n (-1) = ldV hd ub (inR ub 400 n fp en bs ie fe) := by
  by_cases h : (inR ub 400 n fp en bs ie fe).1 = 0
  · obtain ⟨sf, h1, h2, h3, h4, h5, h6, h7⟩ := in_ok (ca := ca) (le := le) (fp2 := -1) hn h
    obtain ⟨⟨k1, k2, k3⟩, k4, k5, k6, k7⟩ := h1
    have hx := h2 0 (by omega) (by omega)
    have hy := (k7 0 (by omega) (by omega)).2.2.2.1
    rw [show (0 : Int) + 1 = 1 by omega] at hx hy
    have ht := cpy_t (ub := ub) (n := n)
    have hD := coM_D (ub := ub) (fp := -1) hS (y := (inR ub 400 n fp en bs ie fe).2.2.2.1) (ye := (inR ub 400 n fp en bs ie fe).2.2.2.2.1) (by omega) (by rw [h5, ← ht _ (by omega)]; exact hx.1) (fun z z0 z1 => by rw [← ht _ (by omega)]; exact hx.2.1 z (by omega) (by omega))
    rw [h7, hD]
    by_cases c : itM hd ub (inR ub 400 n fp en bs ie fe).2.2.2.1 (inR ub 400 n fp en bs ie fe).2.2.2.2.1 = true
    · rw [ldV_t h c, if_pos c]; exact ⟨by show (-8 : Int) < 0; decide, rfl⟩
    · have c2 : itM hd ub (inR ub 400 n fp en bs ie fe).2.2.2.1 (inR ub 400 n fp en bs ie fe).2.2.2.2.1 = false := by simpa using c
      rw [ldV_n h c2, if_neg c, if_pos (hcs h c2)]; exact ⟨by decide, rfl⟩
  · rcases ckM_in (tb := ub) (ca := ca) (le := le) (nb := 400) (cn := n) (fp := fp) (en := en) (bs := bs) (ie := ie) (fe := fe) (fp2 := -1) rfl (by omega) with ⟨h1, h2⟩ | ⟨h1, _⟩
    · rw [ldV_f h, h2]; exact ⟨h1, rfl⟩
    · exact absurd h1 h
theorem ld_good {ub ca le : Nat → Int} {hd : Nat → Option HD} (hS : SR ca le hd) {n : Nat} {fp en bs ie fe : Int} (hn : n ≤ 400) (h : (inR ub 400 n fp en bs ie fe).1 = 0) (c2 : itM hd ub (inR ub 400 n fp en bs ie fe).2.2.2.1 (inR ub 400 n fp en bs ie fe).2.2.2.2.1 = false) (hl : lfM hd ≠ -1) : ckM ub ca le n (-1) = (0, -1) := by
  obtain ⟨sf, h1, h2, h3, h4, h5, h6, h7⟩ := in_ok (ca := ca) (le := le) (fp2 := -1) hn h
  obtain ⟨⟨k1, k2, k3⟩, k4, k5, k6, k7⟩ := h1
  have hx := h2 0 (by omega) (by omega)
  have hy := (k7 0 (by omega) (by omega)).2.2.2.1
  rw [show (0 : Int) + 1 = 1 by omega] at hx hy
  have ht := cpy_t (ub := ub) (n := n)
  have hD := coM_D (ub := ub) (fp := -1) hS (y := (inR ub 400 n fp en bs ie fe).2.2.2.1) (ye := (inR ub 400 n fp en bs ie fe).2.2.2.2.1) (by omega) (by rw [h5, ← ht _ (by omega)]; exact hx.1) (fun z z0 z1 => by rw [← ht _ (by omega)]; exact hx.2.1 z (by omega) (by omega))
  rw [h7, hD, if_neg (by rw [c2]; decide), if_neg hl]
/-! its texts end within it -/
def TE4 (n : Int) (u : St4) : Prop := ∀ j, u.2.2.1 j ≤ n
theorem te_aT {n : Int} {u : St4} {ix a b : Int} (h : TE4 n u) (hb : b ≤ n) : TE4 n (aT u ix a b) := by
  intro j
  show va_up u.2.2.1 u.2.2.2.2.toNat b j ≤ n
  unfold va_up
  split
  · exact hb
  · exact h j
theorem te_eT {n : Int} {u : St4} {k : Int} (h : TE4 n u) (hk : k ≤ n) : TE4 n (eT u k) := by
  intro j
  show va_up u.2.2.1 (u.2.2.2.2 - 1).toNat k j ≤ n
  unfold va_up
  split
  · exact hk
  · exact h j
theorem te_lO {n : Int} {u : St4} {k : Int} (h : TE4 n u) : TE4 n (lO u k) := fun j => h j
theorem te_rsL {t : Nat → Int} {tag st n : Int} : ∀ (k : Nat) (x : Int) (u : St4), x + k + 1 ≤ n → TE4 n u → TE4 n (rsL t tag st k x u) := by
  intro k
  induction k with
  | zero => intro x u _ h; exact h
  | succ k ih =>
    intro x u hx h
    simp only [rsL]
    refine ih (x + 1) _ (by omega) ?_
    unfold rsS
    split
    · split
      · exact te_lO (te_aT h (by omega))
      · exact te_aT h (by omega)
    · exact te_eT h (by omega)
theorem te_rtL {t : Nat → Int} {n : Nat} {base fd : Int} {sf : Int → Int} (hR : RecOK t n base fd sf) : ∀ (k : Nat) (e : Int) (u : St4), 0 ≤ e → e + k = fd → TE4 n u → TE4 n (rtL t n sf k e u) := by
  intro k
  induction k with
  | zero => intro e u _ _ h; exact h
  | succ k ih =>
    intro e u h0 hk h
    simp only [rtL]
    refine ih (e + 1) _ (by omega) (by omega) ?_
    obtain ⟨_, _, _, _, k7⟩ := hR
    obtain ⟨_, _, _, hy, _, hz⟩ := k7 e h0 (by omega)
    unfold rtS
    split
    · exact te_aT h (by omega)
    · split
      · rename_i h10
        have := hz h10
        exact te_rsL _ _ _ (by omega) h
      · exact h
theorem tsum_sh {s : Int} : ∀ l : List (Int × Int), tsum (l.map (shF s)) = tsum l := by
  intro l
  induction l with
  | nil => rfl
  | cons q l ih =>
    simp only [List.map_cons, tsum]
    rw [ih]
    unfold shF
    dsimp only
    omega
theorem HDt_of {ca : Nat → Int} {r : Int} {d : HD} (h : RD ca r d) : HDt d := by
  intro ix
  have hr : 0 ≤ r ∧ r ≤ 9 := by obtain ⟨base, fd, sf, h1, h2, h3, h4, h5, h6, h7, h8, h9, h10⟩ := h; exact h9
  have e := (h.tx_ ix).1
  have h1 := gaT_sum (ix := ix) hr h.rec
  have h2 := gaT_LB (ix := ix) hr h.rec
  rw [e] at h1 h2
  rw [tsum_sh] at h1
  refine ⟨h1, fun q hq => ?_⟩
  have := h2 (shF (400 * r) q) (List.mem_map_of_mem hq)
  unfold shF at this
  dsimp only at this
  omega
theorem cpL_e {cb : Nat → Int} {b : Int} (hb : 0 ≤ b) : ∀ (k : Nat) (x : Int) (f : Nat → Int) (j : Nat), 0 ≤ x → cpL cb b k x f j = if b + x ≤ j ∧ (j : Int) < b + x + k then cb ((j : Int) - b).toNat else f j := by
  intro k
  induction k with
  | zero => intro x f j hx; simp only [cpL]; rw [if_neg (by omega)]
  | succ k ih =>
    intro x f j hx
    simp only [cpL]
    rw [ih (x + 1) _ j (by omega)]
    unfold va_up
    by_cases h : (j : Int) = b + x
    · rw [if_neg (by omega), if_pos (by omega), if_pos (by omega)]
      congr 1
      omega
    · by_cases h2 : b + (x + 1) ≤ j ∧ (j : Int) < b + (x + 1) + k
      · rw [if_pos h2, if_pos (by omega)]
      · rw [if_neg h2, if_neg (by omega), if_neg (by omega)]
theorem cpM_e {cb ca : Nat → Int} {b z : Int} (hb : 0 ≤ b) (hz : 0 ≤ z) (j : Nat) : cpM cb ca b z j = if b ≤ j ∧ (j : Int) < b + z then cb ((j : Int) - b).toNat else ca j := by
  unfold cpM
  rw [cpL_e hb z.toNat 0 ca j (by omega)]
  by_cases h : b ≤ j ∧ (j : Int) < b + z
  · rw [if_pos h, if_pos (by omega)]
  · rw [if_neg h, if_neg (by omega)]
/-- load, where a record comes to the shelf -/
theorem SR.load_ {ub ca le : Nat → Int} {hd : Nat → Option HD} (hS : SR ca le hd) (hub : C2 ub) {n : Nat} {base fd : Int} {sf : Int → Int} {d : HD} {r : Int} (hr : 0 ≤ r ∧ r ≤ 9) (hn : 24 ≤ n ∧ n ≤ 400)
    (e1 : d.n = n) (e2 : d.t = va_cpy ub (fun _ => 0) 0 0 n) (hR : RecOK d.t n base fd sf) (hX : RecX d.t n fd sf) (hb : numAt d.t n 12 5 = base) (hf : 1 ≤ fd) (e3 : d.fd = fd) (e4 : (d.ti, d.ts, d.te, d.tl, d.tc) = rtL d.t n sf fd.toNat 0 (fun _ => 0, fun _ => 0, fun _ => 0, fun _ => 0, 0)) (hH : HR d.n d.mx d.t d.ti d.ts d.te d.tl d.tc) :
    SR (cpM ub ca (400 * r) n) (va_up le r.toNat n) (va_up hd r.toNat (some d)) := by
  have hcp : ∀ j : Nat, cpM ub ca (400 * r) n j = if 400 * r ≤ j ∧ (j : Int) < 400 * r + n then ub ((j : Int) - 400 * r).toNat else ca j := fun j => cpM_e (by omega) (by omega) j
  intro q h0 h9
  by_cases e : q.toNat = r.toNat
  · have eq : q = r := by omega
    subst eq
    rw [vu_e, vu_e]
    have hRD : RD (cpM ub ca (400 * q) n) q d := by
      subst e1
      refine ⟨base, fd, sf, hn.2, hR, hX, hb, hf, e3, e4, fun j j0 j1 => ?_, ⟨h0, h9⟩, fun j => ?_⟩
      · rw [hcp, if_pos (by omega), e2, cpy_t _ (by omega)]
        congr 1
        omega
      · rw [e2]
        unfold va_cpy
        split
        · exact hub _
        · exact ⟨by show (0 : Int) ≤ 0; omega, by show (0 : Int) < 256; omega⟩
    refine Or.inr ⟨d, rfl, by rw [e1], by omega, hRD, ⟨hH, fun j => ?_⟩, HDt_of hRD⟩
    have := te_rtL (hR) fd.toNat 0 (fun _ => 0, fun _ => 0, fun _ => 0, fun _ => 0, 0) (by omega) (by omega) (fun j => by show (0 : Int) ≤ n; omega) j
    rw [← e4] at this
    rw [e1]
    exact this
  · rw [vu_n e, vu_n e]
    rcases hS q h0 h9 with e5 | ⟨d2, g1, g2, g3, gR, gO, gT⟩
    · exact Or.inl e5
    · have := gR.n_
      refine Or.inr ⟨d2, g1, g2, g3, gR.cong (fun j j0 j1 => ?_), gO, gT⟩
      rw [hcp, if_neg (by omega)]
theorem cpM_hi {ub ca : Nat → Int} {r : Int} {n : Nat} (hr : 0 ≤ r ∧ r ≤ 9) (hn : n ≤ 400) {j : Nat} (h : 4000 ≤ j) : cpM ub ca (400 * r) n j = ca j := by
  rw [cpM_e (by omega) (by omega), if_neg (by omega)]
theorem cpM_C2 {ub ca : Nat → Int} {r : Int} {n : Nat} (hr : 0 ≤ r ∧ r ≤ 9) (h1 : C2 ub) (h2 : C2 ca) : C2 (cpM ub ca (400 * r) n) := by
  intro j
  rw [cpM_e (by omega) (by omega)]
  split
  · exact h1 _
  · exact h2 _

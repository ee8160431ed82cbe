/-! THE LINE's tokens: both sides -/
def kM (c : Int) : Int := if c = 1 then 1 else if c = 2 then 2 else if c = 3 then 7 else if c = 4 then 3 else if c = 5 then 6 else if c = 6 then 0 else if c = 7 then 11 else if c = 8 then 12 else if c = 9 then 4 else if c = 10 then 5 else if c = 11 then 8 else if c = 12 then 9 else 10
abbrev Tk3 : Type := Int × Int × Int
def rK (t : Tk3) : Tk4 := (4000 + t.2.2, kM t.1, 4000 + t.2.1 + (if t.1 = 2 ∨ t.1 = 3 then 1 else 0), 4000 + t.2.2 - (if t.1 = 2 then 1 else 0))
def LNf (ca lc : Nat → Int) (kn : Int) : Prop := (0 ≤ kn ∧ kn ≤ 100) ∧ ∀ j : Int, 0 ≤ j → j < kn → ca (4000 + j).toNat = lc j.toNat
theorem ch_in {lc : Nat → Int} {kn x : Int} (h0 : 0 ≤ x) (h : x < kn) : chL lc kn x = lc x.toNat := by unfold chL; rw [if_pos ⟨h0, h⟩]
theorem ch_out {lc : Nat → Int} {kn x : Int} (h : kn ≤ x) : chL lc kn x = 0 := by unfold chL; rw [if_neg (by omega)]
theorem wrL_iw {ca lc : Nat → Int} {kn st x : Int} {i i2 : Nat} (hL : LNf ca lc kn) (h0 : 0 ≤ st) : ∀ (n j0 j1 : Nat), (∀ t, t < n → chS i (j0 + t) = chW i2 (j1 + t)) → 4000 + st + j0 = x + j1 → st + j0 + n ≤ kn → wrL lc kn st i n j0 = iwL ca x i2 n j1 := by
  intro n
  induction n with
  | zero => intro j0 j1 _ _ _; rfl
  | succ n ih =>
    intro j0 j1 hc hx hn
    simp only [wrL, iwL]
    rw [ch_in (by omega) (by omega), ← hL.2 (st + j0) (by omega) (by omega), show 4000 + (st + (j0 : Int)) = x + (j1 : Int) by omega, Int.toNat_natCast, Int.toNat_natCast]
    have c0 := hc 0 (by omega)
    rw [Nat.add_zero, Nat.add_zero] at c0
    rw [c0, show (j0 : Int) + 1 = ((j0 + 1 : Nat) : Int) by omega, show (j1 : Int) + 1 = ((j1 + 1 : Nat) : Int) by omega]
    rw [ih (j0 + 1) (j1 + 1) (fun t ht => by have := hc (t + 1) (by omega); rw [show j0 + 1 + t = j0 + (t + 1) by omega, show j1 + 1 + t = j1 + (t + 1) by omega]; exact this) (by omega) (by omega)]
theorem len_wl : ∀ i : Fin 15, i.val = 0 ∨ i.val = 5 ∨ lenS.getD i.val 0 = wln i.val := by decide
theorem wr_iw {ca lc : Nat → Int} {kn st en : Int} {i : Nat} (hL : LNf ca lc kn) (h0 : 0 ≤ st) (h1 : en ≤ kn) (hi : 1 ≤ i ∧ i ≤ 14 ∧ i ≠ 5) : wrF lc kn st en i = iwM ca (4000 + st) (4000 + en) i := by
  have hl : lenS.getD i 0 = wln i := by
    rcases len_wl ⟨i, by omega⟩ with q | q | q
    · have q : i = 0 := q; omega
    · have q : i = 5 := q; omega
    · exact q
  unfold wrF iwM
  rw [hl, show 4000 + en - (4000 + st) = en - st by omega]
  by_cases c : en - st = (wln i : Int)
  · rw [if_pos c, if_pos c]
    exact wrL_iw hL h0 (wln i) 0 0 (fun t _ => by unfold chW; rw [if_pos (by omega)]) (by omega) (by omega)
  · rw [if_neg c, if_neg c]
theorem wrL_app {lc : Nat → Int} {kn st : Int} {i : Nat} : ∀ (a b : Nat) (j : Int), wrL lc kn st i (a + b) j = (wrL lc kn st i a j && wrL lc kn st i b (j + a)) := by
  intro a
  induction a with
  | zero => intro b j; rw [Nat.zero_add, show j + ((0 : Nat) : Int) = j by omega]; rfl
  | succ a ih =>
    intro b j
    rw [show a + 1 + b = (a + b) + 1 by omega]
    simp only [wrL]
    by_cases c : sml (chL lc kn (st + j)) = chS i j.toNat
    · rw [if_pos c, if_pos c, ih, show j + 1 + (a : Int) = j + ((a + 1 : Nat) : Int) by omega]
    · rw [if_neg c, if_neg c, Bool.false_and]
theorem wr_de {ca lc : Nat → Int} {kn st en : Int} (hL : LNf ca lc kn) (h0 : 0 ≤ st) (h1 : en ≤ kn) : wrF lc kn st en 5 = deM ca (4000 + st) (4000 + en) := by
  unfold wrF deM
  rw [show 4000 + en - (4000 + st) = en - st by omega]
  by_cases c : en - st = 10
  · rw [if_pos (by exact c), decide_eq_true c, Bool.true_and]
    have e : wrL lc kn st 5 (lenS.getD 5 0) 0 = (wrL lc kn st 5 7 0 && wrL lc kn st 5 3 (0 + ((7 : Nat) : Int))) := wrL_app 7 3 0
    rw [e]
    have e1 : wrL lc kn st 5 7 0 = iwM ca (4000 + st) (4000 + st + 7) 15 := by
      unfold iwM
      rw [if_pos (show 4000 + st + 7 - (4000 + st) = ((wln 15 : Nat) : Int) by show _ = (7 : Int); omega)]
      exact wrL_iw hL h0 7 0 0 (by decide) (by omega) (by omega)
    have e2 : wrL lc kn st 5 3 (0 + ((7 : Nat) : Int)) = iwM ca (4000 + st + 7) (4000 + en) 16 := by
      unfold iwM
      rw [if_pos (show 4000 + en - (4000 + st + 7) = ((wln 16 : Nat) : Int) by show _ = (3 : Int); omega)]
      exact wrL_iw hL h0 3 7 0 (by decide) (by omega) (by omega)
    rw [e1, e2]
  · rw [if_neg (by exact c), decide_eq_false c, Bool.false_and]
theorem kn_kw {ca lc : Nat → Int} {kn st en : Int} (hL : LNf ca lc kn) (h0 : 0 ≤ st) (h1 : en ≤ kn) : kwM ca (4000 + st) (4000 + en) = kM (knF lc kn st en) ∧ knF lc kn st en ≠ 2 ∧ knF lc kn st en ≠ 3 := by
  unfold kwM knF
  rw [wr_iw hL h0 h1 (i := 1) (by omega), wr_iw hL h0 h1 (i := 2) (by omega), wr_iw hL h0 h1 (i := 3) (by omega), wr_iw hL h0 h1 (i := 4) (by omega), wr_de hL h0 h1]
  (repeat' split) <;> decide
theorem naL_nm {ca lc : Nat → Int} {kn : Int} (hL : LNf ca lc kn) : ∀ (k : Nat) (x : Int), 0 ≤ x → x + k ≤ kn → naL ca k (4000 + x) = 4000 + nmL lc kn k x := by
  intro k
  induction k with
  | zero => intro x _ _; rfl
  | succ k ih =>
    intro x h0 h1
    simp only [naL, nmL]
    rw [hL.2 x h0 (by omega), ch_in h0 (by omega)]
    by_cases c : isNam (lc x.toNat) = true
    · rw [if_pos c, if_pos c, show 4000 + x + 1 = 4000 + (x + 1) by omega]; exact ih (x + 1) (by omega) (by omega)
    · rw [if_neg c, if_neg c]
theorem qoL_qu {ca lc : Nat → Int} {kn : Int} (hL : LNf ca lc kn) : ∀ (k : Nat) (x : Int), 0 ≤ x → x + k = kn → (qoL ca k (4000 + x) < 4000 + kn ∧ quL lc kn k x = qoL ca k (4000 + x) - 4000 + 1 ∧ lc (quL lc kn k x - 1).toNat = 34 ∧ x ≤ quL lc kn k x - 1) ∨ (qoL ca k (4000 + x) = 4000 + kn ∧ quL lc kn k x = kn ∧ ∀ z : Int, x ≤ z → z < kn → lc z.toNat ≠ 34) := by
  intro k
  induction k with
  | zero => intro x _ h; simp only [qoL, quL]; exact Or.inr ⟨by omega, trivial, fun z z1 z2 => by omega⟩
  | succ k ih =>
    intro x h0 h1
    simp only [qoL, quL]
    rw [hL.2 x h0 (by omega), ch_in h0 (by omega)]
    by_cases c : lc x.toNat = 34
    · rw [if_pos c, if_pos c]
      exact Or.inl ⟨by omega, by omega, by rw [show x + 1 - 1 = x by omega]; exact c, by omega⟩
    · rw [if_neg c, if_neg c, show 4000 + x + 1 = 4000 + (x + 1) by omega]
      rcases ih (x + 1) (by omega) (by omega) with ⟨a, b, d, e⟩ | ⟨a, b, d⟩
      · exact Or.inl ⟨a, b, d, by omega⟩
      · refine Or.inr ⟨a, b, fun z z1 z2 => ?_⟩
        by_cases e : z = x
        · rw [e]; exact c
        · exact d z (by omega) z2
def enF (lc : Nat → Int) (kn x : Int) : Int := max (x + 1) (etF lc kn x)
theorem enF_r {lc : Nat → Int} {kn x : Int} (h : 0 ≤ x ∧ x < kn) : x + 1 ≤ enF lc kn x ∧ enF lc kn x ≤ kn := by
  have := etF_r (lc := lc) h
  unfold enF
  omega
theorem nx_tok {ca lc : Nat → Int} {kn x : Int} (hL : LNf ca lc kn) (h0 : 0 ≤ x) (h1 : x < kn) (h2 : lc x.toNat ≠ 32) : nxM ca (4000 + kn) (4000 + x) = rK (koF lc kn x (enF lc kn x), x, enF lc kn x) := by
  have hx := hL.2 x h0 h1
  have esk : skM ca (4000 + kn) (4000 + x) = 4000 + x := by
    unfold skM
    rw [show (4000 + kn - (4000 + x)).toNat = (kn - x - 1).toNat + 1 by omega]
    simp only [skL]
    rw [hx, if_neg h2]
  unfold nxM
  rw [esk]
  unfold nxB
  rw [if_neg (by omega), hx]
  have hr := enF_r (lc := lc) (kn := kn) (x := x) ⟨h0, h1⟩
  unfold koF
  rw [ch_in h0 h1]
  by_cases c1 : isNam (lc x.toNat) = true
  · have hnm := of_decide_eq_true c1
    have een : enF lc kn x = nmL lc kn (kn - x).toNat x := by
      unfold enF etF
      rw [ch_in h0 h1, if_neg (by omega), if_neg (by unfold isCmp; rw [decide_eq_true_eq]; omega)]
      have : x + 1 ≤ nmL lc kn (kn - x).toNat x := by
        rw [show (kn - x).toNat = (kn - (x + 1)).toNat + 1 by omega]
        simp only [nmL]
        rw [ch_in h0 h1, if_pos c1]
        exact (nmL_r (lc := lc) (kn := kn) (kn - (x + 1)).toNat (x + 1) (by omega)).1
      omega
    have ena : naM ca (4000 + kn) (4000 + x) = 4000 + enF lc kn x := by
      unfold naM
      rw [show (4000 + kn - (4000 + x)).toNat = (kn - x).toNat by omega, naL_nm hL _ x h0 (by omega), een]
    obtain ⟨k1, k2, k3⟩ := kn_kw (st := x) (en := enF lc kn x) hL h0 hr.2
    rw [if_pos c1, if_pos c1, ena, k1]
    unfold rK
    dsimp only
    rw [if_neg (by omega), if_neg k2]
    simp only [Int.add_zero, Int.sub_zero]
  · rw [if_neg c1, if_neg c1]
    have hn : lc x.toNat = 34 ∨ lc x.toNat = 40 ∨ lc x.toNat = 41 ∨ lc x.toNat = 47 ∨ lc x.toNat = 60 ∨ lc x.toNat = 61 ∨ lc x.toNat = 62 := by
      unfold isNam at c1
      rw [decide_eq_true_eq] at c1
      omega
    by_cases c2 : lc x.toNat = 34
    · rw [if_pos c2, if_neg (by unfold isCmp; rw [decide_eq_true_eq]; omega), if_pos c2]
      have eet : etF lc kn x = quL lc kn (kn - (x + 1)).toNat (x + 1) := by
        unfold etF; rw [ch_in h0 h1, if_pos c2]
      have eqo : qoM ca (4000 + kn) (4000 + x + 1) = qoL ca (kn - (x + 1)).toNat (4000 + (x + 1)) := by
        unfold qoM
        rw [show 4000 + kn - (4000 + x + 1) = kn - (x + 1) by omega, show 4000 + x + 1 = 4000 + (x + 1) by omega]
      rw [eqo]
      unfold nxT rK
      dsimp only
      rcases qoL_qu hL (kn - (x + 1)).toNat (x + 1) (by omega) (by omega) with ⟨a, b, d, e⟩ | ⟨a, b, d⟩
      · have een : enF lc kn x = quL lc kn (kn - (x + 1)).toNat (x + 1) := by unfold enF; rw [eet]; omega
        rw [if_pos a, if_pos a, een, ch_in (by omega) (by omega), if_pos ⟨by omega, d⟩]
        rw [if_pos (Or.inl rfl), if_pos rfl, b]
        refine Prod.ext ?_ (Prod.ext ?_ (Prod.ext ?_ ?_)) <;> (try dsimp only) <;> (first | rfl | omega)
      · have een : enF lc kn x = kn := by unfold enF; rw [eet, b]; omega
        rw [if_neg (by omega), if_neg (by omega), een, a]
        have hk : ¬ (1 < kn - x ∧ chL lc kn (kn - 1) = 34) := by
          rintro ⟨q1, q2⟩
          rw [ch_in (by omega) (by omega)] at q2
          exact d (kn - 1) (by omega) (by omega) q2
        rw [if_neg hk, if_pos (Or.inr rfl), if_neg (by decide)]
        refine Prod.ext ?_ (Prod.ext ?_ (Prod.ext ?_ ?_)) <;> (try dsimp only) <;> (first | rfl | omega)
    · rw [if_neg c2, if_neg c2]
      unfold nxS nxK
      rw [hx]
      have hx1 : (4000 + x + 1 < 4000 + kn ∧ ca (4000 + x + 1).toNat = 61) ↔ chL lc kn (x + 1) = 61 := by
        by_cases q : x + 1 < kn
        · rw [ch_in (by omega) q, show 4000 + x + 1 = 4000 + (x + 1) by omega, hL.2 (x + 1) (by omega) q]
          exact ⟨fun z => z.2, fun z => ⟨by omega, z⟩⟩
        · rw [ch_out (by omega)]
          exact ⟨fun z => by omega, fun z => by omega⟩
      by_cases c3 : isCmp (lc x.toNat) = true
      · have h3 := of_decide_eq_true c3
        rw [if_pos c3, if_neg (show ¬ lc x.toNat = 40 by omega), if_neg (show ¬ lc x.toNat = 41 by omega), if_neg (show ¬ lc x.toNat = 47 by omega)]
        by_cases c4 : chL lc kn (x + 1) = 61
        · have een : enF lc kn x = x + 2 := by
            unfold enF etF
            rw [ch_in h0 h1, if_neg c2, if_pos c3, if_pos c4]; omega
          have := hx1.mpr c4
          rw [if_pos (show 4000 + x + 1 < 4000 + kn ∧ ca (4000 + x + 1).toNat = 61 ∧ (lc x.toNat = 61 ∨ lc x.toNat = 60 ∨ lc x.toNat = 62) from ⟨this.1, this.2, by omega⟩), een]
          unfold rK
          dsimp only
          rw [if_neg (by decide), if_neg (by decide)]
          refine Prod.ext ?_ (Prod.ext ?_ (Prod.ext ?_ ?_)) <;> (try dsimp only) <;> (first | rfl | omega)
        · have een : enF lc kn x = x + 1 := by
            unfold enF etF
            rw [ch_in h0 h1, if_neg c2, if_pos c3, if_neg c4]; omega
          rw [if_neg (show ¬ (4000 + x + 1 < 4000 + kn ∧ ca (4000 + x + 1).toNat = 61 ∧ (lc x.toNat = 61 ∨ lc x.toNat = 60 ∨ lc x.toNat = 62)) from fun z => c4 (hx1.mp ⟨z.1, z.2.1⟩)), een]
          unfold rK
          dsimp only
          rw [if_neg (by decide), if_neg (by decide)]
          refine Prod.ext ?_ (Prod.ext ?_ (Prod.ext ?_ ?_)) <;> (try dsimp only) <;> (first | rfl | omega)
      · have h3 : ¬ (lc x.toNat = 60 ∨ lc x.toNat = 61 ∨ lc x.toNat = 62) := by
          intro q; exact c3 (decide_eq_true q)
        have een : enF lc kn x = x + 1 := by
          unfold enF etF
          rw [ch_in h0 h1, if_neg c2, if_neg c3, show (kn - x).toNat = (kn - (x + 1)).toNat + 1 by omega]
          simp only [nmL]
          rw [ch_in h0 h1, if_neg c1]; omega
        rw [if_neg c3, if_neg (show ¬ (4000 + x + 1 < 4000 + kn ∧ ca (4000 + x + 1).toNat = 61 ∧ (lc x.toNat = 61 ∨ lc x.toNat = 60 ∨ lc x.toNat = 62)) from fun z => h3 (by omega)), een]
        have h5 : lc x.toNat = 40 ∨ lc x.toNat = 41 ∨ lc x.toNat = 47 := by omega
        unfold rK
        rcases h5 with q | q | q <;> rw [q] <;> (refine Prod.ext ?_ (Prod.ext ?_ (Prod.ext ?_ ?_)) <;> simp [kM] <;> omega)
theorem nx_sp {ca lc : Nat → Int} {kn x : Int} (hL : LNf ca lc kn) (h0 : 0 ≤ x) (h1 : x < kn) (h2 : lc x.toNat = 32) : nxM ca (4000 + kn) (4000 + x) = nxM ca (4000 + kn) (4000 + (x + 1)) := by
  unfold nxM
  have : skM ca (4000 + kn) (4000 + x) = skM ca (4000 + kn) (4000 + (x + 1)) := by
    unfold skM
    rw [show (4000 + kn - (4000 + x)).toNat = (4000 + kn - (4000 + (x + 1))).toNat + 1 by omega]
    simp only [skL]
    rw [hL.2 x h0 h1, if_pos h2, show 4000 + x + 1 = 4000 + (x + 1) by omega]
  rw [this]
theorem nx_end {ca : Nat → Int} {e : Int} : nxM ca e e = (e, 0, e, e) := by
  unfold nxM
  have : skM ca e e = e := by
    unfold skM
    rw [show (e - e).toNat = 0 by omega]; rfl
  rw [this]
  unfold nxB
  rw [if_pos rfl]
def tkl (lc : Nat → Int) (kn : Int) : Nat → Int → List Tk3
  | 0, _ => []
  | k + 1, x => if kn ≤ x then [] else if lc x.toNat = 32 then tkl lc kn k (x + 1) else (koF lc kn x (enF lc kn x), x, enF lc kn x) :: tkl lc kn k (enF lc kn x)
/-- the reference's tokens, one after another -/
def rTk (ca : Nat → Int) (e : Int) : Nat → Tk4
  | 0 => nxM ca e 4000
  | i + 1 => nxM ca e (rTk ca e i).1
def rTf (ca : Nat → Int) (e a : Int) : Nat → Tk4
  | 0 => nxM ca e a
  | i + 1 => nxM ca e (rTf ca e a i).1
theorem rTf_s {ca : Nat → Int} {e a : Int} : ∀ i : Nat, rTf ca e a (i + 1) = rTf ca e (nxM ca e a).1 i := by
  intro i
  induction i with
  | zero => rfl
  | succ i ih => show nxM ca e (rTf ca e a (i + 1)).1 = nxM ca e (rTf ca e (nxM ca e a).1 i).1; rw [ih]
theorem rTf_e {ca : Nat → Int} {e : Int} : ∀ i : Nat, rTf ca e e i = (e, 0, e, e) := by
  intro i
  induction i with
  | zero => exact nx_end
  | succ i ih => show nxM ca e (rTf ca e e i).1 = _; rw [ih]; exact nx_end
theorem rTk_f {ca : Nat → Int} {e : Int} : ∀ i : Nat, rTk ca e i = rTf ca e 4000 i := by
  intro i
  induction i with
  | zero => rfl
  | succ i ih => show nxM ca e (rTk ca e i).1 = nxM ca e (rTf ca e 4000 i).1; rw [ih]
theorem rTf_l {ca lc : Nat → Int} {kn : Int} (hL : LNf ca lc kn) : ∀ (k : Nat) (x : Int), 0 ≤ x → x ≤ kn → (kn - x).toNat < k → ∀ i : Nat, rTf ca (4000 + kn) (4000 + x) i = match (tkl lc kn k x)[i]? with
    | some t => rK t
    | none => (4000 + kn, 0, 4000 + kn, 4000 + kn) := by
  intro k
  induction k with
  | zero => intro x _ _ h; omega
  | succ k ih =>
    intro x h0 h1 hk i
    simp only [tkl]
    by_cases c1 : kn ≤ x
    · rw [if_pos c1, show x = kn by omega, rTf_e]; rfl
    · rw [if_neg c1]
      by_cases c2 : lc x.toNat = 32
      · rw [if_pos c2, ← ih (x + 1) (by omega) (by omega) (by omega) i]
        have e := nx_sp hL h0 (by omega) c2
        cases i with
        | zero => exact e
        | succ i => rw [rTf_s, rTf_s, e]
      · rw [if_neg c2]
        have e := nx_tok hL h0 (by omega) c2
        have hr := enF_r (lc := lc) (kn := kn) (x := x) ⟨h0, by omega⟩
        cases i with
        | zero => exact e
        | succ i =>
          rw [rTf_s, e, List.getElem?_cons_succ]
          exact ih (enF lc kn x) (by omega) hr.2 (by omega) i
theorem tkL_l {lc : Nat → Int} {kn : Int} : ∀ (k : Nat) (x : Int) (z : Nat) (a b c : Nat → Int), (tkL lc kn k x ((z : Int), a, b, c)).1 = (z : Int) + (tkl lc kn k x).length ∧ (∀ j, j < z → (tkL lc kn k x ((z : Int), a, b, c)).2.1 j = a j ∧ (tkL lc kn k x ((z : Int), a, b, c)).2.2.1 j = b j ∧ (tkL lc kn k x ((z : Int), a, b, c)).2.2.2 j = c j) ∧ ∀ (i : Nat) (h : i < (tkl lc kn k x).length), ((tkL lc kn k x ((z : Int), a, b, c)).2.1 (z + i), (tkL lc kn k x ((z : Int), a, b, c)).2.2.1 (z + i), (tkL lc kn k x ((z : Int), a, b, c)).2.2.2 (z + i)) = (tkl lc kn k x)[i] := by
  intro k
  induction k with
  | zero => intro x z a b c; simp only [tkL, tkl]; exact ⟨by simp, fun j _ => ⟨trivial, trivial, trivial⟩, fun i h => absurd h (Nat.not_lt_zero _)⟩
  | succ k ih =>
    intro x z a b c
    simp only [tkL, tkl]
    by_cases c1 : kn ≤ x
    · rw [if_pos c1]
      simp only [if_pos c1]
      exact ⟨by simp, fun j _ => ⟨trivial, trivial, trivial⟩, fun i h => absurd h (Nat.not_lt_zero _)⟩
    · rw [if_neg c1]
      simp only [if_neg c1]
      by_cases c2 : lc x.toNat = 32
      · simp only [if_pos c2]
        exact ih (x + 1) z a b c
      · simp only [if_neg c2]
        rw [Int.toNat_natCast, show (z : Int) + 1 = ((z + 1 : Nat) : Int) by omega, show max (x + 1) (etF lc kn x) = enF lc kn x from rfl]
        obtain ⟨i1, i2, i3⟩ := ih (enF lc kn x) (z + 1) (va_up a z (koF lc kn x (enF lc kn x))) (va_up b z x) (va_up c z (enF lc kn x))
        refine ⟨by rw [i1, List.length_cons]; omega, ?_, ?_⟩
        · intro j hj
          obtain ⟨p1, p2, p3⟩ := i2 j (by omega)
          rw [p1, p2, p3, vu_n (by omega), vu_n (by omega), vu_n (by omega)]
          exact ⟨rfl, rfl, rfl⟩
        · intro i hi
          cases i with
          | zero =>
            obtain ⟨p1, p2, p3⟩ := i2 z (by omega)
            refine Eq.trans ?_ (show (koF lc kn x (enF lc kn x), x, enF lc kn x) = _ from rfl)
            refine Prod.ext ?_ (Prod.ext ?_ ?_)
            · exact p1.trans vu_e
            · exact p2.trans vu_e
            · exact p3.trans vu_e
          | succ i =>
            have := i3 i (by rw [List.length_cons] at hi; omega)
            rw [show z + (i + 1) = z + 1 + i by omega, this]
            rfl

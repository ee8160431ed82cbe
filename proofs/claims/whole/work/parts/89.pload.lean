/-! is it there already, is there room: both sides -/
theorem idL_iff {cb ca : Nat → Int} : ∀ (k L L2 : Nat) (b o : Int), 0 ≤ b → 0 ≤ o → cb (b.toNat + L) = 30 → (∀ i, i < L → cb (b.toNat + i) ≠ 30) → ca (o.toNat + L2) = 30 → (∀ i, i < L2 → ca (o.toNat + i) ≠ 30) → L < k → (idL cb ca k b o = true ↔ wdN cb b.toNat L = wdN ca o.toNat L2) := by
  intro k
  induction k with
  | zero => intro L L2 b o _ _ _ _ _ _ h; omega
  | succ k ih =>
    intro L L2 b o b0 o0 hb hbn ho hon hk
    simp only [idL]
    cases L with
    | zero =>
      have hb : cb b.toNat = 30 := hb
      by_cases c : cb b.toNat = ca o.toNat
      · rw [if_pos c, if_pos hb]
        cases L2 with
        | zero => exact ⟨fun _ => rfl, fun _ => rfl⟩
        | succ L2 => exact absurd (by rw [← hb, c]; rfl) (hon 0 (by omega))
      · rw [if_neg c]
        cases L2 with
        | zero => exact absurd (by rw [hb]; exact ho.symm) c
        | succ L2 =>
          rw [wdN_s]
          exact ⟨fun h => Bool.noConfusion h, fun h => by cases h⟩
    | succ L =>
      have hb0 : cb b.toNat ≠ 30 := hbn 0 (by omega)
      by_cases c : cb b.toNat = ca o.toNat
      · rw [if_pos c, if_neg hb0]
        cases L2 with
        | zero =>
          have ho : ca o.toNat = 30 := ho
          exact absurd (by rw [c, ho]) hb0
        | succ L2 =>
          rw [ih L L2 (b + 1) (o + 1) (by omega) (by omega) (by rw [show (b + 1).toNat + L = b.toNat + (L + 1) by omega]; exact hb) (fun i hi => by rw [show (b + 1).toNat + i = b.toNat + (i + 1) by omega]; exact hbn (i + 1) (by omega)) (by rw [show (o + 1).toNat + L2 = o.toNat + (L2 + 1) by omega]; exact ho) (fun i hi => by rw [show (o + 1).toNat + i = o.toNat + (i + 1) by omega]; exact hon (i + 1) (by omega)) (by omega)]
          rw [wdN_s, wdN_s, c, show (b + 1).toNat = b.toNat + 1 by omega, show (o + 1).toNat = o.toNat + 1 by omega]
          constructor
          · intro h; rw [h]
          · intro h; exact (List.cons.inj h).2
      · rw [if_neg c]
        cases L2 with
        | zero => rw [wdN_s]; exact ⟨fun h => Bool.noConfusion h, fun h => by cases h⟩
        | succ L2 =>
          rw [wdN_s, wdN_s]
          exact ⟨fun h => Bool.noConfusion h, fun h => absurd (List.cons.inj h).1 c⟩
theorem idM_D {ub ca : Nat → Int} {r y ye : Int} {d : HD} (h : RD ca r d) (hy : 0 ≤ y ∧ y ≤ ye ∧ ye ≤ 400) (h30 : ub ye.toNat = 30) (hno : ∀ z : Int, y ≤ z → z < ye → ub z.toNat ≠ 30) : idM ub ca y (400 * r + numM ca 5 (400 * r + 12) 0) = idD ub y ye d := by
  have htx := h.tx_ 5
  obtain ⟨base, fd, sf, h1, h2, h3, h4, h5, h6, h7, h8, h9, h10⟩ := h
  obtain ⟨⟨b1, b2, b3⟩, b4, b5, b6, hE⟩ := h2
  obtain ⟨c1, c2, c3, c4, c5, c6⟩ := hE 0 (by omega) (by omega)
  obtain ⟨x1, x2, x3⟩ := h3 0 (by omega) (by omega)
  have ebase : numM ca 5 (400 * r + 12) 0 = base := by rw [← h4]; exact numM_A h8 5 12 0 (by omega) (by omega)
  have htag : numAt d.t d.n (24 + 0 * 12) 3 = 1 := c5.mpr rfl
  -- the first TEXT of the other side
  have e3 : numM ca 3 (400 * r + 24 + 12 * 0) 0 = numAt d.t d.n (24 + 0 * 12) 3 := by
    rw [show 400 * r + 24 + 12 * 0 = 400 * r + (24 + 0 * 12) by omega]; exact numM_A h8 3 _ 0 (by omega) (by omega)
  have e5 : numM ca 5 (400 * r + 24 + 12 * 0 + 7) 0 = numAt d.t d.n (24 + 0 * 12 + 7) 5 := by
    rw [show 400 * r + 24 + 12 * 0 + 7 = 400 * r + (24 + 0 * 12 + 7) by omega]; exact numM_A h8 5 _ 0 (by omega) (by omega)
  have e4 : numM ca 4 (400 * r + 24 + 12 * 0 + 3) 0 = numAt d.t d.n (24 + 0 * 12 + 3) 4 := by
    rw [show 400 * r + 24 + 12 * 0 + 3 = 400 * r + (24 + 0 * 12 + 3) by omega]; exact numM_A h8 4 _ 0 (by omega) (by omega)
  have eg : ∃ l, gaT ca r 5 = (400 * r + sf 0, 400 * r + (sf (0 + 1) - 1)) :: l := by
    unfold gaT
    rw [ebase, show ((base - 25) / 12).toNat = (fd - 1).toNat + 1 by omega]
    simp only [gaL]
    unfold gaE
    rw [e3, e5, e4, ebase, htag, if_pos (by decide), if_pos ⟨rfl, rfl⟩, show 400 * r + base + numAt d.t d.n (24 + 0 * 12 + 7) 5 = 400 * r + sf 0 by omega, show 400 * r + sf 0 + numAt d.t d.n (24 + 0 * 12 + 3) 4 - 1 = 400 * r + (sf (0 + 1) - 1) by omega]
    exact ⟨_, rfl⟩
  obtain ⟨l, eg⟩ := eg
  rw [htx.1] at eg
  unfold txs at eg
  have hfst : txFst d.ti d.tc 5 d.tc.toNat 0 ≠ -1 ∧ d.ts (txFst d.ti d.tc 5 d.tc.toNat 0).toNat = sf 0 ∧ d.te (txFst d.ti d.tc 5 d.tc.toNat 0).toNat = sf (0 + 1) - 1 := by
    rcases txL_F (ti := d.ti) (ts := d.ts) (te := d.te) (tl := d.tl) (tc := d.tc) (ix := 5) d.tc.toNat 0 with ⟨q1, q2⟩ | ⟨q1, l2, q2⟩
    · rw [q2] at eg; cases eg
    · have hin := (txFst_r d.ti d.tc 5 d.tc.toNat 0).elim (fun q => absurd q q1) txIn_r
      rw [q2, List.map_cons] at eg
      have hh := (List.cons.inj eg).1
      unfold shF txSt txEn at hh
      dsimp only at hh
      rw [if_pos hin, if_pos hin, if_neg (by decide)] at hh
      have g1 := congrArg Prod.fst hh
      have g2 := congrArg Prod.snd hh
      dsimp only at g1 g2
      exact ⟨q1, by omega, by omega⟩
  obtain ⟨f1, f2, f3⟩ := hfst
  refine beq_iff (P := wdN ub y.toNat (ye - y).toNat = wdN ca (400 * r + base).toNat (sf (0 + 1) - 1 - sf 0).toNat) ?_ ?_
  · rw [ebase]
    unfold idM
    refine idL_iff 500 (ye - y).toNat (sf (0 + 1) - 1 - sf 0).toNat y (400 * r + base) hy.1 (by omega) ?_ ?_ ?_ ?_ (by omega)
    · rw [show y.toNat + (ye - y).toNat = ye.toNat by omega]; exact h30
    · intro i hi
      have := hno (y + i) (by omega) (by omega)
      rw [show (y + (i : Int)).toNat = y.toNat + i by omega] at this
      exact this
    · have := h8 (sf (0 + 1) - 1) (by omega) (by omega)
      rw [show (400 * r + base).toNat + (sf (0 + 1) - 1 - sf 0).toNat = (400 * r + (sf (0 + 1) - 1)).toNat by omega, this]
      exact x1
    · intro i hi
      have := h8 (sf 0 + i) (by omega) (by omega)
      rw [show (400 * r + base).toNat + i = (400 * r + (sf 0 + (i : Int))).toNat by omega, this]
      exact x2 (sf 0 + i) (by omega) (by omega)
  · unfold idD
    rw [decide_eq_true_eq, f2, f3, cmpF_W (by omega) (by omega), cmpW_0]
    have ew : wdL d.t (sf 0) (sf (0 + 1) - 1) = wdN ca (400 * r + base).toNat (sf (0 + 1) - 1 - sf 0).toNat := by
      rw [wdL_N]
      refine wdN_c (fun k hk => ?_)
      have := h8 (sf 0 + k) (by omega) (by omega)
      rw [show (400 * r + (sf 0 + (k : Int))).toNat = (400 * r + base).toNat + k by omega, show (sf 0 + (k : Int)).toNat = (sf 0).toNat + k by omega] at this
      exact this.symm
    rw [ew, wdL_N]
    exact ⟨fun q => q.2.symm, fun q => ⟨f1, q.symm⟩⟩
def itD (hd : Nat → Option HD) (ub : Nat → Int) (y ye : Int) : Nat → Bool
  | 0 => false
  | k + 1 => (hd k).any (idD ub y ye) || itD hd ub y ye k
def fuD (hd : Nat → Option HD) : Nat → Bool
  | 0 => true
  | k + 1 => (hd k).isSome && fuD hd k
def coV (y fp fr : Int) (a b : Bool) : Int × Int := if a = true then (-8, y) else if fr < 0 ∧ b = true then (-9, 0) else (0, fp)
theorem coL_D {ub ca le : Nat → Int} {hd : Nat → Option HD} (h : SR ca le hd) {fp y ye : Int} (hy : 0 ≤ y ∧ y ≤ ye ∧ ye ≤ 400) (h30 : ub ye.toNat = 30) (hno : ∀ z : Int, y ≤ z → z < ye → ub z.toNat ≠ 30) : ∀ (k : Nat) (fr : Int), k ≤ 10 → coL ub ca le fp y k fr = coV y fp fr (itD hd ub y ye k) (fuD hd k) := by
  intro k
  induction k with
  | zero =>
    intro fr _
    show (if fr < 0 then ((-9 : Int), (0 : Int)) else (0, fp)) = coV y fp fr false true
    unfold coV
    rw [if_neg (show ¬ (false : Bool) = true by decide)]
    by_cases c : fr < 0
    · rw [if_pos c, if_pos (And.intro c rfl)]
    · rw [if_neg c, if_neg (fun q => c q.1)]
  | succ k ih =>
    intro fr hk
    have eI : itD hd ub y ye (k + 1) = ((hd k).any (idD ub y ye) || itD hd ub y ye k) := rfl
    have eF : fuD hd (k + 1) = ((hd k).isSome && fuD hd k) := rfl
    have eC : coL ub ca le fp y (k + 1) fr = if 0 < le k then (if idM ub ca y (400 * (k : Int) + numM ca 5 (400 * (k : Int) + 12) 0) = true then (-8, y) else coL ub ca le fp y k fr) else coL ub ca le fp y k k := rfl
    rw [eC, eI, eF]
    rcases h (k : Int) (by omega) (by omega) with ⟨e1, e2⟩ | ⟨d, e1, e2, e3, e4, e5, _⟩
    · rw [Int.toNat_natCast] at e1 e2
      rw [e1, if_neg (show ¬ 0 < le k by omega), ih _ (by omega)]
      rw [show ((none : Option HD).any (idD ub y ye) || itD hd ub y ye k) = itD hd ub y ye k from rfl, show ((none : Option HD).isSome && fuD hd k) = false from rfl]
      unfold coV
      by_cases c : itD hd ub y ye k = true
      · rw [if_pos c, if_pos c]
      · rw [if_neg c, if_neg c, if_neg (fun q => absurd q.1 (by omega)), if_neg (fun q => Bool.noConfusion q.2)]
    · rw [Int.toNat_natCast] at e1 e2
      rw [e1, if_pos (show 0 < le k by omega), idM_D e4 hy h30 hno, ih _ (by omega)]
      rw [show ((some d).any (idD ub y ye) || itD hd ub y ye k) = (idD ub y ye d || itD hd ub y ye k) from rfl, show ((some d).isSome && fuD hd k) = fuD hd k from Bool.true_and _]
      by_cases c : idD ub y ye d = true
      · rw [if_pos c, c, Bool.true_or]; rfl
      · rw [if_neg c]
        rw [Bool.not_eq_true] at c
        rw [c, Bool.false_or]
theorem itL_e {hd : Nat → Option HD} {ub : Nat → Int} {y ye : Int} : ∀ (k : Nat) (r : Nat), itL hd ub y ye k r = true ↔ ∃ z : Nat, r ≤ z ∧ z < r + k ∧ (hd z).any (idD ub y ye) = true := by
  intro k
  induction k with
  | zero => intro r; simp only [itL]; exact ⟨fun h => Bool.noConfusion h, fun ⟨z, a, b, _⟩ => by omega⟩
  | succ k ih =>
    intro r
    simp only [itL]
    rw [Int.toNat_natCast, Bool.or_eq_true, show (r : Int) + 1 = ((r + 1 : Nat) : Int) by omega, ih (r + 1)]
    constructor
    · rintro (h | ⟨z, a, b, h⟩)
      · exact ⟨r, by omega, by omega, h⟩
      · exact ⟨z, by omega, by omega, h⟩
    · rintro ⟨z, a, b, h⟩
      by_cases e : z = r
      · subst e; exact Or.inl h
      · exact Or.inr ⟨z, by omega, by omega, h⟩
theorem itD_e {hd : Nat → Option HD} {ub : Nat → Int} {y ye : Int} : ∀ k : Nat, itD hd ub y ye k = true ↔ ∃ z : Nat, z < k ∧ (hd z).any (idD ub y ye) = true := by
  intro k
  induction k with
  | zero => simp only [itD]; exact ⟨fun h => Bool.noConfusion h, fun ⟨z, a, _⟩ => by omega⟩
  | succ k ih =>
    simp only [itD]
    rw [Bool.or_eq_true, ih]
    constructor
    · rintro (h | ⟨z, a, h⟩)
      · exact ⟨k, by omega, h⟩
      · exact ⟨z, by omega, h⟩
    · rintro ⟨z, a, h⟩
      by_cases e : z = k
      · subst e; exact Or.inl h
      · exact Or.inr ⟨z, by omega, h⟩
theorem itM_D {hd : Nat → Option HD} {ub : Nat → Int} {y ye : Int} : itM hd ub y ye = itD hd ub y ye 10 := by
  refine beq_iff (P := ∃ z : Nat, z < 10 ∧ (hd z).any (idD ub y ye) = true) ?_ (itD_e 10)
  have := itL_e (hd := hd) (ub := ub) (y := y) (ye := ye) 10 0
  unfold itM
  rw [show (0 : Int) = ((0 : Nat) : Int) from rfl, this]
  constructor
  · rintro ⟨z, _, b, h⟩; exact ⟨z, by omega, h⟩
  · rintro ⟨z, b, h⟩; exact ⟨z, by omega, by omega, h⟩
theorem fuD_e {hd : Nat → Option HD} : ∀ k : Nat, fuD hd k = true ↔ ∀ z : Nat, z < k → (hd z).isSome = true := by
  intro k
  induction k with
  | zero => exact ⟨fun _ z h => by omega, fun _ => rfl⟩
  | succ k ih =>
    simp only [fuD]
    rw [Bool.and_eq_true, ih]
    constructor
    · rintro ⟨h1, h2⟩ z hz
      by_cases e : z = k
      · subst e; exact h1
      · exact h2 z (by omega)
    · intro h; exact ⟨h k (by omega), fun z hz => h z (by omega)⟩
theorem lfL_e {hd : Nat → Option HD} : ∀ (k r : Nat), (lfL hd k r = -1 ∧ ∀ z : Nat, r ≤ z → z < r + k → (hd z).isSome = true) ∨ (∃ q : Nat, lfL hd k r = q ∧ r ≤ q ∧ q < r + k ∧ hd q = none ∧ ∀ z : Nat, r ≤ z → z < q → (hd z).isSome = true) := by
  intro k
  induction k with
  | zero => intro r; exact Or.inl ⟨rfl, fun z a b => by omega⟩
  | succ k ih =>
    intro r
    simp only [lfL]
    rw [Int.toNat_natCast]
    cases hr : hd r with
    | none =>
      rw [if_pos (show (none : Option HD).isNone = true from rfl)]
      exact Or.inr ⟨r, rfl, by omega, by omega, hr, fun z a b => by omega⟩
    | some d =>
      rw [if_neg (show ¬ (some d).isNone = true from fun q => Bool.noConfusion q), show (r : Int) + 1 = ((r + 1 : Nat) : Int) by omega]
      rcases ih (r + 1) with ⟨a, b⟩ | ⟨q, a, b, c, e, f⟩
      · refine Or.inl ⟨a, fun z z1 z2 => ?_⟩
        by_cases e : z = r
        · rw [e, hr]; rfl
        · exact b z (by omega) (by omega)
      · refine Or.inr ⟨q, a, by omega, by omega, e, fun z z1 z2 => ?_⟩
        by_cases e : z = r
        · rw [e, hr]; rfl
        · exact f z (by omega) z2
/-- what comes after the look: twice, full, or free -/
theorem coM_D {ub ca le : Nat → Int} {hd : Nat → Option HD} (h : SR ca le hd) {fp y ye : Int} (hy : 0 ≤ y ∧ y ≤ ye ∧ ye ≤ 400) (h30 : ub ye.toNat = 30) (hno : ∀ z : Int, y ≤ z → z < ye → ub z.toNat ≠ 30) : coM ub ca le fp y = if itM hd ub y ye = true then (-8, y) else if lfM hd = -1 then (-9, 0) else (0, fp) := by
  unfold coM
  rw [coL_D h hy h30 hno 10 (-1) (by omega), itM_D]
  unfold coV
  have e : ((-1 : Int) < 0 ∧ fuD hd 10 = true) ↔ lfM hd = -1 := by
    rw [fuD_e]
    have := lfL_e (hd := hd) 10 0
    rw [show lfL hd 10 ((0 : Nat) : Int) = lfM hd from rfl] at this
    rcases this with ⟨a, b⟩ | ⟨q, a, b, c, e, f⟩
    · exact ⟨fun _ => a, fun _ => ⟨by omega, fun z hz => b z (by omega) (by omega)⟩⟩
    · constructor
      · rintro ⟨_, g⟩
        have := g q (by omega)
        rw [e] at this; cases this
      · intro g; omega
  by_cases c : itD hd ub y ye 10 = true
  · rw [if_pos c, if_pos c]
  · rw [if_neg c, if_neg c]
    by_cases c2 : lfM hd = -1
    · rw [if_pos c2, if_pos (e.mpr c2)]
    · rw [if_neg c2, if_neg (fun q => c2 (e.mp q))]
theorem frL_e {ca le : Nat → Int} {hd : Nat → Option HD} (h : SR ca le hd) : ∀ (k r q : Nat), r ≤ q → q < r + k → r + k ≤ 10 → hd q = none → (∀ z : Nat, r ≤ z → z < q → (hd z).isSome = true) → frL le k r = q := by
  intro k
  induction k with
  | zero => intro r q h1 h2; omega
  | succ k ih =>
    intro r q h1 h2 h3 hq hz
    simp only [frL]
    rw [Int.toNat_natCast]
    rcases h (r : Int) (by omega) (by omega) with ⟨e1, e2⟩ | ⟨d, e1, e2, e3, _⟩
    · rw [Int.toNat_natCast] at e1 e2
      rw [e2, if_neg (by omega)]
      by_cases e : r = q
      · rw [e]
      · have := hz r (by omega) (by omega); rw [e1] at this; cases this
    · rw [Int.toNat_natCast] at e1 e2
      rw [if_pos (by omega), show (r : Int) + 1 = ((r + 1 : Nat) : Int) by omega]
      by_cases e : r = q
      · subst e; rw [hq] at e1; cases e1
      · exact ih (r + 1) q (by omega) (by omega) (by omega) hq (fun z z1 z2 => hz z (by omega) z2)
theorem frM_D {ca le : Nat → Int} {hd : Nat → Option HD} (h : SR ca le hd) (hn : lfM hd ≠ -1) : frM le = lfM hd ∧ 0 ≤ lfM hd ∧ lfM hd ≤ 9 ∧ hd (lfM hd).toNat = none := by
  have := lfL_e (hd := hd) 10 0
  rw [show lfL hd 10 ((0 : Nat) : Int) = lfM hd from rfl] at this
  rcases this with ⟨a, b⟩ | ⟨q, a, b, c, e, f⟩
  · exact absurd a hn
  · refine ⟨?_, by omega, by omega, by rw [a, Int.toNat_natCast]; exact e⟩
    rw [a]
    exact frL_e h 10 0 q (by omega) (by omega) (by omega) e f

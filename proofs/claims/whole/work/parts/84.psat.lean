/-! which RECORDS satisfy: both sides -/
theorem anyC {α : Type} {p q : α → Bool} : ∀ l : List α, (∀ x ∈ l, p x = q x) → l.any p = l.any q := by
  intro l
  induction l with
  | nil => intro _; rfl
  | cons a l ih => intro h; rw [List.any_cons, List.any_cons, h a (by simp), ih (fun x hx => h x (by simp [hx]))]
theorem allC {α : Type} {p q : α → Bool} : ∀ l : List α, (∀ x ∈ l, p x = q x) → l.all p = l.all q := by
  intro l
  induction l with
  | nil => intro _; rfl
  | cons a l ih => intro h; rw [List.all_cons, List.all_cons, h a (by simp), ih (fun x hx => h x (by simp [hx]))]
theorem numL_c {t t2 : Nat → Int} {n : Nat} (h : ∀ j : Nat, j < n → t j = t2 j) : ∀ (k : Nat) (x v : Int), numL t n k x v = numL t2 n k x v := by
  intro k
  induction k with
  | zero => intro x v; rfl
  | succ k ih =>
    intro x v
    simp only [numL]
    by_cases c : 0 ≤ x ∧ x < n
    · rw [if_pos c, if_pos c, h x.toNat (by omega), ih]
    · rw [if_neg c, if_neg c, ih]
theorem numAt_c {t t2 : Nat → Int} {n : Nat} (h : ∀ j : Nat, j < n → t j = t2 j) (x k : Int) : numAt t n x k = numAt t2 n x k := numL_c h _ _ _
theorem RecA_c {t t2 : Nat → Int} {n : Nat} {base fd : Int} {sf : Int → Int} (h : ∀ j : Nat, j < n → t j = t2 j) (hR : RecOK t n base fd sf) (hX : RecX t n fd sf) : RecOK t2 n base fd sf ∧ RecX t2 n fd sf := by
  obtain ⟨b1, b2, b3, b4, hE⟩ := hR
  refine ⟨⟨b1, b2, b3, b4, ?_⟩, ?_⟩
  · intro e e0 e1
    have := hE e e0 e1
    rw [numAt_c h, numAt_c h, numAt_c h] at this
    obtain ⟨c1, c2, c3, c4, c5, c6⟩ := this
    refine ⟨c1, c2, c3, c4, c5, ?_⟩
    intro q
    obtain ⟨g1, g2⟩ := c6 q
    exact ⟨g1, by rw [← h _ (by omega)]; exact g2⟩
  · intro e e0 e1
    obtain ⟨c1, c2, c3, c4, c5, c6⟩ := hE e e0 e1
    have := hX e e0 e1
    rw [numAt_c h] at this
    obtain ⟨x1, x2, x3⟩ := this
    refine ⟨by rw [← h _ (by omega)]; exact x1, ?_, ?_⟩
    · intro z z1 z2; rw [← h _ (by omega)]; exact x2 z z1 z2
    · intro q z z1 z2 z3
      rw [← h _ (by omega)] at z3
      obtain ⟨y1, y2, y3⟩ := x3 q z z1 z2 z3
      exact ⟨y1, y2, by rw [← h _ (by omega)]; exact y3⟩
theorem RD.rec {ca : Nat → Int} {r : Int} {d : HD} (h : RD ca r d) : RecA (octM ca r) d.n := by
  obtain ⟨base, fd, sf, h1, h2, h3, h4, h5, h6, h7, h8, h9, h10⟩ := h
  have hc : ∀ j : Nat, j < d.n → d.t j = octM ca r j := by
    intro j hj
    have := h8 j (by omega) (by omega)
    rw [Int.toNat_natCast] at this
    rw [← this]
    unfold octM
    congr 1; omega
  obtain ⟨a, b⟩ := RecA_c hc h2 h3
  exact ⟨base, fd, sf, h1, a, b, by rw [← numAt_c hc]; exact h4, h5⟩
theorem RD.r9 {ca : Nat → Int} {r : Int} {d : HD} (h : RD ca r d) : 0 ≤ r ∧ r ≤ 9 := by
  obtain ⟨base, fd, sf, h1, h2, h3, h4, h5, h6, h7, h8, h9, h10⟩ := h
  exact h9
theorem RD.at_ {ca : Nat → Int} {r : Int} {d : HD} (h : RD ca r d) : (∀ j : Int, 0 ≤ j → j < d.n → ca (400 * r + j).toNat = d.t j.toNat) ∧ d.n ≤ 400 := by
  obtain ⟨base, fd, sf, h1, h2, h3, h4, h5, h6, h7, h8, h9, h10⟩ := h
  exact ⟨h8, h1⟩
theorem RD.in_ {ca : Nat → Int} {r : Int} {d : HD} (h : RD ca r d) (hk : ∀ j, d.te j ≤ d.n) {ix : Int} {q : Int × Int} (hq : q ∈ txs d ix) : 0 ≤ q.1 ∧ q.1 ≤ q.2 ∧ q.2 ≤ d.n := by
  obtain ⟨e1, e2⟩ := h.tx_ ix
  have hl := gaT_LB (ix := ix) h.r9 h.rec (shF (400 * r) q) (by rw [e1]; exact List.mem_map_of_mem hq)
  unfold shF at hl
  dsimp only at hl
  refine ⟨by omega, by omega, ?_⟩
  rw [txs_4 e2] at hq
  obtain ⟨e, he, hq⟩ := List.mem_flatMap.mp hq
  unfold tl4 at he
  obtain ⟨j, _, ej⟩ := List.mem_map.mp he
  unfold g1T at hq
  split at hq
  · rw [List.mem_singleton] at hq
    rw [hq, ← ej]
    exact hk j
  · cases hq
theorem tw_C {ca : Nat → Int} {r : Int} {d : HD} (h : RD ca r d) {q : Int × Int} (hq : 0 ≤ q.1 ∧ q.1 ≤ q.2 ∧ q.2 ≤ d.n) : (spW ca false (400 * r + q.1) (400 * r + q.2)).map (lwS ca) = twF d.t q := by
  have h9 := h.r9
  obtain ⟨h8, hn⟩ := h.at_
  rw [spW_F (by omega) (by omega)]
  unfold twF
  refine wsF_c (by omega) (fun k hk => ?_)
  have := h8 (q.1 + k) (by omega) (by omega)
  rw [show (400 * r + (q.1 + (k : Int))).toNat = (400 * r + q.1).toNat + k by omega, show (q.1 + (k : Int)).toNat = q.1.toNat + k by omega] at this
  exact this
theorem thT_W {ca : Nat → Int} {r : Int} {d : HD} (h : RD ca r d) {q : Int × Int} (hq : 0 ≤ q.1 ∧ q.1 ≤ q.2 ∧ q.2 ≤ d.n) {a : Int × Int} (ha : 0 ≤ a.1 ∧ a.1 ≤ a.2 ∧ a.2 ≤ 4900) : thT ca a (shF (400 * r) q) = (twF d.t q).any (mtW (lwS ca a)) := by
  have h9 := h.r9
  obtain ⟨h8, hn⟩ := h.at_
  unfold thT shF
  dsimp only
  rw [← tw_C h hq, List.any_map]
  exact anyC _ (fun w hw => mtA_W ha (spW_B (by omega) (by omega) w hw))
theorem thM_W {ca : Nat → Int} {r : Int} {d : HD} (h : RD ca r d) (hk : ∀ j, d.te j ≤ d.n) {ix : Int} {a : Int × Int} (ha : 0 ≤ a.1 ∧ a.1 ≤ a.2 ∧ a.2 ≤ 4900) : thM ca (gaT ca r ix) a = thW d.t (txs d ix) (lwS ca a) := by
  unfold thM thW
  rw [(h.tx_ ix).1, List.any_map]
  exact anyC _ (fun q hq => thT_W h (h.in_ hk hq) ha)
theorem saP_W {ca : Nat → Int} {r : Int} {d : HD} (h : RD ca r d) {rel : Int} {q : Int × Int} (hq : 0 ≤ q.1 ∧ q.1 ≤ q.2 ∧ q.2 ≤ d.n) {as : List (Int × Int)} (ha : LB as 0 4900) : saP ca rel as (shF (400 * r) q) = ioW (decide (rel - 1 = 3)) (as.map (lwS ca)) (twF d.t q) := by
  have h9 := h.r9
  obtain ⟨h8, hn⟩ := h.at_
  have hb : LB (spW ca false (400 * r + q.1) (400 * r + q.2)) 0 4900 := spW_B (by omega) (by omega)
  unfold saP ioW
  by_cases c : rel = 4
  · rw [if_pos c, if_pos (decide_eq_true (by omega))]
    unfold exT shF
    dsimp only
    rw [prM_W _ _ ha hb, tw_C h hq, ← tw_C h hq, List.length_map, List.length_map]
  · rw [if_neg c, if_neg (by rw [decide_eq_true_eq]; omega)]
    unfold adT shF
    dsimp only
    rw [adL_W ha _ hb, tw_C h hq]
def dtQ (t : Nat → Int) (n : Nat) : List (Int × Int) → Int
  | [] => -1
  | q :: l => if yearF t n q.1 q.2 ≠ -1 then yearF t n q.1 q.2 else dtQ t n l
theorem dtL_Q {t : Nat → Int} {n : Nat} {ti ts te tl : Nat → Int} {tc : Int} : ∀ (k : Nat) (i : Int), 0 ≤ i → dtL t n ti ts te tc k i = dtQ t n (txL ti ts te tl tc 4 k i) := by
  intro k
  induction k with
  | zero => intro i _; rfl
  | succ k ih =>
    intro i h0
    simp only [dtL, txL]
    by_cases c : txIn ti tc i 4 = true
    · have hr := txIn_r c
      rw [if_pos c]
      simp only [dtQ]
      unfold txSt txEn
      rw [if_pos hr, if_pos hr, if_neg (show ¬ (4 : Int) = 1 by omega), ← ih (i + 1) (by omega)]
      by_cases c2 : yearF t n (ts i.toNat) (te i.toNat) ≠ -1
      · rw [if_pos ⟨c, c2⟩, if_pos c2]
      · rw [if_neg (fun q => c2 q.2), if_neg c2]
    · rw [if_neg c, if_neg (fun q => c q.1)]
      exact ih (i + 1) (by omega)
theorem dtN_Q {ca : Nat → Int} {r : Int} {d : HD} (h : RD ca r d) : ∀ l : List (Int × Int), (∀ q ∈ l, 0 ≤ q.1 ∧ q.1 ≤ q.2 ∧ q.2 ≤ d.n) → dtN ca (l.map (shF (400 * r))) = dtQ d.t d.n l := by
  have h9 := h.r9
  obtain ⟨h8, hn⟩ := h.at_
  intro l
  induction l with
  | nil => intro _; rfl
  | cons q l ih =>
    intro hl
    have hq := hl q (by simp)
    rw [List.map_cons]
    simp only [dtN, dtQ]
    rw [ih (fun x hx => hl x (by simp [hx])), yearF_M (s := 400 * r) (by omega) h8 hq]
    unfold shF
    dsimp only
    by_cases c : 0 ≤ fouM ca (400 * r + q.1) (400 * r + q.2)
    · have := fou_nn c
      rw [if_pos c, if_pos c, if_pos (by omega)]
    · rw [if_neg c, if_neg c, if_neg (by omega)]
theorem dtM_F {ca : Nat → Int} {r : Int} {d : HD} (h : RD ca r d) (hk : ∀ j, d.te j ≤ d.n) : dtM ca r = dateF d.t d.n d.ti d.ts d.te d.tc := by
  unfold dtM dateF
  rw [(h.tx_ 4).1, dtN_Q h _ (fun q hq => h.in_ hk hq), dtL_Q (tl := d.tl) _ _ (by omega)]
  rfl
def yrM (ca : Nat → Int) (x y : Int) : Int := if 0 ≤ fouM ca x y then numM ca 4 (fouM ca x y) 0 else -1
theorem fil_any {α : Type} {p : α → Bool} : ∀ l : List α, decide (0 < (l.filter p).length) = l.any p := by
  intro l
  induction l with
  | nil => rfl
  | cons a l ih =>
    rw [List.filter_cons, List.any_cons]
    by_cases c : p a = true
    · rw [if_pos c, c, Bool.true_or, List.length_cons]; exact decide_eq_true (by omega)
    · rw [if_neg c, ih]; simp at c; rw [c, Bool.false_or]
theorem fil_all {α : Type} {p : α → Bool} : ∀ l : List α, decide ((l.filter p).length = l.length) = l.all p := by
  intro l
  induction l with
  | nil => rfl
  | cons a l ih =>
    rw [List.filter_cons, List.all_cons]
    have hl := List.length_filter_le p l
    by_cases c : p a = true
    · rw [if_pos c, c, Bool.true_and, ← ih, List.length_cons, List.length_cons]
      by_cases e : (l.filter p).length = l.length
      · rw [decide_eq_true e, decide_eq_true (by omega)]
      · rw [decide_eq_false e, decide_eq_false (by omega)]
    · rw [if_neg c, List.length_cons]
      simp at c
      rw [c, Bool.false_and]
      exact decide_eq_false (by omega)
theorem saM_D {ca : Nat → Int} {r : Int} {d : HD} (h : RD ca r d) (hk : ∀ j, d.te j ≤ d.n) {ix rel x y : Int} (hrel : 1 ≤ rel ∧ rel ≤ 8) (hx : 0 ≤ x ∧ x ≤ y ∧ y ≤ 4900 ∧ y - x ≤ 900) : saM ca r ix rel x y = saD (rel - 1) ix (yrM ca x y) (wsF ca true x y) d := by
  unfold saM saD saW
  have has : LB (spW ca true x y) 0 4900 := spW_B hx.1 (by omega)
  have hw := spW_F (f := ca) (b := true) (x := x) (y := y) hx.1 (by omega)
  by_cases c1 : 5 ≤ rel
  · rw [if_pos c1, if_pos (show 4 ≤ rel - 1 by omega), dtM_F h hk]
    have hd : 0 ≤ dateF d.t d.n d.ti d.ts d.te d.tc ∨ dateF d.t d.n d.ti d.ts d.te d.tc = -1 := by
      obtain ⟨base, fd, sf, h1, h2, h3, h4, h5, h6, h7, h8, h9, h10⟩ := h
      have := dateF_r (t := d.t) (n := d.n) (ti := d.ti) (ts := d.ts) (te := d.te) (tc := d.tc) (fun j => by have := h10 j; omega)
      omega
    unfold cdM cdF yrM
    by_cases c2 : 0 ≤ fouM ca x y
    · have := fou_nn c2
      rw [if_pos c2]
      rcases hd with hd | hd
      · rw [if_neg (show ¬ (dateF d.t d.n d.ti d.ts d.te d.tc < 0 ∨ fouM ca x y < 0) by omega), if_neg (show ¬ (dateF d.t d.n d.ti d.ts d.te d.tc = -1 ∨ numM ca 4 (fouM ca x y) 0 = -1) by omega)]
        have h8 : rel = 5 ∨ rel = 6 ∨ rel = 7 ∨ rel = 8 := by omega
        rcases h8 with rfl | rfl | rfl | rfl <;> rfl
      · rw [if_pos (Or.inl (by omega)), if_pos (Or.inl hd)]
    · rw [if_neg c2, if_pos (Or.inr (by omega)), if_pos (Or.inr rfl)]
  · rw [if_neg c1, if_neg (show ¬ 4 ≤ rel - 1 by omega), ← hw, List.length_map]
    by_cases c2 : (spW ca true x y).length = 0
    · rw [if_pos c2, if_pos c2]
    · rw [if_neg c2, if_neg c2]
      by_cases c3 : rel = 1
      · rw [if_pos c3, if_pos (show rel - 1 = 0 by omega), fil_any, List.any_map]
        exact anyC _ (fun a ha => thM_W h hk (has a ha))
      · rw [if_neg c3, if_neg (show ¬ rel - 1 = 0 by omega)]
        by_cases c4 : rel = 2
        · have e := fil_all (p := thW d.t (txs d ix)) ((spW ca true x y).map (lwS ca))
          rw [List.length_map] at e
          rw [if_pos c4, if_pos (show rel - 1 = 1 by omega), e, List.all_map]
          exact allC _ (fun a ha => thM_W h hk (has a ha))
        · rw [if_neg c4, if_neg (show ¬ rel - 1 = 1 by omega), (h.tx_ ix).1, List.any_map]
          exact anyC _ (fun q hq => saP_W h (h.in_ hk hq) has)
/-- both sides hold the same RECORDS -/
def SR (ca le : Nat → Int) (hd : Nat → Option HD) : Prop := ∀ r : Int, 0 ≤ r → r ≤ 9 → (hd r.toNat = none ∧ le r.toNat = 0) ∨ ∃ d, hd r.toNat = some d ∧ le r.toNat = d.n ∧ 0 < d.n ∧ RD ca r d ∧ HDok d ∧ HDt d
theorem soL_an {ca le : Nat → Int} {hd : Nat → Option HD} (h : SR ca le hd) {ix rel x y : Int} (hrel : 1 ≤ rel ∧ rel ≤ 8) (hx : 0 ≤ x ∧ x ≤ y ∧ y ≤ 4900 ∧ y - x ≤ 900) : ∀ (k : Nat) (r v : Int), 0 ≤ r → r + k ≤ 10 → soL ca le ix rel x y k r v = anL hd (rel - 1) ix (yrM ca x y) (wsF ca true x y) k r v := by
  intro k
  induction k with
  | zero => intro r v _ _; rfl
  | succ k ih =>
    intro r v h0 h1
    simp only [soL, anL]
    have e : (if 0 < le r.toNat ∧ saM ca r ix rel x y = true then orI v (shlI 1 r) else v) = if (hd r.toNat).any (saD (rel - 1) ix (yrM ca x y) (wsF ca true x y)) = true then orI v (shlI 1 r) else v := by
      rcases h r h0 (by omega) with ⟨e1, e2⟩ | ⟨d, e1, e2, e3, e4, e5, _⟩
      · rw [e1, e2, if_neg (fun q => absurd q.1 (by omega))]; rfl
      · rw [e1, saM_D e4 e5.2 hrel hx]
        by_cases c : saD (rel - 1) ix (yrM ca x y) (wsF ca true x y) d = true
        · rw [if_pos ⟨by omega, c⟩]; exact (if_pos c).symm
        · rw [if_neg (fun q => c q.2)]; exact (if_neg c).symm
    rw [e]
    exact ih (r + 1) _ (by omega) (by omega)
theorem soT_an {ca le : Nat → Int} {hd : Nat → Option HD} (h : SR ca le hd) {ix rel x y : Int} (hrel : 1 ≤ rel ∧ rel ≤ 8) (hx : 0 ≤ x ∧ x ≤ y ∧ y ≤ 4900 ∧ y - x ≤ 900) : soT ca le ix rel x y = anM hd (rel - 1) ix (yrM ca x y) (wsF ca true x y) := soL_an h hrel hx 10 0 0 (by omega) (by omega)

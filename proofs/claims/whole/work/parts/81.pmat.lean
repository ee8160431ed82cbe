/-! does a WORD match: one relation for both sides -/
def gm : List Int → List Int → Prop
  | [], w => w = []
  | c :: a, w => if c = 42 then ∃ n : Nat, gm a (w.drop n) else ∃ (d : Int) (v : List Int), w = d :: v ∧ (c = 63 ∨ c = d) ∧ gm a v
theorem gm_e {w : List Int} : gm [] w ↔ w = [] := by unfold gm; exact Iff.rfl
theorem gm_s {a w : List Int} : gm (42 :: a) w ↔ ∃ n : Nat, gm a (w.drop n) := by
  rw [gm, if_pos rfl]
theorem gm_c {c : Int} {a w : List Int} (h : c ≠ 42) : gm (c :: a) w ↔ ∃ (d : Int) (v : List Int), w = d :: v ∧ (c = 63 ∨ c = d) ∧ gm a v := by
  rw [gm, if_neg h]
theorem sml_42 {c : Int} : sml c = 42 ↔ c = 42 := by have := sml_v c; omega
theorem sml_63 {c : Int} : sml c = 63 ↔ c = 63 := by have := sml_v c; omega
theorem gm_star {f : Nat → Int} {R : List Int} {k wT : Int} (h0 : 0 ≤ k) (h : k ≤ wT) : gm (42 :: R) (lwS f (k, wT)) ↔ ∃ m : Int, k ≤ m ∧ m ≤ wT ∧ gm R (lwS f (m, wT)) := by
  rw [gm_s]
  constructor
  · rintro ⟨n, hn⟩
    rw [lwS_drop h0] at hn
    by_cases h1 : k + n ≤ wT
    · exact ⟨k + n, by omega, h1, hn⟩
    · refine ⟨wT, h, by omega, ?_⟩
      rw [lwS_e (by omega)] at hn ⊢
      exact hn
  · rintro ⟨m, h1, h2, hm⟩
    refine ⟨(m - k).toNat, ?_⟩
    rw [lwS_drop h0, show k + (((m - k).toNat : Nat) : Int) = m by omega]
    exact hm
theorem gm_ns {f : Nat → Int} {pT wT : Int} : ∀ (L : Nat) (s m : Int), 0 ≤ s → s + L ≤ pT → 0 ≤ m → m ≤ wT → (∀ z : Int, s ≤ z → z < s + L → f z.toNat ≠ 42) → gm (lwS f (s, pT)) (lwS f (m, wT)) → m + L ≤ wT ∧ gm (lwS f (s + L, pT)) (lwS f (m + L, wT)) := by
  intro L
  induction L with
  | zero => intro s m h0 h1 h2 h3 _ hg; rw [show s + ((0 : Nat) : Int) = s by omega, show m + ((0 : Nat) : Int) = m by omega]; exact ⟨h3, hg⟩
  | succ L ih =>
    intro s m h0 h1 h2 h3 hz hg
    rw [lwS_s (x := s) h0 (by omega), gm_c (by rw [Ne, sml_42]; exact hz s (by omega) (by omega))] at hg
    obtain ⟨d, v, e, _, hg⟩ := hg
    by_cases h4 : m < wT
    · rw [lwS_s (x := m) h2 h4] at e
      rw [← (List.cons.inj e).2] at hg
      have := ih (s + 1) (m + 1) (by omega) (by omega) (by omega) (by omega) (fun z z1 z2 => hz z (by omega) (by omega)) hg
      rw [show s + ((L + 1 : Nat) : Int) = s + 1 + L by omega, show m + ((L + 1 : Nat) : Int) = m + 1 + L by omega]
      exact this
    · rw [lwS_e (by omega)] at e; cases e
theorem stL_gm {f : Nat → Int} {pT : Int} : ∀ (n : Nat) (i : Int), 0 ≤ i → i ≤ pT → n = (pT - i).toNat → (stL f pT n i = true ↔ gm (lwS f (i, pT)) []) := by
  intro n
  induction n with
  | zero =>
    intro i h0 h1 hn
    simp only [stL]
    rw [lwS_e (by omega), gm_e]
    simp; omega
  | succ n ih =>
    intro i h0 h1 hn
    simp only [stL]
    by_cases h : f i.toNat = 42
    · rw [if_pos ⟨by omega, h⟩, ih (i + 1) (by omega) (by omega) (by omega), lwS_s (x := i) h0 (by omega), sml_42.mpr h, gm_s]
      constructor
      · intro hg; exact ⟨0, hg⟩
      · rintro ⟨k, hg⟩; rw [List.drop_nil] at hg; exact hg
    · rw [if_neg (fun q => h q.2), lwS_s (x := i) h0 (by omega), gm_c (by rw [Ne, sml_42]; exact h)]
      constructor
      · intro hd; have := of_decide_eq_true hd; omega
      · rintro ⟨d, v, e, _⟩; cases e
theorem mtL_gm {f : Nat → Int} {pT wT : Int} (hp : pT ≤ 4900) (hw : wT ≤ 4900) : ∀ (n : Nat) (i k sr mq : Int), 0 ≤ i → i ≤ pT → 0 ≤ k → k ≤ wT → (0 ≤ sr → sr < i ∧ f sr.toNat = 42 ∧ 0 ≤ mq ∧ mq ≤ k ∧ k - mq = i - sr - 1 ∧ ∀ z : Int, sr < z → z < i → f z.toNat ≠ 42) → (sr < 0 → 5000 * (wT + 1) + (pT - i) < n) → (0 ≤ sr → 5000 * (wT - mq) + (pT - i) < n) → (mtL f pT wT n i k sr mq = true ↔ (gm (lwS f (i, pT)) (lwS f (k, wT)) ∨ (0 ≤ sr ∧ ∃ m : Int, mq < m ∧ m ≤ wT ∧ gm (lwS f (sr + 1, pT)) (lwS f (m, wT))))) := by
  intro n
  induction n with
  | zero =>
    intro i k sr mq h0 h1 h2 h3 hs m1 m2
    exfalso
    by_cases hq : sr < 0
    · have := m1 hq; omega
    · have := m2 (by omega)
      have := hs (by omega)
      omega
  | succ n ih =>
    intro i k sr mq h0 h1 h2 h3 hs m1 m2
    simp only [mtL]
    have ns : ∀ m : Int, 0 ≤ sr → mq < m → m ≤ wT → gm (lwS f (sr + 1, pT)) (lwS f (m, wT)) → m + (k - mq) ≤ wT ∧ gm (lwS f (i, pT)) (lwS f (m + (k - mq), wT)) := by
      intro m q1 q2 q3 hg
      obtain ⟨s1, s2, s3, s4, s5, s6⟩ := hs q1
      have := gm_ns (k - mq).toNat (sr + 1) m (by omega) (by omega) (by omega) q3 (fun z z1 z2 => s6 z (by omega) (by omega)) hg
      rw [show (((k - mq).toNat : Nat) : Int) = k - mq by omega, show sr + 1 + (k - mq) = i by omega] at this
      exact this
    by_cases c1 : wT ≤ k
    · rw [if_pos c1, lwS_e (x := k) c1]
      unfold stE
      rw [stL_gm _ i h0 h1 rfl]
      constructor
      · intro h; exact Or.inl h
      · rintro (h | ⟨q1, m, q2, q3, hg⟩)
        · exact h
        · have := (ns m q1 q2 q3 hg).1
          omega
    · rw [if_neg c1]
      by_cases c2 : i < pT ∧ f i.toNat = 42
      · rw [if_pos c2, ih (i + 1) k i k (by omega) (by omega) h2 h3 (fun _ => ⟨by omega, c2.2, h2, by omega, by omega, fun z z1 z2 => by omega⟩) (by omega) (by
          intro _
          by_cases hq : sr < 0
          · have := m1 hq; omega
          · have := m2 (by omega)
            have := hs (by omega)
            omega)]
        have eL : lwS f (i, pT) = 42 :: lwS f (i + 1, pT) := by rw [lwS_s (x := i) h0 c2.1, sml_42.mpr c2.2]
        rw [eL] at ns ⊢
        rw [gm_star h2 h3]
        constructor
        · rintro (h | ⟨_, m, q2, q3, hg⟩)
          · exact Or.inl ⟨k, by omega, h3, h⟩
          · exact Or.inl ⟨m, by omega, q3, hg⟩
        · rintro (⟨m, q2, q3, hg⟩ | ⟨q1, m, q2, q3, hg⟩)
          · by_cases e : m = k
            · subst e; exact Or.inl hg
            · exact Or.inr ⟨h0, m, by omega, q3, hg⟩
          · obtain ⟨n1, n2⟩ := ns m q1 q2 q3 hg
            have hs1 := hs q1
            rw [gm_star (by omega) n1] at n2
            obtain ⟨m', q4, q5, hg⟩ := n2
            exact Or.inr ⟨h0, m', by omega, q5, hg⟩
      · rw [if_neg c2]
        by_cases c3 : i < pT ∧ (f i.toNat = 63 ∨ sml (f i.toNat) = sml (f k.toNat))
        · rw [if_pos c3, ih (i + 1) (k + 1) sr mq (by omega) (by omega) (by omega) (by omega) (by
            intro q1
            obtain ⟨s1, s2, s3, s4, s5, s6⟩ := hs q1
            refine ⟨by omega, s2, s3, by omega, by omega, ?_⟩
            intro z z1 z2
            by_cases e : z = i
            · rw [e]; exact fun q => c2 ⟨c3.1, q⟩
            · exact s6 z z1 (by omega)) (by intro hq; have := m1 hq; omega) (by intro hq; have := m2 hq; omega)]
          have eL : gm (lwS f (i, pT)) (lwS f (k, wT)) ↔ gm (lwS f (i + 1, pT)) (lwS f (k + 1, wT)) := by
            rw [lwS_s (x := i) h0 c3.1, lwS_s (x := k) h2 (by omega), gm_c (by rw [Ne, sml_42]; exact fun q => c2 ⟨c3.1, q⟩)]
            constructor
            · rintro ⟨d, v, e, _, hg⟩; rw [(List.cons.inj e).2]; exact hg
            · intro hg
              refine ⟨_, _, rfl, ?_, hg⟩
              rcases c3.2 with q | q
              · exact Or.inl (sml_63.mpr q)
              · exact Or.inr q
          rw [eL]
        · rw [if_neg c3]
          have hF : ¬ gm (lwS f (i, pT)) (lwS f (k, wT)) := by
            rw [lwS_s (x := k) h2 (by omega)]
            by_cases q : i < pT
            · rw [lwS_s (x := i) h0 q, gm_c (by rw [Ne, sml_42]; exact fun q2 => c2 ⟨q, q2⟩)]
              rintro ⟨d, v, e, hcd, _⟩
              rw [← (List.cons.inj e).1, sml_63] at hcd
              exact c3 ⟨q, hcd⟩
            · rw [lwS_e (x := i) (by omega), gm_e]; intro h; cases h
          by_cases c4 : 0 ≤ sr
          · obtain ⟨s1, s2, s3, s4, s5, s6⟩ := hs c4
            have hm2 := m2 c4
            rw [if_pos c4, ih (sr + 1) (mq + 1) sr (mq + 1) (by omega) (by omega) (by omega) (by omega) (fun _ => ⟨by omega, s2, by omega, by omega, by omega, fun z z1 z2 => by omega⟩) (by omega) (by omega)]
            constructor
            · rintro (h | ⟨q1, m, q2, q3, hg⟩)
              · exact Or.inr ⟨c4, mq + 1, by omega, by omega, h⟩
              · exact Or.inr ⟨c4, m, by omega, q3, hg⟩
            · rintro (h | ⟨q1, m, q2, q3, hg⟩)
              · exact absurd h hF
              · by_cases e : m = mq + 1
                · subst e; exact Or.inl hg
                · exact Or.inr ⟨c4, m, by omega, q3, hg⟩
          · rw [if_neg c4]
            constructor
            · intro h; exact Bool.noConfusion h
            · rintro (h | ⟨q1, _⟩)
              · exact absurd h hF
              · exact absurd q1 c4
theorem mtM_gm {f : Nat → Int} {x xe y ye : Int} (h : 0 ≤ x ∧ x ≤ xe ∧ xe ≤ 4900) (h2 : 0 ≤ y ∧ y ≤ ye ∧ ye ≤ 4900) : mtM f x xe y ye = true ↔ gm (lwS f (x, xe)) (lwS f (y, ye)) := by
  unfold mtM
  rw [mtL_gm h.2.2 h2.2.2 _ x y (-1) 0 h.1 h.2.1 h2.1 h2.2.1 (by intro q; omega) (by intro _; omega) (by intro q; omega)]
  constructor
  · rintro (h | ⟨q, _⟩)
    · exact h
    · omega
  · exact Or.inl
theorem gm_app {b : List Int} : ∀ (a w : List Int), gm (a ++ b) w ↔ ∃ n : Nat, gm a (w.take n) ∧ gm b (w.drop n) := by
  intro a
  induction a with
  | nil =>
    intro w
    rw [List.nil_append]
    constructor
    · intro h; exact ⟨0, by rw [gm_e, List.take_zero], h⟩
    · rintro ⟨n, h1, h2⟩
      rw [gm_e, List.take_eq_nil_iff] at h1
      rcases h1 with h1 | h1
      · subst h1; exact h2
      · subst h1; rw [List.drop_nil] at h2; exact h2
  | cons c a ih =>
    intro w
    rw [List.cons_append]
    by_cases hc : c = 42
    · subst hc
      rw [gm_s]
      constructor
      · rintro ⟨n, h⟩
        rw [ih] at h
        obtain ⟨m, h1, h2⟩ := h
        refine ⟨n + m, ?_, ?_⟩
        · rw [gm_s]; refine ⟨n, ?_⟩; rw [List.drop_take, show n + m - n = m by omega]; exact h1
        · rw [List.drop_drop] at h2; exact h2
      · rintro ⟨N, h1, h2⟩
        rw [gm_s] at h1
        obtain ⟨n, h1⟩ := h1
        rw [List.drop_take] at h1
        by_cases q : n ≤ N
        · refine ⟨n, ?_⟩
          rw [ih]
          refine ⟨N - n, h1, ?_⟩
          rw [List.drop_drop, show n + (N - n) = N by omega]; exact h2
        · refine ⟨N, ?_⟩
          rw [ih]
          refine ⟨0, ?_, h2⟩
          rw [show N - n = 0 by omega, List.take_zero] at h1
          rw [List.take_zero]; exact h1
    · rw [gm_c hc]
      constructor
      · rintro ⟨d, v, e, hd, h⟩
        rw [ih] at h
        obtain ⟨n, h1, h2⟩ := h
        subst e
        refine ⟨n + 1, ?_, h2⟩
        rw [gm_c hc]
        exact ⟨d, v.take n, rfl, hd, h1⟩
      · rintro ⟨N, h1, h2⟩
        rw [gm_c hc] at h1
        obtain ⟨d, v, e, hd, h1⟩ := h1
        cases w with
        | nil => rw [List.take_nil] at e; cases e
        | cons d2 w =>
          cases N with
          | zero => rw [List.take_zero] at e; cases e
          | succ N =>
            rw [List.take_succ_cons] at e
            obtain ⟨e1, e2⟩ := List.cons.inj e
            refine ⟨d2, w, rfl, by rw [e1]; exact hd, ?_⟩
            rw [ih]
            exact ⟨N, by rw [e2]; exact h1, h2⟩
theorem gm_1s {a w : List Int} : gm (a ++ [42]) w ↔ ∃ n : Nat, gm a (w.take n) := by
  rw [gm_app]
  constructor
  · rintro ⟨n, h, _⟩; exact ⟨n, h⟩
  · rintro ⟨n, h⟩
    refine ⟨n, h, ?_⟩
    rw [gm_s]
    exact ⟨(w.drop n).length, by rw [gm_e, List.drop_eq_nil_of_le (Nat.le_refl _)]⟩
theorem gm_1c {c d : Int} {a v : List Int} (hc : c ≠ 42) : gm (a ++ [c]) (v ++ [d]) ↔ gm a v ∧ (c = 63 ∨ c = d) := by
  rw [gm_app]
  constructor
  · rintro ⟨n, h1, h2⟩
    rw [gm_c hc] at h2
    obtain ⟨e, u, hu, hd, h2⟩ := h2
    rw [gm_e] at h2
    subst h2
    have hh := List.take_append_drop n (v ++ [d])
    rw [hu] at hh
    obtain ⟨e1, e2⟩ := List.append_inj' hh rfl
    rw [e1] at h1
    rw [(List.cons.inj e2).1] at hd
    exact ⟨h1, hd⟩
  · rintro ⟨h1, h2⟩
    refine ⟨v.length, ?_, ?_⟩
    · rw [List.take_append_of_le_length (Nat.le_refl _), List.take_of_length_le (Nat.le_refl _)]; exact h1
    · rw [List.drop_left, gm_c hc]
      exact ⟨d, [], rfl, h2, gm_e.mpr rfl⟩
theorem gm_1e {c : Int} {a : List Int} (hc : c ≠ 42) : ¬ gm (a ++ [c]) [] := by
  rw [gm_app]
  rintro ⟨n, _, h⟩
  rw [gm_c hc, List.drop_nil] at h
  obtain ⟨_, _, e, _⟩ := h
  cases e
theorem take_gs {a : List Int} {q : Nat} (h : q < a.length) : a.take (q + 1) = a.take q ++ [a.getD q 0] := by
  rw [List.take_succ, List.getD_eq_getElem?_getD, List.getElem?_eq_getElem h]; rfl
theorem tbI_gm {a : List Int} : ∀ q : Nat, q ≤ a.length → (tbI (fun k => a.getD k 0) q = true ↔ gm (a.take q) []) := by
  intro q
  induction q with
  | zero => intro _; exact ⟨fun _ => gm_e.mpr rfl, fun _ => rfl⟩
  | succ q ih =>
    intro h
    simp only [tbI]
    rw [Bool.and_eq_true, ih (by omega), decide_eq_true_eq, take_gs (by omega)]
    by_cases hc : a.getD q 0 = 42
    · rw [hc, gm_1s]
      constructor
      · rintro ⟨h1, _⟩; exact ⟨0, h1⟩
      · rintro ⟨n, h1⟩; rw [List.take_nil] at h1; exact ⟨h1, rfl⟩
    · constructor
      · rintro ⟨_, h2⟩; exact absurd h2 hc
      · intro h1; exact absurd h1 (gm_1e hc)
theorem tbG_gm {a w : List Int} : ∀ n : Nat, n ≤ w.length → ∀ q : Nat, q ≤ a.length → (tbG (fun k => a.getD k 0) (fun k => w.getD k 0) n q = true ↔ gm (a.take q) (w.take n)) := by
  intro n
  induction n with
  | zero => intro _ q hq; simp only [tbG]; rw [List.take_zero]; exact tbI_gm q hq
  | succ n ih =>
    intro hn q
    simp only [tbG]
    have ih := ih (by omega)
    rw [take_gs (a := w) (q := n) (by omega)]
    induction q with
    | zero =>
      intro _
      simp only [tbS]
      rw [List.take_zero, gm_e]
      constructor
      · intro h; exact Bool.noConfusion h
      · intro h; simp at h
    | succ q ihq =>
      intro hq
      simp only [tbS]
      rw [take_gs (a := a) (q := q) (by omega)]
      by_cases hc : a.getD q 0 = 42
      · rw [if_pos hc, Bool.or_eq_true, ihq (by omega), ih (q + 1) hq, take_gs (a := a) (q := q) (by omega), hc, gm_1s, gm_1s]
        constructor
        · rintro (⟨m, h⟩ | h)
          · by_cases hm : m ≤ (w.take n).length
            · exact ⟨m, by rw [List.take_append_of_le_length hm]; exact h⟩
            · refine ⟨(w.take n).length, ?_⟩
              rw [List.take_append_of_le_length (Nat.le_refl _), List.take_of_length_le (Nat.le_refl _)]
              rw [List.take_of_length_le (show (w.take n).length ≤ m by omega)] at h
              exact h
          · exact ⟨(w.take n ++ [w.getD n 0]).length, by rw [List.take_of_length_le (Nat.le_refl _)]; exact h⟩
        · rintro ⟨m, h⟩
          by_cases hm : m ≤ (w.take n).length
          · rw [List.take_append_of_le_length hm] at h; exact Or.inl ⟨m, h⟩
          · rw [List.take_of_length_le (show (w.take n ++ [w.getD n 0]).length ≤ m by rw [List.length_append, List.length_singleton]; omega)] at h; exact Or.inr h
      · rw [if_neg hc, Bool.and_eq_true, ih q (by omega), decide_eq_true_eq, gm_1c hc]
theorem tbL_gm {a w : List Int} : tbL a w = true ↔ gm a w := by
  unfold tbL
  rw [tbG_gm w.length (Nat.le_refl _) a.length (Nat.le_refl _), List.take_of_length_le (Nat.le_refl _), List.take_of_length_le (Nat.le_refl _)]
theorem gm_plain : ∀ (a w : List Int), a.any sgW = false → (gm a w ↔ a = w) := by
  intro a
  induction a with
  | nil => intro w _; rw [gm_e]; exact eq_comm
  | cons c a ih =>
    intro w h
    rw [List.any_cons, Bool.or_eq_false_iff] at h
    have hc := h.1
    unfold sgW at hc
    rw [decide_eq_false_iff_not] at hc
    rw [gm_c (fun q => hc (Or.inl q))]
    constructor
    · rintro ⟨d, v, e, hd, hg⟩
      rw [ih v h.2] at hg
      rcases hd with hd | hd
      · exact absurd (Or.inr hd) hc
      · rw [e, hd, hg]
    · intro e
      exact ⟨c, a, e.symm, Or.inr rfl, (ih a h.2).mpr rfl⟩
theorem mtW_gm {a w : List Int} : mtW a w = true ↔ gm a w := by
  unfold mtW
  by_cases h : a.any sgW = true
  · rw [if_pos h]; exact tbL_gm
  · rw [if_neg h, decide_eq_true_eq, cmpW_0, gm_plain a w (by simpa using h)]
theorem beq_iff {a b : Bool} {P : Prop} (h1 : a = true ↔ P) (h2 : b = true ↔ P) : a = b := by
  cases a <;> cases b <;> simp_all
theorem mtA_W {f : Nat → Int} {a w : Int × Int} (h : 0 ≤ a.1 ∧ a.1 ≤ a.2 ∧ a.2 ≤ 4900) (h2 : 0 ≤ w.1 ∧ w.1 ≤ w.2 ∧ w.2 ≤ 4900) : mtA f a w = mtW (lwS f a) (lwS f w) :=
  beq_iff (mtM_gm h h2) mtW_gm
theorem prM_W {f : Nat → Int} : ∀ as ws : List (Int × Int), LB as 0 4900 → LB ws 0 4900 → prM f as ws = prW (as.map (lwS f)) (ws.map (lwS f)) := by
  intro as
  induction as with
  | nil => intro ws _ _; simp only [prM, List.map_nil, prW]
  | cons a as ih =>
    intro ws h1 h2
    cases ws with
    | nil => simp only [prM, List.map_cons, List.map_nil, prW]
    | cons w ws =>
      simp only [prM, List.map_cons, prW]
      rw [mtA_W (h1 a (by simp)) (h2 w (by simp)), ih ws (fun q hq => h1 q (by simp [hq])) (fun q hq => h2 q (by simp [hq]))]
theorem adL_W {f : Nat → Int} {as : List (Int × Int)} (h1 : LB as 0 4900) : ∀ ws : List (Int × Int), LB ws 0 4900 → adL f as ws = adW (as.map (lwS f)) (ws.map (lwS f)) := by
  intro ws
  induction ws with
  | nil => intro h2; simp only [adL, List.map_nil, adW]; rw [prM_W as [] h1 h2]; rfl
  | cons w ws ih =>
    intro h2
    simp only [adL, List.map_cons, adW]
    rw [prM_W as (w :: ws) h1 h2, ih (fun q hq => h2 q (by simp [hq])), List.map_cons]
theorem spW_LB2 {f : Nat → Int} {b : Bool} {y : Int} : ∀ (k : Nat) (x : Int), 0 ≤ x → (x < y → isLw (f x.toNat) b = true) → LB (spT f b y k x) 0 (max y 0) := by
  intro k
  induction k with
  | zero => intro x _ _ q hq; simp only [spT] at hq; cases hq
  | succ k ih =>
    intro x h0 hl q hq
    simp only [spT] at hq
    by_cases h1 : y ≤ x
    · rw [if_pos h1] at hq; cases hq
    · rw [if_neg h1] at hq
      obtain ⟨w1, w2, w3, w4, w5, w6⟩ := ws_cons h0 (show x < y by omega) (hl (by omega))
      rcases List.mem_cons.mp hq with hq | hq
      · subst hq; dsimp only; omega
      · exact ih (bgM f b (edM f b x y) y) (by omega) w6 q hq
theorem spW_B {f : Nat → Int} {b : Bool} {x y : Int} (h0 : 0 ≤ x) (hy : y ≤ 4900) : LB (spW f b x y) 0 4900 := by
  obtain ⟨j1, j2, j3, j4⟩ := wsC_bg (f := f) (b := b) (y := y) (y - x).toNat x h0 rfl
  intro q hq
  have := spW_LB2 (f := f) (b := b) (y := y) 1000 (bgM f b x y) (by unfold bgM; omega) j3 q hq
  omega

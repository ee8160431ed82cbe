/-! the WORDS of an INDEX: both sides -/
theorem bsL_fu {f : Int → Int} : ∀ (k k2 : Nat) (lo hi : Int), (hi - lo).toNat < 2 ^ k → (hi - lo).toNat < 2 ^ k2 → bsL f k lo hi = bsL f k2 lo hi := by
  intro k
  induction k with
  | zero =>
    intro k2 lo hi h1 h2
    have h : ¬ lo < hi := by rw [Nat.pow_zero] at h1; omega
    cases k2 with
    | zero => rfl
    | succ k2 => simp only [bsL]; rw [if_neg h]
  | succ k ih =>
    intro k2 lo hi h1 h2
    cases k2 with
    | zero =>
      have h : ¬ lo < hi := by rw [Nat.pow_zero] at h2; omega
      simp only [bsL]; rw [if_neg h]
    | succ k2 =>
      simp only [bsL]
      by_cases c : lo < hi
      · rw [if_pos c, if_pos c]
        rw [Nat.pow_succ] at h1 h2
        rw [ih k2 ((lo + hi) / 2 + 1) hi (by omega) (by omega), ih k2 lo ((lo + hi) / 2) (by omega) (by omega)]
      · rw [if_neg c, if_neg c]
theorem plL_b {ca : Nat → Int} {ws : List (Int × Int)} {x y : Int} : ∀ (k : Nat) (lo hi : Int), plL ca ws x y k lo hi = bsL (fun z => cmM ca (ws.getD z.toNat (0, 0)).1 (ws.getD z.toNat (0, 0)).2 x y) k lo hi := by
  intro k
  induction k with
  | zero => intro lo hi; rfl
  | succ k ih => intro lo hi; simp only [plL, bsL]; rw [ih, ih]
theorem map_gd {ca : Nat → Int} {ws : List (Int × Int)} {k : Nat} (h : k < ws.length) : (ws.map (lwS ca)).getD k [] = lwS ca (ws.getD k (0, 0)) := by
  rw [List.getD_eq_getElem?_getD, List.getD_eq_getElem?_getD, List.getElem?_map, List.getElem?_eq_getElem h]; rfl
theorem gd_mem {α : Type} {ws : List α} {k : Nat} {z : α} (h : k < ws.length) : ws.getD k z ∈ ws := by
  rw [List.getD_eq_getElem?_getD, List.getElem?_eq_getElem h]
  exact List.getElem_mem h
theorem cm_gd {ca : Nat → Int} {ws : List (Int × Int)} {lo hi : Int} {q : Int × Int} (hl : LB ws lo hi) (hq : q.1 ≤ q.2) {k : Nat} (h : k < ws.length) : cmM ca (ws.getD k (0, 0)).1 (ws.getD k (0, 0)).2 q.1 q.2 = cmpW ((ws.map (lwS ca)).getD k []) (lwS ca q) := by
  rw [map_gd h, cmM_W (hl _ (gd_mem h)).2.1 hq]
theorem plM_W {ca : Nat → Int} {ws : List (Int × Int)} {lo hi : Int} {q : Int × Int} (hl : LB ws lo hi) (hq : q.1 ≤ q.2) (hn : ws.length < 4294967296) : plM ca ws q.1 q.2 = plW (ws.map (lwS ca)) (lwS ca q) := by
  unfold plM plW
  rw [plL_b, List.length_map, bsL_c (z := ws.length) (g := fun z => cmpW ((ws.map (lwS ca)).getD z.toNat []) (lwS ca q)) (fun x h0 h1 => cm_gd hl hq (by omega)) 5000 0 _ (by omega) (by omega)]
  refine bsL_fu 5000 32 0 _ ?_ (by omega)
  have h1 : (32 : Nat) ≤ 5000 := by omega
  have h2 := Nat.pow_le_pow_right (n := 2) (by omega) h1
  refine Nat.lt_of_lt_of_le ?_ h2
  omega
def inW (ws : List (List Int)) (w : List Int) : List (List Int) := if plW ws w < ws.length ∧ cmpW (ws.getD (plW ws w).toNat []) w = 0 then ws else insA ws (plW ws w).toNat w
theorem inM_W {ca : Nat → Int} {ws : List (Int × Int)} {lo hi : Int} {q : Int × Int} (hl : LB ws lo hi) (hq : q.1 ≤ q.2) (hn : ws.length < 4294967296) : (inM ca ws q).map (lwS ca) = inW (ws.map (lwS ca)) (lwS ca q) := by
  unfold inM inW
  rw [plM_W hl hq hn, List.length_map]
  have hr := plW_r (ws := ws.map (lwS ca)) (w := lwS ca q)
  generalize plW (ws.map (lwS ca)) (lwS ca q) = k at *
  by_cases c : k < ws.length
  · rw [cm_gd hl hq (by omega)]
    by_cases c2 : cmpW ((ws.map (lwS ca)).getD k.toNat []) (lwS ca q) = 0
    · rw [if_pos ⟨c, c2⟩, if_pos ⟨c, c2⟩]
    · rw [if_neg (fun z => c2 z.2), if_neg (fun z => c2 z.2)]
      unfold insA
      rw [List.map_append, List.map_cons, List.map_take, List.map_drop]
  · rw [if_neg (fun z => c z.1), if_neg (fun z => c z.1)]
    unfold insA
    rw [List.map_append, List.map_cons, List.map_take, List.map_drop]
theorem inM_l {ca : Nat → Int} {ws : List (Int × Int)} {lo hi : Int} {q : Int × Int} (hl : LB ws lo hi) (hq : lo ≤ q.1 ∧ q.1 ≤ q.2 ∧ q.2 ≤ hi) : LB (inM ca ws q) lo hi ∧ (inM ca ws q).length ≤ ws.length + 1 := by
  unfold inM
  split
  · exact ⟨hl, by omega⟩
  · refine ⟨LB.ins hl _ hq, ?_⟩
    rw [List.length_append, List.length_cons, List.length_take, List.length_drop]
    omega
theorem lsW_f {ca : Nat → Int} : ∀ (qs ws : List (Int × Int)), LB qs 0 4900 → LB ws 0 4900 → ws.length + qs.length < 4294967296 → (qs.foldl (inM ca) ws).map (lwS ca) = (qs.map (lwS ca)).foldl inW (ws.map (lwS ca)) ∧ LB (qs.foldl (inM ca) ws) 0 4900 ∧ (qs.foldl (inM ca) ws).length ≤ ws.length + qs.length := by
  intro qs
  induction qs with
  | nil => intro ws _ h _; exact ⟨rfl, h, by simp⟩
  | cons q qs ih =>
    intro ws h1 h2 h3
    have hq := h1 q (by simp)
    rw [List.length_cons] at h3
    obtain ⟨l1, l2⟩ := inM_l (ca := ca) h2 hq
    obtain ⟨i1, i2, i3⟩ := ih (inM ca ws q) (fun z hz => h1 z (by simp [hz])) l1 (by omega)
    rw [List.foldl_cons, List.map_cons, List.foldl_cons, List.length_cons]
    refine ⟨?_, i2, by omega⟩
    rw [i1, inM_W h2 hq.2.1 (by omega)]
def woD (d : HD) (ix : Int) : List (List Int) := (txs d ix).flatMap (twF d.t)
theorem lsT_f {ca : Nat → Int} {r : Int} {d : HD} (h : RD ca r d) : ∀ (tx ws : List (Int × Int)), (∀ q ∈ tx, 0 ≤ q.1 ∧ q.1 ≤ q.2 ∧ q.2 ≤ d.n) → LB ws 0 4900 → (ws.length : Int) + tsum tx < 4294967296 → (lsT ca (tx.map (shF (400 * r))) ws).map (lwS ca) = (tx.flatMap (twF d.t)).foldl inW (ws.map (lwS ca)) ∧ LB (lsT ca (tx.map (shF (400 * r))) ws) 0 4900 ∧ ((lsT ca (tx.map (shF (400 * r))) ws).length : Int) ≤ ws.length + tsum tx := by
  have h9 := h.r9
  obtain ⟨h8, hn⟩ := h.at_
  intro tx
  induction tx with
  | nil => intro ws _ h2 _; exact ⟨rfl, h2, by simp [lsT, tsum]⟩
  | cons q tx ih =>
    intro ws h1 h2 h3
    have hq := h1 q (by simp)
    simp only [tsum] at h3 ⊢
    have hsn : 0 ≤ tsum tx := tsum_nn (lo := 0) (hi := d.n) tx (fun z hz => h1 z (by simp [hz]))
    have hl := spW_len (f := ca) (b := false) (x := 400 * r + q.1) (y := 400 * r + q.2) (by omega)
    obtain ⟨a1, a2, a3⟩ := lsW_f (ca := ca) (spW ca false (400 * r + q.1) (400 * r + q.2)) ws (spW_B (by omega) (by omega)) h2 (by omega)
    obtain ⟨i1, i2, i3⟩ := ih (lsW ca ws (shF (400 * r) q)) (fun z hz => h1 z (by simp [hz])) a2 (by
      have : ((lsW ca ws (shF (400 * r) q)).length : Int) ≤ ws.length + (spW ca false (400 * r + q.1) (400 * r + q.2)).length := by
        have := a3; unfold lsW shF; dsimp only; omega
      omega)
    have e : lsT ca (List.map (shF (400 * r)) (q :: tx)) ws = lsT ca (tx.map (shF (400 * r))) (lsW ca ws (shF (400 * r) q)) := rfl
    rw [e, List.flatMap_cons, List.foldl_append]
    refine ⟨?_, i2, ?_⟩
    · rw [i1, ← tw_C h hq, ← a1]; rfl
    · have : ((lsW ca ws (shF (400 * r) q)).length : Int) ≤ ws.length + (spW ca false (400 * r + q.1) (400 * r + q.2)).length := by
        have := a3; unfold lsW shF; dsimp only; omega
      omega
def lwL (hd : Nat → Option HD) (ix : Int) : Nat → Int → List (List Int) → List (List Int)
  | 0, _, ws => ws
  | k + 1, r, ws => lwL hd ix k (r + 1) (match hd r.toNat with | some d => (woD d ix).foldl inW ws | none => ws)
theorem lsL_w {ca le : Nat → Int} {hd : Nat → Option HD} (h : SR ca le hd) {ix : Int} : ∀ (k : Nat) (r : Int) (ws : List (Int × Int)), 0 ≤ r → r + k ≤ 10 → LB ws 0 4900 → (ws.length : Int) + 400 * k ≤ 4000 → (lsL ca le ix k r ws).map (lwS ca) = lwL hd ix k r (ws.map (lwS ca)) ∧ LB (lsL ca le ix k r ws) 0 4900 ∧ ((lsL ca le ix k r ws).length : Int) ≤ ws.length + 400 * k := by
  intro k
  induction k with
  | zero => intro r ws _ _ h2 _; exact ⟨rfl, h2, by simp [lsL]⟩
  | succ k ih =>
    intro r ws h0 h1 h2 h3
    simp only [lsL, lwL]
    rcases h r h0 (by omega) with ⟨e1, e2⟩ | ⟨d, e1, e2, e3, e4, e5, e6⟩
    · rw [e1, if_pos e2]
      obtain ⟨i1, i2, i3⟩ := ih (r + 1) ws (by omega) (by omega) h2 (by omega)
      exact ⟨i1, i2, by omega⟩
    · rw [e1, if_neg (by omega), (e4.tx_ ix).1]
      have hs := (e6 ix).1
      have hs0 : 0 ≤ tsum (txs d ix) := tsum_nn _ (e6 ix).2
      obtain ⟨a1, a2, a3⟩ := lsT_f e4 (txs d ix) ws (fun q hq => e4.in_ e5.2 hq) h2 (by omega)
      obtain ⟨i1, i2, i3⟩ := ih (r + 1) _ (by omega) (by omega) a2 (by omega)
      refine ⟨?_, i2, by omega⟩
      rw [i1, a1]
      rfl
theorem lsM_w {ca le : Nat → Int} {hd : Nat → Option HD} (h : SR ca le hd) {ix : Int} : (lsM ca le ix).map (lwS ca) = lwL hd ix 10 0 [] ∧ LB (lsM ca le ix) 0 4900 ∧ (lsM ca le ix).length ≤ 4000 := by
  obtain ⟨a, b, c⟩ := lsL_w h (ix := ix) 10 0 [] (by omega) (by omega) (fun q hq => by cases hq) (by simp)
  refine ⟨a, b, ?_⟩
  unfold lsM
  simp only [List.length_nil] at c
  omega
/-! the other side's list and its holders -/
theorem cmpW_cc {x y : Int} {xs ys : List Int} : cmpW (x :: xs) (y :: ys) = if x = y then cmpW xs ys else x - y := by
  unfold cmpW
  simp only [cmpG, List.length_cons]
  rw [show (((xs.length + 1 : Nat)) : Int) - ((ys.length + 1 : Nat) : Int) = (xs.length : Int) - ys.length by omega]
theorem cmpW_nc {y : Int} {ys : List Int} : cmpW [] (y :: ys) < 0 := by
  unfold cmpW
  simp only [cmpG, List.length_cons, List.length_nil]
  omega
theorem cmpW_cn {x : Int} {xs : List Int} : 0 < cmpW (x :: xs) [] := by
  unfold cmpW
  simp only [cmpG, List.length_cons, List.length_nil]
  omega
theorem cmpW_as : ∀ (a b : List Int), cmpW a b = - cmpW b a := by
  intro a
  induction a with
  | nil =>
    intro b
    cases b with
    | nil => rfl
    | cons y ys => unfold cmpW; simp only [cmpG, List.length_cons, List.length_nil]; omega
  | cons x xs ih =>
    intro b
    cases b with
    | nil => unfold cmpW; simp only [cmpG, List.length_cons, List.length_nil]; omega
    | cons y ys =>
      rw [cmpW_cc, cmpW_cc]
      by_cases c : x = y
      · rw [if_pos c, if_pos c.symm, ih]
      · rw [if_neg c, if_neg (fun z => c z.symm)]; omega
theorem cmpW_tr : ∀ (a b c : List Int), cmpW a b < 0 → cmpW b c < 0 → cmpW a c < 0 := by
  intro a
  induction a with
  | nil =>
    intro b c h1 h2
    cases c with
    | nil =>
      cases b with
      | nil => exact h1
      | cons y ys => have := cmpW_cn (x := y) (xs := ys); omega
    | cons z zs => exact cmpW_nc
  | cons x xs ih =>
    intro b c h1 h2
    cases b with
    | nil => have := cmpW_cn (x := x) (xs := xs); omega
    | cons y ys =>
      cases c with
      | nil => have := cmpW_cn (x := y) (xs := ys); omega
      | cons z zs =>
        rw [cmpW_cc] at h1 h2 ⊢
        by_cases e1 : x = y
        · subst e1
          rw [if_pos rfl] at h1
          by_cases e2 : x = z
          · subst e2
            rw [if_pos rfl] at h2 ⊢
            exact ih ys zs h1 h2
          · rw [if_neg e2] at h2 ⊢; exact h2
        · rw [if_neg e1] at h1
          by_cases e2 : y = z
          · subst e2
            rw [if_neg e1]; exact h1
          · rw [if_neg e2] at h2
            rw [if_neg (by omega)]; omega
def SLw (ws : List (List Int)) : Prop := ∀ i j : Nat, i < j → j < ws.length → cmpW (ws.getD i []) (ws.getD j []) < 0
theorem bsL_sp {f : Int → Int} {z : Int} (hm : ∀ a b : Int, 0 ≤ a → a < b → b < z → f b < 0 → f a < 0) : ∀ (k : Nat) (lo hi : Int), 0 ≤ lo → lo ≤ hi → hi ≤ z → (hi - lo).toNat < 2 ^ k → (∀ a : Int, 0 ≤ a → a < lo → f a < 0) → (∀ a : Int, hi ≤ a → a < z → 0 ≤ f a) → (∀ a : Int, 0 ≤ a → a < bsL f k lo hi → f a < 0) ∧ (∀ a : Int, bsL f k lo hi ≤ a → a < z → 0 ≤ f a) := by
  intro k
  induction k with
  | zero =>
    intro lo hi h0 h1 h2 h3 ha hb
    rw [Nat.pow_zero] at h3
    simp only [bsL]
    exact ⟨ha, fun a a1 a2 => hb a (by omega) a2⟩
  | succ k ih =>
    intro lo hi h0 h1 h2 h3 ha hb
    simp only [bsL]
    rw [Nat.pow_succ] at h3
    by_cases c : lo < hi
    · rw [if_pos c]
      by_cases c2 : f ((lo + hi) / 2) < 0
      · rw [if_pos c2]
        refine ih _ _ (by omega) (by omega) h2 (by omega) ?_ hb
        intro a a1 a2
        by_cases e : a = (lo + hi) / 2
        · rw [e]; exact c2
        · exact hm a ((lo + hi) / 2) a1 (by omega) (by omega) c2
      · rw [if_neg c2]
        refine ih _ _ h0 (by omega) (by omega) (by omega) ha ?_
        intro a a1 a2
        by_cases e : a = (lo + hi) / 2
        · rw [e]; omega
        · have : ¬ f a < 0 := fun q => c2 (hm ((lo + hi) / 2) a (by omega) (by omega) a2 q)
          omega
    · rw [if_neg c]
      exact ⟨ha, fun a a1 a2 => hb a (by omega) a2⟩
theorem plW_sp {ws : List (List Int)} (hs : SLw ws) (hn : ws.length < 4294967296) (w : List Int) : (∀ j : Nat, (j : Int) < plW ws w → cmpW (ws.getD j []) w < 0) ∧ (∀ j : Nat, plW ws w ≤ j → j < ws.length → 0 ≤ cmpW (ws.getD j []) w) := by
  have := bsL_sp (f := fun z => cmpW (ws.getD z.toNat []) w) (z := ws.length) (fun a b a0 ab bz hb => cmpW_tr _ _ _ (hs a.toNat b.toNat (by omega) (by omega)) hb) 32 0 ws.length (by omega) (by omega) (by omega) (by omega) (fun a a1 a2 => by omega) (fun a a1 a2 => by omega)
  rw [show bsL (fun z => cmpW (ws.getD z.toNat []) w) 32 0 ws.length = plW ws w from rfl] at this
  refine ⟨fun j hj => ?_, fun j h1 h2 => ?_⟩
  · have := this.1 j (by omega) hj; rw [Int.toNat_natCast] at this; exact this
  · have := this.2 j h1 (by omega); rw [Int.toNat_natCast] at this; exact this
theorem mem_gd {ws : List (List Int)} {w : List Int} (h : w ∈ ws) : ∃ j : Nat, j < ws.length ∧ ws.getD j [] = w := by
  obtain ⟨j, hj, e⟩ := List.getElem_of_mem h
  exact ⟨j, hj, by rw [List.getD_eq_getElem?_getD, List.getElem?_eq_getElem hj]; exact e⟩
theorem lxH_m {ws : List (List Int)} (hs : SLw ws) (hn : ws.length < 4294967296) (w : List Int) : (plW ws w < ws.length ∧ cmpW (ws.getD (plW ws w).toNat []) w = 0) ↔ w ∈ ws := by
  have hr := plW_r (ws := ws) (w := w)
  obtain ⟨s1, s2⟩ := plW_sp hs hn w
  constructor
  · rintro ⟨h1, h2⟩
    rw [cmpW_0] at h2
    rw [← h2]
    exact gd_mem (by omega)
  · intro h
    obtain ⟨j, hj, e⟩ := mem_gd h
    have e0 : cmpW (ws.getD j []) w = 0 := cmpW_0.mpr e
    have h1 : plW ws w ≤ j := by
      have : ¬ (j : Int) < plW ws w := fun q => by have := s1 j q; omega
      omega
    have h2 : ¬ plW ws w < j := by
      intro q
      have a := hs (plW ws w).toNat j (by omega) hj
      rw [e] at a
      have b := s2 (plW ws w).toNat (by omega) (by omega)
      omega
    rw [show (plW ws w).toNat = j by omega]
    exact ⟨by omega, e0⟩
theorem gd_ins {α : Type} {xs : List α} {k : Nat} {x z : α} (hk : k ≤ xs.length) (j : Nat) : (insA xs k x).getD j z = if j < k then xs.getD j z else if j = k then x else xs.getD (j - 1) z := by
  unfold insA
  rw [List.getD_eq_getElem?_getD, List.getD_eq_getElem?_getD, List.getD_eq_getElem?_getD, List.getElem?_append, List.length_take, Nat.min_eq_left hk]
  by_cases c1 : j < k
  · rw [if_pos c1, if_pos c1, List.getElem?_take, if_pos c1]
  · rw [if_neg c1, if_neg c1]
    by_cases c2 : j = k
    · rw [if_pos c2, show j - k = 0 by omega]; rfl
    · rw [if_neg c2, show j - k = (j - k - 1) + 1 by omega, List.getElem?_cons_succ, List.getElem?_drop, show k + (j - k - 1) = j - 1 by omega]
theorem len_ins {α : Type} {xs : List α} {k : Nat} {x : α} (hk : k ≤ xs.length) : (insA xs k x).length = xs.length + 1 := by
  unfold insA
  rw [List.length_append, List.length_cons, List.length_take, List.length_drop]
  omega
/-- the list is in order, and each WORD's holders are what mk says -/
def LXm (u : LxS) (mk : List Int → Int) : Prop := SLw u.ws ∧ u.hs.length = u.ws.length ∧ u.ws.length < 4000000 ∧ (∀ j : Nat, j < u.ws.length → u.hs.getD j 0 = mk (u.ws.getD j [])) ∧ ∀ w, w ∉ u.ws → mk w = 0
theorem lxA_ws {m : Int} {u : LxS} {w : List Int} : (lxA m u w).ws = inW u.ws w := by
  unfold lxA lxI lxH inW
  by_cases c : plW u.ws w < u.ws.length ∧ cmpW (u.ws.getD (plW u.ws w).toNat []) w = 0
  · rw [if_pos (decide_eq_true c), if_pos c]
  · rw [if_neg (by rw [decide_eq_true_eq]; exact c), if_neg c]
theorem gd_set {xs : List Int} {k j : Nat} {v : Int} (hk : k < xs.length) : (xs.set k v).getD j 0 = if j = k then v else xs.getD j 0 := by
  rw [List.getD_eq_getElem?_getD, List.getD_eq_getElem?_getD, List.getElem?_set]
  by_cases c : j = k
  · subst c; rw [if_pos rfl, if_pos rfl, if_pos hk]; rfl
  · rw [if_neg (fun z => c z.symm), if_neg c]
theorem lxA_m {m : Int} {u : LxS} {mk : List Int → Int} (h : LXm u mk) (hl : u.ws.length < 3999000) (w : List Int) : LXm (lxA m u w) (fun v => if v = w then orI (mk v) m else mk v) ∧ (lxA m u w).ws.length ≤ u.ws.length + 1 := by
  obtain ⟨h1, h2, h3, h4, h5⟩ := h
  have hr := plW_r (ws := u.ws) (w := w)
  have hm := lxH_m h1 (by omega) w
  obtain ⟨s1, s2⟩ := plW_sp h1 (by omega) w
  have key : (lxA m u w).hs = (if plW u.ws w < u.ws.length ∧ cmpW (u.ws.getD (plW u.ws w).toNat []) w = 0 then u.hs else insA u.hs (plW u.ws w).toNat 0).set (plW u.ws w).toNat (orI ((if plW u.ws w < u.ws.length ∧ cmpW (u.ws.getD (plW u.ws w).toNat []) w = 0 then u.hs else insA u.hs (plW u.ws w).toNat 0).getD (plW u.ws w).toNat 0) m) := by
    unfold lxA lxI lxH
    by_cases c : plW u.ws w < u.ws.length ∧ cmpW (u.ws.getD (plW u.ws w).toNat []) w = 0
    · rw [if_pos (decide_eq_true c), if_pos c]
    · rw [if_neg (by rw [decide_eq_true_eq]; exact c), if_neg c]
  obtain ⟨k, ek⟩ : ∃ k : Nat, k = (plW u.ws w).toNat := ⟨_, rfl⟩
  have ekI : plW u.ws w = k := by omega
  unfold LXm
  rw [key, lxA_ws]
  unfold inW
  rw [← ek]
  by_cases c : plW u.ws w < u.ws.length ∧ cmpW (u.ws.getD k []) w = 0
  · rw [if_pos c, if_pos c]
    have e0 : u.ws.getD k [] = w := cmpW_0.mp c.2
    have hk : k < u.ws.length := by omega
    refine ⟨⟨h1, ?_, h3, ?_, ?_⟩, by omega⟩
    · rw [List.length_set]; exact h2
    · intro j hj
      show _ = (if u.ws.getD j [] = w then orI (mk (u.ws.getD j [])) m else mk (u.ws.getD j []))
      rw [gd_set (by omega)]
      by_cases e : j = k
      · subst e; rw [if_pos rfl, if_pos e0, h4 j hj]
      · have hne : u.ws.getD j [] ≠ w := by
          intro q
          rcases Nat.lt_or_gt_of_ne e with l | l
          · have := h1 j k l hk; rw [q, e0] at this; have := (cmpW_0 (a := w) (b := w)).mpr rfl; omega
          · have := h1 k j l hj; rw [q, e0] at this; have := (cmpW_0 (a := w) (b := w)).mpr rfl; omega
        rw [if_neg e, if_neg hne]
        exact h4 j hj
    · intro v hv
      have : v ≠ w := fun q => hv (by rw [q, ← e0]; exact gd_mem hk)
      show (if v = w then orI (mk v) m else mk v) = 0
      rw [if_neg this]
      exact h5 v hv
  · rw [if_neg c, if_neg c]
    have hk : k ≤ u.ws.length := by omega
    have hnm : w ∉ u.ws := fun q => c (by rw [ek]; exact hm.mpr q)
    refine ⟨⟨?_, ?_, ?_, ?_, ?_⟩, by rw [len_ins hk]; omega⟩
    · intro i j hij hj
      rw [len_ins hk] at hj
      rw [gd_ins hk, gd_ins hk]
      by_cases c1 : j < k
      · rw [if_pos (by omega), if_pos c1]; exact h1 i j hij (by omega)
      · by_cases c2 : j = k
        · rw [if_neg c1, if_pos c2, if_pos (by omega)]; exact s1 i (by omega)
        · rw [if_neg c1, if_neg c2]
          have hj0 : 0 ≤ cmpW (u.ws.getD (j - 1) []) w := s2 (j - 1) (by omega) (by omega)
          have hj1 : cmpW (u.ws.getD (j - 1) []) w ≠ 0 := fun q => hnm (by rw [← cmpW_0.mp q]; exact gd_mem (by omega))
          have hj2 : cmpW w (u.ws.getD (j - 1) []) < 0 := by rw [cmpW_as]; omega
          by_cases c3 : i < k
          · rw [if_pos c3]; exact cmpW_tr _ _ _ (s1 i (by omega)) hj2
          · by_cases c4 : i = k
            · rw [if_neg c3, if_pos c4]; exact hj2
            · rw [if_neg c3, if_neg c4]; exact h1 (i - 1) (j - 1) (by omega) (by omega)
    · rw [List.length_set, len_ins hk, len_ins (by omega), h2]
    · rw [len_ins hk]; omega
    · intro j hj
      rw [len_ins hk] at hj
      show _ = (if (insA u.ws k w).getD j [] = w then orI (mk ((insA u.ws k w).getD j [])) m else mk ((insA u.ws k w).getD j []))
      rw [gd_set (by rw [len_ins (by omega)]; omega), gd_ins hk, gd_ins (by omega), gd_ins (by omega)]
      by_cases e : j = k
      · rw [if_pos e, if_neg (show ¬ j < k by omega), if_pos e, if_neg (Nat.lt_irrefl k), if_pos rfl, if_pos rfl, h5 w hnm]
      · by_cases c1 : j < k
        · have hne : u.ws.getD j [] ≠ w := fun q => hnm (by rw [← q]; exact gd_mem (by omega))
          rw [if_neg e, if_pos c1, if_pos c1, if_neg hne]; exact h4 j (by omega)
        · have hne : u.ws.getD (j - 1) [] ≠ w := fun q => hnm (by rw [← q]; exact gd_mem (by omega))
          rw [if_neg e, if_neg c1, if_neg e, if_neg c1, if_neg e, if_neg hne]; exact h4 (j - 1) (by omega)
    · intro v hv
      have hw : v ≠ w := by
        intro q
        refine hv ?_
        rw [q]
        have := gd_ins (x := w) (z := ([] : List Int)) hk k
        rw [if_neg (Nat.lt_irrefl k), if_pos rfl] at this
        have h9 : (insA u.ws k w).getD k [] ∈ insA u.ws k w := gd_mem (by rw [len_ins hk]; omega)
        rw [this] at h9
        exact h9
      show (if v = w then orI (mk v) m else mk v) = 0
      rw [if_neg hw]
      refine h5 v (fun q => hv ?_)
      obtain ⟨j, hj, e⟩ := mem_gd q
      by_cases c1 : j < k
      · have := gd_ins (x := w) (z := ([] : List Int)) hk j
        rw [if_pos c1, e] at this
        rw [← this]
        exact gd_mem (by rw [len_ins hk]; omega)
      · have := gd_ins (x := w) (z := ([] : List Int)) hk (j + 1)
        rw [if_neg (by omega), if_neg (by omega), show j + 1 - 1 = j by omega, e] at this
        rw [← this]
        exact gd_mem (by rw [len_ins hk]; omega)
theorem orI_id {v m : Int} : orI (orI v m) m = orI v m := by
  unfold orI
  rw [iI_back, Int32.or_assoc, Int32.or_self]
theorem lxW_m {m : Int} : ∀ (wl : List (List Int)) (u : LxS) (mk : List Int → Int), LXm u mk → u.ws.length + wl.length < 3999000 → LXm (lxW m u wl) (fun v => if v ∈ wl then orI (mk v) m else mk v) ∧ (lxW m u wl).ws.length ≤ u.ws.length + wl.length ∧ (lxW m u wl).ws = wl.foldl inW u.ws := by
  intro wl
  induction wl with
  | nil =>
    intro u mk h _
    refine ⟨?_, by simp [lxW], rfl⟩
    have : (fun v => if v ∈ ([] : List (List Int)) then orI (mk v) m else mk v) = mk := by funext v; rw [if_neg (by simp)]
    rw [this]; exact h
  | cons w wl ih =>
    intro u mk h hl
    rw [List.length_cons] at hl
    obtain ⟨a1, a2⟩ := lxA_m (m := m) h (by omega) w
    obtain ⟨i1, i2, i3⟩ := ih (lxA m u w) _ a1 (by omega)
    have e : lxW m u (w :: wl) = lxW m (lxA m u w) wl := rfl
    rw [e, List.length_cons]
    refine ⟨?_, by omega, ?_⟩
    · have : (fun v => if v ∈ w :: wl then orI (mk v) m else mk v) = (fun v => if v ∈ wl then orI (if v = w then orI (mk v) m else mk v) m else if v = w then orI (mk v) m else mk v) := by
        funext v
        by_cases c1 : v = w
        · rw [if_pos (by simp [c1]), if_pos c1]
          by_cases c2 : v ∈ wl
          · rw [if_pos c2, orI_id]
          · rw [if_neg c2]
        · rw [if_neg c1]
          by_cases c2 : v ∈ wl
          · rw [if_pos (by simp [c2]), if_pos c2]
          · rw [if_neg (by simp [c1, c2]), if_neg c2]
      rw [this]; exact i1
    · rw [i3, lxA_ws]; rfl
theorem lxW_app {m : Int} {u : LxS} {a b : List (List Int)} : lxW m u (a ++ b) = lxW m (lxW m u a) b := by
  unfold lxW; rw [List.foldl_append]
theorem rbT_W {m : Int} {t : Nat → Int} : ∀ (tx : List (Int × Int)) (u : LxS), rbT m t tx u = lxW m u (tx.flatMap (twF t)) := by
  intro tx
  induction tx with
  | nil => intro u; rfl
  | cons q tx ih =>
    intro u
    rw [List.flatMap_cons, lxW_app, ← ih]
    rfl
theorem woD_len {d : HD} {ix : Int} (h : HDt d) : ((woD d ix).length : Int) ≤ 400 := by
  have key : ∀ tx : List (Int × Int), LB tx 0 400 → ((tx.flatMap (twF d.t)).length : Int) ≤ tsum tx := by
    intro tx
    induction tx with
    | nil => intro _; simp [tsum]
    | cons q tx ih =>
      intro hl
      have hq := hl q (by simp)
      have := ih (fun z hz => hl z (by simp [hz]))
      have hw := (wsF_b (t := d.t) (b := false) (x := q.1) (y := q.2) hq.2.1).2
      rw [List.flatMap_cons, List.length_append]
      simp only [tsum]
      unfold twF at *
      omega
  have := key (txs d ix) (h ix).2
  have := (h ix).1
  unfold woD
  omega
def hasW (hd : Nat → Option HD) (ix : Int) (w : List Int) (r : Int) : Bool := match hd r.toNat with
  | some d => decide (w ∈ woD d ix)
  | none => false
def maL (p : Int → Bool) : Nat → Int → Int → Int
  | 0, _, v => v
  | k + 1, r, v => maL p k (r + 1) (if p r = true then orI v (shlI 1 r) else v)
def cnL (p : Int → Bool) : Nat → Int → Int → Int
  | 0, _, v => v
  | k + 1, r, v => cnL p k (r + 1) (if p r = true then v + 1 else v)
theorem rbL_m {hd : Nat → Option HD} (hH : ∀ (r : Nat) (d : HD), hd r = some d → HDt d) {ix : Int} : ∀ (k : Nat) (r : Int) (u : LxS) (mk : List Int → Int), LXm u mk → (u.ws.length : Int) + 400 * k < 3900000 → LXm (rbL hd ix k r u) (fun w => maL (hasW hd ix w) k r (mk w)) ∧ (rbL hd ix k r u).ws = lwL hd ix k r u.ws := by
  intro k
  induction k with
  | zero => intro r u mk h _; exact ⟨h, rfl⟩
  | succ k ih =>
    intro r u mk h hl
    simp only [rbL, lwL, maL]
    cases hr : hd r.toNat with
    | none =>
      have e : (fun w => maL (hasW hd ix w) k (r + 1) (if hasW hd ix w r = true then orI (mk w) (shlI 1 r) else mk w)) = (fun w => maL (hasW hd ix w) k (r + 1) (mk w)) := by
        funext w
        rw [if_neg (show ¬ hasW hd ix w r = true by unfold hasW; rw [hr]; simp)]
      rw [e]
      exact ih (r + 1) u mk h (by omega)
    | some d =>
      have hw := woD_len (ix := ix) (hH _ d hr)
      obtain ⟨a1, a2, a3⟩ := lxW_m (m := shlI 1 r) (woD d ix) u mk h (by omega)
      have e0 : rbO (some d) (shlI 1 r) ix 0 u = lxW (shlI 1 r) u (woD d ix) := by
        show rbT (shlI 1 r) d.t (txL d.ti d.ts d.te d.tl d.tc ix (d.tc - 0).toNat 0) u = _
        rw [show d.tc - 0 = d.tc by omega, rbT_W]; rfl
      have e : (fun w => maL (hasW hd ix w) k (r + 1) (if hasW hd ix w r = true then orI (mk w) (shlI 1 r) else mk w)) = (fun w => maL (hasW hd ix w) k (r + 1) (if w ∈ woD d ix then orI (mk w) (shlI 1 r) else mk w)) := by
        funext w
        have : hasW hd ix w r = decide (w ∈ woD d ix) := by unfold hasW; rw [hr]
        rw [this]
        by_cases c : w ∈ woD d ix
        · rw [if_pos c, if_pos (decide_eq_true c)]
        · rw [if_neg c, if_neg (by rw [decide_eq_true_eq]; exact c)]
      rw [e0, e]
      obtain ⟨i1, i2⟩ := ih (r + 1) (lxW (shlI 1 r) u (woD d ix)) _ a1 (by omega)
      refine ⟨i1, ?_⟩
      rw [i2, a3]
theorem rbM_m {hd : Nat → Option HD} (hH : ∀ (r : Nat) (d : HD), hd r = some d → HDt d) {ix : Int} {xn xk : Nat} : LXm (rbM hd ix xn xk) (fun w => maL (hasW hd ix w) 10 0 0) ∧ (rbM hd ix xn xk).ws = lwL hd ix 10 0 [] := by
  have h0 : LXm (LxS.mk [] [] xn xk 0) (fun _ => 0) := ⟨fun i j _ h => absurd h (Nat.not_lt_zero _), rfl, (by show (0 : Nat) < 4000000; decide), fun j h => absurd h (Nat.not_lt_zero _), fun _ _ => rfl⟩
  exact rbL_m hH 10 0 _ _ h0 (by show ((0 : Nat) : Int) + 400 * ((10 : Nat) : Int) < 3900000; decide)
theorem bc10 : ∀ b0 b1 b2 b3 b4 b5 b6 b7 b8 b9 : Bool, bcF (maL (fun r => if r = 0 then b0 else if r = 1 then b1 else if r = 2 then b2 else if r = 3 then b3 else if r = 4 then b4 else if r = 5 then b5 else if r = 6 then b6 else if r = 7 then b7 else if r = 8 then b8 else b9) 10 0 0) = cnL (fun r => if r = 0 then b0 else if r = 1 then b1 else if r = 2 then b2 else if r = 3 then b3 else if r = 4 then b4 else if r = 5 then b5 else if r = 6 then b6 else if r = 7 then b7 else if r = 8 then b8 else b9) 10 0 0 := by decide +kernel
theorem maL_c {p q : Int → Bool} : ∀ (k : Nat) (r v : Int), (∀ z : Int, r ≤ z → z < r + k → p z = q z) → maL p k r v = maL q k r v ∧ cnL p k r v = cnL q k r v := by
  intro k
  induction k with
  | zero => intro r v _; exact ⟨rfl, rfl⟩
  | succ k ih =>
    intro r v h
    simp only [maL, cnL]
    rw [h r (by omega) (by omega)]
    exact ⟨(ih (r + 1) _ (fun z z1 z2 => h z (by omega) (by omega))).1, (ih (r + 1) _ (fun z z1 z2 => h z (by omega) (by omega))).2⟩
theorem bc_cn (p : Int → Bool) : bcF (maL p 10 0 0) = cnL p 10 0 0 := by
  have h := maL_c (p := p) (q := fun r => if r = 0 then p 0 else if r = 1 then p 1 else if r = 2 then p 2 else if r = 3 then p 3 else if r = 4 then p 4 else if r = 5 then p 5 else if r = 6 then p 6 else if r = 7 then p 7 else if r = 8 then p 8 else p 9) 10 0 0 (by
    intro z z1 z2
    have : z = 0 ∨ z = 1 ∨ z = 2 ∨ z = 3 ∨ z = 4 ∨ z = 5 ∨ z = 6 ∨ z = 7 ∨ z = 8 ∨ z = 9 := by omega
    rcases this with rfl | rfl | rfl | rfl | rfl | rfl | rfl | rfl | rfl | rfl <;> rfl)
  rw [h.1, h.2]
  exact bc10 _ _ _ _ _ _ _ _ _ _
theorem hwM_m {ca : Nat → Int} {r : Int} {d : HD} (h : RD ca r d) (hk : ∀ j, d.te j ≤ d.n) {ix : Int} {q : Int × Int} (hq : q.1 ≤ q.2) : hwM ca r ix q = decide (lwS ca q ∈ woD d ix) := by
  have h9 := h.r9
  have hn := h.at_.2
  have e : hwM ca r ix q = (woD d ix).any (fun w => decide (w = lwS ca q)) := by
    unfold hwM woD
    rw [(h.tx_ ix).1, List.any_map, List.any_flatMap]
    refine anyC _ (fun t ht => ?_)
    have hi := h.in_ hk ht
    show hwT ca q (shF (400 * r) t) = _
    rw [← tw_C h hi, List.any_map]
    unfold hwT shF
    dsimp only
    refine anyC _ (fun w hw => ?_)
    have hb := spW_B (f := ca) (b := false) (x := 400 * r + t.1) (y := 400 * r + t.2) (by omega) (by omega) w hw
    unfold hwW
    show decide (cmM ca w.1 w.2 q.1 q.2 = 0) = decide (lwS ca w = lwS ca q)
    rw [cmM_W hb.2.1 hq]
    exact decide_eq_decide.mpr cmpW_0
  rw [e]
  by_cases c : lwS ca q ∈ woD d ix
  · rw [decide_eq_true c]; exact List.any_eq_true.mpr ⟨_, c, decide_eq_true rfl⟩
  · rw [decide_eq_false c]
    rw [Bool.eq_false_iff]
    intro z
    obtain ⟨w, hw, ew⟩ := List.any_eq_true.mp z
    exact c (by rw [← of_decide_eq_true ew]; exact hw)
theorem htL_c {ca le : Nat → Int} {hd : Nat → Option HD} (h : SR ca le hd) {ix : Int} {q : Int × Int} (hq : q.1 ≤ q.2) : ∀ (k : Nat) (r n : Int), 0 ≤ r → r + k ≤ 10 → htL ca le ix q k r n = cnL (hasW hd ix (lwS ca q)) k r n := by
  intro k
  induction k with
  | zero => intro r n _ _; rfl
  | succ k ih =>
    intro r n h0 h1
    simp only [htL, cnL]
    rw [ih (r + 1) _ (by omega) (by omega)]
    have e : (0 < le r.toNat ∧ hwM ca r ix q = true) ↔ hasW hd ix (lwS ca q) r = true := by
      unfold hasW
      rcases h r h0 (by omega) with ⟨e1, e2⟩ | ⟨d, e1, e2, e3, e4, e5, _⟩
      · rw [e1, e2]; simp
      · rw [e1, hwM_m e4 e5.2 hq]
        constructor
        · exact fun z => z.2
        · exact fun z => ⟨by omega, z⟩
    by_cases c : hasW hd ix (lwS ca q) r = true
    · rw [if_pos c, if_pos (e.mpr c)]
    · rw [if_neg c, if_neg (fun z => c (e.mp z))]
theorem ls_ws {ca le : Nat → Int} {hd : Nat → Option HD} (h : SR ca le hd) (hH : ∀ (r : Nat) (d : HD), hd r = some d → HDok d ∧ HDt d) {ix : Int} {xn xk : Nat} : (lsM ca le ix).map (lwS ca) = (rbM hd ix xn xk).ws ∧ (lsM ca le ix).length = (rbM hd ix xn xk).ws.length := by
  have e := (rbM_m (ix := ix) (xn := xn) (xk := xk) (fun r d q => (hH r d q).2)).2
  have a := (lsM_w h (ix := ix)).1
  refine ⟨by rw [a, e], ?_⟩
  rw [e, ← a, List.length_map]
/-- hits -/
theorem htM_w {ca le : Nat → Int} {hd : Nat → Option HD} (h : SR ca le hd) (hH : ∀ (r : Nat) (d : HD), hd r = some d → HDok d ∧ HDt d) {ix k : Int} {xn xk : Nat} : htM ca le ix (lsM ca le ix) k = if 0 ≤ k ∧ k < (rbM hd ix xn xk).ws.length then bcF ((rbM hd ix xn xk).hs.getD k.toNat 0) else 0 := by
  obtain ⟨⟨s1, s2, s3, s4, s5⟩, _⟩ := rbM_m (ix := ix) (xn := xn) (xk := xk) (fun r d q => (hH r d q).2)
  obtain ⟨e1, e2⟩ := ls_ws h hH (ix := ix) (xn := xn) (xk := xk)
  have hl := (lsM_w h (ix := ix)).2.1
  unfold htM
  rw [← e2]
  by_cases c : 0 ≤ k ∧ k < (lsM ca le ix).length
  · rw [if_pos c, if_pos c, s4 k.toNat (by omega), ← e1, map_gd (by omega), bc_cn]
    exact htL_c h (hl _ (gd_mem (by omega))).2.1 10 0 0 (by omega) (by omega)
  · rw [if_neg c, if_neg c]
/-- word -/
theorem wdM_w {ca le : Nat → Int} {hd : Nat → Option HD} (h : SR ca le hd) (hH : ∀ (r : Nat) (d : HD), hd r = some d → HDok d ∧ HDt d) {ix k i : Int} {xn xk : Nat} : wdM ca (lsM ca le ix) k i = if (0 ≤ k ∧ k < (rbM hd ix xn xk).ws.length) ∧ 0 ≤ i ∧ i < ((rbM hd ix xn xk).ws.getD k.toNat []).length then ((rbM hd ix xn xk).ws.getD k.toNat []).getD i.toNat 0 else 32 := by
  obtain ⟨e1, e2⟩ := ls_ws h hH (ix := ix) (xn := xn) (xk := xk)
  have hl := (lsM_w h (ix := ix)).2.1
  unfold wdM
  rw [← e2]
  by_cases c : 0 ≤ k ∧ k < (lsM ca le ix).length
  · have hq := hl _ (gd_mem (z := (0, 0)) (show k.toNat < (lsM ca le ix).length by omega))
    rw [← e1, map_gd (by omega), lwS_len]
    generalize (lsM ca le ix).getD k.toNat (0, 0) = q at *
    by_cases c2 : 0 ≤ i ∧ i < q.2 - q.1
    · rw [if_pos ⟨c, c2⟩, if_pos ⟨c, by omega⟩]
      unfold lwS wdN
      rw [List.getD_eq_getElem?_getD, List.getElem?_map, List.getElem?_range (by omega)]
      show sml (ca (q.1 + i).toNat) = sml (ca (q.1.toNat + i.toNat))
      rw [show (q.1 + i).toNat = q.1.toNat + i.toNat by omega]
    · rw [if_neg (fun z => c2 z.2), if_neg (fun z => c2 (by omega))]
  · rw [if_neg (fun z => c z.1), if_neg (fun z => c z.1)]
/-- below -/
theorem blM_w {ca le : Nat → Int} {hd : Nat → Option HD} (h : SR ca le hd) (hH : ∀ (r : Nat) (d : HD), hd r = some d → HDok d ∧ HDt d) {ix ls : Int} (hls : 0 ≤ ls ∧ ls ≤ 100) {xn xk : Nat} : blM ca ls (lsM ca le ix) = if (wsF ca false 4000 (4000 + ls)).length = 0 then ((rbM hd ix xn xk).ws.length : Int) else plW (rbM hd ix xn xk).ws ((wsF ca false 4000 (4000 + ls)).getD 0 []) := by
  obtain ⟨e1, e2⟩ := ls_ws h hH (ix := ix) (xn := xn) (xk := xk)
  obtain ⟨_, hl, hn⟩ := lsM_w h (ix := ix)
  obtain ⟨j1, j2, j3, j4⟩ := wsC_bg (f := ca) (b := false) (y := 4000 + ls) (4000 + ls - 4000).toNat 4000 (by omega) rfl
  rw [show bgL ca false (4000 + ls - 4000).toNat 4000 = bgM ca false 4000 (4000 + ls) from rfl] at j1 j2 j3 j4
  unfold blM
  rw [wsF_C, ← j1]
  generalize bgM ca false 4000 (4000 + ls) = x at *
  by_cases c : x = 4000 + ls
  · rw [if_pos c, wsC_end (by omega), if_pos (show (wsE ([], [])).length = 0 from rfl), e2]
  · obtain ⟨w1, w2, w3, w4, w5, w6⟩ := ws_cons (f := ca) (b := false) (x := x) (y := 4000 + ls) (by omega) (by omega) (j3 (by omega))
    have hp := plM_W (ca := ca) (ws := lsM ca le ix) (q := (x, edM ca false x (4000 + ls))) hl (by dsimp only; omega) (by omega)
    dsimp only at hp
    rw [if_neg c, w1, if_neg (by simp), hp, e1]
    rfl

/-! WORDS of a text as lists of letters -/
def wdL (lt : Nat → Int) (a b : Int) : List Int := (List.range (b - a).toNat).map (fun i => lt (a.toNat + i))
abbrev WsP : Type := List (List Int) × List Int
def wsR (u : WsP) (ch : Int) : WsP := if ch = 0 then (if u.2 = [] then (u.1, []) else (u.1 ++ [u.2], [])) else (u.1, u.2 ++ [ch])
def wsE (u : WsP) : List (List Int) := if u.2 = [] then u.1 else u.1 ++ [u.2]
def ltL (t : Nat → Int) (b : Bool) (x : Int) (n : Nat) : List Int := (List.range n).map (fun i => letF (t (x.toNat + i)) b)
def wsF (t : Nat → Int) (b : Bool) (x y : Int) : List (List Int) := wsE ((ltL t b x (y - x).toNat).foldl wsR ([], []))
def WL (ws : List (List Int)) (wz : Int) (lt sb se : Nat → Int) : Prop := wz = ws.length ∧ ∀ (j : Nat) (h : j < ws.length), wdL lt (sb j) (se j) = ws[j] ∧ 0 ≤ sb j ∧ sb j ≤ se j
theorem wdL_up {lt : Nat → Int} {a b : Int} {k : Nat} {v : Int} (h0 : 0 ≤ a) (h : b ≤ k) : wdL (va_up lt k v) a b = wdL lt a b := by
  unfold wdL
  refine List.map_congr_left (fun i hi => ?_)
  have := List.mem_range.mp hi
  unfold va_up; rw [if_neg (by omega)]
theorem wdL_s {lt : Nat → Int} {a b : Int} (h0 : 0 ≤ a) (h : a ≤ b) : wdL lt a (b + 1) = wdL lt a b ++ [lt b.toNat] := by
  unfold wdL
  rw [show (b + 1 - a).toNat = (b - a).toNat + 1 by omega, List.range_succ, List.map_append]
  simp only [List.map_cons, List.map_nil]
  rw [show a.toNat + (b - a).toNat = b.toNat by omega]
theorem ltL_s {t : Nat → Int} {b : Bool} {x : Int} {n : Nat} : ltL t b x (n + 1) = ltL t b x n ++ [letF (t (x.toNat + n)) b] := by
  unfold ltL
  rw [List.range_succ, List.map_append]; rfl
/-- while it reads -/
def RI (u : WsP) (i : Int) (v : St5) : Prop :=
  v.2.2.2.2 = decide (u.2 ≠ []) ∧ v.2.2.2.1 = (u.1.length : Int) + (if u.2 = [] then 0 else 1) ∧
  (∀ (j : Nat) (h : j < u.1.length), wdL v.1 (v.2.1 j) (v.2.2.1 j) = u.1[j] ∧ 0 ≤ v.2.1 j ∧ v.2.1 j ≤ v.2.2.1 j ∧ v.2.2.1 j ≤ i) ∧
  (u.2 ≠ [] → wdL v.1 (v.2.1 u.1.length) i = u.2 ∧ 0 ≤ v.2.1 u.1.length ∧ v.2.1 u.1.length ≤ i ∧ v.2.2.1 u.1.length = i) ∧
  2 * (u.1.length : Int) + (if u.2 = [] then 0 else 1) ≤ i
theorem RI_s {t : Nat → Int} {x : Int} {b : Bool} {wk : Nat} {u : WsP} {i : Int} {v : St5} (h : RI u i v) (h0 : 0 ≤ i) (hx : 0 ≤ x) (hk : i + 2 ≤ 2 * wk) : RI (wsR u (letF (t (x.toNat + i.toNat)) b)) (i + 1) (rdS t x b wk v i) := by
  obtain ⟨v1, v2, v3, v4, v5⟩ := v
  obtain ⟨ws, cur⟩ := u
  obtain ⟨h1, h2, h3, h4, h5⟩ := h
  dsimp only at h1 h2 h3 h4 h5
  have ei : (x + i).toNat = x.toNat + i.toNat := by omega
  unfold rdS wsR
  dsimp only
  rw [ei]
  generalize letF (t (x.toNat + i.toNat)) b = ch
  by_cases hc : ch = 0
  · rw [if_pos hc, if_pos hc]
    by_cases hu : cur = []
    · rw [if_pos hu]
      rw [if_pos hu] at h2 h5
      refine ⟨by simp, by dsimp only; rw [h2]; simp, fun j hj => ?_, fun hh => absurd rfl hh, by dsimp only; rw [if_pos rfl]; omega⟩
      have := h3 j hj
      dsimp only
      rw [wdL_up this.2.1 (by omega)]
      exact ⟨this.1, this.2.1, this.2.2.1, by omega⟩
    · rw [if_neg hu]
      rw [if_neg hu] at h2 h5
      have h4' := h4 hu
      refine ⟨by simp, by dsimp only; rw [h2, List.length_append]; simp, fun j hj => ?_, fun hh => absurd rfl hh, by dsimp only; rw [if_pos rfl, List.length_append]; simp only [List.length_cons, List.length_nil]; omega⟩
      dsimp only at hj ⊢
      rw [List.length_append] at hj
      simp only [List.length_cons, List.length_nil] at hj
      by_cases q : j < ws.length
      · have := h3 j q
        rw [wdL_up this.2.1 (by omega), List.getElem_append_left q]
        exact ⟨this.1, this.2.1, this.2.2.1, by omega⟩
      · have e : j = ws.length := by omega
        subst e
        rw [List.getElem_append_right (by omega)]
        simp only [Nat.sub_self, List.getElem_cons_zero]
        rw [h4'.2.2.2, wdL_up h4'.2.1 (by omega)]
        exact ⟨h4'.1, h4'.2.1, h4'.2.2.1, by omega⟩
  · rw [if_neg hc, if_neg hc]
    by_cases hu : cur = []
    · have hv5 : ¬ v5 = true := by rw [h1, hu]; simp
      rw [if_neg hv5]
      rw [if_pos hu] at h2 h5
      have hlt : v4 < (wk : Int) := by omega
      rw [if_pos hlt]
      subst hu
      have hz : v4.toNat = ws.length := by omega
      refine ⟨by simp, by dsimp only; rw [h2, if_neg (by simp)]; omega, fun j hj => ?_, fun _ => ?_, by dsimp only; rw [if_neg (by simp)]; omega⟩
      · dsimp only at hj ⊢
        have := h3 j hj
        rw [hz]
        rw [show va_up v2 ws.length i j = v2 j from by unfold va_up; rw [if_neg (by omega)], show va_up v3 ws.length (i + 1) j = v3 j from by unfold va_up; rw [if_neg (by omega)]]
        rw [wdL_up this.2.1 (by omega)]
        exact ⟨this.1, this.2.1, this.2.2.1, by omega⟩
      · dsimp only
        rw [hz]
        rw [show va_up v2 ws.length i ws.length = i from by unfold va_up; rw [if_pos rfl], show va_up v3 ws.length (i + 1) ws.length = i + 1 from by unfold va_up; rw [if_pos rfl]]
        refine ⟨?_, h0, by omega, rfl⟩
        rw [wdL_s h0 (by omega)]
        unfold wdL
        rw [show (i - i).toNat = 0 by omega]
        simp [va_up]
    · have hv5 : v5 = true := by rw [h1]; simp [hu]
      rw [if_pos hv5]
      rw [if_neg hu] at h2 h5
      have h4' := h4 hu
      have hz : (v4 - 1).toNat = ws.length := by omega
      refine ⟨by simp, by dsimp only; rw [h2, if_neg (by simp)], fun j hj => ?_, fun _ => ?_, by dsimp only; rw [if_neg (by simp)]; omega⟩
      · dsimp only at hj ⊢
        have := h3 j hj
        rw [hz, show va_up v3 ws.length (i + 1) j = v3 j from by unfold va_up; rw [if_neg (by omega)]]
        rw [wdL_up this.2.1 (by omega)]
        exact ⟨this.1, this.2.1, this.2.2.1, by omega⟩
      · dsimp only
        rw [hz, show va_up v3 ws.length (i + 1) ws.length = i + 1 from by unfold va_up; rw [if_pos rfl]]
        refine ⟨?_, h4'.2.1, by omega, rfl⟩
        rw [wdL_s h4'.2.1 (by omega), wdL_up h4'.2.1 (by omega), h4'.1]
        simp [va_up]
theorem RI_l {t : Nat → Int} {x : Int} {b : Bool} {wk : Nat} (hx : 0 ≤ x) : ∀ (k : Nat) (i : Nat) (v : St5), RI ((ltL t b x i).foldl wsR ([], [])) i v → (i : Int) + k + 1 ≤ 2 * wk → RI ((ltL t b x (i + k)).foldl wsR ([], [])) ((i + k : Nat) : Int) (rdL t x b wk k i v) := by
  intro k
  induction k with
  | zero => intro i v h _; exact h
  | succ k ih =>
    intro i v h hk
    simp only [rdL]
    have h1 := RI_s (t := t) (b := b) (wk := wk) h (by omega) hx (by omega)
    have h2 : RI ((ltL t b x (i + 1)).foldl wsR ([], [])) ((i + 1 : Nat) : Int) (rdS t x b wk v i) := by
      rw [ltL_s, List.foldl_append]
      simp only [List.foldl_cons, List.foldl_nil]
      have : (i : Int).toNat = i := by omega
      rw [this] at h1
      exact h1
    have h3 := ih (i + 1) (rdS t x b wk v i) h2 (by push_cast; omega)
    rw [show i + (k + 1) = i + 1 + k by omega]
    exact h3
theorem RI_WL {u : WsP} {i : Int} {v : St5} (h : RI u i v) : WL (wsE u) v.2.2.2.1 v.1 v.2.1 v.2.2.1 := by
  obtain ⟨h1, h2, h3, h4, h5⟩ := h
  unfold wsE
  by_cases hu : u.2 = []
  · rw [if_pos hu]
    rw [if_pos hu] at h2
    exact ⟨by rw [h2]; simp, fun j hj => ⟨(h3 j hj).1, (h3 j hj).2.1, (h3 j hj).2.2.1⟩⟩
  · rw [if_neg hu]
    rw [if_neg hu] at h2
    have h4' := h4 hu
    refine ⟨by rw [h2, List.length_append]; simp, fun j hj => ?_⟩
    rw [List.length_append] at hj
    simp only [List.length_cons, List.length_nil] at hj
    by_cases q : j < u.1.length
    · rw [List.getElem_append_left q]
      exact ⟨(h3 j q).1, (h3 j q).2.1, (h3 j q).2.2.1⟩
    · have e : j = u.1.length := by omega
      subst e
      rw [List.getElem_append_right (by omega)]
      simp only [Nat.sub_self, List.getElem_cons_zero]
      rw [h4'.2.2.2]
      exact ⟨h4'.1, h4'.2.1, h4'.2.2.1⟩
theorem rdF_WL {t : Nat → Int} {n : Nat} {x y : Int} {b : Bool} {wn wk : Nat} {lt sb se : Nat → Int} (hx : 0 ≤ x) (hy : y ≤ n) (hn : y - x ≤ wn) (hk : (wn : Int) + 1 ≤ 2 * wk) (u : St5) (hu : rdF t n x y b wn wk lt sb se = u) : WL (wsF t b x y) u.2.2.2.1 u.1 u.2.1 u.2.2.1 := by
  subst hu
  unfold rdF wsF
  have e : (min (min y n - x) wn).toNat = (y - x).toNat := by omega
  rw [e]
  have h0 : RI ((ltL t b x 0).foldl wsR ([], [])) ((0 : Nat) : Int) (lt, sb, se, 0, false) := by
    refine ⟨rfl, rfl, fun j hj => absurd hj (Nat.not_lt_zero _), fun h => absurd rfl h, by simp [ltL]⟩
  have h1 := RI_l (t := t) (b := b) (wk := wk) hx (y - x).toNat 0 _ h0 (by omega)
  rw [Nat.zero_add] at h1
  exact RI_WL h1
/-! letters in order -/
def cmpG (d : Int) : List Int → List Int → Int
  | x :: xs, y :: ys => if x = y then cmpG d xs ys else x - y
  | _, _ => d
def cmpW (a b : List Int) : Int := cmpG ((a.length : Int) - b.length) a b
def wdN (f : Nat → Int) (i n : Nat) : List Int := (List.range n).map (fun k => f (i + k))
theorem wdN_s {f : Nat → Int} {i n : Nat} : wdN f i (n + 1) = f i :: wdN f (i + 1) n := by
  unfold wdN
  rw [List.range_succ_eq_map, List.map_cons, List.map_map]
  rw [Nat.add_zero]
  congr 1
  refine List.map_congr_left (fun k _ => ?_)
  show f (i + (k + 1)) = f (i + 1 + k)
  congr 1; omega
theorem cmpL_G {f g : Nat → Int} {d : Int} : ∀ (n i la lb : Nat), n = min la lb → cmpL f g n i d = cmpG d (wdN f i la) (wdN g i lb) := by
  intro n
  induction n with
  | zero =>
    intro i la lb h
    simp only [cmpL]
    rcases Nat.eq_zero_or_pos la with h1 | h1
    · subst h1
      cases lb with
      | zero => rfl
      | succ lb => rw [wdN_s]; rfl
    · have h2 : lb = 0 := by omega
      subst h2
      obtain ⟨la, rfl⟩ : ∃ k, la = k + 1 := ⟨la - 1, by omega⟩
      rw [wdN_s]; rfl
  | succ n ih =>
    intro i la lb h
    obtain ⟨la, rfl⟩ : ∃ k, la = k + 1 := ⟨la - 1, by omega⟩
    obtain ⟨lb, rfl⟩ : ∃ k, lb = k + 1 := ⟨lb - 1, by omega⟩
    rw [wdN_s, wdN_s]
    simp only [cmpL, cmpG]
    rw [ih (i + 1) la lb (by omega)]
theorem wdL_len {lt : Nat → Int} {a b : Int} : (wdL lt a b).length = (b - a).toNat := by unfold wdL; rw [List.length_map, List.length_range]
theorem cmpF_W {f g : Nat → Int} {n n2 : Nat} {x xe y ye : Int} (h : 0 ≤ x ∧ x ≤ xe ∧ xe ≤ n) (h2 : 0 ≤ y ∧ y ≤ ye ∧ ye ≤ n2) : cmpF f n x xe g n2 y ye = cmpW (wdL f x xe) (wdL g y ye) := by
  unfold cmpF
  rw [if_neg (by omega)]
  rw [cmpL_G (min (xe - x) (ye - y)).toNat 0 (xe - x).toNat (ye - y).toNat (by omega)]
  unfold cmpW
  rw [wdL_len, wdL_len, show (((xe - x).toNat : Nat) : Int) = xe - x by omega, show (((ye - y).toNat : Nat) : Int) = ye - y by omega]
  unfold wdN wdL
  congr 1 <;> (refine List.map_congr_left (fun k _ => ?_); simp only [Nat.zero_add])

set_option maxHeartbeats 4000000 in
set_option maxRecDepth 100000 in
theorem c_W_read2 (l : Launch) (dC : Nat → ClassId) (dI : Nat → Nat → Nat) (kA : Nat → ClassId) (sz : Nat) (wo : Nat) (wl : Nat) (wb : Nat) (we : Nat) (wn : Nat) (wk : Nat) (wz : Int) (lt : Nat → Int) (sb : Nat → Int) (se : Nat → Int) (oc : Nat) (n : Nat) (t : Nat → Int) (x : Int) (y : Int) (b : Bool) (hW : WR wn wk wz lt sb se) (hn : n ≤ 1000) (ht : ∀ j, 0 ≤ t j ∧ t j < 256) (hxy : 0 ≤ x ∧ x ≤ 1000 ∧ 0 ≤ y ∧ y ≤ 1000) (hfit : y ≤ n ∧ y - x ≤ wn ∧ (wn : Int) + 1 ≤ 2 * wk) : Met l y_W_read (wsy y_W_read b_W_read 8 none) (rmd 2 0 0) (li_Pr (dC, dI) CL (TY kA) [.ref wo, .ref oc, .int (iI x), .int (iI y), .int (iI (bI b))] (fun h => h.size = sz ∧ va_P (dC, dI) CL [(wo, .inr (9, [.ref wl, .ref wb, .ref we, .int (iI wz)])), (wl, .inl (kA 1, wn, .inl (aI lt))), (wb, .inl (kA 0, wk, .inl (aI sb))), (we, .inl (kA 0, wk, .inl (aI se)))] h ∧ va_D (fun q => dI 100 0 ≤ q) [(wo, .inr (9, [.ref wl, .ref wb, .ref we, .int (iI wz)])), (wl, .inl (kA 1, wn, .inl (aI lt))), (wb, .inl (kA 0, wk, .inl (aI sb))), (we, .inl (kA 0, wk, .inl (aI se)))] ∧ (fun h => va_P (dC, dI) CL [(oc, .inl (kA 1, n, .inl (aI t)))] h ∧ Dsj [(oc, .inl (kA 1, n, .inl (aI t)))] [(wo, .inr (9, [.ref wl, .ref wb, .ref we, .int (iI wz)])), (wl, .inl (kA 1, wn, .inl (aI lt))), (wb, .inl (kA 0, wk, .inl (aI sb))), (we, .inl (kA 0, wk, .inl (aI se)))]) h)) (li_Qw (S := (Int) × (Nat → Int) × (Nat → Int) × (Nat → Int)) (dC, dI) CL (fun u => WR wn wk u.1 u.2.1 u.2.2.1 u.2.2.2 ∧ WL (wsF t b x y) u.1 u.2.1 u.2.2.1 u.2.2.2) (fun _ => none) (fun u => [(wo, .inr (9, [.ref wl, .ref wb, .ref we, .int (iI u.1)])), (wl, .inl (kA 1, wn, .inl (aI u.2.1))), (wb, .inl (kA 0, wk, .inl (aI u.2.2.1))), (we, .inl (kA 0, wk, .inl (aI u.2.2.2)))]) (va_A [(wo, .inr (9, [.ref wl, .ref wb, .ref we, .int (iI wz)])), (wl, .inl (kA 1, wn, .inl (aI lt))), (wb, .inl (kA 0, wk, .inl (aI sb))), (we, .inl (kA 0, wk, .inl (aI se)))] sz)) 0 0 (va_A [(wo, .inr (9, [.ref wl, .ref wb, .ref we, .int (iI wz)])), (wl, .inl (kA 1, wn, .inl (aI lt))), (wb, .inl (kA 0, wk, .inl (aI sb))), (we, .inl (kA 0, wk, .inl (aI se)))] sz) := by
  refine li_mwv (by decide) (Nat.le_of_ble_eq_true rfl) ?_
  intro p e s m args below meth c Q A C hP hD hBx hK hN hG hA hAi hAN fin ls hl
  obtain ⟨hx, hb, hr, hml, hown, hts, hlocks, hin⟩ := C
  have hown : s.vm.findClass R_W = some m.cls := hown
  obtain ⟨hRo, hDj⟩ := hBx
  have hRo : va_P (dC, dI) CL [(oc, .inl (kA 1, n, .inl (aI t)))] s.heap := hRo
  have hRoN := li_roN (A := A) hRo hDj hAi
  have hl : lv_has ls 8 [(0, .ref wo), (1, .ref oc), (2, .int (iI x)), (3, .int (iI y)), (4, .int (iI (bI b)))] := hl
  obtain ⟨hwn, hwk, hwz, hlt, hsb, hse⟩ := id hW
  have K_29 : ∀ (nn_29 : Nat) (i : Int) (mn : Int) (vl : Nat → Int) (vb : Nat → Int) (ve : Nat → Int) (vz : Int) (iw : Bool), (mn = min (min y n - x) wn) → (0 ≤ i ∧ (i = 0 ∨ i ≤ mn)) → (WR wn wk vz vl vb ve) → (iw = true → 0 < vz) → (rdL t x b wk (mn - i).toNat i (vl, vb, ve, vz, iw) = rdF t n x y b wn wk lt sb se) → ((mn - i).toNat < nn_29) → ∀ (H : Heap) (locs : List Loc), va_P (dC, dI) CL [(wo, .inr (9, [.ref wl, .ref wb, .ref we, .int (iI vz)])), (wl, .inl (kA 1, wn, .inl (aI vl))), (wb, .inl (kA 0, wk, .inl (aI vb))), (we, .inl (kA 0, wk, .inl (aI ve)))] H → va_D A [(wo, .inr (9, [.ref wl, .ref wb, .ref we, .int (iI vz)])), (wl, .inl (kA 1, wn, .inl (aI vl))), (wb, .inl (kA 0, wk, .inl (aI vb))), (we, .inl (kA 0, wk, .inl (aI ve)))] → va_S A s.heap H locs → ∀ ls : Array Slot, lv_has ls 8 [(0, .ref wo), (1, .ref oc), (2, .int (iI x)), (3, .int (iI y)), (4, .int (iI (bI b))), (5, .int (iI (bI iw))), (6, .int (iI mn)), (7, .int (iI i))] → W p l e (rmd 2 0 0) s m args below meth c H locs 0 0 Q (F0 m 29 ls []) := by
    intro nn_29
    induction nn_29 with
    | zero => intro i mn vl vb ve vz iw hmn hi hWc hiw hres hm; exact absurd hm (Nat.not_lt_zero _)
    | succ nn_29 ih_29 =>
      intro i mn vl vb ve vz iw hmn hi hWc hiw hres hm_29 H locs hP hD hS ls hl
      obtain ⟨_, _, hvz, hvl, hvb, hve⟩ := id hWc
      refine lv_iload hx hb d_W_read_29 (lv_at hl 7 rfl) ?_
      refine lv_iload hx hb d_W_read_31 (lv_at hl 6 rfl) ?_
      refine li_icmp_ge (tgt := 152) hx hb d_W_read_33 (by decide) (by omega) (by omega) (fun c1 => ?_) (fun c1 => ?_)
      · have _q := c1
        exact fin (vz, vl, vb, ve) _ _ _ _ (by show WR wn wk vz vl vb ve ∧ WL (wsF t b x y) vz vl vb ve; rw [show (mn - i).toNat = 0 by omega] at hres; simp only [rdL] at hres; exact ⟨hWc, rdF_WL (by omega) (by omega) (by omega) (by omega) _ hres.symm⟩) (by first | exact hP | (subst_vars; exact hP)) (by first | exact hD | (subst_vars; exact hD)) hS d_W_read_152
      · have _q := c1
        refine lv_iload_n hx hb d_W_read_36 rfl (lv_at hl 2 rfl) ?_
        refine li_if_lt (tgt := 152) hx hb d_W_read_37 (by decide) (by omega) (fun c2 => ?_) (fun c2 => ?_)
        · have _q := c2
          exact absurd c2 (by omega)
        · have _q := c2
          refine lv_aload_n hx hb d_W_read_40 rfl (lv_at hl 0 rfl) ?_
          refine gf_W_15 hx hb hts hown hK hP 0 rfl rfl d_W_read_41 ?_
          refine lv_iload hx hb d_W_read_44 (lv_at hl 7 rfl) ?_
          refine lv_aload_n hx hb d_W_read_46 rfl (lv_at hl 1 rfl) ?_
          refine lv_iload_n hx hb d_W_read_47 rfl (lv_at hl 2 rfl) ?_
          refine lv_iload hx hb d_W_read_48 (lv_at hl 7 rfl) ?_
          refine li_iadd hx hb d_W_read_50 ?_
          refine li_cald hx hb hK (li_ro hRo hRoN hS) 0 1 rfl rfl (by omega) (by omega) (by omega) d_W_read_51 ?_
          have f3 := ht ((x + i).toNat)
          have hlf := letF_b (w := b) (ht (x + i).toNat)
          refine lv_iload hx hb d_W_read_52 (lv_at hl 4 rfl) ?_
          refine li_callr ((va_runS (As := [.int (iI (t ((x + i).toNat))), .int (iI (bI b))]) (rest := [.int (iI i), .ref wl]) ⟨hx, hb, hml, hown, hts⟩ (c_W_letterOf l dC dI kA (t ((x + i).toNat)) b (by have := ht (x + i).toNat; omega)) (cw_W_35 hts rfl rfl ⟨Nat.le_of_ble_eq_true rfl, Nat.le_of_ble_eq_true rfl⟩) (li_preS va_Pnil hK hN (hG.go hS hAN)) rfl rfl hl.1 rfl (lv_room (Nat.le_of_ble_eq_true rfl)) d_W_read_54 ⟨(by show 0 + 0 ≤ 0; omega), (by show 0 + 0 ≤ 0; omega)⟩).run) ?_
          refine li_cast hx hb hK hP hD hS 1 1 rfl rfl (by omega) (by omega) (by omega) (by omega) (by omega) d_W_read_57 (fun H locs hP hD hS => ?_)
          have hP : va_P (dC, dI) CL [(wo, .inr (9, [.ref wl, .ref wb, .ref we, .int (iI vz)])), (wl, .inl (kA 1, wn, .inl (aI (va_up vl i.toNat (letF (t ((x + i).toNat)) b))))), (wb, .inl (kA 0, wk, .inl (aI vb))), (we, .inl (kA 0, wk, .inl (aI ve)))] H := hP
          have hD : va_D A [(wo, .inr (9, [.ref wl, .ref wb, .ref we, .int (iI vz)])), (wl, .inl (kA 1, wn, .inl (aI (va_up vl i.toNat (letF (t ((x + i).toNat)) b))))), (wb, .inl (kA 0, wk, .inl (aI vb))), (we, .inl (kA 0, wk, .inl (aI ve)))] := hD
          have hvs : ∀ j, 0 ≤ va_up vl i.toNat (letF (t (x + i).toNat) b) j ∧ va_up vl i.toNat (letF (t (x + i).toNat) b) j < 256 := up_rt hvl hlf
          refine lv_aload_n hx hb d_W_read_58 rfl (lv_at hl 0 rfl) ?_
          refine gf_W_15 hx hb hts hown hK hP 0 rfl rfl d_W_read_59 ?_
          refine lv_iload hx hb d_W_read_62 (lv_at hl 7 rfl) ?_
          refine li_cald hx hb hK hP 1 1 rfl rfl (by omega) (by omega) (by omega) d_W_read_64 ?_
          refine li_to (z := letF (t (x + i).toNat) b) vu_s ?_
          refine li_if_ne (tgt := 74) hx hb d_W_read_65 (by decide) (by omega) (fun c4 => ?_) (fun c4 => ?_)
          · have _q := c4
            refine lv_iload hx hb d_W_read_74 (lv_at hl 5 rfl) ?_
            refine li_bz (tgt := 97) hx hb d_W_read_76 (by decide) (fun c5 => ?_) (fun c5 => ?_)
            · have _q := c5
              refine lv_aload_n hx hb d_W_read_97 rfl (lv_at hl 0 rfl) ?_
              refine gf_W_28 hx hb hts hown hK hP 0 rfl rfl d_W_read_98 ?_
              refine lv_aload_n hx hb d_W_read_101 rfl (lv_at hl 0 rfl) ?_
              refine gf_W_21 hx hb hts hown hK hP 0 rfl rfl d_W_read_102 ?_
              refine li_alen hx hb hK hP 2 0 rfl rfl d_W_read_105 ?_
              refine li_icmp_ge (tgt := 146) hx hb d_W_read_106 (by decide) (by omega) (by omega) (fun c6 => ?_) (fun c6 => ?_)
              · have _q := c6
                obtain ⟨x_i, ex_i⟩ : ∃ y_9 : Int, y_9 = i + 1 := ⟨_, rfl⟩
                refine lv_iinc (v := iI x_i) (lv' := [(7, .int (iI x_i)), (0, .ref wo), (1, .ref oc), (2, .int (iI x)), (3, .int (iI y)), (4, .int (iI (bI b))), (5, .int (iI (bI iw))), (6, .int (iI mn))]) hx hb d_W_read_146 hl (k := 7) rfl (by rw [ex_i]; exact iI_add _ _) (by decide) rfl (fun ls hl => ?_)
                refine lv_goto (tgt := 29) hx hb d_W_read_149 (by decide) ?_
                exact ih_29 x_i mn (va_up vl i.toNat (letF (t ((x + i).toNat)) b)) vb ve vz iw (by first | exact hmn | (rw [emn])) (by first | omega | (subst_vars; omega)) (by first | exact ⟨hwn, hwk, by omega, hlt, hsb, hse⟩ | exact ⟨hwn, hwk, by first | omega | (have := hiw (by assumption); omega), hvs, hvb, hve⟩ | exact ⟨hwn, hwk, by omega, hvs, hvb, up_r hve (by omega)⟩ | (subst_vars; exact ⟨hwn, hwk, by omega, hvs, up_r hvb (by omega), up_r hve (by omega)⟩)) (by first | exact hiw | (intro _; omega) | (intro h; cases h) | (intro h; exact hiw h)) (by first | (subst_vars; unfold rdF; rw [show min (min y ↑n - x) ↑wn - 0 = min (min y ↑n - x) ↑wn by omega]; done) | (rw [ex_i, ← hres, show (mn - i).toNat = (mn - (i + 1)).toNat + 1 by omega]; simp only [rdL, rdS]; first | (rw [if_pos (by assumption)]; done) | (subst_vars; rw [if_neg (by assumption), if_pos rfl]; done) | (subst_vars; rw [if_neg (by assumption), if_neg (by simp), if_pos (by omega)]; done) | (subst_vars; rw [if_neg (by assumption), if_neg (by simp), if_neg (by omega)]; done))) (by first | omega | (subst_vars; omega)) _ _ hP hD hS _ (lv_sub hl [1, 2, 3, 4, 5, 6, 7, 0] rfl)
              · have _q := c6
                refine lv_aload_n hx hb d_W_read_109 rfl (lv_at hl 0 rfl) ?_
                refine gf_W_21 hx hb hts hown hK hP 0 rfl rfl d_W_read_110 ?_
                refine lv_aload_n hx hb d_W_read_113 rfl (lv_at hl 0 rfl) ?_
                refine gf_W_28 hx hb hts hown hK hP 0 rfl rfl d_W_read_114 ?_
                refine lv_iload hx hb d_W_read_117 (lv_at hl 7 rfl) ?_
                refine li_iast hx hb hK hP hD hS 2 0 rfl rfl (by omega) (by omega) (by omega) d_W_read_119 (fun H locs hP hD hS => ?_)
                have hP : va_P (dC, dI) CL [(wo, .inr (9, [.ref wl, .ref wb, .ref we, .int (iI vz)])), (wl, .inl (kA 1, wn, .inl (aI (va_up vl i.toNat (letF (t ((x + i).toNat)) b))))), (wb, .inl (kA 0, wk, .inl (aI (va_up vb vz.toNat i)))), (we, .inl (kA 0, wk, .inl (aI ve)))] H := hP
                have hD : va_D A [(wo, .inr (9, [.ref wl, .ref wb, .ref we, .int (iI vz)])), (wl, .inl (kA 1, wn, .inl (aI (va_up vl i.toNat (letF (t ((x + i).toNat)) b))))), (wb, .inl (kA 0, wk, .inl (aI (va_up vb vz.toNat i)))), (we, .inl (kA 0, wk, .inl (aI ve)))] := hD
                refine lv_aload_n hx hb d_W_read_120 rfl (lv_at hl 0 rfl) ?_
                refine gf_W_25 hx hb hts hown hK hP 0 rfl rfl d_W_read_121 ?_
                refine lv_aload_n hx hb d_W_read_124 rfl (lv_at hl 0 rfl) ?_
                refine gf_W_28 hx hb hts hown hK hP 0 rfl rfl d_W_read_125 ?_
                refine lv_iload hx hb d_W_read_128 (lv_at hl 7 rfl) ?_
                refine lv_iconst (v := iI 1) hx hb d_W_read_130 rfl ?_
                refine li_iadd hx hb d_W_read_131 ?_
                refine li_iast hx hb hK hP hD hS 3 0 rfl rfl (by omega) (by omega) (by omega) d_W_read_132 (fun H locs hP hD hS => ?_)
                have hP : va_P (dC, dI) CL [(wo, .inr (9, [.ref wl, .ref wb, .ref we, .int (iI vz)])), (wl, .inl (kA 1, wn, .inl (aI (va_up vl i.toNat (letF (t ((x + i).toNat)) b))))), (wb, .inl (kA 0, wk, .inl (aI (va_up vb vz.toNat i)))), (we, .inl (kA 0, wk, .inl (aI (va_up ve vz.toNat (i + 1)))))] H := hP
                have hD : va_D A [(wo, .inr (9, [.ref wl, .ref wb, .ref we, .int (iI vz)])), (wl, .inl (kA 1, wn, .inl (aI (va_up vl i.toNat (letF (t ((x + i).toNat)) b))))), (wb, .inl (kA 0, wk, .inl (aI (va_up vb vz.toNat i)))), (we, .inl (kA 0, wk, .inl (aI (va_up ve vz.toNat (i + 1)))))] := hD
                refine lv_aload_n hx hb d_W_read_133 rfl (lv_at hl 0 rfl) ?_
                refine lv_dup hx hb d_W_read_134 rfl ?_
                refine gf_W_28 hx hb hts hown hK hP 0 rfl rfl d_W_read_135 ?_
                refine lv_iconst (v := iI 1) hx hb d_W_read_138 rfl ?_
                refine li_iadd hx hb d_W_read_139 ?_
                refine li_nm (fun x7 ex7 => ?_)
                refine pf_W_28 hx hb hts hown hK hP hD hS 0 rfl (Nat.le_of_ble_eq_true rfl) d_W_read_140 (fun H locs hP hD hS => ?_)
                have hP : va_P (dC, dI) CL [(wo, .inr (9, [.ref wl, .ref wb, .ref we, .int (iI x7)])), (wl, .inl (kA 1, wn, .inl (aI (va_up vl i.toNat (letF (t ((x + i).toNat)) b))))), (wb, .inl (kA 0, wk, .inl (aI (va_up vb vz.toNat i)))), (we, .inl (kA 0, wk, .inl (aI (va_up ve vz.toNat (i + 1)))))] H := hP
                have hD : va_D A [(wo, .inr (9, [.ref wl, .ref wb, .ref we, .int (iI x7)])), (wl, .inl (kA 1, wn, .inl (aI (va_up vl i.toNat (letF (t ((x + i).toNat)) b))))), (wb, .inl (kA 0, wk, .inl (aI (va_up vb vz.toNat i)))), (we, .inl (kA 0, wk, .inl (aI (va_up ve vz.toNat (i + 1)))))] := hD
                refine lv_iconst (v := iI 1) hx hb d_W_read_143 rfl ?_
                refine lv_istore (lv' := [(5, .int (iI 1)), (0, .ref wo), (1, .ref oc), (2, .int (iI x)), (3, .int (iI y)), (4, .int (iI (bI b))), (6, .int (iI mn)), (7, .int (iI i))]) hx hb d_W_read_144 hl (by decide) rfl (fun ls hl => ?_)
                obtain ⟨x_i, ex_i⟩ : ∃ y_9 : Int, y_9 = i + 1 := ⟨_, rfl⟩
                refine lv_iinc (v := iI x_i) (lv' := [(7, .int (iI x_i)), (5, .int (iI 1)), (0, .ref wo), (1, .ref oc), (2, .int (iI x)), (3, .int (iI y)), (4, .int (iI (bI b))), (6, .int (iI mn))]) hx hb d_W_read_146 hl (k := 7) rfl (by rw [ex_i]; exact iI_add _ _) (by decide) rfl (fun ls hl => ?_)
                refine lv_goto (tgt := 29) hx hb d_W_read_149 (by decide) ?_
                exact ih_29 x_i mn (va_up vl i.toNat (letF (t ((x + i).toNat)) b)) (va_up vb vz.toNat i) (va_up ve vz.toNat (i + 1)) x7 true (by first | exact hmn | (rw [emn])) (by first | omega | (subst_vars; omega)) (by first | exact ⟨hwn, hwk, by omega, hlt, hsb, hse⟩ | exact ⟨hwn, hwk, by first | omega | (have := hiw (by assumption); omega), hvs, hvb, hve⟩ | exact ⟨hwn, hwk, by omega, hvs, hvb, up_r hve (by omega)⟩ | (subst_vars; exact ⟨hwn, hwk, by omega, hvs, up_r hvb (by omega), up_r hve (by omega)⟩)) (by first | exact hiw | (intro _; omega) | (intro h; cases h) | (intro h; exact hiw h)) (by first | (subst_vars; unfold rdF; rw [show min (min y ↑n - x) ↑wn - 0 = min (min y ↑n - x) ↑wn by omega]; done) | (rw [ex_i, ← hres, show (mn - i).toNat = (mn - (i + 1)).toNat + 1 by omega]; simp only [rdL, rdS]; first | (rw [if_pos (by assumption)]; done) | (subst_vars; rw [if_neg (by assumption), if_pos rfl]; done) | (subst_vars; rw [if_neg (by assumption), if_neg (by simp), if_pos (by omega)]; done) | (subst_vars; rw [if_neg (by assumption), if_neg (by simp), if_neg (by omega)]; done))) (by first | omega | (subst_vars; omega)) _ _ hP hD hS _ (lv_sub hl [2, 3, 4, 5, 6, 1, 7, 0] rfl)
            · have _q := c5
              have hvp := hiw (by assumption)
              refine lv_aload_n hx hb d_W_read_79 rfl (lv_at hl 0 rfl) ?_
              refine gf_W_25 hx hb hts hown hK hP 0 rfl rfl d_W_read_80 ?_
              refine lv_aload_n hx hb d_W_read_83 rfl (lv_at hl 0 rfl) ?_
              refine gf_W_28 hx hb hts hown hK hP 0 rfl rfl d_W_read_84 ?_
              refine lv_iconst (v := iI 1) hx hb d_W_read_87 rfl ?_
              refine li_isub hx hb d_W_read_88 ?_
              refine lv_iload hx hb d_W_read_89 (lv_at hl 7 rfl) ?_
              refine lv_iconst (v := iI 1) hx hb d_W_read_91 rfl ?_
              refine li_iadd hx hb d_W_read_92 ?_
              refine li_iast hx hb hK hP hD hS 3 0 rfl rfl (by omega) (by omega) (by omega) d_W_read_93 (fun H locs hP hD hS => ?_)
              have hP : va_P (dC, dI) CL [(wo, .inr (9, [.ref wl, .ref wb, .ref we, .int (iI vz)])), (wl, .inl (kA 1, wn, .inl (aI (va_up vl i.toNat (letF (t ((x + i).toNat)) b))))), (wb, .inl (kA 0, wk, .inl (aI vb))), (we, .inl (kA 0, wk, .inl (aI (va_up ve ((vz - 1).toNat) (i + 1)))))] H := hP
              have hD : va_D A [(wo, .inr (9, [.ref wl, .ref wb, .ref we, .int (iI vz)])), (wl, .inl (kA 1, wn, .inl (aI (va_up vl i.toNat (letF (t ((x + i).toNat)) b))))), (wb, .inl (kA 0, wk, .inl (aI vb))), (we, .inl (kA 0, wk, .inl (aI (va_up ve ((vz - 1).toNat) (i + 1)))))] := hD
              refine lv_goto (tgt := 146) hx hb d_W_read_94 (by decide) ?_
              obtain ⟨x_i, ex_i⟩ : ∃ y_9 : Int, y_9 = i + 1 := ⟨_, rfl⟩
              refine lv_iinc (v := iI x_i) (lv' := [(7, .int (iI x_i)), (0, .ref wo), (1, .ref oc), (2, .int (iI x)), (3, .int (iI y)), (4, .int (iI (bI b))), (5, .int (iI (bI iw))), (6, .int (iI mn))]) hx hb d_W_read_146 hl (k := 7) rfl (by rw [ex_i]; exact iI_add _ _) (by decide) rfl (fun ls hl => ?_)
              refine lv_goto (tgt := 29) hx hb d_W_read_149 (by decide) ?_
              exact ih_29 x_i mn (va_up vl i.toNat (letF (t ((x + i).toNat)) b)) vb (va_up ve ((vz - 1).toNat) (i + 1)) vz iw (by first | exact hmn | (rw [emn])) (by first | omega | (subst_vars; omega)) (by first | exact ⟨hwn, hwk, by omega, hlt, hsb, hse⟩ | exact ⟨hwn, hwk, by first | omega | (have := hiw (by assumption); omega), hvs, hvb, hve⟩ | exact ⟨hwn, hwk, by omega, hvs, hvb, up_r hve (by omega)⟩ | (subst_vars; exact ⟨hwn, hwk, by omega, hvs, up_r hvb (by omega), up_r hve (by omega)⟩)) (by first | exact hiw | (intro _; omega) | (intro h; cases h) | (intro h; exact hiw h)) (by first | (subst_vars; unfold rdF; rw [show min (min y ↑n - x) ↑wn - 0 = min (min y ↑n - x) ↑wn by omega]; done) | (rw [ex_i, ← hres, show (mn - i).toNat = (mn - (i + 1)).toNat + 1 by omega]; simp only [rdL, rdS]; first | (rw [if_pos (by assumption)]; done) | (subst_vars; rw [if_neg (by assumption), if_pos rfl]; done) | (subst_vars; rw [if_neg (by assumption), if_neg (by simp), if_pos (by omega)]; done) | (subst_vars; rw [if_neg (by assumption), if_neg (by simp), if_neg (by omega)]; done))) (by first | omega | (subst_vars; omega)) _ _ hP hD hS _ (lv_sub hl [1, 2, 3, 4, 5, 6, 7, 0] rfl)
          · have _q := c4
            refine lv_iconst (v := iI 0) hx hb d_W_read_68 rfl ?_
            refine lv_istore (lv' := [(5, .int (iI 0)), (0, .ref wo), (1, .ref oc), (2, .int (iI x)), (3, .int (iI y)), (4, .int (iI (bI b))), (6, .int (iI mn)), (7, .int (iI i))]) hx hb d_W_read_69 hl (by decide) rfl (fun ls hl => ?_)
            refine lv_goto (tgt := 146) hx hb d_W_read_71 (by decide) ?_
            obtain ⟨x_i, ex_i⟩ : ∃ y_9 : Int, y_9 = i + 1 := ⟨_, rfl⟩
            refine lv_iinc (v := iI x_i) (lv' := [(7, .int (iI x_i)), (5, .int (iI 0)), (0, .ref wo), (1, .ref oc), (2, .int (iI x)), (3, .int (iI y)), (4, .int (iI (bI b))), (6, .int (iI mn))]) hx hb d_W_read_146 hl (k := 7) rfl (by rw [ex_i]; exact iI_add _ _) (by decide) rfl (fun ls hl => ?_)
            refine lv_goto (tgt := 29) hx hb d_W_read_149 (by decide) ?_
            exact ih_29 x_i mn (va_up vl i.toNat (letF (t ((x + i).toNat)) b)) vb ve vz false (by first | exact hmn | (rw [emn])) (by first | omega | (subst_vars; omega)) (by first | exact ⟨hwn, hwk, by omega, hlt, hsb, hse⟩ | exact ⟨hwn, hwk, by first | omega | (have := hiw (by assumption); omega), hvs, hvb, hve⟩ | exact ⟨hwn, hwk, by omega, hvs, hvb, up_r hve (by omega)⟩ | (subst_vars; exact ⟨hwn, hwk, by omega, hvs, up_r hvb (by omega), up_r hve (by omega)⟩)) (by first | exact hiw | (intro _; omega) | (intro h; cases h) | (intro h; exact hiw h)) (by first | (subst_vars; unfold rdF; rw [show min (min y ↑n - x) ↑wn - 0 = min (min y ↑n - x) ↑wn by omega]; done) | (rw [ex_i, ← hres, show (mn - i).toNat = (mn - (i + 1)).toNat + 1 by omega]; simp only [rdL, rdS]; first | (rw [if_pos (by assumption)]; done) | (subst_vars; rw [if_neg (by assumption), if_pos rfl]; done) | (subst_vars; rw [if_neg (by assumption), if_neg (by simp), if_pos (by omega)]; done) | (subst_vars; rw [if_neg (by assumption), if_neg (by simp), if_neg (by omega)]; done))) (by first | omega | (subst_vars; omega)) _ _ hP hD hS _ (lv_sub hl [2, 3, 4, 5, 6, 1, 7, 0] rfl)
  suffices h9 : ∀ (H : Heap) (locs : List Loc), H = s.heap → locs = [] → W p l e (rmd 2 0 0) s m args below meth c H locs 0 0 Q (F0 m 0 ls []) from h9 _ _ rfl rfl
  intro H locs eH eL
  have hP : va_P (dC, dI) CL [(wo, .inr (9, [.ref wl, .ref wb, .ref we, .int (iI wz)])), (wl, .inl (kA 1, wn, .inl (aI lt))), (wb, .inl (kA 0, wk, .inl (aI sb))), (we, .inl (kA 0, wk, .inl (aI se)))] H := by rw [eH]; exact hP
  have hS : va_S A s.heap H locs := by rw [eH, eL]; exact va_S.rf
  refine lv_aload_n hx hb d_W_read_0 rfl (lv_at hl 0 rfl) ?_
  refine lv_iconst (v := iI 0) hx hb d_W_read_1 rfl ?_
  refine pf_W_28 hx hb hts hown hK hP hD hS 0 rfl (Nat.le_of_ble_eq_true rfl) d_W_read_2 (fun H locs hP hD hS => ?_)
  have hP : va_P (dC, dI) CL [(wo, .inr (9, [.ref wl, .ref wb, .ref we, .int (iI 0)])), (wl, .inl (kA 1, wn, .inl (aI lt))), (wb, .inl (kA 0, wk, .inl (aI sb))), (we, .inl (kA 0, wk, .inl (aI se)))] H := hP
  have hD : va_D A [(wo, .inr (9, [.ref wl, .ref wb, .ref we, .int (iI 0)])), (wl, .inl (kA 1, wn, .inl (aI lt))), (wb, .inl (kA 0, wk, .inl (aI sb))), (we, .inl (kA 0, wk, .inl (aI se)))] := hD
  refine lv_iconst (v := iI 0) hx hb d_W_read_5 rfl ?_
  refine lv_istore (lv' := [(5, .int (iI 0)), (0, .ref wo), (1, .ref oc), (2, .int (iI x)), (3, .int (iI y)), (4, .int (iI (bI b)))]) hx hb d_W_read_6 hl (by decide) rfl (fun ls hl => ?_)
  refine lv_iload_n hx hb d_W_read_8 rfl (lv_at hl 4 rfl) ?_
  refine lv_aload_n hx hb d_W_read_9 rfl (lv_at hl 2 rfl) ?_
  refine li_alen hx hb hK (li_ro hRo hRoN hS) 0 1 rfl rfl d_W_read_10 ?_
  refine li_mmin hx hb (hml.trans hl.1.symm) hown (hts (Cond.methodLink R_W 32 Lib.Math.min.name) (tk3 186 rfl rfl)) (hts (Cond.static Lib.Math.min.name) (tk2 85 rfl rfl)) (hts (Cond.initialized "java/lang/Math") (tk1 8 rfl rfl)) (hts (Cond.code Lib.Math.min.name Lib.Math.min.code 2 (some .int)) (tk2 86 rfl rfl)) (Nat.le_of_ble_eq_true rfl) (Nat.le_of_ble_eq_true rfl) (by show 0 ≤ 0; omega) (by show 0 ≤ 0; omega) (by omega) (by omega) d_W_read_11 ?_
  refine lv_iload_n hx hb d_W_read_14 rfl (lv_at hl 3 rfl) ?_
  refine li_isub hx hb d_W_read_15 ?_
  refine lv_aload_n hx hb d_W_read_16 rfl (lv_at hl 1 rfl) ?_
  refine gf_W_15 hx hb hts hown hK hP 0 rfl rfl d_W_read_17 ?_
  refine li_alen hx hb hK hP 1 1 rfl rfl d_W_read_20 ?_
  refine li_mmin hx hb (hml.trans hl.1.symm) hown (hts (Cond.methodLink R_W 32 Lib.Math.min.name) (tk3 186 rfl rfl)) (hts (Cond.static Lib.Math.min.name) (tk2 85 rfl rfl)) (hts (Cond.initialized "java/lang/Math") (tk1 8 rfl rfl)) (hts (Cond.code Lib.Math.min.name Lib.Math.min.code 2 (some .int)) (tk2 86 rfl rfl)) (Nat.le_of_ble_eq_true rfl) (Nat.le_of_ble_eq_true rfl) (by show 0 ≤ 0; omega) (by show 0 ≤ 0; omega) (by omega) (by omega) d_W_read_21 ?_
  refine li_nm (fun mn emn => ?_)
  refine lv_istore (lv' := [(6, .int (iI mn)), (5, .int (iI 0)), (0, .ref wo), (1, .ref oc), (2, .int (iI x)), (3, .int (iI y)), (4, .int (iI (bI b)))]) hx hb d_W_read_24 hl (by decide) rfl (fun ls hl => ?_)
  refine lv_iconst (v := iI 0) hx hb d_W_read_26 rfl ?_
  refine lv_istore (lv' := [(7, .int (iI 0)), (6, .int (iI mn)), (5, .int (iI 0)), (0, .ref wo), (1, .ref oc), (2, .int (iI x)), (3, .int (iI y)), (4, .int (iI (bI b)))]) hx hb d_W_read_27 hl (by decide) rfl (fun ls hl => ?_)
  exact K_29 ((mn - 0).toNat + 1) 0 mn lt sb se 0 false (by first | exact hmn | (rw [emn])) (by first | omega | (subst_vars; omega)) (by first | exact ⟨hwn, hwk, by omega, hlt, hsb, hse⟩ | exact ⟨hwn, hwk, by first | omega | (have := hiw (by assumption); omega), hvs, hvb, hve⟩ | exact ⟨hwn, hwk, by omega, hvs, hvb, up_r hve (by omega)⟩ | (subst_vars; exact ⟨hwn, hwk, by omega, hvs, up_r hvb (by omega), up_r hve (by omega)⟩)) (by first | exact hiw | (intro _; omega) | (intro h; cases h) | (intro h; exact hiw h)) (by first | (subst_vars; unfold rdF; rw [show min (min y ↑n - x) ↑wn - 0 = min (min y ↑n - x) ↑wn by omega]; done) | (rw [ex_i, ← hres, show (mn - i).toNat = (mn - (i + 1)).toNat + 1 by omega]; simp only [rdL, rdS]; first | (rw [if_pos (by assumption)]; done) | (subst_vars; rw [if_neg (by assumption), if_pos rfl]; done) | (subst_vars; rw [if_neg (by assumption), if_neg (by simp), if_pos (by omega)]; done) | (subst_vars; rw [if_neg (by assumption), if_neg (by simp), if_neg (by omega)]; done))) (Nat.lt_succ_self _) _ _ hP hD hS _ (lv_sub hl [3, 4, 5, 6, 7, 2, 1, 0] rfl)
set_option maxHeartbeats 4000000 in
set_option maxRecDepth 100000 in
theorem c_W_readText2 (l : Launch) (dC : Nat → ClassId) (dI : Nat → Nat → Nat) (kA : Nat → ClassId) (sz : Nat) (wo : Nat) (wl : Nat) (wb : Nat) (we : Nat) (wn : Nat) (wk : Nat) (wz : Int) (lt : Nat → Int) (sb : Nat → Int) (se : Nat → Int) (ho : Nat) (oc : Nat) (xi : Nat) (xs : Nat) (xe : Nat) (xl : Nat) (n : Nat) (mx : Nat) (fd : Int) (tc : Int) (t : Nat → Int) (ti : Nat → Int) (ts : Nat → Int) (te : Nat → Int) (tl : Nat → Int) (i : Int) (ix : Int) (hW : WR wn wk wz lt sb se) (hH : HR n mx t ti ts te tl tc) (hi : -2147483648 ≤ i ∧ i < 2147483648) (hix : -2147483648 ≤ ix ∧ ix < 2147483648) (hfit : txEn te tc i ≤ n ∧ txEn te tc i - txSt ts te tl tc i ix ≤ wn ∧ (wn : Int) + 1 ≤ 2 * wk) : Met l y_W_readText (wsy y_W_readText b_W_readText 4 none) (rmd 3 0 0) (li_Pr (dC, dI) CL (TY kA) [.ref wo, .ref ho, .int (iI i), .int (iI ix)] (fun h => h.size = sz ∧ va_P (dC, dI) CL [(wo, .inr (9, [.ref wl, .ref wb, .ref we, .int (iI wz)])), (wl, .inl (kA 1, wn, .inl (aI lt))), (wb, .inl (kA 0, wk, .inl (aI sb))), (we, .inl (kA 0, wk, .inl (aI se)))] h ∧ va_D (fun q => dI 100 0 ≤ q) [(wo, .inr (9, [.ref wl, .ref wb, .ref we, .int (iI wz)])), (wl, .inl (kA 1, wn, .inl (aI lt))), (wb, .inl (kA 0, wk, .inl (aI sb))), (we, .inl (kA 0, wk, .inl (aI se)))] ∧ (fun h => va_P (dC, dI) CL [(ho, .inr (2, [.ref oc, .int (iI fd), .ref xi, .ref xs, .ref xe, .ref xl, .int (iI tc)])), (oc, .inl (kA 1, n, .inl (aI t))), (xi, .inl (kA 0, mx, .inl (aI ti))), (xs, .inl (kA 0, mx, .inl (aI ts))), (xe, .inl (kA 0, mx, .inl (aI te))), (xl, .inl (kA 0, mx, .inl (aI tl)))] h ∧ Dsj [(ho, .inr (2, [.ref oc, .int (iI fd), .ref xi, .ref xs, .ref xe, .ref xl, .int (iI tc)])), (oc, .inl (kA 1, n, .inl (aI t))), (xi, .inl (kA 0, mx, .inl (aI ti))), (xs, .inl (kA 0, mx, .inl (aI ts))), (xe, .inl (kA 0, mx, .inl (aI te))), (xl, .inl (kA 0, mx, .inl (aI tl)))] [(wo, .inr (9, [.ref wl, .ref wb, .ref we, .int (iI wz)])), (wl, .inl (kA 1, wn, .inl (aI lt))), (wb, .inl (kA 0, wk, .inl (aI sb))), (we, .inl (kA 0, wk, .inl (aI se)))]) h)) (li_Qw (S := (Int) × (Nat → Int) × (Nat → Int) × (Nat → Int)) (dC, dI) CL (fun u => WR wn wk u.1 u.2.1 u.2.2.1 u.2.2.2 ∧ WL (wsF t false (txSt ts te tl tc i ix) (txEn te tc i)) u.1 u.2.1 u.2.2.1 u.2.2.2) (fun _ => none) (fun u => [(wo, .inr (9, [.ref wl, .ref wb, .ref we, .int (iI u.1)])), (wl, .inl (kA 1, wn, .inl (aI u.2.1))), (wb, .inl (kA 0, wk, .inl (aI u.2.2.1))), (we, .inl (kA 0, wk, .inl (aI u.2.2.2)))]) (va_A [(wo, .inr (9, [.ref wl, .ref wb, .ref we, .int (iI wz)])), (wl, .inl (kA 1, wn, .inl (aI lt))), (wb, .inl (kA 0, wk, .inl (aI sb))), (we, .inl (kA 0, wk, .inl (aI se)))] sz)) 0 0 (va_A [(wo, .inr (9, [.ref wl, .ref wb, .ref we, .int (iI wz)])), (wl, .inl (kA 1, wn, .inl (aI lt))), (wb, .inl (kA 0, wk, .inl (aI sb))), (we, .inl (kA 0, wk, .inl (aI se)))] sz) := by
  refine li_mwv (by decide) (Nat.le_of_ble_eq_true rfl) ?_
  intro p e s m args below meth c Q A C hP hD hBx hK hN hG hA hAi hAN fin ls hl
  obtain ⟨hx, hb, hr, hml, hown, hts, hlocks, hin⟩ := C
  have hown : s.vm.findClass R_W = some m.cls := hown
  obtain ⟨hRo, hDj⟩ := hBx
  have hRo : va_P (dC, dI) CL [(ho, .inr (2, [.ref oc, .int (iI fd), .ref xi, .ref xs, .ref xe, .ref xl, .int (iI tc)])), (oc, .inl (kA 1, n, .inl (aI t))), (xi, .inl (kA 0, mx, .inl (aI ti))), (xs, .inl (kA 0, mx, .inl (aI ts))), (xe, .inl (kA 0, mx, .inl (aI te))), (xl, .inl (kA 0, mx, .inl (aI tl)))] s.heap := hRo
  have hRoN := li_roN (A := A) hRo hDj hAi
  have hl : lv_has ls 4 [(0, .ref wo), (1, .ref ho), (2, .int (iI i)), (3, .int (iI ix))] := hl
  obtain ⟨hwn, hwk, hwz, hlt, hsb, hse⟩ := id hW
  obtain ⟨hn, hmx, htc, ht, hti, hxs, hxe, hxl⟩ := id hH
  suffices h9 : ∀ (H : Heap) (locs : List Loc), H = s.heap → locs = [] → W p l e (rmd 3 0 0) s m args below meth c H locs 0 0 Q (F0 m 0 ls []) from h9 _ _ rfl rfl
  intro H locs eH eL
  have hP : va_P (dC, dI) CL [(wo, .inr (9, [.ref wl, .ref wb, .ref we, .int (iI wz)])), (wl, .inl (kA 1, wn, .inl (aI lt))), (wb, .inl (kA 0, wk, .inl (aI sb))), (we, .inl (kA 0, wk, .inl (aI se)))] H := by rw [eH]; exact hP
  have hS : va_S A s.heap H locs := by rw [eH, eL]; exact va_S.rf
  refine lv_aload_n hx hb d_W_readText_0 rfl (lv_at hl 0 rfl) ?_
  refine lv_aload_n hx hb d_W_readText_1 rfl (lv_at hl 1 rfl) ?_
  refine gf_W_39 hx hb hts hN hown hK (li_ro hRo hRoN hS) 0 rfl rfl d_W_readText_2 ?_
  refine lv_aload_n hx hb d_W_readText_5 rfl (lv_at hl 1 rfl) ?_
  refine lv_iload_n hx hb d_W_readText_6 rfl (lv_at hl 2 rfl) ?_
  refine lv_iload_n hx hb d_W_readText_7 rfl (lv_at hl 3 rfl) ?_
  refine li_callr ((va_runV (As := [.int (iI i), .int (iI ix)]) (rest := [.ref oc, .ref wo]) ⟨hx, hb, hml, hown, hts⟩ (c_H_textStart l dC dI kA ho oc xi xs xe xl n mx fd tc t ti ts te tl i ix (by exact hH) (by exact hi) (by exact hix)) (cw_W_44 hts rfl rfl ⟨Nat.le_of_ble_eq_true rfl, Nat.le_of_ble_eq_true rfl⟩) (li_preV (va_recv hK (li_ro hRo hRoN hS) (ci := 2) (q0 := 0) rfl rfl) ((li_ro hRo hRoN hS).sub [0, 1, 2, 3, 4, 5] rfl) hK hN (hG.go hS hAN)) rfl rfl hl.1 rfl (lv_room (Nat.le_of_ble_eq_true rfl)) d_W_readText_8 ⟨(by show 0 + 0 ≤ 0; omega), (by show 0 + 0 ≤ 0; omega)⟩).run) ?_
  refine lv_aload_n hx hb d_W_readText_11 rfl (lv_at hl 1 rfl) ?_
  refine lv_iload_n hx hb d_W_readText_12 rfl (lv_at hl 2 rfl) ?_
  refine li_callr ((va_runV (As := [.int (iI i)]) (rest := [.int (iI (txSt ts te tl tc i ix)), .ref oc, .ref wo]) ⟨hx, hb, hml, hown, hts⟩ (c_H_textEnd l dC dI kA ho oc xi xs xe xl n mx fd tc t ti ts te tl i (by exact hH) (by exact hi)) (cw_W_47 hts rfl rfl ⟨Nat.le_of_ble_eq_true rfl, Nat.le_of_ble_eq_true rfl⟩) (li_preV (va_recv hK (li_ro hRo hRoN hS) (ci := 2) (q0 := 0) rfl rfl) ((li_ro hRo hRoN hS).sub [0, 1, 2, 3, 4, 5] rfl) hK hN (hG.go hS hAN)) rfl rfl hl.1 rfl (lv_room (Nat.le_of_ble_eq_true rfl)) d_W_readText_13 ⟨(by show 0 + 0 ≤ 0; omega), (by show 0 + 0 ≤ 0; omega)⟩).run) ?_
  refine lv_iconst (v := iI 0) hx hb d_W_readText_16 rfl ?_
  refine li_callw (wc := [(wo, .inr (9, [.ref wl, .ref wb, .ref we, .int (iI wz)])), (wl, .inl (kA 1, wn, .inl (aI lt))), (wb, .inl (kA 0, wk, .inl (aI sb))), (we, .inl (kA 0, wk, .inl (aI se)))]) (wr := []) (va_runV (As := [.ref oc, .int (iI (txSt ts te tl tc i ix)), .int (iI (txEn te tc i)), .int (iI 0)]) (rest := []) ⟨hx, hb, hml, hown, hts⟩ (c_W_read2 l dC dI kA H.size wo wl wb we wn wk wz lt sb se oc n t (txSt ts te tl tc i ix) (txEn te tc i) false (by exact hW) (by omega) (by exact ht) (by have a1 := txSt_r (i := i) (ix := ix) hH; have a2 := txEn_r (i := i) hH; omega) (by exact hfit)) (cw_W_51 hts rfl rfl ⟨Nat.le_of_ble_eq_true rfl, Nat.le_of_ble_eq_true rfl⟩) (li_preV (va_recv hK hP (ci := 9) (q0 := 0) rfl rfl) ⟨rfl, hP.sub [0, 1, 2, 3] rfl, (hD.sub [0, 1, 2, 3] (by decide) rfl).weaken (fun _ _ _ h => hAN _ h), ((li_ro hRo hRoN hS).sub [1] rfl), (dj_cons (dj_r (hRoN 1 _ rfl) hD [0, 1, 2, 3] rfl) dj_nil)⟩ hK hN (hG.go hS hAN)) rfl rfl hl.1 rfl (lv_room (Nat.le_of_ble_eq_true rfl)) d_W_readText_17 ⟨(by show 0 + 0 ≤ 0; omega), (by show 0 + 0 ≤ 0; omega)⟩) hP hD hS hA [0, 1, 2, 3] [] rfl rfl (by decide) (by decide) (fun u1 H locs hu1 hP hD hS _hk => ?_)
  obtain ⟨n12, f13, f24, f35⟩ := u1
  have hP : va_P (dC, dI) CL [(wo, .inr (9, [.ref wl, .ref wb, .ref we, .int (iI n12)])), (wl, .inl (kA 1, wn, .inl (aI f13))), (wb, .inl (kA 0, wk, .inl (aI f24))), (we, .inl (kA 0, wk, .inl (aI f35)))] H := hP
  have hD : va_D A [(wo, .inr (9, [.ref wl, .ref wb, .ref we, .int (iI n12)])), (wl, .inl (kA 1, wn, .inl (aI f13))), (wb, .inl (kA 0, wk, .inl (aI f24))), (we, .inl (kA 0, wk, .inl (aI f35)))] := hD
  have hp17 : WR wn wk n12 f13 f24 f35 ∧ WL (wsF t false (txSt ts te tl tc i ix) (txEn te tc i)) n12 f13 f24 f35 := hu1
  exact fin (n12, f13, f24, f35) _ _ _ _ (by show WR wn wk n12 f13 f24 f35 ∧ WL (wsF t false (txSt ts te tl tc i ix) (txEn te tc i)) n12 f13 f24 f35; exact hp17) (by first | exact hP | (subst_vars; exact hP)) (by first | exact hD | (subst_vars; exact hD)) hS d_W_readText_20

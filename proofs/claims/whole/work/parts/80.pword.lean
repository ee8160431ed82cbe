/-! WORDS: the reference's spans and the letters of the other side -/
def lwS (f : Nat → Int) (q : Int × Int) : List Int := wdN (fun k => sml (f k)) q.1.toNat (q.2 - q.1).toNat
theorem lwS_s {f : Nat → Int} {x y : Int} (h0 : 0 ≤ x) (h : x < y) : lwS f (x, y) = sml (f x.toNat) :: lwS f (x + 1, y) := by
  unfold lwS
  dsimp only
  rw [show (y - x).toNat = (y - (x + 1)).toNat + 1 by omega, wdN_s, show (x + 1).toNat = x.toNat + 1 by omega]
theorem lwS_e {f : Nat → Int} {x y : Int} (h : y ≤ x) : lwS f (x, y) = [] := by
  unfold lwS
  dsimp only
  rw [show (y - x).toNat = 0 by omega]; rfl
theorem lwS_len {f : Nat → Int} {q : Int × Int} : (lwS f q).length = (q.2 - q.1).toNat := by
  unfold lwS wdN
  rw [List.length_map, List.length_range]
theorem wdN_drop {f : Nat → Int} : ∀ (m i n : Nat), (wdN f i n).drop m = wdN f (i + m) (n - m) := by
  intro m
  induction m with
  | zero => intro i n; rfl
  | succ m ih =>
    intro i n
    cases n with
    | zero => rw [Nat.zero_sub]; rfl
    | succ n => rw [wdN_s, List.drop_succ_cons, ih, show i + 1 + m = i + (m + 1) by omega, show n + 1 - (m + 1) = n - m by omega]
theorem lwS_drop {f : Nat → Int} {k y : Int} {n : Nat} (h0 : 0 ≤ k) : (lwS f (k, y)).drop n = lwS f (k + n, y) := by
  unfold lwS
  dsimp only
  rw [wdN_drop, show (k + (n : Int)).toNat = k.toNat + n by omega, show (y - (k + (n : Int))).toNat = (y - k).toNat - n by omega]
theorem wdN_c {f g : Nat → Int} {i j n : Nat} (h : ∀ k, k < n → f (i + k) = g (j + k)) : wdN f i n = wdN g j n := by
  unfold wdN
  refine List.map_congr_left (fun k hk => ?_)
  exact h k (List.mem_range.mp hk)
theorem sml_v (ch : Int) : sml ch = ch + 32 ∧ 65 ≤ ch ∧ ch ≤ 90 ∨ sml ch = ch ∧ ¬ (65 ≤ ch ∧ ch ≤ 90) := by
  unfold sml
  split
  · left; omega
  · right; omega
theorem letF_y {ch : Int} {b : Bool} (h : isLw ch b = true) : letF ch b = sml ch ∧ sml ch ≠ 0 := by
  unfold isLw isLet at h
  unfold letF isLow isDig
  simp only [Bool.or_eq_true, Bool.and_eq_true, decide_eq_true_eq] at h ⊢
  have hs := sml_v ch
  rcases h with h | ⟨hb, h⟩
  · rw [if_pos (by omega)]; exact ⟨rfl, by omega⟩
  · rw [if_neg (by omega), if_pos ⟨hb, h⟩]; omega
theorem letF_n {ch : Int} {b : Bool} (h : isLw ch b = false) : letF ch b = 0 := by
  unfold isLw isLet at h
  unfold letF isLow isDig
  simp only [Bool.or_eq_false_iff, Bool.and_eq_false_iff, decide_eq_false_iff_not, decide_eq_true_eq] at h ⊢
  have hs := sml_v ch
  obtain ⟨h1, h2⟩ := h
  rw [if_neg (by omega), if_neg (by
    rintro ⟨hb, hc⟩
    rcases h2 with h2 | h2
    · rw [h2] at hb; exact Bool.noConfusion hb
    · exact h2 hc)]
theorem wsR_z {us : List (List Int)} {c : List Int} (hc : c ≠ []) : wsR (us, c) 0 = (us ++ [c], []) := by
  unfold wsR; rw [if_pos rfl, if_neg hc]
theorem wsR_n {us : List (List Int)} : wsR (us, []) 0 = (us, []) := by
  unfold wsR; rw [if_pos rfl, if_pos rfl]
theorem wsR_l {us : List (List Int)} {c : List Int} {ch : Int} (h : ch ≠ 0) : wsR (us, c) ch = (us, c ++ [ch]) := by
  unfold wsR; rw [if_neg h]
theorem wsR_app (us : List (List Int)) : ∀ (L : List Int) (vs : List (List Int)) (c : List Int), L.foldl wsR (us ++ vs, c) = (us ++ (L.foldl wsR (vs, c)).1, (L.foldl wsR (vs, c)).2) := by
  intro L
  induction L with
  | nil => intro vs c; rfl
  | cons a L ih =>
    intro vs c
    rw [List.foldl_cons, List.foldl_cons]
    have h : wsR (us ++ vs, c) a = (us ++ (wsR (vs, c) a).1, (wsR (vs, c) a).2) := by
      by_cases h1 : a = 0
      · subst h1
        by_cases h2 : c = []
        · subst h2; rw [wsR_n, wsR_n]
        · rw [wsR_z h2, wsR_z h2, List.append_assoc]
      · rw [wsR_l h1, wsR_l h1]
    rw [h]
    exact ih _ _
theorem wsE_cons {L : List Int} {d c : List Int} : wsE (L.foldl wsR ([d], c)) = d :: wsE (L.foldl wsR ([], c)) := by
  have h := wsR_app [d] L [] c
  rw [List.append_nil] at h
  rw [h]
  generalize L.foldl wsR ([], c) = A
  unfold wsE
  dsimp only
  split
  · rfl
  · rfl
def wsC (c : List Int) (f : Nat → Int) (b : Bool) (x y : Int) : List (List Int) := wsE ((wdN (fun k => letF (f k) b) x.toNat (y - x).toNat).foldl wsR ([], c))
theorem wsF_C {f : Nat → Int} {b : Bool} {x y : Int} : wsF f b x y = wsC [] f b x y := rfl
theorem wsC_s {c : List Int} {f : Nat → Int} {b : Bool} {x y : Int} (h0 : 0 ≤ x) (h : x < y) : wsC c f b x y = wsE ((wdN (fun k => letF (f k) b) (x + 1).toNat (y - (x + 1)).toNat).foldl wsR (wsR ([], c) (letF (f x.toNat) b))) := by
  unfold wsC
  rw [show (y - x).toNat = (y - (x + 1)).toNat + 1 by omega, wdN_s, show (x + 1).toNat = x.toNat + 1 by omega, List.foldl_cons]
theorem wsC_let {c : List Int} {f : Nat → Int} {b : Bool} {x y : Int} (h0 : 0 ≤ x) (h : x < y) (hl : isLw (f x.toNat) b = true) : wsC c f b x y = wsC (c ++ [sml (f x.toNat)]) f b (x + 1) y := by
  rw [wsC_s h0 h, (letF_y hl).1, wsR_l (letF_y hl).2]; rfl
theorem wsC_skip {f : Nat → Int} {b : Bool} {x y : Int} (h0 : 0 ≤ x) (h : x < y) (hl : isLw (f x.toNat) b = false) : wsC [] f b x y = wsC [] f b (x + 1) y := by
  rw [wsC_s h0 h, letF_n hl, wsR_n]; rfl
theorem wsC_non {c : List Int} {f : Nat → Int} {b : Bool} {x y : Int} (h0 : 0 ≤ x) (h : x < y) (hl : isLw (f x.toNat) b = false) (hc : c ≠ []) : wsC c f b x y = c :: wsC [] f b x y := by
  rw [wsC_skip h0 h hl, wsC_s h0 h, letF_n hl, wsR_z hc, List.nil_append]
  exact wsE_cons
theorem wsC_end {c : List Int} {f : Nat → Int} {b : Bool} {x y : Int} (h : y ≤ x) : wsC c f b x y = wsE ([], c) := by
  unfold wsC
  rw [show (y - x).toNat = 0 by omega]; rfl
theorem wsC_bg {f : Nat → Int} {b : Bool} {y : Int} : ∀ (k : Nat) (x : Int), 0 ≤ x → k = (y - x).toNat → wsC [] f b (bgL f b k x) y = wsC [] f b x y ∧ x ≤ bgL f b k x ∧ (bgL f b k x < y → isLw (f (bgL f b k x).toNat) b = true) ∧ (x ≤ y → bgL f b k x ≤ y) := by
  intro k
  induction k with
  | zero => intro x h0 hk; simp only [bgL]; exact ⟨trivial, by omega, by omega, by omega⟩
  | succ k ih =>
    intro x h0 hk
    simp only [bgL]
    by_cases hl : isLw (f x.toNat) b = true
    · rw [if_pos hl]; exact ⟨rfl, by omega, fun _ => hl, by omega⟩
    · rw [if_neg hl]
      obtain ⟨i1, i2, i3, i4⟩ := ih (x + 1) (by omega) (by omega)
      refine ⟨?_, by omega, i3, by omega⟩
      rw [i1, ← wsC_skip h0 (by omega) (by simpa using hl)]
theorem wsC_ed {f : Nat → Int} {b : Bool} {y : Int} : ∀ (k : Nat) (x : Int) (c : List Int), 0 ≤ x → k = (y - x).toNat → c ≠ [] → wsC c f b x y = (c ++ lwS f (x, edL f b k x)) :: wsC [] f b (edL f b k x) y ∧ x ≤ edL f b k x ∧ (x ≤ y → edL f b k x ≤ y) := by
  intro k
  induction k with
  | zero =>
    intro x c h0 hk hc
    simp only [edL]
    refine ⟨?_, by omega, by omega⟩
    rw [lwS_e (by omega), List.append_nil, wsC_end (by omega), wsC_end (by omega)]
    unfold wsE
    rw [if_neg hc, if_pos rfl]; rfl
  | succ k ih =>
    intro x c h0 hk hc
    simp only [edL]
    by_cases hl : isLw (f x.toNat) b = true
    · rw [if_pos hl]
      obtain ⟨i1, i2, i3⟩ := ih (x + 1) (c ++ [sml (f x.toNat)]) (by omega) (by omega) (by simp)
      refine ⟨?_, by omega, by omega⟩
      rw [wsC_let h0 (by omega) hl, i1, lwS_s (x := x) h0 (by omega), List.append_assoc, List.singleton_append]
    · rw [if_neg hl]
      refine ⟨?_, by omega, by omega⟩
      rw [lwS_e (by omega), List.append_nil, wsC_non h0 (by omega) (by simpa using hl) hc]
theorem edM_s {f : Nat → Int} {b : Bool} {x y : Int} (h : x < y) (hl : isLw (f x.toNat) b = true) : edM f b x y = edL f b (y - (x + 1)).toNat (x + 1) := by
  unfold edM
  rw [show (y - x).toNat = (y - (x + 1)).toNat + 1 by omega]
  simp only [edL]
  rw [if_pos hl]
theorem ws_cons {f : Nat → Int} {b : Bool} {x y : Int} (h0 : 0 ≤ x) (h : x < y) (hl : isLw (f x.toNat) b = true) : wsC [] f b x y = lwS f (x, edM f b x y) :: wsC [] f b (bgM f b (edM f b x y) y) y ∧ x < edM f b x y ∧ edM f b x y ≤ y ∧ edM f b x y ≤ bgM f b (edM f b x y) y ∧ bgM f b (edM f b x y) y ≤ y ∧ (bgM f b (edM f b x y) y < y → isLw (f (bgM f b (edM f b x y) y).toNat) b = true) := by
  have e1 := edM_s (f := f) (b := b) (x := x) (y := y) h hl
  obtain ⟨i1, i2, i3⟩ := wsC_ed (f := f) (b := b) (y := y) (y - (x + 1)).toNat (x + 1) ([] ++ [sml (f x.toNat)]) (by omega) rfl (by simp)
  rw [← e1] at i1 i2 i3
  obtain ⟨j1, j2, j3, j4⟩ := wsC_bg (f := f) (b := b) (y := y) (y - edM f b x y).toNat (edM f b x y) (by omega) rfl
  rw [show bgL f b (y - edM f b x y).toNat (edM f b x y) = bgM f b (edM f b x y) y from rfl] at j1 j2 j3 j4
  refine ⟨?_, by omega, i3 (by omega), j2, j4 (i3 (by omega)), j3⟩
  rw [wsC_let h0 h hl, i1, j1, lwS_s (x := x) h0 (by omega), List.nil_append, List.singleton_append]
theorem spT_C {f : Nat → Int} {b : Bool} {y : Int} : ∀ (k : Nat) (x : Int), 0 ≤ x → (x < y → isLw (f x.toNat) b = true) → (y - x).toNat < k → (spT f b y k x).map (lwS f) = wsC [] f b x y := by
  intro k
  induction k with
  | zero => intro x _ _ h; omega
  | succ k ih =>
    intro x h0 hl hk
    simp only [spT]
    by_cases h1 : y ≤ x
    · rw [if_pos h1, wsC_end h1]; rfl
    · obtain ⟨w1, w2, w3, w4, w5, w6⟩ := ws_cons h0 (show x < y by omega) (hl (by omega))
      rw [if_neg h1, List.map_cons, ih _ (by omega) w6 (by omega), w1]
theorem spW_F {f : Nat → Int} {b : Bool} {x y : Int} (h0 : 0 ≤ x) (h : y - x ≤ 900) : (spW f b x y).map (lwS f) = wsF f b x y := by
  obtain ⟨j1, j2, j3, j4⟩ := wsC_bg (f := f) (b := b) (y := y) (y - x).toNat x h0 rfl
  unfold spW
  rw [spT_C 1000 (bgM f b x y) (by unfold bgM; omega) j3 (by unfold bgM; omega), wsF_C]
  exact j1
theorem wsF_c {f g : Nat → Int} {b : Bool} {x y x2 y2 : Int} (hd : y - x = y2 - x2) (h : ∀ k : Nat, (k : Int) < y - x → f (x.toNat + k) = g (x2.toNat + k)) : wsF f b x y = wsF g b x2 y2 := by
  unfold wsF
  have e : ltL f b x (y - x).toNat = ltL g b x2 (y2 - x2).toNat := by
    rw [← hd]
    show wdN (fun k => letF (f k) b) x.toNat (y - x).toNat = wdN (fun k => letF (g k) b) x2.toNat (y - x).toNat
    refine wdN_c (fun k hk => ?_)
    show letF (f (x.toNat + k)) b = letF (g (x2.toNat + k)) b
    rw [h k (by omega)]
  rw [e]
theorem cmM_W {f : Nat → Int} {x xe y ye : Int} (h : x ≤ xe) (h2 : y ≤ ye) : cmM f x xe y ye = cmpW (lwS f (x, xe)) (lwS f (y, ye)) := by
  unfold cmM
  rw [cmpL_G (min (xe - x) (ye - y)).toNat 0 (xe - x).toNat (ye - y).toNat (by omega)]
  unfold cmpW
  rw [lwS_len, lwS_len]
  dsimp only
  rw [show (((xe - x).toNat : Nat) : Int) = xe - x by omega, show (((ye - y).toNat : Nat) : Int) = ye - y by omega]
  unfold wdN lwS wdN
  congr 1 <;> (refine List.map_congr_left (fun k _ => ?_); simp only [Nat.zero_add])
theorem cmpG_0 : ∀ (a b : List Int) (d : Int), d = (a.length : Int) - b.length → (cmpG d a b = 0 ↔ a = b) := by
  intro a
  induction a with
  | nil =>
    intro b d hd
    cases b with
    | nil => simp only [cmpG, List.length_nil] at *; simp; omega
    | cons y ys => simp only [cmpG, List.length_nil, List.length_cons] at *; constructor; (intro h; omega); (intro h; cases h)
  | cons x xs ih =>
    intro b d hd
    cases b with
    | nil => simp only [cmpG, List.length_nil, List.length_cons] at *; constructor; (intro h; omega); (intro h; cases h)
    | cons y ys =>
      simp only [cmpG, List.length_cons] at *
      by_cases h : x = y
      · rw [if_pos h, ih ys d (by omega), h]; simp
      · rw [if_neg h]; constructor; (intro h2; omega); (intro h2; exact absurd (List.cons.inj h2).1 h)
theorem cmpW_0 {a b : List Int} : cmpW a b = 0 ↔ a = b := cmpG_0 a b _ rfl

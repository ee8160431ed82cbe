theorem htM_g {ca le : Nat → Int} {hd : Nat → Option HD} (h : SR ca le hd) (hH : ∀ (r : Nat) (d : HD), hd r = some d → HDok d ∧ HDt d) {ix k : Int} {xn xk : Nat} {ws : List (Int × Int)} (e1 : ws.map (lwS ca) = (rbM hd ix xn xk).ws) (hl : LB ws 0 4000) : htM ca le ix ws k = if 0 ≤ k ∧ k < (rbM hd ix xn xk).ws.length then bcF ((rbM hd ix xn xk).hs.getD k.toNat 0) else 0 := by
  obtain ⟨⟨s1, s2, s3, s4, s5⟩, _⟩ := rbM_m (ix := ix) (xn := xn) (xk := xk) (fun r d q => (hH r d q).2)
  have e2 : ws.length = (rbM hd ix xn xk).ws.length := by rw [← e1, List.length_map]
  unfold htM
  rw [← e2]
  by_cases c : 0 ≤ k ∧ k < ws.length
  · rw [if_pos c, if_pos c, s4 k.toNat (by omega), ← e1, map_gd (by omega), bc_cn]
    exact htL_c h (hl _ (gd_mem (by omega))).2.1 10 0 0 (by omega) (by omega)
  · rw [if_neg c, if_neg c]
theorem wdM_g {ca : Nat → Int} {hd : Nat → Option HD} {ix k i : Int} {xn xk : Nat} {ws : List (Int × Int)} (e1 : ws.map (lwS ca) = (rbM hd ix xn xk).ws) (hl : LB ws 0 4000) : wdM ca ws k i = if (0 ≤ k ∧ k < (rbM hd ix xn xk).ws.length) ∧ 0 ≤ i ∧ i < ((rbM hd ix xn xk).ws.getD k.toNat []).length then ((rbM hd ix xn xk).ws.getD k.toNat []).getD i.toNat 0 else 32 := by
  have e2 : ws.length = (rbM hd ix xn xk).ws.length := by rw [← e1, List.length_map]
  unfold wdM
  rw [← e2]
  by_cases c : 0 ≤ k ∧ k < ws.length
  · have hq := hl _ (gd_mem (z := (0, 0)) (show k.toNat < ws.length by omega))
    rw [← e1, map_gd (by omega), lwS_len]
    generalize ws.getD k.toNat (0, 0) = q at *
    by_cases c2 : 0 ≤ i ∧ i < q.2 - q.1
    · rw [if_pos ⟨c, c2⟩, if_pos ⟨c, by omega⟩]
      unfold lwS wdN
      rw [List.getD_eq_getElem?_getD, List.getElem?_map, List.getElem?_range (by omega)]
      show sml (ca (q.1 + i).toNat) = sml (ca (q.1.toNat + i.toNat))
      rw [show (q.1 + i).toNat = q.1.toNat + i.toNat by omega]
    · rw [if_neg (fun z => c2 z.2), if_neg (fun z => c2 (by omega))]
  · rw [if_neg (fun z => c z.1), if_neg (fun z => c z.1)]
theorem blM_g {ca : Nat → Int} {hd : Nat → Option HD} {ix ls : Int} (hls : 0 ≤ ls ∧ ls ≤ 100) {xn xk : Nat} {ws : List (Int × Int)} (e1 : ws.map (lwS ca) = (rbM hd ix xn xk).ws) (hl : LB ws 0 4000) (hn : (ws.length : Int) ≤ 2100) : blM ca ls ws = if (wsF ca false 4000 (4000 + ls)).length = 0 then ((rbM hd ix xn xk).ws.length : Int) else plW (rbM hd ix xn xk).ws ((wsF ca false 4000 (4000 + ls)).getD 0 []) := by
  have e2 : ws.length = (rbM hd ix xn xk).ws.length := by rw [← e1, List.length_map]
  obtain ⟨j1, j2, j3, j4⟩ := wsC_bg (f := ca) (b := false) (y := 4000 + ls) (4000 + ls - 4000).toNat 4000 (by omega) rfl
  rw [show bgL ca false (4000 + ls - 4000).toNat 4000 = bgM ca false 4000 (4000 + ls) from rfl] at j1 j2 j3 j4
  unfold blM
  rw [wsF_C, ← j1]
  generalize bgM ca false 4000 (4000 + ls) = x at *
  by_cases c : x = 4000 + ls
  · rw [if_pos c, wsC_end (by omega), if_pos (show (wsE ([], [])).length = 0 from rfl), e2]
  · obtain ⟨w1, w2, w3, w4, w5, w6⟩ := ws_cons (f := ca) (b := false) (x := x) (y := 4000 + ls) (by omega) (by omega) (j3 (by omega))
    have hp := plM_W (ca := ca) (ws := ws) (q := (x, edM ca false x (4000 + ls))) hl (by dsimp only; omega) (by omega)
    dsimp only at hp
    rw [if_neg c, w1, if_neg (by simp), hp, e1]
    rfl
/-! the list of the words, both sides -/
theorem words_g {ca : Nat → Int} {hd : Nat → Option HD} {ix xc xz : Int} {lx bx ex hx : Nat → Int} (hX : LXo hd ix xc xz lx bx ex hx) {ws : List (Int × Int)} (e1 : ws.map (lwS ca) = (rbM hd ix 256 32).ws) : xz = (ws.length : Int) := by
  have h := hX.1.len
  rw [← e1, List.length_map] at h
  exact h.symm
theorem word_g {ca : Nat → Int} {hd : Nat → Option HD} {ix xc xz k i : Int} {xn xk : Nat} {lx bx ex hx : Nat → Int} (hL : LR xn xk xc xz lx bx ex hx) (hX : LXo hd ix xc xz lx bx ex hx) {ws : List (Int × Int)} (e1 : ws.map (lwS ca) = (rbM hd ix 256 32).ws) (hl : LB ws 0 4000) : chK xz lx bx ex k i = wdM ca ws k i := by
  rw [chK_e hL, chF_w hX, wdM_g e1 hl]
theorem hits_g {ca le : Nat → Int} {hd : Nat → Option HD} (h : SR ca le hd) (hH : ∀ (r : Nat) (d : HD), hd r = some d → HDok d ∧ HDt d) {ix xc xz k : Int} {lx bx ex hx : Nat → Int} (hX : LXo hd ix xc xz lx bx ex hx) {ws : List (Int × Int)} (e1 : ws.map (lwS ca) = (rbM hd ix 256 32).ws) (hlb : LB ws 0 4000) : (if 0 ≤ k ∧ k < xz then bcF (hx k.toNat) else 0) = htM ca le ix ws k := by
  have hl := hX.1.len
  rw [htM_g h hH e1 hlb]
  by_cases hk : 0 ≤ k ∧ k < xz
  · have hj : k.toNat < (rbM hd ix 256 32).hs.length := by rw [hX.2.1]; omega
    rw [if_pos hk, if_pos (by omega), hX.2.2.1 k.toNat hj, gD_e hj]
  · rw [if_neg hk, if_neg (by omega)]
theorem below_g {ca ul : Nat → Int} {hd : Nat → Option HD} {ls : Int} (hLN : LNf ca ul ls) {ix xc xz n1 : Int} {xn xk wn wk : Nat} {lx bx ex hx g1 g2 g3 : Nat → Int} (hL : LR xn xk xc xz lx bx ex hx) (hX : LXo hd ix xc xz lx bx ex hx) (hW : WR wn wk n1 g1 g2 g3) (hw : WL (wsF ul false 0 ls) n1 g1 g2 g3) {ws : List (Int × Int)} (e1 : ws.map (lwS ca) = (rbM hd ix 256 32).ws) (hlb : LB ws 0 4000) (hn : (ws.length : Int) ≤ 2100) : (if n1 = 0 then xz else bsL (lwF xn lx bx ex wn g1 g2 g3 0) 32 0 xz) = blM ca ls ws := by
  have hl := hX.1.len
  have hl2 := hw.len
  obtain ⟨hls, hle⟩ := hLN
  have e : wsF ul false 0 ls = wsF ca false 4000 (4000 + ls) := wsF_c (by omega) (fun k hk => by
    have := hle (k : Int) (by omega) (by omega)
    rw [show (0 : Int).toNat + k = (k : Int).toNat by omega, ← this]
    congr 1 <;> omega)
  rw [blM_g hls e1 hlb hn, ← e]
  by_cases h0 : n1 = 0
  · rw [if_pos h0, if_pos (by omega)]; exact hl.symm
  · have hp : 0 < n1 := by have := hW.2.2.1; omega
    rw [if_neg h0, if_neg (by omega)]
    exact plW_e hL hX hW hw (i := 0) ⟨by omega, hp⟩
/-! a list's words where the bytes of the records are the same -/
theorem lwS_c {ca ca2 : Nat → Int} (h : ∀ j : Nat, j < 4000 → ca2 j = ca j) {q : Int × Int} (h1 : 0 ≤ q.1) (h2 : q.2 ≤ 4000) : lwS ca2 q = lwS ca q := by
  unfold lwS wdN
  refine List.map_congr_left (fun k hk => ?_)
  have := List.mem_range.mp hk
  dsimp only
  rw [h _ (by omega)]
theorem lwS_m {ca ca2 : Nat → Int} (h : ∀ j : Nat, j < 4000 → ca2 j = ca j) {ws : List (Int × Int)} (hl : LB ws 0 4000) : ws.map (lwS ca2) = ws.map (lwS ca) := by
  refine List.map_congr_left (fun q hq => ?_)
  have := hl q hq
  exact lwS_c h this.1 this.2.2
/-! the found ones are on the shelf -/
def FPr (le : Nat → Int) (fm : Int) (cf : Nat → Int) : Prop := ∀ j : Nat, (j : Int) < fm → PRs le (cf j)
theorem kfL_id {rec : Int} {f : Nat → Int} : ∀ (j : Nat) (k : Int), 0 ≤ k → (∀ q : Nat, k ≤ q → (q : Int) < k + j → f q ≠ rec) → kfL rec j k (k, f) = (k + j, f) := by
  intro j
  induction j with
  | zero => intro k _ _; simp only [kfL]; exact Prod.ext (by show k = k + ((0 : Nat) : Int); omega) rfl
  | succ j ih =>
    intro k h0 h
    simp only [kfL]
    rw [if_neg (h k.toNat (by omega) (by omega))]
    have e : va_up f k.toNat (f k.toNat) = f := by
      funext q
      unfold va_up
      by_cases z : q = k.toNat
      · rw [if_pos z, z]
      · rw [if_neg z]
    rw [e, ih (k + 1) (by omega) (fun q a b => h q (by omega) (by omega))]
    exact Prod.ext (by show k + 1 + (j : Int) = k + ((j + 1 : Nat) : Int); omega) rfl
theorem kf_id {r fm : Int} {cf : Nat → Int} (h0 : 0 ≤ fm) (h : ∀ q : Nat, (q : Int) < fm → cf q ≠ r) : kfM r fm cf = (fm, cf) := by
  unfold kfM
  rw [kfL_id fm.toNat 0 (by omega) (fun q _ b => h q (by omega))]
  exact Prod.ext (by show (0 : Int) + (fm.toNat : Int) = fm; omega) rfl
theorem kfL_P {rec : Int} {Pv : Int → Prop} : ∀ (j : Nat) (k : Int) (u : Int × (Nat → Int)), 0 ≤ u.1 → u.1 ≤ k → (∀ q : Nat, (q : Int) < u.1 → Pv (u.2 q)) → (∀ q : Nat, k ≤ q → (q : Int) < k + j → u.2 q ≠ rec → Pv (u.2 q)) → ∀ q : Nat, (q : Int) < (kfL rec j k u).1 → Pv ((kfL rec j k u).2 q) := by
  intro j
  induction j with
  | zero => intro k u h0 hk h1 h2; exact h1
  | succ j ih =>
    intro k u h0 hk h1 h2
    simp only [kfL]
    by_cases e : u.2 k.toNat = rec
    · rw [if_pos e]
      exact ih (k + 1) u h0 (by omega) h1 (fun q a b c => h2 q (by omega) (by omega) c)
    · rw [if_neg e]
      refine ih (k + 1) _ (by dsimp only; omega) (by dsimp only; omega) (fun q hq => ?_) (fun q a b c => ?_)
      · dsimp only at hq ⊢
        unfold va_up
        by_cases z : q = u.1.toNat
        · rw [if_pos z]; exact h2 k.toNat (by omega) (by omega) e
        · rw [if_neg z]; exact h1 q (by omega)
      · dsimp only at c ⊢
        unfold va_up at c ⊢
        rw [if_neg (by omega)] at c ⊢
        exact h2 q (by omega) (by omega) c
theorem fp_drop {le : Nat → Int} {r fm n9 : Int} {cf f9 : Nat → Int} (h : FPr le fm cf) (h0 : 0 ≤ fm) (hr : 0 ≤ r ∧ r ≤ 9) (h9 : (n9, f9) = kfM r fm cf) : FPr (va_up le r.toNat 0) n9 f9 := by
  have := kfL_P (rec := r) (Pv := PRs (va_up le r.toNat 0)) fm.toNat 0 (0, cf) (by dsimp only; omega) (by dsimp only; omega) (fun q hq => by dsimp only at hq; omega) (fun q _ b c => by
    dsimp only at c ⊢
    obtain ⟨p1, p2, p3⟩ := h q (by omega)
    refine ⟨p1, p2, ?_⟩
    rw [vu_n (by omega)]
    exact p3)
  unfold kfM at h9
  rw [← h9] at this
  exact this
theorem fp_none {le : Nat → Int} {r fm : Int} {cf : Nat → Int} (h : FPr le fm cf) (h0 : 0 ≤ fm) (hl : le r.toNat = 0) : kfM r fm cf = (fm, cf) := by
  refine kf_id h0 (fun q hq e => ?_)
  have := (h q hq).2.2
  rw [e] at this
  omega
theorem fp_load {le : Nat → Int} {v fm z : Int} {cf : Nat → Int} (h : FPr le fm cf) (hl : le v.toNat = 0) : FPr (va_up le v.toNat z) fm cf := by
  intro j hj
  obtain ⟨p1, p2, p3⟩ := h j hj
  refine ⟨p1, p2, ?_⟩
  rw [vu_n (by intro q; rw [q] at p3; omega)]
  exact p3
theorem up400 {le : Nat → Int} {k : Nat} {v : Int} (h : ∀ j, 0 ≤ le j ∧ le j ≤ 400) (hv : 0 ≤ v ∧ v ≤ 400) : ∀ j, 0 ≤ va_up le k v j ∧ va_up le k v j ≤ 400 := by
  intro j
  unfold va_up
  split
  · exact hv
  · exact h j
theorem RLN.ln {ca ul : Nat → Int} {n : Int} (h : RLN ca ul n) (hn : 0 ≤ n ∧ n ≤ 100) : LNf ca ul n := ⟨hn, fun j j0 j1 => by
  rw [h j.toNat (by omega)]
  congr 1
  omega⟩
theorem RLN.c {ca ca2 ul : Nat → Int} {n : Int} (h : RLN ca ul n) (h2 : ∀ j : Nat, (j : Int) < 4000 + n → ca2 j = ca j) : RLN ca2 ul n := fun j hj => by
  rw [h2 (4000 + j) (by omega)]; exact h j hj
theorem KR.ln {lc lc2 : Nat → Int} {kn kn2 kz : Int} {gk gs ge : Nat → Int} (h : KR 100 lc kn kz gk gs ge) (h1 : 0 ≤ kn2 ∧ kn2 ≤ 100) (h2 : C2 lc2) : KR 100 lc2 kn2 kz gk gs ge := ⟨h.1, ⟨h1.1, h1.2⟩, h.2.2.1, h2, h.2.2.2.2⟩
theorem ldV_k {hd : Nat → Option HD} {ub : Nat → Int} {u : In6} (h : -10 ≤ u.1 ∧ u.1 ≤ 0) : -10 ≤ (ldV hd ub u).1 ∧ (ldV hd ub u).1 ≤ 0 := by
  unfold ldV
  (repeat' split) <;> dsimp only <;> omega
/-- a lexicon's row in the state -/
def LXI (hd : Nat → Option HD) (k : Nat) (xn xk : Nat) (xc xz : Int) (xs : Bool) (lx bx ex hx : Nat → Int) : Prop := LR xn xk xc xz lx bx ex hx ∧ (32 ≤ xk ∧ xk ≤ 4000 ∧ 256 ≤ xn ∧ xn ≤ 9500) ∧ (xs = false → LXo hd (k : Int) xc xz lx bx ex hx)
theorem LXI.st {hd hd2 : Nat → Option HD} {k xn xk : Nat} {xc xz : Int} {xs : Bool} {lx bx ex hx : Nat → Int} (h : LXI hd k xn xk xc xz xs lx bx ex hx) : LXI hd2 k xn xk xc xz true lx bx ex hx := ⟨h.1, h.2.1, fun q => by cases q⟩
theorem rb_none {ix : Int} : (rbM (fun _ => none) ix 256 32).ws = [] ∧ (rbM (fun _ => none) ix 256 32).hs = [] := ⟨rfl, rfl⟩
theorem LXI.new {k : Nat} : LXI (fun _ => none) k 256 32 0 0 false (fun _ => 0) (fun _ => 0) (fun _ => 0) (fun _ => 0) := by
  refine ⟨⟨by omega, by omega, by omega, by omega, fun j => by show (0 : Int) ≤ 0 ∧ (0 : Int) < 256; omega, fun j => by show (0 : Int) ≤ 0 ∧ (0 : Int) ≤ ((256 : Nat) : Int); omega, fun j => by show (0 : Int) ≤ 0 ∧ (0 : Int) ≤ ((256 : Nat) : Int); omega, fun j => by show (0 : Int) ≤ 0 ∧ (0 : Int) < 1024; omega⟩, by omega, fun _ => ?_⟩
  unfold LXo
  rw [rb_none.1, rb_none.2]
  refine ⟨?_, rfl, fun j h => absurd h (Nat.not_lt_zero _), fun j h => by omega⟩
  exact ⟨rfl, fun j h => absurd h (Nat.not_lt_zero _)⟩

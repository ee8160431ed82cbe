theorem gD_e {α : Type} {l : List α} {j : Nat} {d : α} (h : j < l.length) : l.getD j d = l[j] := by
  rw [List.getD_eq_getElem?_getD, List.getElem?_eq_getElem h]; rfl
theorem rb_ws {hd : Nat → Option HD} (hH : ∀ (r : Nat) (d : HD), hd r = some d → HDt d) {ix : Int} {xn xk xn2 xk2 : Nat} : (rbM hd ix xn xk).ws = (rbM hd ix xn2 xk2).ws := by
  rw [(rbM_m hH (ix := ix) (xn := xn) (xk := xk)).2, (rbM_m hH (ix := ix) (xn := xn2) (xk := xk2)).2]
theorem rb_hs {hd : Nat → Option HD} (hH : ∀ (r : Nat) (d : HD), hd r = some d → HDt d) {ix : Int} {xn xk xn2 xk2 : Nat} : (rbM hd ix xn xk).hs = (rbM hd ix xn2 xk2).hs := by
  obtain ⟨h1, e1⟩ := rbM_m hH (ix := ix) (xn := xn) (xk := xk)
  obtain ⟨h2, e2⟩ := rbM_m hH (ix := ix) (xn := xn2) (xk := xk2)
  obtain ⟨_, l1, _, g1, _⟩ := h1
  obtain ⟨_, l2, _, g2, _⟩ := h2
  rw [e1] at l1 g1
  rw [e2] at l2 g2
  apply List.ext_getElem (by rw [l1, l2])
  intro j hj hj2
  have a := g1 j (by omega)
  have b := g2 j (by omega)
  rw [gD_e hj] at a
  rw [gD_e hj2] at b
  rw [a, b]
/-- a lexicon's contents are right for the records hd -/
def LXo (hd : Nat → Option HD) (ix xc xz : Int) (lx bx ex hx : Nat → Int) : Prop := LX (rbM hd ix 256 32).ws (rbM hd ix 256 32).hs xc xz lx bx ex hx
theorem lx_after {hd : Nat → Option HD} (hH : ∀ (r : Nat) (d : HD), hd r = some d → HDok d ∧ HDt d) {ix : Int} {xn xk n9 k9 : Nat} {xc xz c9 z9 : Int} {xs : Bool} {lx bx ex hx f1 f2 f3 f4 : Nat → Int} (hL : LR xn xk xc xz lx bx ex hx) (hc : 32 ≤ xk ∧ xk ≤ 4000 ∧ 256 ≤ xn ∧ xn ≤ 9500) (hi : xs = false → LXo hd ix xc xz lx bx ex hx)
    (h : ((xs = false ∧ n9 = xn ∧ k9 = xk ∧ c9 = xc ∧ z9 = xz ∧ f1 = lx ∧ f2 = bx ∧ f3 = ex ∧ f4 = hx) ∨ (xs = true ∧ LR n9 k9 c9 z9 f1 f2 f3 f4 ∧ LX (rbM hd ix xn xk).ws (rbM hd ix xn xk).hs c9 z9 f1 f2 f3 f4 ∧ (rbM hd ix xn xk).xn = n9 ∧ (rbM hd ix xn xk).xk = k9 ∧ xk ≤ k9 ∧ k9 ≤ 4000 ∧ xn ≤ n9 ∧ n9 ≤ 9500))) :
    LXo hd ix c9 z9 f1 f2 f3 f4 ∧ LR n9 k9 c9 z9 f1 f2 f3 f4 ∧ (32 ≤ k9 ∧ k9 ≤ 4000 ∧ 256 ≤ n9 ∧ n9 ≤ 9500) ∧ xk ≤ k9 ∧ xn ≤ n9 ∧ n9 = xn + (if xs = true then (rbM hd ix xn xk).xn - xn else 0) ∧ k9 = xk + (if xs = true then (rbM hd ix xn xk).xk - xk else 0) := by
  rcases h with ⟨e0, e1, e2, e3, e4, e5, e6, e7, e8⟩ | ⟨e0, h1, h2, h3, h4, h5, h6, h7, h8⟩
  · subst e1; subst e2; subst e3; subst e4; subst e5; subst e6; subst e7; subst e8
    refine ⟨hi e0, hL, hc, Nat.le_refl _, Nat.le_refl _, ?_, ?_⟩ <;> (rw [if_neg (by rw [e0]; decide)]; rfl)
  · unfold LXo
    rw [rb_ws (fun r d q => (hH r d q).2) (xn := 256) (xk := 32) (xn2 := xn) (xk2 := xk), rb_hs (fun r d q => (hH r d q).2) (xn := 256) (xk := 32) (xn2 := xn) (xk2 := xk)]
    refine ⟨h2, h1, by omega, h5, h7, ?_, ?_⟩ <;> (rw [if_pos e0]; omega)
theorem chF_w {ws : List (List Int)} {hs : List Int} {xc xz : Int} {lx bx ex hx : Nat → Int} (hX : LX ws hs xc xz lx bx ex hx) {k i : Int} : chF xz lx bx ex k i = if (0 ≤ k ∧ k < ws.length) ∧ 0 ≤ i ∧ i < (ws.getD k.toNat []).length then (ws.getD k.toNat []).getD i.toNat 0 else 32 := by
  unfold chF
  have hl := hX.1.len
  by_cases hk : 0 ≤ k ∧ k < xz
  · obtain ⟨e1, e2, e3⟩ := hX.1.get hk.1 hk.2
    rw [← e1, wdL_len]
    by_cases hi : 0 ≤ i ∧ i < ex k.toNat - bx k.toNat
    · rw [if_pos ⟨hk.1, hk.2, hi.1, hi.2⟩, if_pos ⟨⟨hk.1, by omega⟩, hi.1, by omega⟩, wdL_get (by omega)]
      congr 1
      omega
    · rw [if_neg (by omega), if_neg (by omega)]
  · rw [if_neg (by omega), if_neg (by omega)]
theorem words_both {ca le : Nat → Int} {hd : Nat → Option HD} (h : SR ca le hd) (hH : ∀ (r : Nat) (d : HD), hd r = some d → HDok d ∧ HDt d) {ix xc xz : Int} {lx bx ex hx : Nat → Int} (hX : LXo hd ix xc xz lx bx ex hx) : xz = ((lsM ca le ix).length : Int) := by
  rw [(ls_ws h hH (ix := ix) (xn := 256) (xk := 32)).2]
  exact hX.1.len.symm
theorem word_both {ca le : Nat → Int} {hd : Nat → Option HD} (h : SR ca le hd) (hH : ∀ (r : Nat) (d : HD), hd r = some d → HDok d ∧ HDt d) {ix xc xz k i : Int} {xn xk : Nat} {lx bx ex hx : Nat → Int} (hL : LR xn xk xc xz lx bx ex hx) (hX : LXo hd ix xc xz lx bx ex hx) : chK xz lx bx ex k i = wdM ca (lsM ca le ix) k i := by
  rw [chK_e hL, chF_w hX, wdM_w h hH (xn := 256) (xk := 32)]
theorem hits_both {ca le : Nat → Int} {hd : Nat → Option HD} (h : SR ca le hd) (hH : ∀ (r : Nat) (d : HD), hd r = some d → HDok d ∧ HDt d) {ix xc xz k : Int} {lx bx ex hx : Nat → Int} (hX : LXo hd ix xc xz lx bx ex hx) : (if 0 ≤ k ∧ k < xz then bcF (hx k.toNat) else 0) = htM ca le ix (lsM ca le ix) k := by
  have hl := hX.1.len
  rw [htM_w h hH (xn := 256) (xk := 32)]
  by_cases hk : 0 ≤ k ∧ k < xz
  · have hj : k.toNat < (rbM hd ix 256 32).hs.length := by rw [hX.2.1]; omega
    rw [if_pos hk, if_pos (by omega), hX.2.2.1 k.toNat hj, gD_e hj]
  · rw [if_neg hk, if_neg (by omega)]
theorem below_both {ca le ul : Nat → Int} {hd : Nat → Option HD} (h : SR ca le hd) (hH : ∀ (r : Nat) (d : HD), hd r = some d → HDok d ∧ HDt d) {ls : Int} (hLN : LNf ca ul ls) {ix xc xz n1 : Int} {xn xk wn wk : Nat} {lx bx ex hx g1 g2 g3 : Nat → Int} (hL : LR xn xk xc xz lx bx ex hx) (hX : LXo hd ix xc xz lx bx ex hx) (hW : WR wn wk n1 g1 g2 g3) (hw : WL (wsF ul false 0 ls) n1 g1 g2 g3) : (if n1 = 0 then xz else bsL (lwF xn lx bx ex wn g1 g2 g3 0) 32 0 xz) = blM ca ls (lsM ca le ix) := by
  have hl := hX.1.len
  have hl2 := hw.len
  obtain ⟨hls, hle⟩ := hLN
  have e : wsF ul false 0 ls = wsF ca false 4000 (4000 + ls) := wsF_c (by omega) (fun k hk => by
    have := hle (k : Int) (by omega) (by omega)
    rw [show (0 : Int).toNat + k = (k : Int).toNat by omega, ← this]
    congr 1 <;> omega)
  rw [blM_w h hH hls (xn := 256) (xk := 32), ← e]
  by_cases h0 : n1 = 0
  · rw [if_pos h0, if_pos (by omega)]; exact hl.symm
  · have hp : 0 < n1 := by have := hW.2.2.1; omega
    rw [if_neg h0, if_neg (by omega)]
    exact plW_e hL hX hW hw (i := 0) ⟨by omega, hp⟩

abbrev CEt : Type := Int × Int × Int × Int × Int
def clE (g : CEt) : va_E := .inr (1, [.int (iI g.1), .int (iI g.2.1), .int (iI g.2.2.1), .int (iI g.2.2.2.1), .int (iI g.2.2.2.2)])
def clW (cl : Nat → Nat) (g : Nat → CEt) : va_W := (List.range 50).map (fun k => (cl k, clE (g k)))
theorem clW_get {X : va_W} {cl : Nat → Nat} {g : Nat → CEt} {k : Nat} (h : k < 50) : (X ++ clW cl g)[X.length + k]? = some (cl k, clE (g k)) := by
  rw [List.getElem?_append_right (Nat.le_add_right _ _), Nat.add_sub_cancel_left]
  unfold clW
  rw [List.getElem?_map, List.getElem?_range h]; rfl
theorem clW_set {X : va_W} {cl : Nat → Nat} {g : Nat → CEt} {k : Nat} {v : CEt} (h : k < 50) : (X ++ clW cl g).set (X.length + k) (cl k, clE v) = X ++ clW cl (va_up g k v) := by
  rw [List.set_append, if_neg (by omega), Nat.add_sub_cancel_left]
  congr 1
  apply List.ext_getElem?
  intro j
  unfold clW
  rw [List.getElem?_set, List.getElem?_map, List.getElem?_map]
  by_cases q : k = j
  · subst q
    rw [if_pos rfl]
    simp [h, va_up]
  · rw [if_neg q]
    by_cases hj : j < 50
    · rw [List.getElem?_range hj]; simp [va_up, Ne.symm q]
    · rw [List.getElem?_eq_none (by simp; omega)]; rfl
section LIP
variable {p : Program} {l : Launch} {e : Env} {R : Room} {s : State} {m : MethodId} {args : Array Value} {below : List Frame} {meth : Method} {c : Code} {H : Heap} {locs : List Loc} {cells slots : Nat} {Q : State → Prop}
variable {pc : Nat} {ls : Array Slot} {rest st0 : List Value} {a : Array Value} {A0 : Nat → Prop} {H0 : Heap} {mc ms : Nat} {D : va_G} {cl : List vw_C}
theorem li_callP {S : Type} {post : S → Prop} {r : S → Option Value} {rx pl1 : S → va_W} {X cx wr pl : va_W} (hr : va_Run p l e R s m args below meth c H locs cells slots mc ms (F0 m pc ls st0) rest (li_Qw D cl post r (fun u => rx u ++ pl1 u) (va_A (cx ++ pl) H.size) a) (va_A (cx ++ pl) H.size))
    (hP : va_P D cl (X ++ pl) H) (hD : va_D A0 (X ++ pl)) (hS : va_S A0 H0 H locs) (hA : ∀ q, H0.size ≤ q → A0 q) (isC isR : List Nat) (hC : isC.map (fun i => X[i]?) = cx.map some) (hR : isR.map (fun i => X[i]?) = wr.map some) (hn : va_nd isR = true) (hdis : ∀ i ∈ isR, i ∉ isC)
    (kk : ∀ (u : S) (H1 : Heap) (locs1 : List Loc), post u → va_P D cl ((wr ++ rx u) ++ pl1 u) H1 → va_D A0 ((wr ++ rx u) ++ pl1 u) → va_S A0 H0 H1 locs1 → W p l e R s m args below meth c H1 locs1 (cells + mc) (slots + ms) Q (F0 m (pc + 3) ls ((r u).toList ++ rest))) : W p l e R s m args below meth c H locs cells slots Q (F0 m pc ls st0) := by
  intro T hT X9
  have hF := va_freeP hD hS hA isC hC
  obtain ⟨v, st₀, t, T', L, h0, X', hL, e1, e2, ⟨u, hv, hp, hP1, hD1, hz, hk⟩, st⟩ := hr T hT X9
  cases hv
  rw [h0] at hz hk
  have hP1' : va_P D cl (rx u ++ pl1 u) T'.heap := by rw [e1]; exact hP1
  have hk' : ∀ q : Nat, q < H.size → ¬ va_A (cx ++ pl) H.size q → T'.heap[q]? = H[q]? := fun q h1 h2 => by rw [e1]; exact hk q h1 h2
  obtain ⟨jP, jD⟩ := va_joinP hP hD isC isR hC hR hn hdis hk' hF hP1' hD1
  obtain ⟨t2, a1, b1⟩ := kk u T'.heap (locs ++ L) hp jP jD
    ⟨Nat.le_trans hS.1 (by rw [e1]; exact hz), fun q h1 h2 => by rw [hk' q (Nat.lt_of_lt_of_le h1 hS.1) (fun z => h2 (hF q z))]; exact hS.2.1 q h1 h2, fun q hq => by
      rcases List.mem_append.mp hq with h | h
      · exact hS.2.2 q h
      · exact hF _ (hL q h)⟩ T' rfl X'
  exact ⟨t2, st t2 a1, b1⟩
theorem li_callQ {S : Type} {post : S → Prop} {r : S → Option Value} {w1 : S → va_W} {X cx wr pl : va_W} (hr : va_Run p l e R s m args below meth c H locs cells slots mc ms (F0 m pc ls st0) rest (li_Qw D cl post r w1 (va_A cx H.size) a) (va_A cx H.size))
    (hP : va_P D cl (X ++ pl) H) (hD : va_D A0 (X ++ pl)) (hS : va_S A0 H0 H locs) (hA : ∀ q, H0.size ≤ q → A0 q) (isC isR : List Nat) (hC : isC.map (fun i => X[i]?) = cx.map some) (hR : isR.map (fun i => X[i]?) = wr.map some) (hn : va_nd isR = true) (hdis : ∀ i ∈ isR, i ∉ isC)
    (kk : ∀ (u : S) (H1 : Heap) (locs1 : List Loc), post u → va_P D cl ((wr ++ w1 u) ++ pl) H1 → va_D A0 ((wr ++ w1 u) ++ pl) → va_S A0 H0 H1 locs1 → W p l e R s m args below meth c H1 locs1 (cells + mc) (slots + ms) Q (F0 m (pc + 3) ls ((r u).toList ++ rest))) : W p l e R s m args below meth c H locs cells slots Q (F0 m pc ls st0) := by
  intro T hT X9
  have hF : ∀ q, va_A cx H.size q → A0 q := by
    intro q h
    refine va_freeP hD hS hA isC hC q ?_
    rcases h with ⟨k, e, h⟩ | h
    · exact Or.inl ⟨k, e, by rw [List.getElem?_append_left (List.getElem?_eq_some_iff.mp h).1]; exact h⟩
    · exact Or.inr h
  obtain ⟨v, st₀, t, T', L, h0, X', hL, e1, e2, ⟨u, hv, hp, hP1, hD1, hz, hk⟩, st⟩ := hr T hT X9
  cases hv
  rw [h0] at hz hk
  have hP1' : va_P D cl (w1 u) T'.heap := by rw [e1]; exact hP1
  have hk' : ∀ q : Nat, q < H.size → ¬ va_A cx H.size q → T'.heap[q]? = H[q]? := fun q h1 h2 => by rw [e1]; exact hk q h1 h2
  obtain ⟨jP, jD⟩ := va_joinQ hP hD isC isR hC hR hn hdis hk' hF hP1' hD1
  obtain ⟨t2, a1, b1⟩ := kk u T'.heap (locs ++ L) hp jP jD
    ⟨Nat.le_trans hS.1 (by rw [e1]; exact hz), fun q h1 h2 => by rw [hk' q (Nat.lt_of_lt_of_le h1 hS.1) (fun z => h2 (hF q z))]; exact hS.2.1 q h1 h2, fun q hq => by
      rcases List.mem_append.mp hq with h | h
      · exact hS.2.2 q h
      · exact hF _ (hL q h)⟩ T' rfl X'
  exact ⟨t2, st t2 a1, b1⟩
end LIP
theorem li_sbP {D : va_G} {cl : List vw_C} {X cx pl : va_W} {H : Heap} (h : va_P D cl (X ++ pl) H) (is : List Nat) (hs : is.map (fun i => X[i]?) = cx.map some) : va_P D cl (cx ++ pl) H := fun k q hq => h _ q (va_part is hs k q hq)
theorem li_sbD {A : Nat → Prop} {X cx pl : va_W} (h : va_D A (X ++ pl)) (is : List Nat) (hn : va_nd is = true) (hs : is.map (fun i => X[i]?) = cx.map some) : va_D A (cx ++ pl) := h.part is hn hs
theorem dj_rP {A : Nat → Prop} {X cx pl : va_W} {a : Nat} (hN : ¬ A a) (hD : va_D A (X ++ pl)) (isC : List Nat) (hC : isC.map (fun i => X[i]?) = cx.map some) : ∀ x ∈ cx ++ pl, a ≠ x.1 := by
  intro x hx h
  obtain ⟨k, hk⟩ := List.getElem?_of_mem hx
  exact hN (by rw [h]; exact hD.2 _ x (va_part isC hC k x hk))
theorem dj_allP {A : Nat → Prop} {ro X cx pl : va_W} (hN : ∀ (k : Nat) (q : Nat × va_E), ro[k]? = some q → ¬ A q.1) (hD : va_D A (X ++ pl)) (isC : List Nat) (hC : isC.map (fun i => X[i]?) = cx.map some) : Dsj ro (cx ++ pl) := by
  intro q hq
  obtain ⟨k, hk⟩ := List.getElem?_of_mem hq
  exact dj_rP (hN k q hk) hD isC hC

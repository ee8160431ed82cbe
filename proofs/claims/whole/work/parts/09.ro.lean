/-! read-only cells beside a method's world -/
def Dsj (ro w0 : va_W) : Prop := ∀ q ∈ ro, ∀ x ∈ w0, q.1 ≠ x.1
theorem dj_nil {w0 : va_W} : Dsj [] w0 := fun q h => by cases h
theorem dj_cons {a : Nat} {e : va_E} {ro w0 : va_W} (h : ∀ x ∈ w0, a ≠ x.1) (t : Dsj ro w0) : Dsj ((a, e) :: ro) w0 := fun q hq => by
  rcases List.mem_cons.mp hq with rfl | hq
  · exact h
  · exact t q hq
theorem dj_at {ws wc : va_W} {isC : List Nat} (hC : isC.map (fun i => ws[i]?) = wc.map some) {x : Nat × va_E} (hx : x ∈ wc) : ∃ j ∈ isC, ws[j]? = some x := by
  obtain ⟨k, hk⟩ := List.getElem?_of_mem hx
  have h1 : (isC.map (fun i => ws[i]?))[k]? = some (some x) := by rw [hC, List.getElem?_map, hk]; rfl
  rw [List.getElem?_map] at h1
  cases hi : isC[k]? with
  | none => rw [hi] at h1; cases h1
  | some i => rw [hi] at h1; exact ⟨i, List.mem_of_getElem? hi, Option.some.inj h1⟩
theorem dj_w {A : Nat → Prop} {ws wc : va_W} {a : Nat} {e : va_E} (hD : va_D A ws) (i : Nat) (he : ws[i]? = some (a, e)) (isC : List Nat) (hC : isC.map (fun i => ws[i]?) = wc.map some) (hn : i ∉ isC) : ∀ x ∈ wc, a ≠ x.1 := by
  intro x hx h
  obtain ⟨j, hj, hw⟩ := dj_at hC hx
  have := hD.1 i j _ _ he hw h
  exact hn (by rw [this]; exact hj)
theorem dj_r {A : Nat → Prop} {ws wc : va_W} {a : Nat} (hN : ¬ A a) (hD : va_D A ws) (isC : List Nat) (hC : isC.map (fun i => ws[i]?) = wc.map some) : ∀ x ∈ wc, a ≠ x.1 := by
  intro x hx h
  obtain ⟨j, -, hw⟩ := dj_at hC hx
  exact hN (by rw [h]; exact hD.2 j x hw)
theorem li_roN {D : va_G} {ro w0 : va_W} {s : State} {A : Nat → Prop} (hR : va_P D CL ro s.heap) (hDj : Dsj ro w0) (hAi : ∀ q, A q → (∃ (k : Nat) (e : va_E), w0[k]? = some (q, e)) ∨ s.heap.size ≤ q) : ∀ (k : Nat) (q : Nat × va_E), ro[k]? = some q → ¬ A q.1 := by
  intro k q hk ha
  rcases hAi _ ha with ⟨j, e, hj⟩ | h
  · exact hDj q (List.mem_of_getElem? hk) _ (List.mem_of_getElem? hj) rfl
  · have := (hR k q hk).lt; omega

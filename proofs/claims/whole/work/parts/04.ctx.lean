/-! Contracts of one form: what the heap must hold (B), the tables; then a world behind. -/
/-- links between nest mates: they don't stand among the words of a method, so a contract's start bears them -/
def isNest : Cond → Bool
  | .fieldLinkNest _ _ _ _ _ _ => true
  | .methodLinkNest _ _ _ _ => true
  | _ => false
def NL : List Cond := tables_1.filter isNest
def NW (U : State) : Prop := ∀ w ∈ NL, va_Nw w U
theorem NW.warm {s U : State} (hW : s.WarmedH U.vm) (h : NW s) : NW U := by
  intro w hw
  have h1 := h w hw
  have h2 := (List.mem_filter.mp hw).2
  cases w with
  | fieldLinkNest a i b n d q => exact va_Nw.warmF hW h1
  | methodLinkNest a i x q => exact va_Nw.warmM hW h1
  | _ => exact absurd h2 (by simp [isNest])
theorem NW.same {u U : State} (h : u.vm = U.vm) (hN : NW u) : NW U := by
  intro w hw
  have h1 := hN w hw
  have h2 := (List.mem_filter.mp hw).2
  cases w with
  | fieldLinkNest a i b n d q => exact va_Nw.same rfl h h1
  | methodLinkNest a i x q => exact va_Nw.same rfl h h1
  | _ => exact absurd h2 (by simp [isNest])
theorem NW.of {args : Array Value} {s : State} (h : ∀ w ∈ tables_1, w.before args s = true) : NW s := by
  intro w hw
  have h1 := h w (List.mem_filter.mp hw).1
  have h2 := (List.mem_filter.mp hw).2
  cases w with
  | fieldLinkNest a i b n d q => exact va_Nw.of rfl h1
  | methodLinkNest a i x q => exact va_Nw.of rfl h1
  | _ => exact absurd h2 (by simp [isNest])
theorem NL_in {w : Cond} (h : w ∈ tables_1) (g : isNest w = true) : w ∈ NL := List.mem_filter.mpr ⟨h, g⟩
abbrev li_Pr (D : va_G) (cl : List vw_C) (tys : List (ClassId × FieldType)) (as : List Value) (B : Heap → Prop) : Array Value → State → Prop := va_Pc as (fun U => B U.heap ∧ va_K D cl tys U ∧ NW U)
theorem li_fb {D : va_G} {cl : List vw_C} {tys : List (ClassId × FieldType)} {as : List Value} {B : Heap → Prop} : FrameBlind (li_Pr D cl tys as B) :=
  fun a U g mk q => ⟨q.1, q.2.1, va_K.moved (u := U) (U := U.calling g mk a) (Vm.Alike.refl U.vm) q.2.2.1, NW.same (u := U) rfl q.2.2.2⟩
theorem li_preS {s : State} {H : Heap} {D : va_G} {cl : List vw_C} {tys : List (ClassId × FieldType)} {As : List Value} {B : Heap → Prop} (hB : B H) (hK : va_K D cl tys s) (hN : NW s) : PreS s H (li_Pr D cl tys As B) As :=
  ⟨li_fb, fun U hU hW => ⟨rfl, by rw [hU]; exact hB, va_K.moved hW.alike hK, hN.warm hW⟩⟩
theorem li_preV {s : State} {H : Heap} {D : va_G} {cl : List vw_C} {tys : List (ClassId × FieldType)} {C : String} {b : Nat} {As : List Value} {B : Heap → Prop} (hrc : ∃ cell : Cell, H[b]? = some cell ∧ cell.vm.isStatics = false ∧ s.vm.findClass C = some cell.cls) (hB : B H) (hK : va_K D cl tys s) (hN : NW s) : PreV s H C b (li_Pr D cl tys (.ref b :: As) B) As :=
  ⟨li_fb, hrc, fun U hU hW => ⟨rfl, by rw [hU]; exact hB, va_K.moved hW.alike hK, hN.warm hW⟩⟩
/-- the end of a method that writes: its answer, its world -/
def li_Qw {S : Type} (D : va_G) (cl : List vw_C) (post : S → Prop) (r : S → Option Value) (w1 : S → va_W) (A : Nat → Prop) : Array Value → State → Outcome → State → Prop := fun _ st o t => ∃ u : S, o = .returned (r u) ∧ post u ∧ va_P D cl (w1 u) t.heap ∧ va_D A (w1 u) ∧ va_F A st t
section LIC
variable {p : Program} {l : Launch} {e : Env} {R : Room} {s : State} {m : MethodId} {args : Array Value} {below : List Frame} {meth : Method} {c : Code} {H : Heap} {locs : List Loc} {cells slots : Nat} {Q : State → Prop}
variable {pc : Nat} {ls : Array Slot} {rest st0 : List Value} {a : Array Value} {A0 : Nat → Prop} {H0 : Heap} {mc ms : Nat} {D : va_G} {cl : List vw_C}
theorem li_callw {S : Type} {post : S → Prop} {r : S → Option Value} {w1 : S → va_W} {ws wc wr : va_W} (hr : va_Run p l e R s m args below meth c H locs cells slots mc ms (F0 m pc ls st0) rest (li_Qw D cl post r w1 (va_A wc H.size) a) (va_A wc H.size))
    (hP : va_P D cl ws H) (hD : va_D A0 ws) (hS : va_S A0 H0 H locs) (hA : ∀ q, H0.size ≤ q → A0 q) (isC isR : List Nat) (hC : isC.map (fun i => ws[i]?) = wc.map some) (hR : isR.map (fun i => ws[i]?) = wr.map some) (hn : va_nd isR = true) (hdis : ∀ i ∈ isR, i ∉ isC)
    (kk : ∀ (u : S) (H1 : Heap) (locs1 : List Loc), post u → va_P D cl (wr ++ w1 u) H1 → va_D A0 (wr ++ w1 u) → va_S A0 H0 H1 locs1 → (∀ q : Nat, q < H.size → ¬ va_A wc H.size q → H1[q]? = H[q]?) → W p l e R s m args below meth c H1 locs1 (cells + mc) (slots + ms) Q (F0 m (pc + 3) ls ((r u).toList ++ rest))) : W p l e R s m args below meth c H locs cells slots Q (F0 m pc ls st0) := by
  intro T hT X
  have hF := va_free (wc := wc) hD hS hA isC hC
  obtain ⟨v, st₀, t, T', L, h0, X', hL, e1, e2, ⟨u, hv, hp, hP1, hD1, hz, hk⟩, st⟩ := hr T hT X
  cases hv
  rw [h0] at hz hk
  have hP1' : va_P D cl (w1 u) T'.heap := by rw [e1]; exact hP1
  have hk' : ∀ q : Nat, q < H.size → ¬ va_A wc H.size q → T'.heap[q]? = H[q]? := fun q h1 h2 => by rw [e1]; exact hk q h1 h2
  obtain ⟨jP, jD⟩ := va_join hP hD isC isR hC hR hn hdis hk' hF hP1' hD1
  obtain ⟨t2, a1, b1⟩ := kk u T'.heap (locs ++ L) hp jP jD
    ⟨Nat.le_trans hS.1 (by rw [e1]; exact hz), fun q h1 h2 => by rw [hk' q (Nat.lt_of_lt_of_le h1 hS.1) (fun z => h2 (hF q z))]; exact hS.2.1 q h1 h2, fun q hq => by
      rcases List.mem_append.mp hq with h | h
      · exact hS.2.2 q h
      · exact hF _ (hL q h)⟩ hk' T' rfl X'
  exact ⟨t2, st t2 a1, b1⟩
/-- what was there when the method began and isn't its own: still there -/
theorem li_ro {A : Nat → Prop} {ro : va_W} (hR : va_P D cl ro H0) (hN : ∀ (k : Nat) (q : Nat × va_E), ro[k]? = some q → ¬ A q.1) (hS : va_S A H0 H locs) : va_P D cl ro H :=
  hR.kept (fun k q hk => hS.2.1 q.1 ((hR k q hk).lt) (hN k q hk))
end LIC

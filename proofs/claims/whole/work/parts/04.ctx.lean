/-! Contracts of one form: what the heap must hold (B), the tables; then a world behind. -/
/-- links between nest mates: they don't stand among the words of a method, so a contract's start bears them -/
def isNest : Cond → Bool
  | .fieldLinkNest _ _ _ _ _ _ => true
  | .methodLinkNest _ _ _ _ => true
  | _ => false
def NL : List Cond := tables_1.filter isNest
def NW (U : State) : Prop := ∀ w ∈ NL, va_Nw w U
theorem NW.warm {s U : State} (hW : s.WarmedH U.vm) (h : NW s) : NW U := by
  intro w hw
  have h1 := h w hw
  have h2 := (List.mem_filter.mp hw).2
  cases w with
  | fieldLinkNest a i b n d q => exact va_Nw.warmF hW h1
  | methodLinkNest a i x q => exact va_Nw.warmM hW h1
  | _ => exact absurd h2 (by simp [isNest])
theorem NW.same {u U : State} (h : u.vm = U.vm) (hN : NW u) : NW U := by
  intro w hw
  have h1 := hN w hw
  have h2 := (List.mem_filter.mp hw).2
  cases w with
  | fieldLinkNest a i b n d q => exact va_Nw.same rfl h h1
  | methodLinkNest a i x q => exact va_Nw.same rfl h h1
  | _ => exact absurd h2 (by simp [isNest])
theorem NW.of {args : Array Value} {s : State} (h : ∀ w ∈ tables_1, w.before args s = true) : NW s := by
  intro w hw
  have h1 := h w (List.mem_filter.mp hw).1
  have h2 := (List.mem_filter.mp hw).2
  cases w with
  | fieldLinkNest a i b n d q => exact va_Nw.of rfl h1
  | methodLinkNest a i x q => exact va_Nw.of rfl h1
  | _ => exact absurd h2 (by simp [isNest])
theorem NL_in {w : Cond} (h : w ∈ tables_1) (g : isNest w = true) : w ∈ NL := List.mem_filter.mpr ⟨h, g⟩
/-! what holds of the machine beside the cells: string constants, statics; N0 = dI 100 0, addresses below are old -/
def STRS : List (String × Nat × String) := [("CatalogQuery$Inspector", 63, "-------- -22-----   4500"), ("CatalogQuery$Tokens", 69, "and"), ("CatalogQuery$Tokens", 75, "or"), ("CatalogQuery$Tokens", 77, "not"), ("CatalogQuery$Tokens", 79, "sortby"), ("CatalogQuery$Tokens", 81, "descending"), ("CatalogQuery$Tokens", 105, "any"), ("CatalogQuery$Tokens", 124, "all"), ("CatalogQuery$Tokens", 126, "adj"), ("CatalogQuery$Tokens", 128, "exact"), ("CatalogQuery$Tokens", 107, "title"), ("CatalogQuery$Tokens", 109, "author"), ("CatalogQuery$Tokens", 111, "subject"), ("CatalogQuery$Tokens", 113, "date"), ("CatalogQuery$Tokens", 115, "id"), ("CatalogQuery", 76, "many is not 0 .. 16"), ("CatalogQuery", 86, "there would be more than 400 bytes"), ("CatalogQuery", 93, "there are not so many bytes"), ("CatalogQuery", 212, "record is not 0 .. 9"), ("CatalogQuery", 133, "the line would have more than 100 characters"), ("CatalogQuery", 173, "what is not 0 .. 3"), ("CatalogQuery", 214, "index is not 0 .. 5")]
def lenS : List Nat := [24, 3, 2, 3, 6, 10, 3, 3, 3, 5, 5, 6, 7, 4, 2, 19, 34, 27, 20, 44, 18, 19]
def bytS : List (List Int32) := [[45, 45, 45, 45, 45, 45, 45, 45, 32, 45, 50, 50, 45, 45, 45, 45, 45, 32, 32, 32, 52, 53, 48, 48], [97, 110, 100], [111, 114], [110, 111, 116], [115, 111, 114, 116, 98, 121], [100, 101, 115, 99, 101, 110, 100, 105, 110, 103], [97, 110, 121], [97, 108, 108], [97, 100, 106], [101, 120, 97, 99, 116], [116, 105, 116, 108, 101], [97, 117, 116, 104, 111, 114], [115, 117, 98, 106, 101, 99, 116], [100, 97, 116, 101], [105, 100], [109, 97, 110, 121, 32, 105, 115, 32, 110, 111, 116, 32, 48, 32, 46, 46, 32, 49, 54], [116, 104, 101, 114, 101, 32, 119, 111, 117, 108, 100, 32, 98, 101, 32, 109, 111, 114, 101, 32, 116, 104, 97, 110, 32, 52, 48, 48, 32, 98, 121, 116, 101, 115], [116, 104, 101, 114, 101, 32, 97, 114, 101, 32, 110, 111, 116, 32, 115, 111, 32, 109, 97, 110, 121, 32, 98, 121, 116, 101, 115], [114, 101, 99, 111, 114, 100, 32, 105, 115, 32, 110, 111, 116, 32, 48, 32, 46, 46, 32, 57], [116, 104, 101, 32, 108, 105, 110, 101, 32, 119, 111, 117, 108, 100, 32, 104, 97, 118, 101, 32, 109, 111, 114, 101, 32, 116, 104, 97, 110, 32, 49, 48, 48, 32, 99, 104, 97, 114, 97, 99, 116, 101, 114, 115], [119, 104, 97, 116, 32, 105, 115, 32, 110, 111, 116, 32, 48, 32, 46, 46, 32, 51], [105, 110, 100, 101, 120, 32, 105, 115, 32, 110, 111, 116, 32, 48, 32, 46, 46, 32, 53]]
def GW (dI : Nat → Nat → Nat) (U : State) : Prop :=
  dI 100 0 ≤ U.heap.size ∧ (∀ (i : Nat) (q : String × Nat × String), STRS[i]? = some q → vk_R q.1 q.2.1 q.2.2 (dI 101 i) U) ∧
  vk_S 22 lenS bytS (dI 101) (dI 102) (fun q => dI 100 0 ≤ q) U U.heap ∧
  va_Z "java/lang/String" "COMPACT_STRINGS" "Z" (.int 1) (fun q => dI 100 0 ≤ q) U U.heap ∧
  va_Zq "java/lang/Throwable" "UNASSIGNED_STACK" "[Ljava/lang/StackTraceElement;" (fun q => dI 100 0 ≤ q) U U.heap ∧
  va_Zq "java/lang/Throwable" "SUPPRESSED_SENTINEL" "Ljava/util/List;" (fun q => dI 100 0 ≤ q) U U.heap ∧
  va_Zq "jdk/internal/util/Preconditions" "SIOOBE_FORMATTER" "Ljava/util/function/BiFunction;" (fun q => dI 100 0 ≤ q) U U.heap ∧
  va_Nc "java/lang/IllegalStateException" "java/lang/IllegalArgumentException" U ∧
  va_AO "CatalogQuery$Holding" U ∧ va_AO "CatalogQuery$Clause" U ∧ va_AO "CatalogQuery$Lexicon" U ∧
  va_Nw (.castable "java/lang/IllegalArgumentException" "java/lang/IllegalArgumentException") U ∧ va_Nw (.castable "java/lang/IllegalStateException" "java/lang/IllegalStateException") U
theorem GW.go {dI : Nat → Nat → Nat} {s : State} {A : Nat → Prop} {H : Heap} {locs : List Loc} (h : GW dI s) (hS : va_S A s.heap H locs) (hAN : ∀ q, A q → dI 100 0 ≤ q) (U : State) (hU : U.heap = H) (hW : s.WarmedH U.vm) : GW dI U := by
  obtain ⟨h1, h2, h3, h4, h5, h6, h7, h8, h9, hA, hB, hC, hD⟩ := h
  subst hU
  have hq : ∀ a : Nat, a < s.heap.size → ¬ (dI 100 0 ≤ a) → U.heap[a]? = s.heap[a]? := fun a ha hn => hS.2.1 a ha (fun z => hn (hAN a z))
  exact ⟨Nat.le_trans h1 hS.1, fun i q hi => (h2 i q hi).warm hW, (h3.kept hq).moved hW.alike, (h4.kept hq).moved hW.alike, (h5.kept hq).moved hW.alike, (h6.kept hq).moved hW.alike, (h7.kept hq).moved hW.alike, h8.moved hW.alike, h9.moved hW.alike, hA.moved hW.alike, hB.moved hW.alike, va_Nw.warmC hW hC, va_Nw.warmC hW hD⟩
theorem GW.calling {dI : Nat → Nat → Nat} {U : State} {g : JFrame} {mk : MethodId} {a : Array Value} (h : GW dI U) : GW dI (U.calling g mk a) := by
  obtain ⟨h1, h2, h3, h4, h5, h6, h7, h8, h9, hA, hB, hC, hD⟩ := h
  have hvm : U.vm.Alike (U.calling g mk a).vm := Vm.Alike.refl U.vm
  exact ⟨h1, fun i q hi => (h2 i q hi).same rfl, h3.moved hvm, h4.moved hvm, h5.moved hvm, h6.moved hvm, h7.moved hvm, h8.moved hvm, h9.moved hvm, hA.moved hvm, hB.moved hvm, va_Nw.same (u := U) rfl rfl hC, va_Nw.same (u := U) rfl rfl hD⟩
theorem GW.rd {dI : Nat → Nat → Nat} {s : State} (h : GW dI s) (U : State) (hU : U.heap = s.heap) (hW : s.WarmedH U.vm) : GW dI U := h.go (A := fun _ => False) va_S.rf (fun _ h => h.elim) U hU hW
abbrev li_Pr (D : va_G) (cl : List vw_C) (tys : List (ClassId × FieldType)) (as : List Value) (B : Heap → Prop) : Array Value → State → Prop := va_Pc as (fun U => B U.heap ∧ va_K D cl tys U ∧ NW U ∧ GW D.2 U)
theorem li_fb {D : va_G} {cl : List vw_C} {tys : List (ClassId × FieldType)} {as : List Value} {B : Heap → Prop} : FrameBlind (li_Pr D cl tys as B) :=
  fun a U g mk q => ⟨q.1, q.2.1, va_K.moved (u := U) (U := U.calling g mk a) (Vm.Alike.refl U.vm) q.2.2.1, NW.same (u := U) rfl q.2.2.2.1, q.2.2.2.2.calling⟩
theorem li_preS {s : State} {H : Heap} {D : va_G} {cl : List vw_C} {tys : List (ClassId × FieldType)} {As : List Value} {B : Heap → Prop} (hB : B H) (hK : va_K D cl tys s) (hN : NW s) (hG : ∀ U : State, U.heap = H → s.WarmedH U.vm → GW D.2 U) : PreS s H (li_Pr D cl tys As B) As :=
  ⟨li_fb, fun U hU hW => ⟨rfl, by rw [hU]; exact hB, va_K.moved hW.alike hK, hN.warm hW, hG U hU hW⟩⟩
theorem li_preV {s : State} {H : Heap} {D : va_G} {cl : List vw_C} {tys : List (ClassId × FieldType)} {C : String} {b : Nat} {As : List Value} {B : Heap → Prop} (hrc : ∃ cell : Cell, H[b]? = some cell ∧ cell.vm.isStatics = false ∧ s.vm.findClass C = some cell.cls) (hB : B H) (hK : va_K D cl tys s) (hN : NW s) (hG : ∀ U : State, U.heap = H → s.WarmedH U.vm → GW D.2 U) : PreV s H C b (li_Pr D cl tys (.ref b :: As) B) As :=
  ⟨li_fb, hrc, fun U hU hW => ⟨rfl, by rw [hU]; exact hB, va_K.moved hW.alike hK, hN.warm hW, hG U hU hW⟩⟩
/-- the end of a method that writes: its answer, its world -/
def li_Qw {S : Type} (D : va_G) (cl : List vw_C) (post : S → Prop) (r : S → Option Value) (w1 : S → va_W) (A : Nat → Prop) : Array Value → State → Outcome → State → Prop := fun _ st o t => ∃ u : S, o = .returned (r u) ∧ post u ∧ va_P D cl (w1 u) t.heap ∧ va_D A (w1 u) ∧ va_F A st t
section LIC
variable {p : Program} {l : Launch} {e : Env} {R : Room} {s : State} {m : MethodId} {args : Array Value} {below : List Frame} {meth : Method} {c : Code} {H : Heap} {locs : List Loc} {cells slots : Nat} {Q : State → Prop}
variable {pc : Nat} {ls : Array Slot} {rest st0 : List Value} {a : Array Value} {A0 : Nat → Prop} {H0 : Heap} {mc ms : Nat} {D : va_G} {cl : List vw_C}
theorem li_callw {S : Type} {post : S → Prop} {r : S → Option Value} {w1 : S → va_W} {ws wc wr : va_W} (hr : va_Run p l e R s m args below meth c H locs cells slots mc ms (F0 m pc ls st0) rest (li_Qw D cl post r w1 (va_A wc H.size) a) (va_A wc H.size))
    (hP : va_P D cl ws H) (hD : va_D A0 ws) (hS : va_S A0 H0 H locs) (hA : ∀ q, H0.size ≤ q → A0 q) (isC isR : List Nat) (hC : isC.map (fun i => ws[i]?) = wc.map some) (hR : isR.map (fun i => ws[i]?) = wr.map some) (hn : va_nd isR = true) (hdis : ∀ i ∈ isR, i ∉ isC)
    (kk : ∀ (u : S) (H1 : Heap) (locs1 : List Loc), post u → va_P D cl (wr ++ w1 u) H1 → va_D A0 (wr ++ w1 u) → va_S A0 H0 H1 locs1 → (∀ q : Nat, q < H.size → ¬ va_A wc H.size q → H1[q]? = H[q]?) → W p l e R s m args below meth c H1 locs1 (cells + mc) (slots + ms) Q (F0 m (pc + 3) ls ((r u).toList ++ rest))) : W p l e R s m args below meth c H locs cells slots Q (F0 m pc ls st0) := by
  intro T hT X
  have hF := va_free (wc := wc) hD hS hA isC hC
  obtain ⟨v, st₀, t, T', L, h0, X', hL, e1, e2, ⟨u, hv, hp, hP1, hD1, hz, hk⟩, st⟩ := hr T hT X
  cases hv
  rw [h0] at hz hk
  have hP1' : va_P D cl (w1 u) T'.heap := by rw [e1]; exact hP1
  have hk' : ∀ q : Nat, q < H.size → ¬ va_A wc H.size q → T'.heap[q]? = H[q]? := fun q h1 h2 => by rw [e1]; exact hk q h1 h2
  obtain ⟨jP, jD⟩ := va_join hP hD isC isR hC hR hn hdis hk' hF hP1' hD1
  obtain ⟨t2, a1, b1⟩ := kk u T'.heap (locs ++ L) hp jP jD
    ⟨Nat.le_trans hS.1 (by rw [e1]; exact hz), fun q h1 h2 => by rw [hk' q (Nat.lt_of_lt_of_le h1 hS.1) (fun z => h2 (hF q z))]; exact hS.2.1 q h1 h2, fun q hq => by
      rcases List.mem_append.mp hq with h | h
      · exact hS.2.2 q h
      · exact hF _ (hL q h)⟩ hk' T' rfl X'
  exact ⟨t2, st t2 a1, b1⟩
/-- what was there when the method began and isn't its own: still there -/
theorem li_ro {A : Nat → Prop} {ro : va_W} (hR : va_P D cl ro H0) (hN : ∀ (k : Nat) (q : Nat × va_E), ro[k]? = some q → ¬ A q.1) (hS : va_S A H0 H locs) : va_P D cl ro H :=
  hR.kept (fun k q hk => hS.2.1 q.1 ((hR k q hk).lt) (hN k q hk))
end LIC

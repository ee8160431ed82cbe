/-! making of arrays, copying -/
section MAKE
variable {p : Program} {l : Launch} {e : Env} {R : Room} {s : State} {m : MethodId} {args : Array Value} {below : List Frame} {meth : Method} {c : Code} {H : Heap} {locs : List Loc} {cells slots : Nat} {Q : State → Prop}
variable {cc : ByteArray} {pc : Nat} {ls : Array Slot} {rest : List Value} {D : va_G} {cl : List vw_C} {A : Nat → Prop} {a : Nat} {tys : List (ClassId × FieldType)} {ws : va_W} {H0 : Heap}
theorem li_newaG (hx : p.tables.exec = Jvm.exec) (hb : c.code = cc) {atype : ArrayType} (harr : (Cond.arrayClass (newarray.typeOf atype)).before args s = true) {ty : FieldType} (hty : newarray.typeOf atype = ty) (hRA : ∀ cA, va_RA s cA ty → s.vm.findClass ("[" ++ ty.toString) = some cA) (hK : va_K D cl tys s) (hP : va_P D cl ws H) (hD : va_D A ws) (hS : va_S A H0 H locs) (hA : ∀ q, H0.size ≤ q → A q)
    (t0 : Nat) {cK : ClassId} (ht : tys[t0]? = some (cK, ty)) {z : Int} {N' : Nat} {a0 : vp_A} (ha : ∀ cA : ClassId, vp_cell cA a0 = arrV cA N' (fun _ => defaultValue ty)) (hz : z = N') (hN : N' ≤ 1000000) (hb8 : componentBytes ty ≤ 8) (hcells : cells + 1 ≤ R.cells) (hslots : slots + N' ≤ R.slots) (hdg : decode cc pc = .ok (.newarray atype, 2))
    (kk : ∀ (q : Nat) (H1 : Heap), va_P D cl (ws ++ [(q, .inl (cK, a0))]) H1 → va_D A (ws ++ [(q, .inl (cK, a0))]) → va_S A H0 H1 locs →
      W p l e R s m args below meth c H1 locs (cells + 1) (slots + N') Q (F0 m (pc + 2) ls (.ref q :: rest))) : W p l e R s m args below meth c H locs cells slots Q (F0 m pc ls (.int (iI z) :: rest)) := by
  subst hz
  have hmul : N' * componentBytes ty ≤ 1000000 * 8 := Nat.mul_le_mul hN hb8
  refine va_newa hx hb harr hty hK hP hD hS hA ha ?_ ?_ (by omega) hcells hslots hdg ?_
  · rw [← iI_0, iI_lt (by omega) (by omega)]; omega
  · rw [iI_clamp (by omega) (by omega)]; omega
  · intro q cA H1 hK1 hP1 hD1 hS1
    have e1 := hRA _ (hK.2 t0 _ ht).2
    have e2 := hRA _ (hK1.2 tys.length (cA, ty) (by simp)).2
    have e3 : cA = cK := Option.some.inj (e2.symm.trans e1)
    subst e3
    exact kk q H1 hP1 hD1 hS1
theorem li_newI (hx : p.tables.exec = Jvm.exec) (hb : c.code = cc) (harr : (Cond.arrayClass .int).before args s = true) (hK : va_K D cl tys s) (hP : va_P D cl ws H) (hD : va_D A ws) (hS : va_S A H0 H locs) (hA : ∀ q, H0.size ≤ q → A q)
    (t0 : Nat) {cK : ClassId} (ht : tys[t0]? = some (cK, .int)) {z : Int} (N' : Nat) (hz : z = N') (hN : N' ≤ 1000000) (hcells : cells + 1 ≤ R.cells) (hslots : slots + N' ≤ R.slots) (hdg : decode cc pc = .ok (.newarray .int, 2))
    (kk : ∀ (q : Nat) (H1 : Heap), va_P D cl (ws ++ [(q, .inl (cK, N', .inl (aI (fun _ => 0))))]) H1 → va_D A (ws ++ [(q, .inl (cK, N', .inl (aI (fun _ => 0))))]) → va_S A H0 H1 locs →
      W p l e R s m args below meth c H1 locs (cells + 1) (slots + N') Q (F0 m (pc + 2) ls (.ref q :: rest))) : W p l e R s m args below meth c H locs cells slots Q (F0 m pc ls (.int (iI z) :: rest)) :=
  li_newaG hx hb (atype := .int) harr rfl (fun _ h => h) hK hP hD hS hA t0 ht (fun _ => rfl) hz hN (by decide) hcells hslots hdg kk
theorem li_newC (hx : p.tables.exec = Jvm.exec) (hb : c.code = cc) (harr : (Cond.arrayClass .char).before args s = true) (hK : va_K D cl tys s) (hP : va_P D cl ws H) (hD : va_D A ws) (hS : va_S A H0 H locs) (hA : ∀ q, H0.size ≤ q → A q)
    (t0 : Nat) {cK : ClassId} (ht : tys[t0]? = some (cK, .char)) {z : Int} (N' : Nat) (hz : z = N') (hN : N' ≤ 1000000) (hcells : cells + 1 ≤ R.cells) (hslots : slots + N' ≤ R.slots) (hdg : decode cc pc = .ok (.newarray .char, 2))
    (kk : ∀ (q : Nat) (H1 : Heap), va_P D cl (ws ++ [(q, .inl (cK, N', .inl (aI (fun _ => 0))))]) H1 → va_D A (ws ++ [(q, .inl (cK, N', .inl (aI (fun _ => 0))))]) → va_S A H0 H1 locs →
      W p l e R s m args below meth c H1 locs (cells + 1) (slots + N') Q (F0 m (pc + 2) ls (.ref q :: rest))) : W p l e R s m args below meth c H locs cells slots Q (F0 m pc ls (.int (iI z) :: rest)) :=
  li_newaG hx hb (atype := .char) harr rfl (fun _ h => h) hK hP hD hS hA t0 ht (fun _ => rfl) hz hN (by decide) hcells hslots hdg kk
theorem li_newZ (hx : p.tables.exec = Jvm.exec) (hb : c.code = cc) (harr : (Cond.arrayClass .boolean).before args s = true) (hK : va_K D cl tys s) (hP : va_P D cl ws H) (hD : va_D A ws) (hS : va_S A H0 H locs) (hA : ∀ q, H0.size ≤ q → A q)
    (t0 : Nat) {cK : ClassId} (ht : tys[t0]? = some (cK, .boolean)) {z : Int} (N' : Nat) (hz : z = N') (hN : N' ≤ 1000000) (hcells : cells + 1 ≤ R.cells) (hslots : slots + N' ≤ R.slots) (hdg : decode cc pc = .ok (.newarray .boolean, 2))
    (kk : ∀ (q : Nat) (H1 : Heap), va_P D cl (ws ++ [(q, .inl (cK, N', .inl (zI (fun _ => false))))]) H1 → va_D A (ws ++ [(q, .inl (cK, N', .inl (zI (fun _ => false))))]) → va_S A H0 H1 locs →
      W p l e R s m args below meth c H1 locs (cells + 1) (slots + N') Q (F0 m (pc + 2) ls (.ref q :: rest))) : W p l e R s m args below meth c H locs cells slots Q (F0 m pc ls (.int (iI z) :: rest)) :=
  li_newaG hx hb (atype := .boolean) harr rfl (fun _ h => h) hK hP hD hS hA t0 ht (fun _ => rfl) hz hN (by decide) hcells hslots hdg kk
theorem aI_cpy (f g : Nat → Int) (sp dp n : Nat) : va_cpy (aI f) (aI g) sp dp n = aI (va_cpy f g sp dp n) := by
  funext k; by_cases h : dp ≤ k ∧ k < dp + n <;> simp [va_cpy, aI, h]
theorem fitC {v : Int} (v0 : 0 ≤ v) (v1 : v < 65536) : fits .char (.int (iI v)) = true := by
  obtain ⟨k, rfl⟩ := Int.eq_ofNat_of_zero_le v0
  rw [iI_nI]; exact (pk_charN (q := k) (by omega)).2
/-- System.arraycopy of numbers, from one array into another (or into itself) -/
theorem li_copy (hx : p.tables.exec = Jvm.exec) (hb : c.code = cc) (hml : c.maxLocals = ls.size) {own : String} {index : Nat} (hown : s.vm.findClass own = some m.cls) (hlink : (Cond.methodLink own index arraycopyName).before args s = true) (hnat : (Cond.native arraycopyName).before args s = true) (hstat : (Cond.static arraycopyName).before args s = true) (hini : (Cond.initialized "java/lang/System").before args s = true)
    (hK : va_K D cl tys s) (hP : va_P D cl ws H) (hD : va_D A ws) (hS : va_S A H0 H locs) (q0 q1 t0 : Nat) {a0 : Nat} {c0 : ClassId} {n0 n1 : Nat} {f g : Nat → Int} {ty : FieldType} (ha0 : ws[q0]? = some (a0, .inl (c0, n0, .inl (aI f)))) (ha1 : ws[q1]? = some (a, .inl (c0, n1, .inl (aI g)))) (ht0 : tys[t0]? = some (c0, ty)) (hprim : refKind ty = false)
    {sp dp k : Int} (h1 : 0 ≤ sp) (h2 : 0 ≤ dp) (h3 : 0 ≤ k) (h4 : sp + k ≤ n0) (h5 : dp + k ≤ n1) (hn : n0 < 2147483648 ∧ n1 < 2147483648) (hfit : ∀ i, fits ty (.int (iI (f i))) = true)
    (hframes : 1 ≤ R.frames) (hlocals : (rest.map fun v => v.category).sum + (nativeFrameWords "java/lang/System" "arraycopy" 5 + 11) ≤ R.locals) (hdg : decode cc pc = .ok (.invokestatic index, 3))
    (kk : ∀ (H1 : Heap) (locs1 : List Loc), va_P D cl (ws.set q1 (a, .inl (c0, n1, .inl (aI (va_cpy f g sp.toNat dp.toNat k.toNat))))) H1 → va_D A (ws.set q1 (a, .inl (c0, n1, .inl (aI (va_cpy f g sp.toNat dp.toNat k.toNat))))) → va_S A H0 H1 locs1 → W p l e R s m args below meth c H1 locs1 cells slots Q (F0 m (pc + 3) ls rest)) : W p l e R s m args below meth c H locs cells slots Q (F0 m pc ls (.int (iI k) :: .int (iI dp) :: .ref a :: .int (iI sp) :: .ref a0 :: rest)) := by
  have nn : ∀ {z : Int}, 0 ≤ z → z < 2147483648 → ¬ iI z < 0 := fun h0 hz => by rw [← iI_0, iI_lt (by omega) (by omega)]; omega
  refine va_copyi hx hb hml hown hlink hnat hstat hini hK hP hD hS q0 q1 t0 t0 ha0 ha1 ht0 ht0 hprim (nn h1 (by omega)) (nn h2 (by omega)) (nn h3 (by omega)) ?_ ?_ (fun i _ => hfit _) hframes hlocals hdg ?_
  · rw [iI_clamp h1 (by omega), iI_clamp h3 (by omega)]; omega
  · rw [iI_clamp h2 (by omega), iI_clamp h3 (by omega)]; omega
  · intro H1 locs1 hP1 hD1 hS1
    rw [iI_clamp h1 (by omega), iI_clamp h2 (by omega), iI_clamp h3 (by omega), aI_cpy] at hP1 hD1
    exact kk H1 locs1 hP1 hD1 hS1
end MAKE

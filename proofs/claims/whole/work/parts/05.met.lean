/-! A method's contract out of its walk, in few forms. -/
abbrev rmd (d mc ms : Nat) : Room := { frames := d, cells := mc, slots := ms, locals := 30 * d }
def li_C (y : MethodName) (b : ByteArray) (n : Nat) (r : Option FieldType) (p : Program) (s : State) (m : MethodId) (args : Array Value) (meth : Method) (c : Code) : Prop :=
  p.tables.exec = Jvm.exec ∧ c.code = b ∧ meth.sig.returnType = r ∧ c.maxLocals = n ∧ s.vm.findClass y.cls = some m.cls ∧ (∀ w ∈ TB, w.before args s = true) ∧ meth.locks = false ∧ meth.name = y.name
theorem li_met {l : Launch} {y : MethodName} {b : ByteArray} {n : Nat} {r : Option FieldType} {rm : Room} {D : va_G} {tys : List (ClassId × FieldType)} {as : List Value} {B : Heap → Prop} {Qc : Array Value → State → Outcome → State → Prop} {mc ms : Nat} {free : Addr → Prop}
    (hy : plainName y.cls = true) (hn : (lg_sl as).length ≤ n)
    (body : ∀ (p : Program) (e : Env) (s : State) (m : MethodId) (below : List Frame) (meth : Method) (c : Code), li_C y b n r p s m as.toArray meth c → B s.heap → va_K D CL tys s → NW s → GW D.2 s → ∀ ls : Array Slot, lv_has ls n (lv_args 0 as) → W p l e rm s m as.toArray below meth c s.heap [] 0 0 (MQ below Qc as.toArray s mc ms free) (F0 m 0 ls [])) :
    Met l y (wsy y b n r) rm (li_Pr D CL tys as B) Qc mc ms free := by
  refine Met.ofW (cc := b) (maxL := n) (ret := r) hy rfl ?_
  intro p e s m args below meth c s₁ B0 hml hv
  obtain ⟨rfl, hB, hK, hN, hG⟩ := hv
  have hl := lv_entry as (n := n) hn
  rw [lg_entry_eq]
  exact body p e s m below meth c ⟨B0.exec, B0.bytes, B0.returns, hml, findClass_of_methodNamed B0.named, fun w h => atoms_spec (ws := wsy y b n r) B0.pre w (List.mem_cons_of_mem _ h), B0.notSynchronized, (name_of_methodNamed B0.named B0.method).1⟩ hB hK hN hG _ hl
/-- a method that reads alone, and answers a number -/
theorem li_mr {l : Launch} {y : MethodName} {b : ByteArray} {n d : Nat} {ty : FieldType} {D : va_G} {tys : List (ClassId × FieldType)} {as : List Value} {B : Heap → Prop} {r : Int}
    (hy : plainName y.cls = true) (hn : (lg_sl as).length ≤ n) (hnar : narrow ty (.int (iI r)) = .int (iI r))
    (body : ∀ (p : Program) (e : Env) (s : State) (m : MethodId) (args : Array Value) (below : List Frame) (meth : Method) (c : Code) (Q : State → Prop), li_C y b n (some ty) p s m args meth c → B s.heap → va_K D CL tys s → NW s → GW D.2 s →
      (∀ (z : Int) (pc : Nat) (ls : Array Slot), z = r → decode b pc = .ok (.ireturn, 1) → W p l e (rmd d 0 0) s m args below meth c s.heap [] 0 0 Q (F0 m pc ls [.int (iI z)])) →
      ∀ ls : Array Slot, lv_has ls n (lv_args 0 as) → W p l e (rmd d 0 0) s m args below meth c s.heap [] 0 0 Q (F0 m 0 ls [])) :
    Met l y (wsy y b n (some ty)) (rmd d 0 0) (li_Pr D CL tys as B) (k2_QcV (.int (iI r))) 0 0 (fun _ => False) := by
  refine li_met hy hn ?_
  intro p e s m below meth c C hB hK hN hG ls hl
  refine body p e s m _ below meth c _ C hB hK hN hG ?_ ls hl
  intro z pc ls ez hd
  subst ez
  obtain ⟨hx, hb, hr, hml, hown, hts, hlocks, hin⟩ := C
  exact W.zret (v := iI z) hx hb hr hnar (fun t ht hW => ⟨rfl, ht⟩) (fun q h => by cases h) hd
/-- a method that writes cells of its world w0, and answers nothing -/
theorem li_mwv {S : Type} {l : Launch} {y : MethodName} {b : ByteArray} {n d mc ms sz : Nat} {D : va_G} {tys : List (ClassId × FieldType)} {as : List Value} {w0 : va_W} {Bx : Heap → Prop} {post : S → Prop} {w1 : S → va_W}
    (hy : plainName y.cls = true) (hn : (lg_sl as).length ≤ n)
    (body : ∀ (p : Program) (e : Env) (s : State) (m : MethodId) (args : Array Value) (below : List Frame) (meth : Method) (c : Code) (Q : State → Prop) (A : Nat → Prop), li_C y b n none p s m args meth c → va_P D CL w0 s.heap → va_D A w0 → Bx s.heap → va_K D CL tys s → NW s → GW D.2 s → (∀ q, s.heap.size ≤ q → A q) → (∀ q, A q → (∃ (k : Nat) (e : va_E), w0[k]? = some (q, e)) ∨ s.heap.size ≤ q) → (∀ q, A q → D.2 100 0 ≤ q) →
      (∀ (u : S) (H : Heap) (locs : List Loc) (pc : Nat) (ls : Array Slot), post u → va_P D CL (w1 u) H → va_D A (w1 u) → va_S A s.heap H locs → decode b pc = .ok (.return_, 1) → W p l e (rmd d mc ms) s m args below meth c H locs mc ms Q (F0 m pc ls [])) →
      ∀ ls : Array Slot, lv_has ls n (lv_args 0 as) → W p l e (rmd d mc ms) s m args below meth c s.heap [] 0 0 Q (F0 m 0 ls [])) :
    Met l y (wsy y b n none) (rmd d mc ms) (li_Pr D CL tys as (fun h => h.size = sz ∧ va_P D CL w0 h ∧ va_D (fun q => D.2 100 0 ≤ q) w0 ∧ Bx h)) (li_Qw D CL post (fun _ => none) w1 (va_A w0 sz)) mc ms (va_A w0 sz) := by
  refine li_met hy hn ?_
  intro p e s m below meth c C hB hK hN hG ls hl
  obtain ⟨hsz, hP, hD, hBx⟩ := hB
  subst hsz
  refine body p e s m _ below meth c _ (va_A w0 s.heap.size) C hP (hD.self) hBx hK hN hG (fun q h => Or.inr h) (fun q h => h) (fun q h => by rcases h with ⟨k, e, h⟩ | h; (exact hD.2 k _ h); exact Nat.le_trans hG.1 h) ?_ ls hl
  intro u H locs pc ls hp hP1 hD1 hS hd
  obtain ⟨hx, hb, hr, hml, hown, hts, hlocks, hin⟩ := C
  exact W.vret hx hb hr (fun t ht hW => ⟨u, rfl, hp, by rw [ht]; exact hP1, hD1, hS.F ht⟩) hS.2.2 hd
/-- the same, and answers a number -/
theorem li_mwi {S : Type} {l : Launch} {y : MethodName} {b : ByteArray} {n d mc ms sz : Nat} {ty : FieldType} {D : va_G} {tys : List (ClassId × FieldType)} {as : List Value} {w0 : va_W} {Bx : Heap → Prop} {post : S → Prop} {w1 : S → va_W} {r : S → Int}
    (hy : plainName y.cls = true) (hn : (lg_sl as).length ≤ n) (hnar : ∀ u, post u → narrow ty (.int (iI (r u))) = .int (iI (r u)))
    (body : ∀ (p : Program) (e : Env) (s : State) (m : MethodId) (args : Array Value) (below : List Frame) (meth : Method) (c : Code) (Q : State → Prop) (A : Nat → Prop), li_C y b n (some ty) p s m args meth c → va_P D CL w0 s.heap → va_D A w0 → Bx s.heap → va_K D CL tys s → NW s → GW D.2 s → (∀ q, s.heap.size ≤ q → A q) → (∀ q, A q → (∃ (k : Nat) (e : va_E), w0[k]? = some (q, e)) ∨ s.heap.size ≤ q) → (∀ q, A q → D.2 100 0 ≤ q) →
      (∀ (u : S) (z : Int) (H : Heap) (locs : List Loc) (pc : Nat) (ls : Array Slot), z = r u → post u → va_P D CL (w1 u) H → va_D A (w1 u) → va_S A s.heap H locs → decode b pc = .ok (.ireturn, 1) → W p l e (rmd d mc ms) s m args below meth c H locs mc ms Q (F0 m pc ls [.int (iI z)])) →
      ∀ ls : Array Slot, lv_has ls n (lv_args 0 as) → W p l e (rmd d mc ms) s m args below meth c s.heap [] 0 0 Q (F0 m 0 ls [])) :
    Met l y (wsy y b n (some ty)) (rmd d mc ms) (li_Pr D CL tys as (fun h => h.size = sz ∧ va_P D CL w0 h ∧ va_D (fun q => D.2 100 0 ≤ q) w0 ∧ Bx h)) (li_Qw D CL post (fun u => some (.int (iI (r u)))) w1 (va_A w0 sz)) mc ms (va_A w0 sz) := by
  refine li_met hy hn ?_
  intro p e s m below meth c C hB hK hN hG ls hl
  obtain ⟨hsz, hP, hD, hBx⟩ := hB
  subst hsz
  refine body p e s m _ below meth c _ (va_A w0 s.heap.size) C hP (hD.self) hBx hK hN hG (fun q h => Or.inr h) (fun q h => h) (fun q h => by rcases h with ⟨k, e, h⟩ | h; (exact hD.2 k _ h); exact Nat.le_trans hG.1 h) ?_ ls hl
  intro u z H locs pc ls ez hp hP1 hD1 hS hd
  subst ez
  obtain ⟨hx, hb, hr, hml, hown, hts, hlocks, hin⟩ := C
  exact W.zret hx hb hr (hnar u hp) (fun t ht hW => ⟨u, rfl, hp, by rw [ht]; exact hP1, hD1, hS.F ht⟩) hS.2.2 hd
section LIN
variable {p : Program} {l : Launch} {e : Env} {R : Room} {s : State} {m : MethodId} {args : Array Value} {below : List Frame} {meth : Method} {c : Code} {H : Heap} {locs : List Loc} {cells slots : Nat} {Q : State → Prop}
variable {cc : ByteArray} {pc : Nat} {ls : Array Slot} {rest : List Value}
/-- the number on top gets a name -/
theorem li_nm {a : Int} (k : ∀ y : Int, y = a → W p l e R s m args below meth c H locs cells slots Q (F0 m pc ls (.int (iI y) :: rest))) : W p l e R s m args below meth c H locs cells slots Q (F0 m pc ls (.int (iI a) :: rest)) := k a rfl
theorem li_to {a z : Int} (h : a = z) (k : W p l e R s m args below meth c H locs cells slots Q (F0 m pc ls (.int (iI z) :: rest))) : W p l e R s m args below meth c H locs cells slots Q (F0 m pc ls (.int (iI a) :: rest)) := h ▸ k
end LIN
/-- the tables of arrays -/
abbrev TY (kA : Nat → ClassId) : List (ClassId × FieldType) := [(kA 0, .int), (kA 1, .char), (kA 2, .boolean), (kA 3, .long), (kA 4, .object R_H), (kA 5, .object R_L), (kA 6, .object R_C)]

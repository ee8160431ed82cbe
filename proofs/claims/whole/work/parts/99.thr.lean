/-! Throwing (the launch has no stack traces): contracts that end in a throw, the throw, calls of such methods, catching. By program (wip/whole/mT0.py) -/
abbrev IAE : String := "java/lang/IllegalArgumentException"
abbrev ISE : String := "java/lang/IllegalStateException"
abbrev UPN : List String := ["java/lang/RuntimeException", "java/lang/Exception"]
def ThrC (X : String) (q : Nat) (st t : State) : Prop := st.heap.size ≤ q ∧ ∃ cell : Cell, t.heap[q]? = some cell ∧ cell.vm.isStatics = false ∧ st.vm.findClass X = some cell.cls
def TQ (below : List Frame) (X : String) (s : State) : State → Prop := fun t => ∃ q : Nat, t.status = .running ∧ Ended t below (.threw q) ∧ FrameEndT s (.threw q) t [] 1 6 ∧ ThrC X q s t
def MetT (l : Launch) (y : MethodName) (ws : List Cond) (rm : Room) (Pc : Array Value → State → Prop) (X : String) : Prop :=
  MetFree l y (headSpec ws rm) Pc (fun _ _ _ _ _ => True) (fun _ st o t => ∃ q : Nat, o = .threw q ∧ FrameEndT st (.threw q) t [] 1 6 ∧ ThrC X q st t)
theorem isref_of {C n d : String} {A : Nat → Prop} {s : State} {args : Array Value} (h : va_Zq C n d A s s.heap) : (Cond.isRef (.static C n d)).before args s = true := by
  rcases h with h | ⟨t, h⟩
  · obtain ⟨cf, kf, fi, f, a, cell, h1, h2, h3, h4, h5, h6, h7, -⟩ := h
    simp [Cond.before, Cond.holds, Cond.value, Term.eval, State.fieldNamed?, h1, h2, h4, h5, h6, h7]
  · obtain ⟨cf, kf, fi, f, a, cell, h1, h2, h3, h4, h5, h6, h7, -⟩ := h
    simp [Cond.before, Cond.holds, Cond.value, Term.eval, State.fieldNamed?, h1, h2, h4, h5, h6, h7]
theorem decl_of {x : MethodName} {bytes : ByteArray} {n : Nat} {r : Option FieldType} {args : Array Value} {s : State} (h1 : (Cond.instanceMethod x).before args s = true) (h2 : (Cond.code x bytes n r).before args s = true) : (Cond.declares x).before args s = true := by
  obtain ⟨m, meth, hn, hm, hst, -⟩ := Cond.instanceMethod_spec h1
  obtain ⟨meth', c, hm', -, -, -, -, -, -, hsig⟩ := Cond.code_spec hn h2
  cases hm.symm.trans hm'
  simp [Cond.before, Cond.holds, Cond.value, hn, hm, hst, hsig]
def va_Ls (C n d : String) (A : Nat → Prop) (U : State) (H : Heap) : Prop := ∃ (c : ClassId) (k : Class) (i : Nat) (f : Field) (a : Nat) (cell : Cell), U.vm.findClass C = some c ∧ U.fieldFound? C n d = some (c, k, i, f) ∧ f.isStatic = true ∧ k.statics = some a ∧ H[a]? = some cell ∧ cell.vm.isStatics = true ∧ cell.cls = c ∧ f.slot < cell.slots.size ∧ k.staticTypes[f.slot]? = some f.type ∧ ¬ A a
theorem va_Ls.moved {C n d : String} {A : Nat → Prop} {u U : State} {H : Heap} (hvm : u.vm.Alike U.vm) (h : va_Ls C n d A u H) : va_Ls C n d A U H := by
  obtain ⟨c, k, i, f, a, cell, h1, h2, h3, h4, h5, h6, h7, h8, h9, h10⟩ := h
  obtain ⟨k', hi', he⟩ := State.fieldFound?_setVm hvm h2
  exact ⟨c, k', i, f, a, cell, by rw [hvm.findClass]; exact h1, hi', h3, by rw [he]; exact h4, h5, h6, h7, h8, by rw [he]; exact h9, h10⟩
theorem va_Ls.kept {C n d : String} {A : Nat → Prop} {U : State} {H H1 : Heap} (h : va_Ls C n d A U H) (hq : ∀ a : Nat, a < H.size → ¬ A a → H1[a]? = H[a]?) : va_Ls C n d A U H1 := by
  obtain ⟨c, k, i, f, a, cell, h1, h2, h3, h4, h5, h6, h7, h8, h9, h10⟩ := h
  exact ⟨c, k, i, f, a, cell, h1, h2, h3, h4, by rw [hq a (Array.getElem?_eq_some_iff.mp h5).1 h10]; exact h5, h6, h7, h8, h9, h10⟩
theorem va_Ls.of {args : Array Value} {s : State} {C n d : String} {A : Nat → Prop} (hl : (Cond.laysStatic C n d).before args s = true) (hA : ∀ a : Nat, a < s.heap.size → ¬ A a) : va_Ls C n d A s s.heap := by
  obtain ⟨c, k, i, f, a, cell, hc, hi, hst, ha, hcell, hs, hcls, hlt, hty⟩ := Cond.laysStatic_spec hl
  exact ⟨c, k, i, f, a, cell, hc, hi, hst, ha, hcell, hs, hcls, hlt, hty, hA a (Array.getElem?_eq_some_iff.mp hcell).1⟩
theorem va_Ls.use {args : Array Value} {s : State} {C n d : String} {A : Nat → Prop} (h : va_Ls C n d A s s.heap) : (Cond.laysStatic C n d).before args s = true := by
  obtain ⟨c, k, i, f, a, cell, h1, h2, h3, h4, h5, h6, h7, h8, h9, h10⟩ := h
  simp [Cond.before, Cond.holds, Cond.value, h1, h2, h3, h4, h5, h6, h7, h8, h9]
def LSW (dI : Nat → Nat → Nat) (U : State) : Prop := va_Ls "java/lang/Throwable" "UNASSIGNED_STACK" "[Ljava/lang/StackTraceElement;" (fun q => dI 100 0 ≤ q) U U.heap ∧ va_Ls "java/lang/Throwable" "SUPPRESSED_SENTINEL" "Ljava/util/List;" (fun q => dI 100 0 ≤ q) U U.heap
theorem LSW.go {dI : Nat → Nat → Nat} {s : State} {A : Nat → Prop} {H : Heap} {locs : List Loc} (h : LSW dI s) (hS : va_S A s.heap H locs) (hAN : ∀ q, A q → dI 100 0 ≤ q) (U : State) (hU : U.heap = H) (hW : s.WarmedH U.vm) : LSW dI U := by
  obtain ⟨h1, h2⟩ := h
  subst hU
  have hq : ∀ a : Nat, a < s.heap.size → ¬ (dI 100 0 ≤ a) → U.heap[a]? = s.heap[a]? := fun a ha hn => hS.2.1 a ha (fun z => hn (hAN a z))
  exact ⟨(h1.kept hq).moved hW.alike, (h2.kept hq).moved hW.alike⟩
theorem LSW.rd {dI : Nat → Nat → Nat} {s : State} (h : LSW dI s) (U : State) (hU : U.heap = s.heap) (hW : s.WarmedH U.vm) : LSW dI U := h.go (A := fun _ => False) va_S.rf (fun _ h => h.elim) U hU hW
abbrev li_PrT (D : va_G) (cl : List vw_C) (tys : List (ClassId × FieldType)) (as : List Value) (B : Heap → Prop) : Array Value → State → Prop := va_Pc as (fun U => B U.heap ∧ va_K D cl tys U ∧ NW U ∧ GW D.2 U ∧ LSW D.2 U)
theorem li_fbT {D : va_G} {cl : List vw_C} {tys : List (ClassId × FieldType)} {as : List Value} {B : Heap → Prop} : FrameBlind (li_PrT D cl tys as B) :=
  fun a U g mk q => ⟨q.1, q.2.1, va_K.moved (u := U) (U := U.calling g mk a) (Vm.Alike.refl U.vm) q.2.2.1, NW.same (u := U) rfl q.2.2.2.1, q.2.2.2.2.1.calling, ⟨q.2.2.2.2.2.1.moved (u := U) (U := U.calling g mk a) (Vm.Alike.refl U.vm), q.2.2.2.2.2.2.moved (u := U) (U := U.calling g mk a) (Vm.Alike.refl U.vm)⟩⟩
theorem li_preST {s : State} {H : Heap} {D : va_G} {cl : List vw_C} {tys : List (ClassId × FieldType)} {As : List Value} {B : Heap → Prop} (hB : B H) (hK : va_K D cl tys s) (hN : NW s) (hG : ∀ U : State, U.heap = H → s.WarmedH U.vm → GW D.2 U) (hT : ∀ U : State, U.heap = H → s.WarmedH U.vm → LSW D.2 U) : PreS s H (li_PrT D cl tys As B) As :=
  ⟨li_fbT, fun U hU hW => ⟨rfl, by rw [hU]; exact hB, va_K.moved hW.alike hK, hN.warm hW, hG U hU hW, hT U hU hW⟩⟩
theorem li_preVT {s : State} {H : Heap} {D : va_G} {cl : List vw_C} {tys : List (ClassId × FieldType)} {C : String} {b : Nat} {As : List Value} {B : Heap → Prop} (hrc : ∃ cell : Cell, H[b]? = some cell ∧ cell.vm.isStatics = false ∧ s.vm.findClass C = some cell.cls) (hB : B H) (hK : va_K D cl tys s) (hN : NW s) (hG : ∀ U : State, U.heap = H → s.WarmedH U.vm → GW D.2 U) (hT : ∀ U : State, U.heap = H → s.WarmedH U.vm → LSW D.2 U) : PreV s H C b (li_PrT D cl tys (.ref b :: As) B) As :=
  ⟨li_fbT, hrc, fun U hU hW => ⟨rfl, by rw [hU]; exact hB, va_K.moved hW.alike hK, hN.warm hW, hG U hU hW, hT U hU hW⟩⟩
theorem hcells_same {s t : State} {k n : Nat} (h : s.sameButNew t [] k n) : s.heap.size ≤ t.heap.size ∧ ∀ a : Nat, a < s.heap.size → t.heap[a]? = s.heap[a]? := by
  obtain ⟨-, h2, -, -, -, h6⟩ := h
  refine ⟨h2, fun a ha => ?_⟩
  obtain ⟨c', e1, e2, e3, e4⟩ := h6 a _ (Array.getElem?_eq_getElem ha)
  rw [e1, Array.getElem?_eq_getElem ha, e2]
  have : c'.slots = (s.heap[a]).slots := Array.ext_getElem? (fun i => e4 i (by simp))
  rw [this]
theorem li_metT {l : Launch} (hl : l.stackTraces = false) {y : MethodName} {b : ByteArray} {n : Nat} {r : Option FieldType} {rm : Room} {D : va_G} {tys : List (ClassId × FieldType)} {as : List Value} {B : Heap → Prop} {X : String}
    (hy : plainName y.cls = true) (hn : (lg_sl as).length ≤ n)
    (body : ∀ (p : Program) (e : Env) (s : State) (m : MethodId) (below : List Frame) (meth : Method) (c : Code), li_C y b n r p s m as.toArray meth c → e.platform.stackTraces = false → (∀ k : Nat, ∀ x ∈ c.exceptionTable.toList, covers x k = false) → B s.heap → va_K D CL tys s → NW s → GW D.2 s → LSW D.2 s → ∀ ls : Array Slot, lv_has ls n (lv_args 0 as) → W p l e rm s m as.toArray below meth c s.heap [] 0 0 (TQ below X s) (F0 m 0 ls [])) :
    MetT l y (wsy y b n r) rm (li_PrT D CL tys as B) X := by
  refine MetFree.of_bodyS (code := b) (maxLocals := n) (ret := r) hy ?_ ?_
  · intro args s m h hn
    obtain ⟨meth, c, h1, h2, h3, h4, h5, h6, -, -⟩ := Cond.code_spec hn (atoms_spec (ws := wsy y b n r) h _ List.mem_cons_self)
    exact ⟨meth, c, h1, h2, h3, h4, h5, h6⟩
  · intro p e s m args below meth c s₁ B0 hml hv _
    obtain ⟨rfl, hB, hK, hN, hG, hT⟩ := hv
    have hh0 : s₁.heap = s.heap := by rw [B0.state]; rfl
    have X0 := Stand.of_body B0
    have htr : e.platform.stackTraces = false := by rw [Example.NoTraceControls.admits_follows X0.admits]; exact hl
    have hcode := atoms_spec (ws := wsy y b n r) B0.pre _ List.mem_cons_self
    have hl2 := lv_entry as (n := n) hn
    rw [lg_entry_eq]
    obtain ⟨t, a1, q, b1, b2, b3, b4⟩ := body p e s m below meth c ⟨B0.exec, B0.bytes, B0.returns, hml, findClass_of_methodNamed B0.named, fun w h => atoms_spec (ws := wsy y b n r) B0.pre w (List.mem_cons_of_mem _ h), B0.notSynchronized, (name_of_methodNamed B0.named B0.method).1⟩ htr (fun k => covers_of_empty (B0.noHandlers hcode) k) hB hK hN hG hT _ hl2 s₁ hh0 X0
    exact ⟨t, .threw q, a1, b1, b2, q, rfl, b3, b4⟩
section LTH
variable {p : Program} {l : Launch} {e : Env} {R : Room} {s : State} {m : MethodId} {args : Array Value} {below : List Frame} {meth : Method} {c : Code} {H : Heap} {locs : List Loc} {cells slots : Nat} {Q : State → Prop}
variable {cc : ByteArray} {pc : Nat} {ls : Array Slot} {rest st0 : List Value} {D : va_G} {cl : List vw_C} {A0 : Nat → Prop} {H0 : Heap} {ws : va_W}
set_option maxHeartbeats 1000000 in
theorem li_throw {X : String} (htr : e.platform.stackTraces = false) (hx : p.tables.exec = Jvm.exec) (hb : c.code = cc) (hml : c.maxLocals = ls.size) (hlocks : meth.locks = false) (hout : ∀ k : Nat, ∀ x ∈ c.exceptionTable.toList, covers x k = false) {own : String} {ix ik ic : Nat} (hown : s.vm.findClass own = some m.cls) (hX : Bundle.fit X = true)
    (hat : ∀ a ∈ Bundle.ownAtoms own ic X UPN, a.before args s = true) (hcl : (Cond.classLink own ix X).before args s = true) (hini : (Cond.initialized X).before args s = true) {tx : String} {ma : Nat} (hZ : vk_R own ik tx ma s)
    (d0 : decode cc pc = .ok (.new ix, 3)) (d1 : decode cc (pc + 3) = .ok (.dup, 1)) (d2 : decode cc (pc + 3 + 1) = .ok (.ldc ik, 2)) (d3 : decode cc (pc + 3 + 1 + 2) = .ok (.invokespecial ic, 3)) (d4 : decode cc (pc + 3 + 1 + 2 + 3) = .ok (.athrow, 1))
    (hf : 6 ≤ R.frames) (hlo : 82 ≤ R.locals) (hc : 1 ≤ R.cells) (hs : 6 ≤ R.slots) : W p l e R s m args below meth c s.heap [] 0 0 (TQ below X s) (F0 m pc ls []) := by
  intro T hT XX
  obtain ⟨vm₁, cX, kX, hfX, hkX, -, -, X₁, st1⟩ := XX.newCold hx (own := own) (C := X) (index := ix) (n := 6) hown hcl (hat (.instantiable X 6) (by simp [Bundle.ownAtoms])) hini (g := F0 m pc ls []) rfl (by rw [hb]; exact d0) (by omega) (by omega)
  have hcellA : ((T.setVm vm₁).pushCell { cls := cX, slots := kX.instanceTypes.map defaultValue, vm := .none }).heap[T.heap.size]? = some (freshCell cX kX) := State.heap_pushCell_size _ _
  generalize hT1 : (T.setVm vm₁).pushCell { cls := cX, slots := kX.instanceTypes.map defaultValue, vm := .none } = T1 at X₁ st1 hcellA
  have K : W p l e R s m args below meth c T1.heap [] (0 + 1) (0 + 6) (TQ below X s) (F0 m (pc + 3) ls [.ref T.heap.size]) := by
    refine lv_dup hx hb d1 rfl ?_
    refine va_ldcS hx hb hown hZ d2 ?_
    intro T2 hT2 X2
    obtain ⟨U, hsteps, hrun, hend, hW, hsame, ce, hce, KK⟩ := X2.ctorThrowS hx htr (own := own) (cls := X) (names := UPN) (ic := ic) hown hX (by decide +kernel) hat (fun y hy => by cases hy) hfX hkX (by rw [hT2]; exact hcellA) (by rw [hT]; exact Nat.le_refl _) (msg := .ref ma) rfl
      (g := F0 m (pc + 3 + 1 + 2) ls [.ref ma, .ref T.heap.size, .ref T.heap.size]) rfl (by rw [hml]) rfl rfl (rest := []) rfl (by rw [hb]; exact d3) (by rw [hb]; exact d4) (hout _) (by simp only [UPN, List.length_cons, List.length_nil]; omega) (by simp [UPN, Value.category, JFrame.monitorRoom]; omega) hlocks
    exact ⟨U, hsteps, T.heap.size, hrun, hend, ⟨⟨_, rfl⟩, hW, hsame⟩, by rw [hT]; exact Nat.le_refl _, ce, hce, by rw [KK.vm]; rfl, KK.cls⟩
  obtain ⟨t, a1, b1⟩ := K T1 rfl X₁
  exact ⟨t, st1 t a1, b1⟩
/-- a call that throws -/
def va_RunT (p : Program) (l : Launch) (e : Env) (R : Room) (s : State) (m : MethodId) (args : Array Value) (below : List Frame) (meth : Method) (c : Code) (H : Heap) (locs : List Loc) (cells slots : Nat) (g : JFrame) (rest : List Value) (X : String) : Prop :=
  ∀ T : State, T.heap = H → Stand p l e R s m args below meth c T locs cells slots → ∃ (q : Nat) (T' : State), Stand p l e R s m args below meth c T' locs (cells + 1) (slots + 6) ∧ H.size ≤ q ∧ H.size ≤ T'.heap.size ∧ (∀ a : Nat, a < H.size → T'.heap[a]? = H[a]?) ∧
    (∃ cell : Cell, T'.heap[q]? = some cell ∧ cell.vm.isStatics = false ∧ s.vm.findClass X = some cell.cls) ∧ Steps p.tables e below (T.setTop g) ((T'.setTop { g with stack := rest }).pushFrame (.throwing q))
def PostT (X : String) : Pt → Array Value → Addr → Pt → Prop := fun A _ q B => B.locs = A.locs ∧ B.cells = A.cells + 1 ∧ B.slots = A.slots + 6 ∧ A.U.heap.size ≤ q ∧ A.U.heap.size ≤ B.U.heap.size ∧ (∀ a : Nat, a < A.U.heap.size → B.U.heap[a]? = A.U.heap[a]?) ∧ ∃ cell : Cell, B.U.heap[q]? = some cell ∧ cell.vm.isStatics = false ∧ A.U.vm.findClass X = some cell.cls
theorem backT {sargs : Array Value} {y : MethodName} {len W9 : Nat} {wl : List Cond} {rm : Room} {Pc : Array Value → State → Prop} {X : String} {bytes : ByteArray} {maxL : Nat} {ret : Option FieldType}
    (hM : MetT l y wl rm Pc X) (hblind : FrameBlind Pc) (hrc : rm.cells = 1) (hrs : rm.slots = 6)
    (hframes : rm.frames + 1 ≤ R.frames) (hlocals : W9 + (maxL + 11) + rm.locals ≤ R.locals)
    (hws : ∀ w ∈ wl, ∀ a' U, s.WarmedH U.vm → w.before a' U = true) (hcode : Cond.code y bytes maxL ret ∈ wl) (hinit : ∀ a' U, s.WarmedH U.vm → (Cond.initialized y.cls).before a' U = true) :
    BackT l R p e below s sargs y len W9 (PreOf R 1 6 Pc) (PostT X) := by
  refine BackT.of_free (S := headSpec wl rm) (P := Pc) (K := fun _ _ _ _ _ => True) (bytes := bytes) (maxL := maxL) (ret := ret)
    (E := fun _ _ _ _ L k n => L = [] ∧ k = 1 ∧ n = 6) hM hframes hlocals ?_ ?_ (fun _ _ _ _ _ _ _ _ _ => trivial) ?_ ?_
  · intro m meth c A a X hp
    exact ⟨atoms_intro fun w hw => hws w hw _ _ X.warmed, hws _ hcode _ _ X.warmed, hinit _ _ X.warmed, by rw [show (headSpec wl rm).room.cells = 1 from hrc]; exact hp.1, by rw [show (headSpec wl rm).room.slots = 6 from hrs]; exact hp.2.1⟩
  · intro m meth c A a g mk X hp
    exact hblind _ _ _ _ hp.2.2
  · intro a st o t ⟨q, ho, hF, hq⟩
    subst ho
    exact ⟨[], 1, 6, hF, rfl, rfl, rfl⟩
  · intro m meth c A a g mk v t L k n XX hp hq hF ⟨e1, e2, e3⟩
    subst e1; subst e2; subst e3
    obtain ⟨q, ho, -, h1, cell, h2, h3, h4⟩ := hq
    cases ho
    obtain ⟨z1, z2⟩ := hcells_same hF.2.2
    exact ⟨List.append_nil _, rfl, rfl, h1, z1, z2, cell, h2, h3, h4⟩
variable {y : MethodName} {bytes : ByteArray} {maxL nL n index : Nat} {ret : Option FieldType} {wl : List Cond} {rm : Room} {Pc : Array Value → State → Prop} {Ts : List Cond} {own C : String} {b : Addr} {As : List Value} {g : JFrame} {X : String}
theorem li_runTV (S : CallFix p m c cc nL s args Ts own) (hM : MetT l y wl rm Pc X) (cw : CallW R s args own C index y bytes maxL ret wl rm 1 6 n) (hp : PreV s H C b Pc As)
    (hg : g.method = m) (hn : As.length = n) (hsize : g.locals.size = nL) (hstack : g.stack = As.reverse ++ .ref b :: rest) (hW : 2 * g.monitorRoom + (rest.map fun v => v.category).sum ≤ 8) (hdg : decode cc g.pc = .ok (.invokevirtual index, 3)) (hf : cells + 1 ≤ R.cells ∧ slots + 6 ≤ R.slots) :
    va_RunT p l e R s m args below meth c H locs cells slots g rest X := by
  obtain ⟨⟨hrc, hrs, hfr, hlo, hws, hcw, hcode, hini, hy, hlen, hl⟩, hin, hse⟩ := cw
  have hK : BackT l R p e below s args y 3 8 (PreOf R 1 6 Pc) (PostT X) := backT (bytes := bytes) (maxL := maxL) (ret := ret) hM hp.1 hrc hrs hfr hlo hws hcw (fun a' U hW => word_at hW (Or.inl (by first | rfl | simp [Cond.onTables, Cond.keeps, Cond.steady])) hini)
  obtain ⟨hx, hb, hml, ho, -⟩ := S
  obtain ⟨-, ⟨cellB, hcB, hoB, hclB⟩, hPc⟩ := hp
  intro T hT XX
  obtain ⟨mk, methM, hnamed, hmethM, hstM, habM⟩ := Cond.instanceMethod_spec hin
  obtain ⟨methM', cM, hmethM', -, -, -, -, -, -, hsigM⟩ := Cond.code_spec hnamed hcode
  cases hmethM.symm.trans hmethM'
  obtain ⟨c2, r2, m2, q1, q2, q3, q4, kP, hkP, hkPi⟩ := Cond.selects_spec hse
  cases hclB.symm.trans q1
  cases (State.methodFound?_of_named hnamed hy).symm.trans q2
  cases hnamed.symm.trans q3
  have hselP : selectMethod e.platform s.vm cellB.cls mk = .method mk := by rw [Launch.admits_selectMethod XX.admits]; exact q4
  obtain ⟨vm₁, X₁, hstep₁⟩ := XX.invokevirtual hx ho hl hnamed hmethM hstM hkP hkPi hy (a := b) (cell := cellB) (by rw [hT]; exact hcB)
    (fun z h => by rw [h] at hoB; cases hoB) hselP hmethM habM hkP hkPi (g := g) hg (argsL := As) (rest := rest) (hn.trans (hlen _ hsigM)) hstack (by rw [hb]; exact hdg)
  obtain ⟨q, ⟨U', l2, c2', s2⟩, X', ⟨f1, f2, f3, f4, f5, f6, cell, f7, f8, f9⟩, hsteps⟩ := hK m meth c ⟨T.setVm vm₁, locs, cells, slots⟩ { g with stack := rest } (.invokevirtual index) mk (Value.ref b :: As).toArray X₁ hg (hsize.trans hml.symm) (by rw [hb]; exact hdg) hW (X₁.named hnamed) ⟨hf.1, hf.2, hPc (T.setVm vm₁) hT X₁.warmed⟩
  dsimp only [Pt.U, Pt.locs, Pt.cells, Pt.slots] at X' f1 f2 f3 f4 f5 f6 f7 f9 hsteps
  subst f1; subst f2; subst f3
  have hT' : (T.setVm vm₁).heap = H := hT
  rw [hT'] at f4 f5 f6
  exact ⟨q, U', X', f4, f5, f6, ⟨cell, f7, f8, by rw [← X₁.warmed.alike.findClass]; exact f9⟩, hstep₁ _ fun acts => by rw [doInvoke_state]; exact hsteps⟩
theorem li_runTS (S : CallFix p m c cc nL s args Ts own) (hM : MetT l y wl rm Pc X) (cw : CallB R s args own index y bytes maxL ret wl rm 1 6 n ∧ (Cond.static y).before args s = true) (hp : PreS s H Pc As)
    (hg : g.method = m) (hn : As.length = n) (hsize : g.locals.size = nL) (hstack : g.stack = As.reverse ++ rest) (hW : 2 * g.monitorRoom + (rest.map fun v => v.category).sum ≤ 8) (hdg : decode cc g.pc = .ok (.invokestatic index, 3)) (hf : cells + 1 ≤ R.cells ∧ slots + 6 ≤ R.slots) :
    va_RunT p l e R s m args below meth c H locs cells slots g rest X := by
  obtain ⟨⟨hrc, hrs, hfr, hlo, hws, hcw, hcode, hini, hy, hlen, hl⟩, hstt⟩ := cw
  have hK : BackT l R p e below s args y 3 8 (PreOf R 1 6 Pc) (PostT X) := backT (bytes := bytes) (maxL := maxL) (ret := ret) hM hp.1 hrc hrs hfr hlo hws hcw (fun a' U hW => word_at hW (Or.inl (by first | rfl | simp [Cond.onTables, Cond.keeps, Cond.steady])) hini)
  obtain ⟨hx, hb, hml, ho, -⟩ := S
  intro T hT XX
  obtain ⟨mk, hnamed⟩ := Cond.code_named hcode
  obtain ⟨methM, cM, hmethM, -, -, -, -, -, -, hsigM⟩ := Cond.code_spec hnamed hcode
  have hstatic : methM.isStatic = true := Cond.static_spec hnamed hmethM hstt
  obtain ⟨kP, hkP, -⟩ := className_of_methodNamed hnamed
  have hinitP : kP.init = .initialized := Cond.initialized_spec (findClass_of_methodNamed hnamed) hkP hini
  obtain ⟨vm₁, X₁, hstep₁⟩ := XX.invokestatic hx ho hl hnamed hmethM hstatic hkP hinitP hy (g := g) hg (argsL := As) (rest := rest) (hn.trans (hlen _ hsigM)) hstack (by rw [hb]; exact hdg)
  obtain ⟨q, ⟨U', l2, c2', s2⟩, X', ⟨f1, f2, f3, f4, f5, f6, cell, f7, f8, f9⟩, hsteps⟩ := hK m meth c ⟨T.setVm vm₁, locs, cells, slots⟩ { g with stack := rest } (.invokestatic index) mk As.toArray X₁ hg (hsize.trans hml.symm) (by rw [hb]; exact hdg) hW (X₁.named hnamed) ⟨hf.1, hf.2, hp.2 (T.setVm vm₁) hT X₁.warmed⟩
  dsimp only [Pt.U, Pt.locs, Pt.cells, Pt.slots] at X' f1 f2 f3 f4 f5 f6 f7 f9 hsteps
  subst f1; subst f2; subst f3
  have hT' : (T.setVm vm₁).heap = H := hT
  rw [hT'] at f4 f5 f6
  exact ⟨q, U', X', f4, f5, f6, ⟨cell, f7, f8, by rw [← X₁.warmed.alike.findClass]; exact f9⟩, hstep₁ _ fun acts => by rw [doInvoke_state]; exact hsteps⟩
/-- out of the method -/
theorem li_throwOut (hr : va_RunT p l e R s m args below meth c s.heap [] 0 0 (F0 m pc ls st0) rest X) (hlocks : meth.locks = false) (hout : ∀ k : Nat, ∀ x ∈ c.exceptionTable.toList, covers x k = false) : W p l e R s m args below meth c s.heap [] 0 0 (TQ below X s) (F0 m pc ls st0) := by
  intro T hT XX
  obtain ⟨q, T', X', h1, h2, h3, ⟨cell, hc⟩, st⟩ := hr T hT XX
  obtain ⟨a1, a2, a3, a4, a5⟩ := X'.leaveThrown q (g := { F0 m pc ls st0 with stack := rest }) rfl rfl rfl (hout _) hlocks
  exact ⟨_, st.trans a1, q, a2, a3, ⟨⟨_, rfl⟩, a4, a5⟩, h1, cell, hc⟩
/-- into a handler, behind rows that are passed -/
theorem li_caught (hr : va_RunT p l e R s m args below meth c H locs cells slots (F0 m pc ls st0) rest X) (hown : s.vm.findClass own = some m.cls)
    (pre : List ExceptionTableEntry) (x : ExceptionTableEntry) (rest9 : List ExceptionTableEntry) (hsplit : c.exceptionTable.toList = pre ++ x :: rest9)
    (hpass : ∀ cX, s.vm.findClass X = some cX → ∀ y ∈ pre, y.catchType ≠ 0 ∧ ∃ name, (Cond.classLink own y.catchType name).before args s = true ∧ va_Nc X name s) (hx : covers x pc = true) (h0 : x.catchType ≠ 0)
    (hlink : (Cond.classLink own x.catchType X).before args s = true) (hcast : va_Nw (.castable X X) s)
    (hP : va_P D cl ws H) (hS : va_S A0 H0 H locs)
    (kk : ∀ (q : Nat) (H1 : Heap), va_P D cl ws H1 → va_S A0 H0 H1 locs → W p l e R s m args below meth c H1 locs (cells + 1) (slots + 6) Q (F0 m x.handlerPc ls [.ref q])) : W p l e R s m args below meth c H locs cells slots Q (F0 m pc ls st0) := by
  intro T hT XX
  obtain ⟨q, T', X', h1, h2, h3, ⟨cell, hc1, hc2, hc3⟩, st⟩ := hr T hT XX
  have hpl : e.platform.magicAccessors = ({} : Platform).magicAccessors := by rw [X'.admits.platform]
  obtain ⟨c3, c4, g3, g4, hasg⟩ := Cond.castable_spec (args := #[]) (s := s) hcast
  cases hc3.symm.trans g3
  cases hc3.symm.trans g4
  obtain ⟨hend, hk0⟩ := X'.catches_of_link hown h0 hlink hc3 hasg
  obtain ⟨vm', XV, stV⟩ := X'.thenCaughtThrough q (g := { F0 m pc ls st0 with stack := rest }) rfl st hc1 hc2 hk0 pre x rest9 hsplit (fun y hy => by
    obtain ⟨i0, nm, i1, cc9, ct9, i2, i3, i4⟩ := hpass _ hc3 y hy
    obtain ⟨c', hc', hcl⟩ := Cond.classLink_spec hown i1 e.platform hpl
    cases hc3.symm.trans i2
    cases i3.symm.trans hc'
    exact Or.inr ⟨i0, _, hcl, i4⟩) hx hend
  obtain ⟨t2, a1, b1⟩ := kk q T'.heap (hP.kept (fun k q hk => h3 _ ((hP k q hk).lt))) ⟨Nat.le_trans hS.1 h2, fun a ha hn => by rw [h3 a (Nat.lt_of_lt_of_le ha hS.1)]; exact hS.2.1 a ha hn, hS.2.2⟩ (T'.setVm vm') rfl XV
  exact ⟨t2, stV.trans a1, b1⟩
end LTH
theorem at_IAE {dI : Nat → Nat → Nat} {s : State} {args : Array Value} (hts : ∀ w ∈ TB, w.before args s = true) (hG : GW dI s) (hT : LSW dI s) : ∀ a ∈ Bundle.ownAtoms R_Q 78 IAE UPN, a.before args s = true :=
  List.forall_mem_cons.mpr ⟨hts _ (tk1 12 rfl rfl), List.forall_mem_cons.mpr ⟨hts _ (tk4 111 rfl rfl), List.forall_mem_cons.mpr ⟨hts _ (tk4 120 rfl rfl), List.forall_mem_cons.mpr ⟨hts _ (tk4 123 rfl rfl), List.forall_mem_cons.mpr ⟨hts _ (tk4 126 rfl rfl), List.forall_mem_cons.mpr ⟨hts _ (tk4 128 rfl rfl), List.forall_mem_cons.mpr ⟨hts _ (tk4 112 rfl rfl), List.forall_mem_cons.mpr ⟨hts _ (tk4 113 rfl rfl), List.forall_mem_cons.mpr ⟨hts _ (tk1 31 rfl rfl), List.forall_mem_cons.mpr ⟨hts _ (tk1 32 rfl rfl), List.forall_mem_cons.mpr ⟨hts _ (tk4 114 rfl rfl), List.forall_mem_cons.mpr ⟨hts _ (tk4 119 rfl rfl), List.forall_mem_cons.mpr ⟨hts _ (tk4 124 rfl rfl), List.forall_mem_cons.mpr ⟨hts _ (tk4 144 rfl rfl), List.forall_mem_cons.mpr ⟨hts _ (tk4 101 rfl rfl), List.forall_mem_cons.mpr ⟨hts _ (tk4 145 rfl rfl), List.forall_mem_cons.mpr ⟨hts _ (tk4 103 rfl rfl), List.forall_mem_cons.mpr ⟨hts _ (tk4 146 rfl rfl), List.forall_mem_cons.mpr ⟨hts _ (tk4 105 rfl rfl), List.forall_mem_cons.mpr ⟨hts _ (tk4 115 rfl rfl), List.forall_mem_cons.mpr ⟨hT.1.use, List.forall_mem_cons.mpr ⟨hts _ (tk4 117 rfl rfl), List.forall_mem_cons.mpr ⟨hT.2.use, List.forall_mem_cons.mpr ⟨hts _ (tk4 107 rfl rfl), List.forall_mem_cons.mpr ⟨hts _ (tk4 140 rfl rfl), List.forall_mem_cons.mpr ⟨hts _ (tk4 141 rfl rfl), List.forall_mem_cons.mpr ⟨hts _ (tk4 143 rfl rfl), List.forall_mem_cons.mpr ⟨hts _ (tk4 107 rfl rfl), List.forall_mem_cons.mpr ⟨hts _ (tk4 131 rfl rfl), List.forall_mem_cons.mpr ⟨hts _ (tk4 132 rfl rfl), List.forall_mem_cons.mpr ⟨hts _ (tk4 133 rfl rfl), List.forall_mem_cons.mpr ⟨hts _ (tk4 134 rfl rfl), List.forall_mem_cons.mpr ⟨decl_of (hts _ (tk4 134 rfl rfl)) (hts _ (tk4 135 rfl rfl)), List.forall_mem_cons.mpr ⟨hts _ (tk4 134 rfl rfl), List.forall_mem_cons.mpr ⟨hts _ (tk4 135 rfl rfl), List.forall_mem_cons.mpr ⟨hts _ (tk4 136 rfl rfl), List.forall_mem_cons.mpr ⟨hts _ (tk4 137 rfl rfl), List.forall_mem_cons.mpr ⟨decl_of (hts _ (tk4 137 rfl rfl)) (hts _ (tk4 138 rfl rfl)), List.forall_mem_cons.mpr ⟨hts _ (tk4 137 rfl rfl), List.forall_mem_cons.mpr ⟨hts _ (tk4 138 rfl rfl), List.forall_mem_cons.mpr ⟨hts _ (tk4 139 rfl rfl), List.forall_mem_cons.mpr ⟨hts _ (tk4 140 rfl rfl), List.forall_mem_cons.mpr ⟨decl_of (hts _ (tk4 140 rfl rfl)) (hts _ (tk4 141 rfl rfl)), List.forall_mem_cons.mpr ⟨hts _ (tk4 130 rfl rfl), List.forall_mem_cons.mpr ⟨hts _ (tk4 90 rfl rfl), List.forall_mem_cons.mpr ⟨hG.2.2.2.2.2.2.2.2.2.2.2.1.use rfl, List.forall_mem_cons.mpr ⟨hts _ (tk4 98 rfl rfl), List.forall_mem_cons.mpr ⟨hts _ (tk4 99 rfl rfl), List.forall_mem_cons.mpr ⟨hts _ (tk4 100 rfl rfl), List.forall_mem_cons.mpr ⟨hts _ (tk4 102 rfl rfl), List.forall_mem_cons.mpr ⟨hts _ (tk4 104 rfl rfl), List.forall_mem_cons.mpr ⟨hts _ (tk4 106 rfl rfl), List.forall_mem_cons.mpr ⟨isref_of hG.2.2.2.2.1, List.forall_mem_cons.mpr ⟨isref_of hG.2.2.2.2.2.1, List.forall_mem_cons.mpr ⟨hts _ (tk4 110 rfl rfl), List.forall_mem_cons.mpr ⟨hts _ (tk4 109 rfl rfl), List.forall_mem_cons.mpr ⟨hts _ (tk4 108 rfl rfl), fun _ h => absurd h List.not_mem_nil⟩⟩⟩⟩⟩⟩⟩⟩⟩⟩⟩⟩⟩⟩⟩⟩⟩⟩⟩⟩⟩⟩⟩⟩⟩⟩⟩⟩⟩⟩⟩⟩⟩⟩⟩⟩⟩⟩⟩⟩⟩⟩⟩⟩⟩⟩⟩⟩⟩⟩⟩⟩⟩⟩⟩⟩⟩
theorem at_ISE {dI : Nat → Nat → Nat} {s : State} {args : Array Value} (hts : ∀ w ∈ TB, w.before args s = true) (hG : GW dI s) (hT : LSW dI s) : ∀ a ∈ Bundle.ownAtoms R_Q 88 ISE UPN, a.before args s = true :=
  List.forall_mem_cons.mpr ⟨hts _ (tk1 12 rfl rfl), List.forall_mem_cons.mpr ⟨hts _ (tk4 111 rfl rfl), List.forall_mem_cons.mpr ⟨hts _ (tk4 120 rfl rfl), List.forall_mem_cons.mpr ⟨hts _ (tk4 123 rfl rfl), List.forall_mem_cons.mpr ⟨hts _ (tk4 126 rfl rfl), List.forall_mem_cons.mpr ⟨hts _ (tk4 128 rfl rfl), List.forall_mem_cons.mpr ⟨hts _ (tk4 112 rfl rfl), List.forall_mem_cons.mpr ⟨hts _ (tk4 113 rfl rfl), List.forall_mem_cons.mpr ⟨hts _ (tk1 31 rfl rfl), List.forall_mem_cons.mpr ⟨hts _ (tk1 32 rfl rfl), List.forall_mem_cons.mpr ⟨hts _ (tk4 114 rfl rfl), List.forall_mem_cons.mpr ⟨hts _ (tk4 119 rfl rfl), List.forall_mem_cons.mpr ⟨hts _ (tk4 124 rfl rfl), List.forall_mem_cons.mpr ⟨hts _ (tk4 144 rfl rfl), List.forall_mem_cons.mpr ⟨hts _ (tk4 101 rfl rfl), List.forall_mem_cons.mpr ⟨hts _ (tk4 145 rfl rfl), List.forall_mem_cons.mpr ⟨hts _ (tk4 103 rfl rfl), List.forall_mem_cons.mpr ⟨hts _ (tk4 146 rfl rfl), List.forall_mem_cons.mpr ⟨hts _ (tk4 105 rfl rfl), List.forall_mem_cons.mpr ⟨hts _ (tk4 115 rfl rfl), List.forall_mem_cons.mpr ⟨hT.1.use, List.forall_mem_cons.mpr ⟨hts _ (tk4 117 rfl rfl), List.forall_mem_cons.mpr ⟨hT.2.use, List.forall_mem_cons.mpr ⟨hts _ (tk4 107 rfl rfl), List.forall_mem_cons.mpr ⟨hts _ (tk4 140 rfl rfl), List.forall_mem_cons.mpr ⟨hts _ (tk4 141 rfl rfl), List.forall_mem_cons.mpr ⟨hts _ (tk4 143 rfl rfl), List.forall_mem_cons.mpr ⟨hts _ (tk4 107 rfl rfl), List.forall_mem_cons.mpr ⟨hts _ (tk4 166 rfl rfl), List.forall_mem_cons.mpr ⟨hts _ (tk4 167 rfl rfl), List.forall_mem_cons.mpr ⟨hts _ (tk4 168 rfl rfl), List.forall_mem_cons.mpr ⟨hts _ (tk4 134 rfl rfl), List.forall_mem_cons.mpr ⟨decl_of (hts _ (tk4 134 rfl rfl)) (hts _ (tk4 135 rfl rfl)), List.forall_mem_cons.mpr ⟨hts _ (tk4 134 rfl rfl), List.forall_mem_cons.mpr ⟨hts _ (tk4 135 rfl rfl), List.forall_mem_cons.mpr ⟨hts _ (tk4 136 rfl rfl), List.forall_mem_cons.mpr ⟨hts _ (tk4 137 rfl rfl), List.forall_mem_cons.mpr ⟨decl_of (hts _ (tk4 137 rfl rfl)) (hts _ (tk4 138 rfl rfl)), List.forall_mem_cons.mpr ⟨hts _ (tk4 137 rfl rfl), List.forall_mem_cons.mpr ⟨hts _ (tk4 138 rfl rfl), List.forall_mem_cons.mpr ⟨hts _ (tk4 139 rfl rfl), List.forall_mem_cons.mpr ⟨hts _ (tk4 140 rfl rfl), List.forall_mem_cons.mpr ⟨decl_of (hts _ (tk4 140 rfl rfl)) (hts _ (tk4 141 rfl rfl)), List.forall_mem_cons.mpr ⟨hts _ (tk4 165 rfl rfl), List.forall_mem_cons.mpr ⟨hts _ (tk4 156 rfl rfl), List.forall_mem_cons.mpr ⟨hG.2.2.2.2.2.2.2.2.2.2.2.2.use rfl, List.forall_mem_cons.mpr ⟨hts _ (tk4 158 rfl rfl), List.forall_mem_cons.mpr ⟨hts _ (tk4 122 rfl rfl), List.forall_mem_cons.mpr ⟨hts _ (tk4 159 rfl rfl), List.forall_mem_cons.mpr ⟨hts _ (tk4 160 rfl rfl), List.forall_mem_cons.mpr ⟨hts _ (tk4 161 rfl rfl), List.forall_mem_cons.mpr ⟨hts _ (tk4 162 rfl rfl), List.forall_mem_cons.mpr ⟨isref_of hG.2.2.2.2.1, List.forall_mem_cons.mpr ⟨isref_of hG.2.2.2.2.2.1, List.forall_mem_cons.mpr ⟨hts _ (tk4 110 rfl rfl), List.forall_mem_cons.mpr ⟨hts _ (tk4 109 rfl rfl), List.forall_mem_cons.mpr ⟨hts _ (tk4 163 rfl rfl), fun _ h => absurd h List.not_mem_nil⟩⟩⟩⟩⟩⟩⟩⟩⟩⟩⟩⟩⟩⟩⟩⟩⟩⟩⟩⟩⟩⟩⟩⟩⟩⟩⟩⟩⟩⟩⟩⟩⟩⟩⟩⟩⟩⟩⟩⟩⟩⟩⟩⟩⟩⟩⟩⟩⟩⟩⟩⟩⟩⟩⟩⟩⟩

/-! methods with a table of handlers -/
abbrev wsw (y : MethodName) (b : ByteArray) (n : Nat) (r : Option FieldType) (hh : List (Nat × Nat × Nat × Nat)) : List Cond := Cond.codeWith y b n r hh :: TB
theorem giW {y : MethodName} {b : ByteArray} {n : Nat} {r : Option FieldType} {hh : List (Nat × Nat × Nat × Nat)} (h : Cond.codeWith y b n r hh ∈ TB) : ∀ w ∈ wsw y b n r hh, w ∈ TB := fun w hw => by
  rcases List.mem_cons.mp hw with rfl | h2
  · exact h
  · exact h2
theorem li_metW {l : Launch} {y : MethodName} {b : ByteArray} {n : Nat} {r : Option FieldType} {hh : List (Nat × Nat × Nat × Nat)} {rm : Room} {D : va_G} {tys : List (ClassId × FieldType)} {as : List Value} {B : Heap → Prop} {Qc : Array Value → State → Outcome → State → Prop} {mc ms : Nat} {free : Addr → Prop}
    (hy : plainName y.cls = true) (hn : (lg_sl as).length ≤ n)
    (body : ∀ (p : Program) (e : Env) (s : State) (m : MethodId) (below : List Frame) (meth : Method) (c : Code), li_C y b n r p s m as.toArray meth c → c.exceptionTable.toList = tableOf hh → B s.heap → va_K D CL tys s → NW s → GW D.2 s → ∀ ls : Array Slot, lv_has ls n (lv_args 0 as) → W p l e rm s m as.toArray below meth c s.heap [] 0 0 (MQ below Qc as.toArray s mc ms free) (F0 m 0 ls [])) :
    Met l y (wsw y b n r hh) rm (li_Pr D CL tys as B) Qc mc ms free := by
  refine va_MetW (cc := b) (maxL := n) (ret := r) (hh := hh) hy rfl ?_
  intro p e s m args below meth c s₁ B0 hml hv
  obtain ⟨rfl, hB, hK, hN, hG⟩ := hv
  have hl := lv_entry as (n := n) hn
  have X0 := Stand.of_body B0
  have htab : c.exceptionTable.toList = tableOf hh := by
    obtain ⟨m9, meth9, c9, e1, e2, e3, -, -, e4, -⟩ := Cond.codeWith_spec (atoms_spec (ws := wsw y b n r hh) B0.pre _ List.mem_cons_self)
    cases B0.named.symm.trans e1
    cases B0.method.symm.trans e2
    cases X0.code.symm.trans e3
    rw [← e4, table_eq]
  rw [lg_entry_eq]
  exact body p e s m below meth c ⟨B0.exec, B0.bytes, B0.returns, hml, findClass_of_methodNamed B0.named, fun w h => atoms_spec (ws := wsw y b n r hh) B0.pre w (List.mem_cons_of_mem _ h), B0.notSynchronized, (name_of_methodNamed B0.named B0.method).1⟩ htab hB hK hN hG _ hl
theorem li_mwiW {S : Type} {l : Launch} {y : MethodName} {b : ByteArray} {n d mc ms sz : Nat} {ty : FieldType} {hh : List (Nat × Nat × Nat × Nat)} {D : va_G} {tys : List (ClassId × FieldType)} {as : List Value} {w0 : va_W} {Bx : Heap → Prop} {post : S → Prop} {w1 : S → va_W} {r : S → Int}
    (hy : plainName y.cls = true) (hn : (lg_sl as).length ≤ n) (hnar : ∀ u, post u → narrow ty (.int (iI (r u))) = .int (iI (r u)))
    (body : ∀ (p : Program) (e : Env) (s : State) (m : MethodId) (args : Array Value) (below : List Frame) (meth : Method) (c : Code) (Q : State → Prop) (A : Nat → Prop), li_C y b n (some ty) p s m args meth c → c.exceptionTable.toList = tableOf hh → va_P D CL w0 s.heap → va_D A w0 → Bx s.heap → va_K D CL tys s → NW s → GW D.2 s → (∀ q, s.heap.size ≤ q → A q) → (∀ q, A q → (∃ (k : Nat) (e : va_E), w0[k]? = some (q, e)) ∨ s.heap.size ≤ q) → (∀ q, A q → D.2 100 0 ≤ q) →
      (∀ (u : S) (z : Int) (H : Heap) (locs : List Loc) (pc : Nat) (ls : Array Slot), z = r u → post u → va_P D CL (w1 u) H → va_D A (w1 u) → va_S A s.heap H locs → decode b pc = .ok (.ireturn, 1) → W p l e (rmd d mc ms) s m args below meth c H locs mc ms Q (F0 m pc ls [.int (iI z)])) →
      ∀ ls : Array Slot, lv_has ls n (lv_args 0 as) → W p l e (rmd d mc ms) s m args below meth c s.heap [] 0 0 Q (F0 m 0 ls [])) :
    Met l y (wsw y b n (some ty) hh) (rmd d mc ms) (li_Pr D CL tys as (fun h => h.size = sz ∧ va_P D CL w0 h ∧ va_D (fun q => D.2 100 0 ≤ q) w0 ∧ Bx h)) (li_Qw D CL post (fun u => some (.int (iI (r u)))) w1 (va_A w0 sz)) mc ms (va_A w0 sz) := by
  refine li_metW hy hn ?_
  intro p e s m below meth c C htab hB hK hN hG ls hl
  obtain ⟨hsz, hP, hD, hBx⟩ := hB
  subst hsz
  refine body p e s m _ below meth c _ (va_A w0 s.heap.size) C htab hP (hD.self) hBx hK hN hG (fun q h => Or.inr h) (fun q h => h) (fun q h => by rcases h with ⟨k, e, h⟩ | h; (exact hD.2 k _ h); exact Nat.le_trans hG.1 h) ?_ ls hl
  intro u z H locs pc ls ez hp hP1 hD1 hS hd
  subst ez
  obtain ⟨hx, hb, hr, hml, hown, hts, hlocks, hin⟩ := C
  exact W.zret hx hb hr (hnar u hp) (fun t ht hW => ⟨u, rfl, hp, by rw [ht]; exact hP1, hD1, hS.F ht⟩) hS.2.2 hd
theorem li_metWT {l : Launch} {y : MethodName} {b : ByteArray} {n : Nat} {r : Option FieldType} {hh : List (Nat × Nat × Nat × Nat)} {rm : Room} {D : va_G} {tys : List (ClassId × FieldType)} {as : List Value} {B : Heap → Prop} {Qc : Array Value → State → Outcome → State → Prop} {mc ms : Nat} {free : Addr → Prop}
    (hy : plainName y.cls = true) (hn : (lg_sl as).length ≤ n)
    (body : ∀ (p : Program) (e : Env) (s : State) (m : MethodId) (below : List Frame) (meth : Method) (c : Code), li_C y b n r p s m as.toArray meth c → c.exceptionTable.toList = tableOf hh → B s.heap → va_K D CL tys s → NW s → GW D.2 s → LSW D.2 s → ∀ ls : Array Slot, lv_has ls n (lv_args 0 as) → W p l e rm s m as.toArray below meth c s.heap [] 0 0 (MQ below Qc as.toArray s mc ms free) (F0 m 0 ls [])) :
    Met l y (wsw y b n r hh) rm (li_PrT D CL tys as B) Qc mc ms free := by
  refine va_MetW (cc := b) (maxL := n) (ret := r) (hh := hh) hy rfl ?_
  intro p e s m args below meth c s₁ B0 hml hv
  obtain ⟨rfl, hB, hK, hN, hG, hT⟩ := hv
  have hl := lv_entry as (n := n) hn
  have X0 := Stand.of_body B0
  have htab : c.exceptionTable.toList = tableOf hh := by
    obtain ⟨m9, meth9, c9, e1, e2, e3, -, -, e4, -⟩ := Cond.codeWith_spec (atoms_spec (ws := wsw y b n r hh) B0.pre _ List.mem_cons_self)
    cases B0.named.symm.trans e1
    cases B0.method.symm.trans e2
    cases X0.code.symm.trans e3
    rw [← e4, table_eq]
  rw [lg_entry_eq]
  exact body p e s m below meth c ⟨B0.exec, B0.bytes, B0.returns, hml, findClass_of_methodNamed B0.named, fun w h => atoms_spec (ws := wsw y b n r hh) B0.pre w (List.mem_cons_of_mem _ h), B0.notSynchronized, (name_of_methodNamed B0.named B0.method).1⟩ htab hB hK hN hG hT _ hl
theorem li_mwiWT {S : Type} {l : Launch} {y : MethodName} {b : ByteArray} {n d mc ms sz : Nat} {ty : FieldType} {hh : List (Nat × Nat × Nat × Nat)} {D : va_G} {tys : List (ClassId × FieldType)} {as : List Value} {w0 : va_W} {Bx : Heap → Prop} {post : S → Prop} {w1 : S → va_W} {r : S → Int}
    (hy : plainName y.cls = true) (hn : (lg_sl as).length ≤ n) (hnar : ∀ u, post u → narrow ty (.int (iI (r u))) = .int (iI (r u)))
    (body : ∀ (p : Program) (e : Env) (s : State) (m : MethodId) (args : Array Value) (below : List Frame) (meth : Method) (c : Code) (Q : State → Prop) (A : Nat → Prop), li_C y b n (some ty) p s m args meth c → c.exceptionTable.toList = tableOf hh → va_P D CL w0 s.heap → va_D A w0 → Bx s.heap → va_K D CL tys s → NW s → GW D.2 s → LSW D.2 s → (∀ q, s.heap.size ≤ q → A q) → (∀ q, A q → (∃ (k : Nat) (e : va_E), w0[k]? = some (q, e)) ∨ s.heap.size ≤ q) → (∀ q, A q → D.2 100 0 ≤ q) →
      (∀ (u : S) (z : Int) (H : Heap) (locs : List Loc) (pc : Nat) (ls : Array Slot), z = r u → post u → va_P D CL (w1 u) H → va_D A (w1 u) → va_S A s.heap H locs → decode b pc = .ok (.ireturn, 1) → W p l e (rmd d mc ms) s m args below meth c H locs mc ms Q (F0 m pc ls [.int (iI z)])) →
      ∀ ls : Array Slot, lv_has ls n (lv_args 0 as) → W p l e (rmd d mc ms) s m args below meth c s.heap [] 0 0 Q (F0 m 0 ls [])) :
    Met l y (wsw y b n (some ty) hh) (rmd d mc ms) (li_PrT D CL tys as (fun h => h.size = sz ∧ va_P D CL w0 h ∧ va_D (fun q => D.2 100 0 ≤ q) w0 ∧ Bx h)) (li_Qw D CL post (fun u => some (.int (iI (r u)))) w1 (va_A w0 sz)) mc ms (va_A w0 sz) := by
  refine li_metWT hy hn ?_
  intro p e s m below meth c C htab hB hK hN hG hT ls hl
  obtain ⟨hsz, hP, hD, hBx⟩ := hB
  subst hsz
  refine body p e s m _ below meth c _ (va_A w0 s.heap.size) C htab hP (hD.self) hBx hK hN hG hT (fun q h => Or.inr h) (fun q h => h) (fun q h => by rcases h with ⟨k, e, h⟩ | h; (exact hD.2 k _ h); exact Nat.le_trans hG.1 h) ?_ ls hl
  intro u z H locs pc ls ez hp hP1 hD1 hS hd
  subst ez
  obtain ⟨hx, hb, hr, hml, hown, hts, hlocks, hin⟩ := C
  exact W.zret hx hb hr (hnar u hp) (fun t ht hW => ⟨u, rfl, hp, by rw [ht]; exact hP1, hD1, hS.F ht⟩) hS.2.2 hd
section LSW
variable {p : Program} {l : Launch} {e : Env} {R : Room} {s : State} {m : MethodId} {args : Array Value} {below : List Frame} {meth : Method} {c : Code} {H : Heap} {locs : List Loc} {cells slots : Nat} {Q : State → Prop}
variable {cc bytes : ByteArray} {rest : List Value} {y : MethodName} {maxL nL n index mc ms : Nat} {ret : Option FieldType} {hh : List (Nat × Nat × Nat × Nat)} {rm : Room} {Pc : Array Value → State → Prop} {Qc : Array Value → State → Outcome → State → Prop} {free : Addr → Prop} {own : String} {As : List Value} {g : JFrame}
theorem li_runSW (S : CallFix p m c cc nL s args TB own) (hM : Met l y (wsw y bytes maxL ret hh) rm Pc Qc mc ms free) (hk : Cond.codeWith y bytes maxL ret hh ∈ TB) (hini : Cond.initialized y.cls ∈ TB) (hstt : Cond.static y ∈ TB) (hlk : Cond.methodLink own index y ∈ TB) (hrc : rm.cells = mc) (hrs : rm.slots = ms)
    (hd : y.cls ≠ "java/lang/invoke/MethodHandle" ∧ y.cls ≠ "java/lang/invoke/VarHandle" ∧ (parseMethodDescriptor y.desc).map (fun d => d.parameters.length) = some n) (hR : rm.frames + 1 ≤ R.frames ∧ 8 + (maxL + 11) + rm.locals ≤ R.locals) (hp : PreS s H Pc As)
    (hg : g.method = m) (hn : As.length = n) (hsize : g.locals.size = nL) (hstack : g.stack = As.reverse ++ rest) (hW : 2 * g.monitorRoom + (rest.map fun v => v.category).sum ≤ 8) (hdg : decode cc g.pc = .ok (.invokestatic index, 3)) (hf : cells + mc ≤ R.cells ∧ slots + ms ≤ R.slots) :
    va_Run p l e R s m args below meth c H locs cells slots mc ms g rest (Qc As.toArray) free := by
  obtain ⟨hx, hb, hml, ho, hts⟩ := S
  have hcode := hts _ hk
  have hK : Back l R p e below s args y 3 8 (PreOf R mc ms Pc) (PostOf Qc mc ms free) := va_backW (hh := hh) (bytes := bytes) (maxL := maxL) (ret := ret) hM hp.1 hrc hrs hR.1 hR.2 (fun w hw a' U hW => word_at hW (TB_good w (giW hk w hw)) (hts w (giW hk w hw))) List.mem_cons_self (fun a' U hW => word_at hW (TB_good _ hini) (hts _ hini))
  intro T hT XX
  obtain ⟨mk, methM, cM, hnamed, hmethM, -, -, -, -, -, -, hsigM⟩ := Cond.codeWith_spec hcode
  have hstatic : methM.isStatic = true := Cond.static_spec hnamed hmethM (hts _ hstt)
  obtain ⟨kP, hkP, -⟩ := className_of_methodNamed hnamed
  have hinitP : kP.init = .initialized := Cond.initialized_spec (findClass_of_methodNamed hnamed) hkP (hts _ hini)
  have hl9 : As.length = methM.sig.parameters.length := by
    have h2 := hd.2.2
    rw [hsigM] at h2
    exact hn.trans (Option.some.inj h2).symm
  obtain ⟨vm₁, X₁, hstep₁⟩ := XX.invokestatic hx ho (hts _ hlk) hnamed hmethM hstatic hkP hinitP ⟨hd.1, hd.2.1⟩ (g := g) hg (argsL := As) (rest := rest) hl9 hstack (by rw [hb]; exact hdg)
  obtain ⟨v, ⟨U', l2, c2, s2⟩, X', ⟨g', mk', t, L, e1, e2, hq, h1, hL, h2, h3⟩, hsteps⟩ := hK m meth c ⟨T.setVm vm₁, locs, cells, slots⟩ { g with stack := rest } (.invokestatic index) mk As.toArray X₁ hg (hsize.trans hml.symm) (by rw [hb]; exact hdg) hW (X₁.named hnamed) ⟨hf.1, hf.2, hp.2 (T.setVm vm₁) hT X₁.warmed⟩
  dsimp only [Pt.U, Pt.locs, Pt.cells, Pt.slots] at X' e1 e2 h1 h2 h3 hsteps
  subst h1; subst h2; subst h3
  exact ⟨v, (T.setVm vm₁).calling g' mk' As.toArray, t, U', L, hT, X', hL, e1, e2, hq, fun t2 h => hstep₁ _ fun acts => by rw [doInvoke_state]; exact hsteps.trans h⟩
end LSW
def lI (z : Int) : Int64 := (iI z).toInt64
theorem kw_Z_feed : Cond.codeWith y_Z_feed b_Z_feed 8 (some .int) [(0, 16, 19, 13), (0, 16, 23, 15)] ∈ TB := tk4 82 rfl rfl
theorem kw_Z_cut : Cond.codeWith y_Z_cut b_Z_cut 4 (some .int) [(0, 9, 12, 13)] ∈ TB := tk4 180 rfl rfl
theorem kw_Z_drop : Cond.codeWith y_Z_drop b_Z_drop 4 (some .int) [(0, 16, 19, 13)] ∈ TB := tk4 188 rfl rfl
theorem kw_Z_type : Cond.codeWith y_Z_type b_Z_type 8 (some .int) [(0, 16, 19, 15)] ∈ TB := tk4 203 rfl rfl
theorem kw_Z_record : Cond.codeWith y_Z_record b_Z_record 5 (some .int) [(0, 10, 13, 13)] ∈ TB := tk4 218 rfl rfl
theorem kw_Z_octet : Cond.codeWith y_Z_octet b_Z_octet 5 (some .int) [(0, 10, 13, 13)] ∈ TB := tk4 231 rfl rfl
theorem kw_Z_words : Cond.codeWith y_Z_words b_Z_words 4 (some .int) [(0, 9, 12, 13)] ∈ TB := tk4 238 rfl rfl
theorem kw_Z_word : Cond.codeWith y_Z_word b_Z_word 6 (some .int) [(0, 12, 15, 13)] ∈ TB := tk5 53 rfl rfl
theorem kw_Z_hits : Cond.codeWith y_Z_hits b_Z_hits 5 (some .int) [(0, 10, 13, 13)] ∈ TB := tk5 64 rfl rfl
theorem kw_Z_below : Cond.codeWith y_Z_below b_Z_below 4 (some .int) [(0, 9, 12, 13)] ∈ TB := tk5 81 rfl rfl

/-! string constants: their characters -/
def k0_Qc : Array Value → State → Outcome → State → Prop := fun _ st o t => o = .returned none ∧ t.heap = st.heap
theorem va_Pnil {D : va_G} {cl : List vw_C} {H : Heap} : va_P D cl [] H := fun k q h => by simp at h
theorem li_SN {A : Nat → Prop} {B : Nat → Prop} {H0 H : Heap} {locs : List Loc} (hS : va_S A H0 H locs) (h : ∀ q, A q → B q) : va_S B H0 H locs := ⟨hS.1, fun q h1 h2 => hS.2.1 q h1 (fun z => h2 (h q z)), fun l hl => h _ (hS.2.2 l hl)⟩
def strN : List (List Int) := [[45, 45, 45, 45, 45, 45, 45, 45, 32, 45, 50, 50, 45, 45, 45, 45, 45, 32, 32, 32, 52, 53, 48, 48], [97, 110, 100], [111, 114], [110, 111, 116], [115, 111, 114, 116, 98, 121], [100, 101, 115, 99, 101, 110, 100, 105, 110, 103], [97, 110, 121], [97, 108, 108], [97, 100, 106], [101, 120, 97, 99, 116], [116, 105, 116, 108, 101], [97, 117, 116, 104, 111, 114], [115, 117, 98, 106, 101, 99, 116], [100, 97, 116, 101], [105, 100], [109, 97, 110, 121, 32, 105, 115, 32, 110, 111, 116, 32, 48, 32, 46, 46, 32, 49, 54], [116, 104, 101, 114, 101, 32, 119, 111, 117, 108, 100, 32, 98, 101, 32, 109, 111, 114, 101, 32, 116, 104, 97, 110, 32, 52, 48, 48, 32, 98, 121, 116, 101, 115], [116, 104, 101, 114, 101, 32, 97, 114, 101, 32, 110, 111, 116, 32, 115, 111, 32, 109, 97, 110, 121, 32, 98, 121, 116, 101, 115], [114, 101, 99, 111, 114, 100, 32, 105, 115, 32, 110, 111, 116, 32, 48, 32, 46, 46, 32, 57], [116, 104, 101, 32, 108, 105, 110, 101, 32, 119, 111, 117, 108, 100, 32, 104, 97, 118, 101, 32, 109, 111, 114, 101, 32, 116, 104, 97, 110, 32, 49, 48, 48, 32, 99, 104, 97, 114, 97, 99, 116, 101, 114, 115], [119, 104, 97, 116, 32, 105, 115, 32, 110, 111, 116, 32, 48, 32, 46, 46, 32, 51], [105, 110, 100, 101, 120, 32, 105, 115, 32, 110, 111, 116, 32, 48, 32, 46, 46, 32, 53]]
def chS (i k : Nat) : Int := (strN.getD i []).getD k 0
theorem bytS_map : bytS = strN.map (fun l => l.map iI) := by decide +kernel
theorem byS_eq (i k : Nat) : (bytS.getD i []).getD k 0 = iI (chS i k) := by
  rw [bytS_map]
  unfold chS
  simp only [List.getD_eq_getElem?_getD, List.getElem?_map]
  cases h : strN[i]? with
  | none => simp; rfl
  | some l =>
    simp only [Option.map_some, Option.getD_some, List.getElem?_map]
    cases h2 : l[k]? with
    | none => simp; rfl
    | some v => simp
theorem strN_r : ∀ l ∈ strN, ∀ v ∈ l, (0 : Int) ≤ v ∧ v < 128 := by decide +kernel
theorem chS_r (i k : Nat) : 0 ≤ chS i k ∧ chS i k < 128 := by
  unfold chS
  simp only [List.getD_eq_getElem?_getD]
  cases h : strN[i]? with
  | none => simp
  | some l =>
    simp only [Option.getD_some]
    cases h2 : l[k]? with
    | none => simp
    | some v => simpa using strN_r l (List.mem_of_getElem? h) v (List.mem_of_getElem? h2)
theorem lenS_a : ∀ n ∈ lenS, n ≤ 100 := by decide +kernel
theorem lenS_b (i : Nat) : lenS.getD i 0 ≤ 100 := by
  simp only [List.getD_eq_getElem?_getD]
  cases h : lenS[i]? with
  | none => simp
  | some n => have := lenS_a n (List.mem_of_getElem? h); simp; omega
theorem lenS_r (i : Nat) : lenS.getD i 0 < 2147483648 := by have := lenS_b i; omega
theorem iI_and255 {v : Int} (h : 0 ≤ v ∧ v < 256) : iI v &&& iI 255 = iI v := by
  obtain ⟨k, rfl⟩ := Int.eq_ofNat_of_zero_le h.1
  rw [iI_nI]
  have e : iI 255 = 255 := rfl
  rw [e, pk_andN (by omega) 8 (by decide), Nat.mod_eq_of_lt (by omega)]
section STRR
variable {p : Program} {l : Launch} {e : Env} {R : Room} {s : State} {m : MethodId} {args : Array Value} {below : List Frame} {meth : Method} {c : Code} {H : Heap} {locs : List Loc} {cells slots : Nat} {Q : State → Prop} {cc : ByteArray} {pc : Nat} {ls : Array Slot} {rest : List Value}
theorem li_and255 (hx : p.tables.exec = Jvm.exec) (hb : c.code = cc) {v : Int} (hdg : decode cc pc = .ok (.iand, 1)) (h : 0 ≤ v ∧ v < 256) (k : W p l e R s m args below meth c H locs cells slots Q (F0 m (pc + 1) ls (.int (iI v) :: rest))) : W p l e R s m args below meth c H locs cells slots Q (F0 m pc ls (.int (iI 255) :: .int (iI v) :: rest)) := lv_iand hx hb hdg (by rw [iI_and255 h]; exact k)
theorem li_shr0 (hx : p.tables.exec = Jvm.exec) (hb : c.code = cc) {v : Int} (hdg : decode cc pc = .ok (.ishr, 1)) (k : W p l e R s m args below meth c H locs cells slots Q (F0 m (pc + 1) ls (.int (iI v) :: rest))) : W p l e R s m args below meth c H locs cells slots Q (F0 m pc ls (.int (iI 0) :: .int (iI v) :: rest)) := lv_ishr hx hb hdg (by rw [show iI 0 = (0 : Int32) from rfl, sb_shr0]; exact k)
theorem li_callrv {a : Array Value} {st0 : List Value} (hr : CallRun p l e R s m args below meth c H locs cells slots 0 0 (F0 m pc ls st0) rest (k0_Qc a) (fun _ => False)) (kk : W p l e R s m args below meth c H locs cells slots Q (F0 m (pc + 3) ls rest)) : W p l e R s m args below meth c H locs cells slots Q (F0 m pc ls st0) := by
  intro T hT X
  obtain ⟨v, st₀, t, T', L, h0, X', hL, e1, ⟨hv, hh⟩, st⟩ := hr T hT X
  cases hv
  obtain ⟨t2, a1, b1⟩ := kk T' (by rw [e1, hh, h0]) (Stand.forget X' (fun q h => (hL q h).elim))
  exact ⟨t2, st t2 a1, b1⟩
end STRR
/-- a method that reads alone, and answers nothing -/
theorem li_mrv {l : Launch} {y : MethodName} {b : ByteArray} {n d : Nat} {D : va_G} {tys : List (ClassId × FieldType)} {as : List Value} {B : Heap → Prop}
    (hy : plainName y.cls = true) (hn : (lg_sl as).length ≤ n)
    (body : ∀ (p : Program) (e : Env) (s : State) (m : MethodId) (args : Array Value) (below : List Frame) (meth : Method) (c : Code) (Q : State → Prop), li_C y b n none p s m args meth c → B s.heap → va_K D CL tys s → NW s → GW D.2 s →
      (∀ (pc : Nat) (ls : Array Slot), decode b pc = .ok (.return_, 1) → W p l e (rmd d 0 0) s m args below meth c s.heap [] 0 0 Q (F0 m pc ls [])) →
      ∀ ls : Array Slot, lv_has ls n (lv_args 0 as) → W p l e (rmd d 0 0) s m args below meth c s.heap [] 0 0 Q (F0 m 0 ls [])) :
    Met l y (wsy y b n none) (rmd d 0 0) (li_Pr D CL tys as B) k0_Qc 0 0 (fun _ => False) := by
  refine li_met hy hn ?_
  intro p e s m below meth c C hB hK hN hG ls hl
  refine body p e s m _ below meth c _ C hB hK hN hG ?_ ls hl
  intro pc ls hd
  obtain ⟨hx, hb, hr, hml, hown, hts, hlocks, hin⟩ := C
  exact W.vret hx hb hr (fun t ht hW => ⟨rfl, ht⟩) (fun q h => by cases h) hd

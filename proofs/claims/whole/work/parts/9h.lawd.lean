abbrev b_Z_law : ByteArray := code
def LCx (p : Program) (l : Launch) (s : State) (m : MethodId) (args : Array Value) (c : Code) (A : Nat → Prop) (dC : Nat → ClassId) (dI : Nat → Nat → Nat) (kA : Nat → ClassId) (b L : Nat) (xs : Nat → Int32) : Prop :=
  (p.tables.exec = Jvm.exec ∧ c.code = code ∧ c.maxLocals = 7 ∧ s.vm.findClass R_Z = some m.cls ∧ (∀ w ∈ TB, w.before args s = true)) ∧ va_K (dC, dI) CL (TY kA) s ∧ NW s ∧ GW dI s ∧ (∀ q, s.heap.size ≤ q → A q) ∧ (∀ q, A q → dI 100 0 ≤ q) ∧ va_X b L xs s s.heap ∧ b < s.heap.size ∧ ¬ A b ∧ L ≤ 3072 ∧ l.stackTraces = false ∧ LSW dI s
theorem dj_subP {ro X cx pl : va_W} (h : Dsj ro (X ++ pl)) (isC : List Nat) (hC : isC.map (fun i => X[i]?) = cx.map some) : Dsj ro cx := by
  intro q hq x hx
  obtain ⟨j, -, hj⟩ := dj_at hC hx
  exact h q hq x (List.mem_append_left _ (List.mem_of_getElem? hj))
theorem dj_subPP {ro X cx pl : va_W} (h : Dsj ro (X ++ pl)) (isC : List Nat) (hC : isC.map (fun i => X[i]?) = cx.map some) : Dsj ro (cx ++ pl) := by
  intro q hq x hx
  rcases List.mem_append.mp hx with hx | hx
  · obtain ⟨j, -, hj⟩ := dj_at hC hx
    exact h q hq x (List.mem_append_left _ (List.mem_of_getElem? hj))
  · exact h q hq x (List.mem_append_right _ hx)
section LLW
variable {p : Program} {l : Launch} {e : Env} {R : Room} {s : State} {m : MethodId} {args : Array Value} {below : List Frame} {meth : Method} {c : Code} {H : Heap} {locs : List Loc} {cells slots : Nat} {Q : State → Prop}
variable {cc : ByteArray} {pc : Nat} {ls : Array Slot} {rest st0 : List Value} {a : Array Value} {A0 : Nat → Prop} {H0 : Heap} {mc ms : Nat} {D : va_G}
theorem li_sld {A : Nat → Prop} {b L : Nat} {xs : Nat → Int32} {z v : Int} (hx : p.tables.exec = Jvm.exec) (hb : c.code = cc) (hX : va_X b L xs s s.heap) (hbl : b < s.heap.size) (hbA : ¬ A b) (hS : va_S A s.heap H locs) (z0 : 0 ≤ z) (z1 : z < L) (hL : L ≤ 3072) (hv : xs z.toNat = iI v) (hdg : decode cc pc = .ok (.iaload, 1))
    (kk : W p l e R s m args below meth c H locs cells slots Q (F0 m (pc + 1) ls (.int (iI v) :: rest))) : W p l e R s m args below meth c H locs cells slots Q (F0 m pc ls (.int (iI z) :: .ref b :: rest)) := by
  refine va_sld hx hb hX hbl hbA hS (i := iI z) (iI_in z0 z1 (by omega)) hdg ?_
  rw [iI_clamp z0 (by omega), hv]
  exact kk
theorem li_callQS {S : Type} {post : S → Prop} {r : S → Option Value} {w1 : S → va_W} {X cx wr pl : va_W} {kA : Nat → ClassId} {sv : Nat → Option HD} (hr : va_Run p l e R s m args below meth c H locs cells slots mc ms (F0 m pc ls st0) rest (li_Qw D CL post r w1 (va_A cx H.size) a) (va_A cx H.size))
    (hP : va_P D CL (X ++ pl) H) (hD : va_D A0 (X ++ pl)) (hS : va_S A0 H0 H locs) (hA : ∀ q, H0.size ≤ q → A0 q) (isC isR : List Nat) (hC : isC.map (fun i => X[i]?) = cx.map some) (hR : isR.map (fun i => X[i]?) = wr.map some) (hn : va_nd isR = true) (hdis : ∀ i ∈ isR, i ∉ isC) (hB : ShB D kA sv (X ++ pl) H)
    (kk : ∀ (u : S) (H1 : Heap) (locs1 : List Loc), post u → va_P D CL ((wr ++ w1 u) ++ pl) H1 → va_D A0 ((wr ++ w1 u) ++ pl) → va_S A0 H0 H1 locs1 → ShB D kA sv ((wr ++ w1 u) ++ pl) H1 → W p l e R s m args below meth c H1 locs1 (cells + mc) (slots + ms) Q (F0 m (pc + 3) ls ((r u).toList ++ rest))) : W p l e R s m args below meth c H locs cells slots Q (F0 m pc ls st0) := by
  intro T hT X9
  have hF : ∀ q, va_A cx H.size q → A0 q := by
    intro q h
    refine va_freeP hD hS hA isC hC q ?_
    rcases h with ⟨k, e, h⟩ | h
    · exact Or.inl ⟨k, e, by rw [List.getElem?_append_left (List.getElem?_eq_some_iff.mp h).1]; exact h⟩
    · exact Or.inr h
  obtain ⟨v, st₀, t, T', L, h0, X', hL, e1, e2, ⟨u, hv, hp, hP1, hD1, hz, hk⟩, st⟩ := hr T hT X9
  cases hv
  rw [h0] at hz hk
  have hP1' : va_P D CL (w1 u) T'.heap := by rw [e1]; exact hP1
  have hk' : ∀ q : Nat, q < H.size → ¬ va_A cx H.size q → T'.heap[q]? = H[q]? := fun q h1 h2 => by rw [e1]; exact hk q h1 h2
  obtain ⟨jP, jD⟩ := va_joinQ hP hD isC isR hC hR hn hdis hk' hF hP1' hD1
  have hB1 : ShB D kA sv ((wr ++ w1 u) ++ pl) T'.heap := by
    intro r9 d h
    obtain ⟨b1, b2⟩ := hB r9 d h
    have hnot : ∀ q ∈ hcl kA d, ¬ va_A cx H.size q.1 := by
      intro q hq hz
      rcases hz with ⟨k, e, hz⟩ | hz
      · have hmem : (q.1, e) ∈ cx := List.mem_of_getElem? hz
        obtain ⟨j, -, hj⟩ := dj_at hC hmem
        exact b2 q hq (q.1, e) (List.mem_append_left _ (List.mem_of_getElem? hj)) rfl
      · obtain ⟨k, hk⟩ := List.getElem?_of_mem hq
        have := (b1 k q hk).lt
        omega
    refine ⟨b1.kept (fun k q hk => hk' q.1 ((b1 k q hk).lt) (hnot q (List.mem_of_getElem? hk))), fun q hq x hx => ?_⟩
    rcases List.mem_append.mp hx with hx | hx
    · rcases List.mem_append.mp hx with hx | hx
      · obtain ⟨j, -, hj⟩ := dj_at hR hx
        exact b2 q hq x (List.mem_append_left _ (List.mem_of_getElem? hj))
      · intro hqx
        obtain ⟨k, hk⟩ := List.getElem?_of_mem hx
        have := hD1.2 k x hk
        rw [← hqx] at this
        exact hnot q hq this
    · exact b2 q hq x (List.mem_append_right _ hx)
  obtain ⟨t2, a1, b1⟩ := kk u T'.heap (locs ++ L) hp jP jD
    ⟨Nat.le_trans hS.1 (by rw [e1]; exact hz), fun q h1 h2 => by rw [hk' q (Nat.lt_of_lt_of_le h1 hS.1) (fun z => h2 (hF q z))]; exact hS.2.1 q h1 h2, fun q hq => by
      rcases List.mem_append.mp hq with h | h
      · exact hS.2.2 q h
      · exact hF _ (hL q h)⟩ hB1 T' rfl X'
  exact ⟨t2, st t2 a1, b1⟩
theorem li_eqT (hx : p.tables.exec = Jvm.exec) (hb : c.code = cc) {a b : Int} {off : Int} {tgt : Nat} (hdg : decode cc pc = .ok (.if_icmp .eq off, 3)) (ht : (pc : Int) + off = (tgt : Int)) (he : a = b) (kt : W p l e R s m args below meth c H locs cells slots Q (F0 m tgt ls rest)) : W p l e R s m args below meth c H locs cells slots Q (F0 m pc ls (.int (iI b) :: .int (iI a) :: rest)) := lv_icmp_eq hx hb hdg ht (fun _ => kt) (fun h => absurd (congrArg iI he) h)
theorem li_callPS {S : Type} {post : S → Prop} {r : S → Option Value} {rx pl1 : S → va_W} {X cx wr pl : va_W} {kA : Nat → ClassId} {sv : Nat → Option HD} (hr : va_Run p l e R s m args below meth c H locs cells slots mc ms (F0 m pc ls st0) rest (li_Qw D CL post r (fun u => rx u ++ pl1 u) (va_A (cx ++ pl) H.size) a) (va_A (cx ++ pl) H.size))
    (hP : va_P D CL (X ++ pl) H) (hD : va_D A0 (X ++ pl)) (hS : va_S A0 H0 H locs) (hA : ∀ q, H0.size ≤ q → A0 q) (isC isR : List Nat) (hC : isC.map (fun i => X[i]?) = cx.map some) (hR : isR.map (fun i => X[i]?) = wr.map some) (hn : va_nd isR = true) (hdis : ∀ i ∈ isR, i ∉ isC) (hB : ShB D kA sv (X ++ pl) H)
    (kk : ∀ (u : S) (H1 : Heap) (locs1 : List Loc), post u → va_P D CL ((wr ++ rx u) ++ pl1 u) H1 → va_D A0 ((wr ++ rx u) ++ pl1 u) → va_S A0 H0 H1 locs1 → ShB D kA sv ((wr ++ rx u) ++ pl1 u) H1 → W p l e R s m args below meth c H1 locs1 (cells + mc) (slots + ms) Q (F0 m (pc + 3) ls ((r u).toList ++ rest))) : W p l e R s m args below meth c H locs cells slots Q (F0 m pc ls st0) := by
  intro T hT X9
  have hF := va_freeP hD hS hA isC hC
  obtain ⟨v, st₀, t, T', L, h0, X', hL, e1, e2, ⟨u, hv, hp, hP1, hD1, hz, hk⟩, st⟩ := hr T hT X9
  cases hv
  rw [h0] at hz hk
  have hP1' : va_P D CL (rx u ++ pl1 u) T'.heap := by rw [e1]; exact hP1
  have hk' : ∀ q : Nat, q < H.size → ¬ va_A (cx ++ pl) H.size q → T'.heap[q]? = H[q]? := fun q h1 h2 => by rw [e1]; exact hk q h1 h2
  obtain ⟨jP, jD⟩ := va_joinP hP hD isC isR hC hR hn hdis hk' hF hP1' hD1
  have hB1 : ShB D kA sv ((wr ++ rx u) ++ pl1 u) T'.heap := by
    intro r9 d h
    obtain ⟨b1, b2⟩ := hB r9 d h
    have hnot : ∀ q ∈ hcl kA d, ¬ va_A (cx ++ pl) H.size q.1 := by
      intro q hq hz
      rcases hz with ⟨k, e, hz⟩ | hz
      · have hmem : (q.1, e) ∈ cx ++ pl := List.mem_of_getElem? hz
        rcases List.mem_append.mp hmem with hm | hm
        · obtain ⟨j, -, hj⟩ := dj_at hC hm
          exact b2 q hq (q.1, e) (List.mem_append_left _ (List.mem_of_getElem? hj)) rfl
        · exact b2 q hq (q.1, e) (List.mem_append_right _ hm) rfl
      · obtain ⟨k, hk⟩ := List.getElem?_of_mem hq
        have := (b1 k q hk).lt
        omega
    refine ⟨b1.kept (fun k q hk => hk' q.1 ((b1 k q hk).lt) (hnot q (List.mem_of_getElem? hk))), fun q hq x hx => ?_⟩
    have hnew : ∀ x ∈ rx u ++ pl1 u, q.1 ≠ x.1 := by
      intro x hx hqx
      obtain ⟨k, hk⟩ := List.getElem?_of_mem hx
      have := hD1.2 k x hk
      rw [← hqx] at this
      exact hnot q hq this
    rcases List.mem_append.mp hx with hx | hx
    · rcases List.mem_append.mp hx with hx | hx
      · obtain ⟨j, -, hj⟩ := dj_at hR hx
        exact b2 q hq x (List.mem_append_left _ (List.mem_of_getElem? hj))
      · exact hnew x (List.mem_append_left _ hx)
    · exact hnew x (List.mem_append_right _ hx)
  obtain ⟨t2, a1, b1⟩ := kk u T'.heap (locs ++ L) hp jP jD
    ⟨Nat.le_trans hS.1 (by rw [e1]; exact hz), fun q h1 h2 => by rw [hk' q (Nat.lt_of_lt_of_le h1 hS.1) (fun z => h2 (hF q z))]; exact hS.2.1 q h1 h2, fun q hq => by
      rcases List.mem_append.mp hq with h | h
      · exact hS.2.2 q h
      · exact hF _ (hL q h)⟩ hB1 T' rfl X'
  exact ⟨t2, st t2 a1, b1⟩
end LLW
theorem d_Z_law_0 : decode b_Z_law 0 = .ok (.new 8, 3) := by decide +kernel
theorem d_Z_law_3 : decode b_Z_law 3 = .ok (.dup, 1) := by decide +kernel
theorem d_Z_law_4 : decode b_Z_law 4 = .ok (.invokespecial 48, 3) := by decide +kernel
theorem d_Z_law_7 : decode b_Z_law 7 = .ok (.astore_n 1, 1) := by decide +kernel
theorem d_Z_law_8 : decode b_Z_law 8 = .ok (.new 49, 3) := by decide +kernel
theorem d_Z_law_11 : decode b_Z_law 11 = .ok (.dup, 1) := by decide +kernel
theorem d_Z_law_12 : decode b_Z_law 12 = .ok (.invokespecial 51, 3) := by decide +kernel
theorem d_Z_law_15 : decode b_Z_law 15 = .ok (.astore_n 2, 1) := by decide +kernel
theorem d_Z_law_16 : decode b_Z_law 16 = .ok (.iconst 1, 1) := by decide +kernel
theorem d_Z_law_17 : decode b_Z_law 17 = .ok (.newarray .long, 2) := by decide +kernel
theorem d_Z_law_19 : decode b_Z_law 19 = .ok (.astore_n 3, 1) := by decide +kernel
theorem d_Z_law_20 : decode b_Z_law 20 = .ok (.iconst 0, 1) := by decide +kernel
theorem d_Z_law_21 : decode b_Z_law 21 = .ok (.istore 4, 2) := by decide +kernel
theorem d_Z_law_23 : decode b_Z_law 23 = .ok (.iload 4, 2) := by decide +kernel
theorem d_Z_law_25 : decode b_Z_law 25 = .ok (.aload_n 0, 1) := by decide +kernel
theorem d_Z_law_26 : decode b_Z_law 26 = .ok (.arraylength, 1) := by decide +kernel
theorem d_Z_law_27 : decode b_Z_law 27 = .ok (.bipush 6, 2) := by decide +kernel
theorem d_Z_law_29 : decode b_Z_law 29 = .ok (.isub, 1) := by decide +kernel
theorem d_Z_law_30 : decode b_Z_law 30 = .ok (.if_icmp .gt 892, 3) := by decide +kernel
theorem d_Z_law_33 : decode b_Z_law 33 = .ok (.aload_n 0, 1) := by decide +kernel
theorem d_Z_law_34 : decode b_Z_law 34 = .ok (.iload 4, 2) := by decide +kernel
theorem d_Z_law_36 : decode b_Z_law 36 = .ok (.iaload, 1) := by decide +kernel
theorem d_Z_law_37 : decode b_Z_law 37 = .ok (.bipush 15, 2) := by decide +kernel
theorem d_Z_law_39 : decode b_Z_law 39 = .ok (.iand, 1) := by decide +kernel
theorem d_Z_law_40 : decode b_Z_law 40 = .ok (.tableswitch 876 0 14 #[76, 180, 236, 249, 312, 416, 429, 442, 455, 480, 548, 616, 672, 752, 820], 76) := by decide +kernel
theorem d_Z_law_116 : decode b_Z_law 116 = .ok (.aload_n 1, 1) := by decide +kernel
theorem d_Z_law_117 : decode b_Z_law 117 = .ok (.aload_n 0, 1) := by decide +kernel
theorem d_Z_law_118 : decode b_Z_law 118 = .ok (.iload 4, 2) := by decide +kernel
theorem d_Z_law_120 : decode b_Z_law 120 = .ok (.iconst 1, 1) := by decide +kernel
theorem d_Z_law_121 : decode b_Z_law 121 = .ok (.iadd, 1) := by decide +kernel
theorem d_Z_law_122 : decode b_Z_law 122 = .ok (.iaload, 1) := by decide +kernel
theorem d_Z_law_123 : decode b_Z_law 123 = .ok (.aload_n 0, 1) := by decide +kernel
theorem d_Z_law_124 : decode b_Z_law 124 = .ok (.iload 4, 2) := by decide +kernel
theorem d_Z_law_126 : decode b_Z_law 126 = .ok (.iconst 2, 1) := by decide +kernel
theorem d_Z_law_127 : decode b_Z_law 127 = .ok (.iadd, 1) := by decide +kernel
theorem d_Z_law_128 : decode b_Z_law 128 = .ok (.iaload, 1) := by decide +kernel
theorem d_Z_law_129 : decode b_Z_law 129 = .ok (.aload_n 0, 1) := by decide +kernel
theorem d_Z_law_130 : decode b_Z_law 130 = .ok (.iload 4, 2) := by decide +kernel
theorem d_Z_law_132 : decode b_Z_law 132 = .ok (.iconst 3, 1) := by decide +kernel
theorem d_Z_law_133 : decode b_Z_law 133 = .ok (.iadd, 1) := by decide +kernel
theorem d_Z_law_134 : decode b_Z_law 134 = .ok (.iaload, 1) := by decide +kernel
theorem d_Z_law_135 : decode b_Z_law 135 = .ok (.aload_n 0, 1) := by decide +kernel
theorem d_Z_law_136 : decode b_Z_law 136 = .ok (.iload 4, 2) := by decide +kernel
theorem d_Z_law_138 : decode b_Z_law 138 = .ok (.iconst 4, 1) := by decide +kernel
theorem d_Z_law_139 : decode b_Z_law 139 = .ok (.iadd, 1) := by decide +kernel
theorem d_Z_law_140 : decode b_Z_law 140 = .ok (.iaload, 1) := by decide +kernel
theorem d_Z_law_141 : decode b_Z_law 141 = .ok (.aload_n 0, 1) := by decide +kernel
theorem d_Z_law_142 : decode b_Z_law 142 = .ok (.iload 4, 2) := by decide +kernel
theorem d_Z_law_144 : decode b_Z_law 144 = .ok (.iconst 5, 1) := by decide +kernel
theorem d_Z_law_145 : decode b_Z_law 145 = .ok (.iadd, 1) := by decide +kernel
theorem d_Z_law_146 : decode b_Z_law 146 = .ok (.iaload, 1) := by decide +kernel
theorem d_Z_law_147 : decode b_Z_law 147 = .ok (.aload_n 3, 1) := by decide +kernel
theorem d_Z_law_148 : decode b_Z_law 148 = .ok (.invokestatic 52, 3) := by decide +kernel
theorem d_Z_law_151 : decode b_Z_law 151 = .ok (.istore 5, 2) := by decide +kernel
theorem d_Z_law_153 : decode b_Z_law 153 = .ok (.aload_n 2, 1) := by decide +kernel
theorem d_Z_law_154 : decode b_Z_law 154 = .ok (.aload_n 0, 1) := by decide +kernel
theorem d_Z_law_155 : decode b_Z_law 155 = .ok (.iload 4, 2) := by decide +kernel
theorem d_Z_law_157 : decode b_Z_law 157 = .ok (.iconst 1, 1) := by decide +kernel
theorem d_Z_law_158 : decode b_Z_law 158 = .ok (.iadd, 1) := by decide +kernel
theorem d_Z_law_159 : decode b_Z_law 159 = .ok (.iaload, 1) := by decide +kernel
theorem d_Z_law_160 : decode b_Z_law 160 = .ok (.aload_n 0, 1) := by decide +kernel
theorem d_Z_law_161 : decode b_Z_law 161 = .ok (.iload 4, 2) := by decide +kernel
theorem d_Z_law_163 : decode b_Z_law 163 = .ok (.iconst 2, 1) := by decide +kernel
theorem d_Z_law_164 : decode b_Z_law 164 = .ok (.iadd, 1) := by decide +kernel
theorem d_Z_law_165 : decode b_Z_law 165 = .ok (.iaload, 1) := by decide +kernel
theorem d_Z_law_166 : decode b_Z_law 166 = .ok (.aload_n 0, 1) := by decide +kernel
theorem d_Z_law_167 : decode b_Z_law 167 = .ok (.iload 4, 2) := by decide +kernel
theorem d_Z_law_169 : decode b_Z_law 169 = .ok (.iconst 3, 1) := by decide +kernel
theorem d_Z_law_170 : decode b_Z_law 170 = .ok (.iadd, 1) := by decide +kernel
theorem d_Z_law_171 : decode b_Z_law 171 = .ok (.iaload, 1) := by decide +kernel
theorem d_Z_law_172 : decode b_Z_law 172 = .ok (.aload_n 0, 1) := by decide +kernel
theorem d_Z_law_173 : decode b_Z_law 173 = .ok (.iload 4, 2) := by decide +kernel
theorem d_Z_law_175 : decode b_Z_law 175 = .ok (.iconst 4, 1) := by decide +kernel
theorem d_Z_law_176 : decode b_Z_law 176 = .ok (.iadd, 1) := by decide +kernel
theorem d_Z_law_177 : decode b_Z_law 177 = .ok (.iaload, 1) := by decide +kernel
theorem d_Z_law_178 : decode b_Z_law 178 = .ok (.aload_n 0, 1) := by decide +kernel
theorem d_Z_law_179 : decode b_Z_law 179 = .ok (.iload 4, 2) := by decide +kernel
theorem d_Z_law_181 : decode b_Z_law 181 = .ok (.iconst 5, 1) := by decide +kernel
theorem d_Z_law_182 : decode b_Z_law 182 = .ok (.iadd, 1) := by decide +kernel
theorem d_Z_law_183 : decode b_Z_law 183 = .ok (.iaload, 1) := by decide +kernel
theorem d_Z_law_184 : decode b_Z_law 184 = .ok (.invokevirtual 57, 3) := by decide +kernel
theorem d_Z_law_187 : decode b_Z_law 187 = .ok (.istore 6, 2) := by decide +kernel
theorem d_Z_law_189 : decode b_Z_law 189 = .ok (.aload_n 2, 1) := by decide +kernel
theorem d_Z_law_190 : decode b_Z_law 190 = .ok (.invokevirtual 58, 3) := by decide +kernel
theorem d_Z_law_193 : decode b_Z_law 193 = .ok (.iload 5, 2) := by decide +kernel
theorem d_Z_law_195 : decode b_Z_law 195 = .ok (.if_icmp .eq 5, 3) := by decide +kernel
theorem d_Z_law_198 : decode b_Z_law 198 = .ok (.iconst 0, 1) := by decide +kernel
theorem d_Z_law_199 : decode b_Z_law 199 = .ok (.ireturn, 1) := by decide +kernel
theorem d_Z_law_200 : decode b_Z_law 200 = .ok (.iload 5, 2) := by decide +kernel
theorem d_Z_law_202 : decode b_Z_law 202 = .ok (.ifCond .ne 15, 3) := by decide +kernel
theorem d_Z_law_205 : decode b_Z_law 205 = .ok (.aload_n 3, 1) := by decide +kernel
theorem d_Z_law_206 : decode b_Z_law 206 = .ok (.iconst 0, 1) := by decide +kernel
theorem d_Z_law_207 : decode b_Z_law 207 = .ok (.laload, 1) := by decide +kernel
theorem d_Z_law_208 : decode b_Z_law 208 = .ok (.iload 6, 2) := by decide +kernel
theorem d_Z_law_210 : decode b_Z_law 210 = .ok (.i2l, 1) := by decide +kernel
theorem d_Z_law_211 : decode b_Z_law 211 = .ok (.lcmp, 1) := by decide +kernel
theorem d_Z_law_212 : decode b_Z_law 212 = .ok (.ifCond .eq 5, 3) := by decide +kernel
theorem d_Z_law_215 : decode b_Z_law 215 = .ok (.iconst 0, 1) := by decide +kernel
theorem d_Z_law_216 : decode b_Z_law 216 = .ok (.ireturn, 1) := by decide +kernel
theorem d_Z_law_217 : decode b_Z_law 217 = .ok (.goto 699, 3) := by decide +kernel
theorem d_Z_law_220 : decode b_Z_law 220 = .ok (.aload_n 1, 1) := by decide +kernel
theorem d_Z_law_221 : decode b_Z_law 221 = .ok (.aload_n 0, 1) := by decide +kernel
theorem d_Z_law_222 : decode b_Z_law 222 = .ok (.iload 4, 2) := by decide +kernel
theorem d_Z_law_224 : decode b_Z_law 224 = .ok (.iconst 1, 1) := by decide +kernel
theorem d_Z_law_225 : decode b_Z_law 225 = .ok (.iadd, 1) := by decide +kernel
theorem d_Z_law_226 : decode b_Z_law 226 = .ok (.iaload, 1) := by decide +kernel
theorem d_Z_law_227 : decode b_Z_law 227 = .ok (.aload_n 3, 1) := by decide +kernel
theorem d_Z_law_228 : decode b_Z_law 228 = .ok (.invokestatic 62, 3) := by decide +kernel
theorem d_Z_law_231 : decode b_Z_law 231 = .ok (.istore 5, 2) := by decide +kernel
theorem d_Z_law_233 : decode b_Z_law 233 = .ok (.aload_n 2, 1) := by decide +kernel
theorem d_Z_law_234 : decode b_Z_law 234 = .ok (.aload_n 0, 1) := by decide +kernel
theorem d_Z_law_235 : decode b_Z_law 235 = .ok (.iload 4, 2) := by decide +kernel
theorem d_Z_law_237 : decode b_Z_law 237 = .ok (.iconst 1, 1) := by decide +kernel
theorem d_Z_law_238 : decode b_Z_law 238 = .ok (.iadd, 1) := by decide +kernel
theorem d_Z_law_239 : decode b_Z_law 239 = .ok (.iaload, 1) := by decide +kernel
theorem d_Z_law_240 : decode b_Z_law 240 = .ok (.invokevirtual 65, 3) := by decide +kernel
theorem d_Z_law_243 : decode b_Z_law 243 = .ok (.istore 6, 2) := by decide +kernel
theorem d_Z_law_245 : decode b_Z_law 245 = .ok (.aload_n 2, 1) := by decide +kernel
theorem d_Z_law_246 : decode b_Z_law 246 = .ok (.invokevirtual 58, 3) := by decide +kernel
theorem d_Z_law_249 : decode b_Z_law 249 = .ok (.iload 5, 2) := by decide +kernel
theorem d_Z_law_251 : decode b_Z_law 251 = .ok (.if_icmp .eq 5, 3) := by decide +kernel
theorem d_Z_law_254 : decode b_Z_law 254 = .ok (.iconst 0, 1) := by decide +kernel
theorem d_Z_law_255 : decode b_Z_law 255 = .ok (.ireturn, 1) := by decide +kernel
theorem d_Z_law_256 : decode b_Z_law 256 = .ok (.iload 5, 2) := by decide +kernel
theorem d_Z_law_258 : decode b_Z_law 258 = .ok (.ifCond .ne 15, 3) := by decide +kernel
theorem d_Z_law_261 : decode b_Z_law 261 = .ok (.aload_n 3, 1) := by decide +kernel
theorem d_Z_law_262 : decode b_Z_law 262 = .ok (.iconst 0, 1) := by decide +kernel
theorem d_Z_law_263 : decode b_Z_law 263 = .ok (.laload, 1) := by decide +kernel
theorem d_Z_law_264 : decode b_Z_law 264 = .ok (.iload 6, 2) := by decide +kernel
theorem d_Z_law_266 : decode b_Z_law 266 = .ok (.i2l, 1) := by decide +kernel
theorem d_Z_law_267 : decode b_Z_law 267 = .ok (.lcmp, 1) := by decide +kernel
theorem d_Z_law_268 : decode b_Z_law 268 = .ok (.ifCond .eq 5, 3) := by decide +kernel
theorem d_Z_law_271 : decode b_Z_law 271 = .ok (.iconst 0, 1) := by decide +kernel
theorem d_Z_law_272 : decode b_Z_law 272 = .ok (.ireturn, 1) := by decide +kernel
theorem d_Z_law_273 : decode b_Z_law 273 = .ok (.goto 643, 3) := by decide +kernel
theorem d_Z_law_276 : decode b_Z_law 276 = .ok (.aload_n 1, 1) := by decide +kernel
theorem d_Z_law_277 : decode b_Z_law 277 = .ok (.invokevirtual 66, 3) := by decide +kernel
theorem d_Z_law_280 : decode b_Z_law 280 = .ok (.aload_n 2, 1) := by decide +kernel
theorem d_Z_law_281 : decode b_Z_law 281 = .ok (.invokevirtual 69, 3) := by decide +kernel
theorem d_Z_law_284 : decode b_Z_law 284 = .ok (.if_icmp .eq 632, 3) := by decide +kernel
theorem d_Z_law_287 : decode b_Z_law 287 = .ok (.iconst 0, 1) := by decide +kernel
theorem d_Z_law_288 : decode b_Z_law 288 = .ok (.ireturn, 1) := by decide +kernel
theorem d_Z_law_289 : decode b_Z_law 289 = .ok (.aload_n 1, 1) := by decide +kernel
theorem d_Z_law_290 : decode b_Z_law 290 = .ok (.aload_n 0, 1) := by decide +kernel
theorem d_Z_law_291 : decode b_Z_law 291 = .ok (.iload 4, 2) := by decide +kernel
theorem d_Z_law_293 : decode b_Z_law 293 = .ok (.iconst 1, 1) := by decide +kernel
theorem d_Z_law_294 : decode b_Z_law 294 = .ok (.iadd, 1) := by decide +kernel
theorem d_Z_law_295 : decode b_Z_law 295 = .ok (.iaload, 1) := by decide +kernel
theorem d_Z_law_296 : decode b_Z_law 296 = .ok (.aload_n 3, 1) := by decide +kernel
theorem d_Z_law_297 : decode b_Z_law 297 = .ok (.invokestatic 70, 3) := by decide +kernel
theorem d_Z_law_300 : decode b_Z_law 300 = .ok (.istore 5, 2) := by decide +kernel
theorem d_Z_law_302 : decode b_Z_law 302 = .ok (.aload_n 2, 1) := by decide +kernel
theorem d_Z_law_303 : decode b_Z_law 303 = .ok (.aload_n 0, 1) := by decide +kernel
theorem d_Z_law_304 : decode b_Z_law 304 = .ok (.iload 4, 2) := by decide +kernel
theorem d_Z_law_306 : decode b_Z_law 306 = .ok (.iconst 1, 1) := by decide +kernel
theorem d_Z_law_307 : decode b_Z_law 307 = .ok (.iadd, 1) := by decide +kernel
theorem d_Z_law_308 : decode b_Z_law 308 = .ok (.iaload, 1) := by decide +kernel
theorem d_Z_law_309 : decode b_Z_law 309 = .ok (.invokevirtual 72, 3) := by decide +kernel
theorem d_Z_law_312 : decode b_Z_law 312 = .ok (.istore 6, 2) := by decide +kernel
theorem d_Z_law_314 : decode b_Z_law 314 = .ok (.aload_n 2, 1) := by decide +kernel
theorem d_Z_law_315 : decode b_Z_law 315 = .ok (.invokevirtual 58, 3) := by decide +kernel
theorem d_Z_law_318 : decode b_Z_law 318 = .ok (.iload 5, 2) := by decide +kernel
theorem d_Z_law_320 : decode b_Z_law 320 = .ok (.if_icmp .eq 5, 3) := by decide +kernel
theorem d_Z_law_323 : decode b_Z_law 323 = .ok (.iconst 0, 1) := by decide +kernel
theorem d_Z_law_324 : decode b_Z_law 324 = .ok (.ireturn, 1) := by decide +kernel
theorem d_Z_law_325 : decode b_Z_law 325 = .ok (.iload 5, 2) := by decide +kernel
theorem d_Z_law_327 : decode b_Z_law 327 = .ok (.ifCond .ne 22, 3) := by decide +kernel
theorem d_Z_law_330 : decode b_Z_law 330 = .ok (.aload_n 3, 1) := by decide +kernel
theorem d_Z_law_331 : decode b_Z_law 331 = .ok (.iconst 0, 1) := by decide +kernel
theorem d_Z_law_332 : decode b_Z_law 332 = .ok (.laload, 1) := by decide +kernel
theorem d_Z_law_333 : decode b_Z_law 333 = .ok (.iload 6, 2) := by decide +kernel
theorem d_Z_law_335 : decode b_Z_law 335 = .ok (.ifCond .eq 7, 3) := by decide +kernel
theorem d_Z_law_338 : decode b_Z_law 338 = .ok (.lconst 1, 1) := by decide +kernel
theorem d_Z_law_339 : decode b_Z_law 339 = .ok (.goto 4, 3) := by decide +kernel
theorem d_Z_law_342 : decode b_Z_law 342 = .ok (.lconst 0, 1) := by decide +kernel
theorem d_Z_law_343 : decode b_Z_law 343 = .ok (.lcmp, 1) := by decide +kernel
theorem d_Z_law_344 : decode b_Z_law 344 = .ok (.ifCond .eq 5, 3) := by decide +kernel
theorem d_Z_law_347 : decode b_Z_law 347 = .ok (.iconst 0, 1) := by decide +kernel
theorem d_Z_law_348 : decode b_Z_law 348 = .ok (.ireturn, 1) := by decide +kernel
theorem d_Z_law_349 : decode b_Z_law 349 = .ok (.goto 567, 3) := by decide +kernel
theorem d_Z_law_352 : decode b_Z_law 352 = .ok (.aload_n 1, 1) := by decide +kernel
theorem d_Z_law_353 : decode b_Z_law 353 = .ok (.aload_n 0, 1) := by decide +kernel
theorem d_Z_law_354 : decode b_Z_law 354 = .ok (.iload 4, 2) := by decide +kernel
theorem d_Z_law_356 : decode b_Z_law 356 = .ok (.iconst 1, 1) := by decide +kernel
theorem d_Z_law_357 : decode b_Z_law 357 = .ok (.iadd, 1) := by decide +kernel
theorem d_Z_law_358 : decode b_Z_law 358 = .ok (.iaload, 1) := by decide +kernel
theorem d_Z_law_359 : decode b_Z_law 359 = .ok (.aload_n 0, 1) := by decide +kernel
theorem d_Z_law_360 : decode b_Z_law 360 = .ok (.iload 4, 2) := by decide +kernel
theorem d_Z_law_362 : decode b_Z_law 362 = .ok (.iconst 2, 1) := by decide +kernel
theorem d_Z_law_363 : decode b_Z_law 363 = .ok (.iadd, 1) := by decide +kernel
theorem d_Z_law_364 : decode b_Z_law 364 = .ok (.iaload, 1) := by decide +kernel
theorem d_Z_law_365 : decode b_Z_law 365 = .ok (.aload_n 0, 1) := by decide +kernel
theorem d_Z_law_366 : decode b_Z_law 366 = .ok (.iload 4, 2) := by decide +kernel
theorem d_Z_law_368 : decode b_Z_law 368 = .ok (.iconst 3, 1) := by decide +kernel
theorem d_Z_law_369 : decode b_Z_law 369 = .ok (.iadd, 1) := by decide +kernel
theorem d_Z_law_370 : decode b_Z_law 370 = .ok (.iaload, 1) := by decide +kernel
theorem d_Z_law_371 : decode b_Z_law 371 = .ok (.aload_n 0, 1) := by decide +kernel
theorem d_Z_law_372 : decode b_Z_law 372 = .ok (.iload 4, 2) := by decide +kernel
theorem d_Z_law_374 : decode b_Z_law 374 = .ok (.iconst 4, 1) := by decide +kernel
theorem d_Z_law_375 : decode b_Z_law 375 = .ok (.iadd, 1) := by decide +kernel
theorem d_Z_law_376 : decode b_Z_law 376 = .ok (.iaload, 1) := by decide +kernel
theorem d_Z_law_377 : decode b_Z_law 377 = .ok (.aload_n 0, 1) := by decide +kernel
theorem d_Z_law_378 : decode b_Z_law 378 = .ok (.iload 4, 2) := by decide +kernel
theorem d_Z_law_380 : decode b_Z_law 380 = .ok (.iconst 5, 1) := by decide +kernel
theorem d_Z_law_381 : decode b_Z_law 381 = .ok (.iadd, 1) := by decide +kernel
theorem d_Z_law_382 : decode b_Z_law 382 = .ok (.iaload, 1) := by decide +kernel
theorem d_Z_law_383 : decode b_Z_law 383 = .ok (.aload_n 3, 1) := by decide +kernel
theorem d_Z_law_384 : decode b_Z_law 384 = .ok (.invokestatic 73, 3) := by decide +kernel
theorem d_Z_law_387 : decode b_Z_law 387 = .ok (.istore 5, 2) := by decide +kernel
theorem d_Z_law_389 : decode b_Z_law 389 = .ok (.aload_n 2, 1) := by decide +kernel
theorem d_Z_law_390 : decode b_Z_law 390 = .ok (.aload_n 0, 1) := by decide +kernel
theorem d_Z_law_391 : decode b_Z_law 391 = .ok (.iload 4, 2) := by decide +kernel
theorem d_Z_law_393 : decode b_Z_law 393 = .ok (.iconst 1, 1) := by decide +kernel
theorem d_Z_law_394 : decode b_Z_law 394 = .ok (.iadd, 1) := by decide +kernel
theorem d_Z_law_395 : decode b_Z_law 395 = .ok (.iaload, 1) := by decide +kernel
theorem d_Z_law_396 : decode b_Z_law 396 = .ok (.aload_n 0, 1) := by decide +kernel
theorem d_Z_law_397 : decode b_Z_law 397 = .ok (.iload 4, 2) := by decide +kernel
theorem d_Z_law_399 : decode b_Z_law 399 = .ok (.iconst 2, 1) := by decide +kernel
theorem d_Z_law_400 : decode b_Z_law 400 = .ok (.iadd, 1) := by decide +kernel
theorem d_Z_law_401 : decode b_Z_law 401 = .ok (.iaload, 1) := by decide +kernel
theorem d_Z_law_402 : decode b_Z_law 402 = .ok (.aload_n 0, 1) := by decide +kernel
theorem d_Z_law_403 : decode b_Z_law 403 = .ok (.iload 4, 2) := by decide +kernel
theorem d_Z_law_405 : decode b_Z_law 405 = .ok (.iconst 3, 1) := by decide +kernel
theorem d_Z_law_406 : decode b_Z_law 406 = .ok (.iadd, 1) := by decide +kernel
theorem d_Z_law_407 : decode b_Z_law 407 = .ok (.iaload, 1) := by decide +kernel
theorem d_Z_law_408 : decode b_Z_law 408 = .ok (.aload_n 0, 1) := by decide +kernel
theorem d_Z_law_409 : decode b_Z_law 409 = .ok (.iload 4, 2) := by decide +kernel
theorem d_Z_law_411 : decode b_Z_law 411 = .ok (.iconst 4, 1) := by decide +kernel
theorem d_Z_law_412 : decode b_Z_law 412 = .ok (.iadd, 1) := by decide +kernel
theorem d_Z_law_413 : decode b_Z_law 413 = .ok (.iaload, 1) := by decide +kernel
theorem d_Z_law_414 : decode b_Z_law 414 = .ok (.aload_n 0, 1) := by decide +kernel
theorem d_Z_law_415 : decode b_Z_law 415 = .ok (.iload 4, 2) := by decide +kernel
theorem d_Z_law_417 : decode b_Z_law 417 = .ok (.iconst 5, 1) := by decide +kernel
theorem d_Z_law_418 : decode b_Z_law 418 = .ok (.iadd, 1) := by decide +kernel
theorem d_Z_law_419 : decode b_Z_law 419 = .ok (.iaload, 1) := by decide +kernel
theorem d_Z_law_420 : decode b_Z_law 420 = .ok (.invokevirtual 75, 3) := by decide +kernel
theorem d_Z_law_423 : decode b_Z_law 423 = .ok (.istore 6, 2) := by decide +kernel
theorem d_Z_law_425 : decode b_Z_law 425 = .ok (.aload_n 2, 1) := by decide +kernel
theorem d_Z_law_426 : decode b_Z_law 426 = .ok (.invokevirtual 58, 3) := by decide +kernel
theorem d_Z_law_429 : decode b_Z_law 429 = .ok (.iload 5, 2) := by decide +kernel
theorem d_Z_law_431 : decode b_Z_law 431 = .ok (.if_icmp .eq 5, 3) := by decide +kernel
theorem d_Z_law_434 : decode b_Z_law 434 = .ok (.iconst 0, 1) := by decide +kernel
theorem d_Z_law_435 : decode b_Z_law 435 = .ok (.ireturn, 1) := by decide +kernel
theorem d_Z_law_436 : decode b_Z_law 436 = .ok (.iload 5, 2) := by decide +kernel
theorem d_Z_law_438 : decode b_Z_law 438 = .ok (.ifCond .ne 15, 3) := by decide +kernel
theorem d_Z_law_441 : decode b_Z_law 441 = .ok (.aload_n 3, 1) := by decide +kernel
theorem d_Z_law_442 : decode b_Z_law 442 = .ok (.iconst 0, 1) := by decide +kernel
theorem d_Z_law_443 : decode b_Z_law 443 = .ok (.laload, 1) := by decide +kernel
theorem d_Z_law_444 : decode b_Z_law 444 = .ok (.iload 6, 2) := by decide +kernel
theorem d_Z_law_446 : decode b_Z_law 446 = .ok (.i2l, 1) := by decide +kernel
theorem d_Z_law_447 : decode b_Z_law 447 = .ok (.lcmp, 1) := by decide +kernel
theorem d_Z_law_448 : decode b_Z_law 448 = .ok (.ifCond .eq 5, 3) := by decide +kernel
theorem d_Z_law_451 : decode b_Z_law 451 = .ok (.iconst 0, 1) := by decide +kernel
theorem d_Z_law_452 : decode b_Z_law 452 = .ok (.ireturn, 1) := by decide +kernel
theorem d_Z_law_453 : decode b_Z_law 453 = .ok (.goto 463, 3) := by decide +kernel
theorem d_Z_law_456 : decode b_Z_law 456 = .ok (.aload_n 1, 1) := by decide +kernel
theorem d_Z_law_457 : decode b_Z_law 457 = .ok (.invokevirtual 76, 3) := by decide +kernel
theorem d_Z_law_460 : decode b_Z_law 460 = .ok (.aload_n 2, 1) := by decide +kernel
theorem d_Z_law_461 : decode b_Z_law 461 = .ok (.invokevirtual 79, 3) := by decide +kernel
theorem d_Z_law_464 : decode b_Z_law 464 = .ok (.if_icmp .eq 452, 3) := by decide +kernel
theorem d_Z_law_467 : decode b_Z_law 467 = .ok (.iconst 0, 1) := by decide +kernel
theorem d_Z_law_468 : decode b_Z_law 468 = .ok (.ireturn, 1) := by decide +kernel
theorem d_Z_law_469 : decode b_Z_law 469 = .ok (.aload_n 1, 1) := by decide +kernel
theorem d_Z_law_470 : decode b_Z_law 470 = .ok (.invokevirtual 80, 3) := by decide +kernel
theorem d_Z_law_473 : decode b_Z_law 473 = .ok (.aload_n 2, 1) := by decide +kernel
theorem d_Z_law_474 : decode b_Z_law 474 = .ok (.invokevirtual 83, 3) := by decide +kernel
theorem d_Z_law_477 : decode b_Z_law 477 = .ok (.if_icmp .eq 439, 3) := by decide +kernel
theorem d_Z_law_480 : decode b_Z_law 480 = .ok (.iconst 0, 1) := by decide +kernel
theorem d_Z_law_481 : decode b_Z_law 481 = .ok (.ireturn, 1) := by decide +kernel
theorem d_Z_law_482 : decode b_Z_law 482 = .ok (.aload_n 1, 1) := by decide +kernel
theorem d_Z_law_483 : decode b_Z_law 483 = .ok (.invokevirtual 84, 3) := by decide +kernel
theorem d_Z_law_486 : decode b_Z_law 486 = .ok (.aload_n 2, 1) := by decide +kernel
theorem d_Z_law_487 : decode b_Z_law 487 = .ok (.invokevirtual 87, 3) := by decide +kernel
theorem d_Z_law_490 : decode b_Z_law 490 = .ok (.if_icmp .eq 426, 3) := by decide +kernel
theorem d_Z_law_493 : decode b_Z_law 493 = .ok (.iconst 0, 1) := by decide +kernel
theorem d_Z_law_494 : decode b_Z_law 494 = .ok (.ireturn, 1) := by decide +kernel
theorem d_Z_law_495 : decode b_Z_law 495 = .ok (.aload_n 1, 1) := by decide +kernel
theorem d_Z_law_496 : decode b_Z_law 496 = .ok (.aload_n 0, 1) := by decide +kernel
theorem d_Z_law_497 : decode b_Z_law 497 = .ok (.iload 4, 2) := by decide +kernel
theorem d_Z_law_499 : decode b_Z_law 499 = .ok (.iconst 1, 1) := by decide +kernel
theorem d_Z_law_500 : decode b_Z_law 500 = .ok (.iadd, 1) := by decide +kernel
theorem d_Z_law_501 : decode b_Z_law 501 = .ok (.iaload, 1) := by decide +kernel
theorem d_Z_law_502 : decode b_Z_law 502 = .ok (.invokevirtual 88, 3) := by decide +kernel
theorem d_Z_law_505 : decode b_Z_law 505 = .ok (.aload_n 2, 1) := by decide +kernel
theorem d_Z_law_506 : decode b_Z_law 506 = .ok (.aload_n 0, 1) := by decide +kernel
theorem d_Z_law_507 : decode b_Z_law 507 = .ok (.iload 4, 2) := by decide +kernel
theorem d_Z_law_509 : decode b_Z_law 509 = .ok (.iconst 1, 1) := by decide +kernel
theorem d_Z_law_510 : decode b_Z_law 510 = .ok (.iadd, 1) := by decide +kernel
theorem d_Z_law_511 : decode b_Z_law 511 = .ok (.iaload, 1) := by decide +kernel
theorem d_Z_law_512 : decode b_Z_law 512 = .ok (.invokevirtual 91, 3) := by decide +kernel
theorem d_Z_law_515 : decode b_Z_law 515 = .ok (.if_icmp .eq 401, 3) := by decide +kernel
theorem d_Z_law_518 : decode b_Z_law 518 = .ok (.iconst 0, 1) := by decide +kernel
theorem d_Z_law_519 : decode b_Z_law 519 = .ok (.ireturn, 1) := by decide +kernel
theorem d_Z_law_520 : decode b_Z_law 520 = .ok (.aload_n 1, 1) := by decide +kernel
theorem d_Z_law_521 : decode b_Z_law 521 = .ok (.aload_n 0, 1) := by decide +kernel
theorem d_Z_law_522 : decode b_Z_law 522 = .ok (.iload 4, 2) := by decide +kernel
theorem d_Z_law_524 : decode b_Z_law 524 = .ok (.iconst 1, 1) := by decide +kernel
theorem d_Z_law_525 : decode b_Z_law 525 = .ok (.iadd, 1) := by decide +kernel
theorem d_Z_law_526 : decode b_Z_law 526 = .ok (.iaload, 1) := by decide +kernel
theorem d_Z_law_527 : decode b_Z_law 527 = .ok (.aload_n 0, 1) := by decide +kernel
theorem d_Z_law_528 : decode b_Z_law 528 = .ok (.iload 4, 2) := by decide +kernel
theorem d_Z_law_530 : decode b_Z_law 530 = .ok (.iconst 2, 1) := by decide +kernel
theorem d_Z_law_531 : decode b_Z_law 531 = .ok (.iadd, 1) := by decide +kernel
theorem d_Z_law_532 : decode b_Z_law 532 = .ok (.iaload, 1) := by decide +kernel
theorem d_Z_law_533 : decode b_Z_law 533 = .ok (.aload_n 3, 1) := by decide +kernel
theorem d_Z_law_534 : decode b_Z_law 534 = .ok (.invokestatic 92, 3) := by decide +kernel
theorem d_Z_law_537 : decode b_Z_law 537 = .ok (.istore 5, 2) := by decide +kernel
theorem d_Z_law_539 : decode b_Z_law 539 = .ok (.aload_n 2, 1) := by decide +kernel
theorem d_Z_law_540 : decode b_Z_law 540 = .ok (.aload_n 0, 1) := by decide +kernel
theorem d_Z_law_541 : decode b_Z_law 541 = .ok (.iload 4, 2) := by decide +kernel
theorem d_Z_law_543 : decode b_Z_law 543 = .ok (.iconst 1, 1) := by decide +kernel
theorem d_Z_law_544 : decode b_Z_law 544 = .ok (.iadd, 1) := by decide +kernel
theorem d_Z_law_545 : decode b_Z_law 545 = .ok (.iaload, 1) := by decide +kernel
theorem d_Z_law_546 : decode b_Z_law 546 = .ok (.aload_n 0, 1) := by decide +kernel
theorem d_Z_law_547 : decode b_Z_law 547 = .ok (.iload 4, 2) := by decide +kernel
theorem d_Z_law_549 : decode b_Z_law 549 = .ok (.iconst 2, 1) := by decide +kernel
theorem d_Z_law_550 : decode b_Z_law 550 = .ok (.iadd, 1) := by decide +kernel
theorem d_Z_law_551 : decode b_Z_law 551 = .ok (.iaload, 1) := by decide +kernel
theorem d_Z_law_552 : decode b_Z_law 552 = .ok (.invokevirtual 95, 3) := by decide +kernel
theorem d_Z_law_555 : decode b_Z_law 555 = .ok (.istore 6, 2) := by decide +kernel
theorem d_Z_law_557 : decode b_Z_law 557 = .ok (.aload_n 2, 1) := by decide +kernel
theorem d_Z_law_558 : decode b_Z_law 558 = .ok (.invokevirtual 58, 3) := by decide +kernel
theorem d_Z_law_561 : decode b_Z_law 561 = .ok (.iload 5, 2) := by decide +kernel
theorem d_Z_law_563 : decode b_Z_law 563 = .ok (.if_icmp .eq 5, 3) := by decide +kernel
theorem d_Z_law_566 : decode b_Z_law 566 = .ok (.iconst 0, 1) := by decide +kernel
theorem d_Z_law_567 : decode b_Z_law 567 = .ok (.ireturn, 1) := by decide +kernel
theorem d_Z_law_568 : decode b_Z_law 568 = .ok (.iload 5, 2) := by decide +kernel
theorem d_Z_law_570 : decode b_Z_law 570 = .ok (.ifCond .ne 15, 3) := by decide +kernel
theorem d_Z_law_573 : decode b_Z_law 573 = .ok (.aload_n 3, 1) := by decide +kernel
theorem d_Z_law_574 : decode b_Z_law 574 = .ok (.iconst 0, 1) := by decide +kernel
theorem d_Z_law_575 : decode b_Z_law 575 = .ok (.laload, 1) := by decide +kernel
theorem d_Z_law_576 : decode b_Z_law 576 = .ok (.iload 6, 2) := by decide +kernel
theorem d_Z_law_578 : decode b_Z_law 578 = .ok (.i2l, 1) := by decide +kernel
theorem d_Z_law_579 : decode b_Z_law 579 = .ok (.lcmp, 1) := by decide +kernel
theorem d_Z_law_580 : decode b_Z_law 580 = .ok (.ifCond .eq 5, 3) := by decide +kernel
theorem d_Z_law_583 : decode b_Z_law 583 = .ok (.iconst 0, 1) := by decide +kernel
theorem d_Z_law_584 : decode b_Z_law 584 = .ok (.ireturn, 1) := by decide +kernel
theorem d_Z_law_585 : decode b_Z_law 585 = .ok (.goto 331, 3) := by decide +kernel
theorem d_Z_law_588 : decode b_Z_law 588 = .ok (.aload_n 1, 1) := by decide +kernel
theorem d_Z_law_589 : decode b_Z_law 589 = .ok (.aload_n 0, 1) := by decide +kernel
theorem d_Z_law_590 : decode b_Z_law 590 = .ok (.iload 4, 2) := by decide +kernel
theorem d_Z_law_592 : decode b_Z_law 592 = .ok (.iconst 1, 1) := by decide +kernel
theorem d_Z_law_593 : decode b_Z_law 593 = .ok (.iadd, 1) := by decide +kernel
theorem d_Z_law_594 : decode b_Z_law 594 = .ok (.iaload, 1) := by decide +kernel
theorem d_Z_law_595 : decode b_Z_law 595 = .ok (.aload_n 0, 1) := by decide +kernel
theorem d_Z_law_596 : decode b_Z_law 596 = .ok (.iload 4, 2) := by decide +kernel
theorem d_Z_law_598 : decode b_Z_law 598 = .ok (.iconst 2, 1) := by decide +kernel
theorem d_Z_law_599 : decode b_Z_law 599 = .ok (.iadd, 1) := by decide +kernel
theorem d_Z_law_600 : decode b_Z_law 600 = .ok (.iaload, 1) := by decide +kernel
theorem d_Z_law_601 : decode b_Z_law 601 = .ok (.aload_n 3, 1) := by decide +kernel
theorem d_Z_law_602 : decode b_Z_law 602 = .ok (.invokestatic 96, 3) := by decide +kernel
theorem d_Z_law_605 : decode b_Z_law 605 = .ok (.istore 5, 2) := by decide +kernel
theorem d_Z_law_607 : decode b_Z_law 607 = .ok (.aload_n 2, 1) := by decide +kernel
theorem d_Z_law_608 : decode b_Z_law 608 = .ok (.aload_n 0, 1) := by decide +kernel
theorem d_Z_law_609 : decode b_Z_law 609 = .ok (.iload 4, 2) := by decide +kernel
theorem d_Z_law_611 : decode b_Z_law 611 = .ok (.iconst 1, 1) := by decide +kernel
theorem d_Z_law_612 : decode b_Z_law 612 = .ok (.iadd, 1) := by decide +kernel
theorem d_Z_law_613 : decode b_Z_law 613 = .ok (.iaload, 1) := by decide +kernel
theorem d_Z_law_614 : decode b_Z_law 614 = .ok (.aload_n 0, 1) := by decide +kernel
theorem d_Z_law_615 : decode b_Z_law 615 = .ok (.iload 4, 2) := by decide +kernel
theorem d_Z_law_617 : decode b_Z_law 617 = .ok (.iconst 2, 1) := by decide +kernel
theorem d_Z_law_618 : decode b_Z_law 618 = .ok (.iadd, 1) := by decide +kernel
theorem d_Z_law_619 : decode b_Z_law 619 = .ok (.iaload, 1) := by decide +kernel
theorem d_Z_law_620 : decode b_Z_law 620 = .ok (.invokevirtual 98, 3) := by decide +kernel
theorem d_Z_law_623 : decode b_Z_law 623 = .ok (.istore 6, 2) := by decide +kernel
theorem d_Z_law_625 : decode b_Z_law 625 = .ok (.aload_n 2, 1) := by decide +kernel
theorem d_Z_law_626 : decode b_Z_law 626 = .ok (.invokevirtual 58, 3) := by decide +kernel
theorem d_Z_law_629 : decode b_Z_law 629 = .ok (.iload 5, 2) := by decide +kernel
theorem d_Z_law_631 : decode b_Z_law 631 = .ok (.if_icmp .eq 5, 3) := by decide +kernel
theorem d_Z_law_634 : decode b_Z_law 634 = .ok (.iconst 0, 1) := by decide +kernel
theorem d_Z_law_635 : decode b_Z_law 635 = .ok (.ireturn, 1) := by decide +kernel
theorem d_Z_law_636 : decode b_Z_law 636 = .ok (.iload 5, 2) := by decide +kernel
theorem d_Z_law_638 : decode b_Z_law 638 = .ok (.ifCond .ne 15, 3) := by decide +kernel
theorem d_Z_law_641 : decode b_Z_law 641 = .ok (.aload_n 3, 1) := by decide +kernel
theorem d_Z_law_642 : decode b_Z_law 642 = .ok (.iconst 0, 1) := by decide +kernel
theorem d_Z_law_643 : decode b_Z_law 643 = .ok (.laload, 1) := by decide +kernel
theorem d_Z_law_644 : decode b_Z_law 644 = .ok (.iload 6, 2) := by decide +kernel
theorem d_Z_law_646 : decode b_Z_law 646 = .ok (.i2l, 1) := by decide +kernel
theorem d_Z_law_647 : decode b_Z_law 647 = .ok (.lcmp, 1) := by decide +kernel
theorem d_Z_law_648 : decode b_Z_law 648 = .ok (.ifCond .eq 5, 3) := by decide +kernel
theorem d_Z_law_651 : decode b_Z_law 651 = .ok (.iconst 0, 1) := by decide +kernel
theorem d_Z_law_652 : decode b_Z_law 652 = .ok (.ireturn, 1) := by decide +kernel
theorem d_Z_law_653 : decode b_Z_law 653 = .ok (.goto 263, 3) := by decide +kernel
theorem d_Z_law_656 : decode b_Z_law 656 = .ok (.aload_n 1, 1) := by decide +kernel
theorem d_Z_law_657 : decode b_Z_law 657 = .ok (.aload_n 0, 1) := by decide +kernel
theorem d_Z_law_658 : decode b_Z_law 658 = .ok (.iload 4, 2) := by decide +kernel
theorem d_Z_law_660 : decode b_Z_law 660 = .ok (.iconst 1, 1) := by decide +kernel
theorem d_Z_law_661 : decode b_Z_law 661 = .ok (.iadd, 1) := by decide +kernel
theorem d_Z_law_662 : decode b_Z_law 662 = .ok (.iaload, 1) := by decide +kernel
theorem d_Z_law_663 : decode b_Z_law 663 = .ok (.aload_n 3, 1) := by decide +kernel
theorem d_Z_law_664 : decode b_Z_law 664 = .ok (.invokestatic 99, 3) := by decide +kernel
theorem d_Z_law_667 : decode b_Z_law 667 = .ok (.istore 5, 2) := by decide +kernel
theorem d_Z_law_669 : decode b_Z_law 669 = .ok (.aload_n 2, 1) := by decide +kernel
theorem d_Z_law_670 : decode b_Z_law 670 = .ok (.aload_n 0, 1) := by decide +kernel
theorem d_Z_law_671 : decode b_Z_law 671 = .ok (.iload 4, 2) := by decide +kernel
theorem d_Z_law_673 : decode b_Z_law 673 = .ok (.iconst 1, 1) := by decide +kernel
theorem d_Z_law_674 : decode b_Z_law 674 = .ok (.iadd, 1) := by decide +kernel
theorem d_Z_law_675 : decode b_Z_law 675 = .ok (.iaload, 1) := by decide +kernel
theorem d_Z_law_676 : decode b_Z_law 676 = .ok (.invokevirtual 101, 3) := by decide +kernel
theorem d_Z_law_679 : decode b_Z_law 679 = .ok (.istore 6, 2) := by decide +kernel
theorem d_Z_law_681 : decode b_Z_law 681 = .ok (.aload_n 2, 1) := by decide +kernel
theorem d_Z_law_682 : decode b_Z_law 682 = .ok (.invokevirtual 58, 3) := by decide +kernel
theorem d_Z_law_685 : decode b_Z_law 685 = .ok (.iload 5, 2) := by decide +kernel
theorem d_Z_law_687 : decode b_Z_law 687 = .ok (.if_icmp .eq 5, 3) := by decide +kernel
theorem d_Z_law_690 : decode b_Z_law 690 = .ok (.iconst 0, 1) := by decide +kernel
theorem d_Z_law_691 : decode b_Z_law 691 = .ok (.ireturn, 1) := by decide +kernel
theorem d_Z_law_692 : decode b_Z_law 692 = .ok (.iload 5, 2) := by decide +kernel
theorem d_Z_law_694 : decode b_Z_law 694 = .ok (.ifCond .ne 15, 3) := by decide +kernel
theorem d_Z_law_697 : decode b_Z_law 697 = .ok (.aload_n 3, 1) := by decide +kernel
theorem d_Z_law_698 : decode b_Z_law 698 = .ok (.iconst 0, 1) := by decide +kernel
theorem d_Z_law_699 : decode b_Z_law 699 = .ok (.laload, 1) := by decide +kernel
theorem d_Z_law_700 : decode b_Z_law 700 = .ok (.iload 6, 2) := by decide +kernel
theorem d_Z_law_702 : decode b_Z_law 702 = .ok (.i2l, 1) := by decide +kernel
theorem d_Z_law_703 : decode b_Z_law 703 = .ok (.lcmp, 1) := by decide +kernel
theorem d_Z_law_704 : decode b_Z_law 704 = .ok (.ifCond .eq 5, 3) := by decide +kernel
theorem d_Z_law_707 : decode b_Z_law 707 = .ok (.iconst 0, 1) := by decide +kernel
theorem d_Z_law_708 : decode b_Z_law 708 = .ok (.ireturn, 1) := by decide +kernel
theorem d_Z_law_709 : decode b_Z_law 709 = .ok (.goto 207, 3) := by decide +kernel
theorem d_Z_law_712 : decode b_Z_law 712 = .ok (.aload_n 1, 1) := by decide +kernel
theorem d_Z_law_713 : decode b_Z_law 713 = .ok (.aload_n 0, 1) := by decide +kernel
theorem d_Z_law_714 : decode b_Z_law 714 = .ok (.iload 4, 2) := by decide +kernel
theorem d_Z_law_716 : decode b_Z_law 716 = .ok (.iconst 1, 1) := by decide +kernel
theorem d_Z_law_717 : decode b_Z_law 717 = .ok (.iadd, 1) := by decide +kernel
theorem d_Z_law_718 : decode b_Z_law 718 = .ok (.iaload, 1) := by decide +kernel
theorem d_Z_law_719 : decode b_Z_law 719 = .ok (.aload_n 0, 1) := by decide +kernel
theorem d_Z_law_720 : decode b_Z_law 720 = .ok (.iload 4, 2) := by decide +kernel
theorem d_Z_law_722 : decode b_Z_law 722 = .ok (.iconst 2, 1) := by decide +kernel
theorem d_Z_law_723 : decode b_Z_law 723 = .ok (.iadd, 1) := by decide +kernel
theorem d_Z_law_724 : decode b_Z_law 724 = .ok (.iaload, 1) := by decide +kernel
theorem d_Z_law_725 : decode b_Z_law 725 = .ok (.aload_n 0, 1) := by decide +kernel
theorem d_Z_law_726 : decode b_Z_law 726 = .ok (.iload 4, 2) := by decide +kernel
theorem d_Z_law_728 : decode b_Z_law 728 = .ok (.iconst 3, 1) := by decide +kernel
theorem d_Z_law_729 : decode b_Z_law 729 = .ok (.iadd, 1) := by decide +kernel
theorem d_Z_law_730 : decode b_Z_law 730 = .ok (.iaload, 1) := by decide +kernel
theorem d_Z_law_731 : decode b_Z_law 731 = .ok (.aload_n 3, 1) := by decide +kernel
theorem d_Z_law_732 : decode b_Z_law 732 = .ok (.invokestatic 102, 3) := by decide +kernel
theorem d_Z_law_735 : decode b_Z_law 735 = .ok (.istore 5, 2) := by decide +kernel
theorem d_Z_law_737 : decode b_Z_law 737 = .ok (.aload_n 2, 1) := by decide +kernel
theorem d_Z_law_738 : decode b_Z_law 738 = .ok (.aload_n 0, 1) := by decide +kernel
theorem d_Z_law_739 : decode b_Z_law 739 = .ok (.iload 4, 2) := by decide +kernel
theorem d_Z_law_741 : decode b_Z_law 741 = .ok (.iconst 1, 1) := by decide +kernel
theorem d_Z_law_742 : decode b_Z_law 742 = .ok (.iadd, 1) := by decide +kernel
theorem d_Z_law_743 : decode b_Z_law 743 = .ok (.iaload, 1) := by decide +kernel
theorem d_Z_law_744 : decode b_Z_law 744 = .ok (.aload_n 0, 1) := by decide +kernel
theorem d_Z_law_745 : decode b_Z_law 745 = .ok (.iload 4, 2) := by decide +kernel
theorem d_Z_law_747 : decode b_Z_law 747 = .ok (.iconst 2, 1) := by decide +kernel
theorem d_Z_law_748 : decode b_Z_law 748 = .ok (.iadd, 1) := by decide +kernel
theorem d_Z_law_749 : decode b_Z_law 749 = .ok (.iaload, 1) := by decide +kernel
theorem d_Z_law_750 : decode b_Z_law 750 = .ok (.aload_n 0, 1) := by decide +kernel
theorem d_Z_law_751 : decode b_Z_law 751 = .ok (.iload 4, 2) := by decide +kernel
theorem d_Z_law_753 : decode b_Z_law 753 = .ok (.iconst 3, 1) := by decide +kernel
theorem d_Z_law_754 : decode b_Z_law 754 = .ok (.iadd, 1) := by decide +kernel
theorem d_Z_law_755 : decode b_Z_law 755 = .ok (.iaload, 1) := by decide +kernel
theorem d_Z_law_756 : decode b_Z_law 756 = .ok (.invokevirtual 105, 3) := by decide +kernel
theorem d_Z_law_759 : decode b_Z_law 759 = .ok (.istore 6, 2) := by decide +kernel
theorem d_Z_law_761 : decode b_Z_law 761 = .ok (.aload_n 2, 1) := by decide +kernel
theorem d_Z_law_762 : decode b_Z_law 762 = .ok (.invokevirtual 58, 3) := by decide +kernel
theorem d_Z_law_765 : decode b_Z_law 765 = .ok (.iload 5, 2) := by decide +kernel
theorem d_Z_law_767 : decode b_Z_law 767 = .ok (.if_icmp .eq 5, 3) := by decide +kernel
theorem d_Z_law_770 : decode b_Z_law 770 = .ok (.iconst 0, 1) := by decide +kernel
theorem d_Z_law_771 : decode b_Z_law 771 = .ok (.ireturn, 1) := by decide +kernel
theorem d_Z_law_772 : decode b_Z_law 772 = .ok (.iload 5, 2) := by decide +kernel
theorem d_Z_law_774 : decode b_Z_law 774 = .ok (.ifCond .ne 15, 3) := by decide +kernel
theorem d_Z_law_777 : decode b_Z_law 777 = .ok (.aload_n 3, 1) := by decide +kernel
theorem d_Z_law_778 : decode b_Z_law 778 = .ok (.iconst 0, 1) := by decide +kernel
theorem d_Z_law_779 : decode b_Z_law 779 = .ok (.laload, 1) := by decide +kernel
theorem d_Z_law_780 : decode b_Z_law 780 = .ok (.iload 6, 2) := by decide +kernel
theorem d_Z_law_782 : decode b_Z_law 782 = .ok (.i2l, 1) := by decide +kernel
theorem d_Z_law_783 : decode b_Z_law 783 = .ok (.lcmp, 1) := by decide +kernel
theorem d_Z_law_784 : decode b_Z_law 784 = .ok (.ifCond .eq 5, 3) := by decide +kernel
theorem d_Z_law_787 : decode b_Z_law 787 = .ok (.iconst 0, 1) := by decide +kernel
theorem d_Z_law_788 : decode b_Z_law 788 = .ok (.ireturn, 1) := by decide +kernel
theorem d_Z_law_789 : decode b_Z_law 789 = .ok (.goto 127, 3) := by decide +kernel
theorem d_Z_law_792 : decode b_Z_law 792 = .ok (.aload_n 1, 1) := by decide +kernel
theorem d_Z_law_793 : decode b_Z_law 793 = .ok (.aload_n 0, 1) := by decide +kernel
theorem d_Z_law_794 : decode b_Z_law 794 = .ok (.iload 4, 2) := by decide +kernel
theorem d_Z_law_796 : decode b_Z_law 796 = .ok (.iconst 1, 1) := by decide +kernel
theorem d_Z_law_797 : decode b_Z_law 797 = .ok (.iadd, 1) := by decide +kernel
theorem d_Z_law_798 : decode b_Z_law 798 = .ok (.iaload, 1) := by decide +kernel
theorem d_Z_law_799 : decode b_Z_law 799 = .ok (.aload_n 0, 1) := by decide +kernel
theorem d_Z_law_800 : decode b_Z_law 800 = .ok (.iload 4, 2) := by decide +kernel
theorem d_Z_law_802 : decode b_Z_law 802 = .ok (.iconst 2, 1) := by decide +kernel
theorem d_Z_law_803 : decode b_Z_law 803 = .ok (.iadd, 1) := by decide +kernel
theorem d_Z_law_804 : decode b_Z_law 804 = .ok (.iaload, 1) := by decide +kernel
theorem d_Z_law_805 : decode b_Z_law 805 = .ok (.aload_n 3, 1) := by decide +kernel
theorem d_Z_law_806 : decode b_Z_law 806 = .ok (.invokestatic 106, 3) := by decide +kernel
theorem d_Z_law_809 : decode b_Z_law 809 = .ok (.istore 5, 2) := by decide +kernel
theorem d_Z_law_811 : decode b_Z_law 811 = .ok (.aload_n 2, 1) := by decide +kernel
theorem d_Z_law_812 : decode b_Z_law 812 = .ok (.aload_n 0, 1) := by decide +kernel
theorem d_Z_law_813 : decode b_Z_law 813 = .ok (.iload 4, 2) := by decide +kernel
theorem d_Z_law_815 : decode b_Z_law 815 = .ok (.iconst 1, 1) := by decide +kernel
theorem d_Z_law_816 : decode b_Z_law 816 = .ok (.iadd, 1) := by decide +kernel
theorem d_Z_law_817 : decode b_Z_law 817 = .ok (.iaload, 1) := by decide +kernel
theorem d_Z_law_818 : decode b_Z_law 818 = .ok (.aload_n 0, 1) := by decide +kernel
theorem d_Z_law_819 : decode b_Z_law 819 = .ok (.iload 4, 2) := by decide +kernel
theorem d_Z_law_821 : decode b_Z_law 821 = .ok (.iconst 2, 1) := by decide +kernel
theorem d_Z_law_822 : decode b_Z_law 822 = .ok (.iadd, 1) := by decide +kernel
theorem d_Z_law_823 : decode b_Z_law 823 = .ok (.iaload, 1) := by decide +kernel
theorem d_Z_law_824 : decode b_Z_law 824 = .ok (.invokevirtual 108, 3) := by decide +kernel
theorem d_Z_law_827 : decode b_Z_law 827 = .ok (.istore 6, 2) := by decide +kernel
theorem d_Z_law_829 : decode b_Z_law 829 = .ok (.aload_n 2, 1) := by decide +kernel
theorem d_Z_law_830 : decode b_Z_law 830 = .ok (.invokevirtual 58, 3) := by decide +kernel
theorem d_Z_law_833 : decode b_Z_law 833 = .ok (.iload 5, 2) := by decide +kernel
theorem d_Z_law_835 : decode b_Z_law 835 = .ok (.if_icmp .eq 5, 3) := by decide +kernel
theorem d_Z_law_838 : decode b_Z_law 838 = .ok (.iconst 0, 1) := by decide +kernel
theorem d_Z_law_839 : decode b_Z_law 839 = .ok (.ireturn, 1) := by decide +kernel
theorem d_Z_law_840 : decode b_Z_law 840 = .ok (.iload 5, 2) := by decide +kernel
theorem d_Z_law_842 : decode b_Z_law 842 = .ok (.ifCond .ne 15, 3) := by decide +kernel
theorem d_Z_law_845 : decode b_Z_law 845 = .ok (.aload_n 3, 1) := by decide +kernel
theorem d_Z_law_846 : decode b_Z_law 846 = .ok (.iconst 0, 1) := by decide +kernel
theorem d_Z_law_847 : decode b_Z_law 847 = .ok (.laload, 1) := by decide +kernel
theorem d_Z_law_848 : decode b_Z_law 848 = .ok (.iload 6, 2) := by decide +kernel
theorem d_Z_law_850 : decode b_Z_law 850 = .ok (.i2l, 1) := by decide +kernel
theorem d_Z_law_851 : decode b_Z_law 851 = .ok (.lcmp, 1) := by decide +kernel
theorem d_Z_law_852 : decode b_Z_law 852 = .ok (.ifCond .eq 5, 3) := by decide +kernel
theorem d_Z_law_855 : decode b_Z_law 855 = .ok (.iconst 0, 1) := by decide +kernel
theorem d_Z_law_856 : decode b_Z_law 856 = .ok (.ireturn, 1) := by decide +kernel
theorem d_Z_law_857 : decode b_Z_law 857 = .ok (.goto 59, 3) := by decide +kernel
theorem d_Z_law_860 : decode b_Z_law 860 = .ok (.aload_n 1, 1) := by decide +kernel
theorem d_Z_law_861 : decode b_Z_law 861 = .ok (.aload_n 0, 1) := by decide +kernel
theorem d_Z_law_862 : decode b_Z_law 862 = .ok (.iload 4, 2) := by decide +kernel
theorem d_Z_law_864 : decode b_Z_law 864 = .ok (.iconst 1, 1) := by decide +kernel
theorem d_Z_law_865 : decode b_Z_law 865 = .ok (.iadd, 1) := by decide +kernel
theorem d_Z_law_866 : decode b_Z_law 866 = .ok (.iaload, 1) := by decide +kernel
theorem d_Z_law_867 : decode b_Z_law 867 = .ok (.aload_n 3, 1) := by decide +kernel
theorem d_Z_law_868 : decode b_Z_law 868 = .ok (.invokestatic 109, 3) := by decide +kernel
theorem d_Z_law_871 : decode b_Z_law 871 = .ok (.istore 5, 2) := by decide +kernel
theorem d_Z_law_873 : decode b_Z_law 873 = .ok (.aload_n 2, 1) := by decide +kernel
theorem d_Z_law_874 : decode b_Z_law 874 = .ok (.aload_n 0, 1) := by decide +kernel
theorem d_Z_law_875 : decode b_Z_law 875 = .ok (.iload 4, 2) := by decide +kernel
theorem d_Z_law_877 : decode b_Z_law 877 = .ok (.iconst 1, 1) := by decide +kernel
theorem d_Z_law_878 : decode b_Z_law 878 = .ok (.iadd, 1) := by decide +kernel
theorem d_Z_law_879 : decode b_Z_law 879 = .ok (.iaload, 1) := by decide +kernel
theorem d_Z_law_880 : decode b_Z_law 880 = .ok (.invokevirtual 111, 3) := by decide +kernel
theorem d_Z_law_883 : decode b_Z_law 883 = .ok (.istore 6, 2) := by decide +kernel
theorem d_Z_law_885 : decode b_Z_law 885 = .ok (.aload_n 2, 1) := by decide +kernel
theorem d_Z_law_886 : decode b_Z_law 886 = .ok (.invokevirtual 58, 3) := by decide +kernel
theorem d_Z_law_889 : decode b_Z_law 889 = .ok (.iload 5, 2) := by decide +kernel
theorem d_Z_law_891 : decode b_Z_law 891 = .ok (.if_icmp .eq 5, 3) := by decide +kernel
theorem d_Z_law_894 : decode b_Z_law 894 = .ok (.iconst 0, 1) := by decide +kernel
theorem d_Z_law_895 : decode b_Z_law 895 = .ok (.ireturn, 1) := by decide +kernel
theorem d_Z_law_896 : decode b_Z_law 896 = .ok (.iload 5, 2) := by decide +kernel
theorem d_Z_law_898 : decode b_Z_law 898 = .ok (.ifCond .ne 15, 3) := by decide +kernel
theorem d_Z_law_901 : decode b_Z_law 901 = .ok (.aload_n 3, 1) := by decide +kernel
theorem d_Z_law_902 : decode b_Z_law 902 = .ok (.iconst 0, 1) := by decide +kernel
theorem d_Z_law_903 : decode b_Z_law 903 = .ok (.laload, 1) := by decide +kernel
theorem d_Z_law_904 : decode b_Z_law 904 = .ok (.iload 6, 2) := by decide +kernel
theorem d_Z_law_906 : decode b_Z_law 906 = .ok (.i2l, 1) := by decide +kernel
theorem d_Z_law_907 : decode b_Z_law 907 = .ok (.lcmp, 1) := by decide +kernel
theorem d_Z_law_908 : decode b_Z_law 908 = .ok (.ifCond .eq 5, 3) := by decide +kernel
theorem d_Z_law_911 : decode b_Z_law 911 = .ok (.iconst 0, 1) := by decide +kernel
theorem d_Z_law_912 : decode b_Z_law 912 = .ok (.ireturn, 1) := by decide +kernel
theorem d_Z_law_913 : decode b_Z_law 913 = .ok (.goto 3, 3) := by decide +kernel
theorem d_Z_law_916 : decode b_Z_law 916 = .ok (.iinc 4 6, 3) := by decide +kernel
theorem d_Z_law_919 : decode b_Z_law 919 = .ok (.goto (-896), 3) := by decide +kernel
theorem d_Z_law_922 : decode b_Z_law 922 = .ok (.iconst 1, 1) := by decide +kernel
theorem d_Z_law_923 : decode b_Z_law 923 = .ok (.ireturn, 1) := by decide +kernel

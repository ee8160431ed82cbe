theorem li_mq {l : Launch} {y : MethodName} {b : ByteArray} {n d : Nat} {o : String} {D : va_G} {tys : List (ClassId × FieldType)} {as : List Value} {B : Heap → Prop} {r : Option Nat}
    (hy : plainName y.cls = true) (hn : (lg_sl as).length ≤ n)
    (body : ∀ (p : Program) (e : Env) (s : State) (m : MethodId) (args : Array Value) (below : List Frame) (meth : Method) (c : Code) (Q : State → Prop), li_C y b n (some (.object o)) p s m args meth c → B s.heap → va_K D CL tys s → NW s → GW D.2 s →
      (∀ (z : Option Nat) (pc : Nat) (ls : Array Slot), z = r → decode b pc = .ok (.areturn, 1) → W p l e (rmd d 0 0) s m args below meth c s.heap [] 0 0 Q (F0 m pc ls [va_rf z])) →
      ∀ ls : Array Slot, lv_has ls n (lv_args 0 as) → W p l e (rmd d 0 0) s m args below meth c s.heap [] 0 0 Q (F0 m 0 ls [])) :
    Met l y (wsy y b n (some (.object o))) (rmd d 0 0) (li_Pr D CL tys as B) (k2_QcV (va_rf r)) 0 0 (fun _ => False) := by
  refine li_met hy hn ?_
  intro p e s m below meth c C hB hK hN hG ls hl
  refine body p e s m _ below meth c _ C hB hK hN hG ?_ ls hl
  intro z pc ls ez hd
  subst ez
  obtain ⟨hx, hb, hr, hml, hown, hts, hlocks, hin⟩ := C
  exact W.aret (v := va_rf z) hx hb hr (Or.inl ⟨_, rfl⟩) (va_rf_or z) (fun t ht hW => ⟨rfl, ht⟩) (fun q h => by cases h) hd
/-! the class's order of what was found -/
def caW (d : Int) : List (List Int) → List (List Int) → Int
  | a :: as, b :: bs => if cmpW a b = 0 then caW d as bs else cmpW a b
  | _, _ => d
def icL (a b : List (List Int)) : Int := caW (icmp a.length b.length) a b
theorem caL_W {f : Int → Int} {d : Int} {ws ws2 : List (List Int)} : ∀ (k : Nat) (i : Int), 0 ≤ i → (i.toNat + k = min ws.length ws2.length) → (∀ z : Int, 0 ≤ z → z < min ws.length ws2.length → f z = cmpW (ws.getD z.toNat []) (ws2.getD z.toNat [])) → caL f d k i = caW d (ws.drop i.toNat) (ws2.drop i.toNat) := by
  intro k
  induction k with
  | zero =>
    intro i h0 h1 h2
    simp only [caL]
    rcases Nat.le_total ws.length ws2.length with h3 | h3
    · rw [List.drop_eq_nil_of_le (show ws.length ≤ i.toNat by omega)]; rfl
    · rw [List.drop_eq_nil_of_le (show ws2.length ≤ i.toNat by omega)]
      cases ws.drop i.toNat <;> rfl
  | succ k ih =>
    intro i h0 h1 h2
    have a1 : i.toNat < ws.length := by omega
    have a2 : i.toNat < ws2.length := by omega
    have e1 := h2 i h0 (by omega)
    rw [List.drop_eq_getElem_cons a1, List.drop_eq_getElem_cons a2]
    rw [List.getD_eq_getElem?_getD, List.getD_eq_getElem?_getD, List.getElem?_eq_getElem a1, List.getElem?_eq_getElem a2] at e1
    simp only [Option.getD_some] at e1
    simp only [caL, caW]
    rw [e1, ih (i + 1) (by omega) (by omega) h2, show (i + 1).toNat = i.toNat + 1 by omega]
theorem caL_r {f : Int → Int} {d lo hi : Int} (hf : ∀ i, lo ≤ f i ∧ f i ≤ hi) (hd : lo ≤ d ∧ d ≤ hi) : ∀ (k : Nat) (i : Int), lo ≤ caL f d k i ∧ caL f d k i ≤ hi := by
  intro k
  induction k with
  | zero => intro i; exact hd
  | succ k ih => intro i; simp only [caL]; split; (exact ih _); exact hf i
theorem cwF_b {wn wk : Nat} {wz : Int} {lt sb se : Nat → Int} {i : Int} {wn2 wk2 : Nat} {wz2 : Int} {lt2 sb2 se2 : Nat → Int} {j : Int} (h : WR wn wk wz lt sb se) (h2 : WR wn2 wk2 wz2 lt2 sb2 se2) : -1000000 ≤ cwF wn wz lt sb se i wn2 wz2 lt2 sb2 se2 j ∧ cwF wn wz lt sb se i wn2 wz2 lt2 sb2 se2 j ≤ 1000000 := by
  obtain ⟨h1, -, -, hl, hs, he⟩ := h
  obtain ⟨h1', -, -, hl', hs', he'⟩ := h2
  unfold cwF
  split
  · have a := hs i.toNat; have b := he i.toNat; have c := hs' j.toNat; have d := he' j.toNat
    unfold cmpF
    split
    · omega
    · exact cmpL_r (fun k => by have := hl ((sb i.toNat).toNat + k); omega) (fun k => by have := hl' ((sb2 j.toNat).toNat + k); omega) (by omega) _ _
  · omega
theorem icmp_r {x y : Int} : -1 ≤ icmp x y ∧ icmp x y ≤ 1 := by unfold icmp; (repeat' split) <;> omega
def kyF (t : Nat → Int) (n : Nat) (ti ts te : Nat → Int) (tc ix : Int) : Int := if ix = 4 then dateF t n ti ts te tc else txFst ti tc ix tc.toNat 0
def kyD (ix : Int) (d : HD) : Int := kyF d.t d.n d.ti d.ts d.te d.tc ix
def txW (d : HD) (ix k : Int) : List (List Int) := wsF d.t false (txSt d.ts d.te d.tl d.tc k ix) (txEn d.te d.tc k)
def scO (ix : Int) (a b : HD) : Int := if ix = 4 then icmp (kyD ix a) (kyD ix b) else icL (txW a ix (kyD ix a)) (txW b ix (kyD ix b))
def scF (ix : Int) (dn : Bool) (a b : HD) : Int := if kyD ix a = -1 ∨ kyD ix b = -1 then (if kyD ix a = kyD ix b then 0 else if kyD ix a = -1 then 1 else -1) else if dn = true then - scO ix a b else scO ix a b
def cmR (hd : Nat → Option HD) (ix : Int) (dn : Bool) (r s : Int) : Int := match hd r.toNat, hd s.toNat with
  | some a, some b => scF ix dn a b
  | _, _ => 0
def siL (cf : Int → Int → Int) : Nat → (Nat → Int) → (Nat → Int)
  | 0, f => f
  | j + 1, f => if cf (f (j + 1)) (f j) < 0 then siL cf j (va_up (va_up f (j + 1) (f j)) j (f (j + 1))) else f
def soS (cf : Int → Int → Int) : Nat → Int → (Nat → Int) → (Nat → Int)
  | 0, _, f => f
  | k + 1, i, f => soS cf k (i + 1) (siL cf i.toNat f)
def soA (cf : Int → Int → Int) (n : Int) (f : Nat → Int) : Nat → Int := soS cf (n - 1).toNat 1 f
theorem cmpG_r {d : Int} (hd : -1000000 ≤ d ∧ d ≤ 1000000) : ∀ a b : List Int, (∀ x ∈ a, 0 ≤ x ∧ x < 65536) → (∀ x ∈ b, 0 ≤ x ∧ x < 65536) → -1000000 ≤ cmpG d a b ∧ cmpG d a b ≤ 1000000 := by
  intro a
  induction a with
  | nil => intro b _ _; exact hd
  | cons x a ih =>
    intro b h1 h2
    cases b with
    | nil => exact hd
    | cons y b =>
      simp only [cmpG]
      have e1 := h1 x (List.mem_cons_self ..)
      have e2 := h2 y (List.mem_cons_self ..)
      split
      · exact ih b (fun z hz => h1 z (List.mem_cons_of_mem _ hz)) (fun z hz => h2 z (List.mem_cons_of_mem _ hz))
      · omega
theorem kyD_r (ix : Int) {d : HD} (h : HDok d) : -1 ≤ kyD ix d ∧ kyD ix d ≤ 100000 := by
  obtain ⟨⟨h1, h2, h3, h4, -⟩, -⟩ := h
  unfold kyD kyF
  split
  · have := dateF_r (t := d.t) (n := d.n) (ti := d.ti) (ts := d.ts) (te := d.te) (tc := d.tc) (fun j => by have := h4 j; omega)
    omega
  · rcases txFst_r d.ti d.tc ix d.tc.toNat 0 with h5 | h5
    · rw [h5]; omega
    · have := txIn_r h5; omega
theorem kyD_t {ix k : Int} {d : HD} (h : HDok d) (e : kyD ix d = k) (h4 : ¬ ix = 4) (h1 : ¬ k = -1) : 0 ≤ k ∧ k < d.tc := by
  unfold kyD kyF at e
  rw [if_neg h4] at e
  rcases txFst_r d.ti d.tc ix d.tc.toNat 0 with h5 | h5
  · omega
  · have := txIn_r h5; omega

theorem d_J_init_0 : decode b_J_init 0 = .ok (.aload_n 0, 1) := by decide +kernel
theorem d_J_init_1 : decode b_J_init 1 = .ok (.invokespecial 3, 3) := by decide +kernel
theorem d_J_init_4 : decode b_J_init 4 = .ok (.aload_n 0, 1) := by decide +kernel
theorem d_J_init_5 : decode b_J_init 5 = .ok (.new 9, 3) := by decide +kernel
theorem d_J_init_8 : decode b_J_init 8 = .ok (.dup, 1) := by decide +kernel
theorem d_J_init_9 : decode b_J_init 9 = .ok (.bipush 100, 2) := by decide +kernel
theorem d_J_init_11 : decode b_J_init 11 = .ok (.invokespecial 11, 3) := by decide +kernel
theorem d_J_init_14 : decode b_J_init 14 = .ok (.putfield 14, 3) := by decide +kernel
theorem d_J_init_17 : decode b_J_init 17 = .ok (.aload_n 0, 1) := by decide +kernel
theorem d_J_init_18 : decode b_J_init 18 = .ok (.new 9, 3) := by decide +kernel
theorem d_J_init_21 : decode b_J_init 21 = .ok (.dup, 1) := by decide +kernel
theorem d_J_init_22 : decode b_J_init 22 = .ok (.sipush 400, 3) := by decide +kernel
theorem d_J_init_25 : decode b_J_init 25 = .ok (.invokespecial 11, 3) := by decide +kernel
theorem d_J_init_28 : decode b_J_init 28 = .ok (.putfield 20, 3) := by decide +kernel
theorem d_J_init_31 : decode b_J_init 31 = .ok (.aload_n 0, 1) := by decide +kernel
theorem d_J_init_32 : decode b_J_init 32 = .ok (.bipush 100, 2) := by decide +kernel
theorem d_J_init_34 : decode b_J_init 34 = .ok (.newarray .boolean, 2) := by decide +kernel
theorem d_J_init_36 : decode b_J_init 36 = .ok (.putfield 23, 3) := by decide +kernel
theorem d_J_init_39 : decode b_J_init 39 = .ok (.aload_n 0, 1) := by decide +kernel
theorem d_J_init_40 : decode b_J_init 40 = .ok (.bipush 101, 2) := by decide +kernel
theorem d_J_init_42 : decode b_J_init 42 = .ok (.newarray .boolean, 2) := by decide +kernel
theorem d_J_init_44 : decode b_J_init 44 = .ok (.putfield 27, 3) := by decide +kernel
theorem d_J_init_47 : decode b_J_init 47 = .ok (.return_, 1) := by decide +kernel
set_option maxHeartbeats 4000000 in
set_option maxRecDepth 100000 in
theorem c_J_init (l : Launch) (dC : Nat → ClassId) (dI : Nat → Nat → Nat) (kA : Nat → ClassId) (sz : Nat) (jo : Nat)  : Met l y_J_init (wsy y_J_init b_J_init 1 none) (rmd 2 10 1213) (li_Pr (dC, dI) CL (TY kA) [.ref jo] (fun h => h.size = sz ∧ va_P (dC, dI) CL [(jo, .inr (4, [.null, .null, .null, .null, .int (iI 0)]))] h ∧ va_D (fun q => dI 100 0 ≤ q) [(jo, .inr (4, [.null, .null, .null, .null, .int (iI 0)]))] ∧ (fun _ => True) h)) (li_Qw (S := (Nat) × (Nat) × (Nat) × (Nat) × (Nat) × (Nat) × (Nat) × (Nat) × (Nat) × (Nat)) (dC, dI) CL (fun _ => True) (fun _ => none) (fun u => [(jo, .inr (4, [.ref u.1, .ref u.2.2.2.2.1, .ref u.2.2.2.2.2.2.2.2.1, .ref u.2.2.2.2.2.2.2.2.2, .int (iI 0)])), (u.1, .inr (9, [.ref u.2.1, .ref u.2.2.1, .ref u.2.2.2.1, .int (iI 0)])), (u.2.1, .inl (kA 1, 100, .inl (aI (fun _ => 0)))), (u.2.2.1, .inl (kA 0, (100 / 2 + 1), .inl (aI (fun _ => 0)))), (u.2.2.2.1, .inl (kA 0, (100 / 2 + 1), .inl (aI (fun _ => 0)))), (u.2.2.2.2.1, .inr (9, [.ref u.2.2.2.2.2.1, .ref u.2.2.2.2.2.2.1, .ref u.2.2.2.2.2.2.2.1, .int (iI 0)])), (u.2.2.2.2.2.1, .inl (kA 1, 400, .inl (aI (fun _ => 0)))), (u.2.2.2.2.2.2.1, .inl (kA 0, (400 / 2 + 1), .inl (aI (fun _ => 0)))), (u.2.2.2.2.2.2.2.1, .inl (kA 0, (400 / 2 + 1), .inl (aI (fun _ => 0)))), (u.2.2.2.2.2.2.2.2.1, .inl (kA 2, 100, .inl (zI (fun _ => false)))), (u.2.2.2.2.2.2.2.2.2, .inl (kA 2, 101, .inl (zI (fun _ => false))))]) (va_A [(jo, .inr (4, [.null, .null, .null, .null, .int (iI 0)]))] sz)) 10 1213 (va_A [(jo, .inr (4, [.null, .null, .null, .null, .int (iI 0)]))] sz) := by
  refine li_mwv (by decide) (Nat.le_of_ble_eq_true rfl) ?_
  intro p e s m args below meth c Q A C hP hD hBx hK hN hG hA hAi hAN fin ls hl
  obtain ⟨hx, hb, hr, hml, hown, hts, hlocks, hin⟩ := C
  have hown : s.vm.findClass R_J = some m.cls := hown
  have hl : lv_has ls 1 [(0, .ref jo)] := hl
  have hin : meth.name = "<init>" := hin
  suffices h9 : ∀ (H : Heap) (locs : List Loc), H = s.heap → locs = [] → W p l e (rmd 2 10 1213) s m args below meth c H locs 0 0 Q (F0 m 0 ls []) from h9 _ _ rfl rfl
  intro H locs eH eL
  have hP : va_P (dC, dI) CL [(jo, .inr (4, [.null, .null, .null, .null, .int (iI 0)]))] H := by rw [eH]; exact hP
  have hS : va_S A s.heap H locs := by rw [eH, eL]; exact va_S.rf
  refine lv_aload_n hx hb d_J_init_0 rfl (lv_at hl 0 rfl) ?_
  refine W.objInit hx hb hown (hts (Cond.methodLink R_J 3 Lib.objectInit) (tk1 176 rfl rfl)) (hts (Cond.instanceMethod Lib.objectInit) (tk1 31 rfl rfl)) (hts (Cond.code Lib.objectInit ⟨#[0xb1]⟩ 1 none) (tk1 32 rfl rfl)) rfl (hl.1.trans hml.symm) rfl d_J_init_1 (Nat.le_of_ble_eq_true rfl) (Nat.le_of_ble_eq_true rfl) ?_
  refine W.eq (g2 := F0 m 4 ls []) rfl ?_
  refine lv_aload_n hx hb d_J_init_4 rfl (lv_at hl 0 rfl) ?_
  refine va_new (ci := 9) (fs := [.null, .null, .null, .int (iI 0)]) (C := R_W) (T := F_W) (N := 4) hx hb hts i_W t_W t_W_ok hown (hts (Cond.classLink R_J 9 R_W) (tk1 177 rfl rfl)) (hts _ im_W) (hts _ ii_W) hK hP hD hS hA rfl df_W (by show 0 + 1 ≤ 10; omega) (by show 0 + 4 ≤ 1213; omega) d_J_init_5 (fun q_a H hP hD hS => ?_)
  have hP : va_P (dC, dI) CL [(jo, .inr (4, [.null, .null, .null, .null, .int (iI 0)])), (q_a, .inr (9, [.null, .null, .null, .int (iI 0)]))] H := hP
  have hD : va_D A [(jo, .inr (4, [.null, .null, .null, .null, .int (iI 0)])), (q_a, .inr (9, [.null, .null, .null, .int (iI 0)]))] := hD
  refine lv_dup hx hb d_J_init_8 rfl ?_
  refine lv_bipush (v := iI 100) hx hb d_J_init_9 (by decide) ?_
  refine li_callw (wc := [(q_a, .inr (9, [.null, .null, .null, .int (iI 0)]))]) (wr := [(jo, .inr (4, [.null, .null, .null, .null, .int (iI 0)]))]) (va_runI (As := [.int (iI 100)]) (rest := [.ref q_a, .ref jo]) ⟨hx, hb, hml, hown, hts⟩ (c_W_init l dC dI kA H.size q_a 100 (by omega)) (cw_J_11 hts rfl rfl ⟨Nat.le_of_ble_eq_true rfl, Nat.le_of_ble_eq_true rfl⟩) (li_preS ⟨rfl, hP.sub [1] rfl, (hD.sub [1] (by decide) rfl).weaken (fun _ _ _ h => hAN _ h), trivial⟩ hK hN (hG.go hS hAN)) rfl rfl hl.1 rfl (lv_room (Nat.le_of_ble_eq_true rfl)) d_J_init_11 ⟨(by show 0 + 1 + 3 ≤ 10; omega), (by show 0 + 4 + (100 + (100 / 2 + 1) + (100 / 2 + 1)) ≤ 1213; omega)⟩) hP hD hS hA [1] [0] rfl rfl (by decide) (by decide) (fun u1 H locs hu1 hP hD hS _hk => ?_)
  obtain ⟨q_b, q_c, q_d⟩ := u1
  have hP : va_P (dC, dI) CL [(jo, .inr (4, [.null, .null, .null, .null, .int (iI 0)])), (q_a, .inr (9, [.ref q_b, .ref q_c, .ref q_d, .int (iI 0)])), (q_b, .inl (kA 1, 100, .inl (aI (fun _ => 0)))), (q_c, .inl (kA 0, (100 / 2 + 1), .inl (aI (fun _ => 0)))), (q_d, .inl (kA 0, (100 / 2 + 1), .inl (aI (fun _ => 0))))] H := hP
  have hD : va_D A [(jo, .inr (4, [.null, .null, .null, .null, .int (iI 0)])), (q_a, .inr (9, [.ref q_b, .ref q_c, .ref q_d, .int (iI 0)])), (q_b, .inl (kA 1, 100, .inl (aI (fun _ => 0)))), (q_c, .inl (kA 0, (100 / 2 + 1), .inl (aI (fun _ => 0)))), (q_d, .inl (kA 0, (100 / 2 + 1), .inl (aI (fun _ => 0))))] := hD
  refine pf_J_14 hx hb hts hin hown hK hP hD hS 0 rfl (Nat.le_of_ble_eq_true rfl) d_J_init_14 (fun H locs hP hD hS => ?_)
  have hP : va_P (dC, dI) CL [(jo, .inr (4, [.ref q_a, .null, .null, .null, .int (iI 0)])), (q_a, .inr (9, [.ref q_b, .ref q_c, .ref q_d, .int (iI 0)])), (q_b, .inl (kA 1, 100, .inl (aI (fun _ => 0)))), (q_c, .inl (kA 0, (100 / 2 + 1), .inl (aI (fun _ => 0)))), (q_d, .inl (kA 0, (100 / 2 + 1), .inl (aI (fun _ => 0))))] H := hP
  have hD : va_D A [(jo, .inr (4, [.ref q_a, .null, .null, .null, .int (iI 0)])), (q_a, .inr (9, [.ref q_b, .ref q_c, .ref q_d, .int (iI 0)])), (q_b, .inl (kA 1, 100, .inl (aI (fun _ => 0)))), (q_c, .inl (kA 0, (100 / 2 + 1), .inl (aI (fun _ => 0)))), (q_d, .inl (kA 0, (100 / 2 + 1), .inl (aI (fun _ => 0))))] := hD
  refine lv_aload_n hx hb d_J_init_17 rfl (lv_at hl 0 rfl) ?_
  refine va_new (ci := 9) (fs := [.null, .null, .null, .int (iI 0)]) (C := R_W) (T := F_W) (N := 4) hx hb hts i_W t_W t_W_ok hown (hts (Cond.classLink R_J 9 R_W) (tk1 177 rfl rfl)) (hts _ im_W) (hts _ ii_W) hK hP hD hS hA rfl df_W (by show 0 + 1 + 3 + 1 ≤ 10; omega) (by show 0 + 4 + (100 + (100 / 2 + 1) + (100 / 2 + 1)) + 4 ≤ 1213; omega) d_J_init_18 (fun q_e H hP hD hS => ?_)
  have hP : va_P (dC, dI) CL [(jo, .inr (4, [.ref q_a, .null, .null, .null, .int (iI 0)])), (q_a, .inr (9, [.ref q_b, .ref q_c, .ref q_d, .int (iI 0)])), (q_b, .inl (kA 1, 100, .inl (aI (fun _ => 0)))), (q_c, .inl (kA 0, (100 / 2 + 1), .inl (aI (fun _ => 0)))), (q_d, .inl (kA 0, (100 / 2 + 1), .inl (aI (fun _ => 0)))), (q_e, .inr (9, [.null, .null, .null, .int (iI 0)]))] H := hP
  have hD : va_D A [(jo, .inr (4, [.ref q_a, .null, .null, .null, .int (iI 0)])), (q_a, .inr (9, [.ref q_b, .ref q_c, .ref q_d, .int (iI 0)])), (q_b, .inl (kA 1, 100, .inl (aI (fun _ => 0)))), (q_c, .inl (kA 0, (100 / 2 + 1), .inl (aI (fun _ => 0)))), (q_d, .inl (kA 0, (100 / 2 + 1), .inl (aI (fun _ => 0)))), (q_e, .inr (9, [.null, .null, .null, .int (iI 0)]))] := hD
  refine lv_dup hx hb d_J_init_21 rfl ?_
  refine lv_sipush (v := iI 400) hx hb d_J_init_22 (by decide) ?_
  refine li_callw (wc := [(q_e, .inr (9, [.null, .null, .null, .int (iI 0)]))]) (wr := [(jo, .inr (4, [.ref q_a, .null, .null, .null, .int (iI 0)])), (q_a, .inr (9, [.ref q_b, .ref q_c, .ref q_d, .int (iI 0)])), (q_b, .inl (kA 1, 100, .inl (aI (fun _ => 0)))), (q_c, .inl (kA 0, (100 / 2 + 1), .inl (aI (fun _ => 0)))), (q_d, .inl (kA 0, (100 / 2 + 1), .inl (aI (fun _ => 0))))]) (va_runI (As := [.int (iI 400)]) (rest := [.ref q_e, .ref jo]) ⟨hx, hb, hml, hown, hts⟩ (c_W_init l dC dI kA H.size q_e 400 (by omega)) (cw_J_11 hts rfl rfl ⟨Nat.le_of_ble_eq_true rfl, Nat.le_of_ble_eq_true rfl⟩) (li_preS ⟨rfl, hP.sub [5] rfl, (hD.sub [5] (by decide) rfl).weaken (fun _ _ _ h => hAN _ h), trivial⟩ hK hN (hG.go hS hAN)) rfl rfl hl.1 rfl (lv_room (Nat.le_of_ble_eq_true rfl)) d_J_init_25 ⟨(by show 0 + 1 + 3 + 1 + 3 ≤ 10; omega), (by show 0 + 4 + (100 + (100 / 2 + 1) + (100 / 2 + 1)) + 4 + (400 + (400 / 2 + 1) + (400 / 2 + 1)) ≤ 1213; omega)⟩) hP hD hS hA [5] [0, 1, 2, 3, 4] rfl rfl (by decide) (by decide) (fun u2 H locs hu2 hP hD hS _hk => ?_)
  obtain ⟨q_f, q_g, q_h⟩ := u2
  have hP : va_P (dC, dI) CL [(jo, .inr (4, [.ref q_a, .null, .null, .null, .int (iI 0)])), (q_a, .inr (9, [.ref q_b, .ref q_c, .ref q_d, .int (iI 0)])), (q_b, .inl (kA 1, 100, .inl (aI (fun _ => 0)))), (q_c, .inl (kA 0, (100 / 2 + 1), .inl (aI (fun _ => 0)))), (q_d, .inl (kA 0, (100 / 2 + 1), .inl (aI (fun _ => 0)))), (q_e, .inr (9, [.ref q_f, .ref q_g, .ref q_h, .int (iI 0)])), (q_f, .inl (kA 1, 400, .inl (aI (fun _ => 0)))), (q_g, .inl (kA 0, (400 / 2 + 1), .inl (aI (fun _ => 0)))), (q_h, .inl (kA 0, (400 / 2 + 1), .inl (aI (fun _ => 0))))] H := hP
  have hD : va_D A [(jo, .inr (4, [.ref q_a, .null, .null, .null, .int (iI 0)])), (q_a, .inr (9, [.ref q_b, .ref q_c, .ref q_d, .int (iI 0)])), (q_b, .inl (kA 1, 100, .inl (aI (fun _ => 0)))), (q_c, .inl (kA 0, (100 / 2 + 1), .inl (aI (fun _ => 0)))), (q_d, .inl (kA 0, (100 / 2 + 1), .inl (aI (fun _ => 0)))), (q_e, .inr (9, [.ref q_f, .ref q_g, .ref q_h, .int (iI 0)])), (q_f, .inl (kA 1, 400, .inl (aI (fun _ => 0)))), (q_g, .inl (kA 0, (400 / 2 + 1), .inl (aI (fun _ => 0)))), (q_h, .inl (kA 0, (400 / 2 + 1), .inl (aI (fun _ => 0))))] := hD
  refine pf_J_20 hx hb hts hin hown hK hP hD hS 0 rfl (Nat.le_of_ble_eq_true rfl) d_J_init_28 (fun H locs hP hD hS => ?_)
  have hP : va_P (dC, dI) CL [(jo, .inr (4, [.ref q_a, .ref q_e, .null, .null, .int (iI 0)])), (q_a, .inr (9, [.ref q_b, .ref q_c, .ref q_d, .int (iI 0)])), (q_b, .inl (kA 1, 100, .inl (aI (fun _ => 0)))), (q_c, .inl (kA 0, (100 / 2 + 1), .inl (aI (fun _ => 0)))), (q_d, .inl (kA 0, (100 / 2 + 1), .inl (aI (fun _ => 0)))), (q_e, .inr (9, [.ref q_f, .ref q_g, .ref q_h, .int (iI 0)])), (q_f, .inl (kA 1, 400, .inl (aI (fun _ => 0)))), (q_g, .inl (kA 0, (400 / 2 + 1), .inl (aI (fun _ => 0)))), (q_h, .inl (kA 0, (400 / 2 + 1), .inl (aI (fun _ => 0))))] H := hP
  have hD : va_D A [(jo, .inr (4, [.ref q_a, .ref q_e, .null, .null, .int (iI 0)])), (q_a, .inr (9, [.ref q_b, .ref q_c, .ref q_d, .int (iI 0)])), (q_b, .inl (kA 1, 100, .inl (aI (fun _ => 0)))), (q_c, .inl (kA 0, (100 / 2 + 1), .inl (aI (fun _ => 0)))), (q_d, .inl (kA 0, (100 / 2 + 1), .inl (aI (fun _ => 0)))), (q_e, .inr (9, [.ref q_f, .ref q_g, .ref q_h, .int (iI 0)])), (q_f, .inl (kA 1, 400, .inl (aI (fun _ => 0)))), (q_g, .inl (kA 0, (400 / 2 + 1), .inl (aI (fun _ => 0)))), (q_h, .inl (kA 0, (400 / 2 + 1), .inl (aI (fun _ => 0))))] := hD
  refine lv_aload_n hx hb d_J_init_31 rfl (lv_at hl 0 rfl) ?_
  refine lv_bipush (v := iI 100) hx hb d_J_init_32 (by decide) ?_
  refine li_newZ hx hb (hts (Cond.arrayClass .boolean) (tk1 224 rfl rfl)) hK hP hD hS hA 2 rfl 100 (by omega) (by omega) (by show 0 + 1 + 3 + 1 + 3 + 1 ≤ 10; omega) (by show 0 + 4 + (100 + (100 / 2 + 1) + (100 / 2 + 1)) + 4 + (400 + (400 / 2 + 1) + (400 / 2 + 1)) + 100 ≤ 1213; omega) d_J_init_34 (fun q_i H hP hD hS => ?_)
  have hP : va_P (dC, dI) CL [(jo, .inr (4, [.ref q_a, .ref q_e, .null, .null, .int (iI 0)])), (q_a, .inr (9, [.ref q_b, .ref q_c, .ref q_d, .int (iI 0)])), (q_b, .inl (kA 1, 100, .inl (aI (fun _ => 0)))), (q_c, .inl (kA 0, (100 / 2 + 1), .inl (aI (fun _ => 0)))), (q_d, .inl (kA 0, (100 / 2 + 1), .inl (aI (fun _ => 0)))), (q_e, .inr (9, [.ref q_f, .ref q_g, .ref q_h, .int (iI 0)])), (q_f, .inl (kA 1, 400, .inl (aI (fun _ => 0)))), (q_g, .inl (kA 0, (400 / 2 + 1), .inl (aI (fun _ => 0)))), (q_h, .inl (kA 0, (400 / 2 + 1), .inl (aI (fun _ => 0)))), (q_i, .inl (kA 2, 100, .inl (zI (fun _ => false))))] H := hP
  have hD : va_D A [(jo, .inr (4, [.ref q_a, .ref q_e, .null, .null, .int (iI 0)])), (q_a, .inr (9, [.ref q_b, .ref q_c, .ref q_d, .int (iI 0)])), (q_b, .inl (kA 1, 100, .inl (aI (fun _ => 0)))), (q_c, .inl (kA 0, (100 / 2 + 1), .inl (aI (fun _ => 0)))), (q_d, .inl (kA 0, (100 / 2 + 1), .inl (aI (fun _ => 0)))), (q_e, .inr (9, [.ref q_f, .ref q_g, .ref q_h, .int (iI 0)])), (q_f, .inl (kA 1, 400, .inl (aI (fun _ => 0)))), (q_g, .inl (kA 0, (400 / 2 + 1), .inl (aI (fun _ => 0)))), (q_h, .inl (kA 0, (400 / 2 + 1), .inl (aI (fun _ => 0)))), (q_i, .inl (kA 2, 100, .inl (zI (fun _ => false))))] := hD
  refine pf_J_23 hx hb hts hin hown hK hP hD hS 0 rfl (Nat.le_of_ble_eq_true rfl) d_J_init_36 (fun H locs hP hD hS => ?_)
  have hP : va_P (dC, dI) CL [(jo, .inr (4, [.ref q_a, .ref q_e, .ref q_i, .null, .int (iI 0)])), (q_a, .inr (9, [.ref q_b, .ref q_c, .ref q_d, .int (iI 0)])), (q_b, .inl (kA 1, 100, .inl (aI (fun _ => 0)))), (q_c, .inl (kA 0, (100 / 2 + 1), .inl (aI (fun _ => 0)))), (q_d, .inl (kA 0, (100 / 2 + 1), .inl (aI (fun _ => 0)))), (q_e, .inr (9, [.ref q_f, .ref q_g, .ref q_h, .int (iI 0)])), (q_f, .inl (kA 1, 400, .inl (aI (fun _ => 0)))), (q_g, .inl (kA 0, (400 / 2 + 1), .inl (aI (fun _ => 0)))), (q_h, .inl (kA 0, (400 / 2 + 1), .inl (aI (fun _ => 0)))), (q_i, .inl (kA 2, 100, .inl (zI (fun _ => false))))] H := hP
  have hD : va_D A [(jo, .inr (4, [.ref q_a, .ref q_e, .ref q_i, .null, .int (iI 0)])), (q_a, .inr (9, [.ref q_b, .ref q_c, .ref q_d, .int (iI 0)])), (q_b, .inl (kA 1, 100, .inl (aI (fun _ => 0)))), (q_c, .inl (kA 0, (100 / 2 + 1), .inl (aI (fun _ => 0)))), (q_d, .inl (kA 0, (100 / 2 + 1), .inl (aI (fun _ => 0)))), (q_e, .inr (9, [.ref q_f, .ref q_g, .ref q_h, .int (iI 0)])), (q_f, .inl (kA 1, 400, .inl (aI (fun _ => 0)))), (q_g, .inl (kA 0, (400 / 2 + 1), .inl (aI (fun _ => 0)))), (q_h, .inl (kA 0, (400 / 2 + 1), .inl (aI (fun _ => 0)))), (q_i, .inl (kA 2, 100, .inl (zI (fun _ => false))))] := hD
  refine lv_aload_n hx hb d_J_init_39 rfl (lv_at hl 0 rfl) ?_
  refine lv_bipush (v := iI 101) hx hb d_J_init_40 (by decide) ?_
  refine li_newZ hx hb (hts (Cond.arrayClass .boolean) (tk1 224 rfl rfl)) hK hP hD hS hA 2 rfl 101 (by omega) (by omega) (by show 0 + 1 + 3 + 1 + 3 + 1 + 1 ≤ 10; omega) (by show 0 + 4 + (100 + (100 / 2 + 1) + (100 / 2 + 1)) + 4 + (400 + (400 / 2 + 1) + (400 / 2 + 1)) + 100 + 101 ≤ 1213; omega) d_J_init_42 (fun q_j H hP hD hS => ?_)
  have hP : va_P (dC, dI) CL [(jo, .inr (4, [.ref q_a, .ref q_e, .ref q_i, .null, .int (iI 0)])), (q_a, .inr (9, [.ref q_b, .ref q_c, .ref q_d, .int (iI 0)])), (q_b, .inl (kA 1, 100, .inl (aI (fun _ => 0)))), (q_c, .inl (kA 0, (100 / 2 + 1), .inl (aI (fun _ => 0)))), (q_d, .inl (kA 0, (100 / 2 + 1), .inl (aI (fun _ => 0)))), (q_e, .inr (9, [.ref q_f, .ref q_g, .ref q_h, .int (iI 0)])), (q_f, .inl (kA 1, 400, .inl (aI (fun _ => 0)))), (q_g, .inl (kA 0, (400 / 2 + 1), .inl (aI (fun _ => 0)))), (q_h, .inl (kA 0, (400 / 2 + 1), .inl (aI (fun _ => 0)))), (q_i, .inl (kA 2, 100, .inl (zI (fun _ => false)))), (q_j, .inl (kA 2, 101, .inl (zI (fun _ => false))))] H := hP
  have hD : va_D A [(jo, .inr (4, [.ref q_a, .ref q_e, .ref q_i, .null, .int (iI 0)])), (q_a, .inr (9, [.ref q_b, .ref q_c, .ref q_d, .int (iI 0)])), (q_b, .inl (kA 1, 100, .inl (aI (fun _ => 0)))), (q_c, .inl (kA 0, (100 / 2 + 1), .inl (aI (fun _ => 0)))), (q_d, .inl (kA 0, (100 / 2 + 1), .inl (aI (fun _ => 0)))), (q_e, .inr (9, [.ref q_f, .ref q_g, .ref q_h, .int (iI 0)])), (q_f, .inl (kA 1, 400, .inl (aI (fun _ => 0)))), (q_g, .inl (kA 0, (400 / 2 + 1), .inl (aI (fun _ => 0)))), (q_h, .inl (kA 0, (400 / 2 + 1), .inl (aI (fun _ => 0)))), (q_i, .inl (kA 2, 100, .inl (zI (fun _ => false)))), (q_j, .inl (kA 2, 101, .inl (zI (fun _ => false))))] := hD
  refine pf_J_27 hx hb hts hin hown hK hP hD hS 0 rfl (Nat.le_of_ble_eq_true rfl) d_J_init_44 (fun H locs hP hD hS => ?_)
  have hP : va_P (dC, dI) CL [(jo, .inr (4, [.ref q_a, .ref q_e, .ref q_i, .ref q_j, .int (iI 0)])), (q_a, .inr (9, [.ref q_b, .ref q_c, .ref q_d, .int (iI 0)])), (q_b, .inl (kA 1, 100, .inl (aI (fun _ => 0)))), (q_c, .inl (kA 0, (100 / 2 + 1), .inl (aI (fun _ => 0)))), (q_d, .inl (kA 0, (100 / 2 + 1), .inl (aI (fun _ => 0)))), (q_e, .inr (9, [.ref q_f, .ref q_g, .ref q_h, .int (iI 0)])), (q_f, .inl (kA 1, 400, .inl (aI (fun _ => 0)))), (q_g, .inl (kA 0, (400 / 2 + 1), .inl (aI (fun _ => 0)))), (q_h, .inl (kA 0, (400 / 2 + 1), .inl (aI (fun _ => 0)))), (q_i, .inl (kA 2, 100, .inl (zI (fun _ => false)))), (q_j, .inl (kA 2, 101, .inl (zI (fun _ => false))))] H := hP
  have hD : va_D A [(jo, .inr (4, [.ref q_a, .ref q_e, .ref q_i, .ref q_j, .int (iI 0)])), (q_a, .inr (9, [.ref q_b, .ref q_c, .ref q_d, .int (iI 0)])), (q_b, .inl (kA 1, 100, .inl (aI (fun _ => 0)))), (q_c, .inl (kA 0, (100 / 2 + 1), .inl (aI (fun _ => 0)))), (q_d, .inl (kA 0, (100 / 2 + 1), .inl (aI (fun _ => 0)))), (q_e, .inr (9, [.ref q_f, .ref q_g, .ref q_h, .int (iI 0)])), (q_f, .inl (kA 1, 400, .inl (aI (fun _ => 0)))), (q_g, .inl (kA 0, (400 / 2 + 1), .inl (aI (fun _ => 0)))), (q_h, .inl (kA 0, (400 / 2 + 1), .inl (aI (fun _ => 0)))), (q_i, .inl (kA 2, 100, .inl (zI (fun _ => false)))), (q_j, .inl (kA 2, 101, .inl (zI (fun _ => false))))] := hD
  refine W.widen (k := 10) (n := 1213) (by omega) (by omega) ?_
  exact fin (q_a, q_b, q_c, q_d, q_e, q_f, q_g, q_h, q_i, q_j) _ _ _ _ (by trivial) (by first | exact hP | (subst_vars; exact hP)) (by first | exact hD | (subst_vars; exact hD)) hS d_J_init_47
theorem d_S_init_0 : decode b_S_init 0 = .ok (.aload_n 0, 1) := by decide +kernel
theorem d_S_init_1 : decode b_S_init 1 = .ok (.invokespecial 3, 3) := by decide +kernel
theorem d_S_init_4 : decode b_S_init 4 = .ok (.aload_n 0, 1) := by decide +kernel
theorem d_S_init_5 : decode b_S_init 5 = .ok (.new 9, 3) := by decide +kernel
theorem d_S_init_8 : decode b_S_init 8 = .ok (.dup, 1) := by decide +kernel
theorem d_S_init_9 : decode b_S_init 9 = .ok (.sipush 400, 3) := by decide +kernel
theorem d_S_init_12 : decode b_S_init 12 = .ok (.invokespecial 11, 3) := by decide +kernel
theorem d_S_init_15 : decode b_S_init 15 = .ok (.putfield 14, 3) := by decide +kernel
theorem d_S_init_18 : decode b_S_init 18 = .ok (.aload_n 0, 1) := by decide +kernel
theorem d_S_init_19 : decode b_S_init 19 = .ok (.new 9, 3) := by decide +kernel
theorem d_S_init_22 : decode b_S_init 22 = .ok (.dup, 1) := by decide +kernel
theorem d_S_init_23 : decode b_S_init 23 = .ok (.sipush 400, 3) := by decide +kernel
theorem d_S_init_26 : decode b_S_init 26 = .ok (.invokespecial 11, 3) := by decide +kernel
theorem d_S_init_29 : decode b_S_init 29 = .ok (.putfield 20, 3) := by decide +kernel
theorem d_S_init_32 : decode b_S_init 32 = .ok (.return_, 1) := by decide +kernel
set_option maxHeartbeats 4000000 in
set_option maxRecDepth 100000 in
theorem c_S_init (l : Launch) (dC : Nat → ClassId) (dI : Nat → Nat → Nat) (kA : Nat → ClassId) (sz : Nat) (so : Nat)  : Met l y_S_init (wsy y_S_init b_S_init 1 none) (rmd 2 8 1612) (li_Pr (dC, dI) CL (TY kA) [.ref so] (fun h => h.size = sz ∧ va_P (dC, dI) CL [(so, .inr (7, [.null, .null]))] h ∧ va_D (fun q => dI 100 0 ≤ q) [(so, .inr (7, [.null, .null]))] ∧ (fun _ => True) h)) (li_Qw (S := (Nat) × (Nat) × (Nat) × (Nat) × (Nat) × (Nat) × (Nat) × (Nat)) (dC, dI) CL (fun _ => True) (fun _ => none) (fun u => [(so, .inr (7, [.ref u.1, .ref u.2.2.2.2.1])), (u.1, .inr (9, [.ref u.2.1, .ref u.2.2.1, .ref u.2.2.2.1, .int (iI 0)])), (u.2.1, .inl (kA 1, 400, .inl (aI (fun _ => 0)))), (u.2.2.1, .inl (kA 0, (400 / 2 + 1), .inl (aI (fun _ => 0)))), (u.2.2.2.1, .inl (kA 0, (400 / 2 + 1), .inl (aI (fun _ => 0)))), (u.2.2.2.2.1, .inr (9, [.ref u.2.2.2.2.2.1, .ref u.2.2.2.2.2.2.1, .ref u.2.2.2.2.2.2.2, .int (iI 0)])), (u.2.2.2.2.2.1, .inl (kA 1, 400, .inl (aI (fun _ => 0)))), (u.2.2.2.2.2.2.1, .inl (kA 0, (400 / 2 + 1), .inl (aI (fun _ => 0)))), (u.2.2.2.2.2.2.2, .inl (kA 0, (400 / 2 + 1), .inl (aI (fun _ => 0))))]) (va_A [(so, .inr (7, [.null, .null]))] sz)) 8 1612 (va_A [(so, .inr (7, [.null, .null]))] sz) := by
  refine li_mwv (by decide) (Nat.le_of_ble_eq_true rfl) ?_
  intro p e s m args below meth c Q A C hP hD hBx hK hN hG hA hAi hAN fin ls hl
  obtain ⟨hx, hb, hr, hml, hown, hts, hlocks, hin⟩ := C
  have hown : s.vm.findClass R_S = some m.cls := hown
  have hl : lv_has ls 1 [(0, .ref so)] := hl
  have hin : meth.name = "<init>" := hin
  suffices h9 : ∀ (H : Heap) (locs : List Loc), H = s.heap → locs = [] → W p l e (rmd 2 8 1612) s m args below meth c H locs 0 0 Q (F0 m 0 ls []) from h9 _ _ rfl rfl
  intro H locs eH eL
  have hP : va_P (dC, dI) CL [(so, .inr (7, [.null, .null]))] H := by rw [eH]; exact hP
  have hS : va_S A s.heap H locs := by rw [eH, eL]; exact va_S.rf
  refine lv_aload_n hx hb d_S_init_0 rfl (lv_at hl 0 rfl) ?_
  refine W.objInit hx hb hown (hts (Cond.methodLink R_S 3 Lib.objectInit) (tk1 230 rfl rfl)) (hts (Cond.instanceMethod Lib.objectInit) (tk1 31 rfl rfl)) (hts (Cond.code Lib.objectInit ⟨#[0xb1]⟩ 1 none) (tk1 32 rfl rfl)) rfl (hl.1.trans hml.symm) rfl d_S_init_1 (Nat.le_of_ble_eq_true rfl) (Nat.le_of_ble_eq_true rfl) ?_
  refine W.eq (g2 := F0 m 4 ls []) rfl ?_
  refine lv_aload_n hx hb d_S_init_4 rfl (lv_at hl 0 rfl) ?_
  refine va_new (ci := 9) (fs := [.null, .null, .null, .int (iI 0)]) (C := R_W) (T := F_W) (N := 4) hx hb hts i_W t_W t_W_ok hown (hts (Cond.classLink R_S 9 R_W) (tk1 231 rfl rfl)) (hts _ im_W) (hts _ ii_W) hK hP hD hS hA rfl df_W (by show 0 + 1 ≤ 8; omega) (by show 0 + 4 ≤ 1612; omega) d_S_init_5 (fun q_a H hP hD hS => ?_)
  have hP : va_P (dC, dI) CL [(so, .inr (7, [.null, .null])), (q_a, .inr (9, [.null, .null, .null, .int (iI 0)]))] H := hP
  have hD : va_D A [(so, .inr (7, [.null, .null])), (q_a, .inr (9, [.null, .null, .null, .int (iI 0)]))] := hD
  refine lv_dup hx hb d_S_init_8 rfl ?_
  refine lv_sipush (v := iI 400) hx hb d_S_init_9 (by decide) ?_
  refine li_callw (wc := [(q_a, .inr (9, [.null, .null, .null, .int (iI 0)]))]) (wr := [(so, .inr (7, [.null, .null]))]) (va_runI (As := [.int (iI 400)]) (rest := [.ref q_a, .ref so]) ⟨hx, hb, hml, hown, hts⟩ (c_W_init l dC dI kA H.size q_a 400 (by omega)) (cw_S_11 hts rfl rfl ⟨Nat.le_of_ble_eq_true rfl, Nat.le_of_ble_eq_true rfl⟩) (li_preS ⟨rfl, hP.sub [1] rfl, (hD.sub [1] (by decide) rfl).weaken (fun _ _ _ h => hAN _ h), trivial⟩ hK hN (hG.go hS hAN)) rfl rfl hl.1 rfl (lv_room (Nat.le_of_ble_eq_true rfl)) d_S_init_12 ⟨(by show 0 + 1 + 3 ≤ 8; omega), (by show 0 + 4 + (400 + (400 / 2 + 1) + (400 / 2 + 1)) ≤ 1612; omega)⟩) hP hD hS hA [1] [0] rfl rfl (by decide) (by decide) (fun u1 H locs hu1 hP hD hS _hk => ?_)
  obtain ⟨q_b, q_c, q_d⟩ := u1
  have hP : va_P (dC, dI) CL [(so, .inr (7, [.null, .null])), (q_a, .inr (9, [.ref q_b, .ref q_c, .ref q_d, .int (iI 0)])), (q_b, .inl (kA 1, 400, .inl (aI (fun _ => 0)))), (q_c, .inl (kA 0, (400 / 2 + 1), .inl (aI (fun _ => 0)))), (q_d, .inl (kA 0, (400 / 2 + 1), .inl (aI (fun _ => 0))))] H := hP
  have hD : va_D A [(so, .inr (7, [.null, .null])), (q_a, .inr (9, [.ref q_b, .ref q_c, .ref q_d, .int (iI 0)])), (q_b, .inl (kA 1, 400, .inl (aI (fun _ => 0)))), (q_c, .inl (kA 0, (400 / 2 + 1), .inl (aI (fun _ => 0)))), (q_d, .inl (kA 0, (400 / 2 + 1), .inl (aI (fun _ => 0))))] := hD
  refine pf_S_14 hx hb hts hin hown hK hP hD hS 0 rfl (Nat.le_of_ble_eq_true rfl) d_S_init_15 (fun H locs hP hD hS => ?_)
  have hP : va_P (dC, dI) CL [(so, .inr (7, [.ref q_a, .null])), (q_a, .inr (9, [.ref q_b, .ref q_c, .ref q_d, .int (iI 0)])), (q_b, .inl (kA 1, 400, .inl (aI (fun _ => 0)))), (q_c, .inl (kA 0, (400 / 2 + 1), .inl (aI (fun _ => 0)))), (q_d, .inl (kA 0, (400 / 2 + 1), .inl (aI (fun _ => 0))))] H := hP
  have hD : va_D A [(so, .inr (7, [.ref q_a, .null])), (q_a, .inr (9, [.ref q_b, .ref q_c, .ref q_d, .int (iI 0)])), (q_b, .inl (kA 1, 400, .inl (aI (fun _ => 0)))), (q_c, .inl (kA 0, (400 / 2 + 1), .inl (aI (fun _ => 0)))), (q_d, .inl (kA 0, (400 / 2 + 1), .inl (aI (fun _ => 0))))] := hD
  refine lv_aload_n hx hb d_S_init_18 rfl (lv_at hl 0 rfl) ?_
  refine va_new (ci := 9) (fs := [.null, .null, .null, .int (iI 0)]) (C := R_W) (T := F_W) (N := 4) hx hb hts i_W t_W t_W_ok hown (hts (Cond.classLink R_S 9 R_W) (tk1 231 rfl rfl)) (hts _ im_W) (hts _ ii_W) hK hP hD hS hA rfl df_W (by show 0 + 1 + 3 + 1 ≤ 8; omega) (by show 0 + 4 + (400 + (400 / 2 + 1) + (400 / 2 + 1)) + 4 ≤ 1612; omega) d_S_init_19 (fun q_e H hP hD hS => ?_)
  have hP : va_P (dC, dI) CL [(so, .inr (7, [.ref q_a, .null])), (q_a, .inr (9, [.ref q_b, .ref q_c, .ref q_d, .int (iI 0)])), (q_b, .inl (kA 1, 400, .inl (aI (fun _ => 0)))), (q_c, .inl (kA 0, (400 / 2 + 1), .inl (aI (fun _ => 0)))), (q_d, .inl (kA 0, (400 / 2 + 1), .inl (aI (fun _ => 0)))), (q_e, .inr (9, [.null, .null, .null, .int (iI 0)]))] H := hP
  have hD : va_D A [(so, .inr (7, [.ref q_a, .null])), (q_a, .inr (9, [.ref q_b, .ref q_c, .ref q_d, .int (iI 0)])), (q_b, .inl (kA 1, 400, .inl (aI (fun _ => 0)))), (q_c, .inl (kA 0, (400 / 2 + 1), .inl (aI (fun _ => 0)))), (q_d, .inl (kA 0, (400 / 2 + 1), .inl (aI (fun _ => 0)))), (q_e, .inr (9, [.null, .null, .null, .int (iI 0)]))] := hD
  refine lv_dup hx hb d_S_init_22 rfl ?_
  refine lv_sipush (v := iI 400) hx hb d_S_init_23 (by decide) ?_
  refine li_callw (wc := [(q_e, .inr (9, [.null, .null, .null, .int (iI 0)]))]) (wr := [(so, .inr (7, [.ref q_a, .null])), (q_a, .inr (9, [.ref q_b, .ref q_c, .ref q_d, .int (iI 0)])), (q_b, .inl (kA 1, 400, .inl (aI (fun _ => 0)))), (q_c, .inl (kA 0, (400 / 2 + 1), .inl (aI (fun _ => 0)))), (q_d, .inl (kA 0, (400 / 2 + 1), .inl (aI (fun _ => 0))))]) (va_runI (As := [.int (iI 400)]) (rest := [.ref q_e, .ref so]) ⟨hx, hb, hml, hown, hts⟩ (c_W_init l dC dI kA H.size q_e 400 (by omega)) (cw_S_11 hts rfl rfl ⟨Nat.le_of_ble_eq_true rfl, Nat.le_of_ble_eq_true rfl⟩) (li_preS ⟨rfl, hP.sub [5] rfl, (hD.sub [5] (by decide) rfl).weaken (fun _ _ _ h => hAN _ h), trivial⟩ hK hN (hG.go hS hAN)) rfl rfl hl.1 rfl (lv_room (Nat.le_of_ble_eq_true rfl)) d_S_init_26 ⟨(by show 0 + 1 + 3 + 1 + 3 ≤ 8; omega), (by show 0 + 4 + (400 + (400 / 2 + 1) + (400 / 2 + 1)) + 4 + (400 + (400 / 2 + 1) + (400 / 2 + 1)) ≤ 1612; omega)⟩) hP hD hS hA [5] [0, 1, 2, 3, 4] rfl rfl (by decide) (by decide) (fun u2 H locs hu2 hP hD hS _hk => ?_)
  obtain ⟨q_f, q_g, q_h⟩ := u2
  have hP : va_P (dC, dI) CL [(so, .inr (7, [.ref q_a, .null])), (q_a, .inr (9, [.ref q_b, .ref q_c, .ref q_d, .int (iI 0)])), (q_b, .inl (kA 1, 400, .inl (aI (fun _ => 0)))), (q_c, .inl (kA 0, (400 / 2 + 1), .inl (aI (fun _ => 0)))), (q_d, .inl (kA 0, (400 / 2 + 1), .inl (aI (fun _ => 0)))), (q_e, .inr (9, [.ref q_f, .ref q_g, .ref q_h, .int (iI 0)])), (q_f, .inl (kA 1, 400, .inl (aI (fun _ => 0)))), (q_g, .inl (kA 0, (400 / 2 + 1), .inl (aI (fun _ => 0)))), (q_h, .inl (kA 0, (400 / 2 + 1), .inl (aI (fun _ => 0))))] H := hP
  have hD : va_D A [(so, .inr (7, [.ref q_a, .null])), (q_a, .inr (9, [.ref q_b, .ref q_c, .ref q_d, .int (iI 0)])), (q_b, .inl (kA 1, 400, .inl (aI (fun _ => 0)))), (q_c, .inl (kA 0, (400 / 2 + 1), .inl (aI (fun _ => 0)))), (q_d, .inl (kA 0, (400 / 2 + 1), .inl (aI (fun _ => 0)))), (q_e, .inr (9, [.ref q_f, .ref q_g, .ref q_h, .int (iI 0)])), (q_f, .inl (kA 1, 400, .inl (aI (fun _ => 0)))), (q_g, .inl (kA 0, (400 / 2 + 1), .inl (aI (fun _ => 0)))), (q_h, .inl (kA 0, (400 / 2 + 1), .inl (aI (fun _ => 0))))] := hD
  refine pf_S_20 hx hb hts hin hown hK hP hD hS 0 rfl (Nat.le_of_ble_eq_true rfl) d_S_init_29 (fun H locs hP hD hS => ?_)
  have hP : va_P (dC, dI) CL [(so, .inr (7, [.ref q_a, .ref q_e])), (q_a, .inr (9, [.ref q_b, .ref q_c, .ref q_d, .int (iI 0)])), (q_b, .inl (kA 1, 400, .inl (aI (fun _ => 0)))), (q_c, .inl (kA 0, (400 / 2 + 1), .inl (aI (fun _ => 0)))), (q_d, .inl (kA 0, (400 / 2 + 1), .inl (aI (fun _ => 0)))), (q_e, .inr (9, [.ref q_f, .ref q_g, .ref q_h, .int (iI 0)])), (q_f, .inl (kA 1, 400, .inl (aI (fun _ => 0)))), (q_g, .inl (kA 0, (400 / 2 + 1), .inl (aI (fun _ => 0)))), (q_h, .inl (kA 0, (400 / 2 + 1), .inl (aI (fun _ => 0))))] H := hP
  have hD : va_D A [(so, .inr (7, [.ref q_a, .ref q_e])), (q_a, .inr (9, [.ref q_b, .ref q_c, .ref q_d, .int (iI 0)])), (q_b, .inl (kA 1, 400, .inl (aI (fun _ => 0)))), (q_c, .inl (kA 0, (400 / 2 + 1), .inl (aI (fun _ => 0)))), (q_d, .inl (kA 0, (400 / 2 + 1), .inl (aI (fun _ => 0)))), (q_e, .inr (9, [.ref q_f, .ref q_g, .ref q_h, .int (iI 0)])), (q_f, .inl (kA 1, 400, .inl (aI (fun _ => 0)))), (q_g, .inl (kA 0, (400 / 2 + 1), .inl (aI (fun _ => 0)))), (q_h, .inl (kA 0, (400 / 2 + 1), .inl (aI (fun _ => 0))))] := hD
  refine W.widen (k := 8) (n := 1612) (by omega) (by omega) ?_
  exact fin (q_a, q_b, q_c, q_d, q_e, q_f, q_g, q_h) _ _ _ _ (by trivial) (by first | exact hP | (subst_vars; exact hP)) (by first | exact hD | (subst_vars; exact hD)) hS d_S_init_32
theorem d_L_init_0 : decode b_L_init 0 = .ok (.aload_n 0, 1) := by decide +kernel
theorem d_L_init_1 : decode b_L_init 1 = .ok (.invokespecial 3, 3) := by decide +kernel
theorem d_L_init_4 : decode b_L_init 4 = .ok (.aload_n 0, 1) := by decide +kernel
theorem d_L_init_5 : decode b_L_init 5 = .ok (.sipush 256, 3) := by decide +kernel
theorem d_L_init_8 : decode b_L_init 8 = .ok (.newarray .char, 2) := by decide +kernel
theorem d_L_init_10 : decode b_L_init 10 = .ok (.putfield 11, 3) := by decide +kernel
theorem d_L_init_13 : decode b_L_init 13 = .ok (.aload_n 0, 1) := by decide +kernel
theorem d_L_init_14 : decode b_L_init 14 = .ok (.bipush 32, 2) := by decide +kernel
theorem d_L_init_16 : decode b_L_init 16 = .ok (.newarray .int, 2) := by decide +kernel
theorem d_L_init_18 : decode b_L_init 18 = .ok (.putfield 15, 3) := by decide +kernel
theorem d_L_init_21 : decode b_L_init 21 = .ok (.aload_n 0, 1) := by decide +kernel
theorem d_L_init_22 : decode b_L_init 22 = .ok (.bipush 32, 2) := by decide +kernel
theorem d_L_init_24 : decode b_L_init 24 = .ok (.newarray .int, 2) := by decide +kernel
theorem d_L_init_26 : decode b_L_init 26 = .ok (.putfield 19, 3) := by decide +kernel
theorem d_L_init_29 : decode b_L_init 29 = .ok (.aload_n 0, 1) := by decide +kernel
theorem d_L_init_30 : decode b_L_init 30 = .ok (.bipush 32, 2) := by decide +kernel
theorem d_L_init_32 : decode b_L_init 32 = .ok (.newarray .int, 2) := by decide +kernel
theorem d_L_init_34 : decode b_L_init 34 = .ok (.putfield 22, 3) := by decide +kernel
theorem d_L_init_37 : decode b_L_init 37 = .ok (.return_, 1) := by decide +kernel
set_option maxHeartbeats 4000000 in
set_option maxRecDepth 100000 in
theorem c_L_init (l : Launch) (dC : Nat → ClassId) (dI : Nat → Nat → Nat) (kA : Nat → ClassId) (sz : Nat) (xo : Nat)  : Met l y_L_init (wsy y_L_init b_L_init 1 none) (rmd 1 4 352) (li_Pr (dC, dI) CL (TY kA) [.ref xo] (fun h => h.size = sz ∧ va_P (dC, dI) CL [(xo, .inr (5, [.null, .int (iI 0), .null, .null, .null, .int (iI 0), .int (iI (bI false))]))] h ∧ va_D (fun q => dI 100 0 ≤ q) [(xo, .inr (5, [.null, .int (iI 0), .null, .null, .null, .int (iI 0), .int (iI (bI false))]))] ∧ (fun _ => True) h)) (li_Qw (S := (Nat) × (Nat) × (Nat) × (Nat)) (dC, dI) CL (fun _ => True) (fun _ => none) (fun u => [(xo, .inr (5, [.ref u.1, .int (iI 0), .ref u.2.1, .ref u.2.2.1, .ref u.2.2.2, .int (iI 0), .int (iI (bI false))])), (u.1, .inl (kA 1, 256, .inl (aI (fun _ => 0)))), (u.2.1, .inl (kA 0, 32, .inl (aI (fun _ => 0)))), (u.2.2.1, .inl (kA 0, 32, .inl (aI (fun _ => 0)))), (u.2.2.2, .inl (kA 0, 32, .inl (aI (fun _ => 0))))]) (va_A [(xo, .inr (5, [.null, .int (iI 0), .null, .null, .null, .int (iI 0), .int (iI (bI false))]))] sz)) 4 352 (va_A [(xo, .inr (5, [.null, .int (iI 0), .null, .null, .null, .int (iI 0), .int (iI (bI false))]))] sz) := by
  refine li_mwv (by decide) (Nat.le_of_ble_eq_true rfl) ?_
  intro p e s m args below meth c Q A C hP hD hBx hK hN hG hA hAi hAN fin ls hl
  obtain ⟨hx, hb, hr, hml, hown, hts, hlocks, hin⟩ := C
  have hown : s.vm.findClass R_L = some m.cls := hown
  have hl : lv_has ls 1 [(0, .ref xo)] := hl
  have hin : meth.name = "<init>" := hin
  suffices h9 : ∀ (H : Heap) (locs : List Loc), H = s.heap → locs = [] → W p l e (rmd 1 4 352) s m args below meth c H locs 0 0 Q (F0 m 0 ls []) from h9 _ _ rfl rfl
  intro H locs eH eL
  have hP : va_P (dC, dI) CL [(xo, .inr (5, [.null, .int (iI 0), .null, .null, .null, .int (iI 0), .int (iI (bI false))]))] H := by rw [eH]; exact hP
  have hS : va_S A s.heap H locs := by rw [eH, eL]; exact va_S.rf
  refine lv_aload_n hx hb d_L_init_0 rfl (lv_at hl 0 rfl) ?_
  refine W.objInit hx hb hown (hts (Cond.methodLink R_L 3 Lib.objectInit) (tk2 8 rfl rfl)) (hts (Cond.instanceMethod Lib.objectInit) (tk1 31 rfl rfl)) (hts (Cond.code Lib.objectInit ⟨#[0xb1]⟩ 1 none) (tk1 32 rfl rfl)) rfl (hl.1.trans hml.symm) rfl d_L_init_1 (Nat.le_of_ble_eq_true rfl) (Nat.le_of_ble_eq_true rfl) ?_
  refine W.eq (g2 := F0 m 4 ls []) rfl ?_
  refine lv_aload_n hx hb d_L_init_4 rfl (lv_at hl 0 rfl) ?_
  refine lv_sipush (v := iI 256) hx hb d_L_init_5 (by decide) ?_
  refine li_newC hx hb (hts (Cond.arrayClass .char) (tk1 67 rfl rfl)) hK hP hD hS hA 1 rfl 256 (by omega) (by omega) (by show 0 + 1 ≤ 4; omega) (by show 0 + 256 ≤ 352; omega) d_L_init_8 (fun q_a H hP hD hS => ?_)
  have hP : va_P (dC, dI) CL [(xo, .inr (5, [.null, .int (iI 0), .null, .null, .null, .int (iI 0), .int (iI (bI false))])), (q_a, .inl (kA 1, 256, .inl (aI (fun _ => 0))))] H := hP
  have hD : va_D A [(xo, .inr (5, [.null, .int (iI 0), .null, .null, .null, .int (iI 0), .int (iI (bI false))])), (q_a, .inl (kA 1, 256, .inl (aI (fun _ => 0))))] := hD
  refine pf_L_11 hx hb hts hown hK hP hD hS 0 rfl (Nat.le_of_ble_eq_true rfl) d_L_init_10 (fun H locs hP hD hS => ?_)
  have hP : va_P (dC, dI) CL [(xo, .inr (5, [.ref q_a, .int (iI 0), .null, .null, .null, .int (iI 0), .int (iI (bI false))])), (q_a, .inl (kA 1, 256, .inl (aI (fun _ => 0))))] H := hP
  have hD : va_D A [(xo, .inr (5, [.ref q_a, .int (iI 0), .null, .null, .null, .int (iI 0), .int (iI (bI false))])), (q_a, .inl (kA 1, 256, .inl (aI (fun _ => 0))))] := hD
  refine lv_aload_n hx hb d_L_init_13 rfl (lv_at hl 0 rfl) ?_
  refine lv_bipush (v := iI 32) hx hb d_L_init_14 (by decide) ?_
  refine li_newI hx hb (hts (Cond.arrayClass .int) (tk1 68 rfl rfl)) hK hP hD hS hA 0 rfl 32 (by omega) (by omega) (by show 0 + 1 + 1 ≤ 4; omega) (by show 0 + 256 + 32 ≤ 352; omega) d_L_init_16 (fun q_b H hP hD hS => ?_)
  have hP : va_P (dC, dI) CL [(xo, .inr (5, [.ref q_a, .int (iI 0), .null, .null, .null, .int (iI 0), .int (iI (bI false))])), (q_a, .inl (kA 1, 256, .inl (aI (fun _ => 0)))), (q_b, .inl (kA 0, 32, .inl (aI (fun _ => 0))))] H := hP
  have hD : va_D A [(xo, .inr (5, [.ref q_a, .int (iI 0), .null, .null, .null, .int (iI 0), .int (iI (bI false))])), (q_a, .inl (kA 1, 256, .inl (aI (fun _ => 0)))), (q_b, .inl (kA 0, 32, .inl (aI (fun _ => 0))))] := hD
  refine pf_L_15 hx hb hts hown hK hP hD hS 0 rfl (Nat.le_of_ble_eq_true rfl) d_L_init_18 (fun H locs hP hD hS => ?_)
  have hP : va_P (dC, dI) CL [(xo, .inr (5, [.ref q_a, .int (iI 0), .ref q_b, .null, .null, .int (iI 0), .int (iI (bI false))])), (q_a, .inl (kA 1, 256, .inl (aI (fun _ => 0)))), (q_b, .inl (kA 0, 32, .inl (aI (fun _ => 0))))] H := hP
  have hD : va_D A [(xo, .inr (5, [.ref q_a, .int (iI 0), .ref q_b, .null, .null, .int (iI 0), .int (iI (bI false))])), (q_a, .inl (kA 1, 256, .inl (aI (fun _ => 0)))), (q_b, .inl (kA 0, 32, .inl (aI (fun _ => 0))))] := hD
  refine lv_aload_n hx hb d_L_init_21 rfl (lv_at hl 0 rfl) ?_
  refine lv_bipush (v := iI 32) hx hb d_L_init_22 (by decide) ?_
  refine li_newI hx hb (hts (Cond.arrayClass .int) (tk1 68 rfl rfl)) hK hP hD hS hA 0 rfl 32 (by omega) (by omega) (by show 0 + 1 + 1 + 1 ≤ 4; omega) (by show 0 + 256 + 32 + 32 ≤ 352; omega) d_L_init_24 (fun q_c H hP hD hS => ?_)
  have hP : va_P (dC, dI) CL [(xo, .inr (5, [.ref q_a, .int (iI 0), .ref q_b, .null, .null, .int (iI 0), .int (iI (bI false))])), (q_a, .inl (kA 1, 256, .inl (aI (fun _ => 0)))), (q_b, .inl (kA 0, 32, .inl (aI (fun _ => 0)))), (q_c, .inl (kA 0, 32, .inl (aI (fun _ => 0))))] H := hP
  have hD : va_D A [(xo, .inr (5, [.ref q_a, .int (iI 0), .ref q_b, .null, .null, .int (iI 0), .int (iI (bI false))])), (q_a, .inl (kA 1, 256, .inl (aI (fun _ => 0)))), (q_b, .inl (kA 0, 32, .inl (aI (fun _ => 0)))), (q_c, .inl (kA 0, 32, .inl (aI (fun _ => 0))))] := hD
  refine pf_L_19 hx hb hts hown hK hP hD hS 0 rfl (Nat.le_of_ble_eq_true rfl) d_L_init_26 (fun H locs hP hD hS => ?_)
  have hP : va_P (dC, dI) CL [(xo, .inr (5, [.ref q_a, .int (iI 0), .ref q_b, .ref q_c, .null, .int (iI 0), .int (iI (bI false))])), (q_a, .inl (kA 1, 256, .inl (aI (fun _ => 0)))), (q_b, .inl (kA 0, 32, .inl (aI (fun _ => 0)))), (q_c, .inl (kA 0, 32, .inl (aI (fun _ => 0))))] H := hP
  have hD : va_D A [(xo, .inr (5, [.ref q_a, .int (iI 0), .ref q_b, .ref q_c, .null, .int (iI 0), .int (iI (bI false))])), (q_a, .inl (kA 1, 256, .inl (aI (fun _ => 0)))), (q_b, .inl (kA 0, 32, .inl (aI (fun _ => 0)))), (q_c, .inl (kA 0, 32, .inl (aI (fun _ => 0))))] := hD
  refine lv_aload_n hx hb d_L_init_29 rfl (lv_at hl 0 rfl) ?_
  refine lv_bipush (v := iI 32) hx hb d_L_init_30 (by decide) ?_
  refine li_newI hx hb (hts (Cond.arrayClass .int) (tk1 68 rfl rfl)) hK hP hD hS hA 0 rfl 32 (by omega) (by omega) (by show 0 + 1 + 1 + 1 + 1 ≤ 4; omega) (by show 0 + 256 + 32 + 32 + 32 ≤ 352; omega) d_L_init_32 (fun q_d H hP hD hS => ?_)
  have hP : va_P (dC, dI) CL [(xo, .inr (5, [.ref q_a, .int (iI 0), .ref q_b, .ref q_c, .null, .int (iI 0), .int (iI (bI false))])), (q_a, .inl (kA 1, 256, .inl (aI (fun _ => 0)))), (q_b, .inl (kA 0, 32, .inl (aI (fun _ => 0)))), (q_c, .inl (kA 0, 32, .inl (aI (fun _ => 0)))), (q_d, .inl (kA 0, 32, .inl (aI (fun _ => 0))))] H := hP
  have hD : va_D A [(xo, .inr (5, [.ref q_a, .int (iI 0), .ref q_b, .ref q_c, .null, .int (iI 0), .int (iI (bI false))])), (q_a, .inl (kA 1, 256, .inl (aI (fun _ => 0)))), (q_b, .inl (kA 0, 32, .inl (aI (fun _ => 0)))), (q_c, .inl (kA 0, 32, .inl (aI (fun _ => 0)))), (q_d, .inl (kA 0, 32, .inl (aI (fun _ => 0))))] := hD
  refine pf_L_22 hx hb hts hown hK hP hD hS 0 rfl (Nat.le_of_ble_eq_true rfl) d_L_init_34 (fun H locs hP hD hS => ?_)
  have hP : va_P (dC, dI) CL [(xo, .inr (5, [.ref q_a, .int (iI 0), .ref q_b, .ref q_c, .ref q_d, .int (iI 0), .int (iI (bI false))])), (q_a, .inl (kA 1, 256, .inl (aI (fun _ => 0)))), (q_b, .inl (kA 0, 32, .inl (aI (fun _ => 0)))), (q_c, .inl (kA 0, 32, .inl (aI (fun _ => 0)))), (q_d, .inl (kA 0, 32, .inl (aI (fun _ => 0))))] H := hP
  have hD : va_D A [(xo, .inr (5, [.ref q_a, .int (iI 0), .ref q_b, .ref q_c, .ref q_d, .int (iI 0), .int (iI (bI false))])), (q_a, .inl (kA 1, 256, .inl (aI (fun _ => 0)))), (q_b, .inl (kA 0, 32, .inl (aI (fun _ => 0)))), (q_c, .inl (kA 0, 32, .inl (aI (fun _ => 0)))), (q_d, .inl (kA 0, 32, .inl (aI (fun _ => 0))))] := hD
  refine W.widen (k := 4) (n := 352) (by omega) (by omega) ?_
  exact fin (q_a, q_b, q_c, q_d) _ _ _ _ (by trivial) (by first | exact hP | (subst_vars; exact hP)) (by first | exact hD | (subst_vars; exact hD)) hS d_L_init_37
theorem d_C_init_0 : decode b_C_init 0 = .ok (.aload_n 0, 1) := by decide +kernel
theorem d_C_init_1 : decode b_C_init 1 = .ok (.invokespecial 1, 3) := by decide +kernel
theorem d_C_init_4 : decode b_C_init 4 = .ok (.return_, 1) := by decide +kernel
set_option maxHeartbeats 4000000 in
set_option maxRecDepth 100000 in
theorem c_C_init (l : Launch) (dC : Nat → ClassId) (dI : Nat → Nat → Nat) (kA : Nat → ClassId) (sz : Nat) (co : Nat)  : Met l y_C_init (wsy y_C_init b_C_init 1 none) (rmd 1 0 0) (li_Pr (dC, dI) CL (TY kA) [.ref co] (fun h => h.size = sz ∧ va_P (dC, dI) CL [(co, .inr (1, [.int (iI 0), .int (iI 0), .int (iI 0), .int (iI 0), .int (iI 0)]))] h ∧ va_D (fun q => dI 100 0 ≤ q) [(co, .inr (1, [.int (iI 0), .int (iI 0), .int (iI 0), .int (iI 0), .int (iI 0)]))] ∧ (fun _ => True) h)) (li_Qw (S := Unit) (dC, dI) CL (fun _ => True) (fun _ => none) (fun _ => [(co, .inr (1, [.int (iI 0), .int (iI 0), .int (iI 0), .int (iI 0), .int (iI 0)]))]) (va_A [(co, .inr (1, [.int (iI 0), .int (iI 0), .int (iI 0), .int (iI 0), .int (iI 0)]))] sz)) 0 0 (va_A [(co, .inr (1, [.int (iI 0), .int (iI 0), .int (iI 0), .int (iI 0), .int (iI 0)]))] sz) := by
  refine li_mwv (by decide) (Nat.le_of_ble_eq_true rfl) ?_
  intro p e s m args below meth c Q A C hP hD hBx hK hN hG hA hAi hAN fin ls hl
  obtain ⟨hx, hb, hr, hml, hown, hts, hlocks, hin⟩ := C
  have hown : s.vm.findClass R_C = some m.cls := hown
  have hl : lv_has ls 1 [(0, .ref co)] := hl
  have hin : meth.name = "<init>" := hin
  suffices h9 : ∀ (H : Heap) (locs : List Loc), H = s.heap → locs = [] → W p l e (rmd 1 0 0) s m args below meth c H locs 0 0 Q (F0 m 0 ls []) from h9 _ _ rfl rfl
  intro H locs eH eL
  have hP : va_P (dC, dI) CL [(co, .inr (1, [.int (iI 0), .int (iI 0), .int (iI 0), .int (iI 0), .int (iI 0)]))] H := by rw [eH]; exact hP
  have hS : va_S A s.heap H locs := by rw [eH, eL]; exact va_S.rf
  refine lv_aload_n hx hb d_C_init_0 rfl (lv_at hl 0 rfl) ?_
  refine W.objInit hx hb hown (hts (Cond.methodLink R_C 1 Lib.objectInit) (tk1 107 rfl rfl)) (hts (Cond.instanceMethod Lib.objectInit) (tk1 31 rfl rfl)) (hts (Cond.code Lib.objectInit ⟨#[0xb1]⟩ 1 none) (tk1 32 rfl rfl)) rfl (hl.1.trans hml.symm) rfl d_C_init_1 (Nat.le_of_ble_eq_true rfl) (Nat.le_of_ble_eq_true rfl) ?_
  refine W.eq (g2 := F0 m 4 ls []) rfl ?_
  exact fin () _ _ _ _ (by trivial) (by first | exact hP | (subst_vars; exact hP)) (by first | exact hD | (subst_vars; exact hD)) hS d_C_init_4
theorem d_S_holdingOf_0 : decode b_S_holdingOf 0 = .ok (.iload_n 1, 1) := by decide +kernel
theorem d_S_holdingOf_1 : decode b_S_holdingOf 1 = .ok (.ifCond .lt 15, 3) := by decide +kernel
theorem d_S_holdingOf_4 : decode b_S_holdingOf 4 = .ok (.iload_n 1, 1) := by decide +kernel
theorem d_S_holdingOf_5 : decode b_S_holdingOf 5 = .ok (.aload_n 0, 1) := by decide +kernel
theorem d_S_holdingOf_6 : decode b_S_holdingOf 6 = .ok (.arraylength, 1) := by decide +kernel
theorem d_S_holdingOf_7 : decode b_S_holdingOf 7 = .ok (.if_icmp .ge 9, 3) := by decide +kernel
theorem d_S_holdingOf_10 : decode b_S_holdingOf 10 = .ok (.aload_n 0, 1) := by decide +kernel
theorem d_S_holdingOf_11 : decode b_S_holdingOf 11 = .ok (.iload_n 1, 1) := by decide +kernel
theorem d_S_holdingOf_12 : decode b_S_holdingOf 12 = .ok (.aaload, 1) := by decide +kernel
theorem d_S_holdingOf_13 : decode b_S_holdingOf 13 = .ok (.goto 4, 3) := by decide +kernel
theorem d_S_holdingOf_16 : decode b_S_holdingOf 16 = .ok (.aconst_null, 1) := by decide +kernel
theorem d_S_holdingOf_17 : decode b_S_holdingOf 17 = .ok (.areturn, 1) := by decide +kernel
set_option maxHeartbeats 4000000 in
set_option maxRecDepth 100000 in
theorem c_S_holdingOf (l : Launch) (dC : Nat → ClassId) (dI : Nat → Nat → Nat) (kA : Nat → ClassId) (sa : Nat) (hd : Nat → Option HD) (r : Int) (hr : 0 ≤ r ∧ r ≤ 9) : Met l y_S_holdingOf (wsy y_S_holdingOf b_S_holdingOf 2 (some (.object "CatalogQuery$Holding"))) (rmd 0 0 0) (li_Pr (dC, dI) CL (TY kA) [.ref sa, .int (iI r)] (fun h => va_P (dC, dI) CL [(sa, .inl (kA 4, 10, .inr (.inr (.inr (.inr (shO hd))))))] h ∧ ShR (dC, dI) kA hd h)) (k2_QcV (va_rf (shO hd r.toNat))) 0 0 (fun _ => False) := by
  refine li_mq (by decide) (Nat.le_of_ble_eq_true rfl) ?_
  intro p e s m args below meth c Q C hP hK hN hG fin ls hl
  obtain ⟨hx, hb, hr, hml, hown, hts, hlocks, hin⟩ := C
  have hown : s.vm.findClass R_S = some m.cls := hown
  obtain ⟨hP, hSh⟩ := hP
  have hP : va_P (dC, dI) CL [(sa, .inl (kA 4, 10, .inr (.inr (.inr (.inr (shO hd))))))] s.heap := hP
  have hl : lv_has ls 2 [(0, .ref sa), (1, .int (iI r))] := hl
  refine lv_iload_n hx hb d_S_holdingOf_0 rfl (lv_at hl 1 rfl) ?_
  refine li_if_lt (tgt := 16) hx hb d_S_holdingOf_1 (by decide) (by omega) (fun c1 => ?_) (fun c1 => ?_)
  · have _q := c1
    exact absurd c1 (by omega)
  · have _q := c1
    refine lv_iload_n hx hb d_S_holdingOf_4 rfl (lv_at hl 1 rfl) ?_
    refine lv_aload_n hx hb d_S_holdingOf_5 rfl (lv_at hl 0 rfl) ?_
    refine li_alen hx hb hK hP 0 4 rfl rfl d_S_holdingOf_6 ?_
    refine li_icmp_ge (tgt := 16) hx hb d_S_holdingOf_7 (by decide) (by omega) (by omega) (fun c2 => ?_) (fun c2 => ?_)
    · have _q := c2
      exact absurd c2 (by omega)
    · have _q := c2
      refine lv_aload_n hx hb d_S_holdingOf_10 rfl (lv_at hl 0 rfl) ?_
      refine lv_iload_n hx hb d_S_holdingOf_11 rfl (lv_at hl 1 rfl) ?_
      refine li_ald hx hb hK hP 0 4 rfl rfl (by omega) (by omega) (by omega) d_S_holdingOf_12 ?_
      refine lv_goto (tgt := 17) hx hb d_S_holdingOf_13 (by decide) ?_
      exact fin _ _ _ (by rfl) d_S_holdingOf_17
theorem d_S_keyOf_0 : decode b_S_keyOf 0 = .ok (.aload_n 0, 1) := by decide +kernel
theorem d_S_keyOf_1 : decode b_S_keyOf 1 = .ok (.ifnonnull 5, 3) := by decide +kernel
theorem d_S_keyOf_4 : decode b_S_keyOf 4 = .ok (.iconst (-1), 1) := by decide +kernel
theorem d_S_keyOf_5 : decode b_S_keyOf 5 = .ok (.ireturn, 1) := by decide +kernel
theorem d_S_keyOf_6 : decode b_S_keyOf 6 = .ok (.iload_n 1, 1) := by decide +kernel
theorem d_S_keyOf_7 : decode b_S_keyOf 7 = .ok (.iconst 4, 1) := by decide +kernel
theorem d_S_keyOf_8 : decode b_S_keyOf 8 = .ok (.if_icmp .ne 10, 3) := by decide +kernel
theorem d_S_keyOf_11 : decode b_S_keyOf 11 = .ok (.aload_n 0, 1) := by decide +kernel
theorem d_S_keyOf_12 : decode b_S_keyOf 12 = .ok (.invokevirtual 44, 3) := by decide +kernel
theorem d_S_keyOf_15 : decode b_S_keyOf 15 = .ok (.goto 8, 3) := by decide +kernel
theorem d_S_keyOf_18 : decode b_S_keyOf 18 = .ok (.aload_n 0, 1) := by decide +kernel
theorem d_S_keyOf_19 : decode b_S_keyOf 19 = .ok (.iload_n 1, 1) := by decide +kernel
theorem d_S_keyOf_20 : decode b_S_keyOf 20 = .ok (.invokevirtual 50, 3) := by decide +kernel
theorem d_S_keyOf_23 : decode b_S_keyOf 23 = .ok (.ireturn, 1) := by decide +kernel
set_option maxHeartbeats 4000000 in
set_option maxRecDepth 100000 in
theorem c_S_keyOf (l : Launch) (dC : Nat → ClassId) (dI : Nat → Nat → Nat) (kA : Nat → ClassId) (ho : Nat) (oc : Nat) (xi : Nat) (xs : Nat) (xe : Nat) (xl : Nat) (n : Nat) (mx : Nat) (fd : Int) (tc : Int) (t : Nat → Int) (ti : Nat → Int) (ts : Nat → Int) (te : Nat → Int) (tl : Nat → Int) (ix : Int) (hH : HR n mx t ti ts te tl tc) (hix : -2147483648 ≤ ix ∧ ix < 2147483648) : Met l y_S_keyOf (wsy y_S_keyOf b_S_keyOf 2 (some .int)) (rmd 3 0 0) (li_Pr (dC, dI) CL (TY kA) [.ref ho, .int (iI ix)] (va_P (dC, dI) CL [(ho, .inr (2, [.ref oc, .int (iI fd), .ref xi, .ref xs, .ref xe, .ref xl, .int (iI tc)])), (oc, .inl (kA 1, n, .inl (aI t))), (xi, .inl (kA 0, mx, .inl (aI ti))), (xs, .inl (kA 0, mx, .inl (aI ts))), (xe, .inl (kA 0, mx, .inl (aI te))), (xl, .inl (kA 0, mx, .inl (aI tl)))])) (k2_QcV (.int (iI (kyF t n ti ts te tc ix)))) 0 0 (fun _ => False) := by
  refine li_mr (by decide) (Nat.le_of_ble_eq_true rfl) (by rfl) ?_
  intro p e s m args below meth c Q C hP hK hN hG fin ls hl
  obtain ⟨hx, hb, hr, hml, hown, hts, hlocks, hin⟩ := C
  have hown : s.vm.findClass R_S = some m.cls := hown
  have hP : va_P (dC, dI) CL [(ho, .inr (2, [.ref oc, .int (iI fd), .ref xi, .ref xs, .ref xe, .ref xl, .int (iI tc)])), (oc, .inl (kA 1, n, .inl (aI t))), (xi, .inl (kA 0, mx, .inl (aI ti))), (xs, .inl (kA 0, mx, .inl (aI ts))), (xe, .inl (kA 0, mx, .inl (aI te))), (xl, .inl (kA 0, mx, .inl (aI tl)))] s.heap := hP
  have hl : lv_has ls 2 [(0, .ref ho), (1, .int (iI ix))] := hl
  obtain ⟨hn, hmx, htc, ht, hti, hxs, hxe, hxl⟩ := id hH
  refine lv_aload_n hx hb d_S_keyOf_0 rfl (lv_at hl 0 rfl) ?_
  refine lv_ifnonnull (tgt := 6) hx hb d_S_keyOf_1 (by decide) ?_
  refine lv_iload_n hx hb d_S_keyOf_6 rfl (lv_at hl 1 rfl) ?_
  refine lv_iconst (v := iI 4) hx hb d_S_keyOf_7 rfl ?_
  refine li_icmp_ne (tgt := 18) hx hb d_S_keyOf_8 (by decide) (by omega) (by omega) (fun c1 => ?_) (fun c1 => ?_)
  · have _q := c1
    refine lv_aload_n hx hb d_S_keyOf_18 rfl (lv_at hl 0 rfl) ?_
    refine lv_iload_n hx hb d_S_keyOf_19 rfl (lv_at hl 1 rfl) ?_
    refine li_callr ((va_runV (As := [.int (iI ix)]) (rest := []) ⟨hx, hb, hml, hown, hts⟩ (c_H_firstTextIn l dC dI kA ho oc xi xs xe xl n mx fd tc t ti ts te tl ix (by exact hH) (by exact hix)) (cw_S_50 hts rfl rfl ⟨Nat.le_of_ble_eq_true rfl, Nat.le_of_ble_eq_true rfl⟩) (li_preV (va_recv hK hP (ci := 2) (q0 := 0) rfl rfl) (hP.sub [0, 1, 2, 3, 4, 5] rfl) hK hN hG.rd) rfl rfl hl.1 rfl (lv_room (Nat.le_of_ble_eq_true rfl)) d_S_keyOf_20 ⟨(by show 0 + 0 ≤ 0; omega), (by show 0 + 0 ≤ 0; omega)⟩).run) ?_
    exact fin _ _ _ (by unfold kyF; first | (rw [if_pos (by omega)]; done) | (rw [if_neg (by omega)]; done)) d_S_keyOf_23
  · have _q := c1
    refine lv_aload_n hx hb d_S_keyOf_11 rfl (lv_at hl 0 rfl) ?_
    refine li_callr ((va_runV (As := []) (rest := []) ⟨hx, hb, hml, hown, hts⟩ (c_H_date l dC dI kA ho oc xi xs xe xl n mx fd tc t ti ts te tl (by exact hH)) (cw_S_44 hts rfl rfl ⟨Nat.le_of_ble_eq_true rfl, Nat.le_of_ble_eq_true rfl⟩) (li_preV (va_recv hK hP (ci := 2) (q0 := 0) rfl rfl) (hP.sub [0, 1, 2, 3, 4, 5] rfl) hK hN hG.rd) rfl rfl hl.1 rfl (lv_room (Nat.le_of_ble_eq_true rfl)) d_S_keyOf_12 ⟨(by show 0 + 0 ≤ 0; omega), (by show 0 + 0 ≤ 0; omega)⟩).run) ?_
    refine lv_goto (tgt := 23) hx hb d_S_keyOf_15 (by decide) ?_
    exact fin _ _ _ (by unfold kyF; first | (rw [if_pos (by omega)]; done) | (rw [if_neg (by omega)]; done)) d_S_keyOf_23
theorem d_S_compareTexts_0 : decode b_S_compareTexts 0 = .ok (.aload_n 0, 1) := by decide +kernel
theorem d_S_compareTexts_1 : decode b_S_compareTexts 1 = .ok (.getfield 14, 3) := by decide +kernel
theorem d_S_compareTexts_4 : decode b_S_compareTexts 4 = .ok (.aload_n 1, 1) := by decide +kernel
theorem d_S_compareTexts_5 : decode b_S_compareTexts 5 = .ok (.iload_n 2, 1) := by decide +kernel
theorem d_S_compareTexts_6 : decode b_S_compareTexts 6 = .ok (.iload 5, 2) := by decide +kernel
theorem d_S_compareTexts_8 : decode b_S_compareTexts 8 = .ok (.invokevirtual 54, 3) := by decide +kernel
theorem d_S_compareTexts_11 : decode b_S_compareTexts 11 = .ok (.aload_n 0, 1) := by decide +kernel
theorem d_S_compareTexts_12 : decode b_S_compareTexts 12 = .ok (.getfield 20, 3) := by decide +kernel
theorem d_S_compareTexts_15 : decode b_S_compareTexts 15 = .ok (.aload_n 3, 1) := by decide +kernel
theorem d_S_compareTexts_16 : decode b_S_compareTexts 16 = .ok (.iload 4, 2) := by decide +kernel
theorem d_S_compareTexts_18 : decode b_S_compareTexts 18 = .ok (.iload 5, 2) := by decide +kernel
theorem d_S_compareTexts_20 : decode b_S_compareTexts 20 = .ok (.invokevirtual 54, 3) := by decide +kernel
theorem d_S_compareTexts_23 : decode b_S_compareTexts 23 = .ok (.aload_n 0, 1) := by decide +kernel
theorem d_S_compareTexts_24 : decode b_S_compareTexts 24 = .ok (.getfield 14, 3) := by decide +kernel
theorem d_S_compareTexts_27 : decode b_S_compareTexts 27 = .ok (.aload_n 0, 1) := by decide +kernel
theorem d_S_compareTexts_28 : decode b_S_compareTexts 28 = .ok (.getfield 20, 3) := by decide +kernel
theorem d_S_compareTexts_31 : decode b_S_compareTexts 31 = .ok (.invokevirtual 58, 3) := by decide +kernel
theorem d_S_compareTexts_34 : decode b_S_compareTexts 34 = .ok (.ireturn, 1) := by decide +kernel
set_option maxHeartbeats 4000000 in
set_option maxRecDepth 100000 in
theorem c_S_compareTexts (l : Launch) (dC : Nat → ClassId) (dI : Nat → Nat → Nat) (kA : Nat → ClassId) (sz : Nat) (so : Nat) (wo : Nat) (wl : Nat) (wb : Nat) (we : Nat) (wn : Nat) (wk : Nat) (wz : Int) (lt : Nat → Int) (sb : Nat → Int) (se : Nat → Int) (wo2 : Nat) (wl2 : Nat) (wb2 : Nat) (we2 : Nat) (wn2 : Nat) (wk2 : Nat) (wz2 : Int) (lt2 : Nat → Int) (sb2 : Nat → Int) (se2 : Nat → Int) (ho : Nat) (oc : Nat) (xi : Nat) (xs : Nat) (xe : Nat) (xl : Nat) (n : Nat) (mx : Nat) (fd : Int) (tc : Int) (t : Nat → Int) (ti : Nat → Int) (ts : Nat → Int) (te : Nat → Int) (tl : Nat → Int) (hoB : Nat) (ocB : Nat) (xiB : Nat) (xsB : Nat) (xeB : Nat) (xlB : Nat) (nB : Nat) (mxB : Nat) (fdB : Int) (tcB : Int) (tB : Nat → Int) (tiB : Nat → Int) (tsB : Nat → Int) (teB : Nat → Int) (tlB : Nat → Int) (ka : Int) (kb : Int) (ix : Int) (hW : WR wn wk wz lt sb se) (hW2 : WR wn2 wk2 wz2 lt2 sb2 se2) (hw1 : (wn = 400 ∧ 401 ≤ 2 * wk) ∧ wn2 = 400 ∧ 401 ≤ 2 * wk2) (hH : HR n mx t ti ts te tl tc) (hte : ∀ j, te j ≤ n) (hHB : HR nB mxB tB tiB tsB teB tlB tcB) (hteB : ∀ j, teB j ≤ nB) (hix : -2147483648 ≤ ix ∧ ix < 2147483648) (hka : 0 ≤ ka ∧ ka < tc) (hkb : 0 ≤ kb ∧ kb < tcB) : Met l y_S_compareTexts (wsy y_S_compareTexts b_S_compareTexts 6 (some .int)) (rmd 4 0 0) (li_Pr (dC, dI) CL (TY kA) [.ref so, .ref ho, .int (iI ka), .ref hoB, .int (iI kb), .int (iI ix)] (fun h => h.size = sz ∧ va_P (dC, dI) CL [(so, .inr (7, [.ref wo, .ref wo2])), (wo, .inr (9, [.ref wl, .ref wb, .ref we, .int (iI wz)])), (wl, .inl (kA 1, wn, .inl (aI lt))), (wb, .inl (kA 0, wk, .inl (aI sb))), (we, .inl (kA 0, wk, .inl (aI se))), (wo2, .inr (9, [.ref wl2, .ref wb2, .ref we2, .int (iI wz2)])), (wl2, .inl (kA 1, wn2, .inl (aI lt2))), (wb2, .inl (kA 0, wk2, .inl (aI sb2))), (we2, .inl (kA 0, wk2, .inl (aI se2)))] h ∧ va_D (fun q => dI 100 0 ≤ q) [(so, .inr (7, [.ref wo, .ref wo2])), (wo, .inr (9, [.ref wl, .ref wb, .ref we, .int (iI wz)])), (wl, .inl (kA 1, wn, .inl (aI lt))), (wb, .inl (kA 0, wk, .inl (aI sb))), (we, .inl (kA 0, wk, .inl (aI se))), (wo2, .inr (9, [.ref wl2, .ref wb2, .ref we2, .int (iI wz2)])), (wl2, .inl (kA 1, wn2, .inl (aI lt2))), (wb2, .inl (kA 0, wk2, .inl (aI sb2))), (we2, .inl (kA 0, wk2, .inl (aI se2)))] ∧ (fun h => va_P (dC, dI) CL [(ho, .inr (2, [.ref oc, .int (iI fd), .ref xi, .ref xs, .ref xe, .ref xl, .int (iI tc)])), (oc, .inl (kA 1, n, .inl (aI t))), (xi, .inl (kA 0, mx, .inl (aI ti))), (xs, .inl (kA 0, mx, .inl (aI ts))), (xe, .inl (kA 0, mx, .inl (aI te))), (xl, .inl (kA 0, mx, .inl (aI tl))), (hoB, .inr (2, [.ref ocB, .int (iI fdB), .ref xiB, .ref xsB, .ref xeB, .ref xlB, .int (iI tcB)])), (ocB, .inl (kA 1, nB, .inl (aI tB))), (xiB, .inl (kA 0, mxB, .inl (aI tiB))), (xsB, .inl (kA 0, mxB, .inl (aI tsB))), (xeB, .inl (kA 0, mxB, .inl (aI teB))), (xlB, .inl (kA 0, mxB, .inl (aI tlB)))] h ∧ Dsj [(ho, .inr (2, [.ref oc, .int (iI fd), .ref xi, .ref xs, .ref xe, .ref xl, .int (iI tc)])), (oc, .inl (kA 1, n, .inl (aI t))), (xi, .inl (kA 0, mx, .inl (aI ti))), (xs, .inl (kA 0, mx, .inl (aI ts))), (xe, .inl (kA 0, mx, .inl (aI te))), (xl, .inl (kA 0, mx, .inl (aI tl))), (hoB, .inr (2, [.ref ocB, .int (iI fdB), .ref xiB, .ref xsB, .ref xeB, .ref xlB, .int (iI tcB)])), (ocB, .inl (kA 1, nB, .inl (aI tB))), (xiB, .inl (kA 0, mxB, .inl (aI tiB))), (xsB, .inl (kA 0, mxB, .inl (aI tsB))), (xeB, .inl (kA 0, mxB, .inl (aI teB))), (xlB, .inl (kA 0, mxB, .inl (aI tlB)))] [(so, .inr (7, [.ref wo, .ref wo2])), (wo, .inr (9, [.ref wl, .ref wb, .ref we, .int (iI wz)])), (wl, .inl (kA 1, wn, .inl (aI lt))), (wb, .inl (kA 0, wk, .inl (aI sb))), (we, .inl (kA 0, wk, .inl (aI se))), (wo2, .inr (9, [.ref wl2, .ref wb2, .ref we2, .int (iI wz2)])), (wl2, .inl (kA 1, wn2, .inl (aI lt2))), (wb2, .inl (kA 0, wk2, .inl (aI sb2))), (we2, .inl (kA 0, wk2, .inl (aI se2)))]) h)) (li_Qw (S := (Int) × (Nat → Int) × (Nat → Int) × (Nat → Int) × (Int) × (Nat → Int) × (Nat → Int) × (Nat → Int)) (dC, dI) CL (fun u => (WR wn wk u.2.2.2.2.1 u.2.2.2.2.2.1 u.2.2.2.2.2.2.1 u.2.2.2.2.2.2.2 ∧ WR wn2 wk2 u.1 u.2.1 u.2.2.1 u.2.2.2.1) ∧ -1000000 ≤ icL (wsF t false (txSt ts te tl tc ka ix) (txEn te tc ka)) (wsF tB false (txSt tsB teB tlB tcB kb ix) (txEn teB tcB kb)) ∧ icL (wsF t false (txSt ts te tl tc ka ix) (txEn te tc ka)) (wsF tB false (txSt tsB teB tlB tcB kb ix) (txEn teB tcB kb)) ≤ 1000000) (fun u => some (.int (iI (icL (wsF t false (txSt ts te tl tc ka ix) (txEn te tc ka)) (wsF tB false (txSt tsB teB tlB tcB kb ix) (txEn teB tcB kb)))))) (fun u => [(so, .inr (7, [.ref wo, .ref wo2])), (wo, .inr (9, [.ref wl, .ref wb, .ref we, .int (iI u.2.2.2.2.1)])), (wl, .inl (kA 1, wn, .inl (aI u.2.2.2.2.2.1))), (wb, .inl (kA 0, wk, .inl (aI u.2.2.2.2.2.2.1))), (we, .inl (kA 0, wk, .inl (aI u.2.2.2.2.2.2.2))), (wo2, .inr (9, [.ref wl2, .ref wb2, .ref we2, .int (iI u.1)])), (wl2, .inl (kA 1, wn2, .inl (aI u.2.1))), (wb2, .inl (kA 0, wk2, .inl (aI u.2.2.1))), (we2, .inl (kA 0, wk2, .inl (aI u.2.2.2.1)))]) (va_A [(so, .inr (7, [.ref wo, .ref wo2])), (wo, .inr (9, [.ref wl, .ref wb, .ref we, .int (iI wz)])), (wl, .inl (kA 1, wn, .inl (aI lt))), (wb, .inl (kA 0, wk, .inl (aI sb))), (we, .inl (kA 0, wk, .inl (aI se))), (wo2, .inr (9, [.ref wl2, .ref wb2, .ref we2, .int (iI wz2)])), (wl2, .inl (kA 1, wn2, .inl (aI lt2))), (wb2, .inl (kA 0, wk2, .inl (aI sb2))), (we2, .inl (kA 0, wk2, .inl (aI se2)))] sz)) 0 0 (va_A [(so, .inr (7, [.ref wo, .ref wo2])), (wo, .inr (9, [.ref wl, .ref wb, .ref we, .int (iI wz)])), (wl, .inl (kA 1, wn, .inl (aI lt))), (wb, .inl (kA 0, wk, .inl (aI sb))), (we, .inl (kA 0, wk, .inl (aI se))), (wo2, .inr (9, [.ref wl2, .ref wb2, .ref we2, .int (iI wz2)])), (wl2, .inl (kA 1, wn2, .inl (aI lt2))), (wb2, .inl (kA 0, wk2, .inl (aI sb2))), (we2, .inl (kA 0, wk2, .inl (aI se2)))] sz) := by
  refine li_mwi (r := fun (u : (Int) × (Nat → Int) × (Nat → Int) × (Nat → Int) × (Int) × (Nat → Int) × (Nat → Int) × (Nat → Int)) => icL (wsF t false (txSt ts te tl tc ka ix) (txEn te tc ka)) (wsF tB false (txSt tsB teB tlB tcB kb ix) (txEn teB tcB kb))) (by decide) (Nat.le_of_ble_eq_true rfl) (fun u _ => by rfl) ?_
  intro p e s m args below meth c Q A C hP hD hBx hK hN hG hA hAi hAN fin ls hl
  obtain ⟨hx, hb, hr, hml, hown, hts, hlocks, hin⟩ := C
  have hown : s.vm.findClass R_S = some m.cls := hown
  obtain ⟨hRo, hDj⟩ := hBx
  have hRo : va_P (dC, dI) CL [(ho, .inr (2, [.ref oc, .int (iI fd), .ref xi, .ref xs, .ref xe, .ref xl, .int (iI tc)])), (oc, .inl (kA 1, n, .inl (aI t))), (xi, .inl (kA 0, mx, .inl (aI ti))), (xs, .inl (kA 0, mx, .inl (aI ts))), (xe, .inl (kA 0, mx, .inl (aI te))), (xl, .inl (kA 0, mx, .inl (aI tl))), (hoB, .inr (2, [.ref ocB, .int (iI fdB), .ref xiB, .ref xsB, .ref xeB, .ref xlB, .int (iI tcB)])), (ocB, .inl (kA 1, nB, .inl (aI tB))), (xiB, .inl (kA 0, mxB, .inl (aI tiB))), (xsB, .inl (kA 0, mxB, .inl (aI tsB))), (xeB, .inl (kA 0, mxB, .inl (aI teB))), (xlB, .inl (kA 0, mxB, .inl (aI tlB)))] s.heap := hRo
  have hRoN := li_roN (A := A) hRo hDj hAi
  have hl : lv_has ls 6 [(0, .ref so), (1, .ref ho), (2, .int (iI ka)), (3, .ref hoB), (4, .int (iI kb)), (5, .int (iI ix))] := hl
  obtain ⟨hwn, hwk, hwz, hlt, hsb, hse⟩ := id hW
  obtain ⟨hwn2, hwk2, hwz2, hlt2, hsb2, hse2⟩ := id hW2
  obtain ⟨hn, hmx, htc, ht, hti, hxs, hxe, hxl⟩ := id hH
  obtain ⟨hnB, hmxB, htcB, htB, htiB, hxsB, hxeB, hxlB⟩ := id hHB
  have h8 := hte ka.toNat
  have h7 := txSt_r (i := ka) (ix := ix) hH
  have h6 : txEn te tc ka = te ka.toNat := by unfold txEn; rw [if_pos (by omega)]
  have g8 := hteB kb.toNat
  have g7 := txSt_r (i := kb) (ix := ix) hHB
  have g6 : txEn teB tcB kb = teB kb.toNat := by unfold txEn; rw [if_pos (by omega)]
  suffices h9 : ∀ (H : Heap) (locs : List Loc), H = s.heap → locs = [] → W p l e (rmd 4 0 0) s m args below meth c H locs 0 0 Q (F0 m 0 ls []) from h9 _ _ rfl rfl
  intro H locs eH eL
  have hP : va_P (dC, dI) CL [(so, .inr (7, [.ref wo, .ref wo2])), (wo, .inr (9, [.ref wl, .ref wb, .ref we, .int (iI wz)])), (wl, .inl (kA 1, wn, .inl (aI lt))), (wb, .inl (kA 0, wk, .inl (aI sb))), (we, .inl (kA 0, wk, .inl (aI se))), (wo2, .inr (9, [.ref wl2, .ref wb2, .ref we2, .int (iI wz2)])), (wl2, .inl (kA 1, wn2, .inl (aI lt2))), (wb2, .inl (kA 0, wk2, .inl (aI sb2))), (we2, .inl (kA 0, wk2, .inl (aI se2)))] H := by rw [eH]; exact hP
  have hS : va_S A s.heap H locs := by rw [eH, eL]; exact va_S.rf
  refine lv_aload_n hx hb d_S_compareTexts_0 rfl (lv_at hl 0 rfl) ?_
  refine gf_S_14 hx hb hts hown hK hP 0 rfl rfl d_S_compareTexts_1 ?_
  refine lv_aload_n hx hb d_S_compareTexts_4 rfl (lv_at hl 1 rfl) ?_
  refine lv_iload_n hx hb d_S_compareTexts_5 rfl (lv_at hl 2 rfl) ?_
  refine lv_iload hx hb d_S_compareTexts_6 (lv_at hl 5 rfl) ?_
  refine li_callw (wc := [(wo, .inr (9, [.ref wl, .ref wb, .ref we, .int (iI wz)])), (wl, .inl (kA 1, wn, .inl (aI lt))), (wb, .inl (kA 0, wk, .inl (aI sb))), (we, .inl (kA 0, wk, .inl (aI se)))]) (wr := [(so, .inr (7, [.ref wo, .ref wo2])), (wo2, .inr (9, [.ref wl2, .ref wb2, .ref we2, .int (iI wz2)])), (wl2, .inl (kA 1, wn2, .inl (aI lt2))), (wb2, .inl (kA 0, wk2, .inl (aI sb2))), (we2, .inl (kA 0, wk2, .inl (aI se2)))]) (va_runV (As := [.ref ho, .int (iI ka), .int (iI ix)]) (rest := []) ⟨hx, hb, hml, hown, hts⟩ (c_W_readText2 l dC dI kA H.size wo wl wb we wn wk wz lt sb se ho oc xi xs xe xl n mx fd tc t ti ts te tl ka ix (by exact hW) (by exact hH) (by omega) (by exact hix) (by rw [h6]; omega)) (cw_S_54 hts rfl rfl ⟨Nat.le_of_ble_eq_true rfl, Nat.le_of_ble_eq_true rfl⟩) (li_preV (va_recv hK hP (ci := 9) (q0 := 1) rfl rfl) ⟨rfl, hP.sub [1, 2, 3, 4] rfl, (hD.sub [1, 2, 3, 4] (by decide) rfl).weaken (fun _ _ _ h => hAN _ h), (va_P.app ((li_ro hRo hRoN hS).sub [0] rfl) (va_P.app ((li_ro hRo hRoN hS).sub [1] rfl) (va_P.app ((li_ro hRo hRoN hS).sub [2] rfl) (va_P.app ((li_ro hRo hRoN hS).sub [3] rfl) (va_P.app ((li_ro hRo hRoN hS).sub [4] rfl) ((li_ro hRo hRoN hS).sub [5] rfl)))))), (dj_cons (dj_r (hRoN 0 _ rfl) hD [1, 2, 3, 4] rfl) (dj_cons (dj_r (hRoN 1 _ rfl) hD [1, 2, 3, 4] rfl) (dj_cons (dj_r (hRoN 2 _ rfl) hD [1, 2, 3, 4] rfl) (dj_cons (dj_r (hRoN 3 _ rfl) hD [1, 2, 3, 4] rfl) (dj_cons (dj_r (hRoN 4 _ rfl) hD [1, 2, 3, 4] rfl) (dj_cons (dj_r (hRoN 5 _ rfl) hD [1, 2, 3, 4] rfl) dj_nil))))))⟩ hK hN (hG.go hS hAN)) rfl rfl hl.1 rfl (lv_room (Nat.le_of_ble_eq_true rfl)) d_S_compareTexts_8 ⟨(by show 0 + 0 ≤ 0; omega), (by show 0 + 0 ≤ 0; omega)⟩) hP hD hS hA [1, 2, 3, 4] [0, 5, 6, 7, 8] rfl rfl (by decide) (by decide) (fun u1 H locs hu1 hP hD hS _hk => ?_)
  obtain ⟨a_z, a_l, a_b, a_e⟩ := u1
  have hP : va_P (dC, dI) CL [(so, .inr (7, [.ref wo, .ref wo2])), (wo2, .inr (9, [.ref wl2, .ref wb2, .ref we2, .int (iI wz2)])), (wl2, .inl (kA 1, wn2, .inl (aI lt2))), (wb2, .inl (kA 0, wk2, .inl (aI sb2))), (we2, .inl (kA 0, wk2, .inl (aI se2))), (wo, .inr (9, [.ref wl, .ref wb, .ref we, .int (iI a_z)])), (wl, .inl (kA 1, wn, .inl (aI a_l))), (wb, .inl (kA 0, wk, .inl (aI a_b))), (we, .inl (kA 0, wk, .inl (aI a_e)))] H := hP
  have hD : va_D A [(so, .inr (7, [.ref wo, .ref wo2])), (wo2, .inr (9, [.ref wl2, .ref wb2, .ref we2, .int (iI wz2)])), (wl2, .inl (kA 1, wn2, .inl (aI lt2))), (wb2, .inl (kA 0, wk2, .inl (aI sb2))), (we2, .inl (kA 0, wk2, .inl (aI se2))), (wo, .inr (9, [.ref wl, .ref wb, .ref we, .int (iI a_z)])), (wl, .inl (kA 1, wn, .inl (aI a_l))), (wb, .inl (kA 0, wk, .inl (aI a_b))), (we, .inl (kA 0, wk, .inl (aI a_e)))] := hD
  have hp8 : WR wn wk a_z a_l a_b a_e ∧ WL (wsF t false (txSt ts te tl tc ka ix) (txEn te tc ka)) a_z a_l a_b a_e := hu1
  refine lv_aload_n hx hb d_S_compareTexts_11 rfl (lv_at hl 0 rfl) ?_
  refine gf_S_20 hx hb hts hown hK hP 0 rfl rfl d_S_compareTexts_12 ?_
  refine lv_aload_n hx hb d_S_compareTexts_15 rfl (lv_at hl 3 rfl) ?_
  refine lv_iload hx hb d_S_compareTexts_16 (lv_at hl 4 rfl) ?_
  refine lv_iload hx hb d_S_compareTexts_18 (lv_at hl 5 rfl) ?_
  refine li_callw (wc := [(wo2, .inr (9, [.ref wl2, .ref wb2, .ref we2, .int (iI wz2)])), (wl2, .inl (kA 1, wn2, .inl (aI lt2))), (wb2, .inl (kA 0, wk2, .inl (aI sb2))), (we2, .inl (kA 0, wk2, .inl (aI se2)))]) (wr := [(so, .inr (7, [.ref wo, .ref wo2])), (wo, .inr (9, [.ref wl, .ref wb, .ref we, .int (iI a_z)])), (wl, .inl (kA 1, wn, .inl (aI a_l))), (wb, .inl (kA 0, wk, .inl (aI a_b))), (we, .inl (kA 0, wk, .inl (aI a_e)))]) (va_runV (As := [.ref hoB, .int (iI kb), .int (iI ix)]) (rest := []) ⟨hx, hb, hml, hown, hts⟩ (c_W_readText2 l dC dI kA H.size wo2 wl2 wb2 we2 wn2 wk2 wz2 lt2 sb2 se2 hoB ocB xiB xsB xeB xlB nB mxB fdB tcB tB tiB tsB teB tlB kb ix (by exact hW2) (by exact hHB) (by omega) (by exact hix) (by rw [g6]; omega)) (cw_S_54 hts rfl rfl ⟨Nat.le_of_ble_eq_true rfl, Nat.le_of_ble_eq_true rfl⟩) (li_preV (va_recv hK hP (ci := 9) (q0 := 1) rfl rfl) ⟨rfl, hP.sub [1, 2, 3, 4] rfl, (hD.sub [1, 2, 3, 4] (by decide) rfl).weaken (fun _ _ _ h => hAN _ h), (va_P.app ((li_ro hRo hRoN hS).sub [6] rfl) (va_P.app ((li_ro hRo hRoN hS).sub [7] rfl) (va_P.app ((li_ro hRo hRoN hS).sub [8] rfl) (va_P.app ((li_ro hRo hRoN hS).sub [9] rfl) (va_P.app ((li_ro hRo hRoN hS).sub [10] rfl) ((li_ro hRo hRoN hS).sub [11] rfl)))))), (dj_cons (dj_r (hRoN 6 _ rfl) hD [1, 2, 3, 4] rfl) (dj_cons (dj_r (hRoN 7 _ rfl) hD [1, 2, 3, 4] rfl) (dj_cons (dj_r (hRoN 8 _ rfl) hD [1, 2, 3, 4] rfl) (dj_cons (dj_r (hRoN 9 _ rfl) hD [1, 2, 3, 4] rfl) (dj_cons (dj_r (hRoN 10 _ rfl) hD [1, 2, 3, 4] rfl) (dj_cons (dj_r (hRoN 11 _ rfl) hD [1, 2, 3, 4] rfl) dj_nil))))))⟩ hK hN (hG.go hS hAN)) rfl rfl hl.1 rfl (lv_room (Nat.le_of_ble_eq_true rfl)) d_S_compareTexts_20 ⟨(by show 0 + 0 ≤ 0; omega), (by show 0 + 0 ≤ 0; omega)⟩) hP hD hS hA [1, 2, 3, 4] [0, 5, 6, 7, 8] rfl rfl (by decide) (by decide) (fun u2 H locs hu2 hP hD hS _hk => ?_)
  obtain ⟨b_z, b_l, b_b, b_e⟩ := u2
  have hP : va_P (dC, dI) CL [(so, .inr (7, [.ref wo, .ref wo2])), (wo, .inr (9, [.ref wl, .ref wb, .ref we, .int (iI a_z)])), (wl, .inl (kA 1, wn, .inl (aI a_l))), (wb, .inl (kA 0, wk, .inl (aI a_b))), (we, .inl (kA 0, wk, .inl (aI a_e))), (wo2, .inr (9, [.ref wl2, .ref wb2, .ref we2, .int (iI b_z)])), (wl2, .inl (kA 1, wn2, .inl (aI b_l))), (wb2, .inl (kA 0, wk2, .inl (aI b_b))), (we2, .inl (kA 0, wk2, .inl (aI b_e)))] H := hP
  have hD : va_D A [(so, .inr (7, [.ref wo, .ref wo2])), (wo, .inr (9, [.ref wl, .ref wb, .ref we, .int (iI a_z)])), (wl, .inl (kA 1, wn, .inl (aI a_l))), (wb, .inl (kA 0, wk, .inl (aI a_b))), (we, .inl (kA 0, wk, .inl (aI a_e))), (wo2, .inr (9, [.ref wl2, .ref wb2, .ref we2, .int (iI b_z)])), (wl2, .inl (kA 1, wn2, .inl (aI b_l))), (wb2, .inl (kA 0, wk2, .inl (aI b_b))), (we2, .inl (kA 0, wk2, .inl (aI b_e)))] := hD
  have hp20 : WR wn2 wk2 b_z b_l b_b b_e ∧ WL (wsF tB false (txSt tsB teB tlB tcB kb ix) (txEn teB tcB kb)) b_z b_l b_b b_e := hu2
  refine lv_aload_n hx hb d_S_compareTexts_23 rfl (lv_at hl 0 rfl) ?_
  refine gf_S_14 hx hb hts hown hK hP 0 rfl rfl d_S_compareTexts_24 ?_
  refine lv_aload_n hx hb d_S_compareTexts_27 rfl (lv_at hl 0 rfl) ?_
  refine gf_S_20 hx hb hts hown hK hP 0 rfl rfl d_S_compareTexts_28 ?_
  refine li_callr ((va_runV (As := [.ref wo2]) (rest := []) ⟨hx, hb, hml, hown, hts⟩ (c_W_compareAll l dC dI kA wo wl wb we wn wk a_z a_l a_b a_e wo2 wl2 wb2 we2 wn2 wk2 b_z b_l b_b b_e (by first | exact hp8.1 | exact hW | exact hW2) (by exact hp20.1)) (cw_S_58 hts rfl rfl ⟨Nat.le_of_ble_eq_true rfl, Nat.le_of_ble_eq_true rfl⟩) (li_preV (va_recv hK hP (ci := 9) (q0 := 1) rfl rfl) (hP.sub [1, 2, 3, 4, 5, 6, 7, 8] rfl) hK hN (hG.go hS hAN)) rfl rfl hl.1 rfl (lv_room (Nat.le_of_ble_eq_true rfl)) d_S_compareTexts_31 ⟨(by show 0 + 0 ≤ 0; omega), (by show 0 + 0 ≤ 0; omega)⟩).run) ?_
  exact fin (b_z, b_l, b_b, b_e, a_z, a_l, a_b, a_e) _ _ _ _ _ (by have l1 := hp8.2.len; have l2 := hp20.2.len; have z1 := hp8.1.2.2.1; have z2 := hp20.1.2.2.1; have e9 : caL (fun i => cwF wn a_z a_l a_b a_e i wn2 b_z b_l b_b b_e i) (icmp a_z b_z) (min a_z b_z).toNat 0 = icL (wsF t false (txSt ts te tl tc ka ix) (txEn te tc ka)) (wsF tB false (txSt tsB teB tlB tcB kb ix) (txEn teB tcB kb)) := (by unfold icL; rw [l1, l2]; exact caL_W (f := fun i => cwF wn a_z a_l a_b a_e i wn2 b_z b_l b_b b_e i) (d := icmp a_z b_z) (ws := (wsF t false (txSt ts te tl tc ka ix) (txEn te tc ka))) (ws2 := (wsF tB false (txSt tsB teB tlB tcB kb ix) (txEn teB tcB kb))) (min a_z b_z).toNat 0 (by omega) (by omega) (fun z hz0 hz1 => cwF_W hp8.1 hp20.1 hp8.2 hp20.2 ⟨hz0, by omega⟩ ⟨hz0, by omega⟩)); exact e9) (by show (WR wn wk a_z a_l a_b a_e ∧ WR wn2 wk2 b_z b_l b_b b_e) ∧ -1000000 ≤ icL (wsF t false (txSt ts te tl tc ka ix) (txEn te tc ka)) (wsF tB false (txSt tsB teB tlB tcB kb ix) (txEn teB tcB kb)) ∧ icL (wsF t false (txSt ts te tl tc ka ix) (txEn te tc ka)) (wsF tB false (txSt tsB teB tlB tcB kb ix) (txEn teB tcB kb)) ≤ 1000000; have l1 := hp8.2.len; have l2 := hp20.2.len; have z1 := hp8.1.2.2.1; have z2 := hp20.1.2.2.1; have e9 : caL (fun i => cwF wn a_z a_l a_b a_e i wn2 b_z b_l b_b b_e i) (icmp a_z b_z) (min a_z b_z).toNat 0 = icL (wsF t false (txSt ts te tl tc ka ix) (txEn te tc ka)) (wsF tB false (txSt tsB teB tlB tcB kb ix) (txEn teB tcB kb)) := (by unfold icL; rw [l1, l2]; exact caL_W (f := fun i => cwF wn a_z a_l a_b a_e i wn2 b_z b_l b_b b_e i) (d := icmp a_z b_z) (ws := (wsF t false (txSt ts te tl tc ka ix) (txEn te tc ka))) (ws2 := (wsF tB false (txSt tsB teB tlB tcB kb ix) (txEn teB tcB kb))) (min a_z b_z).toNat 0 (by omega) (by omega) (fun z hz0 hz1 => cwF_W hp8.1 hp20.1 hp8.2 hp20.2 ⟨hz0, by omega⟩ ⟨hz0, by omega⟩)); rw [← e9]; exact ⟨⟨hp8.1, hp20.1⟩, caL_r (fun i => cwF_b hp8.1 hp20.1) (by have := icmp_r (x := a_z) (y := b_z); omega) _ _⟩) (by first | exact hP | (subst_vars; exact hP)) (by first | exact hD | (subst_vars; exact hD)) hS d_S_compareTexts_34
theorem d_S_compare_0 : decode b_S_compare 0 = .ok (.aload_n 1, 1) := by decide +kernel
theorem d_S_compare_1 : decode b_S_compare 1 = .ok (.iload_n 3, 1) := by decide +kernel
theorem d_S_compare_2 : decode b_S_compare 2 = .ok (.invokestatic 31, 3) := by decide +kernel
theorem d_S_compare_5 : decode b_S_compare 5 = .ok (.istore 5, 2) := by decide +kernel
theorem d_S_compare_7 : decode b_S_compare 7 = .ok (.aload_n 2, 1) := by decide +kernel
theorem d_S_compare_8 : decode b_S_compare 8 = .ok (.iload_n 3, 1) := by decide +kernel
theorem d_S_compare_9 : decode b_S_compare 9 = .ok (.invokestatic 31, 3) := by decide +kernel
theorem d_S_compare_12 : decode b_S_compare 12 = .ok (.istore 6, 2) := by decide +kernel
theorem d_S_compare_14 : decode b_S_compare 14 = .ok (.iload 5, 2) := by decide +kernel
theorem d_S_compare_16 : decode b_S_compare 16 = .ok (.iconst (-1), 1) := by decide +kernel
theorem d_S_compare_17 : decode b_S_compare 17 = .ok (.if_icmp .eq 9, 3) := by decide +kernel
theorem d_S_compare_20 : decode b_S_compare 20 = .ok (.iload 6, 2) := by decide +kernel
theorem d_S_compare_22 : decode b_S_compare 22 = .ok (.iconst (-1), 1) := by decide +kernel
theorem d_S_compare_23 : decode b_S_compare 23 = .ok (.if_icmp .ne 26, 3) := by decide +kernel
theorem d_S_compare_26 : decode b_S_compare 26 = .ok (.iload 5, 2) := by decide +kernel
theorem d_S_compare_28 : decode b_S_compare 28 = .ok (.iload 6, 2) := by decide +kernel
theorem d_S_compare_30 : decode b_S_compare 30 = .ok (.if_icmp .ne 7, 3) := by decide +kernel
theorem d_S_compare_33 : decode b_S_compare 33 = .ok (.iconst 0, 1) := by decide +kernel
theorem d_S_compare_34 : decode b_S_compare 34 = .ok (.goto 14, 3) := by decide +kernel
theorem d_S_compare_37 : decode b_S_compare 37 = .ok (.iload 5, 2) := by decide +kernel
theorem d_S_compare_39 : decode b_S_compare 39 = .ok (.iconst (-1), 1) := by decide +kernel
theorem d_S_compare_40 : decode b_S_compare 40 = .ok (.if_icmp .ne 7, 3) := by decide +kernel
theorem d_S_compare_43 : decode b_S_compare 43 = .ok (.iconst 1, 1) := by decide +kernel
theorem d_S_compare_44 : decode b_S_compare 44 = .ok (.goto 4, 3) := by decide +kernel
theorem d_S_compare_47 : decode b_S_compare 47 = .ok (.iconst (-1), 1) := by decide +kernel
theorem d_S_compare_48 : decode b_S_compare 48 = .ok (.ireturn, 1) := by decide +kernel
theorem d_S_compare_49 : decode b_S_compare 49 = .ok (.iload_n 3, 1) := by decide +kernel
theorem d_S_compare_50 : decode b_S_compare 50 = .ok (.iconst 4, 1) := by decide +kernel
theorem d_S_compare_51 : decode b_S_compare 51 = .ok (.if_icmp .ne 13, 3) := by decide +kernel
theorem d_S_compare_54 : decode b_S_compare 54 = .ok (.iload 5, 2) := by decide +kernel
theorem d_S_compare_56 : decode b_S_compare 56 = .ok (.iload 6, 2) := by decide +kernel
theorem d_S_compare_58 : decode b_S_compare 58 = .ok (.invokestatic 35, 3) := by decide +kernel
theorem d_S_compare_61 : decode b_S_compare 61 = .ok (.goto 14, 3) := by decide +kernel
theorem d_S_compare_64 : decode b_S_compare 64 = .ok (.aload_n 0, 1) := by decide +kernel
theorem d_S_compare_65 : decode b_S_compare 65 = .ok (.aload_n 1, 1) := by decide +kernel
theorem d_S_compare_66 : decode b_S_compare 66 = .ok (.iload 5, 2) := by decide +kernel
theorem d_S_compare_68 : decode b_S_compare 68 = .ok (.aload_n 2, 1) := by decide +kernel
theorem d_S_compare_69 : decode b_S_compare 69 = .ok (.iload 6, 2) := by decide +kernel
theorem d_S_compare_71 : decode b_S_compare 71 = .ok (.iload_n 3, 1) := by decide +kernel
theorem d_S_compare_72 : decode b_S_compare 72 = .ok (.invokevirtual 40, 3) := by decide +kernel
theorem d_S_compare_75 : decode b_S_compare 75 = .ok (.istore 7, 2) := by decide +kernel
theorem d_S_compare_77 : decode b_S_compare 77 = .ok (.iload 4, 2) := by decide +kernel
theorem d_S_compare_79 : decode b_S_compare 79 = .ok (.ifCond .eq 9, 3) := by decide +kernel
theorem d_S_compare_82 : decode b_S_compare 82 = .ok (.iload 7, 2) := by decide +kernel
theorem d_S_compare_84 : decode b_S_compare 84 = .ok (.ineg, 1) := by decide +kernel
theorem d_S_compare_85 : decode b_S_compare 85 = .ok (.goto 5, 3) := by decide +kernel
theorem d_S_compare_88 : decode b_S_compare 88 = .ok (.iload 7, 2) := by decide +kernel
theorem d_S_compare_90 : decode b_S_compare 90 = .ok (.ireturn, 1) := by decide +kernel
set_option maxHeartbeats 4000000 in
set_option maxRecDepth 100000 in
theorem c_S_compare (l : Launch) (dC : Nat → ClassId) (dI : Nat → Nat → Nat) (kA : Nat → ClassId) (sz : Nat) (so : Nat) (wo : Nat) (wl : Nat) (wb : Nat) (we : Nat) (wn : Nat) (wk : Nat) (wz : Int) (lt : Nat → Int) (sb : Nat → Int) (se : Nat → Int) (wo2 : Nat) (wl2 : Nat) (wb2 : Nat) (we2 : Nat) (wn2 : Nat) (wk2 : Nat) (wz2 : Int) (lt2 : Nat → Int) (sb2 : Nat → Int) (se2 : Nat → Int) (da : HD) (db : HD) (ix : Int) (dn : Bool) (hW : WR wn wk wz lt sb se) (hW2 : WR wn2 wk2 wz2 lt2 sb2 se2) (hw1 : (wn = 400 ∧ 401 ≤ 2 * wk) ∧ wn2 = 400 ∧ 401 ≤ 2 * wk2) (hoa : HDok da) (hob : HDok db) (hix : -2147483648 ≤ ix ∧ ix < 2147483648) : Met l y_S_compare (wsy y_S_compare b_S_compare 8 (some .int)) (rmd 5 0 0) (li_Pr (dC, dI) CL (TY kA) [.ref so, .ref da.ho, .ref db.ho, .int (iI ix), .int (iI (bI dn))] (fun h => h.size = sz ∧ va_P (dC, dI) CL [(so, .inr (7, [.ref wo, .ref wo2])), (wo, .inr (9, [.ref wl, .ref wb, .ref we, .int (iI wz)])), (wl, .inl (kA 1, wn, .inl (aI lt))), (wb, .inl (kA 0, wk, .inl (aI sb))), (we, .inl (kA 0, wk, .inl (aI se))), (wo2, .inr (9, [.ref wl2, .ref wb2, .ref we2, .int (iI wz2)])), (wl2, .inl (kA 1, wn2, .inl (aI lt2))), (wb2, .inl (kA 0, wk2, .inl (aI sb2))), (we2, .inl (kA 0, wk2, .inl (aI se2)))] h ∧ va_D (fun q => dI 100 0 ≤ q) [(so, .inr (7, [.ref wo, .ref wo2])), (wo, .inr (9, [.ref wl, .ref wb, .ref we, .int (iI wz)])), (wl, .inl (kA 1, wn, .inl (aI lt))), (wb, .inl (kA 0, wk, .inl (aI sb))), (we, .inl (kA 0, wk, .inl (aI se))), (wo2, .inr (9, [.ref wl2, .ref wb2, .ref we2, .int (iI wz2)])), (wl2, .inl (kA 1, wn2, .inl (aI lt2))), (wb2, .inl (kA 0, wk2, .inl (aI sb2))), (we2, .inl (kA 0, wk2, .inl (aI se2)))] ∧ (fun h => va_P (dC, dI) CL [(da.ho, .inr (2, [.ref da.oc, .int (iI da.fd), .ref da.xi, .ref da.xs, .ref da.xe, .ref da.xl, .int (iI da.tc)])), (da.oc, .inl (kA 1, da.n, .inl (aI da.t))), (da.xi, .inl (kA 0, da.mx, .inl (aI da.ti))), (da.xs, .inl (kA 0, da.mx, .inl (aI da.ts))), (da.xe, .inl (kA 0, da.mx, .inl (aI da.te))), (da.xl, .inl (kA 0, da.mx, .inl (aI da.tl))), (db.ho, .inr (2, [.ref db.oc, .int (iI db.fd), .ref db.xi, .ref db.xs, .ref db.xe, .ref db.xl, .int (iI db.tc)])), (db.oc, .inl (kA 1, db.n, .inl (aI db.t))), (db.xi, .inl (kA 0, db.mx, .inl (aI db.ti))), (db.xs, .inl (kA 0, db.mx, .inl (aI db.ts))), (db.xe, .inl (kA 0, db.mx, .inl (aI db.te))), (db.xl, .inl (kA 0, db.mx, .inl (aI db.tl)))] h ∧ Dsj [(da.ho, .inr (2, [.ref da.oc, .int (iI da.fd), .ref da.xi, .ref da.xs, .ref da.xe, .ref da.xl, .int (iI da.tc)])), (da.oc, .inl (kA 1, da.n, .inl (aI da.t))), (da.xi, .inl (kA 0, da.mx, .inl (aI da.ti))), (da.xs, .inl (kA 0, da.mx, .inl (aI da.ts))), (da.xe, .inl (kA 0, da.mx, .inl (aI da.te))), (da.xl, .inl (kA 0, da.mx, .inl (aI da.tl))), (db.ho, .inr (2, [.ref db.oc, .int (iI db.fd), .ref db.xi, .ref db.xs, .ref db.xe, .ref db.xl, .int (iI db.tc)])), (db.oc, .inl (kA 1, db.n, .inl (aI db.t))), (db.xi, .inl (kA 0, db.mx, .inl (aI db.ti))), (db.xs, .inl (kA 0, db.mx, .inl (aI db.ts))), (db.xe, .inl (kA 0, db.mx, .inl (aI db.te))), (db.xl, .inl (kA 0, db.mx, .inl (aI db.tl)))] [(so, .inr (7, [.ref wo, .ref wo2])), (wo, .inr (9, [.ref wl, .ref wb, .ref we, .int (iI wz)])), (wl, .inl (kA 1, wn, .inl (aI lt))), (wb, .inl (kA 0, wk, .inl (aI sb))), (we, .inl (kA 0, wk, .inl (aI se))), (wo2, .inr (9, [.ref wl2, .ref wb2, .ref we2, .int (iI wz2)])), (wl2, .inl (kA 1, wn2, .inl (aI lt2))), (wb2, .inl (kA 0, wk2, .inl (aI sb2))), (we2, .inl (kA 0, wk2, .inl (aI se2)))]) h)) (li_Qw (S := (Int) × (Nat → Int) × (Nat → Int) × (Nat → Int) × (Int) × (Nat → Int) × (Nat → Int) × (Nat → Int)) (dC, dI) CL (fun u => (WR wn wk u.2.2.2.2.1 u.2.2.2.2.2.1 u.2.2.2.2.2.2.1 u.2.2.2.2.2.2.2 ∧ WR wn2 wk2 u.1 u.2.1 u.2.2.1 u.2.2.2.1) ∧ -1000000 ≤ scF ix dn da db ∧ scF ix dn da db ≤ 1000000) (fun u => some (.int (iI (scF ix dn da db)))) (fun u => [(so, .inr (7, [.ref wo, .ref wo2])), (wo, .inr (9, [.ref wl, .ref wb, .ref we, .int (iI u.2.2.2.2.1)])), (wl, .inl (kA 1, wn, .inl (aI u.2.2.2.2.2.1))), (wb, .inl (kA 0, wk, .inl (aI u.2.2.2.2.2.2.1))), (we, .inl (kA 0, wk, .inl (aI u.2.2.2.2.2.2.2))), (wo2, .inr (9, [.ref wl2, .ref wb2, .ref we2, .int (iI u.1)])), (wl2, .inl (kA 1, wn2, .inl (aI u.2.1))), (wb2, .inl (kA 0, wk2, .inl (aI u.2.2.1))), (we2, .inl (kA 0, wk2, .inl (aI u.2.2.2.1)))]) (va_A [(so, .inr (7, [.ref wo, .ref wo2])), (wo, .inr (9, [.ref wl, .ref wb, .ref we, .int (iI wz)])), (wl, .inl (kA 1, wn, .inl (aI lt))), (wb, .inl (kA 0, wk, .inl (aI sb))), (we, .inl (kA 0, wk, .inl (aI se))), (wo2, .inr (9, [.ref wl2, .ref wb2, .ref we2, .int (iI wz2)])), (wl2, .inl (kA 1, wn2, .inl (aI lt2))), (wb2, .inl (kA 0, wk2, .inl (aI sb2))), (we2, .inl (kA 0, wk2, .inl (aI se2)))] sz)) 0 0 (va_A [(so, .inr (7, [.ref wo, .ref wo2])), (wo, .inr (9, [.ref wl, .ref wb, .ref we, .int (iI wz)])), (wl, .inl (kA 1, wn, .inl (aI lt))), (wb, .inl (kA 0, wk, .inl (aI sb))), (we, .inl (kA 0, wk, .inl (aI se))), (wo2, .inr (9, [.ref wl2, .ref wb2, .ref we2, .int (iI wz2)])), (wl2, .inl (kA 1, wn2, .inl (aI lt2))), (wb2, .inl (kA 0, wk2, .inl (aI sb2))), (we2, .inl (kA 0, wk2, .inl (aI se2)))] sz) := by
  refine li_mwi (r := fun (u : (Int) × (Nat → Int) × (Nat → Int) × (Nat → Int) × (Int) × (Nat → Int) × (Nat → Int) × (Nat → Int)) => scF ix dn da db) (by decide) (Nat.le_of_ble_eq_true rfl) (fun u _ => by rfl) ?_
  intro p e s m args below meth c Q A C hP hD hBx hK hN hG hA hAi hAN fin ls hl
  obtain ⟨hx, hb, hr, hml, hown, hts, hlocks, hin⟩ := C
  have hown : s.vm.findClass R_S = some m.cls := hown
  obtain ⟨hRo, hDj⟩ := hBx
  have hRo : va_P (dC, dI) CL [(da.ho, .inr (2, [.ref da.oc, .int (iI da.fd), .ref da.xi, .ref da.xs, .ref da.xe, .ref da.xl, .int (iI da.tc)])), (da.oc, .inl (kA 1, da.n, .inl (aI da.t))), (da.xi, .inl (kA 0, da.mx, .inl (aI da.ti))), (da.xs, .inl (kA 0, da.mx, .inl (aI da.ts))), (da.xe, .inl (kA 0, da.mx, .inl (aI da.te))), (da.xl, .inl (kA 0, da.mx, .inl (aI da.tl))), (db.ho, .inr (2, [.ref db.oc, .int (iI db.fd), .ref db.xi, .ref db.xs, .ref db.xe, .ref db.xl, .int (iI db.tc)])), (db.oc, .inl (kA 1, db.n, .inl (aI db.t))), (db.xi, .inl (kA 0, db.mx, .inl (aI db.ti))), (db.xs, .inl (kA 0, db.mx, .inl (aI db.ts))), (db.xe, .inl (kA 0, db.mx, .inl (aI db.te))), (db.xl, .inl (kA 0, db.mx, .inl (aI db.tl)))] s.heap := hRo
  have hRoN := li_roN (A := A) hRo hDj hAi
  have hl : lv_has ls 8 [(0, .ref so), (1, .ref da.ho), (2, .ref db.ho), (3, .int (iI ix)), (4, .int (iI (bI dn)))] := hl
  obtain ⟨hwn, hwk, hwz, hlt, hsb, hse⟩ := id hW
  obtain ⟨hwn2, hwk2, hwz2, hlt2, hsb2, hse2⟩ := id hW2
  obtain ⟨hHa, hta⟩ := id hoa
  obtain ⟨hHb, htb⟩ := id hob
  suffices h9 : ∀ (H : Heap) (locs : List Loc), H = s.heap → locs = [] → W p l e (rmd 5 0 0) s m args below meth c H locs 0 0 Q (F0 m 0 ls []) from h9 _ _ rfl rfl
  intro H locs eH eL
  have hP : va_P (dC, dI) CL [(so, .inr (7, [.ref wo, .ref wo2])), (wo, .inr (9, [.ref wl, .ref wb, .ref we, .int (iI wz)])), (wl, .inl (kA 1, wn, .inl (aI lt))), (wb, .inl (kA 0, wk, .inl (aI sb))), (we, .inl (kA 0, wk, .inl (aI se))), (wo2, .inr (9, [.ref wl2, .ref wb2, .ref we2, .int (iI wz2)])), (wl2, .inl (kA 1, wn2, .inl (aI lt2))), (wb2, .inl (kA 0, wk2, .inl (aI sb2))), (we2, .inl (kA 0, wk2, .inl (aI se2)))] H := by rw [eH]; exact hP
  have hS : va_S A s.heap H locs := by rw [eH, eL]; exact va_S.rf
  refine lv_aload_n hx hb d_S_compare_0 rfl (lv_at hl 1 rfl) ?_
  refine lv_iload_n hx hb d_S_compare_1 rfl (lv_at hl 3 rfl) ?_
  refine li_callr ((va_runS (As := [.ref da.ho, .int (iI ix)]) (rest := []) ⟨hx, hb, hml, hown, hts⟩ (c_S_keyOf l dC dI kA da.ho da.oc da.xi da.xs da.xe da.xl da.n da.mx da.fd da.tc da.t da.ti da.ts da.te da.tl ix (by exact hHa) (by exact hix)) (cw_S_31 hts rfl rfl ⟨Nat.le_of_ble_eq_true rfl, Nat.le_of_ble_eq_true rfl⟩) (li_preS ((li_ro hRo hRoN hS).sub [0, 1, 2, 3, 4, 5] rfl) hK hN (hG.go hS hAN)) rfl rfl hl.1 rfl (lv_room (Nat.le_of_ble_eq_true rfl)) d_S_compare_2 ⟨(by show 0 + 0 ≤ 0; omega), (by show 0 + 0 ≤ 0; omega)⟩).run) ?_
  refine li_nm (fun ka eka => ?_)
  refine lv_istore (lv' := [(5, .int (iI ka)), (0, .ref so), (1, .ref da.ho), (2, .ref db.ho), (3, .int (iI ix)), (4, .int (iI (bI dn)))]) hx hb d_S_compare_5 hl (by decide) rfl (fun ls hl => ?_)
  have eka2 : kyD ix da = ka := eka.symm
  have hka := kyD_r ix hoa
  rw [eka2] at hka
  refine lv_aload_n hx hb d_S_compare_7 rfl (lv_at hl 3 rfl) ?_
  refine lv_iload_n hx hb d_S_compare_8 rfl (lv_at hl 4 rfl) ?_
  refine li_callr ((va_runS (As := [.ref db.ho, .int (iI ix)]) (rest := []) ⟨hx, hb, hml, hown, hts⟩ (c_S_keyOf l dC dI kA db.ho db.oc db.xi db.xs db.xe db.xl db.n db.mx db.fd db.tc db.t db.ti db.ts db.te db.tl ix (by exact hHb) (by exact hix)) (cw_S_31 hts rfl rfl ⟨Nat.le_of_ble_eq_true rfl, Nat.le_of_ble_eq_true rfl⟩) (li_preS ((li_ro hRo hRoN hS).sub [6, 7, 8, 9, 10, 11] rfl) hK hN (hG.go hS hAN)) rfl rfl hl.1 rfl (lv_room (Nat.le_of_ble_eq_true rfl)) d_S_compare_9 ⟨(by show 0 + 0 ≤ 0; omega), (by show 0 + 0 ≤ 0; omega)⟩).run) ?_
  refine li_nm (fun kb ekb => ?_)
  refine lv_istore (lv' := [(6, .int (iI kb)), (5, .int (iI ka)), (0, .ref so), (1, .ref da.ho), (2, .ref db.ho), (3, .int (iI ix)), (4, .int (iI (bI dn)))]) hx hb d_S_compare_12 hl (by decide) rfl (fun ls hl => ?_)
  have ekb2 : kyD ix db = kb := ekb.symm
  have hkb := kyD_r ix hob
  rw [ekb2] at hkb
  refine lv_iload hx hb d_S_compare_14 (lv_at hl 1 rfl) ?_
  refine lv_iconst (v := iI (-1)) hx hb d_S_compare_16 rfl ?_
  refine li_icmp_eq (tgt := 26) hx hb d_S_compare_17 (by decide) (by omega) (by omega) (fun c1 => ?_) (fun c1 => ?_)
  · have _q := c1
    refine lv_iload hx hb d_S_compare_26 (lv_at hl 1 rfl) ?_
    refine lv_iload hx hb d_S_compare_28 (lv_at hl 0 rfl) ?_
    refine li_icmp_ne (tgt := 37) hx hb d_S_compare_30 (by decide) (by omega) (by omega) (fun c2 => ?_) (fun c2 => ?_)
    · have _q := c2
      refine lv_iload hx hb d_S_compare_37 (lv_at hl 1 rfl) ?_
      refine lv_iconst (v := iI (-1)) hx hb d_S_compare_39 rfl ?_
      refine li_icmp_ne (tgt := 47) hx hb d_S_compare_40 (by decide) (by omega) (by omega) (fun c3 => ?_) (fun c3 => ?_)
      · have _q := c3
        exact absurd c3 (by omega)
      · have _q := c3
        refine lv_iconst (v := iI 1) hx hb d_S_compare_43 rfl ?_
        refine lv_goto (tgt := 48) hx hb d_S_compare_44 (by decide) ?_
        exact fin (wz2, lt2, sb2, se2, wz, lt, sb, se) _ _ _ _ _ (by unfold scF; rw [eka2, ekb2]; (repeat (first | rw [if_pos (by omega)] | rw [if_neg (by omega)]))) (by show (WR wn wk wz lt sb se ∧ WR wn2 wk2 wz2 lt2 sb2 se2) ∧ -1000000 ≤ scF ix dn da db ∧ scF ix dn da db ≤ 1000000; refine ⟨⟨hW, hW2⟩, ?_⟩; unfold scF; rw [eka2, ekb2, if_pos (by omega)]; (repeat' split) <;> omega) (by first | exact hP | (subst_vars; exact hP)) (by first | exact hD | (subst_vars; exact hD)) hS d_S_compare_48
    · have _q := c2
      refine lv_iconst (v := iI 0) hx hb d_S_compare_33 rfl ?_
      refine lv_goto (tgt := 48) hx hb d_S_compare_34 (by decide) ?_
      exact fin (wz2, lt2, sb2, se2, wz, lt, sb, se) _ _ _ _ _ (by unfold scF; rw [eka2, ekb2]; (repeat (first | rw [if_pos (by omega)] | rw [if_neg (by omega)]))) (by show (WR wn wk wz lt sb se ∧ WR wn2 wk2 wz2 lt2 sb2 se2) ∧ -1000000 ≤ scF ix dn da db ∧ scF ix dn da db ≤ 1000000; refine ⟨⟨hW, hW2⟩, ?_⟩; unfold scF; rw [eka2, ekb2, if_pos (by omega)]; (repeat' split) <;> omega) (by first | exact hP | (subst_vars; exact hP)) (by first | exact hD | (subst_vars; exact hD)) hS d_S_compare_48
  · have _q := c1
    refine lv_iload hx hb d_S_compare_20 (lv_at hl 0 rfl) ?_
    refine lv_iconst (v := iI (-1)) hx hb d_S_compare_22 rfl ?_
    refine li_icmp_ne (tgt := 49) hx hb d_S_compare_23 (by decide) (by omega) (by omega) (fun c4 => ?_) (fun c4 => ?_)
    · have _q := c4
      refine lv_iload_n hx hb d_S_compare_49 rfl (lv_at hl 5 rfl) ?_
      refine lv_iconst (v := iI 4) hx hb d_S_compare_50 rfl ?_
      refine li_icmp_ne (tgt := 64) hx hb d_S_compare_51 (by decide) (by omega) (by omega) (fun c5 => ?_) (fun c5 => ?_)
      · have _q := c5
        refine lv_aload_n hx hb d_S_compare_64 rfl (lv_at hl 2 rfl) ?_
        refine lv_aload_n hx hb d_S_compare_65 rfl (lv_at hl 3 rfl) ?_
        refine lv_iload hx hb d_S_compare_66 (lv_at hl 1 rfl) ?_
        refine lv_aload_n hx hb d_S_compare_68 rfl (lv_at hl 4 rfl) ?_
        refine lv_iload hx hb d_S_compare_69 (lv_at hl 0 rfl) ?_
        refine lv_iload_n hx hb d_S_compare_71 rfl (lv_at hl 5 rfl) ?_
        refine li_callw (wc := [(so, .inr (7, [.ref wo, .ref wo2])), (wo, .inr (9, [.ref wl, .ref wb, .ref we, .int (iI wz)])), (wl, .inl (kA 1, wn, .inl (aI lt))), (wb, .inl (kA 0, wk, .inl (aI sb))), (we, .inl (kA 0, wk, .inl (aI se))), (wo2, .inr (9, [.ref wl2, .ref wb2, .ref we2, .int (iI wz2)])), (wl2, .inl (kA 1, wn2, .inl (aI lt2))), (wb2, .inl (kA 0, wk2, .inl (aI sb2))), (we2, .inl (kA 0, wk2, .inl (aI se2)))]) (wr := []) (va_runV (As := [.ref da.ho, .int (iI ka), .ref db.ho, .int (iI kb), .int (iI ix)]) (rest := []) ⟨hx, hb, hml, hown, hts⟩ (c_S_compareTexts l dC dI kA H.size so wo wl wb we wn wk wz lt sb se wo2 wl2 wb2 we2 wn2 wk2 wz2 lt2 sb2 se2 da.ho da.oc da.xi da.xs da.xe da.xl da.n da.mx da.fd da.tc da.t da.ti da.ts da.te da.tl db.ho db.oc db.xi db.xs db.xe db.xl db.n db.mx db.fd db.tc db.t db.ti db.ts db.te db.tl ka kb ix (by exact hW) (by exact hW2) (by exact hw1) (by exact hHa) (by exact hta) (by exact hHb) (by exact htb) (by exact hix) (by exact kyD_t hoa eka2 (by omega) (by omega)) (by exact kyD_t hob ekb2 (by omega) (by omega))) (cw_S_40 hts rfl rfl ⟨Nat.le_of_ble_eq_true rfl, Nat.le_of_ble_eq_true rfl⟩) (li_preV (va_recv hK hP (ci := 7) (q0 := 0) rfl rfl) ⟨rfl, hP.sub [0, 1, 2, 3, 4, 5, 6, 7, 8] rfl, (hD.sub [0, 1, 2, 3, 4, 5, 6, 7, 8] (by decide) rfl).weaken (fun _ _ _ h => hAN _ h), (va_P.app ((li_ro hRo hRoN hS).sub [0] rfl) (va_P.app ((li_ro hRo hRoN hS).sub [1] rfl) (va_P.app ((li_ro hRo hRoN hS).sub [2] rfl) (va_P.app ((li_ro hRo hRoN hS).sub [3] rfl) (va_P.app ((li_ro hRo hRoN hS).sub [4] rfl) (va_P.app ((li_ro hRo hRoN hS).sub [5] rfl) (va_P.app ((li_ro hRo hRoN hS).sub [6] rfl) (va_P.app ((li_ro hRo hRoN hS).sub [7] rfl) (va_P.app ((li_ro hRo hRoN hS).sub [8] rfl) (va_P.app ((li_ro hRo hRoN hS).sub [9] rfl) (va_P.app ((li_ro hRo hRoN hS).sub [10] rfl) ((li_ro hRo hRoN hS).sub [11] rfl)))))))))))), (dj_cons (dj_r (hRoN 0 _ rfl) hD [0, 1, 2, 3, 4, 5, 6, 7, 8] rfl) (dj_cons (dj_r (hRoN 1 _ rfl) hD [0, 1, 2, 3, 4, 5, 6, 7, 8] rfl) (dj_cons (dj_r (hRoN 2 _ rfl) hD [0, 1, 2, 3, 4, 5, 6, 7, 8] rfl) (dj_cons (dj_r (hRoN 3 _ rfl) hD [0, 1, 2, 3, 4, 5, 6, 7, 8] rfl) (dj_cons (dj_r (hRoN 4 _ rfl) hD [0, 1, 2, 3, 4, 5, 6, 7, 8] rfl) (dj_cons (dj_r (hRoN 5 _ rfl) hD [0, 1, 2, 3, 4, 5, 6, 7, 8] rfl) (dj_cons (dj_r (hRoN 6 _ rfl) hD [0, 1, 2, 3, 4, 5, 6, 7, 8] rfl) (dj_cons (dj_r (hRoN 7 _ rfl) hD [0, 1, 2, 3, 4, 5, 6, 7, 8] rfl) (dj_cons (dj_r (hRoN 8 _ rfl) hD [0, 1, 2, 3, 4, 5, 6, 7, 8] rfl) (dj_cons (dj_r (hRoN 9 _ rfl) hD [0, 1, 2, 3, 4, 5, 6, 7, 8] rfl) (dj_cons (dj_r (hRoN 10 _ rfl) hD [0, 1, 2, 3, 4, 5, 6, 7, 8] rfl) (dj_cons (dj_r (hRoN 11 _ rfl) hD [0, 1, 2, 3, 4, 5, 6, 7, 8] rfl) dj_nil))))))))))))⟩ hK hN (hG.go hS hAN)) rfl rfl hl.1 rfl (lv_room (Nat.le_of_ble_eq_true rfl)) d_S_compare_72 ⟨(by show 0 + 0 ≤ 0; omega), (by show 0 + 0 ≤ 0; omega)⟩) hP hD hS hA [0, 1, 2, 3, 4, 5, 6, 7, 8] [] rfl rfl (by decide) (by decide) (fun u6 H locs hu6 hP hD hS _hk => ?_)
        obtain ⟨n17, f18, f29, f310, n211, f412, f513, f614⟩ := u6
        have hP : va_P (dC, dI) CL [(so, .inr (7, [.ref wo, .ref wo2])), (wo, .inr (9, [.ref wl, .ref wb, .ref we, .int (iI n211)])), (wl, .inl (kA 1, wn, .inl (aI f412))), (wb, .inl (kA 0, wk, .inl (aI f513))), (we, .inl (kA 0, wk, .inl (aI f614))), (wo2, .inr (9, [.ref wl2, .ref wb2, .ref we2, .int (iI n17)])), (wl2, .inl (kA 1, wn2, .inl (aI f18))), (wb2, .inl (kA 0, wk2, .inl (aI f29))), (we2, .inl (kA 0, wk2, .inl (aI f310)))] H := hP
        have hD : va_D A [(so, .inr (7, [.ref wo, .ref wo2])), (wo, .inr (9, [.ref wl, .ref wb, .ref we, .int (iI n211)])), (wl, .inl (kA 1, wn, .inl (aI f412))), (wb, .inl (kA 0, wk, .inl (aI f513))), (we, .inl (kA 0, wk, .inl (aI f614))), (wo2, .inr (9, [.ref wl2, .ref wb2, .ref we2, .int (iI n17)])), (wl2, .inl (kA 1, wn2, .inl (aI f18))), (wb2, .inl (kA 0, wk2, .inl (aI f29))), (we2, .inl (kA 0, wk2, .inl (aI f310)))] := hD
        have hp72 : (WR wn wk n211 f412 f513 f614 ∧ WR wn2 wk2 n17 f18 f29 f310) ∧ -1000000 ≤ icL (wsF da.t false (txSt da.ts da.te da.tl da.tc ka ix) (txEn da.te da.tc ka)) (wsF db.t false (txSt db.ts db.te db.tl db.tc kb ix) (txEn db.te db.tc kb)) ∧ icL (wsF da.t false (txSt da.ts da.te da.tl da.tc ka ix) (txEn da.te da.tc ka)) (wsF db.t false (txSt db.ts db.te db.tl db.tc kb ix) (txEn db.te db.tc kb)) ≤ 1000000 := hu6
        refine W.eq (g2 := F0 m 75 ls [.int (iI (icL (wsF da.t false (txSt da.ts da.te da.tl da.tc ka ix) (txEn da.te da.tc ka)) (wsF db.t false (txSt db.ts db.te db.tl db.tc kb ix) (txEn db.te db.tc kb))))]) rfl ?_
        refine li_nm (fun od eod => ?_)
        refine lv_istore (lv' := [(7, .int (iI od)), (6, .int (iI kb)), (5, .int (iI ka)), (0, .ref so), (1, .ref da.ho), (2, .ref db.ho), (3, .int (iI ix)), (4, .int (iI (bI dn)))]) hx hb d_S_compare_75 hl (by decide) rfl (fun ls hl => ?_)
        have eod2 : scO ix da db = od := by (unfold scO; rw [eka2, ekb2]; first | (rw [if_pos (by omega)]; exact eod.symm) | (rw [if_neg (by omega)]; exact eod.symm))
        have hod : -1000000 ≤ od ∧ od ≤ 1000000 := by first | (rw [eod]; have h8 := icmp_r (x := ka) (y := kb); omega) | (rw [eod]; exact hp72.2)
        refine lv_iload hx hb d_S_compare_77 (lv_at hl 7 rfl) ?_
        refine li_bz (tgt := 88) hx hb d_S_compare_79 (by decide) (fun c15 => ?_) (fun c15 => ?_)
        · have _q := c15
          refine lv_iload hx hb d_S_compare_88 (lv_at hl 0 rfl) ?_
          exact fin (n17, f18, f29, f310, n211, f412, f513, f614) _ _ _ _ _ (by unfold scF; rw [eka2, ekb2, if_neg (by omega), eod2]; first | (rw [if_pos (by assumption)]; done) | (rw [if_neg (nbt (by assumption))]; done)) (by show (WR wn wk n211 f412 f513 f614 ∧ WR wn2 wk2 n17 f18 f29 f310) ∧ -1000000 ≤ scF ix dn da db ∧ scF ix dn da db ≤ 1000000; refine ⟨by first | exact hp72.1 | exact ⟨hW, hW2⟩, ?_⟩; unfold scF; rw [eka2, ekb2, if_neg (by omega), eod2]; split <;> omega) (by first | exact hP | (subst_vars; exact hP)) (by first | exact hD | (subst_vars; exact hD)) hS d_S_compare_90
        · have _q := c15
          refine lv_iload hx hb d_S_compare_82 (lv_at hl 0 rfl) ?_
          refine li_ineg hx hb d_S_compare_84 ?_
          refine lv_goto (tgt := 90) hx hb d_S_compare_85 (by decide) ?_
          exact fin (n17, f18, f29, f310, n211, f412, f513, f614) _ _ _ _ _ (by unfold scF; rw [eka2, ekb2, if_neg (by omega), eod2]; first | (rw [if_pos (by assumption)]; done) | (rw [if_neg (nbt (by assumption))]; done)) (by show (WR wn wk n211 f412 f513 f614 ∧ WR wn2 wk2 n17 f18 f29 f310) ∧ -1000000 ≤ scF ix dn da db ∧ scF ix dn da db ≤ 1000000; refine ⟨by first | exact hp72.1 | exact ⟨hW, hW2⟩, ?_⟩; unfold scF; rw [eka2, ekb2, if_neg (by omega), eod2]; split <;> omega) (by first | exact hP | (subst_vars; exact hP)) (by first | exact hD | (subst_vars; exact hD)) hS d_S_compare_90
      · have _q := c5
        refine lv_iload hx hb d_S_compare_54 (lv_at hl 1 rfl) ?_
        refine lv_iload hx hb d_S_compare_56 (lv_at hl 0 rfl) ?_
        refine li_callr ((va_runS (As := [.int (iI ka), .int (iI kb)]) (rest := []) ⟨hx, hb, hml, hown, hts⟩ (c_N_compare l dC dI kA ka kb (by omega) (by omega)) (cw_S_35 hts rfl rfl ⟨Nat.le_of_ble_eq_true rfl, Nat.le_of_ble_eq_true rfl⟩) (li_preS va_Pnil hK hN (hG.go hS hAN)) rfl rfl hl.1 rfl (lv_room (Nat.le_of_ble_eq_true rfl)) d_S_compare_58 ⟨(by show 0 + 0 ≤ 0; omega), (by show 0 + 0 ≤ 0; omega)⟩).run) ?_
        refine lv_goto (tgt := 75) hx hb d_S_compare_61 (by decide) ?_
        refine li_nm (fun od eod => ?_)
        refine lv_istore (lv' := [(7, .int (iI od)), (6, .int (iI kb)), (5, .int (iI ka)), (0, .ref so), (1, .ref da.ho), (2, .ref db.ho), (3, .int (iI ix)), (4, .int (iI (bI dn)))]) hx hb d_S_compare_75 hl (by decide) rfl (fun ls hl => ?_)
        have eod2 : scO ix da db = od := by (unfold scO; rw [eka2, ekb2]; first | (rw [if_pos (by omega)]; exact eod.symm) | (rw [if_neg (by omega)]; exact eod.symm))
        have hod : -1000000 ≤ od ∧ od ≤ 1000000 := by first | (rw [eod]; have h8 := icmp_r (x := ka) (y := kb); omega) | (rw [eod]; exact hp72.2)
        refine lv_iload hx hb d_S_compare_77 (lv_at hl 7 rfl) ?_
        refine li_bz (tgt := 88) hx hb d_S_compare_79 (by decide) (fun c16 => ?_) (fun c16 => ?_)
        · have _q := c16
          refine lv_iload hx hb d_S_compare_88 (lv_at hl 0 rfl) ?_
          exact fin (wz2, lt2, sb2, se2, wz, lt, sb, se) _ _ _ _ _ (by unfold scF; rw [eka2, ekb2, if_neg (by omega), eod2]; first | (rw [if_pos (by assumption)]; done) | (rw [if_neg (nbt (by assumption))]; done)) (by show (WR wn wk wz lt sb se ∧ WR wn2 wk2 wz2 lt2 sb2 se2) ∧ -1000000 ≤ scF ix dn da db ∧ scF ix dn da db ≤ 1000000; refine ⟨by first | exact hp72.1 | exact ⟨hW, hW2⟩, ?_⟩; unfold scF; rw [eka2, ekb2, if_neg (by omega), eod2]; split <;> omega) (by first | exact hP | (subst_vars; exact hP)) (by first | exact hD | (subst_vars; exact hD)) hS d_S_compare_90
        · have _q := c16
          refine lv_iload hx hb d_S_compare_82 (lv_at hl 0 rfl) ?_
          refine li_ineg hx hb d_S_compare_84 ?_
          refine lv_goto (tgt := 90) hx hb d_S_compare_85 (by decide) ?_
          exact fin (wz2, lt2, sb2, se2, wz, lt, sb, se) _ _ _ _ _ (by unfold scF; rw [eka2, ekb2, if_neg (by omega), eod2]; first | (rw [if_pos (by assumption)]; done) | (rw [if_neg (nbt (by assumption))]; done)) (by show (WR wn wk wz lt sb se ∧ WR wn2 wk2 wz2 lt2 sb2 se2) ∧ -1000000 ≤ scF ix dn da db ∧ scF ix dn da db ≤ 1000000; refine ⟨by first | exact hp72.1 | exact ⟨hW, hW2⟩, ?_⟩; unfold scF; rw [eka2, ekb2, if_neg (by omega), eod2]; split <;> omega) (by first | exact hP | (subst_vars; exact hP)) (by first | exact hD | (subst_vars; exact hD)) hS d_S_compare_90
    · have _q := c4
      refine lv_iload hx hb d_S_compare_26 (lv_at hl 1 rfl) ?_
      refine lv_iload hx hb d_S_compare_28 (lv_at hl 0 rfl) ?_
      refine li_icmp_ne (tgt := 37) hx hb d_S_compare_30 (by decide) (by omega) (by omega) (fun c17 => ?_) (fun c17 => ?_)
      · have _q := c17
        refine lv_iload hx hb d_S_compare_37 (lv_at hl 1 rfl) ?_
        refine lv_iconst (v := iI (-1)) hx hb d_S_compare_39 rfl ?_
        refine li_icmp_ne (tgt := 47) hx hb d_S_compare_40 (by decide) (by omega) (by omega) (fun c18 => ?_) (fun c18 => ?_)
        · have _q := c18
          refine lv_iconst (v := iI (-1)) hx hb d_S_compare_47 rfl ?_
          exact fin (wz2, lt2, sb2, se2, wz, lt, sb, se) _ _ _ _ _ (by unfold scF; rw [eka2, ekb2]; (repeat (first | rw [if_pos (by omega)] | rw [if_neg (by omega)]))) (by show (WR wn wk wz lt sb se ∧ WR wn2 wk2 wz2 lt2 sb2 se2) ∧ -1000000 ≤ scF ix dn da db ∧ scF ix dn da db ≤ 1000000; refine ⟨⟨hW, hW2⟩, ?_⟩; unfold scF; rw [eka2, ekb2, if_pos (by omega)]; (repeat' split) <;> omega) (by first | exact hP | (subst_vars; exact hP)) (by first | exact hD | (subst_vars; exact hD)) hS d_S_compare_48
        · have _q := c18
          exact absurd c18 (by omega)
      · have _q := c17
        refine lv_iconst (v := iI 0) hx hb d_S_compare_33 rfl ?_
        refine lv_goto (tgt := 48) hx hb d_S_compare_34 (by decide) ?_
        exact fin (wz2, lt2, sb2, se2, wz, lt, sb, se) _ _ _ _ _ (by unfold scF; rw [eka2, ekb2]; (repeat (first | rw [if_pos (by omega)] | rw [if_neg (by omega)]))) (by show (WR wn wk wz lt sb se ∧ WR wn2 wk2 wz2 lt2 sb2 se2) ∧ -1000000 ≤ scF ix dn da db ∧ scF ix dn da db ≤ 1000000; refine ⟨⟨hW, hW2⟩, ?_⟩; unfold scF; rw [eka2, ekb2, if_pos (by omega)]; (repeat' split) <;> omega) (by first | exact hP | (subst_vars; exact hP)) (by first | exact hD | (subst_vars; exact hD)) hS d_S_compare_48
theorem d_S_sort_0 : decode b_S_sort 0 = .ok (.iconst 1, 1) := by decide +kernel
theorem d_S_sort_1 : decode b_S_sort 1 = .ok (.istore 6, 2) := by decide +kernel
theorem d_S_sort_3 : decode b_S_sort 3 = .ok (.iload 6, 2) := by decide +kernel
theorem d_S_sort_5 : decode b_S_sort 5 = .ok (.iload_n 2, 1) := by decide +kernel
theorem d_S_sort_6 : decode b_S_sort 6 = .ok (.if_icmp .ge 95, 3) := by decide +kernel
theorem d_S_sort_9 : decode b_S_sort 9 = .ok (.iload 6, 2) := by decide +kernel
theorem d_S_sort_11 : decode b_S_sort 11 = .ok (.aload_n 1, 1) := by decide +kernel
theorem d_S_sort_12 : decode b_S_sort 12 = .ok (.arraylength, 1) := by decide +kernel
theorem d_S_sort_13 : decode b_S_sort 13 = .ok (.if_icmp .ge 88, 3) := by decide +kernel
theorem d_S_sort_16 : decode b_S_sort 16 = .ok (.iload 6, 2) := by decide +kernel
theorem d_S_sort_18 : decode b_S_sort 18 = .ok (.istore 7, 2) := by decide +kernel
theorem d_S_sort_20 : decode b_S_sort 20 = .ok (.iload 7, 2) := by decide +kernel
theorem d_S_sort_22 : decode b_S_sort 22 = .ok (.ifCond .le 73, 3) := by decide +kernel
theorem d_S_sort_25 : decode b_S_sort 25 = .ok (.aload_n 3, 1) := by decide +kernel
theorem d_S_sort_26 : decode b_S_sort 26 = .ok (.aload_n 1, 1) := by decide +kernel
theorem d_S_sort_27 : decode b_S_sort 27 = .ok (.iload 7, 2) := by decide +kernel
theorem d_S_sort_29 : decode b_S_sort 29 = .ok (.iaload, 1) := by decide +kernel
theorem d_S_sort_30 : decode b_S_sort 30 = .ok (.invokestatic 23, 3) := by decide +kernel
theorem d_S_sort_33 : decode b_S_sort 33 = .ok (.astore 8, 2) := by decide +kernel
theorem d_S_sort_35 : decode b_S_sort 35 = .ok (.aload_n 3, 1) := by decide +kernel
theorem d_S_sort_36 : decode b_S_sort 36 = .ok (.aload_n 1, 1) := by decide +kernel
theorem d_S_sort_37 : decode b_S_sort 37 = .ok (.iload 7, 2) := by decide +kernel
theorem d_S_sort_39 : decode b_S_sort 39 = .ok (.iconst 1, 1) := by decide +kernel
theorem d_S_sort_40 : decode b_S_sort 40 = .ok (.isub, 1) := by decide +kernel
theorem d_S_sort_41 : decode b_S_sort 41 = .ok (.iaload, 1) := by decide +kernel
theorem d_S_sort_42 : decode b_S_sort 42 = .ok (.invokestatic 23, 3) := by decide +kernel
theorem d_S_sort_45 : decode b_S_sort 45 = .ok (.astore 9, 2) := by decide +kernel
theorem d_S_sort_47 : decode b_S_sort 47 = .ok (.aload_n 0, 1) := by decide +kernel
theorem d_S_sort_48 : decode b_S_sort 48 = .ok (.aload 8, 2) := by decide +kernel
theorem d_S_sort_50 : decode b_S_sort 50 = .ok (.aload 9, 2) := by decide +kernel
theorem d_S_sort_52 : decode b_S_sort 52 = .ok (.iload 4, 2) := by decide +kernel
theorem d_S_sort_54 : decode b_S_sort 54 = .ok (.iload 5, 2) := by decide +kernel
theorem d_S_sort_56 : decode b_S_sort 56 = .ok (.invokevirtual 27, 3) := by decide +kernel
theorem d_S_sort_59 : decode b_S_sort 59 = .ok (.ifCond .lt 6, 3) := by decide +kernel
theorem d_S_sort_62 : decode b_S_sort 62 = .ok (.goto 33, 3) := by decide +kernel
theorem d_S_sort_65 : decode b_S_sort 65 = .ok (.aload_n 1, 1) := by decide +kernel
theorem d_S_sort_66 : decode b_S_sort 66 = .ok (.iload 7, 2) := by decide +kernel
theorem d_S_sort_68 : decode b_S_sort 68 = .ok (.iaload, 1) := by decide +kernel
theorem d_S_sort_69 : decode b_S_sort 69 = .ok (.istore 10, 2) := by decide +kernel
theorem d_S_sort_71 : decode b_S_sort 71 = .ok (.aload_n 1, 1) := by decide +kernel
theorem d_S_sort_72 : decode b_S_sort 72 = .ok (.iload 7, 2) := by decide +kernel
theorem d_S_sort_74 : decode b_S_sort 74 = .ok (.aload_n 1, 1) := by decide +kernel
theorem d_S_sort_75 : decode b_S_sort 75 = .ok (.iload 7, 2) := by decide +kernel
theorem d_S_sort_77 : decode b_S_sort 77 = .ok (.iconst 1, 1) := by decide +kernel
theorem d_S_sort_78 : decode b_S_sort 78 = .ok (.isub, 1) := by decide +kernel
theorem d_S_sort_79 : decode b_S_sort 79 = .ok (.iaload, 1) := by decide +kernel
theorem d_S_sort_80 : decode b_S_sort 80 = .ok (.iastore, 1) := by decide +kernel
theorem d_S_sort_81 : decode b_S_sort 81 = .ok (.aload_n 1, 1) := by decide +kernel
theorem d_S_sort_82 : decode b_S_sort 82 = .ok (.iload 7, 2) := by decide +kernel
theorem d_S_sort_84 : decode b_S_sort 84 = .ok (.iconst 1, 1) := by decide +kernel
theorem d_S_sort_85 : decode b_S_sort 85 = .ok (.isub, 1) := by decide +kernel
theorem d_S_sort_86 : decode b_S_sort 86 = .ok (.iload 10, 2) := by decide +kernel
theorem d_S_sort_88 : decode b_S_sort 88 = .ok (.iastore, 1) := by decide +kernel
theorem d_S_sort_89 : decode b_S_sort 89 = .ok (.iinc 7 (-1), 3) := by decide +kernel
theorem d_S_sort_92 : decode b_S_sort 92 = .ok (.goto (-72), 3) := by decide +kernel
theorem d_S_sort_95 : decode b_S_sort 95 = .ok (.iinc 6 1, 3) := by decide +kernel
theorem d_S_sort_98 : decode b_S_sort 98 = .ok (.goto (-95), 3) := by decide +kernel
theorem d_S_sort_101 : decode b_S_sort 101 = .ok (.return_, 1) := by decide +kernel
set_option maxHeartbeats 4000000 in
set_option maxRecDepth 100000 in
theorem c_S_sort (l : Launch) (dC : Nat → ClassId) (dI : Nat → Nat → Nat) (kA : Nat → ClassId) (sz : Nat) (so : Nat) (wo : Nat) (wl : Nat) (wb : Nat) (we : Nat) (wn : Nat) (wk : Nat) (wz : Int) (lt : Nat → Int) (sb : Nat → Int) (se : Nat → Int) (wo2 : Nat) (wl2 : Nat) (wb2 : Nat) (we2 : Nat) (wn2 : Nat) (wk2 : Nat) (wz2 : Int) (lt2 : Nat → Int) (sb2 : Nat → Int) (se2 : Nat → Int) (ra : Nat) (uf : Nat → Int) (cnt : Int) (sa : Nat) (hd : Nat → Option HD) (ix : Int) (dn : Bool) (hW : WR wn wk wz lt sb se) (hW2 : WR wn2 wk2 wz2 lt2 sb2 se2) (hw1 : (wn = 400 ∧ 401 ≤ 2 * wk) ∧ wn2 = 400 ∧ 401 ≤ 2 * wk2) (hHD : ∀ (r : Nat) (d : HD), hd r = some d → HDok d) (hcn : 0 ≤ cnt ∧ cnt ≤ 10) (hrow : ∀ k : Nat, (k : Int) < cnt → 0 ≤ uf k ∧ uf k ≤ 9 ∧ ∃ d, hd (uf k).toNat = some d) (hix : -2147483648 ≤ ix ∧ ix < 2147483648) : Met l y_S_sort (wsy y_S_sort b_S_sort 11 none) (rmd 6 0 0) (li_Pr (dC, dI) CL (TY kA) [.ref so, .ref ra, .int (iI cnt), .ref sa, .int (iI ix), .int (iI (bI dn))] (fun h => h.size = sz ∧ va_P (dC, dI) CL [(so, .inr (7, [.ref wo, .ref wo2])), (wo, .inr (9, [.ref wl, .ref wb, .ref we, .int (iI wz)])), (wl, .inl (kA 1, wn, .inl (aI lt))), (wb, .inl (kA 0, wk, .inl (aI sb))), (we, .inl (kA 0, wk, .inl (aI se))), (wo2, .inr (9, [.ref wl2, .ref wb2, .ref we2, .int (iI wz2)])), (wl2, .inl (kA 1, wn2, .inl (aI lt2))), (wb2, .inl (kA 0, wk2, .inl (aI sb2))), (we2, .inl (kA 0, wk2, .inl (aI se2))), (ra, .inl (kA 0, 10, .inl (aI uf)))] h ∧ va_D (fun q => dI 100 0 ≤ q) [(so, .inr (7, [.ref wo, .ref wo2])), (wo, .inr (9, [.ref wl, .ref wb, .ref we, .int (iI wz)])), (wl, .inl (kA 1, wn, .inl (aI lt))), (wb, .inl (kA 0, wk, .inl (aI sb))), (we, .inl (kA 0, wk, .inl (aI se))), (wo2, .inr (9, [.ref wl2, .ref wb2, .ref we2, .int (iI wz2)])), (wl2, .inl (kA 1, wn2, .inl (aI lt2))), (wb2, .inl (kA 0, wk2, .inl (aI sb2))), (we2, .inl (kA 0, wk2, .inl (aI se2))), (ra, .inl (kA 0, 10, .inl (aI uf)))] ∧ (fun h => (va_P (dC, dI) CL [(sa, .inl (kA 4, 10, .inr (.inr (.inr (.inr (shO hd))))))] h ∧ Dsj [(sa, .inl (kA 4, 10, .inr (.inr (.inr (.inr (shO hd))))))] [(so, .inr (7, [.ref wo, .ref wo2])), (wo, .inr (9, [.ref wl, .ref wb, .ref we, .int (iI wz)])), (wl, .inl (kA 1, wn, .inl (aI lt))), (wb, .inl (kA 0, wk, .inl (aI sb))), (we, .inl (kA 0, wk, .inl (aI se))), (wo2, .inr (9, [.ref wl2, .ref wb2, .ref we2, .int (iI wz2)])), (wl2, .inl (kA 1, wn2, .inl (aI lt2))), (wb2, .inl (kA 0, wk2, .inl (aI sb2))), (we2, .inl (kA 0, wk2, .inl (aI se2))), (ra, .inl (kA 0, 10, .inl (aI uf)))]) ∧ ShB (dC, dI) kA hd [(so, .inr (7, [.ref wo, .ref wo2])), (wo, .inr (9, [.ref wl, .ref wb, .ref we, .int (iI wz)])), (wl, .inl (kA 1, wn, .inl (aI lt))), (wb, .inl (kA 0, wk, .inl (aI sb))), (we, .inl (kA 0, wk, .inl (aI se))), (wo2, .inr (9, [.ref wl2, .ref wb2, .ref we2, .int (iI wz2)])), (wl2, .inl (kA 1, wn2, .inl (aI lt2))), (wb2, .inl (kA 0, wk2, .inl (aI sb2))), (we2, .inl (kA 0, wk2, .inl (aI se2))), (ra, .inl (kA 0, 10, .inl (aI uf)))] h) h)) (li_Qw (S := (Int) × (Nat → Int) × (Nat → Int) × (Nat → Int) × (Int) × (Nat → Int) × (Nat → Int) × (Nat → Int) × (Nat → Int)) (dC, dI) CL (fun u => (WR wn wk u.2.2.2.2.1 u.2.2.2.2.2.1 u.2.2.2.2.2.2.1 u.2.2.2.2.2.2.2.1 ∧ WR wn2 wk2 u.1 u.2.1 u.2.2.1 u.2.2.2.1) ∧ u.2.2.2.2.2.2.2.2 = soA (cmR hd ix dn) cnt uf ∧ (∀ k : Nat, (k : Int) < cnt → 0 ≤ u.2.2.2.2.2.2.2.2 k ∧ u.2.2.2.2.2.2.2.2 k ≤ 9 ∧ ∃ d, hd (u.2.2.2.2.2.2.2.2 k).toNat = some d)) (fun _ => none) (fun u => [(so, .inr (7, [.ref wo, .ref wo2])), (wo, .inr (9, [.ref wl, .ref wb, .ref we, .int (iI u.2.2.2.2.1)])), (wl, .inl (kA 1, wn, .inl (aI u.2.2.2.2.2.1))), (wb, .inl (kA 0, wk, .inl (aI u.2.2.2.2.2.2.1))), (we, .inl (kA 0, wk, .inl (aI u.2.2.2.2.2.2.2.1))), (wo2, .inr (9, [.ref wl2, .ref wb2, .ref we2, .int (iI u.1)])), (wl2, .inl (kA 1, wn2, .inl (aI u.2.1))), (wb2, .inl (kA 0, wk2, .inl (aI u.2.2.1))), (we2, .inl (kA 0, wk2, .inl (aI u.2.2.2.1))), (ra, .inl (kA 0, 10, .inl (aI u.2.2.2.2.2.2.2.2)))]) (va_A [(so, .inr (7, [.ref wo, .ref wo2])), (wo, .inr (9, [.ref wl, .ref wb, .ref we, .int (iI wz)])), (wl, .inl (kA 1, wn, .inl (aI lt))), (wb, .inl (kA 0, wk, .inl (aI sb))), (we, .inl (kA 0, wk, .inl (aI se))), (wo2, .inr (9, [.ref wl2, .ref wb2, .ref we2, .int (iI wz2)])), (wl2, .inl (kA 1, wn2, .inl (aI lt2))), (wb2, .inl (kA 0, wk2, .inl (aI sb2))), (we2, .inl (kA 0, wk2, .inl (aI se2))), (ra, .inl (kA 0, 10, .inl (aI uf)))] sz)) 0 0 (va_A [(so, .inr (7, [.ref wo, .ref wo2])), (wo, .inr (9, [.ref wl, .ref wb, .ref we, .int (iI wz)])), (wl, .inl (kA 1, wn, .inl (aI lt))), (wb, .inl (kA 0, wk, .inl (aI sb))), (we, .inl (kA 0, wk, .inl (aI se))), (wo2, .inr (9, [.ref wl2, .ref wb2, .ref we2, .int (iI wz2)])), (wl2, .inl (kA 1, wn2, .inl (aI lt2))), (wb2, .inl (kA 0, wk2, .inl (aI sb2))), (we2, .inl (kA 0, wk2, .inl (aI se2))), (ra, .inl (kA 0, 10, .inl (aI uf)))] sz) := by
  refine li_mwv (by decide) (Nat.le_of_ble_eq_true rfl) ?_
  intro p e s m args below meth c Q A C hP hD hBx hK hN hG hA hAi hAN fin ls hl
  obtain ⟨hx, hb, hr, hml, hown, hts, hlocks, hin⟩ := C
  have hown : s.vm.findClass R_S = some m.cls := hown
  obtain ⟨hBx, hSh⟩ := hBx
  obtain ⟨hRo, hDj⟩ := hBx
  have hRo : va_P (dC, dI) CL [(sa, .inl (kA 4, 10, .inr (.inr (.inr (.inr (shO hd))))))] s.heap := hRo
  have hRoN := li_roN (A := A) hRo hDj hAi
  have hl : lv_has ls 11 [(0, .ref so), (1, .ref ra), (2, .int (iI cnt)), (3, .ref sa), (4, .int (iI ix)), (5, .int (iI (bI dn)))] := hl
  obtain ⟨hwn, hwk, hwz, hlt, hsb, hse⟩ := id hW
  obtain ⟨hwn2, hwk2, hwz2, hlt2, hsb2, hse2⟩ := id hW2
  suffices h9 : ∀ (H : Heap) (locs : List Loc), H = s.heap → locs = [] → W p l e (rmd 6 0 0) s m args below meth c H locs 0 0 Q (F0 m 0 ls []) from h9 _ _ rfl rfl
  intro H locs eH eL
  have hP : va_P (dC, dI) CL [(so, .inr (7, [.ref wo, .ref wo2])), (wo, .inr (9, [.ref wl, .ref wb, .ref we, .int (iI wz)])), (wl, .inl (kA 1, wn, .inl (aI lt))), (wb, .inl (kA 0, wk, .inl (aI sb))), (we, .inl (kA 0, wk, .inl (aI se))), (wo2, .inr (9, [.ref wl2, .ref wb2, .ref we2, .int (iI wz2)])), (wl2, .inl (kA 1, wn2, .inl (aI lt2))), (wb2, .inl (kA 0, wk2, .inl (aI sb2))), (we2, .inl (kA 0, wk2, .inl (aI se2))), (ra, .inl (kA 0, 10, .inl (aI uf)))] H := by rw [eH]; exact hP
  have hS : va_S A s.heap H locs := by rw [eH, eL]; exact va_S.rf
  refine lv_iconst (v := iI 1) hx hb d_S_sort_0 rfl ?_
  refine lv_istore (lv' := [(6, .int (iI 1)), (0, .ref so), (1, .ref ra), (2, .int (iI cnt)), (3, .ref sa), (4, .int (iI ix)), (5, .int (iI (bI dn)))]) hx hb d_S_sort_1 hl (by decide) rfl (fun ls hl => ?_)
  have K_3 : ∀ (nn_3 : Nat) (i : Int) (vf : Nat → Int) (vz : Int) (vl : Nat → Int) (vb : Nat → Int) (ve : Nat → Int) (uz : Int) (vu : Nat → Int) (vv : Nat → Int) (vw : Nat → Int), (1 ≤ i ∧ (i = 1 ∨ i ≤ cnt)) → (WR wn wk uz vu vv vw) → (WR wn2 wk2 vz vl vb ve) → (∀ k : Nat, (k : Int) < cnt → 0 ≤ vf k ∧ vf k ≤ 9 ∧ ∃ d, hd (vf k).toNat = some d) → (soS (cmR hd ix dn) (cnt - i).toNat i vf = soA (cmR hd ix dn) cnt uf) → ((cnt - (i : Int)).toNat < nn_3) → ∀ (H : Heap) (locs : List Loc), va_P (dC, dI) CL [(so, .inr (7, [.ref wo, .ref wo2])), (wo, .inr (9, [.ref wl, .ref wb, .ref we, .int (iI uz)])), (wl, .inl (kA 1, wn, .inl (aI vu))), (wb, .inl (kA 0, wk, .inl (aI vv))), (we, .inl (kA 0, wk, .inl (aI vw))), (wo2, .inr (9, [.ref wl2, .ref wb2, .ref we2, .int (iI vz)])), (wl2, .inl (kA 1, wn2, .inl (aI vl))), (wb2, .inl (kA 0, wk2, .inl (aI vb))), (we2, .inl (kA 0, wk2, .inl (aI ve))), (ra, .inl (kA 0, 10, .inl (aI vf)))] H → va_D A [(so, .inr (7, [.ref wo, .ref wo2])), (wo, .inr (9, [.ref wl, .ref wb, .ref we, .int (iI uz)])), (wl, .inl (kA 1, wn, .inl (aI vu))), (wb, .inl (kA 0, wk, .inl (aI vv))), (we, .inl (kA 0, wk, .inl (aI vw))), (wo2, .inr (9, [.ref wl2, .ref wb2, .ref we2, .int (iI vz)])), (wl2, .inl (kA 1, wn2, .inl (aI vl))), (wb2, .inl (kA 0, wk2, .inl (aI vb))), (we2, .inl (kA 0, wk2, .inl (aI ve))), (ra, .inl (kA 0, 10, .inl (aI vf)))] → va_S A s.heap H locs → ∀ ls : Array Slot, lv_has ls 11 [(6, .int (iI i)), (0, .ref so), (1, .ref ra), (2, .int (iI cnt)), (3, .ref sa), (4, .int (iI ix)), (5, .int (iI (bI dn)))] → W p l e (rmd 6 0 0) s m args below meth c H locs 0 0 Q (F0 m 3 ls []) := by
    intro nn_3
    induction nn_3 with
    | zero => intro i vf vz vl vb ve uz vu vv vw hi9 hWa hWb hvr hres hm; exact absurd hm (Nat.not_lt_zero _)
    | succ nn_3 ih_3 =>
      intro i vf vz vl vb ve uz vu vv vw hi9 hWa hWb hvr hres hm_3 H locs hP hD hS ls hl
      refine lv_iload hx hb d_S_sort_3 (lv_at hl 0 rfl) ?_
      refine lv_iload_n hx hb d_S_sort_5 rfl (lv_at hl 3 rfl) ?_
      refine li_icmp_ge (tgt := 101) hx hb d_S_sort_6 (by decide) (by omega) (by omega) (fun c1 => ?_) (fun c1 => ?_)
      · have _q := c1
        rw [show (cnt - i).toNat = 0 by omega] at hres
        simp only [soS] at hres
        exact fin (vz, vl, vb, ve, uz, vu, vv, vw, vf) _ _ _ _ (by show (WR wn wk uz vu vv vw ∧ WR wn2 wk2 vz vl vb ve) ∧ vf = soA (cmR hd ix dn) cnt uf ∧ (∀ k : Nat, (k : Int) < cnt → 0 ≤ vf k ∧ vf k ≤ 9 ∧ ∃ d, hd (vf k).toNat = some d); exact ⟨⟨hWa, hWb⟩, hres, hvr⟩) (by first | exact hP | (subst_vars; exact hP)) (by first | exact hD | (subst_vars; exact hD)) hS d_S_sort_101
      · have _q := c1
        rw [show (cnt - i).toNat = (cnt - (i + 1)).toNat + 1 by omega] at hres
        simp only [soS] at hres
        refine lv_iload hx hb d_S_sort_9 (lv_at hl 0 rfl) ?_
        refine lv_aload_n hx hb d_S_sort_11 rfl (lv_at hl 2 rfl) ?_
        refine li_alen hx hb hK hP 9 0 rfl rfl d_S_sort_12 ?_
        refine li_icmp_ge (tgt := 101) hx hb d_S_sort_13 (by decide) (by omega) (by omega) (fun c2 => ?_) (fun c2 => ?_)
        · have _q := c2
          exact absurd c2 (by omega)
        · have _q := c2
          refine lv_iload hx hb d_S_sort_16 (lv_at hl 0 rfl) ?_
          refine lv_istore (lv' := [(7, .int (iI i)), (6, .int (iI i)), (0, .ref so), (1, .ref ra), (2, .int (iI cnt)), (3, .ref sa), (4, .int (iI ix)), (5, .int (iI (bI dn)))]) hx hb d_S_sort_18 hl (by decide) rfl (fun ls hl => ?_)
          have K_20 : ∀ (nn_20 : Nat) (j : Int) (vg : Nat → Int) (vz : Int) (vl : Nat → Int) (vb : Nat → Int) (ve : Nat → Int) (uz : Int) (vu : Nat → Int) (vv : Nat → Int) (vw : Nat → Int), (0 ≤ j ∧ j ≤ i) → (WR wn wk uz vu vv vw) → (WR wn2 wk2 vz vl vb ve) → (∀ k : Nat, (k : Int) < cnt → 0 ≤ vg k ∧ vg k ≤ 9 ∧ ∃ d, hd (vg k).toNat = some d) → (siL (cmR hd ix dn) j.toNat vg = siL (cmR hd ix dn) i.toNat vf) → (j.toNat < nn_20) → ∀ (H : Heap) (locs : List Loc), va_P (dC, dI) CL [(so, .inr (7, [.ref wo, .ref wo2])), (wo, .inr (9, [.ref wl, .ref wb, .ref we, .int (iI uz)])), (wl, .inl (kA 1, wn, .inl (aI vu))), (wb, .inl (kA 0, wk, .inl (aI vv))), (we, .inl (kA 0, wk, .inl (aI vw))), (wo2, .inr (9, [.ref wl2, .ref wb2, .ref we2, .int (iI vz)])), (wl2, .inl (kA 1, wn2, .inl (aI vl))), (wb2, .inl (kA 0, wk2, .inl (aI vb))), (we2, .inl (kA 0, wk2, .inl (aI ve))), (ra, .inl (kA 0, 10, .inl (aI vg)))] H → va_D A [(so, .inr (7, [.ref wo, .ref wo2])), (wo, .inr (9, [.ref wl, .ref wb, .ref we, .int (iI uz)])), (wl, .inl (kA 1, wn, .inl (aI vu))), (wb, .inl (kA 0, wk, .inl (aI vv))), (we, .inl (kA 0, wk, .inl (aI vw))), (wo2, .inr (9, [.ref wl2, .ref wb2, .ref we2, .int (iI vz)])), (wl2, .inl (kA 1, wn2, .inl (aI vl))), (wb2, .inl (kA 0, wk2, .inl (aI vb))), (we2, .inl (kA 0, wk2, .inl (aI ve))), (ra, .inl (kA 0, 10, .inl (aI vg)))] → va_S A s.heap H locs → ∀ ls : Array Slot, lv_has ls 11 [(7, .int (iI j)), (6, .int (iI i)), (0, .ref so), (1, .ref ra), (2, .int (iI cnt)), (3, .ref sa), (4, .int (iI ix)), (5, .int (iI (bI dn)))] → W p l e (rmd 6 0 0) s m args below meth c H locs 0 0 Q (F0 m 20 ls []) := by
            intro nn_20
            induction nn_20 with
            | zero => intro j vg vz vl vb ve uz vu vv vw hj9 hWa hWb hvs hin hm; exact absurd hm (Nat.not_lt_zero _)
            | succ nn_20 ih_20 =>
              intro j vg vz vl vb ve uz vu vv vw hj9 hWa hWb hvs hin hm_20 H locs hP hD hS ls hl
              refine lv_iload hx hb d_S_sort_20 (lv_at hl 0 rfl) ?_
              refine li_if_le (tgt := 95) hx hb d_S_sort_22 (by decide) (by omega) (fun c3 => ?_) (fun c3 => ?_)
              · have _q := c3
                rw [show j.toNat = 0 by omega] at hin
                simp only [siL] at hin
                obtain ⟨i_n, ei_n⟩ : ∃ y_9 : Int, y_9 = i + 1 := ⟨_, rfl⟩
                refine lv_iinc (v := iI i_n) (lv' := [(6, .int (iI i_n)), (7, .int (iI j)), (0, .ref so), (1, .ref ra), (2, .int (iI cnt)), (3, .ref sa), (4, .int (iI ix)), (5, .int (iI (bI dn)))]) hx hb d_S_sort_95 hl (k := 1) rfl (by rw [ei_n]; exact iI_add _ _) (by decide) rfl (fun ls hl => ?_)
                refine lv_goto (tgt := 3) hx hb d_S_sort_98 (by decide) ?_
                exact ih_3 i_n vg vz vl vb ve uz vu vv vw (by omega) (by first | exact hWa | exact hp56.1.1 | exact hW) (by first | exact hWb | exact hp56.1.2 | exact hW2) (by first | exact hvs | exact hrow) (by rw [ei_n, hin]; exact hres) (by omega) _ _ hP hD hS _ (lv_sub hl [0, 2, 3, 4, 5, 6, 7] rfl)
              · have _q := c3
                rw [show j.toNat = (j - 1).toNat + 1 by omega] at hin
                simp only [siL] at hin
                rw [show (j - 1).toNat + 1 = j.toNat by omega] at hin
                have hb1 := hvs j.toNat (by omega)
                have hb2 := hvs (j - 1).toNat (by omega)
                refine lv_aload_n hx hb d_S_sort_25 rfl (lv_at hl 5 rfl) ?_
                refine lv_aload_n hx hb d_S_sort_26 rfl (lv_at hl 3 rfl) ?_
                refine lv_iload hx hb d_S_sort_27 (lv_at hl 0 rfl) ?_
                refine li_iald hx hb hK hP 9 0 rfl rfl (by omega) (by omega) (by omega) d_S_sort_29 ?_
                refine li_callr ((va_runS (As := [.ref sa, .int (iI (vg j.toNat))]) (rest := []) ⟨hx, hb, hml, hown, hts⟩ (c_S_holdingOf l dC dI kA sa hd (vg j.toNat) (by omega)) (cw_S_23 hts rfl rfl ⟨Nat.le_of_ble_eq_true rfl, Nat.le_of_ble_eq_true rfl⟩) (li_preS ⟨((li_ro hRo hRoN hS).sub [0] rfl), fun r d h => li_ro (hSh r d h).1 (li_roN (A := A) (hSh r d h).1 (hSh r d h).2 hAi) hS⟩ hK hN (hG.go hS hAN)) rfl rfl hl.1 rfl (lv_room (Nat.le_of_ble_eq_true rfl)) d_S_sort_30 ⟨(by show 0 + 0 ≤ 0; omega), (by show 0 + 0 ≤ 0; omega)⟩).run) ?_
                obtain ⟨da, hda⟩ := (hvs j.toNat (by omega)).2.2
                refine li_rfS (a := da.ho) (shO_s hda) ?_
                obtain ⟨hR_da, hJ_da⟩ := hSh _ da hda
                have hN_da := li_roN (A := A) hR_da hJ_da hAi
                refine lv_astore (lv' := [(8, .ref da.ho), (7, .int (iI j)), (6, .int (iI i)), (0, .ref so), (1, .ref ra), (2, .int (iI cnt)), (3, .ref sa), (4, .int (iI ix)), (5, .int (iI (bI dn)))]) hx hb d_S_sort_33 hl (by decide) rfl (fun ls hl => ?_)
                refine lv_aload_n hx hb d_S_sort_35 rfl (lv_at hl 6 rfl) ?_
                refine lv_aload_n hx hb d_S_sort_36 rfl (lv_at hl 4 rfl) ?_
                refine lv_iload hx hb d_S_sort_37 (lv_at hl 1 rfl) ?_
                refine lv_iconst (v := iI 1) hx hb d_S_sort_39 rfl ?_
                refine li_isub hx hb d_S_sort_40 ?_
                refine li_iald hx hb hK hP 9 0 rfl rfl (by omega) (by omega) (by omega) d_S_sort_41 ?_
                refine li_callr ((va_runS (As := [.ref sa, .int (iI (vg ((j - 1).toNat)))]) (rest := []) ⟨hx, hb, hml, hown, hts⟩ (c_S_holdingOf l dC dI kA sa hd (vg ((j - 1).toNat)) (by omega)) (cw_S_23 hts rfl rfl ⟨Nat.le_of_ble_eq_true rfl, Nat.le_of_ble_eq_true rfl⟩) (li_preS ⟨((li_ro hRo hRoN hS).sub [0] rfl), fun r d h => li_ro (hSh r d h).1 (li_roN (A := A) (hSh r d h).1 (hSh r d h).2 hAi) hS⟩ hK hN (hG.go hS hAN)) rfl rfl hl.1 rfl (lv_room (Nat.le_of_ble_eq_true rfl)) d_S_sort_42 ⟨(by show 0 + 0 ≤ 0; omega), (by show 0 + 0 ≤ 0; omega)⟩).run) ?_
                obtain ⟨db, hdb⟩ := (hvs (j - 1).toNat (by omega)).2.2
                refine li_rfS (a := db.ho) (shO_s hdb) ?_
                obtain ⟨hR_db, hJ_db⟩ := hSh _ db hdb
                have hN_db := li_roN (A := A) hR_db hJ_db hAi
                refine lv_astore (lv' := [(9, .ref db.ho), (8, .ref da.ho), (7, .int (iI j)), (6, .int (iI i)), (0, .ref so), (1, .ref ra), (2, .int (iI cnt)), (3, .ref sa), (4, .int (iI ix)), (5, .int (iI (bI dn)))]) hx hb d_S_sort_45 hl (by decide) rfl (fun ls hl => ?_)
                refine lv_aload_n hx hb d_S_sort_47 rfl (lv_at hl 4 rfl) ?_
                refine lv_aload hx hb d_S_sort_48 (lv_at hl 1 rfl) ?_
                refine lv_aload hx hb d_S_sort_50 (lv_at hl 0 rfl) ?_
                refine lv_iload hx hb d_S_sort_52 (lv_at hl 8 rfl) ?_
                refine lv_iload hx hb d_S_sort_54 (lv_at hl 9 rfl) ?_
                refine li_callw (wc := [(so, .inr (7, [.ref wo, .ref wo2])), (wo, .inr (9, [.ref wl, .ref wb, .ref we, .int (iI uz)])), (wl, .inl (kA 1, wn, .inl (aI vu))), (wb, .inl (kA 0, wk, .inl (aI vv))), (we, .inl (kA 0, wk, .inl (aI vw))), (wo2, .inr (9, [.ref wl2, .ref wb2, .ref we2, .int (iI vz)])), (wl2, .inl (kA 1, wn2, .inl (aI vl))), (wb2, .inl (kA 0, wk2, .inl (aI vb))), (we2, .inl (kA 0, wk2, .inl (aI ve)))]) (wr := [(ra, .inl (kA 0, 10, .inl (aI vg)))]) (va_runV (As := [.ref da.ho, .ref db.ho, .int (iI ix), .int (iI (bI dn))]) (rest := []) ⟨hx, hb, hml, hown, hts⟩ (c_S_compare l dC dI kA H.size so wo wl wb we wn wk uz vu vv vw wo2 wl2 wb2 we2 wn2 wk2 vz vl vb ve da db ix dn (by exact hWa) (by exact hWb) (by exact hw1) (by exact hHD _ _ hda) (by exact hHD _ _ hdb) (by exact hix)) (cw_S_27 hts rfl rfl ⟨Nat.le_of_ble_eq_true rfl, Nat.le_of_ble_eq_true rfl⟩) (li_preV (va_recv hK hP (ci := 7) (q0 := 0) rfl rfl) ⟨rfl, hP.sub [0, 1, 2, 3, 4, 5, 6, 7, 8] rfl, (hD.sub [0, 1, 2, 3, 4, 5, 6, 7, 8] (by decide) rfl).weaken (fun _ _ _ h => hAN _ h), (va_P.app ((li_ro hR_da hN_da hS).sub [0] rfl) (va_P.app ((li_ro hR_da hN_da hS).sub [1] rfl) (va_P.app ((li_ro hR_da hN_da hS).sub [2] rfl) (va_P.app ((li_ro hR_da hN_da hS).sub [3] rfl) (va_P.app ((li_ro hR_da hN_da hS).sub [4] rfl) (va_P.app ((li_ro hR_da hN_da hS).sub [5] rfl) (va_P.app ((li_ro hR_db hN_db hS).sub [0] rfl) (va_P.app ((li_ro hR_db hN_db hS).sub [1] rfl) (va_P.app ((li_ro hR_db hN_db hS).sub [2] rfl) (va_P.app ((li_ro hR_db hN_db hS).sub [3] rfl) (va_P.app ((li_ro hR_db hN_db hS).sub [4] rfl) ((li_ro hR_db hN_db hS).sub [5] rfl)))))))))))), (dj_cons (dj_r (hN_da 0 _ rfl) hD [0, 1, 2, 3, 4, 5, 6, 7, 8] rfl) (dj_cons (dj_r (hN_da 1 _ rfl) hD [0, 1, 2, 3, 4, 5, 6, 7, 8] rfl) (dj_cons (dj_r (hN_da 2 _ rfl) hD [0, 1, 2, 3, 4, 5, 6, 7, 8] rfl) (dj_cons (dj_r (hN_da 3 _ rfl) hD [0, 1, 2, 3, 4, 5, 6, 7, 8] rfl) (dj_cons (dj_r (hN_da 4 _ rfl) hD [0, 1, 2, 3, 4, 5, 6, 7, 8] rfl) (dj_cons (dj_r (hN_da 5 _ rfl) hD [0, 1, 2, 3, 4, 5, 6, 7, 8] rfl) (dj_cons (dj_r (hN_db 0 _ rfl) hD [0, 1, 2, 3, 4, 5, 6, 7, 8] rfl) (dj_cons (dj_r (hN_db 1 _ rfl) hD [0, 1, 2, 3, 4, 5, 6, 7, 8] rfl) (dj_cons (dj_r (hN_db 2 _ rfl) hD [0, 1, 2, 3, 4, 5, 6, 7, 8] rfl) (dj_cons (dj_r (hN_db 3 _ rfl) hD [0, 1, 2, 3, 4, 5, 6, 7, 8] rfl) (dj_cons (dj_r (hN_db 4 _ rfl) hD [0, 1, 2, 3, 4, 5, 6, 7, 8] rfl) (dj_cons (dj_r (hN_db 5 _ rfl) hD [0, 1, 2, 3, 4, 5, 6, 7, 8] rfl) dj_nil))))))))))))⟩ hK hN (hG.go hS hAN)) rfl rfl hl.1 rfl (lv_room (Nat.le_of_ble_eq_true rfl)) d_S_sort_56 ⟨(by show 0 + 0 ≤ 0; omega), (by show 0 + 0 ≤ 0; omega)⟩) hP hD hS hA [0, 1, 2, 3, 4, 5, 6, 7, 8] [9] rfl rfl (by decide) (by decide) (fun u4 H locs hu4 hP hD hS _hk => ?_)
                obtain ⟨c_z, c_l, c_b, c_e, d_z, d_l, d_b, d_e⟩ := u4
                have hP : va_P (dC, dI) CL [(ra, .inl (kA 0, 10, .inl (aI vg))), (so, .inr (7, [.ref wo, .ref wo2])), (wo, .inr (9, [.ref wl, .ref wb, .ref we, .int (iI d_z)])), (wl, .inl (kA 1, wn, .inl (aI d_l))), (wb, .inl (kA 0, wk, .inl (aI d_b))), (we, .inl (kA 0, wk, .inl (aI d_e))), (wo2, .inr (9, [.ref wl2, .ref wb2, .ref we2, .int (iI c_z)])), (wl2, .inl (kA 1, wn2, .inl (aI c_l))), (wb2, .inl (kA 0, wk2, .inl (aI c_b))), (we2, .inl (kA 0, wk2, .inl (aI c_e)))] H := hP
                have hD : va_D A [(ra, .inl (kA 0, 10, .inl (aI vg))), (so, .inr (7, [.ref wo, .ref wo2])), (wo, .inr (9, [.ref wl, .ref wb, .ref we, .int (iI d_z)])), (wl, .inl (kA 1, wn, .inl (aI d_l))), (wb, .inl (kA 0, wk, .inl (aI d_b))), (we, .inl (kA 0, wk, .inl (aI d_e))), (wo2, .inr (9, [.ref wl2, .ref wb2, .ref we2, .int (iI c_z)])), (wl2, .inl (kA 1, wn2, .inl (aI c_l))), (wb2, .inl (kA 0, wk2, .inl (aI c_b))), (we2, .inl (kA 0, wk2, .inl (aI c_e)))] := hD
                have hp56 : (WR wn wk d_z d_l d_b d_e ∧ WR wn2 wk2 c_z c_l c_b c_e) ∧ -1000000 ≤ scF ix dn da db ∧ scF ix dn da db ≤ 1000000 := hu4
                have hcm : cmR hd ix dn (vg j.toNat) (vg (j - 1).toNat) = scF ix dn da db := by (unfold cmR; rw [hda, hdb])
                refine W.eq (g2 := F0 m 59 ls [.int (iI (scF ix dn da db))]) rfl ?_
                refine li_if_lt (tgt := 65) hx hb d_S_sort_59 (by decide) (by have h8 := hp56.2; omega) (fun c5 => ?_) (fun c5 => ?_)
                · have _q := c5
                  rw [hcm, if_pos (by omega)] at hin
                  refine lv_aload_n hx hb d_S_sort_65 rfl (lv_at hl 5 rfl) ?_
                  refine lv_iload hx hb d_S_sort_66 (lv_at hl 2 rfl) ?_
                  refine li_iald hx hb hK hP 0 0 rfl rfl (by omega) (by omega) (by omega) d_S_sort_68 ?_
                  refine li_nm (fun rq erq => ?_)
                  refine lv_istore (lv' := [(10, .int (iI rq)), (9, .ref db.ho), (8, .ref da.ho), (7, .int (iI j)), (6, .int (iI i)), (0, .ref so), (1, .ref ra), (2, .int (iI cnt)), (3, .ref sa), (4, .int (iI ix)), (5, .int (iI (bI dn)))]) hx hb d_S_sort_69 hl (by decide) rfl (fun ls hl => ?_)
                  refine lv_aload_n hx hb d_S_sort_71 rfl (lv_at hl 6 rfl) ?_
                  refine lv_iload hx hb d_S_sort_72 (lv_at hl 3 rfl) ?_
                  refine lv_aload_n hx hb d_S_sort_74 rfl (lv_at hl 6 rfl) ?_
                  refine lv_iload hx hb d_S_sort_75 (lv_at hl 3 rfl) ?_
                  refine lv_iconst (v := iI 1) hx hb d_S_sort_77 rfl ?_
                  refine li_isub hx hb d_S_sort_78 ?_
                  refine li_iald hx hb hK hP 0 0 rfl rfl (by omega) (by omega) (by omega) d_S_sort_79 ?_
                  refine li_iast hx hb hK hP hD hS 0 0 rfl rfl (by omega) (by omega) (by omega) d_S_sort_80 (fun H locs hP hD hS => ?_)
                  have hP : va_P (dC, dI) CL [(ra, .inl (kA 0, 10, .inl (aI (va_up vg j.toNat (vg ((j - 1).toNat)))))), (so, .inr (7, [.ref wo, .ref wo2])), (wo, .inr (9, [.ref wl, .ref wb, .ref we, .int (iI d_z)])), (wl, .inl (kA 1, wn, .inl (aI d_l))), (wb, .inl (kA 0, wk, .inl (aI d_b))), (we, .inl (kA 0, wk, .inl (aI d_e))), (wo2, .inr (9, [.ref wl2, .ref wb2, .ref we2, .int (iI c_z)])), (wl2, .inl (kA 1, wn2, .inl (aI c_l))), (wb2, .inl (kA 0, wk2, .inl (aI c_b))), (we2, .inl (kA 0, wk2, .inl (aI c_e)))] H := hP
                  have hD : va_D A [(ra, .inl (kA 0, 10, .inl (aI (va_up vg j.toNat (vg ((j - 1).toNat)))))), (so, .inr (7, [.ref wo, .ref wo2])), (wo, .inr (9, [.ref wl, .ref wb, .ref we, .int (iI d_z)])), (wl, .inl (kA 1, wn, .inl (aI d_l))), (wb, .inl (kA 0, wk, .inl (aI d_b))), (we, .inl (kA 0, wk, .inl (aI d_e))), (wo2, .inr (9, [.ref wl2, .ref wb2, .ref we2, .int (iI c_z)])), (wl2, .inl (kA 1, wn2, .inl (aI c_l))), (wb2, .inl (kA 0, wk2, .inl (aI c_b))), (we2, .inl (kA 0, wk2, .inl (aI c_e)))] := hD
                  refine lv_aload_n hx hb d_S_sort_81 rfl (lv_at hl 6 rfl) ?_
                  refine lv_iload hx hb d_S_sort_82 (lv_at hl 3 rfl) ?_
                  refine lv_iconst (v := iI 1) hx hb d_S_sort_84 rfl ?_
                  refine li_isub hx hb d_S_sort_85 ?_
                  refine lv_iload hx hb d_S_sort_86 (lv_at hl 0 rfl) ?_
                  refine li_iast hx hb hK hP hD hS 0 0 rfl rfl (by omega) (by omega) (by omega) d_S_sort_88 (fun H locs hP hD hS => ?_)
                  have hP : va_P (dC, dI) CL [(ra, .inl (kA 0, 10, .inl (aI (va_up (va_up vg j.toNat (vg ((j - 1).toNat))) ((j - 1).toNat) rq)))), (so, .inr (7, [.ref wo, .ref wo2])), (wo, .inr (9, [.ref wl, .ref wb, .ref we, .int (iI d_z)])), (wl, .inl (kA 1, wn, .inl (aI d_l))), (wb, .inl (kA 0, wk, .inl (aI d_b))), (we, .inl (kA 0, wk, .inl (aI d_e))), (wo2, .inr (9, [.ref wl2, .ref wb2, .ref we2, .int (iI c_z)])), (wl2, .inl (kA 1, wn2, .inl (aI c_l))), (wb2, .inl (kA 0, wk2, .inl (aI c_b))), (we2, .inl (kA 0, wk2, .inl (aI c_e)))] H := hP
                  have hD : va_D A [(ra, .inl (kA 0, 10, .inl (aI (va_up (va_up vg j.toNat (vg ((j - 1).toNat))) ((j - 1).toNat) rq)))), (so, .inr (7, [.ref wo, .ref wo2])), (wo, .inr (9, [.ref wl, .ref wb, .ref we, .int (iI d_z)])), (wl, .inl (kA 1, wn, .inl (aI d_l))), (wb, .inl (kA 0, wk, .inl (aI d_b))), (we, .inl (kA 0, wk, .inl (aI d_e))), (wo2, .inr (9, [.ref wl2, .ref wb2, .ref we2, .int (iI c_z)])), (wl2, .inl (kA 1, wn2, .inl (aI c_l))), (wb2, .inl (kA 0, wk2, .inl (aI c_b))), (we2, .inl (kA 0, wk2, .inl (aI c_e)))] := hD
                  obtain ⟨j_n, ej_n⟩ : ∃ y_9 : Int, y_9 = j + (-1) := ⟨_, rfl⟩
                  refine lv_iinc (v := iI j_n) (lv' := [(7, .int (iI j_n)), (10, .int (iI rq)), (9, .ref db.ho), (8, .ref da.ho), (6, .int (iI i)), (0, .ref so), (1, .ref ra), (2, .int (iI cnt)), (3, .ref sa), (4, .int (iI ix)), (5, .int (iI (bI dn)))]) hx hb d_S_sort_89 hl (k := 3) rfl (by rw [ej_n]; exact iI_add _ _) (by decide) rfl (fun ls hl => ?_)
                  refine lv_goto (tgt := 20) hx hb d_S_sort_92 (by decide) ?_
                  exact ih_20 j_n (va_up (va_up vg j.toNat (vg ((j - 1).toNat))) ((j - 1).toNat) rq) c_z c_l c_b c_e d_z d_l d_b d_e (by omega) (by exact hp56.1.1) (by exact hp56.1.2) (by intro k hk; unfold va_up; exact if q8 : k = (j - 1).toNat then (by rw [if_pos q8, erq]; exact hb1) else if q9 : k = j.toNat then (by rw [if_neg q8, if_pos q9]; exact hb2) else (by rw [if_neg q8, if_neg q9]; exact hvs k hk)) (by rw [ej_n, show j + -1 = j - 1 by omega, erq]; exact hin) (by omega) _ _ (hP.sub [1, 2, 3, 4, 5, 6, 7, 8, 9, 0] rfl) (hD.sub [1, 2, 3, 4, 5, 6, 7, 8, 9, 0] (by decide) rfl) hS _ (lv_sub hl [0, 4, 5, 6, 7, 8, 9, 10] rfl)
                · have _q := c5
                  rw [hcm, if_neg (by omega)] at hin
                  refine lv_goto (tgt := 95) hx hb d_S_sort_62 (by decide) ?_
                  obtain ⟨i_n, ei_n⟩ : ∃ y_9 : Int, y_9 = i + 1 := ⟨_, rfl⟩
                  refine lv_iinc (v := iI i_n) (lv' := [(6, .int (iI i_n)), (9, .ref db.ho), (8, .ref da.ho), (7, .int (iI j)), (0, .ref so), (1, .ref ra), (2, .int (iI cnt)), (3, .ref sa), (4, .int (iI ix)), (5, .int (iI (bI dn)))]) hx hb d_S_sort_95 hl (k := 3) rfl (by rw [ei_n]; exact iI_add _ _) (by decide) rfl (fun ls hl => ?_)
                  refine lv_goto (tgt := 3) hx hb d_S_sort_98 (by decide) ?_
                  exact ih_3 i_n vg c_z c_l c_b c_e d_z d_l d_b d_e (by omega) (by first | exact hWa | exact hp56.1.1 | exact hW) (by first | exact hWb | exact hp56.1.2 | exact hW2) (by first | exact hvs | exact hrow) (by rw [ei_n, hin]; exact hres) (by omega) _ _ (hP.sub [1, 2, 3, 4, 5, 6, 7, 8, 9, 0] rfl) (hD.sub [1, 2, 3, 4, 5, 6, 7, 8, 9, 0] (by decide) rfl) hS _ (lv_sub hl [0, 4, 5, 6, 7, 8, 9] rfl)
          exact K_20 (i.toNat + 1) i vf vz vl vb ve uz vu vv vw (by omega) (by exact hWa) (by exact hWb) (by exact hvr) (by rfl) (Nat.lt_succ_self _) _ _ hP hD hS _ (lv_sub hl [0, 1, 2, 3, 4, 5, 6, 7] rfl)
  exact K_3 ((cnt - (1 : Int)).toNat + 1) 1 uf wz2 lt2 sb2 se2 wz lt sb se (by omega) (by first | exact hWa | exact hp56.1.1 | exact hW) (by first | exact hWb | exact hp56.1.2 | exact hW2) (by first | exact hvs | exact hrow) (by rfl) (Nat.lt_succ_self _) _ _ hP hD hS _ (lv_sub hl [0, 1, 2, 3, 4, 5, 6] rfl)

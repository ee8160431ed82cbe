/-! the class: does a WORD match -/
def sgW (ch : Int) : Bool := decide (ch = 42 ∨ ch = 63)
/-- the table of reached places -/
def tbI (pf : Nat → Int) : Nat → Bool
  | 0 => true
  | q + 1 => tbI pf q && decide (pf q = 42)
def tbS (pf : Nat → Int) (ch : Int) (f : Nat → Bool) : Nat → Bool
  | 0 => false
  | q + 1 => if pf q = 42 then f (q + 1) || tbS pf ch f q else f q && decide (pf q = 63 ∨ pf q = ch)
def tbG (pf pg : Nat → Int) : Nat → Nat → Bool
  | 0 => tbI pf
  | n + 1 => tbS pf (pg n) (tbG pf pg n)
def tbL (a w : List Int) : Bool := tbG (fun k => a.getD k 0) (fun k => w.getD k 0) w.length a.length
theorem tbS_e {pf : Nat → Int} {ch v : Int} {f : Nat → Bool} {q : Nat} (hv : pf q = v) : tbS pf ch f (q + 1) = if v = 42 then f (q + 1) || tbS pf ch f q else f q && decide (v = 63 ∨ v = ch) := by subst hv; rfl
theorem tbI_e {pf : Nat → Int} {v : Int} {q : Nat} (hv : pf q = v) : tbI pf (q + 1) = (tbI pf q && decide (v = 42)) := by subst hv; rfl
theorem tbI_c {pf pf2 : Nat → Int} : ∀ q : Nat, (∀ k, k < q → pf k = pf2 k) → tbI pf q = tbI pf2 q := by
  intro q
  induction q with
  | zero => intro _; rfl
  | succ q ih => intro h; simp only [tbI]; rw [ih (fun k hk => h k (by omega)), h q (by omega)]
theorem tbS_c {pf pf2 : Nat → Int} {ch : Int} {f g : Nat → Bool} : ∀ q : Nat, (∀ k, k < q → pf k = pf2 k) → (∀ k, k ≤ q → f k = g k) → tbS pf ch f q = tbS pf2 ch g q := by
  intro q
  induction q with
  | zero => intro _ _; rfl
  | succ q ih => intro h h2; simp only [tbS]; rw [ih (fun k hk => h k (by omega)) (fun k hk => h2 k (by omega)), h q (by omega), h2 q (by omega), h2 (q + 1) (by omega)]
theorem tbG_c {pf pf2 pg pg2 : Nat → Int} : ∀ (n q : Nat), (∀ k, k < q → pf k = pf2 k) → (∀ k, k < n → pg k = pg2 k) → tbG pf pg n q = tbG pf2 pg2 n q := by
  intro n
  induction n with
  | zero => intro q h _; exact tbI_c q h
  | succ n ih =>
    intro q h h2
    simp only [tbG]
    rw [h2 n (by omega)]
    exact tbS_c q h (fun k hk => ih k (fun j hj => h j (by omega)) (fun j hj => h2 j (by omega)))
def mtW (a w : List Int) : Bool := if a.any sgW = true then tbL a w else decide (cmpW a w = 0)
theorem wdL_get {lt : Nat → Int} {a b : Int} {k : Nat} (h : k < (b - a).toNat) : (wdL lt a b).getD k 0 = lt (a.toNat + k) := by
  unfold wdL
  rw [List.getD_eq_getElem?_getD, List.getElem?_map, List.getElem?_range h]; rfl
theorem WL.get {ws : List (List Int)} {wz : Int} {lt sb se : Nat → Int} (h : WL ws wz lt sb se) {i : Int} (h0 : 0 ≤ i) (h1 : i < wz) : wdL lt (sb i.toNat) (se i.toNat) = ws.getD i.toNat [] ∧ 0 ≤ sb i.toNat ∧ sb i.toNat ≤ se i.toNat := by
  obtain ⟨e1, e2⟩ := h
  have hj : i.toNat < ws.length := by omega
  have := e2 i.toNat hj
  rw [List.getD_eq_getElem?_getD, List.getElem?_eq_getElem hj]
  exact this
theorem WL.len {ws : List (List Int)} {wz : Int} {lt sb se : Nat → Int} (h : WL ws wz lt sb se) : (ws.length : Int) = wz := h.1.symm
theorem WL.drop {ws : List (List Int)} {wz : Int} {lt sb se : Nat → Int} (h : WL ws wz lt sb se) {i : Int} (h0 : 0 ≤ i) (h1 : i < wz) : ws.drop i.toNat = ws.getD i.toNat [] :: ws.drop (i + 1).toNat := by
  have hj : i.toNat < ws.length := by have := h.1; omega
  rw [List.getD_eq_getElem?_getD, List.getElem?_eq_getElem hj, List.drop_eq_getElem_cons hj, show (i + 1).toNat = i.toNat + 1 by omega]; rfl
theorem WL.dropE {ws : List (List Int)} {wz : Int} {lt sb se : Nat → Int} (h : WL ws wz lt sb se) {i : Int} (h1 : wz ≤ i) : ws.drop i.toNat = [] := List.drop_eq_nil_of_le (by have := h.1; omega)
theorem sgL_W {t : Nat → Int} : ∀ (n i : Nat), sgL t n i = (wdN t i n).any sgW := by
  intro n
  induction n with
  | zero => intro i; rfl
  | succ n ih => intro i; rw [wdN_s, List.any_cons]; simp only [sgL]; rw [ih]; rfl
theorem wdL_N {t : Nat → Int} {a b : Int} : wdL t a b = wdN t a.toNat (b - a).toNat := rfl
theorem hsF_W {ws : List (List Int)} {wz : Int} {lt sb se : Nat → Int} (h : WL ws wz lt sb se) {i : Int} (h0 : 0 ≤ i) (h1 : i < wz) : hsF wz lt sb se i = (ws.getD i.toNat []).any sgW := by
  unfold hsF
  rw [if_pos ⟨h0, h1⟩, sgL_W, ← (h.get h0 h1).1, wdL_N]
theorem cwF_W {wn wk : Nat} {wz : Int} {lt sb se : Nat → Int} {i : Int} {wn2 wk2 : Nat} {wz2 : Int} {lt2 sb2 se2 : Nat → Int} {j : Int} {ws ws2 : List (List Int)} (hR : WR wn wk wz lt sb se) (hR2 : WR wn2 wk2 wz2 lt2 sb2 se2) (h : WL ws wz lt sb se) (h2 : WL ws2 wz2 lt2 sb2 se2) (hi : 0 ≤ i ∧ i < wz) (hj : 0 ≤ j ∧ j < wz2) : cwF wn wz lt sb se i wn2 wz2 lt2 sb2 se2 j = cmpW (ws.getD i.toNat []) (ws2.getD j.toNat []) := by
  unfold cwF
  have e1 := h.get hi.1 hi.2
  have e2 := h2.get hj.1 hj.2
  obtain ⟨-, -, -, -, -, he⟩ := hR
  obtain ⟨-, -, -, -, -, he2⟩ := hR2
  have f1 := he i.toNat
  have f2 := he2 j.toNat
  rw [if_pos (by omega), cmpF_W (by omega) (by omega), e1.1, e2.1]
def prW : List (List Int) → List (List Int) → Bool
  | [], _ => true
  | _ :: _, [] => false
  | a :: as, w :: ws => mtW a w && prW as ws
def adW (as : List (List Int)) : List (List Int) → Bool
  | [] => prW as []
  | w :: ws => prW as (w :: ws) || adW as ws
theorem prW_short : ∀ (as ws : List (List Int)), ws.length < as.length → prW as ws = false := by
  intro as
  induction as with
  | nil => intro ws h; simp at h
  | cons a as ih =>
    intro ws h
    cases ws with
    | nil => rfl
    | cons w ws => simp only [prW]; rw [ih ws (by simp at h; omega)]; simp
theorem adW_short (as : List (List Int)) : ∀ ws : List (List Int), ws.length < as.length → adW as ws = false := by
  intro ws
  induction ws with
  | nil => intro h; exact prW_short as [] h
  | cons w ws ih => intro h; simp only [adW]; rw [prW_short as (w :: ws) h, ih (by simp at h; omega)]; rfl
def ioW (b : Bool) (as ws : List (List Int)) : Bool := if b = true then decide (ws.length = as.length) && prW as ws else adW as ws
/-- TEXTS of a RECORD of the class in an INDEX -/
def txL (ti ts te tl : Nat → Int) (tc ix : Int) : Nat → Int → List (Int × Int)
  | 0, _ => []
  | k + 1, i => if txIn ti tc i ix = true then (txSt ts te tl tc i ix, txEn te tc i) :: txL ti ts te tl tc ix k (i + 1) else txL ti ts te tl tc ix k (i + 1)
def txs (d : HD) (ix : Int) : List (Int × Int) := txL d.ti d.ts d.te d.tl d.tc ix d.tc.toNat 0
def twF (t : Nat → Int) (q : Int × Int) : List (List Int) := wsF t false q.1 q.2
def thW (t : Nat → Int) (ts : List (Int × Int)) (a : List Int) : Bool := ts.any (fun q => (twF t q).any (mtW a))

theorem d_J_readLetter_0 : decode b_J_readLetter 0 = .ok (.aload_n 0, 1) := by decide +kernel
theorem d_J_readLetter_1 : decode b_J_readLetter 1 = .ok (.getfield 27, 3) := by decide +kernel
theorem d_J_readLetter_4 : decode b_J_readLetter 4 = .ok (.iconst 0, 1) := by decide +kernel
theorem d_J_readLetter_5 : decode b_J_readLetter 5 = .ok (.baload, 1) := by decide +kernel
theorem d_J_readLetter_6 : decode b_J_readLetter 6 = .ok (.istore 4, 2) := by decide +kernel
theorem d_J_readLetter_8 : decode b_J_readLetter 8 = .ok (.aload_n 0, 1) := by decide +kernel
theorem d_J_readLetter_9 : decode b_J_readLetter 9 = .ok (.getfield 27, 3) := by decide +kernel
theorem d_J_readLetter_12 : decode b_J_readLetter 12 = .ok (.iconst 0, 1) := by decide +kernel
theorem d_J_readLetter_13 : decode b_J_readLetter 13 = .ok (.iconst 0, 1) := by decide +kernel
theorem d_J_readLetter_14 : decode b_J_readLetter 14 = .ok (.bastore, 1) := by decide +kernel
theorem d_J_readLetter_15 : decode b_J_readLetter 15 = .ok (.iconst 1, 1) := by decide +kernel
theorem d_J_readLetter_16 : decode b_J_readLetter 16 = .ok (.istore 5, 2) := by decide +kernel
theorem d_J_readLetter_18 : decode b_J_readLetter 18 = .ok (.iload 5, 2) := by decide +kernel
theorem d_J_readLetter_20 : decode b_J_readLetter 20 = .ok (.iload_n 3, 1) := by decide +kernel
theorem d_J_readLetter_21 : decode b_J_readLetter 21 = .ok (.if_icmp .gt 107, 3) := by decide +kernel
theorem d_J_readLetter_24 : decode b_J_readLetter 24 = .ok (.aload_n 0, 1) := by decide +kernel
theorem d_J_readLetter_25 : decode b_J_readLetter 25 = .ok (.getfield 27, 3) := by decide +kernel
theorem d_J_readLetter_28 : decode b_J_readLetter 28 = .ok (.iload 5, 2) := by decide +kernel
theorem d_J_readLetter_30 : decode b_J_readLetter 30 = .ok (.baload, 1) := by decide +kernel
theorem d_J_readLetter_31 : decode b_J_readLetter 31 = .ok (.istore 6, 2) := by decide +kernel
theorem d_J_readLetter_33 : decode b_J_readLetter 33 = .ok (.aload_n 0, 1) := by decide +kernel
theorem d_J_readLetter_34 : decode b_J_readLetter 34 = .ok (.getfield 14, 3) := by decide +kernel
theorem d_J_readLetter_37 : decode b_J_readLetter 37 = .ok (.getfield 127, 3) := by decide +kernel
theorem d_J_readLetter_40 : decode b_J_readLetter 40 = .ok (.iload_n 2, 1) := by decide +kernel
theorem d_J_readLetter_41 : decode b_J_readLetter 41 = .ok (.iload 5, 2) := by decide +kernel
theorem d_J_readLetter_43 : decode b_J_readLetter 43 = .ok (.iadd, 1) := by decide +kernel
theorem d_J_readLetter_44 : decode b_J_readLetter 44 = .ok (.iconst 1, 1) := by decide +kernel
theorem d_J_readLetter_45 : decode b_J_readLetter 45 = .ok (.isub, 1) := by decide +kernel
theorem d_J_readLetter_46 : decode b_J_readLetter 46 = .ok (.caload, 1) := by decide +kernel
theorem d_J_readLetter_47 : decode b_J_readLetter 47 = .ok (.istore 7, 2) := by decide +kernel
theorem d_J_readLetter_49 : decode b_J_readLetter 49 = .ok (.iload 7, 2) := by decide +kernel
theorem d_J_readLetter_51 : decode b_J_readLetter 51 = .ok (.bipush 42, 2) := by decide +kernel
theorem d_J_readLetter_53 : decode b_J_readLetter 53 = .ok (.if_icmp .ne 35, 3) := by decide +kernel
theorem d_J_readLetter_56 : decode b_J_readLetter 56 = .ok (.aload_n 0, 1) := by decide +kernel
theorem d_J_readLetter_57 : decode b_J_readLetter 57 = .ok (.getfield 27, 3) := by decide +kernel
theorem d_J_readLetter_60 : decode b_J_readLetter 60 = .ok (.iload 5, 2) := by decide +kernel
theorem d_J_readLetter_62 : decode b_J_readLetter 62 = .ok (.iload 6, 2) := by decide +kernel
theorem d_J_readLetter_64 : decode b_J_readLetter 64 = .ok (.ifCond .ne 15, 3) := by decide +kernel
theorem d_J_readLetter_67 : decode b_J_readLetter 67 = .ok (.aload_n 0, 1) := by decide +kernel
theorem d_J_readLetter_68 : decode b_J_readLetter 68 = .ok (.getfield 27, 3) := by decide +kernel
theorem d_J_readLetter_71 : decode b_J_readLetter 71 = .ok (.iload 5, 2) := by decide +kernel
theorem d_J_readLetter_73 : decode b_J_readLetter 73 = .ok (.iconst 1, 1) := by decide +kernel
theorem d_J_readLetter_74 : decode b_J_readLetter 74 = .ok (.isub, 1) := by decide +kernel
theorem d_J_readLetter_75 : decode b_J_readLetter 75 = .ok (.baload, 1) := by decide +kernel
theorem d_J_readLetter_76 : decode b_J_readLetter 76 = .ok (.ifCond .eq 7, 3) := by decide +kernel
theorem d_J_readLetter_79 : decode b_J_readLetter 79 = .ok (.iconst 1, 1) := by decide +kernel
theorem d_J_readLetter_80 : decode b_J_readLetter 80 = .ok (.goto 4, 3) := by decide +kernel
theorem d_J_readLetter_83 : decode b_J_readLetter 83 = .ok (.iconst 0, 1) := by decide +kernel
theorem d_J_readLetter_84 : decode b_J_readLetter 84 = .ok (.bastore, 1) := by decide +kernel
theorem d_J_readLetter_85 : decode b_J_readLetter 85 = .ok (.goto 33, 3) := by decide +kernel
theorem d_J_readLetter_88 : decode b_J_readLetter 88 = .ok (.aload_n 0, 1) := by decide +kernel
theorem d_J_readLetter_89 : decode b_J_readLetter 89 = .ok (.getfield 27, 3) := by decide +kernel
theorem d_J_readLetter_92 : decode b_J_readLetter 92 = .ok (.iload 5, 2) := by decide +kernel
theorem d_J_readLetter_94 : decode b_J_readLetter 94 = .ok (.iload 4, 2) := by decide +kernel
theorem d_J_readLetter_96 : decode b_J_readLetter 96 = .ok (.ifCond .eq 20, 3) := by decide +kernel
theorem d_J_readLetter_99 : decode b_J_readLetter 99 = .ok (.iload 7, 2) := by decide +kernel
theorem d_J_readLetter_101 : decode b_J_readLetter 101 = .ok (.bipush 63, 2) := by decide +kernel
theorem d_J_readLetter_103 : decode b_J_readLetter 103 = .ok (.if_icmp .eq 9, 3) := by decide +kernel
theorem d_J_readLetter_106 : decode b_J_readLetter 106 = .ok (.iload 7, 2) := by decide +kernel
theorem d_J_readLetter_108 : decode b_J_readLetter 108 = .ok (.iload_n 1, 1) := by decide +kernel
theorem d_J_readLetter_109 : decode b_J_readLetter 109 = .ok (.if_icmp .ne 7, 3) := by decide +kernel
theorem d_J_readLetter_112 : decode b_J_readLetter 112 = .ok (.iconst 1, 1) := by decide +kernel
theorem d_J_readLetter_113 : decode b_J_readLetter 113 = .ok (.goto 4, 3) := by decide +kernel
theorem d_J_readLetter_116 : decode b_J_readLetter 116 = .ok (.iconst 0, 1) := by decide +kernel
theorem d_J_readLetter_117 : decode b_J_readLetter 117 = .ok (.bastore, 1) := by decide +kernel
theorem d_J_readLetter_118 : decode b_J_readLetter 118 = .ok (.iload 6, 2) := by decide +kernel
theorem d_J_readLetter_120 : decode b_J_readLetter 120 = .ok (.istore 4, 2) := by decide +kernel
theorem d_J_readLetter_122 : decode b_J_readLetter 122 = .ok (.iinc 5 1, 3) := by decide +kernel
theorem d_J_readLetter_125 : decode b_J_readLetter 125 = .ok (.goto (-107), 3) := by decide +kernel
theorem d_J_readLetter_128 : decode b_J_readLetter 128 = .ok (.return_, 1) := by decide +kernel
set_option maxHeartbeats 4000000 in
set_option maxRecDepth 100000 in
theorem c_J_readLetter (l : Launch) (dC : Nat → ClassId) (dI : Nat → Nat → Nat) (kA : Nat → ClassId) (sz : Nat) (jo : Nat) (wo : Nat) (wl : Nat) (wb : Nat) (we : Nat) (wn : Nat) (wk : Nat) (wz : Int) (lt : Nat → Int) (sb : Nat → Int) (se : Nat → Int) (wo2 : Nat) (jm : Nat) (jr : Nat) (jy : Int) (rc : Nat → Bool) (ch : Int) (st : Int) (mn : Int) (hW : WR wn wk wz lt sb se) (hst : 0 ≤ st ∧ 0 ≤ mn ∧ mn ≤ 100 ∧ st + mn ≤ wn) (hch : 0 ≤ ch ∧ ch < 256) : Met l y_J_readLetter (wsy y_J_readLetter b_J_readLetter 8 none) (rmd 0 0 0) (li_Pr (dC, dI) CL (TY kA) [.ref jo, .int (iI ch), .int (iI st), .int (iI mn)] (fun h => h.size = sz ∧ va_P (dC, dI) CL [(jo, .inr (4, [.ref wo, .ref wo2, .ref jm, .ref jr, .int (iI jy)])), (jr, .inl (kA 2, 101, .inl (zI rc))), (wo, .inr (9, [.ref wl, .ref wb, .ref we, .int (iI wz)])), (wl, .inl (kA 1, wn, .inl (aI lt))), (wb, .inl (kA 0, wk, .inl (aI sb))), (we, .inl (kA 0, wk, .inl (aI se)))] h ∧ va_D (fun q => dI 100 0 ≤ q) [(jo, .inr (4, [.ref wo, .ref wo2, .ref jm, .ref jr, .int (iI jy)])), (jr, .inl (kA 2, 101, .inl (zI rc))), (wo, .inr (9, [.ref wl, .ref wb, .ref we, .int (iI wz)])), (wl, .inl (kA 1, wn, .inl (aI lt))), (wb, .inl (kA 0, wk, .inl (aI sb))), (we, .inl (kA 0, wk, .inl (aI se)))] ∧ (fun _ => True) h)) (li_Qw (S := (Nat → Bool)) (dC, dI) CL (fun u => ∀ q : Nat, (q : Int) ≤ mn → u q = tbS (fun k => lt (st.toNat + k)) ch rc q) (fun _ => none) (fun u => [(jo, .inr (4, [.ref wo, .ref wo2, .ref jm, .ref jr, .int (iI jy)])), (jr, .inl (kA 2, 101, .inl (zI u))), (wo, .inr (9, [.ref wl, .ref wb, .ref we, .int (iI wz)])), (wl, .inl (kA 1, wn, .inl (aI lt))), (wb, .inl (kA 0, wk, .inl (aI sb))), (we, .inl (kA 0, wk, .inl (aI se)))]) (va_A [(jo, .inr (4, [.ref wo, .ref wo2, .ref jm, .ref jr, .int (iI jy)])), (jr, .inl (kA 2, 101, .inl (zI rc))), (wo, .inr (9, [.ref wl, .ref wb, .ref we, .int (iI wz)])), (wl, .inl (kA 1, wn, .inl (aI lt))), (wb, .inl (kA 0, wk, .inl (aI sb))), (we, .inl (kA 0, wk, .inl (aI se)))] sz)) 0 0 (va_A [(jo, .inr (4, [.ref wo, .ref wo2, .ref jm, .ref jr, .int (iI jy)])), (jr, .inl (kA 2, 101, .inl (zI rc))), (wo, .inr (9, [.ref wl, .ref wb, .ref we, .int (iI wz)])), (wl, .inl (kA 1, wn, .inl (aI lt))), (wb, .inl (kA 0, wk, .inl (aI sb))), (we, .inl (kA 0, wk, .inl (aI se)))] sz) := by
  refine li_mwv (by decide) (Nat.le_of_ble_eq_true rfl) ?_
  intro p e s m args below meth c Q A C hP hD hBx hK hN hG hA hAi hAN fin ls hl
  obtain ⟨hx, hb, hr, hml, hown, hts, hlocks, hin⟩ := C
  have hown : s.vm.findClass R_J = some m.cls := hown
  have hl : lv_has ls 8 [(0, .ref jo), (1, .int (iI ch)), (2, .int (iI st)), (3, .int (iI mn))] := hl
  obtain ⟨hwn, hwk, hwz, hlt, hsb, hse⟩ := id hW
  suffices h9 : ∀ (H : Heap) (locs : List Loc), H = s.heap → locs = [] → W p l e (rmd 0 0 0) s m args below meth c H locs 0 0 Q (F0 m 0 ls []) from h9 _ _ rfl rfl
  intro H locs eH eL
  have hP : va_P (dC, dI) CL [(jo, .inr (4, [.ref wo, .ref wo2, .ref jm, .ref jr, .int (iI jy)])), (jr, .inl (kA 2, 101, .inl (zI rc))), (wo, .inr (9, [.ref wl, .ref wb, .ref we, .int (iI wz)])), (wl, .inl (kA 1, wn, .inl (aI lt))), (wb, .inl (kA 0, wk, .inl (aI sb))), (we, .inl (kA 0, wk, .inl (aI se)))] H := by rw [eH]; exact hP
  have hS : va_S A s.heap H locs := by rw [eH, eL]; exact va_S.rf
  refine lv_aload_n hx hb d_J_readLetter_0 rfl (lv_at hl 0 rfl) ?_
  refine gf_J_27 hx hb hts hown hK hP 0 rfl rfl d_J_readLetter_1 ?_
  refine lv_iconst (v := iI 0) hx hb d_J_readLetter_4 rfl ?_
  refine li_zald hx hb hK hP 1 2 rfl rfl (by omega) (by omega) (by omega) d_J_readLetter_5 ?_
  refine lv_istore (lv' := [(4, .int (iI (bI (rc (((0) : Int).toNat))))), (0, .ref jo), (1, .int (iI ch)), (2, .int (iI st)), (3, .int (iI mn))]) hx hb d_J_readLetter_6 hl (by decide) rfl (fun ls hl => ?_)
  refine lv_aload_n hx hb d_J_readLetter_8 rfl (lv_at hl 1 rfl) ?_
  refine gf_J_27 hx hb hts hown hK hP 0 rfl rfl d_J_readLetter_9 ?_
  refine lv_iconst (v := iI 0) hx hb d_J_readLetter_12 rfl ?_
  refine lv_iconst (v := iI 0) hx hb d_J_readLetter_13 rfl ?_
  refine W.eq (g2 := F0 m 14 ls [.int (iI (bI false)), .int (iI 0), .ref jr]) rfl ?_
  refine li_zast hx hb hK hP hD hS 1 2 rfl rfl (by omega) (by omega) (by omega) d_J_readLetter_14 (fun H locs hP hD hS => ?_)
  have hP : va_P (dC, dI) CL [(jo, .inr (4, [.ref wo, .ref wo2, .ref jm, .ref jr, .int (iI jy)])), (jr, .inl (kA 2, 101, .inl (zI (va_up rc (((0) : Int).toNat) false)))), (wo, .inr (9, [.ref wl, .ref wb, .ref we, .int (iI wz)])), (wl, .inl (kA 1, wn, .inl (aI lt))), (wb, .inl (kA 0, wk, .inl (aI sb))), (we, .inl (kA 0, wk, .inl (aI se)))] H := hP
  have hD : va_D A [(jo, .inr (4, [.ref wo, .ref wo2, .ref jm, .ref jr, .int (iI jy)])), (jr, .inl (kA 2, 101, .inl (zI (va_up rc (((0) : Int).toNat) false)))), (wo, .inr (9, [.ref wl, .ref wb, .ref we, .int (iI wz)])), (wl, .inl (kA 1, wn, .inl (aI lt))), (wb, .inl (kA 0, wk, .inl (aI sb))), (we, .inl (kA 0, wk, .inl (aI se)))] := hD
  refine lv_iconst (v := iI 1) hx hb d_J_readLetter_15 rfl ?_
  refine lv_istore (lv' := [(5, .int (iI 1)), (4, .int (iI (bI (rc (((0) : Int).toNat))))), (0, .ref jo), (1, .int (iI ch)), (2, .int (iI st)), (3, .int (iI mn))]) hx hb d_J_readLetter_16 hl (by decide) rfl (fun ls hl => ?_)
  have K_18 : ∀ (nn_18 : Nat) (q : Int) (bf : Bool) (vf : Nat → Bool), (1 ≤ q ∧ q ≤ mn + 1) → (bf = rc (q - 1).toNat) → (∀ k : Nat, (k : Int) < q → vf k = tbS (fun k => lt (st.toNat + k)) ch rc k) → (∀ k : Nat, q ≤ (k : Int) → vf k = rc k) → ((mn + 1 - q).toNat < nn_18) → ∀ (H : Heap) (locs : List Loc), va_P (dC, dI) CL [(jo, .inr (4, [.ref wo, .ref wo2, .ref jm, .ref jr, .int (iI jy)])), (jr, .inl (kA 2, 101, .inl (zI vf))), (wo, .inr (9, [.ref wl, .ref wb, .ref we, .int (iI wz)])), (wl, .inl (kA 1, wn, .inl (aI lt))), (wb, .inl (kA 0, wk, .inl (aI sb))), (we, .inl (kA 0, wk, .inl (aI se)))] H → va_D A [(jo, .inr (4, [.ref wo, .ref wo2, .ref jm, .ref jr, .int (iI jy)])), (jr, .inl (kA 2, 101, .inl (zI vf))), (wo, .inr (9, [.ref wl, .ref wb, .ref we, .int (iI wz)])), (wl, .inl (kA 1, wn, .inl (aI lt))), (wb, .inl (kA 0, wk, .inl (aI sb))), (we, .inl (kA 0, wk, .inl (aI se)))] → va_S A s.heap H locs → ∀ ls : Array Slot, lv_has ls 8 [(5, .int (iI q)), (4, .int (iI (bI bf))), (0, .ref jo), (1, .int (iI ch)), (2, .int (iI st)), (3, .int (iI mn))] → W p l e (rmd 0 0 0) s m args below meth c H locs 0 0 Q (F0 m 18 ls []) := by
    intro nn_18
    induction nn_18 with
    | zero => intro q bf vf hq9 hbf hlo hhi hm; exact absurd hm (Nat.not_lt_zero _)
    | succ nn_18 ih_18 =>
      intro q bf vf hq9 hbf hlo hhi hm_18 H locs hP hD hS ls hl
      refine lv_iload hx hb d_J_readLetter_18 (lv_at hl 0 rfl) ?_
      refine lv_iload_n hx hb d_J_readLetter_20 rfl (lv_at hl 5 rfl) ?_
      refine li_icmp_gt (tgt := 128) hx hb d_J_readLetter_21 (by decide) (by omega) (by omega) (fun c1 => ?_) (fun c1 => ?_)
      · have _q := c1
        exact fin (vf) _ _ _ _ (by show ∀ q : Nat, (q : Int) ≤ mn → vf q = tbS (fun k => lt (st.toNat + k)) ch rc q; exact fun k hk => hlo k (by omega)) (by first | exact hP | (subst_vars; exact hP)) (by first | exact hD | (subst_vars; exact hD)) hS d_J_readLetter_128
      · have _q := c1
        have hold : vf q.toNat = rc ((q - 1).toNat + 1) := by (rw [show (q - 1).toNat + 1 = q.toNat by omega]; exact hhi q.toNat (by omega))
        have hprv := hlo (q - 1).toNat (by omega)
        refine lv_aload_n hx hb d_J_readLetter_24 rfl (lv_at hl 2 rfl) ?_
        refine gf_J_27 hx hb hts hown hK hP 0 rfl rfl d_J_readLetter_25 ?_
        refine lv_iload hx hb d_J_readLetter_28 (lv_at hl 0 rfl) ?_
        refine li_zald hx hb hK hP 1 2 rfl rfl (by omega) (by omega) (by omega) d_J_readLetter_30 ?_
        refine lv_istore (lv' := [(6, .int (iI (bI (vf q.toNat)))), (5, .int (iI q)), (4, .int (iI (bI bf))), (0, .ref jo), (1, .int (iI ch)), (2, .int (iI st)), (3, .int (iI mn))]) hx hb d_J_readLetter_31 hl (by decide) rfl (fun ls hl => ?_)
        refine lv_aload_n hx hb d_J_readLetter_33 rfl (lv_at hl 3 rfl) ?_
        refine gf_J_14 hx hb hts hown hK hP 0 rfl rfl d_J_readLetter_34 ?_
        refine gf_J_127 hx hb hts hN hown hK hP 2 rfl rfl d_J_readLetter_37 ?_
        refine lv_iload_n hx hb d_J_readLetter_40 rfl (lv_at hl 5 rfl) ?_
        refine lv_iload hx hb d_J_readLetter_41 (lv_at hl 1 rfl) ?_
        refine li_iadd hx hb d_J_readLetter_43 ?_
        refine lv_iconst (v := iI 1) hx hb d_J_readLetter_44 rfl ?_
        refine li_isub hx hb d_J_readLetter_45 ?_
        refine li_cald hx hb hK hP 3 1 rfl rfl (by omega) (by omega) (by omega) d_J_readLetter_46 ?_
        have f2 := hlt (((st + q) - 1).toNat)
        refine li_nm (fun sg esg => ?_)
        refine lv_istore (lv' := [(7, .int (iI sg)), (6, .int (iI (bI (vf q.toNat)))), (5, .int (iI q)), (4, .int (iI (bI bf))), (0, .ref jo), (1, .int (iI ch)), (2, .int (iI st)), (3, .int (iI mn))]) hx hb d_J_readLetter_47 hl (by decide) rfl (fun ls hl => ?_)
        have hpf : lt (st.toNat + (q - 1).toNat) = sg := by rw [esg]; congr 1; omega
        refine lv_iload hx hb d_J_readLetter_49 (lv_at hl 0 rfl) ?_
        refine lv_bipush (v := iI 42) hx hb d_J_readLetter_51 (by decide) ?_
        refine li_icmp_ne (tgt := 88) hx hb d_J_readLetter_53 (by decide) (by omega) (by omega) (fun c3 => ?_) (fun c3 => ?_)
        · have _q := c3
          refine lv_aload_n hx hb d_J_readLetter_88 rfl (lv_at hl 4 rfl) ?_
          refine gf_J_27 hx hb hts hown hK hP 0 rfl rfl d_J_readLetter_89 ?_
          refine lv_iload hx hb d_J_readLetter_92 (lv_at hl 2 rfl) ?_
          refine lv_iload hx hb d_J_readLetter_94 (lv_at hl 3 rfl) ?_
          refine li_bz (tgt := 116) hx hb d_J_readLetter_96 (by decide) (fun c4 => ?_) (fun c4 => ?_)
          · have _q := c4
            refine lv_iconst (v := iI 0) hx hb d_J_readLetter_116 rfl ?_
            refine W.eq (g2 := F0 m 117 ls [.int (iI (bI false)), .int (iI q), .ref jr]) rfl ?_
            refine li_zast hx hb hK hP hD hS 1 2 rfl rfl (by omega) (by omega) (by omega) d_J_readLetter_117 (fun H locs hP hD hS => ?_)
            have hP : va_P (dC, dI) CL [(jo, .inr (4, [.ref wo, .ref wo2, .ref jm, .ref jr, .int (iI jy)])), (jr, .inl (kA 2, 101, .inl (zI (va_up vf q.toNat false)))), (wo, .inr (9, [.ref wl, .ref wb, .ref we, .int (iI wz)])), (wl, .inl (kA 1, wn, .inl (aI lt))), (wb, .inl (kA 0, wk, .inl (aI sb))), (we, .inl (kA 0, wk, .inl (aI se)))] H := hP
            have hD : va_D A [(jo, .inr (4, [.ref wo, .ref wo2, .ref jm, .ref jr, .int (iI jy)])), (jr, .inl (kA 2, 101, .inl (zI (va_up vf q.toNat false)))), (wo, .inr (9, [.ref wl, .ref wb, .ref we, .int (iI wz)])), (wl, .inl (kA 1, wn, .inl (aI lt))), (wb, .inl (kA 0, wk, .inl (aI sb))), (we, .inl (kA 0, wk, .inl (aI se)))] := hD
            refine lv_iload hx hb d_J_readLetter_118 (lv_at hl 1 rfl) ?_
            refine lv_istore (lv' := [(4, .int (iI (bI (vf q.toNat)))), (7, .int (iI sg)), (6, .int (iI (bI (vf q.toNat)))), (5, .int (iI q)), (0, .ref jo), (1, .int (iI ch)), (2, .int (iI st)), (3, .int (iI mn))]) hx hb d_J_readLetter_120 hl (by decide) rfl (fun ls hl => ?_)
            obtain ⟨q_n, eq_n⟩ : ∃ y_9 : Int, y_9 = q + 1 := ⟨_, rfl⟩
            refine lv_iinc (v := iI q_n) (lv' := [(5, .int (iI q_n)), (4, .int (iI (bI (vf q.toNat)))), (7, .int (iI sg)), (6, .int (iI (bI (vf q.toNat)))), (0, .ref jo), (1, .int (iI ch)), (2, .int (iI st)), (3, .int (iI mn))]) hx hb d_J_readLetter_122 hl (k := 3) rfl (by rw [eq_n]; exact iI_add _ _) (by decide) rfl (fun ls hl => ?_)
            refine lv_goto (tgt := 18) hx hb d_J_readLetter_125 (by decide) ?_
            exact ih_18 q_n (vf q.toNat) (va_up vf q.toNat false) (by omega) (by rw [hold, eq_n]; congr 1; omega) (by intro k hk; unfold va_up; by_cases q8 : k = q.toNat; (rw [if_pos q8, q8, show q.toNat = (q - 1).toNat + 1 by omega]; rw [tbS_e (pf := fun k => lt (st.toNat + k)) (v := sg) hpf]; first | (rw [if_pos (by assumption), ← hold, ← hprv]; first | (rw [show vf q.toNat = true by assumption]; rfl) | (rw [show vf q.toNat = false by assumption, show vf (q - 1).toNat = true by assumption]; rfl) | (rw [show vf q.toNat = false by assumption, show vf (q - 1).toNat = false by assumption]; rfl)) | (rw [if_neg (by assumption), ← hbf]; first | (rw [show bf = false by assumption]; rfl) | (rw [show bf = true by assumption, Bool.true_and]; first | exact (decide_eq_true (Or.inl (by assumption))).symm | exact (decide_eq_true (Or.inr (by assumption))).symm | exact (decide_eq_false (by omega)).symm))); (rw [if_neg q8]; exact hlo k (by omega))) (by intro k hk; unfold va_up; rw [if_neg (by omega)]; exact hhi k (by omega)) (by omega) _ _ hP hD hS _ (lv_sub hl [0, 1, 4, 5, 6, 7] rfl)
          · have _q := c4
            refine lv_iload hx hb d_J_readLetter_99 (lv_at hl 0 rfl) ?_
            refine lv_bipush (v := iI 63) hx hb d_J_readLetter_101 (by decide) ?_
            refine li_icmp_eq (tgt := 112) hx hb d_J_readLetter_103 (by decide) (by omega) (by omega) (fun c5 => ?_) (fun c5 => ?_)
            · have _q := c5
              refine lv_iconst (v := iI 1) hx hb d_J_readLetter_112 rfl ?_
              refine lv_goto (tgt := 117) hx hb d_J_readLetter_113 (by decide) ?_
              refine W.eq (g2 := F0 m 117 ls [.int (iI (bI true)), .int (iI q), .ref jr]) rfl ?_
              refine li_zast hx hb hK hP hD hS 1 2 rfl rfl (by omega) (by omega) (by omega) d_J_readLetter_117 (fun H locs hP hD hS => ?_)
              have hP : va_P (dC, dI) CL [(jo, .inr (4, [.ref wo, .ref wo2, .ref jm, .ref jr, .int (iI jy)])), (jr, .inl (kA 2, 101, .inl (zI (va_up vf q.toNat true)))), (wo, .inr (9, [.ref wl, .ref wb, .ref we, .int (iI wz)])), (wl, .inl (kA 1, wn, .inl (aI lt))), (wb, .inl (kA 0, wk, .inl (aI sb))), (we, .inl (kA 0, wk, .inl (aI se)))] H := hP
              have hD : va_D A [(jo, .inr (4, [.ref wo, .ref wo2, .ref jm, .ref jr, .int (iI jy)])), (jr, .inl (kA 2, 101, .inl (zI (va_up vf q.toNat true)))), (wo, .inr (9, [.ref wl, .ref wb, .ref we, .int (iI wz)])), (wl, .inl (kA 1, wn, .inl (aI lt))), (wb, .inl (kA 0, wk, .inl (aI sb))), (we, .inl (kA 0, wk, .inl (aI se)))] := hD
              refine lv_iload hx hb d_J_readLetter_118 (lv_at hl 1 rfl) ?_
              refine lv_istore (lv' := [(4, .int (iI (bI (vf q.toNat)))), (7, .int (iI sg)), (6, .int (iI (bI (vf q.toNat)))), (5, .int (iI q)), (0, .ref jo), (1, .int (iI ch)), (2, .int (iI st)), (3, .int (iI mn))]) hx hb d_J_readLetter_120 hl (by decide) rfl (fun ls hl => ?_)
              obtain ⟨q_n, eq_n⟩ : ∃ y_9 : Int, y_9 = q + 1 := ⟨_, rfl⟩
              refine lv_iinc (v := iI q_n) (lv' := [(5, .int (iI q_n)), (4, .int (iI (bI (vf q.toNat)))), (7, .int (iI sg)), (6, .int (iI (bI (vf q.toNat)))), (0, .ref jo), (1, .int (iI ch)), (2, .int (iI st)), (3, .int (iI mn))]) hx hb d_J_readLetter_122 hl (k := 3) rfl (by rw [eq_n]; exact iI_add _ _) (by decide) rfl (fun ls hl => ?_)
              refine lv_goto (tgt := 18) hx hb d_J_readLetter_125 (by decide) ?_
              exact ih_18 q_n (vf q.toNat) (va_up vf q.toNat true) (by omega) (by rw [hold, eq_n]; congr 1; omega) (by intro k hk; unfold va_up; by_cases q8 : k = q.toNat; (rw [if_pos q8, q8, show q.toNat = (q - 1).toNat + 1 by omega]; rw [tbS_e (pf := fun k => lt (st.toNat + k)) (v := sg) hpf]; first | (rw [if_pos (by assumption), ← hold, ← hprv]; first | (rw [show vf q.toNat = true by assumption]; rfl) | (rw [show vf q.toNat = false by assumption, show vf (q - 1).toNat = true by assumption]; rfl) | (rw [show vf q.toNat = false by assumption, show vf (q - 1).toNat = false by assumption]; rfl)) | (rw [if_neg (by assumption), ← hbf]; first | (rw [show bf = false by assumption]; rfl) | (rw [show bf = true by assumption, Bool.true_and]; first | exact (decide_eq_true (Or.inl (by assumption))).symm | exact (decide_eq_true (Or.inr (by assumption))).symm | exact (decide_eq_false (by omega)).symm))); (rw [if_neg q8]; exact hlo k (by omega))) (by intro k hk; unfold va_up; rw [if_neg (by omega)]; exact hhi k (by omega)) (by omega) _ _ hP hD hS _ (lv_sub hl [0, 1, 4, 5, 6, 7] rfl)
            · have _q := c5
              refine lv_iload hx hb d_J_readLetter_106 (lv_at hl 0 rfl) ?_
              refine lv_iload_n hx hb d_J_readLetter_108 rfl (lv_at hl 5 rfl) ?_
              refine li_icmp_ne (tgt := 116) hx hb d_J_readLetter_109 (by decide) (by omega) (by omega) (fun c6 => ?_) (fun c6 => ?_)
              · have _q := c6
                refine lv_iconst (v := iI 0) hx hb d_J_readLetter_116 rfl ?_
                refine W.eq (g2 := F0 m 117 ls [.int (iI (bI false)), .int (iI q), .ref jr]) rfl ?_
                refine li_zast hx hb hK hP hD hS 1 2 rfl rfl (by omega) (by omega) (by omega) d_J_readLetter_117 (fun H locs hP hD hS => ?_)
                have hP : va_P (dC, dI) CL [(jo, .inr (4, [.ref wo, .ref wo2, .ref jm, .ref jr, .int (iI jy)])), (jr, .inl (kA 2, 101, .inl (zI (va_up vf q.toNat false)))), (wo, .inr (9, [.ref wl, .ref wb, .ref we, .int (iI wz)])), (wl, .inl (kA 1, wn, .inl (aI lt))), (wb, .inl (kA 0, wk, .inl (aI sb))), (we, .inl (kA 0, wk, .inl (aI se)))] H := hP
                have hD : va_D A [(jo, .inr (4, [.ref wo, .ref wo2, .ref jm, .ref jr, .int (iI jy)])), (jr, .inl (kA 2, 101, .inl (zI (va_up vf q.toNat false)))), (wo, .inr (9, [.ref wl, .ref wb, .ref we, .int (iI wz)])), (wl, .inl (kA 1, wn, .inl (aI lt))), (wb, .inl (kA 0, wk, .inl (aI sb))), (we, .inl (kA 0, wk, .inl (aI se)))] := hD
                refine lv_iload hx hb d_J_readLetter_118 (lv_at hl 1 rfl) ?_
                refine lv_istore (lv' := [(4, .int (iI (bI (vf q.toNat)))), (7, .int (iI sg)), (6, .int (iI (bI (vf q.toNat)))), (5, .int (iI q)), (0, .ref jo), (1, .int (iI ch)), (2, .int (iI st)), (3, .int (iI mn))]) hx hb d_J_readLetter_120 hl (by decide) rfl (fun ls hl => ?_)
                obtain ⟨q_n, eq_n⟩ : ∃ y_9 : Int, y_9 = q + 1 := ⟨_, rfl⟩
                refine lv_iinc (v := iI q_n) (lv' := [(5, .int (iI q_n)), (4, .int (iI (bI (vf q.toNat)))), (7, .int (iI sg)), (6, .int (iI (bI (vf q.toNat)))), (0, .ref jo), (1, .int (iI ch)), (2, .int (iI st)), (3, .int (iI mn))]) hx hb d_J_readLetter_122 hl (k := 3) rfl (by rw [eq_n]; exact iI_add _ _) (by decide) rfl (fun ls hl => ?_)
                refine lv_goto (tgt := 18) hx hb d_J_readLetter_125 (by decide) ?_
                exact ih_18 q_n (vf q.toNat) (va_up vf q.toNat false) (by omega) (by rw [hold, eq_n]; congr 1; omega) (by intro k hk; unfold va_up; by_cases q8 : k = q.toNat; (rw [if_pos q8, q8, show q.toNat = (q - 1).toNat + 1 by omega]; rw [tbS_e (pf := fun k => lt (st.toNat + k)) (v := sg) hpf]; first | (rw [if_pos (by assumption), ← hold, ← hprv]; first | (rw [show vf q.toNat = true by assumption]; rfl) | (rw [show vf q.toNat = false by assumption, show vf (q - 1).toNat = true by assumption]; rfl) | (rw [show vf q.toNat = false by assumption, show vf (q - 1).toNat = false by assumption]; rfl)) | (rw [if_neg (by assumption), ← hbf]; first | (rw [show bf = false by assumption]; rfl) | (rw [show bf = true by assumption, Bool.true_and]; first | exact (decide_eq_true (Or.inl (by assumption))).symm | exact (decide_eq_true (Or.inr (by assumption))).symm | exact (decide_eq_false (by omega)).symm))); (rw [if_neg q8]; exact hlo k (by omega))) (by intro k hk; unfold va_up; rw [if_neg (by omega)]; exact hhi k (by omega)) (by omega) _ _ hP hD hS _ (lv_sub hl [0, 1, 4, 5, 6, 7] rfl)
              · have _q := c6
                refine lv_iconst (v := iI 1) hx hb d_J_readLetter_112 rfl ?_
                refine lv_goto (tgt := 117) hx hb d_J_readLetter_113 (by decide) ?_
                refine W.eq (g2 := F0 m 117 ls [.int (iI (bI true)), .int (iI q), .ref jr]) rfl ?_
                refine li_zast hx hb hK hP hD hS 1 2 rfl rfl (by omega) (by omega) (by omega) d_J_readLetter_117 (fun H locs hP hD hS => ?_)
                have hP : va_P (dC, dI) CL [(jo, .inr (4, [.ref wo, .ref wo2, .ref jm, .ref jr, .int (iI jy)])), (jr, .inl (kA 2, 101, .inl (zI (va_up vf q.toNat true)))), (wo, .inr (9, [.ref wl, .ref wb, .ref we, .int (iI wz)])), (wl, .inl (kA 1, wn, .inl (aI lt))), (wb, .inl (kA 0, wk, .inl (aI sb))), (we, .inl (kA 0, wk, .inl (aI se)))] H := hP
                have hD : va_D A [(jo, .inr (4, [.ref wo, .ref wo2, .ref jm, .ref jr, .int (iI jy)])), (jr, .inl (kA 2, 101, .inl (zI (va_up vf q.toNat true)))), (wo, .inr (9, [.ref wl, .ref wb, .ref we, .int (iI wz)])), (wl, .inl (kA 1, wn, .inl (aI lt))), (wb, .inl (kA 0, wk, .inl (aI sb))), (we, .inl (kA 0, wk, .inl (aI se)))] := hD
                refine lv_iload hx hb d_J_readLetter_118 (lv_at hl 1 rfl) ?_
                refine lv_istore (lv' := [(4, .int (iI (bI (vf q.toNat)))), (7, .int (iI sg)), (6, .int (iI (bI (vf q.toNat)))), (5, .int (iI q)), (0, .ref jo), (1, .int (iI ch)), (2, .int (iI st)), (3, .int (iI mn))]) hx hb d_J_readLetter_120 hl (by decide) rfl (fun ls hl => ?_)
                obtain ⟨q_n, eq_n⟩ : ∃ y_9 : Int, y_9 = q + 1 := ⟨_, rfl⟩
                refine lv_iinc (v := iI q_n) (lv' := [(5, .int (iI q_n)), (4, .int (iI (bI (vf q.toNat)))), (7, .int (iI sg)), (6, .int (iI (bI (vf q.toNat)))), (0, .ref jo), (1, .int (iI ch)), (2, .int (iI st)), (3, .int (iI mn))]) hx hb d_J_readLetter_122 hl (k := 3) rfl (by rw [eq_n]; exact iI_add _ _) (by decide) rfl (fun ls hl => ?_)
                refine lv_goto (tgt := 18) hx hb d_J_readLetter_125 (by decide) ?_
                exact ih_18 q_n (vf q.toNat) (va_up vf q.toNat true) (by omega) (by rw [hold, eq_n]; congr 1; omega) (by intro k hk; unfold va_up; by_cases q8 : k = q.toNat; (rw [if_pos q8, q8, show q.toNat = (q - 1).toNat + 1 by omega]; rw [tbS_e (pf := fun k => lt (st.toNat + k)) (v := sg) hpf]; first | (rw [if_pos (by assumption), ← hold, ← hprv]; first | (rw [show vf q.toNat = true by assumption]; rfl) | (rw [show vf q.toNat = false by assumption, show vf (q - 1).toNat = true by assumption]; rfl) | (rw [show vf q.toNat = false by assumption, show vf (q - 1).toNat = false by assumption]; rfl)) | (rw [if_neg (by assumption), ← hbf]; first | (rw [show bf = false by assumption]; rfl) | (rw [show bf = true by assumption, Bool.true_and]; first | exact (decide_eq_true (Or.inl (by assumption))).symm | exact (decide_eq_true (Or.inr (by assumption))).symm | exact (decide_eq_false (by omega)).symm))); (rw [if_neg q8]; exact hlo k (by omega))) (by intro k hk; unfold va_up; rw [if_neg (by omega)]; exact hhi k (by omega)) (by omega) _ _ hP hD hS _ (lv_sub hl [0, 1, 4, 5, 6, 7] rfl)
        · have _q := c3
          refine lv_aload_n hx hb d_J_readLetter_56 rfl (lv_at hl 4 rfl) ?_
          refine gf_J_27 hx hb hts hown hK hP 0 rfl rfl d_J_readLetter_57 ?_
          refine lv_iload hx hb d_J_readLetter_60 (lv_at hl 2 rfl) ?_
          refine lv_iload hx hb d_J_readLetter_62 (lv_at hl 1 rfl) ?_
          refine li_bnz (tgt := 79) hx hb d_J_readLetter_64 (by decide) (fun c7 => ?_) (fun c7 => ?_)
          · have _q := c7
            refine lv_iconst (v := iI 1) hx hb d_J_readLetter_79 rfl ?_
            refine lv_goto (tgt := 84) hx hb d_J_readLetter_80 (by decide) ?_
            refine W.eq (g2 := F0 m 84 ls [.int (iI (bI true)), .int (iI q), .ref jr]) rfl ?_
            refine li_zast hx hb hK hP hD hS 1 2 rfl rfl (by omega) (by omega) (by omega) d_J_readLetter_84 (fun H locs hP hD hS => ?_)
            have hP : va_P (dC, dI) CL [(jo, .inr (4, [.ref wo, .ref wo2, .ref jm, .ref jr, .int (iI jy)])), (jr, .inl (kA 2, 101, .inl (zI (va_up vf q.toNat true)))), (wo, .inr (9, [.ref wl, .ref wb, .ref we, .int (iI wz)])), (wl, .inl (kA 1, wn, .inl (aI lt))), (wb, .inl (kA 0, wk, .inl (aI sb))), (we, .inl (kA 0, wk, .inl (aI se)))] H := hP
            have hD : va_D A [(jo, .inr (4, [.ref wo, .ref wo2, .ref jm, .ref jr, .int (iI jy)])), (jr, .inl (kA 2, 101, .inl (zI (va_up vf q.toNat true)))), (wo, .inr (9, [.ref wl, .ref wb, .ref we, .int (iI wz)])), (wl, .inl (kA 1, wn, .inl (aI lt))), (wb, .inl (kA 0, wk, .inl (aI sb))), (we, .inl (kA 0, wk, .inl (aI se)))] := hD
            refine lv_goto (tgt := 118) hx hb d_J_readLetter_85 (by decide) ?_
            refine lv_iload hx hb d_J_readLetter_118 (lv_at hl 1 rfl) ?_
            refine lv_istore (lv' := [(4, .int (iI (bI (vf q.toNat)))), (7, .int (iI sg)), (6, .int (iI (bI (vf q.toNat)))), (5, .int (iI q)), (0, .ref jo), (1, .int (iI ch)), (2, .int (iI st)), (3, .int (iI mn))]) hx hb d_J_readLetter_120 hl (by decide) rfl (fun ls hl => ?_)
            obtain ⟨q_n, eq_n⟩ : ∃ y_9 : Int, y_9 = q + 1 := ⟨_, rfl⟩
            refine lv_iinc (v := iI q_n) (lv' := [(5, .int (iI q_n)), (4, .int (iI (bI (vf q.toNat)))), (7, .int (iI sg)), (6, .int (iI (bI (vf q.toNat)))), (0, .ref jo), (1, .int (iI ch)), (2, .int (iI st)), (3, .int (iI mn))]) hx hb d_J_readLetter_122 hl (k := 3) rfl (by rw [eq_n]; exact iI_add _ _) (by decide) rfl (fun ls hl => ?_)
            refine lv_goto (tgt := 18) hx hb d_J_readLetter_125 (by decide) ?_
            exact ih_18 q_n (vf q.toNat) (va_up vf q.toNat true) (by omega) (by rw [hold, eq_n]; congr 1; omega) (by intro k hk; unfold va_up; by_cases q8 : k = q.toNat; (rw [if_pos q8, q8, show q.toNat = (q - 1).toNat + 1 by omega]; rw [tbS_e (pf := fun k => lt (st.toNat + k)) (v := sg) hpf]; first | (rw [if_pos (by assumption), ← hold, ← hprv]; first | (rw [show vf q.toNat = true by assumption]; rfl) | (rw [show vf q.toNat = false by assumption, show vf (q - 1).toNat = true by assumption]; rfl) | (rw [show vf q.toNat = false by assumption, show vf (q - 1).toNat = false by assumption]; rfl)) | (rw [if_neg (by assumption), ← hbf]; first | (rw [show bf = false by assumption]; rfl) | (rw [show bf = true by assumption, Bool.true_and]; first | exact (decide_eq_true (Or.inl (by assumption))).symm | exact (decide_eq_true (Or.inr (by assumption))).symm | exact (decide_eq_false (by omega)).symm))); (rw [if_neg q8]; exact hlo k (by omega))) (by intro k hk; unfold va_up; rw [if_neg (by omega)]; exact hhi k (by omega)) (by omega) _ _ hP hD hS _ (lv_sub hl [0, 1, 4, 5, 6, 7] rfl)
          · have _q := c7
            refine lv_aload_n hx hb d_J_readLetter_67 rfl (lv_at hl 4 rfl) ?_
            refine gf_J_27 hx hb hts hown hK hP 0 rfl rfl d_J_readLetter_68 ?_
            refine lv_iload hx hb d_J_readLetter_71 (lv_at hl 2 rfl) ?_
            refine lv_iconst (v := iI 1) hx hb d_J_readLetter_73 rfl ?_
            refine li_isub hx hb d_J_readLetter_74 ?_
            refine li_zald hx hb hK hP 1 2 rfl rfl (by omega) (by omega) (by omega) d_J_readLetter_75 ?_
            refine li_bz (tgt := 83) hx hb d_J_readLetter_76 (by decide) (fun c8 => ?_) (fun c8 => ?_)
            · have _q := c8
              refine lv_iconst (v := iI 0) hx hb d_J_readLetter_83 rfl ?_
              refine W.eq (g2 := F0 m 84 ls [.int (iI (bI false)), .int (iI q), .ref jr]) rfl ?_
              refine li_zast hx hb hK hP hD hS 1 2 rfl rfl (by omega) (by omega) (by omega) d_J_readLetter_84 (fun H locs hP hD hS => ?_)
              have hP : va_P (dC, dI) CL [(jo, .inr (4, [.ref wo, .ref wo2, .ref jm, .ref jr, .int (iI jy)])), (jr, .inl (kA 2, 101, .inl (zI (va_up vf q.toNat false)))), (wo, .inr (9, [.ref wl, .ref wb, .ref we, .int (iI wz)])), (wl, .inl (kA 1, wn, .inl (aI lt))), (wb, .inl (kA 0, wk, .inl (aI sb))), (we, .inl (kA 0, wk, .inl (aI se)))] H := hP
              have hD : va_D A [(jo, .inr (4, [.ref wo, .ref wo2, .ref jm, .ref jr, .int (iI jy)])), (jr, .inl (kA 2, 101, .inl (zI (va_up vf q.toNat false)))), (wo, .inr (9, [.ref wl, .ref wb, .ref we, .int (iI wz)])), (wl, .inl (kA 1, wn, .inl (aI lt))), (wb, .inl (kA 0, wk, .inl (aI sb))), (we, .inl (kA 0, wk, .inl (aI se)))] := hD
              refine lv_goto (tgt := 118) hx hb d_J_readLetter_85 (by decide) ?_
              refine lv_iload hx hb d_J_readLetter_118 (lv_at hl 1 rfl) ?_
              refine lv_istore (lv' := [(4, .int (iI (bI (vf q.toNat)))), (7, .int (iI sg)), (6, .int (iI (bI (vf q.toNat)))), (5, .int (iI q)), (0, .ref jo), (1, .int (iI ch)), (2, .int (iI st)), (3, .int (iI mn))]) hx hb d_J_readLetter_120 hl (by decide) rfl (fun ls hl => ?_)
              obtain ⟨q_n, eq_n⟩ : ∃ y_9 : Int, y_9 = q + 1 := ⟨_, rfl⟩
              refine lv_iinc (v := iI q_n) (lv' := [(5, .int (iI q_n)), (4, .int (iI (bI (vf q.toNat)))), (7, .int (iI sg)), (6, .int (iI (bI (vf q.toNat)))), (0, .ref jo), (1, .int (iI ch)), (2, .int (iI st)), (3, .int (iI mn))]) hx hb d_J_readLetter_122 hl (k := 3) rfl (by rw [eq_n]; exact iI_add _ _) (by decide) rfl (fun ls hl => ?_)
              refine lv_goto (tgt := 18) hx hb d_J_readLetter_125 (by decide) ?_
              exact ih_18 q_n (vf q.toNat) (va_up vf q.toNat false) (by omega) (by rw [hold, eq_n]; congr 1; omega) (by intro k hk; unfold va_up; by_cases q8 : k = q.toNat; (rw [if_pos q8, q8, show q.toNat = (q - 1).toNat + 1 by omega]; rw [tbS_e (pf := fun k => lt (st.toNat + k)) (v := sg) hpf]; first | (rw [if_pos (by assumption), ← hold, ← hprv]; first | (rw [show vf q.toNat = true by assumption]; rfl) | (rw [show vf q.toNat = false by assumption, show vf (q - 1).toNat = true by assumption]; rfl) | (rw [show vf q.toNat = false by assumption, show vf (q - 1).toNat = false by assumption]; rfl)) | (rw [if_neg (by assumption), ← hbf]; first | (rw [show bf = false by assumption]; rfl) | (rw [show bf = true by assumption, Bool.true_and]; first | exact (decide_eq_true (Or.inl (by assumption))).symm | exact (decide_eq_true (Or.inr (by assumption))).symm | exact (decide_eq_false (by omega)).symm))); (rw [if_neg q8]; exact hlo k (by omega))) (by intro k hk; unfold va_up; rw [if_neg (by omega)]; exact hhi k (by omega)) (by omega) _ _ hP hD hS _ (lv_sub hl [0, 1, 4, 5, 6, 7] rfl)
            · have _q := c8
              refine lv_iconst (v := iI 1) hx hb d_J_readLetter_79 rfl ?_
              refine lv_goto (tgt := 84) hx hb d_J_readLetter_80 (by decide) ?_
              refine W.eq (g2 := F0 m 84 ls [.int (iI (bI true)), .int (iI q), .ref jr]) rfl ?_
              refine li_zast hx hb hK hP hD hS 1 2 rfl rfl (by omega) (by omega) (by omega) d_J_readLetter_84 (fun H locs hP hD hS => ?_)
              have hP : va_P (dC, dI) CL [(jo, .inr (4, [.ref wo, .ref wo2, .ref jm, .ref jr, .int (iI jy)])), (jr, .inl (kA 2, 101, .inl (zI (va_up vf q.toNat true)))), (wo, .inr (9, [.ref wl, .ref wb, .ref we, .int (iI wz)])), (wl, .inl (kA 1, wn, .inl (aI lt))), (wb, .inl (kA 0, wk, .inl (aI sb))), (we, .inl (kA 0, wk, .inl (aI se)))] H := hP
              have hD : va_D A [(jo, .inr (4, [.ref wo, .ref wo2, .ref jm, .ref jr, .int (iI jy)])), (jr, .inl (kA 2, 101, .inl (zI (va_up vf q.toNat true)))), (wo, .inr (9, [.ref wl, .ref wb, .ref we, .int (iI wz)])), (wl, .inl (kA 1, wn, .inl (aI lt))), (wb, .inl (kA 0, wk, .inl (aI sb))), (we, .inl (kA 0, wk, .inl (aI se)))] := hD
              refine lv_goto (tgt := 118) hx hb d_J_readLetter_85 (by decide) ?_
              refine lv_iload hx hb d_J_readLetter_118 (lv_at hl 1 rfl) ?_
              refine lv_istore (lv' := [(4, .int (iI (bI (vf q.toNat)))), (7, .int (iI sg)), (6, .int (iI (bI (vf q.toNat)))), (5, .int (iI q)), (0, .ref jo), (1, .int (iI ch)), (2, .int (iI st)), (3, .int (iI mn))]) hx hb d_J_readLetter_120 hl (by decide) rfl (fun ls hl => ?_)
              obtain ⟨q_n, eq_n⟩ : ∃ y_9 : Int, y_9 = q + 1 := ⟨_, rfl⟩
              refine lv_iinc (v := iI q_n) (lv' := [(5, .int (iI q_n)), (4, .int (iI (bI (vf q.toNat)))), (7, .int (iI sg)), (6, .int (iI (bI (vf q.toNat)))), (0, .ref jo), (1, .int (iI ch)), (2, .int (iI st)), (3, .int (iI mn))]) hx hb d_J_readLetter_122 hl (k := 3) rfl (by rw [eq_n]; exact iI_add _ _) (by decide) rfl (fun ls hl => ?_)
              refine lv_goto (tgt := 18) hx hb d_J_readLetter_125 (by decide) ?_
              exact ih_18 q_n (vf q.toNat) (va_up vf q.toNat true) (by omega) (by rw [hold, eq_n]; congr 1; omega) (by intro k hk; unfold va_up; by_cases q8 : k = q.toNat; (rw [if_pos q8, q8, show q.toNat = (q - 1).toNat + 1 by omega]; rw [tbS_e (pf := fun k => lt (st.toNat + k)) (v := sg) hpf]; first | (rw [if_pos (by assumption), ← hold, ← hprv]; first | (rw [show vf q.toNat = true by assumption]; rfl) | (rw [show vf q.toNat = false by assumption, show vf (q - 1).toNat = true by assumption]; rfl) | (rw [show vf q.toNat = false by assumption, show vf (q - 1).toNat = false by assumption]; rfl)) | (rw [if_neg (by assumption), ← hbf]; first | (rw [show bf = false by assumption]; rfl) | (rw [show bf = true by assumption, Bool.true_and]; first | exact (decide_eq_true (Or.inl (by assumption))).symm | exact (decide_eq_true (Or.inr (by assumption))).symm | exact (decide_eq_false (by omega)).symm))); (rw [if_neg q8]; exact hlo k (by omega))) (by intro k hk; unfold va_up; rw [if_neg (by omega)]; exact hhi k (by omega)) (by omega) _ _ hP hD hS _ (lv_sub hl [0, 1, 4, 5, 6, 7] rfl)
  exact K_18 ((mn + 1 - 1).toNat + 1) 1 (rc (((0) : Int).toNat)) (va_up rc (((0) : Int).toNat) false) (by omega) (by rfl) (by intro k hk; rw [show k = 0 by omega]; rfl) (by intro k hk; unfold va_up; rw [if_neg (show ¬ k = Int.toNat 0 by omega)]) (Nat.lt_succ_self _) _ _ hP hD hS _ (lv_sub hl [0, 1, 2, 3, 4, 5] rfl)
theorem d_J_matchesBySigns_0 : decode b_J_matchesBySigns 0 = .ok (.iload_n 1, 1) := by decide +kernel
theorem d_J_matchesBySigns_1 : decode b_J_matchesBySigns 1 = .ok (.ifCond .lt 29, 3) := by decide +kernel
theorem d_J_matchesBySigns_4 : decode b_J_matchesBySigns 4 = .ok (.iload_n 1, 1) := by decide +kernel
theorem d_J_matchesBySigns_5 : decode b_J_matchesBySigns 5 = .ok (.aload_n 0, 1) := by decide +kernel
theorem d_J_matchesBySigns_6 : decode b_J_matchesBySigns 6 = .ok (.getfield 14, 3) := by decide +kernel
theorem d_J_matchesBySigns_9 : decode b_J_matchesBySigns 9 = .ok (.getfield 73, 3) := by decide +kernel
theorem d_J_matchesBySigns_12 : decode b_J_matchesBySigns 12 = .ok (.if_icmp .ge 18, 3) := by decide +kernel
theorem d_J_matchesBySigns_15 : decode b_J_matchesBySigns 15 = .ok (.iload_n 2, 1) := by decide +kernel
theorem d_J_matchesBySigns_16 : decode b_J_matchesBySigns 16 = .ok (.ifCond .lt 14, 3) := by decide +kernel
theorem d_J_matchesBySigns_19 : decode b_J_matchesBySigns 19 = .ok (.iload_n 2, 1) := by decide +kernel
theorem d_J_matchesBySigns_20 : decode b_J_matchesBySigns 20 = .ok (.aload_n 0, 1) := by decide +kernel
theorem d_J_matchesBySigns_21 : decode b_J_matchesBySigns 21 = .ok (.getfield 20, 3) := by decide +kernel
theorem d_J_matchesBySigns_24 : decode b_J_matchesBySigns 24 = .ok (.getfield 73, 3) := by decide +kernel
theorem d_J_matchesBySigns_27 : decode b_J_matchesBySigns 27 = .ok (.if_icmp .lt 5, 3) := by decide +kernel
theorem d_J_matchesBySigns_30 : decode b_J_matchesBySigns 30 = .ok (.iconst 0, 1) := by decide +kernel
theorem d_J_matchesBySigns_31 : decode b_J_matchesBySigns 31 = .ok (.ireturn, 1) := by decide +kernel
theorem d_J_matchesBySigns_32 : decode b_J_matchesBySigns 32 = .ok (.aload_n 0, 1) := by decide +kernel
theorem d_J_matchesBySigns_33 : decode b_J_matchesBySigns 33 = .ok (.getfield 14, 3) := by decide +kernel
theorem d_J_matchesBySigns_36 : decode b_J_matchesBySigns 36 = .ok (.getfield 114, 3) := by decide +kernel
theorem d_J_matchesBySigns_39 : decode b_J_matchesBySigns 39 = .ok (.iload_n 1, 1) := by decide +kernel
theorem d_J_matchesBySigns_40 : decode b_J_matchesBySigns 40 = .ok (.iaload, 1) := by decide +kernel
theorem d_J_matchesBySigns_41 : decode b_J_matchesBySigns 41 = .ok (.istore_n 3, 1) := by decide +kernel
theorem d_J_matchesBySigns_42 : decode b_J_matchesBySigns 42 = .ok (.aload_n 0, 1) := by decide +kernel
theorem d_J_matchesBySigns_43 : decode b_J_matchesBySigns 43 = .ok (.getfield 14, 3) := by decide +kernel
theorem d_J_matchesBySigns_46 : decode b_J_matchesBySigns 46 = .ok (.getfield 118, 3) := by decide +kernel
theorem d_J_matchesBySigns_49 : decode b_J_matchesBySigns 49 = .ok (.iload_n 1, 1) := by decide +kernel
theorem d_J_matchesBySigns_50 : decode b_J_matchesBySigns 50 = .ok (.iaload, 1) := by decide +kernel
theorem d_J_matchesBySigns_51 : decode b_J_matchesBySigns 51 = .ok (.iload_n 3, 1) := by decide +kernel
theorem d_J_matchesBySigns_52 : decode b_J_matchesBySigns 52 = .ok (.isub, 1) := by decide +kernel
theorem d_J_matchesBySigns_53 : decode b_J_matchesBySigns 53 = .ok (.aload_n 0, 1) := by decide +kernel
theorem d_J_matchesBySigns_54 : decode b_J_matchesBySigns 54 = .ok (.getfield 27, 3) := by decide +kernel
theorem d_J_matchesBySigns_57 : decode b_J_matchesBySigns 57 = .ok (.arraylength, 1) := by decide +kernel
theorem d_J_matchesBySigns_58 : decode b_J_matchesBySigns 58 = .ok (.iconst 1, 1) := by decide +kernel
theorem d_J_matchesBySigns_59 : decode b_J_matchesBySigns 59 = .ok (.isub, 1) := by decide +kernel
theorem d_J_matchesBySigns_60 : decode b_J_matchesBySigns 60 = .ok (.invokestatic 121, 3) := by decide +kernel
theorem d_J_matchesBySigns_63 : decode b_J_matchesBySigns 63 = .ok (.istore 4, 2) := by decide +kernel
theorem d_J_matchesBySigns_65 : decode b_J_matchesBySigns 65 = .ok (.aload_n 0, 1) := by decide +kernel
theorem d_J_matchesBySigns_66 : decode b_J_matchesBySigns 66 = .ok (.getfield 27, 3) := by decide +kernel
theorem d_J_matchesBySigns_69 : decode b_J_matchesBySigns 69 = .ok (.iconst 0, 1) := by decide +kernel
theorem d_J_matchesBySigns_70 : decode b_J_matchesBySigns 70 = .ok (.iconst 1, 1) := by decide +kernel
theorem d_J_matchesBySigns_71 : decode b_J_matchesBySigns 71 = .ok (.bastore, 1) := by decide +kernel
theorem d_J_matchesBySigns_72 : decode b_J_matchesBySigns 72 = .ok (.iconst 1, 1) := by decide +kernel
theorem d_J_matchesBySigns_73 : decode b_J_matchesBySigns 73 = .ok (.istore 5, 2) := by decide +kernel
theorem d_J_matchesBySigns_75 : decode b_J_matchesBySigns 75 = .ok (.iload 5, 2) := by decide +kernel
theorem d_J_matchesBySigns_77 : decode b_J_matchesBySigns 77 = .ok (.iload 4, 2) := by decide +kernel
theorem d_J_matchesBySigns_79 : decode b_J_matchesBySigns 79 = .ok (.if_icmp .gt 52, 3) := by decide +kernel
theorem d_J_matchesBySigns_82 : decode b_J_matchesBySigns 82 = .ok (.aload_n 0, 1) := by decide +kernel
theorem d_J_matchesBySigns_83 : decode b_J_matchesBySigns 83 = .ok (.getfield 27, 3) := by decide +kernel
theorem d_J_matchesBySigns_86 : decode b_J_matchesBySigns 86 = .ok (.iload 5, 2) := by decide +kernel
theorem d_J_matchesBySigns_88 : decode b_J_matchesBySigns 88 = .ok (.aload_n 0, 1) := by decide +kernel
theorem d_J_matchesBySigns_89 : decode b_J_matchesBySigns 89 = .ok (.getfield 27, 3) := by decide +kernel
theorem d_J_matchesBySigns_92 : decode b_J_matchesBySigns 92 = .ok (.iload 5, 2) := by decide +kernel
theorem d_J_matchesBySigns_94 : decode b_J_matchesBySigns 94 = .ok (.iconst 1, 1) := by decide +kernel
theorem d_J_matchesBySigns_95 : decode b_J_matchesBySigns 95 = .ok (.isub, 1) := by decide +kernel
theorem d_J_matchesBySigns_96 : decode b_J_matchesBySigns 96 = .ok (.baload, 1) := by decide +kernel
theorem d_J_matchesBySigns_97 : decode b_J_matchesBySigns 97 = .ok (.ifCond .eq 26, 3) := by decide +kernel
theorem d_J_matchesBySigns_100 : decode b_J_matchesBySigns 100 = .ok (.aload_n 0, 1) := by decide +kernel
theorem d_J_matchesBySigns_101 : decode b_J_matchesBySigns 101 = .ok (.getfield 14, 3) := by decide +kernel
theorem d_J_matchesBySigns_104 : decode b_J_matchesBySigns 104 = .ok (.getfield 127, 3) := by decide +kernel
theorem d_J_matchesBySigns_107 : decode b_J_matchesBySigns 107 = .ok (.iload_n 3, 1) := by decide +kernel
theorem d_J_matchesBySigns_108 : decode b_J_matchesBySigns 108 = .ok (.iload 5, 2) := by decide +kernel
theorem d_J_matchesBySigns_110 : decode b_J_matchesBySigns 110 = .ok (.iadd, 1) := by decide +kernel
theorem d_J_matchesBySigns_111 : decode b_J_matchesBySigns 111 = .ok (.iconst 1, 1) := by decide +kernel
theorem d_J_matchesBySigns_112 : decode b_J_matchesBySigns 112 = .ok (.isub, 1) := by decide +kernel
theorem d_J_matchesBySigns_113 : decode b_J_matchesBySigns 113 = .ok (.caload, 1) := by decide +kernel
theorem d_J_matchesBySigns_114 : decode b_J_matchesBySigns 114 = .ok (.bipush 42, 2) := by decide +kernel
theorem d_J_matchesBySigns_116 : decode b_J_matchesBySigns 116 = .ok (.if_icmp .ne 7, 3) := by decide +kernel
theorem d_J_matchesBySigns_119 : decode b_J_matchesBySigns 119 = .ok (.iconst 1, 1) := by decide +kernel
theorem d_J_matchesBySigns_120 : decode b_J_matchesBySigns 120 = .ok (.goto 4, 3) := by decide +kernel
theorem d_J_matchesBySigns_123 : decode b_J_matchesBySigns 123 = .ok (.iconst 0, 1) := by decide +kernel
theorem d_J_matchesBySigns_124 : decode b_J_matchesBySigns 124 = .ok (.bastore, 1) := by decide +kernel
theorem d_J_matchesBySigns_125 : decode b_J_matchesBySigns 125 = .ok (.iinc 5 1, 3) := by decide +kernel
theorem d_J_matchesBySigns_128 : decode b_J_matchesBySigns 128 = .ok (.goto (-53), 3) := by decide +kernel
theorem d_J_matchesBySigns_131 : decode b_J_matchesBySigns 131 = .ok (.aload_n 0, 1) := by decide +kernel
theorem d_J_matchesBySigns_132 : decode b_J_matchesBySigns 132 = .ok (.getfield 20, 3) := by decide +kernel
theorem d_J_matchesBySigns_135 : decode b_J_matchesBySigns 135 = .ok (.getfield 114, 3) := by decide +kernel
theorem d_J_matchesBySigns_138 : decode b_J_matchesBySigns 138 = .ok (.iload_n 2, 1) := by decide +kernel
theorem d_J_matchesBySigns_139 : decode b_J_matchesBySigns 139 = .ok (.iaload, 1) := by decide +kernel
theorem d_J_matchesBySigns_140 : decode b_J_matchesBySigns 140 = .ok (.istore 5, 2) := by decide +kernel
theorem d_J_matchesBySigns_142 : decode b_J_matchesBySigns 142 = .ok (.iload 5, 2) := by decide +kernel
theorem d_J_matchesBySigns_144 : decode b_J_matchesBySigns 144 = .ok (.aload_n 0, 1) := by decide +kernel
theorem d_J_matchesBySigns_145 : decode b_J_matchesBySigns 145 = .ok (.getfield 20, 3) := by decide +kernel
theorem d_J_matchesBySigns_148 : decode b_J_matchesBySigns 148 = .ok (.getfield 118, 3) := by decide +kernel
theorem d_J_matchesBySigns_151 : decode b_J_matchesBySigns 151 = .ok (.iload_n 2, 1) := by decide +kernel
theorem d_J_matchesBySigns_152 : decode b_J_matchesBySigns 152 = .ok (.iaload, 1) := by decide +kernel
theorem d_J_matchesBySigns_153 : decode b_J_matchesBySigns 153 = .ok (.if_icmp .ge 26, 3) := by decide +kernel
theorem d_J_matchesBySigns_156 : decode b_J_matchesBySigns 156 = .ok (.aload_n 0, 1) := by decide +kernel
theorem d_J_matchesBySigns_157 : decode b_J_matchesBySigns 157 = .ok (.aload_n 0, 1) := by decide +kernel
theorem d_J_matchesBySigns_158 : decode b_J_matchesBySigns 158 = .ok (.getfield 20, 3) := by decide +kernel
theorem d_J_matchesBySigns_161 : decode b_J_matchesBySigns 161 = .ok (.getfield 127, 3) := by decide +kernel
theorem d_J_matchesBySigns_164 : decode b_J_matchesBySigns 164 = .ok (.iload 5, 2) := by decide +kernel
theorem d_J_matchesBySigns_166 : decode b_J_matchesBySigns 166 = .ok (.caload, 1) := by decide +kernel
theorem d_J_matchesBySigns_167 : decode b_J_matchesBySigns 167 = .ok (.iload_n 3, 1) := by decide +kernel
theorem d_J_matchesBySigns_168 : decode b_J_matchesBySigns 168 = .ok (.iload 4, 2) := by decide +kernel
theorem d_J_matchesBySigns_170 : decode b_J_matchesBySigns 170 = .ok (.invokevirtual 131, 3) := by decide +kernel
theorem d_J_matchesBySigns_173 : decode b_J_matchesBySigns 173 = .ok (.iinc 5 1, 3) := by decide +kernel
theorem d_J_matchesBySigns_176 : decode b_J_matchesBySigns 176 = .ok (.goto (-34), 3) := by decide +kernel
theorem d_J_matchesBySigns_179 : decode b_J_matchesBySigns 179 = .ok (.aload_n 0, 1) := by decide +kernel
theorem d_J_matchesBySigns_180 : decode b_J_matchesBySigns 180 = .ok (.getfield 27, 3) := by decide +kernel
theorem d_J_matchesBySigns_183 : decode b_J_matchesBySigns 183 = .ok (.iload 4, 2) := by decide +kernel
theorem d_J_matchesBySigns_185 : decode b_J_matchesBySigns 185 = .ok (.baload, 1) := by decide +kernel
theorem d_J_matchesBySigns_186 : decode b_J_matchesBySigns 186 = .ok (.ireturn, 1) := by decide +kernel
set_option maxHeartbeats 4000000 in
set_option maxRecDepth 100000 in
theorem c_J_matchesBySigns (l : Launch) (dC : Nat → ClassId) (dI : Nat → Nat → Nat) (kA : Nat → ClassId) (sz : Nat) (jo : Nat) (wo : Nat) (wl : Nat) (wb : Nat) (we : Nat) (wn : Nat) (wk : Nat) (wz : Int) (lt : Nat → Int) (sb : Nat → Int) (se : Nat → Int) (wo2 : Nat) (wl2 : Nat) (wb2 : Nat) (we2 : Nat) (wn2 : Nat) (wk2 : Nat) (wz2 : Int) (lt2 : Nat → Int) (sb2 : Nat → Int) (se2 : Nat → Int) (jm : Nat) (jr : Nat) (jy : Int) (rc : Nat → Bool) (ws : List (List Int)) (ws2 : List (List Int)) (i : Int) (j : Int) (hW : WR wn wk wz lt sb se) (hW2 : WR wn2 wk2 wz2 lt2 sb2 se2) (hWL : WL ws wz lt sb se) (hWL2 : WL ws2 wz2 lt2 sb2 se2) (hw1 : wn ≤ 100) (hi : 0 ≤ i ∧ i < wz) (hj : 0 ≤ j ∧ j < wz2) : Met l y_J_matchesBySigns (wsy y_J_matchesBySigns b_J_matchesBySigns 6 (some .boolean)) (rmd 1 0 0) (li_Pr (dC, dI) CL (TY kA) [.ref jo, .int (iI i), .int (iI j)] (fun h => h.size = sz ∧ va_P (dC, dI) CL [(jo, .inr (4, [.ref wo, .ref wo2, .ref jm, .ref jr, .int (iI jy)])), (jr, .inl (kA 2, 101, .inl (zI rc))), (wo, .inr (9, [.ref wl, .ref wb, .ref we, .int (iI wz)])), (wl, .inl (kA 1, wn, .inl (aI lt))), (wb, .inl (kA 0, wk, .inl (aI sb))), (we, .inl (kA 0, wk, .inl (aI se))), (wo2, .inr (9, [.ref wl2, .ref wb2, .ref we2, .int (iI wz2)])), (wl2, .inl (kA 1, wn2, .inl (aI lt2))), (wb2, .inl (kA 0, wk2, .inl (aI sb2))), (we2, .inl (kA 0, wk2, .inl (aI se2)))] h ∧ va_D (fun q => dI 100 0 ≤ q) [(jo, .inr (4, [.ref wo, .ref wo2, .ref jm, .ref jr, .int (iI jy)])), (jr, .inl (kA 2, 101, .inl (zI rc))), (wo, .inr (9, [.ref wl, .ref wb, .ref we, .int (iI wz)])), (wl, .inl (kA 1, wn, .inl (aI lt))), (wb, .inl (kA 0, wk, .inl (aI sb))), (we, .inl (kA 0, wk, .inl (aI se))), (wo2, .inr (9, [.ref wl2, .ref wb2, .ref we2, .int (iI wz2)])), (wl2, .inl (kA 1, wn2, .inl (aI lt2))), (wb2, .inl (kA 0, wk2, .inl (aI sb2))), (we2, .inl (kA 0, wk2, .inl (aI se2)))] ∧ (fun _ => True) h)) (li_Qw (S := (Nat → Bool)) (dC, dI) CL (fun _ => True) (fun u => some (.int (iI (bI (tbL (ws.getD i.toNat []) (ws2.getD j.toNat [])))))) (fun u => [(jo, .inr (4, [.ref wo, .ref wo2, .ref jm, .ref jr, .int (iI jy)])), (jr, .inl (kA 2, 101, .inl (zI u))), (wo, .inr (9, [.ref wl, .ref wb, .ref we, .int (iI wz)])), (wl, .inl (kA 1, wn, .inl (aI lt))), (wb, .inl (kA 0, wk, .inl (aI sb))), (we, .inl (kA 0, wk, .inl (aI se))), (wo2, .inr (9, [.ref wl2, .ref wb2, .ref we2, .int (iI wz2)])), (wl2, .inl (kA 1, wn2, .inl (aI lt2))), (wb2, .inl (kA 0, wk2, .inl (aI sb2))), (we2, .inl (kA 0, wk2, .inl (aI se2)))]) (va_A [(jo, .inr (4, [.ref wo, .ref wo2, .ref jm, .ref jr, .int (iI jy)])), (jr, .inl (kA 2, 101, .inl (zI rc))), (wo, .inr (9, [.ref wl, .ref wb, .ref we, .int (iI wz)])), (wl, .inl (kA 1, wn, .inl (aI lt))), (wb, .inl (kA 0, wk, .inl (aI sb))), (we, .inl (kA 0, wk, .inl (aI se))), (wo2, .inr (9, [.ref wl2, .ref wb2, .ref we2, .int (iI wz2)])), (wl2, .inl (kA 1, wn2, .inl (aI lt2))), (wb2, .inl (kA 0, wk2, .inl (aI sb2))), (we2, .inl (kA 0, wk2, .inl (aI se2)))] sz)) 0 0 (va_A [(jo, .inr (4, [.ref wo, .ref wo2, .ref jm, .ref jr, .int (iI jy)])), (jr, .inl (kA 2, 101, .inl (zI rc))), (wo, .inr (9, [.ref wl, .ref wb, .ref we, .int (iI wz)])), (wl, .inl (kA 1, wn, .inl (aI lt))), (wb, .inl (kA 0, wk, .inl (aI sb))), (we, .inl (kA 0, wk, .inl (aI se))), (wo2, .inr (9, [.ref wl2, .ref wb2, .ref we2, .int (iI wz2)])), (wl2, .inl (kA 1, wn2, .inl (aI lt2))), (wb2, .inl (kA 0, wk2, .inl (aI sb2))), (we2, .inl (kA 0, wk2, .inl (aI se2)))] sz) := by
  refine li_mwi (r := fun (u : (Nat → Bool)) => bI (tbL (ws.getD i.toNat []) (ws2.getD j.toNat []))) (by decide) (Nat.le_of_ble_eq_true rfl) (fun u _ => by exact li_narZ2 _) ?_
  intro p e s m args below meth c Q A C hP hD hBx hK hN hG hA hAi hAN fin ls hl
  obtain ⟨hx, hb, hr, hml, hown, hts, hlocks, hin⟩ := C
  have hown : s.vm.findClass R_J = some m.cls := hown
  have hl : lv_has ls 6 [(0, .ref jo), (1, .int (iI i)), (2, .int (iI j))] := hl
  obtain ⟨hwn, hwk, hwz, hlt, hsb, hse⟩ := id hW
  obtain ⟨hwn2, hwk2, hwz2, hlt2, hsb2, hse2⟩ := id hW2
  have hgi := hWL.get hi.1 hi.2
  have hgj := hWL2.get hj.1 hj.2
  have hni := hse i.toNat
  have hnj := hse2 j.toNat
  suffices h9 : ∀ (H : Heap) (locs : List Loc), H = s.heap → locs = [] → W p l e (rmd 1 0 0) s m args below meth c H locs 0 0 Q (F0 m 0 ls []) from h9 _ _ rfl rfl
  intro H locs eH eL
  have hP : va_P (dC, dI) CL [(jo, .inr (4, [.ref wo, .ref wo2, .ref jm, .ref jr, .int (iI jy)])), (jr, .inl (kA 2, 101, .inl (zI rc))), (wo, .inr (9, [.ref wl, .ref wb, .ref we, .int (iI wz)])), (wl, .inl (kA 1, wn, .inl (aI lt))), (wb, .inl (kA 0, wk, .inl (aI sb))), (we, .inl (kA 0, wk, .inl (aI se))), (wo2, .inr (9, [.ref wl2, .ref wb2, .ref we2, .int (iI wz2)])), (wl2, .inl (kA 1, wn2, .inl (aI lt2))), (wb2, .inl (kA 0, wk2, .inl (aI sb2))), (we2, .inl (kA 0, wk2, .inl (aI se2)))] H := by rw [eH]; exact hP
  have hS : va_S A s.heap H locs := by rw [eH, eL]; exact va_S.rf
  refine lv_iload_n hx hb d_J_matchesBySigns_0 rfl (lv_at hl 1 rfl) ?_
  refine li_if_lt (tgt := 30) hx hb d_J_matchesBySigns_1 (by decide) (by omega) (fun c1 => ?_) (fun c1 => ?_)
  · have _q := c1
    exact absurd c1 (by omega)
  · have _q := c1
    refine lv_iload_n hx hb d_J_matchesBySigns_4 rfl (lv_at hl 1 rfl) ?_
    refine lv_aload_n hx hb d_J_matchesBySigns_5 rfl (lv_at hl 0 rfl) ?_
    refine gf_J_14 hx hb hts hown hK hP 0 rfl rfl d_J_matchesBySigns_6 ?_
    refine gf_J_73 hx hb hts hN hown hK hP 2 rfl rfl d_J_matchesBySigns_9 ?_
    refine li_icmp_ge (tgt := 30) hx hb d_J_matchesBySigns_12 (by decide) (by omega) (by omega) (fun c2 => ?_) (fun c2 => ?_)
    · have _q := c2
      exact absurd c2 (by omega)
    · have _q := c2
      refine lv_iload_n hx hb d_J_matchesBySigns_15 rfl (lv_at hl 2 rfl) ?_
      refine li_if_lt (tgt := 30) hx hb d_J_matchesBySigns_16 (by decide) (by omega) (fun c3 => ?_) (fun c3 => ?_)
      · have _q := c3
        exact absurd c3 (by omega)
      · have _q := c3
        refine lv_iload_n hx hb d_J_matchesBySigns_19 rfl (lv_at hl 2 rfl) ?_
        refine lv_aload_n hx hb d_J_matchesBySigns_20 rfl (lv_at hl 0 rfl) ?_
        refine gf_J_20 hx hb hts hown hK hP 0 rfl rfl d_J_matchesBySigns_21 ?_
        refine gf_J_73 hx hb hts hN hown hK hP 6 rfl rfl d_J_matchesBySigns_24 ?_
        refine li_icmp_lt (tgt := 32) hx hb d_J_matchesBySigns_27 (by decide) (by omega) (by omega) (fun c4 => ?_) (fun c4 => ?_)
        · have _q := c4
          refine lv_aload_n hx hb d_J_matchesBySigns_32 rfl (lv_at hl 0 rfl) ?_
          refine gf_J_14 hx hb hts hown hK hP 0 rfl rfl d_J_matchesBySigns_33 ?_
          refine gf_J_114 hx hb hts hN hown hK hP 2 rfl rfl d_J_matchesBySigns_36 ?_
          refine lv_iload_n hx hb d_J_matchesBySigns_39 rfl (lv_at hl 1 rfl) ?_
          refine li_iald hx hb hK hP 4 0 rfl rfl (by omega) (by omega) (by omega) d_J_matchesBySigns_40 ?_
          have f5 := hsb i.toNat
          refine li_nm (fun st est => ?_)
          refine lv_istore_n (lv' := [(3, .int (iI st)), (0, .ref jo), (1, .int (iI i)), (2, .int (iI j))]) hx hb d_J_matchesBySigns_41 rfl hl (by decide) rfl (fun ls hl => ?_)
          refine lv_aload_n hx hb d_J_matchesBySigns_42 rfl (lv_at hl 1 rfl) ?_
          refine gf_J_14 hx hb hts hown hK hP 0 rfl rfl d_J_matchesBySigns_43 ?_
          refine gf_J_118 hx hb hts hN hown hK hP 2 rfl rfl d_J_matchesBySigns_46 ?_
          refine lv_iload_n hx hb d_J_matchesBySigns_49 rfl (lv_at hl 2 rfl) ?_
          refine li_iald hx hb hK hP 5 0 rfl rfl (by omega) (by omega) (by omega) d_J_matchesBySigns_50 ?_
          have f6 := hse i.toNat
          refine lv_iload_n hx hb d_J_matchesBySigns_51 rfl (lv_at hl 0 rfl) ?_
          refine li_isub hx hb d_J_matchesBySigns_52 ?_
          refine lv_aload_n hx hb d_J_matchesBySigns_53 rfl (lv_at hl 1 rfl) ?_
          refine gf_J_27 hx hb hts hown hK hP 0 rfl rfl d_J_matchesBySigns_54 ?_
          refine li_alen hx hb hK hP 1 2 rfl rfl d_J_matchesBySigns_57 ?_
          refine lv_iconst (v := iI 1) hx hb d_J_matchesBySigns_58 rfl ?_
          refine li_isub hx hb d_J_matchesBySigns_59 ?_
          refine li_mmin hx hb (hml.trans hl.1.symm) hown (hts (Cond.methodLink R_J 121 Lib.Math.min.name) (tk4 4 rfl rfl)) (hts (Cond.static Lib.Math.min.name) (tk2 85 rfl rfl)) (hts (Cond.initialized "java/lang/Math") (tk1 8 rfl rfl)) (hts (Cond.code Lib.Math.min.name Lib.Math.min.code 2 (some .int)) (tk2 86 rfl rfl)) (Nat.le_of_ble_eq_true rfl) (Nat.le_of_ble_eq_true rfl) (by show 0 ≤ 0; omega) (by show 0 ≤ 0; omega) (by omega) (by omega) d_J_matchesBySigns_60 ?_
          refine li_nm (fun mn emn => ?_)
          refine lv_istore (lv' := [(4, .int (iI mn)), (3, .int (iI st)), (0, .ref jo), (1, .int (iI i)), (2, .int (iI j))]) hx hb d_J_matchesBySigns_63 hl (by decide) rfl (fun ls hl => ?_)
          have hmn : mn = se i.toNat - st := by omega
          refine lv_aload_n hx hb d_J_matchesBySigns_65 rfl (lv_at hl 2 rfl) ?_
          refine gf_J_27 hx hb hts hown hK hP 0 rfl rfl d_J_matchesBySigns_66 ?_
          refine lv_iconst (v := iI 0) hx hb d_J_matchesBySigns_69 rfl ?_
          refine lv_iconst (v := iI 1) hx hb d_J_matchesBySigns_70 rfl ?_
          refine W.eq (g2 := F0 m 71 ls [.int (iI (bI true)), .int (iI 0), .ref jr]) rfl ?_
          refine li_zast hx hb hK hP hD hS 1 2 rfl rfl (by omega) (by omega) (by omega) d_J_matchesBySigns_71 (fun H locs hP hD hS => ?_)
          have hP : va_P (dC, dI) CL [(jo, .inr (4, [.ref wo, .ref wo2, .ref jm, .ref jr, .int (iI jy)])), (jr, .inl (kA 2, 101, .inl (zI (va_up rc (((0) : Int).toNat) true)))), (wo, .inr (9, [.ref wl, .ref wb, .ref we, .int (iI wz)])), (wl, .inl (kA 1, wn, .inl (aI lt))), (wb, .inl (kA 0, wk, .inl (aI sb))), (we, .inl (kA 0, wk, .inl (aI se))), (wo2, .inr (9, [.ref wl2, .ref wb2, .ref we2, .int (iI wz2)])), (wl2, .inl (kA 1, wn2, .inl (aI lt2))), (wb2, .inl (kA 0, wk2, .inl (aI sb2))), (we2, .inl (kA 0, wk2, .inl (aI se2)))] H := hP
          have hD : va_D A [(jo, .inr (4, [.ref wo, .ref wo2, .ref jm, .ref jr, .int (iI jy)])), (jr, .inl (kA 2, 101, .inl (zI (va_up rc (((0) : Int).toNat) true)))), (wo, .inr (9, [.ref wl, .ref wb, .ref we, .int (iI wz)])), (wl, .inl (kA 1, wn, .inl (aI lt))), (wb, .inl (kA 0, wk, .inl (aI sb))), (we, .inl (kA 0, wk, .inl (aI se))), (wo2, .inr (9, [.ref wl2, .ref wb2, .ref we2, .int (iI wz2)])), (wl2, .inl (kA 1, wn2, .inl (aI lt2))), (wb2, .inl (kA 0, wk2, .inl (aI sb2))), (we2, .inl (kA 0, wk2, .inl (aI se2)))] := hD
          refine lv_iconst (v := iI 1) hx hb d_J_matchesBySigns_72 rfl ?_
          refine lv_istore (lv' := [(5, .int (iI 1)), (4, .int (iI mn)), (3, .int (iI st)), (0, .ref jo), (1, .int (iI i)), (2, .int (iI j))]) hx hb d_J_matchesBySigns_73 hl (by decide) rfl (fun ls hl => ?_)
          have K_75 : ∀ (nn_75 : Nat) (q : Int) (vf : Nat → Bool), (1 ≤ q ∧ q ≤ mn + 1) → (∀ k : Nat, (k : Int) < q → vf k = tbI (fun k => lt (st.toNat + k)) k) → ((mn + 1 - (q : Int)).toNat < nn_75) → ∀ (H : Heap) (locs : List Loc), va_P (dC, dI) CL [(jo, .inr (4, [.ref wo, .ref wo2, .ref jm, .ref jr, .int (iI jy)])), (jr, .inl (kA 2, 101, .inl (zI vf))), (wo, .inr (9, [.ref wl, .ref wb, .ref we, .int (iI wz)])), (wl, .inl (kA 1, wn, .inl (aI lt))), (wb, .inl (kA 0, wk, .inl (aI sb))), (we, .inl (kA 0, wk, .inl (aI se))), (wo2, .inr (9, [.ref wl2, .ref wb2, .ref we2, .int (iI wz2)])), (wl2, .inl (kA 1, wn2, .inl (aI lt2))), (wb2, .inl (kA 0, wk2, .inl (aI sb2))), (we2, .inl (kA 0, wk2, .inl (aI se2)))] H → va_D A [(jo, .inr (4, [.ref wo, .ref wo2, .ref jm, .ref jr, .int (iI jy)])), (jr, .inl (kA 2, 101, .inl (zI vf))), (wo, .inr (9, [.ref wl, .ref wb, .ref we, .int (iI wz)])), (wl, .inl (kA 1, wn, .inl (aI lt))), (wb, .inl (kA 0, wk, .inl (aI sb))), (we, .inl (kA 0, wk, .inl (aI se))), (wo2, .inr (9, [.ref wl2, .ref wb2, .ref we2, .int (iI wz2)])), (wl2, .inl (kA 1, wn2, .inl (aI lt2))), (wb2, .inl (kA 0, wk2, .inl (aI sb2))), (we2, .inl (kA 0, wk2, .inl (aI se2)))] → va_S A s.heap H locs → ∀ ls : Array Slot, lv_has ls 6 [(5, .int (iI q)), (4, .int (iI mn)), (3, .int (iI st)), (0, .ref jo), (1, .int (iI i)), (2, .int (iI j))] → W p l e (rmd 1 0 0) s m args below meth c H locs 0 0 Q (F0 m 75 ls []) := by
            intro nn_75
            induction nn_75 with
            | zero => intro q vf hq9 hlo hm; exact absurd hm (Nat.not_lt_zero _)
            | succ nn_75 ih_75 =>
              intro q vf hq9 hlo hm_75 H locs hP hD hS ls hl
              refine lv_iload hx hb d_J_matchesBySigns_75 (lv_at hl 0 rfl) ?_
              refine lv_iload hx hb d_J_matchesBySigns_77 (lv_at hl 1 rfl) ?_
              refine li_icmp_gt (tgt := 131) hx hb d_J_matchesBySigns_79 (by decide) (by omega) (by omega) (fun c7 => ?_) (fun c7 => ?_)
              · have _q := c7
                refine lv_aload_n hx hb d_J_matchesBySigns_131 rfl (lv_at hl 3 rfl) ?_
                refine gf_J_20 hx hb hts hown hK hP 0 rfl rfl d_J_matchesBySigns_132 ?_
                refine gf_J_114 hx hb hts hN hown hK hP 6 rfl rfl d_J_matchesBySigns_135 ?_
                refine lv_iload_n hx hb d_J_matchesBySigns_138 rfl (lv_at hl 5 rfl) ?_
                refine li_iald hx hb hK hP 8 0 rfl rfl (by omega) (by omega) (by omega) d_J_matchesBySigns_139 ?_
                have f8 := hsb2 j.toNat
                refine li_nm (fun p0 ep0 => ?_)
                refine lv_istore (lv' := [(5, .int (iI p0)), (4, .int (iI mn)), (3, .int (iI st)), (0, .ref jo), (1, .int (iI i)), (2, .int (iI j))]) hx hb d_J_matchesBySigns_140 hl (by decide) rfl (fun ls hl => ?_)
                have K_142 : ∀ (nn_142 : Nat) (pp : Int) (vg : Nat → Bool), (sb2 j.toNat ≤ pp ∧ pp ≤ se2 j.toNat) → (∀ k : Nat, (k : Int) ≤ mn → vg k = tbG (fun k => lt (st.toNat + k)) (fun k => lt2 ((sb2 j.toNat).toNat + k)) (pp - sb2 j.toNat).toNat k) → ((se2 j.toNat - pp).toNat < nn_142) → ∀ (H : Heap) (locs : List Loc), va_P (dC, dI) CL [(jo, .inr (4, [.ref wo, .ref wo2, .ref jm, .ref jr, .int (iI jy)])), (jr, .inl (kA 2, 101, .inl (zI vg))), (wo, .inr (9, [.ref wl, .ref wb, .ref we, .int (iI wz)])), (wl, .inl (kA 1, wn, .inl (aI lt))), (wb, .inl (kA 0, wk, .inl (aI sb))), (we, .inl (kA 0, wk, .inl (aI se))), (wo2, .inr (9, [.ref wl2, .ref wb2, .ref we2, .int (iI wz2)])), (wl2, .inl (kA 1, wn2, .inl (aI lt2))), (wb2, .inl (kA 0, wk2, .inl (aI sb2))), (we2, .inl (kA 0, wk2, .inl (aI se2)))] H → va_D A [(jo, .inr (4, [.ref wo, .ref wo2, .ref jm, .ref jr, .int (iI jy)])), (jr, .inl (kA 2, 101, .inl (zI vg))), (wo, .inr (9, [.ref wl, .ref wb, .ref we, .int (iI wz)])), (wl, .inl (kA 1, wn, .inl (aI lt))), (wb, .inl (kA 0, wk, .inl (aI sb))), (we, .inl (kA 0, wk, .inl (aI se))), (wo2, .inr (9, [.ref wl2, .ref wb2, .ref we2, .int (iI wz2)])), (wl2, .inl (kA 1, wn2, .inl (aI lt2))), (wb2, .inl (kA 0, wk2, .inl (aI sb2))), (we2, .inl (kA 0, wk2, .inl (aI se2)))] → va_S A s.heap H locs → ∀ ls : Array Slot, lv_has ls 6 [(5, .int (iI pp)), (4, .int (iI mn)), (3, .int (iI st)), (0, .ref jo), (1, .int (iI i)), (2, .int (iI j))] → W p l e (rmd 1 0 0) s m args below meth c H locs 0 0 Q (F0 m 142 ls []) := by
                  intro nn_142
                  induction nn_142 with
                  | zero => intro pp vg hp9 hlg hm; exact absurd hm (Nat.not_lt_zero _)
                  | succ nn_142 ih_142 =>
                    intro pp vg hp9 hlg hm_142 H locs hP hD hS ls hl
                    refine lv_iload hx hb d_J_matchesBySigns_142 (lv_at hl 0 rfl) ?_
                    refine lv_aload_n hx hb d_J_matchesBySigns_144 rfl (lv_at hl 3 rfl) ?_
                    refine gf_J_20 hx hb hts hown hK hP 0 rfl rfl d_J_matchesBySigns_145 ?_
                    refine gf_J_118 hx hb hts hN hown hK hP 6 rfl rfl d_J_matchesBySigns_148 ?_
                    refine lv_iload_n hx hb d_J_matchesBySigns_151 rfl (lv_at hl 5 rfl) ?_
                    refine li_iald hx hb hK hP 9 0 rfl rfl (by omega) (by omega) (by omega) d_J_matchesBySigns_152 ?_
                    have f9 := hse2 j.toNat
                    refine li_icmp_ge (tgt := 179) hx hb d_J_matchesBySigns_153 (by decide) (by omega) (by omega) (fun c10 => ?_) (fun c10 => ?_)
                    · have _q := c10
                      refine lv_aload_n hx hb d_J_matchesBySigns_179 rfl (lv_at hl 3 rfl) ?_
                      refine gf_J_27 hx hb hts hown hK hP 0 rfl rfl d_J_matchesBySigns_180 ?_
                      refine lv_iload hx hb d_J_matchesBySigns_183 (lv_at hl 1 rfl) ?_
                      refine li_zald hx hb hK hP 1 2 rfl rfl (by omega) (by omega) (by omega) d_J_matchesBySigns_185 ?_
                      exact fin (vg) _ _ _ _ _ (by rw [hlg mn.toNat (by omega)]; unfold tbL; rw [← hgi.1, ← hgj.1, wdL_len, wdL_len, show pp = se2 j.toNat by omega, show mn.toNat = (se i.toNat - sb i.toNat).toNat by omega]; exact congrArg bI (tbG_c _ _ (fun k hk => by (rw [wdL_get hk, est])) (fun k hk => by rw [wdL_get hk]))) (by trivial) (by first | exact hP | (subst_vars; exact hP)) (by first | exact hD | (subst_vars; exact hD)) hS d_J_matchesBySigns_186
                    · have _q := c10
                      refine lv_aload_n hx hb d_J_matchesBySigns_156 rfl (lv_at hl 3 rfl) ?_
                      refine lv_aload_n hx hb d_J_matchesBySigns_157 rfl (lv_at hl 3 rfl) ?_
                      refine gf_J_20 hx hb hts hown hK hP 0 rfl rfl d_J_matchesBySigns_158 ?_
                      refine gf_J_127 hx hb hts hN hown hK hP 6 rfl rfl d_J_matchesBySigns_161 ?_
                      refine lv_iload hx hb d_J_matchesBySigns_164 (lv_at hl 0 rfl) ?_
                      refine li_cald hx hb hK hP 7 1 rfl rfl (by omega) (by omega) (by omega) d_J_matchesBySigns_166 ?_
                      have f11 := hlt2 pp.toNat
                      refine lv_iload_n hx hb d_J_matchesBySigns_167 rfl (lv_at hl 2 rfl) ?_
                      refine lv_iload hx hb d_J_matchesBySigns_168 (lv_at hl 1 rfl) ?_
                      refine li_callw (wc := [(jo, .inr (4, [.ref wo, .ref wo2, .ref jm, .ref jr, .int (iI jy)])), (jr, .inl (kA 2, 101, .inl (zI vg))), (wo, .inr (9, [.ref wl, .ref wb, .ref we, .int (iI wz)])), (wl, .inl (kA 1, wn, .inl (aI lt))), (wb, .inl (kA 0, wk, .inl (aI sb))), (we, .inl (kA 0, wk, .inl (aI se)))]) (wr := [(wo2, .inr (9, [.ref wl2, .ref wb2, .ref we2, .int (iI wz2)])), (wl2, .inl (kA 1, wn2, .inl (aI lt2))), (wb2, .inl (kA 0, wk2, .inl (aI sb2))), (we2, .inl (kA 0, wk2, .inl (aI se2)))]) (va_runV (As := [.int (iI (lt2 pp.toNat)), .int (iI st), .int (iI mn)]) (rest := []) ⟨hx, hb, hml, hown, hts⟩ (c_J_readLetter l dC dI kA H.size jo wo wl wb we wn wk wz lt sb se wo2 jm jr jy vg (lt2 pp.toNat) st mn (by exact hW) (by omega) (by have h8 := hlt2 pp.toNat; omega)) (cw_J_131 hts rfl rfl ⟨Nat.le_of_ble_eq_true rfl, Nat.le_of_ble_eq_true rfl⟩) (li_preV (va_recv hK hP (ci := 4) (q0 := 0) rfl rfl) ⟨rfl, hP.sub [0, 1, 2, 3, 4, 5] rfl, (hD.sub [0, 1, 2, 3, 4, 5] (by decide) rfl).weaken (fun _ _ _ h => hAN _ h), trivial⟩ hK hN (hG.go hS hAN)) rfl rfl hl.1 rfl (lv_room (Nat.le_of_ble_eq_true rfl)) d_J_matchesBySigns_170 ⟨(by show 0 + 0 ≤ 0; omega), (by show 0 + 0 ≤ 0; omega)⟩) hP hD hS hA [0, 1, 2, 3, 4, 5] [6, 7, 8, 9] rfl rfl (by decide) (by decide) (fun f_r H locs hf_r hP hD hS _hk => ?_)
                      have hP : va_P (dC, dI) CL [(wo2, .inr (9, [.ref wl2, .ref wb2, .ref we2, .int (iI wz2)])), (wl2, .inl (kA 1, wn2, .inl (aI lt2))), (wb2, .inl (kA 0, wk2, .inl (aI sb2))), (we2, .inl (kA 0, wk2, .inl (aI se2))), (jo, .inr (4, [.ref wo, .ref wo2, .ref jm, .ref jr, .int (iI jy)])), (jr, .inl (kA 2, 101, .inl (zI f_r))), (wo, .inr (9, [.ref wl, .ref wb, .ref we, .int (iI wz)])), (wl, .inl (kA 1, wn, .inl (aI lt))), (wb, .inl (kA 0, wk, .inl (aI sb))), (we, .inl (kA 0, wk, .inl (aI se)))] H := hP
                      have hD : va_D A [(wo2, .inr (9, [.ref wl2, .ref wb2, .ref we2, .int (iI wz2)])), (wl2, .inl (kA 1, wn2, .inl (aI lt2))), (wb2, .inl (kA 0, wk2, .inl (aI sb2))), (we2, .inl (kA 0, wk2, .inl (aI se2))), (jo, .inr (4, [.ref wo, .ref wo2, .ref jm, .ref jr, .int (iI jy)])), (jr, .inl (kA 2, 101, .inl (zI f_r))), (wo, .inr (9, [.ref wl, .ref wb, .ref we, .int (iI wz)])), (wl, .inl (kA 1, wn, .inl (aI lt))), (wb, .inl (kA 0, wk, .inl (aI sb))), (we, .inl (kA 0, wk, .inl (aI se)))] := hD
                      have hp170 : ∀ q : Nat, (q : Int) ≤ mn → f_r q = tbS (fun k => lt (st.toNat + k)) (lt2 pp.toNat) vg q := hf_r
                      obtain ⟨p_n, ep_n⟩ : ∃ y_9 : Int, y_9 = pp + 1 := ⟨_, rfl⟩
                      refine lv_iinc (v := iI p_n) (lv' := [(5, .int (iI p_n)), (4, .int (iI mn)), (3, .int (iI st)), (0, .ref jo), (1, .int (iI i)), (2, .int (iI j))]) hx hb d_J_matchesBySigns_173 hl (k := 0) rfl (by rw [ep_n]; exact iI_add _ _) (by decide) rfl (fun ls hl => ?_)
                      refine lv_goto (tgt := 142) hx hb d_J_matchesBySigns_176 (by decide) ?_
                      exact ih_142 p_n f_r (by omega) (by intro k hk; rw [ep_n, show (pp + 1 - sb2 j.toNat).toNat = (pp - sb2 j.toNat).toNat + 1 by omega]; simp only [tbG]; rw [hp170 k hk, show (sb2 j.toNat).toNat + (pp - sb2 j.toNat).toNat = pp.toNat by omega]; exact tbS_c k (fun _ _ => rfl) (fun z hz => hlg z (by omega))) (by omega) _ _ (hP.sub [4, 5, 6, 7, 8, 9, 0, 1, 2, 3] rfl) (hD.sub [4, 5, 6, 7, 8, 9, 0, 1, 2, 3] (by decide) rfl) hS _ (lv_sub hl [0, 1, 2, 3, 4, 5] rfl)
                exact K_142 ((se2 j.toNat - p0).toNat + 1) p0 vf (by omega) (by intro k hk; rw [ep0, Int.sub_self]; exact hlo k (by omega)) (Nat.lt_succ_self _) _ _ hP hD hS _ (lv_sub hl [0, 1, 2, 3, 4, 5] rfl)
              · have _q := c7
                have hprv := hlo (q - 1).toNat (by omega)
                refine lv_aload_n hx hb d_J_matchesBySigns_82 rfl (lv_at hl 3 rfl) ?_
                refine gf_J_27 hx hb hts hown hK hP 0 rfl rfl d_J_matchesBySigns_83 ?_
                refine lv_iload hx hb d_J_matchesBySigns_86 (lv_at hl 0 rfl) ?_
                refine lv_aload_n hx hb d_J_matchesBySigns_88 rfl (lv_at hl 3 rfl) ?_
                refine gf_J_27 hx hb hts hown hK hP 0 rfl rfl d_J_matchesBySigns_89 ?_
                refine lv_iload hx hb d_J_matchesBySigns_92 (lv_at hl 0 rfl) ?_
                refine lv_iconst (v := iI 1) hx hb d_J_matchesBySigns_94 rfl ?_
                refine li_isub hx hb d_J_matchesBySigns_95 ?_
                refine li_zald hx hb hK hP 1 2 rfl rfl (by omega) (by omega) (by omega) d_J_matchesBySigns_96 ?_
                refine li_bz (tgt := 123) hx hb d_J_matchesBySigns_97 (by decide) (fun c13 => ?_) (fun c13 => ?_)
                · have _q := c13
                  refine lv_iconst (v := iI 0) hx hb d_J_matchesBySigns_123 rfl ?_
                  refine W.eq (g2 := F0 m 124 ls [.int (iI (bI false)), .int (iI q), .ref jr]) rfl ?_
                  refine li_zast hx hb hK hP hD hS 1 2 rfl rfl (by omega) (by omega) (by omega) d_J_matchesBySigns_124 (fun H locs hP hD hS => ?_)
                  have hP : va_P (dC, dI) CL [(jo, .inr (4, [.ref wo, .ref wo2, .ref jm, .ref jr, .int (iI jy)])), (jr, .inl (kA 2, 101, .inl (zI (va_up vf q.toNat false)))), (wo, .inr (9, [.ref wl, .ref wb, .ref we, .int (iI wz)])), (wl, .inl (kA 1, wn, .inl (aI lt))), (wb, .inl (kA 0, wk, .inl (aI sb))), (we, .inl (kA 0, wk, .inl (aI se))), (wo2, .inr (9, [.ref wl2, .ref wb2, .ref we2, .int (iI wz2)])), (wl2, .inl (kA 1, wn2, .inl (aI lt2))), (wb2, .inl (kA 0, wk2, .inl (aI sb2))), (we2, .inl (kA 0, wk2, .inl (aI se2)))] H := hP
                  have hD : va_D A [(jo, .inr (4, [.ref wo, .ref wo2, .ref jm, .ref jr, .int (iI jy)])), (jr, .inl (kA 2, 101, .inl (zI (va_up vf q.toNat false)))), (wo, .inr (9, [.ref wl, .ref wb, .ref we, .int (iI wz)])), (wl, .inl (kA 1, wn, .inl (aI lt))), (wb, .inl (kA 0, wk, .inl (aI sb))), (we, .inl (kA 0, wk, .inl (aI se))), (wo2, .inr (9, [.ref wl2, .ref wb2, .ref we2, .int (iI wz2)])), (wl2, .inl (kA 1, wn2, .inl (aI lt2))), (wb2, .inl (kA 0, wk2, .inl (aI sb2))), (we2, .inl (kA 0, wk2, .inl (aI se2)))] := hD
                  obtain ⟨q_n, eq_n⟩ : ∃ y_9 : Int, y_9 = q + 1 := ⟨_, rfl⟩
                  refine lv_iinc (v := iI q_n) (lv' := [(5, .int (iI q_n)), (4, .int (iI mn)), (3, .int (iI st)), (0, .ref jo), (1, .int (iI i)), (2, .int (iI j))]) hx hb d_J_matchesBySigns_125 hl (k := 0) rfl (by rw [eq_n]; exact iI_add _ _) (by decide) rfl (fun ls hl => ?_)
                  refine lv_goto (tgt := 75) hx hb d_J_matchesBySigns_128 (by decide) ?_
                  exact ih_75 q_n (va_up vf q.toNat false) (by omega) (by intro k hk; unfold va_up; by_cases q8 : k = q.toNat; (rw [if_pos q8, q8, show q.toNat = (q - 1).toNat + 1 by omega]; rw [tbI_e rfl, ← hprv]; first | (rw [show vf (q - 1).toNat = false by assumption]; rfl) | (rw [show vf (q - 1).toNat = true by assumption, Bool.true_and]; first | exact (decide_eq_true hpf).symm | exact (decide_eq_false hpf).symm)); (rw [if_neg q8]; exact hlo k (by omega))) (by omega) _ _ hP hD hS _ (lv_sub hl [0, 1, 2, 3, 4, 5] rfl)
                · have _q := c13
                  refine lv_aload_n hx hb d_J_matchesBySigns_100 rfl (lv_at hl 3 rfl) ?_
                  refine gf_J_14 hx hb hts hown hK hP 0 rfl rfl d_J_matchesBySigns_101 ?_
                  refine gf_J_127 hx hb hts hN hown hK hP 2 rfl rfl d_J_matchesBySigns_104 ?_
                  refine lv_iload_n hx hb d_J_matchesBySigns_107 rfl (lv_at hl 2 rfl) ?_
                  refine lv_iload hx hb d_J_matchesBySigns_108 (lv_at hl 0 rfl) ?_
                  refine li_iadd hx hb d_J_matchesBySigns_110 ?_
                  refine lv_iconst (v := iI 1) hx hb d_J_matchesBySigns_111 rfl ?_
                  refine li_isub hx hb d_J_matchesBySigns_112 ?_
                  refine li_cald hx hb hK hP 3 1 rfl rfl (by omega) (by omega) (by omega) d_J_matchesBySigns_113 ?_
                  have f14 := hlt (((st + q) - 1).toNat)
                  refine lv_bipush (v := iI 42) hx hb d_J_matchesBySigns_114 (by decide) ?_
                  refine li_icmp_ne (tgt := 123) hx hb d_J_matchesBySigns_116 (by decide) (by omega) (by omega) (fun c15 => ?_) (fun c15 => ?_)
                  · have _q := c15
                    have hpf : ¬ lt (st.toNat + (q - 1).toNat) = 42 := by (rw [show st.toNat + (q - 1).toNat = (st + q - 1).toNat by omega]; assumption)
                    refine lv_iconst (v := iI 0) hx hb d_J_matchesBySigns_123 rfl ?_
                    refine W.eq (g2 := F0 m 124 ls [.int (iI (bI false)), .int (iI q), .ref jr]) rfl ?_
                    refine li_zast hx hb hK hP hD hS 1 2 rfl rfl (by omega) (by omega) (by omega) d_J_matchesBySigns_124 (fun H locs hP hD hS => ?_)
                    have hP : va_P (dC, dI) CL [(jo, .inr (4, [.ref wo, .ref wo2, .ref jm, .ref jr, .int (iI jy)])), (jr, .inl (kA 2, 101, .inl (zI (va_up vf q.toNat false)))), (wo, .inr (9, [.ref wl, .ref wb, .ref we, .int (iI wz)])), (wl, .inl (kA 1, wn, .inl (aI lt))), (wb, .inl (kA 0, wk, .inl (aI sb))), (we, .inl (kA 0, wk, .inl (aI se))), (wo2, .inr (9, [.ref wl2, .ref wb2, .ref we2, .int (iI wz2)])), (wl2, .inl (kA 1, wn2, .inl (aI lt2))), (wb2, .inl (kA 0, wk2, .inl (aI sb2))), (we2, .inl (kA 0, wk2, .inl (aI se2)))] H := hP
                    have hD : va_D A [(jo, .inr (4, [.ref wo, .ref wo2, .ref jm, .ref jr, .int (iI jy)])), (jr, .inl (kA 2, 101, .inl (zI (va_up vf q.toNat false)))), (wo, .inr (9, [.ref wl, .ref wb, .ref we, .int (iI wz)])), (wl, .inl (kA 1, wn, .inl (aI lt))), (wb, .inl (kA 0, wk, .inl (aI sb))), (we, .inl (kA 0, wk, .inl (aI se))), (wo2, .inr (9, [.ref wl2, .ref wb2, .ref we2, .int (iI wz2)])), (wl2, .inl (kA 1, wn2, .inl (aI lt2))), (wb2, .inl (kA 0, wk2, .inl (aI sb2))), (we2, .inl (kA 0, wk2, .inl (aI se2)))] := hD
                    obtain ⟨q_n, eq_n⟩ : ∃ y_9 : Int, y_9 = q + 1 := ⟨_, rfl⟩
                    refine lv_iinc (v := iI q_n) (lv' := [(5, .int (iI q_n)), (4, .int (iI mn)), (3, .int (iI st)), (0, .ref jo), (1, .int (iI i)), (2, .int (iI j))]) hx hb d_J_matchesBySigns_125 hl (k := 0) rfl (by rw [eq_n]; exact iI_add _ _) (by decide) rfl (fun ls hl => ?_)
                    refine lv_goto (tgt := 75) hx hb d_J_matchesBySigns_128 (by decide) ?_
                    exact ih_75 q_n (va_up vf q.toNat false) (by omega) (by intro k hk; unfold va_up; by_cases q8 : k = q.toNat; (rw [if_pos q8, q8, show q.toNat = (q - 1).toNat + 1 by omega]; rw [tbI_e rfl, ← hprv]; first | (rw [show vf (q - 1).toNat = false by assumption]; rfl) | (rw [show vf (q - 1).toNat = true by assumption, Bool.true_and]; first | exact (decide_eq_true hpf).symm | exact (decide_eq_false hpf).symm)); (rw [if_neg q8]; exact hlo k (by omega))) (by omega) _ _ hP hD hS _ (lv_sub hl [0, 1, 2, 3, 4, 5] rfl)
                  · have _q := c15
                    have hpf : lt (st.toNat + (q - 1).toNat) = 42 := by (rw [show st.toNat + (q - 1).toNat = (st + q - 1).toNat by omega]; assumption)
                    refine lv_iconst (v := iI 1) hx hb d_J_matchesBySigns_119 rfl ?_
                    refine lv_goto (tgt := 124) hx hb d_J_matchesBySigns_120 (by decide) ?_
                    refine W.eq (g2 := F0 m 124 ls [.int (iI (bI true)), .int (iI q), .ref jr]) rfl ?_
                    refine li_zast hx hb hK hP hD hS 1 2 rfl rfl (by omega) (by omega) (by omega) d_J_matchesBySigns_124 (fun H locs hP hD hS => ?_)
                    have hP : va_P (dC, dI) CL [(jo, .inr (4, [.ref wo, .ref wo2, .ref jm, .ref jr, .int (iI jy)])), (jr, .inl (kA 2, 101, .inl (zI (va_up vf q.toNat true)))), (wo, .inr (9, [.ref wl, .ref wb, .ref we, .int (iI wz)])), (wl, .inl (kA 1, wn, .inl (aI lt))), (wb, .inl (kA 0, wk, .inl (aI sb))), (we, .inl (kA 0, wk, .inl (aI se))), (wo2, .inr (9, [.ref wl2, .ref wb2, .ref we2, .int (iI wz2)])), (wl2, .inl (kA 1, wn2, .inl (aI lt2))), (wb2, .inl (kA 0, wk2, .inl (aI sb2))), (we2, .inl (kA 0, wk2, .inl (aI se2)))] H := hP
                    have hD : va_D A [(jo, .inr (4, [.ref wo, .ref wo2, .ref jm, .ref jr, .int (iI jy)])), (jr, .inl (kA 2, 101, .inl (zI (va_up vf q.toNat true)))), (wo, .inr (9, [.ref wl, .ref wb, .ref we, .int (iI wz)])), (wl, .inl (kA 1, wn, .inl (aI lt))), (wb, .inl (kA 0, wk, .inl (aI sb))), (we, .inl (kA 0, wk, .inl (aI se))), (wo2, .inr (9, [.ref wl2, .ref wb2, .ref we2, .int (iI wz2)])), (wl2, .inl (kA 1, wn2, .inl (aI lt2))), (wb2, .inl (kA 0, wk2, .inl (aI sb2))), (we2, .inl (kA 0, wk2, .inl (aI se2)))] := hD
                    obtain ⟨q_n, eq_n⟩ : ∃ y_9 : Int, y_9 = q + 1 := ⟨_, rfl⟩
                    refine lv_iinc (v := iI q_n) (lv' := [(5, .int (iI q_n)), (4, .int (iI mn)), (3, .int (iI st)), (0, .ref jo), (1, .int (iI i)), (2, .int (iI j))]) hx hb d_J_matchesBySigns_125 hl (k := 0) rfl (by rw [eq_n]; exact iI_add _ _) (by decide) rfl (fun ls hl => ?_)
                    refine lv_goto (tgt := 75) hx hb d_J_matchesBySigns_128 (by decide) ?_
                    exact ih_75 q_n (va_up vf q.toNat true) (by omega) (by intro k hk; unfold va_up; by_cases q8 : k = q.toNat; (rw [if_pos q8, q8, show q.toNat = (q - 1).toNat + 1 by omega]; rw [tbI_e rfl, ← hprv]; first | (rw [show vf (q - 1).toNat = false by assumption]; rfl) | (rw [show vf (q - 1).toNat = true by assumption, Bool.true_and]; first | exact (decide_eq_true hpf).symm | exact (decide_eq_false hpf).symm)); (rw [if_neg q8]; exact hlo k (by omega))) (by omega) _ _ hP hD hS _ (lv_sub hl [0, 1, 2, 3, 4, 5] rfl)
          exact K_75 ((mn + 1 - (1 : Int)).toNat + 1) 1 (va_up rc (((0) : Int).toNat) true) (by omega) (by intro k hk; rw [show k = 0 by omega]; rfl) (Nat.lt_succ_self _) _ _ hP hD hS _ (lv_sub hl [0, 1, 2, 3, 4, 5] rfl)
        · have _q := c4
          exact absurd c4 (by omega)
theorem d_J_matches_0 : decode b_J_matches 0 = .ok (.aload_n 0, 1) := by decide +kernel
theorem d_J_matches_1 : decode b_J_matches 1 = .ok (.getfield 14, 3) := by decide +kernel
theorem d_J_matches_4 : decode b_J_matches 4 = .ok (.iload_n 1, 1) := by decide +kernel
theorem d_J_matches_5 : decode b_J_matches 5 = .ok (.invokevirtual 104, 3) := by decide +kernel
theorem d_J_matches_8 : decode b_J_matches 8 = .ok (.ifCond .eq 12, 3) := by decide +kernel
theorem d_J_matches_11 : decode b_J_matches 11 = .ok (.aload_n 0, 1) := by decide +kernel
theorem d_J_matches_12 : decode b_J_matches 12 = .ok (.iload_n 1, 1) := by decide +kernel
theorem d_J_matches_13 : decode b_J_matches 13 = .ok (.iload_n 2, 1) := by decide +kernel
theorem d_J_matches_14 : decode b_J_matches 14 = .ok (.invokevirtual 107, 3) := by decide +kernel
theorem d_J_matches_17 : decode b_J_matches 17 = .ok (.goto 24, 3) := by decide +kernel
theorem d_J_matches_20 : decode b_J_matches 20 = .ok (.aload_n 0, 1) := by decide +kernel
theorem d_J_matches_21 : decode b_J_matches 21 = .ok (.getfield 14, 3) := by decide +kernel
theorem d_J_matches_24 : decode b_J_matches 24 = .ok (.iload_n 1, 1) := by decide +kernel
theorem d_J_matches_25 : decode b_J_matches 25 = .ok (.aload_n 0, 1) := by decide +kernel
theorem d_J_matches_26 : decode b_J_matches 26 = .ok (.getfield 20, 3) := by decide +kernel
theorem d_J_matches_29 : decode b_J_matches 29 = .ok (.iload_n 2, 1) := by decide +kernel
theorem d_J_matches_30 : decode b_J_matches 30 = .ok (.invokevirtual 110, 3) := by decide +kernel
theorem d_J_matches_33 : decode b_J_matches 33 = .ok (.ifCond .ne 7, 3) := by decide +kernel
theorem d_J_matches_36 : decode b_J_matches 36 = .ok (.iconst 1, 1) := by decide +kernel
theorem d_J_matches_37 : decode b_J_matches 37 = .ok (.goto 4, 3) := by decide +kernel
theorem d_J_matches_40 : decode b_J_matches 40 = .ok (.iconst 0, 1) := by decide +kernel
theorem d_J_matches_41 : decode b_J_matches 41 = .ok (.ireturn, 1) := by decide +kernel
set_option maxHeartbeats 4000000 in
set_option maxRecDepth 100000 in
theorem c_J_matches (l : Launch) (dC : Nat → ClassId) (dI : Nat → Nat → Nat) (kA : Nat → ClassId) (sz : Nat) (jo : Nat) (wo : Nat) (wl : Nat) (wb : Nat) (we : Nat) (wn : Nat) (wk : Nat) (wz : Int) (lt : Nat → Int) (sb : Nat → Int) (se : Nat → Int) (wo2 : Nat) (wl2 : Nat) (wb2 : Nat) (we2 : Nat) (wn2 : Nat) (wk2 : Nat) (wz2 : Int) (lt2 : Nat → Int) (sb2 : Nat → Int) (se2 : Nat → Int) (jm : Nat) (jr : Nat) (jy : Int) (rc : Nat → Bool) (ws : List (List Int)) (ws2 : List (List Int)) (i : Int) (j : Int) (hW : WR wn wk wz lt sb se) (hW2 : WR wn2 wk2 wz2 lt2 sb2 se2) (hWL : WL ws wz lt sb se) (hWL2 : WL ws2 wz2 lt2 sb2 se2) (hw1 : wn ≤ 100) (hi : 0 ≤ i ∧ i < wz) (hj : 0 ≤ j ∧ j < wz2) : Met l y_J_matches (wsy y_J_matches b_J_matches 3 (some .boolean)) (rmd 2 0 0) (li_Pr (dC, dI) CL (TY kA) [.ref jo, .int (iI i), .int (iI j)] (fun h => h.size = sz ∧ va_P (dC, dI) CL [(jo, .inr (4, [.ref wo, .ref wo2, .ref jm, .ref jr, .int (iI jy)])), (jr, .inl (kA 2, 101, .inl (zI rc))), (wo, .inr (9, [.ref wl, .ref wb, .ref we, .int (iI wz)])), (wl, .inl (kA 1, wn, .inl (aI lt))), (wb, .inl (kA 0, wk, .inl (aI sb))), (we, .inl (kA 0, wk, .inl (aI se))), (wo2, .inr (9, [.ref wl2, .ref wb2, .ref we2, .int (iI wz2)])), (wl2, .inl (kA 1, wn2, .inl (aI lt2))), (wb2, .inl (kA 0, wk2, .inl (aI sb2))), (we2, .inl (kA 0, wk2, .inl (aI se2)))] h ∧ va_D (fun q => dI 100 0 ≤ q) [(jo, .inr (4, [.ref wo, .ref wo2, .ref jm, .ref jr, .int (iI jy)])), (jr, .inl (kA 2, 101, .inl (zI rc))), (wo, .inr (9, [.ref wl, .ref wb, .ref we, .int (iI wz)])), (wl, .inl (kA 1, wn, .inl (aI lt))), (wb, .inl (kA 0, wk, .inl (aI sb))), (we, .inl (kA 0, wk, .inl (aI se))), (wo2, .inr (9, [.ref wl2, .ref wb2, .ref we2, .int (iI wz2)])), (wl2, .inl (kA 1, wn2, .inl (aI lt2))), (wb2, .inl (kA 0, wk2, .inl (aI sb2))), (we2, .inl (kA 0, wk2, .inl (aI se2)))] ∧ (fun _ => True) h)) (li_Qw (S := (Nat → Bool)) (dC, dI) CL (fun _ => True) (fun u => some (.int (iI (bI (mtW (ws.getD i.toNat []) (ws2.getD j.toNat [])))))) (fun u => [(jo, .inr (4, [.ref wo, .ref wo2, .ref jm, .ref jr, .int (iI jy)])), (jr, .inl (kA 2, 101, .inl (zI u))), (wo, .inr (9, [.ref wl, .ref wb, .ref we, .int (iI wz)])), (wl, .inl (kA 1, wn, .inl (aI lt))), (wb, .inl (kA 0, wk, .inl (aI sb))), (we, .inl (kA 0, wk, .inl (aI se))), (wo2, .inr (9, [.ref wl2, .ref wb2, .ref we2, .int (iI wz2)])), (wl2, .inl (kA 1, wn2, .inl (aI lt2))), (wb2, .inl (kA 0, wk2, .inl (aI sb2))), (we2, .inl (kA 0, wk2, .inl (aI se2)))]) (va_A [(jo, .inr (4, [.ref wo, .ref wo2, .ref jm, .ref jr, .int (iI jy)])), (jr, .inl (kA 2, 101, .inl (zI rc))), (wo, .inr (9, [.ref wl, .ref wb, .ref we, .int (iI wz)])), (wl, .inl (kA 1, wn, .inl (aI lt))), (wb, .inl (kA 0, wk, .inl (aI sb))), (we, .inl (kA 0, wk, .inl (aI se))), (wo2, .inr (9, [.ref wl2, .ref wb2, .ref we2, .int (iI wz2)])), (wl2, .inl (kA 1, wn2, .inl (aI lt2))), (wb2, .inl (kA 0, wk2, .inl (aI sb2))), (we2, .inl (kA 0, wk2, .inl (aI se2)))] sz)) 0 0 (va_A [(jo, .inr (4, [.ref wo, .ref wo2, .ref jm, .ref jr, .int (iI jy)])), (jr, .inl (kA 2, 101, .inl (zI rc))), (wo, .inr (9, [.ref wl, .ref wb, .ref we, .int (iI wz)])), (wl, .inl (kA 1, wn, .inl (aI lt))), (wb, .inl (kA 0, wk, .inl (aI sb))), (we, .inl (kA 0, wk, .inl (aI se))), (wo2, .inr (9, [.ref wl2, .ref wb2, .ref we2, .int (iI wz2)])), (wl2, .inl (kA 1, wn2, .inl (aI lt2))), (wb2, .inl (kA 0, wk2, .inl (aI sb2))), (we2, .inl (kA 0, wk2, .inl (aI se2)))] sz) := by
  refine li_mwi (r := fun (u : (Nat → Bool)) => bI (mtW (ws.getD i.toNat []) (ws2.getD j.toNat []))) (by decide) (Nat.le_of_ble_eq_true rfl) (fun u _ => by exact li_narZ2 _) ?_
  intro p e s m args below meth c Q A C hP hD hBx hK hN hG hA hAi hAN fin ls hl
  obtain ⟨hx, hb, hr, hml, hown, hts, hlocks, hin⟩ := C
  have hown : s.vm.findClass R_J = some m.cls := hown
  have hl : lv_has ls 3 [(0, .ref jo), (1, .int (iI i)), (2, .int (iI j))] := hl
  obtain ⟨hwn, hwk, hwz, hlt, hsb, hse⟩ := id hW
  obtain ⟨hwn2, hwk2, hwz2, hlt2, hsb2, hse2⟩ := id hW2
  suffices h9 : ∀ (H : Heap) (locs : List Loc), H = s.heap → locs = [] → W p l e (rmd 2 0 0) s m args below meth c H locs 0 0 Q (F0 m 0 ls []) from h9 _ _ rfl rfl
  intro H locs eH eL
  have hP : va_P (dC, dI) CL [(jo, .inr (4, [.ref wo, .ref wo2, .ref jm, .ref jr, .int (iI jy)])), (jr, .inl (kA 2, 101, .inl (zI rc))), (wo, .inr (9, [.ref wl, .ref wb, .ref we, .int (iI wz)])), (wl, .inl (kA 1, wn, .inl (aI lt))), (wb, .inl (kA 0, wk, .inl (aI sb))), (we, .inl (kA 0, wk, .inl (aI se))), (wo2, .inr (9, [.ref wl2, .ref wb2, .ref we2, .int (iI wz2)])), (wl2, .inl (kA 1, wn2, .inl (aI lt2))), (wb2, .inl (kA 0, wk2, .inl (aI sb2))), (we2, .inl (kA 0, wk2, .inl (aI se2)))] H := by rw [eH]; exact hP
  have hS : va_S A s.heap H locs := by rw [eH, eL]; exact va_S.rf
  refine lv_aload_n hx hb d_J_matches_0 rfl (lv_at hl 0 rfl) ?_
  refine gf_J_14 hx hb hts hown hK hP 0 rfl rfl d_J_matches_1 ?_
  refine lv_iload_n hx hb d_J_matches_4 rfl (lv_at hl 1 rfl) ?_
  refine li_callr ((va_runV (As := [.int (iI i)]) (rest := []) ⟨hx, hb, hml, hown, hts⟩ (c_W_hasSigns l dC dI kA wo wl wb we wn wk wz lt sb se i (by exact hW) (by omega)) (cw_J_104 hts rfl rfl ⟨Nat.le_of_ble_eq_true rfl, Nat.le_of_ble_eq_true rfl⟩) (li_preV (va_recv hK hP (ci := 9) (q0 := 2) rfl rfl) (hP.sub [2, 3, 4, 5] rfl) hK hN (hG.go hS hAN)) rfl rfl hl.1 rfl (lv_room (Nat.le_of_ble_eq_true rfl)) d_J_matches_5 ⟨(by show 0 + 0 ≤ 0; omega), (by show 0 + 0 ≤ 0; omega)⟩).run) ?_
  refine li_bz (tgt := 20) hx hb d_J_matches_8 (by decide) (fun c1 => ?_) (fun c1 => ?_)
  · have _q := c1
    have hsg : (ws.getD i.toNat []).any sgW = false := by rw [← hsF_W hWL hi.1 hi.2]; assumption
    refine lv_aload_n hx hb d_J_matches_20 rfl (lv_at hl 0 rfl) ?_
    refine gf_J_14 hx hb hts hown hK hP 0 rfl rfl d_J_matches_21 ?_
    refine lv_iload_n hx hb d_J_matches_24 rfl (lv_at hl 1 rfl) ?_
    refine lv_aload_n hx hb d_J_matches_25 rfl (lv_at hl 0 rfl) ?_
    refine gf_J_20 hx hb hts hown hK hP 0 rfl rfl d_J_matches_26 ?_
    refine lv_iload_n hx hb d_J_matches_29 rfl (lv_at hl 2 rfl) ?_
    refine li_callr ((va_runV (As := [.int (iI i), .ref wo2, .int (iI j)]) (rest := []) ⟨hx, hb, hml, hown, hts⟩ (c_W_compareWord l dC dI kA wo wl wb we wn wk wz lt sb se i wo2 wl2 wb2 we2 wn2 wk2 wz2 lt2 sb2 se2 j (by exact hW) (by exact hW2) (by omega) (by omega)) (cw_J_110 hts rfl rfl ⟨Nat.le_of_ble_eq_true rfl, Nat.le_of_ble_eq_true rfl⟩) (li_preV (va_recv hK hP (ci := 9) (q0 := 2) rfl rfl) (hP.sub [2, 3, 4, 5, 6, 7, 8, 9] rfl) hK hN (hG.go hS hAN)) rfl rfl hl.1 rfl (lv_room (Nat.le_of_ble_eq_true rfl)) d_J_matches_30 ⟨(by show 0 + 0 ≤ 0; omega), (by show 0 + 0 ≤ 0; omega)⟩).run) ?_
    refine li_if_ne (tgt := 40) hx hb d_J_matches_33 (by decide) (by first | omega | exact cwF_r hW hW2) (fun c2 => ?_) (fun c2 => ?_)
    · have _q := c2
      have hcw := cwF_W hW hW2 hWL hWL2 hi hj
      refine lv_iconst (v := iI 0) hx hb d_J_matches_40 rfl ?_
      exact fin (rc) _ _ _ _ _ (by unfold mtW; first | (rw [if_pos hsg]; done) | (rw [if_neg (nbt hsg), ← hcw]; first | exact bI_t (decide_eq_true (by assumption)) | exact bI_f (decide_eq_false (by assumption)))) (by trivial) (by first | exact hP | (subst_vars; exact hP)) (by first | exact hD | (subst_vars; exact hD)) hS d_J_matches_41
    · have _q := c2
      have hcw := cwF_W hW hW2 hWL hWL2 hi hj
      refine lv_iconst (v := iI 1) hx hb d_J_matches_36 rfl ?_
      refine lv_goto (tgt := 41) hx hb d_J_matches_37 (by decide) ?_
      exact fin (rc) _ _ _ _ _ (by unfold mtW; first | (rw [if_pos hsg]; done) | (rw [if_neg (nbt hsg), ← hcw]; first | exact bI_t (decide_eq_true (by assumption)) | exact bI_f (decide_eq_false (by assumption)))) (by trivial) (by first | exact hP | (subst_vars; exact hP)) (by first | exact hD | (subst_vars; exact hD)) hS d_J_matches_41
  · have _q := c1
    have hsg : (ws.getD i.toNat []).any sgW = true := by rw [← hsF_W hWL hi.1 hi.2]; assumption
    refine lv_aload_n hx hb d_J_matches_11 rfl (lv_at hl 0 rfl) ?_
    refine lv_iload_n hx hb d_J_matches_12 rfl (lv_at hl 1 rfl) ?_
    refine lv_iload_n hx hb d_J_matches_13 rfl (lv_at hl 2 rfl) ?_
    refine li_callw (wc := [(jo, .inr (4, [.ref wo, .ref wo2, .ref jm, .ref jr, .int (iI jy)])), (jr, .inl (kA 2, 101, .inl (zI rc))), (wo, .inr (9, [.ref wl, .ref wb, .ref we, .int (iI wz)])), (wl, .inl (kA 1, wn, .inl (aI lt))), (wb, .inl (kA 0, wk, .inl (aI sb))), (we, .inl (kA 0, wk, .inl (aI se))), (wo2, .inr (9, [.ref wl2, .ref wb2, .ref we2, .int (iI wz2)])), (wl2, .inl (kA 1, wn2, .inl (aI lt2))), (wb2, .inl (kA 0, wk2, .inl (aI sb2))), (we2, .inl (kA 0, wk2, .inl (aI se2)))]) (wr := []) (va_runV (As := [.int (iI i), .int (iI j)]) (rest := []) ⟨hx, hb, hml, hown, hts⟩ (c_J_matchesBySigns l dC dI kA H.size jo wo wl wb we wn wk wz lt sb se wo2 wl2 wb2 we2 wn2 wk2 wz2 lt2 sb2 se2 jm jr jy rc ws ws2 i j (by exact hW) (by exact hW2) (by exact hWL) (by exact hWL2) (by omega) (by omega) (by omega)) (cw_J_107 hts rfl rfl ⟨Nat.le_of_ble_eq_true rfl, Nat.le_of_ble_eq_true rfl⟩) (li_preV (va_recv hK hP (ci := 4) (q0 := 0) rfl rfl) ⟨rfl, hP.sub [0, 1, 2, 3, 4, 5, 6, 7, 8, 9] rfl, (hD.sub [0, 1, 2, 3, 4, 5, 6, 7, 8, 9] (by decide) rfl).weaken (fun _ _ _ h => hAN _ h), trivial⟩ hK hN (hG.go hS hAN)) rfl rfl hl.1 rfl (lv_room (Nat.le_of_ble_eq_true rfl)) d_J_matches_14 ⟨(by show 0 + 0 ≤ 0; omega), (by show 0 + 0 ≤ 0; omega)⟩) hP hD hS hA [0, 1, 2, 3, 4, 5, 6, 7, 8, 9] [] rfl rfl (by decide) (by decide) (fun f94 H locs hf94 hP hD hS _hk => ?_)
    have hP : va_P (dC, dI) CL [(jo, .inr (4, [.ref wo, .ref wo2, .ref jm, .ref jr, .int (iI jy)])), (jr, .inl (kA 2, 101, .inl (zI f94))), (wo, .inr (9, [.ref wl, .ref wb, .ref we, .int (iI wz)])), (wl, .inl (kA 1, wn, .inl (aI lt))), (wb, .inl (kA 0, wk, .inl (aI sb))), (we, .inl (kA 0, wk, .inl (aI se))), (wo2, .inr (9, [.ref wl2, .ref wb2, .ref we2, .int (iI wz2)])), (wl2, .inl (kA 1, wn2, .inl (aI lt2))), (wb2, .inl (kA 0, wk2, .inl (aI sb2))), (we2, .inl (kA 0, wk2, .inl (aI se2)))] H := hP
    have hD : va_D A [(jo, .inr (4, [.ref wo, .ref wo2, .ref jm, .ref jr, .int (iI jy)])), (jr, .inl (kA 2, 101, .inl (zI f94))), (wo, .inr (9, [.ref wl, .ref wb, .ref we, .int (iI wz)])), (wl, .inl (kA 1, wn, .inl (aI lt))), (wb, .inl (kA 0, wk, .inl (aI sb))), (we, .inl (kA 0, wk, .inl (aI se))), (wo2, .inr (9, [.ref wl2, .ref wb2, .ref we2, .int (iI wz2)])), (wl2, .inl (kA 1, wn2, .inl (aI lt2))), (wb2, .inl (kA 0, wk2, .inl (aI sb2))), (we2, .inl (kA 0, wk2, .inl (aI se2)))] := hD
    refine W.eq (g2 := F0 m 17 ls [.int (iI (bI (tbL (ws.getD i.toNat []) (ws2.getD j.toNat []))))]) rfl ?_
    refine lv_goto (tgt := 41) hx hb d_J_matches_17 (by decide) ?_
    exact fin (f94) _ _ _ _ _ (by unfold mtW; first | (rw [if_pos hsg]; done) | (rw [if_neg (nbt hsg), ← hcw]; first | exact bI_t (decide_eq_true (by assumption)) | exact bI_f (decide_eq_false (by assumption)))) (by trivial) (by first | exact hP | (subst_vars; exact hP)) (by first | exact hD | (subst_vars; exact hD)) hS d_J_matches_41

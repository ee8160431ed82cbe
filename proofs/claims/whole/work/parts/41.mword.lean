theorem byM_r {cb : Nat → Int} {mz x : Int} (h : C2 cb) : -1 ≤ byM cb mz x ∧ byM cb mz x < 256 := by
  have := h x.toNat
  unfold byM; split <;> omega
/-- one round of a field's text: where it goes on, or -1 - the fault -/
def alW (cb : Nat → Int) (mz : Int) (b : Bool) : Nat → Int → Int
  | 0, _ => 0
  | f + 1, k => if byM cb mz k = 30 then k + 1 else if b = false ∧ byM cb mz k = 31 then (if isDig (byM cb mz (k + 1)) = true ∨ (97 ≤ byM cb mz (k + 1) ∧ byM cb mz (k + 1) ≤ 122) then alW cb mz b f (k + 2) else -1 - (k + 1)) else if isTxt (byM cb mz k) = true then alW cb mz b f (k + 1) else -1 - k
def inJ (cb : Nat → Int) (mz k : Int) : Bool := decide (byM cb mz k = 32) || isDig (byM cb mz k)
def alM (cb : Nat → Int) (mz : Int) (b : Bool) (x : Int) : Int := if b = true then alW cb mz b 1000 x else if inJ cb mz x = false then -1 - x else if inJ cb mz (x + 1) = false then -1 - (x + 1) else if byM cb mz (x + 2) = 31 then alW cb mz b 1000 (x + 2) else -1 - (x + 2)
theorem byM_e {cb : Nat → Int} {mz k : Int} (h : mz ≤ k) : byM cb mz k = -1 := by unfold byM; rw [if_neg (by omega)]
abbrev St3 : Type := Int × (Nat → Int) × (Nat → Int)
/-- WORDS of a text -/
def spL (f : Nat → Int) (b : Bool) (y : Int) : Nat → Int → St3 → St3
  | 0, _, u => u
  | k + 1, x, u => if y ≤ x then u else spL f b y k (bgM f b (edM f b x y) y) (u.1 + 1, va_up u.2.1 u.1.toNat x, va_up u.2.2 u.1.toNat (edM f b x y))
def spM (f : Nat → Int) (b : Bool) (x y : Int) (g h : Nat → Int) : St3 := spL f b y 1000 (bgM f b x y) (0, g, h)
theorem bgL_r {f : Nat → Int} {b : Bool} : ∀ (k : Nat) (x : Int), x ≤ bgL f b k x ∧ bgL f b k x ≤ x + k := by
  intro k
  induction k with
  | zero => intro x; simp [bgL]
  | succ k ih => intro x; simp only [bgL]; have := ih (x + 1); split <;> omega
theorem edL_r {f : Nat → Int} {b : Bool} : ∀ (k : Nat) (x : Int), x ≤ edL f b k x ∧ edL f b k x ≤ x + k := by
  intro k
  induction k with
  | zero => intro x; simp [edL]
  | succ k ih => intro x; simp only [edL]; have := ih (x + 1); split <;> omega
theorem bgL_w {f : Nat → Int} {b : Bool} : ∀ (k : Nat) (x : Int), bgL f b k x = x + k ∨ isLw (f (bgL f b k x).toNat) b = true := by
  intro k
  induction k with
  | zero => intro x; exact Or.inl (by simp [bgL])
  | succ k ih =>
    intro x; simp only [bgL]
    split
    · exact Or.inr (by assumption)
    · rcases ih (x + 1) with h | h
      · exact Or.inl (by rw [h]; omega)
      · exact Or.inr h
theorem edL_p {f : Nat → Int} {b : Bool} (k : Nat) (x : Int) (h : isLw (f x.toNat) b = true) : x + 1 ≤ edL f b (k + 1) x := by
  simp only [edL]; rw [if_pos h]; exact (edL_r k (x + 1)).1
theorem bgM_r {f : Nat → Int} {b : Bool} {x y : Int} (h : x ≤ y) : x ≤ bgM f b x y ∧ bgM f b x y ≤ y := by have := bgL_r (f := f) (b := b) (y - x).toNat x; unfold bgM; omega
theorem edM_r {f : Nat → Int} {b : Bool} {x y : Int} (h : x ≤ y) : x ≤ edM f b x y ∧ edM f b x y ≤ y := by have := edL_r (f := f) (b := b) (y - x).toNat x; unfold edM; omega
theorem bgM_w {f : Nat → Int} {b : Bool} {x y : Int} (h : x ≤ y) (h2 : bgM f b x y < y) : isLw (f (bgM f b x y).toNat) b = true := by
  unfold bgM at *
  rcases bgL_w (f := f) (b := b) (y - x).toNat x with h3 | h3
  · omega
  · exact h3
theorem edM_p {f : Nat → Int} {b : Bool} {x y : Int} (h : x < y) (h2 : isLw (f x.toNat) b = true) : x + 1 ≤ edM f b x y := by
  unfold edM; rw [show (y - x).toNat = (y - x - 1).toNat + 1 by omega]; exact edL_p _ _ h2
/-- pairs that two arrays hold -/
def HL (ps : List (Int × Int)) (n : Int) (f g : Nat → Int) : Prop := n = ps.length ∧ ∀ (j : Nat) (h : j < ps.length), f j = (ps[j]).1 ∧ g j = (ps[j]).2
def LB (ps : List (Int × Int)) (lo hi : Int) : Prop := ∀ q ∈ ps, lo ≤ q.1 ∧ q.1 ≤ q.2 ∧ q.2 ≤ hi
theorem HL.nil {f g : Nat → Int} : HL [] 0 f g := ⟨rfl, fun j h => absurd h (Nat.not_lt_zero _)⟩
theorem LB.nil {lo hi : Int} : LB [] lo hi := fun q h => by cases h
theorem LB.app {a b : List (Int × Int)} {lo hi : Int} (h : LB a lo hi) (g : LB b lo hi) : LB (a ++ b) lo hi := fun q hq => by
  rcases List.mem_append.mp hq with h1 | h1
  · exact h q h1
  · exact g q h1
theorem LB.one {a b lo hi : Int} (h : lo ≤ a ∧ a ≤ b ∧ b ≤ hi) : LB [(a, b)] lo hi := fun q hq => by
  rcases List.mem_singleton.mp hq with rfl
  exact h
theorem LB.wide {a : List (Int × Int)} {lo hi lo2 hi2 : Int} (h : LB a lo hi) (h1 : lo2 ≤ lo) (h2 : hi ≤ hi2) : LB a lo2 hi2 := fun q hq => by have := h q hq; omega
theorem HL.push {ps : List (Int × Int)} {n : Int} {f g : Nat → Int} (h : HL ps n f g) (a b : Int) : HL (ps ++ [(a, b)]) (n + 1) (va_up f n.toNat a) (va_up g n.toNat b) := by
  obtain ⟨h1, h2⟩ := h
  refine ⟨by rw [List.length_append, h1]; simp, ?_⟩
  intro j hj
  rw [List.length_append] at hj
  simp only [List.length_cons, List.length_nil] at hj
  unfold va_up
  by_cases e : j = n.toNat
  · rw [if_pos e, if_pos e, List.getElem_append_right (by omega)]
    simp
  · rw [if_neg e, if_neg e, List.getElem_append_left (by omega)]
    exact h2 j (by omega)
theorem HL.mem {ps : List (Int × Int)} {n : Int} {f g : Nat → Int} (h : HL ps n f g) {k : Int} (h0 : 0 ≤ k) (h1 : k < n) : (f k.toNat, g k.toNat) ∈ ps := by
  obtain ⟨e1, e2⟩ := h
  have hj : k.toNat < ps.length := by omega
  have := e2 k.toNat hj
  rw [this.1, this.2]
  exact List.getElem_mem hj
theorem HL.drop {ps : List (Int × Int)} {n : Int} {f g : Nat → Int} (h : HL ps n f g) {k : Int} (h0 : 0 ≤ k) (h1 : k < n) : ps.drop k.toNat = (f k.toNat, g k.toNat) :: ps.drop (k + 1).toNat := by
  obtain ⟨e1, e2⟩ := h
  have hj : k.toNat < ps.length := by omega
  have := e2 k.toNat hj
  rw [List.drop_eq_getElem_cons hj, this.1, this.2, show (k + 1).toNat = k.toNat + 1 by omega]
theorem HL.dropE {ps : List (Int × Int)} {n : Int} {f g : Nat → Int} (h : HL ps n f g) {k : Int} (h1 : n ≤ k) : ps.drop k.toNat = [] := by
  obtain ⟨e1, e2⟩ := h
  exact List.drop_eq_nil_of_le (by omega)
theorem HL.nn {ps : List (Int × Int)} {n : Int} {f g : Nat → Int} (h : HL ps n f g) : 0 ≤ n := by have := h.1; omega
/-- WORDS of a text as pairs -/
def spT (f : Nat → Int) (b : Bool) (y : Int) : Nat → Int → List (Int × Int)
  | 0, _ => []
  | k + 1, x => if y ≤ x then [] else (x, edM f b x y) :: spT f b y k (bgM f b (edM f b x y) y)
def spW (f : Nat → Int) (b : Bool) (x y : Int) : List (Int × Int) := spT f b y 1000 (bgM f b x y)
theorem spL_HL {f : Nat → Int} {b : Bool} {y : Int} : ∀ (k : Nat) (x : Int) (u : St3) (ps : List (Int × Int)), HL ps u.1 u.2.1 u.2.2 → HL (ps ++ spT f b y k x) (spL f b y k x u).1 (spL f b y k x u).2.1 (spL f b y k x u).2.2 := by
  intro k
  induction k with
  | zero => intro x u ps h; simp only [spT, spL, List.append_nil]; exact h
  | succ k ih =>
    intro x u ps h
    simp only [spT, spL]
    split
    · rw [List.append_nil]; exact h
    · have h2 := ih (bgM f b (edM f b x y) y) (u.1 + 1, va_up u.2.1 u.1.toNat x, va_up u.2.2 u.1.toNat (edM f b x y)) (ps ++ [(x, edM f b x y)]) (h.push _ _)
      rw [List.append_assoc] at h2
      exact h2
theorem spM_HL {f : Nat → Int} {b : Bool} {x y : Int} {g h : Nat → Int} : HL (spW f b x y) (spM f b x y g h).1 (spM f b x y g h).2.1 (spM f b x y g h).2.2 := spL_HL 1000 _ (0, g, h) [] HL.nil
theorem spT_LB {f : Nat → Int} {b : Bool} {y lo : Int} : ∀ (k : Nat) (x : Int), lo ≤ x → x ≤ y → LB (spT f b y k x) lo y := by
  intro k
  induction k with
  | zero => intro x _ _; exact LB.nil
  | succ k ih =>
    intro x h1 h2
    simp only [spT]
    split
    · exact LB.nil
    · have e1 := edM_r (f := f) (b := b) h2
      have e2 := bgM_r (f := f) (b := b) e1.2
      exact LB.app (LB.one ⟨h1, e1.1, e1.2⟩) (ih _ (by omega) (by omega))
theorem spW_LB {f : Nat → Int} {b : Bool} {x y : Int} (h : x ≤ y) : LB (spW f b x y) x y := by
  have := bgM_r (f := f) (b := b) h
  exact spT_LB 1000 _ this.1 this.2

theorem d_M_wrong_0 : decode b_M_wrong 0 = .ok (.aload_n 0, 1) := by decide +kernel
theorem d_M_wrong_1 : decode b_M_wrong 1 = .ok (.iload_n 2, 1) := by decide +kernel
theorem d_M_wrong_2 : decode b_M_wrong 2 = .ok (.putfield 19, 3) := by decide +kernel
theorem d_M_wrong_5 : decode b_M_wrong 5 = .ok (.iload_n 1, 1) := by decide +kernel
theorem d_M_wrong_6 : decode b_M_wrong 6 = .ok (.ireturn, 1) := by decide +kernel
set_option maxHeartbeats 4000000 in
set_option maxRecDepth 100000 in
theorem c_M_wrong (l : Launch) (dC : Nat → ClassId) (dI : Nat → Nat → Nat) (kA : Nat → ClassId) (sz : Nat) (mo : Nat) (ma : Nat → Nat) (mrf : Int) (mz : Int) (mls : Int) (mfp : Int) (mfm : Int) (mtx : Int) (mwd : Int) (mak : Int) (mli : Int) (mlx : Int) (mat : Int) (mtk : Int) (mtf : Int) (mtt : Int) (mfa : Int) (mla : Int) (mlp : Int) (mdp : Int) (msi : Int) (mpf : Int) (mpt : Int) (mdn : Bool) (a0 : Int) (a1 : Int)  : Met l y_M_wrong (wsy y_M_wrong b_M_wrong 3 (some .int)) (rmd 0 0 0) (li_Pr (dC, dI) CL (TY kA) [.ref mo, .int (iI a0), .int (iI a1)] (fun h => h.size = sz ∧ va_P (dC, dI) CL [(mo, .inr (10, [.int (iI mrf), .ref (ma 0), .int (iI mz), .ref (ma 1), .ref (ma 2), .int (iI mls), .int (iI mfp), .int (iI mfm), .ref (ma 3), .int (iI mtx), .ref (ma 4), .ref (ma 5), .int (iI mwd), .ref (ma 6), .ref (ma 7), .int (iI mak), .ref (ma 8), .ref (ma 9), .int (iI mli), .int (iI mlx), .ref (ma 10), .ref (ma 11), .int (iI mat), .int (iI mtk), .int (iI mtf), .int (iI mtt), .int (iI mfa), .int (iI mla), .int (iI mlp), .int (iI mdp), .ref (ma 12), .ref (ma 13), .int (iI msi), .int (iI (bI mdn)), .int (iI mpf), .int (iI mpt)]))] h ∧ va_D (fun q => dI 100 0 ≤ q) [(mo, .inr (10, [.int (iI mrf), .ref (ma 0), .int (iI mz), .ref (ma 1), .ref (ma 2), .int (iI mls), .int (iI mfp), .int (iI mfm), .ref (ma 3), .int (iI mtx), .ref (ma 4), .ref (ma 5), .int (iI mwd), .ref (ma 6), .ref (ma 7), .int (iI mak), .ref (ma 8), .ref (ma 9), .int (iI mli), .int (iI mlx), .ref (ma 10), .ref (ma 11), .int (iI mat), .int (iI mtk), .int (iI mtf), .int (iI mtt), .int (iI mfa), .int (iI mla), .int (iI mlp), .int (iI mdp), .ref (ma 12), .ref (ma 13), .int (iI msi), .int (iI (bI mdn)), .int (iI mpf), .int (iI mpt)]))] ∧ (fun _ => True) h)) (li_Qw (S := Unit) (dC, dI) CL (fun _ => True) (fun _ => some (.int (iI (a0)))) (fun _ => [(mo, .inr (10, [.int (iI mrf), .ref (ma 0), .int (iI mz), .ref (ma 1), .ref (ma 2), .int (iI mls), .int (iI a1), .int (iI mfm), .ref (ma 3), .int (iI mtx), .ref (ma 4), .ref (ma 5), .int (iI mwd), .ref (ma 6), .ref (ma 7), .int (iI mak), .ref (ma 8), .ref (ma 9), .int (iI mli), .int (iI mlx), .ref (ma 10), .ref (ma 11), .int (iI mat), .int (iI mtk), .int (iI mtf), .int (iI mtt), .int (iI mfa), .int (iI mla), .int (iI mlp), .int (iI mdp), .ref (ma 12), .ref (ma 13), .int (iI msi), .int (iI (bI mdn)), .int (iI mpf), .int (iI mpt)]))]) (va_A [(mo, .inr (10, [.int (iI mrf), .ref (ma 0), .int (iI mz), .ref (ma 1), .ref (ma 2), .int (iI mls), .int (iI mfp), .int (iI mfm), .ref (ma 3), .int (iI mtx), .ref (ma 4), .ref (ma 5), .int (iI mwd), .ref (ma 6), .ref (ma 7), .int (iI mak), .ref (ma 8), .ref (ma 9), .int (iI mli), .int (iI mlx), .ref (ma 10), .ref (ma 11), .int (iI mat), .int (iI mtk), .int (iI mtf), .int (iI mtt), .int (iI mfa), .int (iI mla), .int (iI mlp), .int (iI mdp), .ref (ma 12), .ref (ma 13), .int (iI msi), .int (iI (bI mdn)), .int (iI mpf), .int (iI mpt)]))] sz)) 0 0 (va_A [(mo, .inr (10, [.int (iI mrf), .ref (ma 0), .int (iI mz), .ref (ma 1), .ref (ma 2), .int (iI mls), .int (iI mfp), .int (iI mfm), .ref (ma 3), .int (iI mtx), .ref (ma 4), .ref (ma 5), .int (iI mwd), .ref (ma 6), .ref (ma 7), .int (iI mak), .ref (ma 8), .ref (ma 9), .int (iI mli), .int (iI mlx), .ref (ma 10), .ref (ma 11), .int (iI mat), .int (iI mtk), .int (iI mtf), .int (iI mtt), .int (iI mfa), .int (iI mla), .int (iI mlp), .int (iI mdp), .ref (ma 12), .ref (ma 13), .int (iI msi), .int (iI (bI mdn)), .int (iI mpf), .int (iI mpt)]))] sz) := by
  refine li_mwi (r := fun _ => a0) (by decide) (Nat.le_of_ble_eq_true rfl) (fun _ _ => by rfl) ?_
  intro p e s m args below meth c Q A C hP hD hBx hK hN hG hA hAi hAN fin ls hl
  obtain ⟨hx, hb, hr, hml, hown, hts, hlocks, hin⟩ := C
  have hown : s.vm.findClass R_M = some m.cls := hown
  have hl : lv_has ls 3 [(0, .ref mo), (1, .int (iI a0)), (2, .int (iI a1))] := hl
  suffices h9 : ∀ (H : Heap) (locs : List Loc), H = s.heap → locs = [] → W p l e (rmd 0 0 0) s m args below meth c H locs 0 0 Q (F0 m 0 ls []) from h9 _ _ rfl rfl
  intro H locs eH eL
  have hP : va_P (dC, dI) CL [(mo, .inr (10, [.int (iI mrf), .ref (ma 0), .int (iI mz), .ref (ma 1), .ref (ma 2), .int (iI mls), .int (iI mfp), .int (iI mfm), .ref (ma 3), .int (iI mtx), .ref (ma 4), .ref (ma 5), .int (iI mwd), .ref (ma 6), .ref (ma 7), .int (iI mak), .ref (ma 8), .ref (ma 9), .int (iI mli), .int (iI mlx), .ref (ma 10), .ref (ma 11), .int (iI mat), .int (iI mtk), .int (iI mtf), .int (iI mtt), .int (iI mfa), .int (iI mla), .int (iI mlp), .int (iI mdp), .ref (ma 12), .ref (ma 13), .int (iI msi), .int (iI (bI mdn)), .int (iI mpf), .int (iI mpt)]))] H := by rw [eH]; exact hP
  have hS : va_S A s.heap H locs := by rw [eH, eL]; exact va_S.rf
  refine lv_aload_n hx hb d_M_wrong_0 rfl (lv_at hl 0 rfl) ?_
  refine lv_iload_n hx hb d_M_wrong_1 rfl (lv_at hl 2 rfl) ?_
  refine pf_M_19 hx hb hts hown hK hP hD hS 0 rfl (Nat.le_of_ble_eq_true rfl) d_M_wrong_2 (fun H locs hP hD hS => ?_)
  have hP : va_P (dC, dI) CL [(mo, .inr (10, [.int (iI mrf), .ref (ma 0), .int (iI mz), .ref (ma 1), .ref (ma 2), .int (iI mls), .int (iI a1), .int (iI mfm), .ref (ma 3), .int (iI mtx), .ref (ma 4), .ref (ma 5), .int (iI mwd), .ref (ma 6), .ref (ma 7), .int (iI mak), .ref (ma 8), .ref (ma 9), .int (iI mli), .int (iI mlx), .ref (ma 10), .ref (ma 11), .int (iI mat), .int (iI mtk), .int (iI mtf), .int (iI mtt), .int (iI mfa), .int (iI mla), .int (iI mlp), .int (iI mdp), .ref (ma 12), .ref (ma 13), .int (iI msi), .int (iI (bI mdn)), .int (iI mpf), .int (iI mpt)]))] H := hP
  have hD : va_D A [(mo, .inr (10, [.int (iI mrf), .ref (ma 0), .int (iI mz), .ref (ma 1), .ref (ma 2), .int (iI mls), .int (iI a1), .int (iI mfm), .ref (ma 3), .int (iI mtx), .ref (ma 4), .ref (ma 5), .int (iI mwd), .ref (ma 6), .ref (ma 7), .int (iI mak), .ref (ma 8), .ref (ma 9), .int (iI mli), .int (iI mlx), .ref (ma 10), .ref (ma 11), .int (iI mat), .int (iI mtk), .int (iI mtf), .int (iI mtt), .int (iI mfa), .int (iI mla), .int (iI mlp), .int (iI mdp), .ref (ma 12), .ref (ma 13), .int (iI msi), .int (iI (bI mdn)), .int (iI mpf), .int (iI mpt)]))] := hD
  refine lv_iload_n hx hb d_M_wrong_5 rfl (lv_at hl 1 rfl) ?_
  exact fin () _ _ _ _ _ (by rfl) (by trivial) (by first | exact hP | (subst_vars; exact hP)) (by first | exact hD | (subst_vars; exact hD)) hS d_M_wrong_6
theorem d_M_refused_0 : decode b_M_refused 0 = .ok (.aload_n 0, 1) := by decide +kernel
theorem d_M_refused_1 : decode b_M_refused 1 = .ok (.iload_n 1, 1) := by decide +kernel
theorem d_M_refused_2 : decode b_M_refused 2 = .ok (.putfield 59, 3) := by decide +kernel
theorem d_M_refused_5 : decode b_M_refused 5 = .ok (.iload_n 1, 1) := by decide +kernel
theorem d_M_refused_6 : decode b_M_refused 6 = .ok (.ifCond .le 7, 3) := by decide +kernel
theorem d_M_refused_9 : decode b_M_refused 9 = .ok (.iconst 1, 1) := by decide +kernel
theorem d_M_refused_10 : decode b_M_refused 10 = .ok (.goto 4, 3) := by decide +kernel
theorem d_M_refused_13 : decode b_M_refused 13 = .ok (.iconst 0, 1) := by decide +kernel
theorem d_M_refused_14 : decode b_M_refused 14 = .ok (.ireturn, 1) := by decide +kernel
set_option maxHeartbeats 4000000 in
set_option maxRecDepth 100000 in
theorem c_M_refused (l : Launch) (dC : Nat → ClassId) (dI : Nat → Nat → Nat) (kA : Nat → ClassId) (sz : Nat) (mo : Nat) (ma : Nat → Nat) (mrf : Int) (mz : Int) (mls : Int) (mfp : Int) (mfm : Int) (mtx : Int) (mwd : Int) (mak : Int) (mli : Int) (mlx : Int) (mat : Int) (mtk : Int) (mtf : Int) (mtt : Int) (mfa : Int) (mla : Int) (mlp : Int) (mdp : Int) (msi : Int) (mpf : Int) (mpt : Int) (mdn : Bool) (a0 : Int) (ha0 : -2147483648 ≤ a0 ∧ a0 < 2147483648) : Met l y_M_refused (wsy y_M_refused b_M_refused 2 (some .boolean)) (rmd 0 0 0) (li_Pr (dC, dI) CL (TY kA) [.ref mo, .int (iI a0)] (fun h => h.size = sz ∧ va_P (dC, dI) CL [(mo, .inr (10, [.int (iI mrf), .ref (ma 0), .int (iI mz), .ref (ma 1), .ref (ma 2), .int (iI mls), .int (iI mfp), .int (iI mfm), .ref (ma 3), .int (iI mtx), .ref (ma 4), .ref (ma 5), .int (iI mwd), .ref (ma 6), .ref (ma 7), .int (iI mak), .ref (ma 8), .ref (ma 9), .int (iI mli), .int (iI mlx), .ref (ma 10), .ref (ma 11), .int (iI mat), .int (iI mtk), .int (iI mtf), .int (iI mtt), .int (iI mfa), .int (iI mla), .int (iI mlp), .int (iI mdp), .ref (ma 12), .ref (ma 13), .int (iI msi), .int (iI (bI mdn)), .int (iI mpf), .int (iI mpt)]))] h ∧ va_D (fun q => dI 100 0 ≤ q) [(mo, .inr (10, [.int (iI mrf), .ref (ma 0), .int (iI mz), .ref (ma 1), .ref (ma 2), .int (iI mls), .int (iI mfp), .int (iI mfm), .ref (ma 3), .int (iI mtx), .ref (ma 4), .ref (ma 5), .int (iI mwd), .ref (ma 6), .ref (ma 7), .int (iI mak), .ref (ma 8), .ref (ma 9), .int (iI mli), .int (iI mlx), .ref (ma 10), .ref (ma 11), .int (iI mat), .int (iI mtk), .int (iI mtf), .int (iI mtt), .int (iI mfa), .int (iI mla), .int (iI mlp), .int (iI mdp), .ref (ma 12), .ref (ma 13), .int (iI msi), .int (iI (bI mdn)), .int (iI mpf), .int (iI mpt)]))] ∧ (fun _ => True) h)) (li_Qw (S := Unit) (dC, dI) CL (fun _ => True) (fun _ => some (.int (iI (bI (decide (0 < a0)))))) (fun _ => [(mo, .inr (10, [.int (iI a0), .ref (ma 0), .int (iI mz), .ref (ma 1), .ref (ma 2), .int (iI mls), .int (iI mfp), .int (iI mfm), .ref (ma 3), .int (iI mtx), .ref (ma 4), .ref (ma 5), .int (iI mwd), .ref (ma 6), .ref (ma 7), .int (iI mak), .ref (ma 8), .ref (ma 9), .int (iI mli), .int (iI mlx), .ref (ma 10), .ref (ma 11), .int (iI mat), .int (iI mtk), .int (iI mtf), .int (iI mtt), .int (iI mfa), .int (iI mla), .int (iI mlp), .int (iI mdp), .ref (ma 12), .ref (ma 13), .int (iI msi), .int (iI (bI mdn)), .int (iI mpf), .int (iI mpt)]))]) (va_A [(mo, .inr (10, [.int (iI mrf), .ref (ma 0), .int (iI mz), .ref (ma 1), .ref (ma 2), .int (iI mls), .int (iI mfp), .int (iI mfm), .ref (ma 3), .int (iI mtx), .ref (ma 4), .ref (ma 5), .int (iI mwd), .ref (ma 6), .ref (ma 7), .int (iI mak), .ref (ma 8), .ref (ma 9), .int (iI mli), .int (iI mlx), .ref (ma 10), .ref (ma 11), .int (iI mat), .int (iI mtk), .int (iI mtf), .int (iI mtt), .int (iI mfa), .int (iI mla), .int (iI mlp), .int (iI mdp), .ref (ma 12), .ref (ma 13), .int (iI msi), .int (iI (bI mdn)), .int (iI mpf), .int (iI mpt)]))] sz)) 0 0 (va_A [(mo, .inr (10, [.int (iI mrf), .ref (ma 0), .int (iI mz), .ref (ma 1), .ref (ma 2), .int (iI mls), .int (iI mfp), .int (iI mfm), .ref (ma 3), .int (iI mtx), .ref (ma 4), .ref (ma 5), .int (iI mwd), .ref (ma 6), .ref (ma 7), .int (iI mak), .ref (ma 8), .ref (ma 9), .int (iI mli), .int (iI mlx), .ref (ma 10), .ref (ma 11), .int (iI mat), .int (iI mtk), .int (iI mtf), .int (iI mtt), .int (iI mfa), .int (iI mla), .int (iI mlp), .int (iI mdp), .ref (ma 12), .ref (ma 13), .int (iI msi), .int (iI (bI mdn)), .int (iI mpf), .int (iI mpt)]))] sz) := by
  refine li_mwi (r := fun _ => bI (decide (0 < a0))) (by decide) (Nat.le_of_ble_eq_true rfl) (fun _ _ => by exact li_narZ2 _) ?_
  intro p e s m args below meth c Q A C hP hD hBx hK hN hG hA hAi hAN fin ls hl
  obtain ⟨hx, hb, hr, hml, hown, hts, hlocks, hin⟩ := C
  have hown : s.vm.findClass R_M = some m.cls := hown
  have hl : lv_has ls 2 [(0, .ref mo), (1, .int (iI a0))] := hl
  suffices h9 : ∀ (H : Heap) (locs : List Loc), H = s.heap → locs = [] → W p l e (rmd 0 0 0) s m args below meth c H locs 0 0 Q (F0 m 0 ls []) from h9 _ _ rfl rfl
  intro H locs eH eL
  have hP : va_P (dC, dI) CL [(mo, .inr (10, [.int (iI mrf), .ref (ma 0), .int (iI mz), .ref (ma 1), .ref (ma 2), .int (iI mls), .int (iI mfp), .int (iI mfm), .ref (ma 3), .int (iI mtx), .ref (ma 4), .ref (ma 5), .int (iI mwd), .ref (ma 6), .ref (ma 7), .int (iI mak), .ref (ma 8), .ref (ma 9), .int (iI mli), .int (iI mlx), .ref (ma 10), .ref (ma 11), .int (iI mat), .int (iI mtk), .int (iI mtf), .int (iI mtt), .int (iI mfa), .int (iI mla), .int (iI mlp), .int (iI mdp), .ref (ma 12), .ref (ma 13), .int (iI msi), .int (iI (bI mdn)), .int (iI mpf), .int (iI mpt)]))] H := by rw [eH]; exact hP
  have hS : va_S A s.heap H locs := by rw [eH, eL]; exact va_S.rf
  refine lv_aload_n hx hb d_M_refused_0 rfl (lv_at hl 0 rfl) ?_
  refine lv_iload_n hx hb d_M_refused_1 rfl (lv_at hl 1 rfl) ?_
  refine pf_M_59 hx hb hts hown hK hP hD hS 0 rfl (Nat.le_of_ble_eq_true rfl) d_M_refused_2 (fun H locs hP hD hS => ?_)
  have hP : va_P (dC, dI) CL [(mo, .inr (10, [.int (iI a0), .ref (ma 0), .int (iI mz), .ref (ma 1), .ref (ma 2), .int (iI mls), .int (iI mfp), .int (iI mfm), .ref (ma 3), .int (iI mtx), .ref (ma 4), .ref (ma 5), .int (iI mwd), .ref (ma 6), .ref (ma 7), .int (iI mak), .ref (ma 8), .ref (ma 9), .int (iI mli), .int (iI mlx), .ref (ma 10), .ref (ma 11), .int (iI mat), .int (iI mtk), .int (iI mtf), .int (iI mtt), .int (iI mfa), .int (iI mla), .int (iI mlp), .int (iI mdp), .ref (ma 12), .ref (ma 13), .int (iI msi), .int (iI (bI mdn)), .int (iI mpf), .int (iI mpt)]))] H := hP
  have hD : va_D A [(mo, .inr (10, [.int (iI a0), .ref (ma 0), .int (iI mz), .ref (ma 1), .ref (ma 2), .int (iI mls), .int (iI mfp), .int (iI mfm), .ref (ma 3), .int (iI mtx), .ref (ma 4), .ref (ma 5), .int (iI mwd), .ref (ma 6), .ref (ma 7), .int (iI mak), .ref (ma 8), .ref (ma 9), .int (iI mli), .int (iI mlx), .ref (ma 10), .ref (ma 11), .int (iI mat), .int (iI mtk), .int (iI mtf), .int (iI mtt), .int (iI mfa), .int (iI mla), .int (iI mlp), .int (iI mdp), .ref (ma 12), .ref (ma 13), .int (iI msi), .int (iI (bI mdn)), .int (iI mpf), .int (iI mpt)]))] := hD
  refine lv_iload_n hx hb d_M_refused_5 rfl (lv_at hl 1 rfl) ?_
  refine li_if_le (tgt := 13) hx hb d_M_refused_6 (by decide) (by omega) (fun c1 => ?_) (fun c1 => ?_)
  · have _q := c1
    refine lv_iconst (v := iI 0) hx hb d_M_refused_13 rfl ?_
    exact fin () _ _ _ _ _ (by first | exact bI_t (decide_eq_true (by omega)) | exact bI_f (decide_eq_false (by omega))) (by trivial) (by first | exact hP | (subst_vars; exact hP)) (by first | exact hD | (subst_vars; exact hD)) hS d_M_refused_14
  · have _q := c1
    refine lv_iconst (v := iI 1) hx hb d_M_refused_9 rfl ?_
    refine lv_goto (tgt := 14) hx hb d_M_refused_10 (by decide) ?_
    exact fin () _ _ _ _ _ (by first | exact bI_t (decide_eq_true (by omega)) | exact bI_f (decide_eq_false (by omega))) (by trivial) (by first | exact hP | (subst_vars; exact hP)) (by first | exact hD | (subst_vars; exact hD)) hS d_M_refused_14
theorem d_M_isLeader_0 : decode b_M_isLeader 0 = .ok (.aload_n 0, 1) := by decide +kernel
theorem d_M_isLeader_1 : decode b_M_isLeader 1 = .ok (.iload_n 1, 1) := by decide +kernel
theorem d_M_isLeader_2 : decode b_M_isLeader 2 = .ok (.invokevirtual 73, 3) := by decide +kernel
theorem d_M_isLeader_5 : decode b_M_isLeader 5 = .ok (.istore_n 2, 1) := by decide +kernel
theorem d_M_isLeader_6 : decode b_M_isLeader 6 = .ok (.iload_n 1, 1) := by decide +kernel
theorem d_M_isLeader_7 : decode b_M_isLeader 7 = .ok (.iconst 5, 1) := by decide +kernel
theorem d_M_isLeader_8 : decode b_M_isLeader 8 = .ok (.if_icmp .lt 15, 3) := by decide +kernel
theorem d_M_isLeader_11 : decode b_M_isLeader 11 = .ok (.iload_n 1, 1) := by decide +kernel
theorem d_M_isLeader_12 : decode b_M_isLeader 12 = .ok (.bipush 11, 2) := by decide +kernel
theorem d_M_isLeader_14 : decode b_M_isLeader 14 = .ok (.if_icmp .le 14, 3) := by decide +kernel
theorem d_M_isLeader_17 : decode b_M_isLeader 17 = .ok (.iload_n 1, 1) := by decide +kernel
theorem d_M_isLeader_18 : decode b_M_isLeader 18 = .ok (.bipush 17, 2) := by decide +kernel
theorem d_M_isLeader_20 : decode b_M_isLeader 20 = .ok (.if_icmp .ge 8, 3) := by decide +kernel
theorem d_M_isLeader_23 : decode b_M_isLeader 23 = .ok (.iload_n 2, 1) := by decide +kernel
theorem d_M_isLeader_24 : decode b_M_isLeader 24 = .ok (.invokestatic 77, 3) := by decide +kernel
theorem d_M_isLeader_27 : decode b_M_isLeader 27 = .ok (.ireturn, 1) := by decide +kernel
theorem d_M_isLeader_28 : decode b_M_isLeader 28 = .ok (.iload_n 1, 1) := by decide +kernel
theorem d_M_isLeader_29 : decode b_M_isLeader 29 = .ok (.tableswitch 211 5 23 #[91, 127, 127, 211, 145, 163, 163, 211, 211, 211, 211, 211, 211, 211, 211, 175, 187, 199, 199], 91) := by decide +kernel
theorem d_M_isLeader_120 : decode b_M_isLeader 120 = .ok (.iload_n 2, 1) := by decide +kernel
theorem d_M_isLeader_121 : decode b_M_isLeader 121 = .ok (.bipush 97, 2) := by decide +kernel
theorem d_M_isLeader_123 : decode b_M_isLeader 123 = .ok (.if_icmp .eq 27, 3) := by decide +kernel
theorem d_M_isLeader_126 : decode b_M_isLeader 126 = .ok (.iload_n 2, 1) := by decide +kernel
theorem d_M_isLeader_127 : decode b_M_isLeader 127 = .ok (.bipush 99, 2) := by decide +kernel
theorem d_M_isLeader_129 : decode b_M_isLeader 129 = .ok (.if_icmp .eq 21, 3) := by decide +kernel
theorem d_M_isLeader_132 : decode b_M_isLeader 132 = .ok (.iload_n 2, 1) := by decide +kernel
theorem d_M_isLeader_133 : decode b_M_isLeader 133 = .ok (.bipush 100, 2) := by decide +kernel
theorem d_M_isLeader_135 : decode b_M_isLeader 135 = .ok (.if_icmp .eq 15, 3) := by decide +kernel
theorem d_M_isLeader_138 : decode b_M_isLeader 138 = .ok (.iload_n 2, 1) := by decide +kernel
theorem d_M_isLeader_139 : decode b_M_isLeader 139 = .ok (.bipush 110, 2) := by decide +kernel
theorem d_M_isLeader_141 : decode b_M_isLeader 141 = .ok (.if_icmp .eq 9, 3) := by decide +kernel
theorem d_M_isLeader_144 : decode b_M_isLeader 144 = .ok (.iload_n 2, 1) := by decide +kernel
theorem d_M_isLeader_145 : decode b_M_isLeader 145 = .ok (.bipush 112, 2) := by decide +kernel
theorem d_M_isLeader_147 : decode b_M_isLeader 147 = .ok (.if_icmp .ne 7, 3) := by decide +kernel
theorem d_M_isLeader_150 : decode b_M_isLeader 150 = .ok (.iconst 1, 1) := by decide +kernel
theorem d_M_isLeader_151 : decode b_M_isLeader 151 = .ok (.goto 4, 3) := by decide +kernel
theorem d_M_isLeader_154 : decode b_M_isLeader 154 = .ok (.iconst 0, 1) := by decide +kernel
theorem d_M_isLeader_155 : decode b_M_isLeader 155 = .ok (.ireturn, 1) := by decide +kernel
theorem d_M_isLeader_156 : decode b_M_isLeader 156 = .ok (.iload_n 2, 1) := by decide +kernel
theorem d_M_isLeader_157 : decode b_M_isLeader 157 = .ok (.bipush 97, 2) := by decide +kernel
theorem d_M_isLeader_159 : decode b_M_isLeader 159 = .ok (.if_icmp .lt 13, 3) := by decide +kernel
theorem d_M_isLeader_162 : decode b_M_isLeader 162 = .ok (.iload_n 2, 1) := by decide +kernel
theorem d_M_isLeader_163 : decode b_M_isLeader 163 = .ok (.bipush 122, 2) := by decide +kernel
theorem d_M_isLeader_165 : decode b_M_isLeader 165 = .ok (.if_icmp .gt 7, 3) := by decide +kernel
theorem d_M_isLeader_168 : decode b_M_isLeader 168 = .ok (.iconst 1, 1) := by decide +kernel
theorem d_M_isLeader_169 : decode b_M_isLeader 169 = .ok (.goto 4, 3) := by decide +kernel
theorem d_M_isLeader_172 : decode b_M_isLeader 172 = .ok (.iconst 0, 1) := by decide +kernel
theorem d_M_isLeader_173 : decode b_M_isLeader 173 = .ok (.ireturn, 1) := by decide +kernel
theorem d_M_isLeader_174 : decode b_M_isLeader 174 = .ok (.iload_n 2, 1) := by decide +kernel
theorem d_M_isLeader_175 : decode b_M_isLeader 175 = .ok (.bipush 32, 2) := by decide +kernel
theorem d_M_isLeader_177 : decode b_M_isLeader 177 = .ok (.if_icmp .eq 9, 3) := by decide +kernel
theorem d_M_isLeader_180 : decode b_M_isLeader 180 = .ok (.iload_n 2, 1) := by decide +kernel
theorem d_M_isLeader_181 : decode b_M_isLeader 181 = .ok (.bipush 97, 2) := by decide +kernel
theorem d_M_isLeader_183 : decode b_M_isLeader 183 = .ok (.if_icmp .ne 7, 3) := by decide +kernel
theorem d_M_isLeader_186 : decode b_M_isLeader 186 = .ok (.iconst 1, 1) := by decide +kernel
theorem d_M_isLeader_187 : decode b_M_isLeader 187 = .ok (.goto 4, 3) := by decide +kernel
theorem d_M_isLeader_190 : decode b_M_isLeader 190 = .ok (.iconst 0, 1) := by decide +kernel
theorem d_M_isLeader_191 : decode b_M_isLeader 191 = .ok (.ireturn, 1) := by decide +kernel
theorem d_M_isLeader_192 : decode b_M_isLeader 192 = .ok (.iload_n 2, 1) := by decide +kernel
theorem d_M_isLeader_193 : decode b_M_isLeader 193 = .ok (.bipush 50, 2) := by decide +kernel
theorem d_M_isLeader_195 : decode b_M_isLeader 195 = .ok (.if_icmp .ne 7, 3) := by decide +kernel
theorem d_M_isLeader_198 : decode b_M_isLeader 198 = .ok (.iconst 1, 1) := by decide +kernel
theorem d_M_isLeader_199 : decode b_M_isLeader 199 = .ok (.goto 4, 3) := by decide +kernel
theorem d_M_isLeader_202 : decode b_M_isLeader 202 = .ok (.iconst 0, 1) := by decide +kernel
theorem d_M_isLeader_203 : decode b_M_isLeader 203 = .ok (.ireturn, 1) := by decide +kernel
theorem d_M_isLeader_204 : decode b_M_isLeader 204 = .ok (.iload_n 2, 1) := by decide +kernel
theorem d_M_isLeader_205 : decode b_M_isLeader 205 = .ok (.bipush 52, 2) := by decide +kernel
theorem d_M_isLeader_207 : decode b_M_isLeader 207 = .ok (.if_icmp .ne 7, 3) := by decide +kernel
theorem d_M_isLeader_210 : decode b_M_isLeader 210 = .ok (.iconst 1, 1) := by decide +kernel
theorem d_M_isLeader_211 : decode b_M_isLeader 211 = .ok (.goto 4, 3) := by decide +kernel
theorem d_M_isLeader_214 : decode b_M_isLeader 214 = .ok (.iconst 0, 1) := by decide +kernel
theorem d_M_isLeader_215 : decode b_M_isLeader 215 = .ok (.ireturn, 1) := by decide +kernel
theorem d_M_isLeader_216 : decode b_M_isLeader 216 = .ok (.iload_n 2, 1) := by decide +kernel
theorem d_M_isLeader_217 : decode b_M_isLeader 217 = .ok (.bipush 53, 2) := by decide +kernel
theorem d_M_isLeader_219 : decode b_M_isLeader 219 = .ok (.if_icmp .ne 7, 3) := by decide +kernel
theorem d_M_isLeader_222 : decode b_M_isLeader 222 = .ok (.iconst 1, 1) := by decide +kernel
theorem d_M_isLeader_223 : decode b_M_isLeader 223 = .ok (.goto 4, 3) := by decide +kernel
theorem d_M_isLeader_226 : decode b_M_isLeader 226 = .ok (.iconst 0, 1) := by decide +kernel
theorem d_M_isLeader_227 : decode b_M_isLeader 227 = .ok (.ireturn, 1) := by decide +kernel
theorem d_M_isLeader_228 : decode b_M_isLeader 228 = .ok (.iload_n 2, 1) := by decide +kernel
theorem d_M_isLeader_229 : decode b_M_isLeader 229 = .ok (.bipush 48, 2) := by decide +kernel
theorem d_M_isLeader_231 : decode b_M_isLeader 231 = .ok (.if_icmp .ne 7, 3) := by decide +kernel
theorem d_M_isLeader_234 : decode b_M_isLeader 234 = .ok (.iconst 1, 1) := by decide +kernel
theorem d_M_isLeader_235 : decode b_M_isLeader 235 = .ok (.goto 4, 3) := by decide +kernel
theorem d_M_isLeader_238 : decode b_M_isLeader 238 = .ok (.iconst 0, 1) := by decide +kernel
theorem d_M_isLeader_239 : decode b_M_isLeader 239 = .ok (.ireturn, 1) := by decide +kernel
theorem d_M_isLeader_240 : decode b_M_isLeader 240 = .ok (.iload_n 2, 1) := by decide +kernel
theorem d_M_isLeader_241 : decode b_M_isLeader 241 = .ok (.bipush 32, 2) := by decide +kernel
theorem d_M_isLeader_243 : decode b_M_isLeader 243 = .ok (.if_icmp .ne 7, 3) := by decide +kernel
theorem d_M_isLeader_246 : decode b_M_isLeader 246 = .ok (.iconst 1, 1) := by decide +kernel
theorem d_M_isLeader_247 : decode b_M_isLeader 247 = .ok (.goto 4, 3) := by decide +kernel
theorem d_M_isLeader_250 : decode b_M_isLeader 250 = .ok (.iconst 0, 1) := by decide +kernel
theorem d_M_isLeader_251 : decode b_M_isLeader 251 = .ok (.ireturn, 1) := by decide +kernel
set_option maxHeartbeats 4000000 in
set_option maxRecDepth 100000 in
theorem c_M_isLeader (l : Launch) (dC : Nat → ClassId) (dI : Nat → Nat → Nat) (kA : Nat → ClassId) (mo : Nat) (ma : Nat → Nat) (mrf : Int) (mz : Int) (mls : Int) (mfp : Int) (mfm : Int) (mtx : Int) (mwd : Int) (mak : Int) (mli : Int) (mlx : Int) (mat : Int) (mtk : Int) (mtf : Int) (mtt : Int) (mfa : Int) (mla : Int) (mlp : Int) (mdp : Int) (msi : Int) (mpf : Int) (mpt : Int) (mdn : Bool) (cb : Nat → Int) (x : Int) (hcb : C2 cb) (hz : 0 ≤ mz ∧ mz ≤ 400) (hx0 : 0 ≤ x ∧ x < 24) : Met l y_M_isLeader (wsy y_M_isLeader b_M_isLeader 3 (some .boolean)) (rmd 1 0 0) (li_Pr (dC, dI) CL (TY kA) [.ref mo, .int (iI x)] (va_P (dC, dI) CL [(mo, .inr (10, [.int (iI mrf), .ref (ma 0), .int (iI mz), .ref (ma 1), .ref (ma 2), .int (iI mls), .int (iI mfp), .int (iI mfm), .ref (ma 3), .int (iI mtx), .ref (ma 4), .ref (ma 5), .int (iI mwd), .ref (ma 6), .ref (ma 7), .int (iI mak), .ref (ma 8), .ref (ma 9), .int (iI mli), .int (iI mlx), .ref (ma 10), .ref (ma 11), .int (iI mat), .int (iI mtk), .int (iI mtf), .int (iI mtt), .int (iI mfa), .int (iI mla), .int (iI mlp), .int (iI mdp), .ref (ma 12), .ref (ma 13), .int (iI msi), .int (iI (bI mdn)), .int (iI mpf), .int (iI mpt)])), (ma 0, .inl (kA 0, 400, .inl (aI cb)))])) (k2_QcV (.int (iI (bI (ldF x (byM cb mz x)))))) 0 0 (fun _ => False) := by
  refine li_mr (by decide) (Nat.le_of_ble_eq_true rfl) (by exact li_narZ2 _) ?_
  intro p e s m args below meth c Q C hP hK hN hG fin ls hl
  obtain ⟨hx, hb, hr, hml, hown, hts, hlocks, hin⟩ := C
  have hown : s.vm.findClass R_M = some m.cls := hown
  have hP : va_P (dC, dI) CL [(mo, .inr (10, [.int (iI mrf), .ref (ma 0), .int (iI mz), .ref (ma 1), .ref (ma 2), .int (iI mls), .int (iI mfp), .int (iI mfm), .ref (ma 3), .int (iI mtx), .ref (ma 4), .ref (ma 5), .int (iI mwd), .ref (ma 6), .ref (ma 7), .int (iI mak), .ref (ma 8), .ref (ma 9), .int (iI mli), .int (iI mlx), .ref (ma 10), .ref (ma 11), .int (iI mat), .int (iI mtk), .int (iI mtf), .int (iI mtt), .int (iI mfa), .int (iI mla), .int (iI mlp), .int (iI mdp), .ref (ma 12), .ref (ma 13), .int (iI msi), .int (iI (bI mdn)), .int (iI mpf), .int (iI mpt)])), (ma 0, .inl (kA 0, 400, .inl (aI cb)))] s.heap := hP
  have hl : lv_has ls 3 [(0, .ref mo), (1, .int (iI x))] := hl
  refine lv_aload_n hx hb d_M_isLeader_0 rfl (lv_at hl 0 rfl) ?_
  refine lv_iload_n hx hb d_M_isLeader_1 rfl (lv_at hl 1 rfl) ?_
  refine li_callr ((va_runV (As := [.int (iI x)]) (rest := []) ⟨hx, hb, hml, hown, hts⟩ (c_M_byteAt l dC dI kA mo ma mrf mz mls mfp mfm mtx mwd mak mli mlx mat mtk mtf mtt mfa mla mlp mdp msi mpf mpt mdn cb x (by exact hcb) (by exact hz) (by omega)) (cw_M_73 hts rfl rfl ⟨Nat.le_of_ble_eq_true rfl, Nat.le_of_ble_eq_true rfl⟩) (li_preV (va_recv hK hP (ci := 10) (q0 := 0) rfl rfl) (hP.sub [0, 1] rfl) hK hN hG.rd) rfl rfl hl.1 rfl (lv_room (Nat.le_of_ble_eq_true rfl)) d_M_isLeader_2 ⟨(by show 0 + 0 ≤ 0; omega), (by show 0 + 0 ≤ 0; omega)⟩).run) ?_
  refine li_nm (fun cx ecx => ?_)
  refine lv_istore_n (lv' := [(2, .int (iI cx)), (0, .ref mo), (1, .int (iI x))]) hx hb d_M_isLeader_5 rfl hl (by decide) rfl (fun ls hl => ?_)
  have hby := byM_r (mz := mz) (x := x) hcb
  rw [← ecx] at hby
  refine lv_iload_n hx hb d_M_isLeader_6 rfl (lv_at hl 2 rfl) ?_
  refine lv_iconst (v := iI 5) hx hb d_M_isLeader_7 rfl ?_
  refine li_icmp_lt (tgt := 23) hx hb d_M_isLeader_8 (by decide) (by omega) (by omega) (fun c1 => ?_) (fun c1 => ?_)
  · have _q := c1
    refine lv_iload_n hx hb d_M_isLeader_23 rfl (lv_at hl 0 rfl) ?_
    refine li_callr ((va_runS (As := [.int (iI cx)]) (rest := []) ⟨hx, hb, hml, hown, hts⟩ (c_M_isDigit l dC dI kA cx (by omega)) (cw_M_77 hts rfl rfl ⟨Nat.le_of_ble_eq_true rfl, Nat.le_of_ble_eq_true rfl⟩) (li_preS va_Pnil hK hN hG.rd) rfl rfl hl.1 rfl (lv_room (Nat.le_of_ble_eq_true rfl)) d_M_isLeader_24 ⟨(by show 0 + 0 ≤ 0; omega), (by show 0 + 0 ≤ 0; omega)⟩).run) ?_
    exact fin _ _ _ (by rw [← ecx]; clear ecx; first | (unfold ldF; rw [if_pos (by omega)]; done) | (exfalso; omega) | (subst_vars; unfold ldF isLow; simp_all [chS, strN, bI]; done) | (subst_vars; unfold ldF isLow; simp_all [chS, strN, bI]; omega)) d_M_isLeader_27
  · have _q := c1
    refine lv_iload_n hx hb d_M_isLeader_11 rfl (lv_at hl 2 rfl) ?_
    refine lv_bipush (v := iI 11) hx hb d_M_isLeader_12 (by decide) ?_
    refine li_icmp_le (tgt := 28) hx hb d_M_isLeader_14 (by decide) (by omega) (by omega) (fun c2 => ?_) (fun c2 => ?_)
    · have _q := c2
      refine lv_iload_n hx hb d_M_isLeader_28 rfl (lv_at hl 2 rfl) ?_
      by_cases w3 : x = 5
      · refine li_to (z := 5) w3 ?_
        refine lv_tableIn (x := iI 5) (off := 91) (tgt := 120) hx hb d_M_isLeader_29 (by decide) (by decide) (by decide) (by decide) ?_
        refine lv_iload_n hx hb d_M_isLeader_120 rfl (lv_at hl 0 rfl) ?_
        refine lv_bipush (v := iI 97) hx hb d_M_isLeader_121 (by decide) ?_
        refine li_icmp_eq (tgt := 150) hx hb d_M_isLeader_123 (by decide) (by omega) (by omega) (fun c4 => ?_) (fun c4 => ?_)
        · have _q := c4
          refine lv_iconst (v := iI 1) hx hb d_M_isLeader_150 rfl ?_
          refine lv_goto (tgt := 155) hx hb d_M_isLeader_151 (by decide) ?_
          exact fin _ _ _ (by rw [← ecx]; clear ecx; first | (unfold ldF; rw [if_pos (by omega)]; done) | (exfalso; omega) | (subst_vars; unfold ldF isLow; simp_all [chS, strN, bI]; done) | (subst_vars; unfold ldF isLow; simp_all [chS, strN, bI]; omega)) d_M_isLeader_155
        · have _q := c4
          refine lv_iload_n hx hb d_M_isLeader_126 rfl (lv_at hl 0 rfl) ?_
          refine lv_bipush (v := iI 99) hx hb d_M_isLeader_127 (by decide) ?_
          refine li_icmp_eq (tgt := 150) hx hb d_M_isLeader_129 (by decide) (by omega) (by omega) (fun c5 => ?_) (fun c5 => ?_)
          · have _q := c5
            refine lv_iconst (v := iI 1) hx hb d_M_isLeader_150 rfl ?_
            refine lv_goto (tgt := 155) hx hb d_M_isLeader_151 (by decide) ?_
            exact fin _ _ _ (by rw [← ecx]; clear ecx; first | (unfold ldF; rw [if_pos (by omega)]; done) | (exfalso; omega) | (subst_vars; unfold ldF isLow; simp_all [chS, strN, bI]; done) | (subst_vars; unfold ldF isLow; simp_all [chS, strN, bI]; omega)) d_M_isLeader_155
          · have _q := c5
            refine lv_iload_n hx hb d_M_isLeader_132 rfl (lv_at hl 0 rfl) ?_
            refine lv_bipush (v := iI 100) hx hb d_M_isLeader_133 (by decide) ?_
            refine li_icmp_eq (tgt := 150) hx hb d_M_isLeader_135 (by decide) (by omega) (by omega) (fun c6 => ?_) (fun c6 => ?_)
            · have _q := c6
              refine lv_iconst (v := iI 1) hx hb d_M_isLeader_150 rfl ?_
              refine lv_goto (tgt := 155) hx hb d_M_isLeader_151 (by decide) ?_
              exact fin _ _ _ (by rw [← ecx]; clear ecx; first | (unfold ldF; rw [if_pos (by omega)]; done) | (exfalso; omega) | (subst_vars; unfold ldF isLow; simp_all [chS, strN, bI]; done) | (subst_vars; unfold ldF isLow; simp_all [chS, strN, bI]; omega)) d_M_isLeader_155
            · have _q := c6
              refine lv_iload_n hx hb d_M_isLeader_138 rfl (lv_at hl 0 rfl) ?_
              refine lv_bipush (v := iI 110) hx hb d_M_isLeader_139 (by decide) ?_
              refine li_icmp_eq (tgt := 150) hx hb d_M_isLeader_141 (by decide) (by omega) (by omega) (fun c7 => ?_) (fun c7 => ?_)
              · have _q := c7
                refine lv_iconst (v := iI 1) hx hb d_M_isLeader_150 rfl ?_
                refine lv_goto (tgt := 155) hx hb d_M_isLeader_151 (by decide) ?_
                exact fin _ _ _ (by rw [← ecx]; clear ecx; first | (unfold ldF; rw [if_pos (by omega)]; done) | (exfalso; omega) | (subst_vars; unfold ldF isLow; simp_all [chS, strN, bI]; done) | (subst_vars; unfold ldF isLow; simp_all [chS, strN, bI]; omega)) d_M_isLeader_155
              · have _q := c7
                refine lv_iload_n hx hb d_M_isLeader_144 rfl (lv_at hl 0 rfl) ?_
                refine lv_bipush (v := iI 112) hx hb d_M_isLeader_145 (by decide) ?_
                refine li_icmp_ne (tgt := 154) hx hb d_M_isLeader_147 (by decide) (by omega) (by omega) (fun c8 => ?_) (fun c8 => ?_)
                · have _q := c8
                  refine lv_iconst (v := iI 0) hx hb d_M_isLeader_154 rfl ?_
                  exact fin _ _ _ (by rw [← ecx]; clear ecx; first | (unfold ldF; rw [if_pos (by omega)]; done) | (exfalso; omega) | (subst_vars; unfold ldF isLow; simp_all [chS, strN, bI]; done) | (subst_vars; unfold ldF isLow; simp_all [chS, strN, bI]; omega)) d_M_isLeader_155
                · have _q := c8
                  refine lv_iconst (v := iI 1) hx hb d_M_isLeader_150 rfl ?_
                  refine lv_goto (tgt := 155) hx hb d_M_isLeader_151 (by decide) ?_
                  exact fin _ _ _ (by rw [← ecx]; clear ecx; first | (unfold ldF; rw [if_pos (by omega)]; done) | (exfalso; omega) | (subst_vars; unfold ldF isLow; simp_all [chS, strN, bI]; done) | (subst_vars; unfold ldF isLow; simp_all [chS, strN, bI]; omega)) d_M_isLeader_155
      by_cases w9 : x = 6
      · refine li_to (z := 6) w9 ?_
        refine lv_tableIn (x := iI 6) (off := 127) (tgt := 156) hx hb d_M_isLeader_29 (by decide) (by decide) (by decide) (by decide) ?_
        refine lv_iload_n hx hb d_M_isLeader_156 rfl (lv_at hl 0 rfl) ?_
        refine lv_bipush (v := iI 97) hx hb d_M_isLeader_157 (by decide) ?_
        refine li_icmp_lt (tgt := 172) hx hb d_M_isLeader_159 (by decide) (by omega) (by omega) (fun c10 => ?_) (fun c10 => ?_)
        · have _q := c10
          refine lv_iconst (v := iI 0) hx hb d_M_isLeader_172 rfl ?_
          exact fin _ _ _ (by rw [← ecx]; clear ecx; first | (unfold ldF; rw [if_pos (by omega)]; done) | (exfalso; omega) | (subst_vars; unfold ldF isLow; simp_all [chS, strN, bI]; done) | (subst_vars; unfold ldF isLow; simp_all [chS, strN, bI]; omega)) d_M_isLeader_173
        · have _q := c10
          refine lv_iload_n hx hb d_M_isLeader_162 rfl (lv_at hl 0 rfl) ?_
          refine lv_bipush (v := iI 122) hx hb d_M_isLeader_163 (by decide) ?_
          refine li_icmp_gt (tgt := 172) hx hb d_M_isLeader_165 (by decide) (by omega) (by omega) (fun c11 => ?_) (fun c11 => ?_)
          · have _q := c11
            refine lv_iconst (v := iI 0) hx hb d_M_isLeader_172 rfl ?_
            exact fin _ _ _ (by rw [← ecx]; clear ecx; first | (unfold ldF; rw [if_pos (by omega)]; done) | (exfalso; omega) | (subst_vars; unfold ldF isLow; simp_all [chS, strN, bI]; done) | (subst_vars; unfold ldF isLow; simp_all [chS, strN, bI]; omega)) d_M_isLeader_173
          · have _q := c11
            refine lv_iconst (v := iI 1) hx hb d_M_isLeader_168 rfl ?_
            refine lv_goto (tgt := 173) hx hb d_M_isLeader_169 (by decide) ?_
            exact fin _ _ _ (by rw [← ecx]; clear ecx; first | (unfold ldF; rw [if_pos (by omega)]; done) | (exfalso; omega) | (subst_vars; unfold ldF isLow; simp_all [chS, strN, bI]; done) | (subst_vars; unfold ldF isLow; simp_all [chS, strN, bI]; omega)) d_M_isLeader_173
      by_cases w12 : x = 7
      · refine li_to (z := 7) w12 ?_
        refine lv_tableIn (x := iI 7) (off := 127) (tgt := 156) hx hb d_M_isLeader_29 (by decide) (by decide) (by decide) (by decide) ?_
        refine lv_iload_n hx hb d_M_isLeader_156 rfl (lv_at hl 0 rfl) ?_
        refine lv_bipush (v := iI 97) hx hb d_M_isLeader_157 (by decide) ?_
        refine li_icmp_lt (tgt := 172) hx hb d_M_isLeader_159 (by decide) (by omega) (by omega) (fun c13 => ?_) (fun c13 => ?_)
        · have _q := c13
          refine lv_iconst (v := iI 0) hx hb d_M_isLeader_172 rfl ?_
          exact fin _ _ _ (by rw [← ecx]; clear ecx; first | (unfold ldF; rw [if_pos (by omega)]; done) | (exfalso; omega) | (subst_vars; unfold ldF isLow; simp_all [chS, strN, bI]; done) | (subst_vars; unfold ldF isLow; simp_all [chS, strN, bI]; omega)) d_M_isLeader_173
        · have _q := c13
          refine lv_iload_n hx hb d_M_isLeader_162 rfl (lv_at hl 0 rfl) ?_
          refine lv_bipush (v := iI 122) hx hb d_M_isLeader_163 (by decide) ?_
          refine li_icmp_gt (tgt := 172) hx hb d_M_isLeader_165 (by decide) (by omega) (by omega) (fun c14 => ?_) (fun c14 => ?_)
          · have _q := c14
            refine lv_iconst (v := iI 0) hx hb d_M_isLeader_172 rfl ?_
            exact fin _ _ _ (by rw [← ecx]; clear ecx; first | (unfold ldF; rw [if_pos (by omega)]; done) | (exfalso; omega) | (subst_vars; unfold ldF isLow; simp_all [chS, strN, bI]; done) | (subst_vars; unfold ldF isLow; simp_all [chS, strN, bI]; omega)) d_M_isLeader_173
          · have _q := c14
            refine lv_iconst (v := iI 1) hx hb d_M_isLeader_168 rfl ?_
            refine lv_goto (tgt := 173) hx hb d_M_isLeader_169 (by decide) ?_
            exact fin _ _ _ (by rw [← ecx]; clear ecx; first | (unfold ldF; rw [if_pos (by omega)]; done) | (exfalso; omega) | (subst_vars; unfold ldF isLow; simp_all [chS, strN, bI]; done) | (subst_vars; unfold ldF isLow; simp_all [chS, strN, bI]; omega)) d_M_isLeader_173
      by_cases w15 : x = 8
      · refine li_to (z := 8) w15 ?_
        refine lv_tableIn (x := iI 8) (off := 211) (tgt := 240) hx hb d_M_isLeader_29 (by decide) (by decide) (by decide) (by decide) ?_
        refine lv_iload_n hx hb d_M_isLeader_240 rfl (lv_at hl 0 rfl) ?_
        refine lv_bipush (v := iI 32) hx hb d_M_isLeader_241 (by decide) ?_
        refine li_icmp_ne (tgt := 250) hx hb d_M_isLeader_243 (by decide) (by omega) (by omega) (fun c16 => ?_) (fun c16 => ?_)
        · have _q := c16
          refine lv_iconst (v := iI 0) hx hb d_M_isLeader_250 rfl ?_
          exact fin _ _ _ (by rw [← ecx]; clear ecx; first | (unfold ldF; rw [if_pos (by omega)]; done) | (exfalso; omega) | (subst_vars; unfold ldF isLow; simp_all [chS, strN, bI]; done) | (subst_vars; unfold ldF isLow; simp_all [chS, strN, bI]; omega)) d_M_isLeader_251
        · have _q := c16
          refine lv_iconst (v := iI 1) hx hb d_M_isLeader_246 rfl ?_
          refine lv_goto (tgt := 251) hx hb d_M_isLeader_247 (by decide) ?_
          exact fin _ _ _ (by rw [← ecx]; clear ecx; first | (unfold ldF; rw [if_pos (by omega)]; done) | (exfalso; omega) | (subst_vars; unfold ldF isLow; simp_all [chS, strN, bI]; done) | (subst_vars; unfold ldF isLow; simp_all [chS, strN, bI]; omega)) d_M_isLeader_251
      by_cases w17 : x = 9
      · refine li_to (z := 9) w17 ?_
        refine lv_tableIn (x := iI 9) (off := 145) (tgt := 174) hx hb d_M_isLeader_29 (by decide) (by decide) (by decide) (by decide) ?_
        refine lv_iload_n hx hb d_M_isLeader_174 rfl (lv_at hl 0 rfl) ?_
        refine lv_bipush (v := iI 32) hx hb d_M_isLeader_175 (by decide) ?_
        refine li_icmp_eq (tgt := 186) hx hb d_M_isLeader_177 (by decide) (by omega) (by omega) (fun c18 => ?_) (fun c18 => ?_)
        · have _q := c18
          refine lv_iconst (v := iI 1) hx hb d_M_isLeader_186 rfl ?_
          refine lv_goto (tgt := 191) hx hb d_M_isLeader_187 (by decide) ?_
          exact fin _ _ _ (by rw [← ecx]; clear ecx; first | (unfold ldF; rw [if_pos (by omega)]; done) | (exfalso; omega) | (subst_vars; unfold ldF isLow; simp_all [chS, strN, bI]; done) | (subst_vars; unfold ldF isLow; simp_all [chS, strN, bI]; omega)) d_M_isLeader_191
        · have _q := c18
          refine lv_iload_n hx hb d_M_isLeader_180 rfl (lv_at hl 0 rfl) ?_
          refine lv_bipush (v := iI 97) hx hb d_M_isLeader_181 (by decide) ?_
          refine li_icmp_ne (tgt := 190) hx hb d_M_isLeader_183 (by decide) (by omega) (by omega) (fun c19 => ?_) (fun c19 => ?_)
          · have _q := c19
            refine lv_iconst (v := iI 0) hx hb d_M_isLeader_190 rfl ?_
            exact fin _ _ _ (by rw [← ecx]; clear ecx; first | (unfold ldF; rw [if_pos (by omega)]; done) | (exfalso; omega) | (subst_vars; unfold ldF isLow; simp_all [chS, strN, bI]; done) | (subst_vars; unfold ldF isLow; simp_all [chS, strN, bI]; omega)) d_M_isLeader_191
          · have _q := c19
            refine lv_iconst (v := iI 1) hx hb d_M_isLeader_186 rfl ?_
            refine lv_goto (tgt := 191) hx hb d_M_isLeader_187 (by decide) ?_
            exact fin _ _ _ (by rw [← ecx]; clear ecx; first | (unfold ldF; rw [if_pos (by omega)]; done) | (exfalso; omega) | (subst_vars; unfold ldF isLow; simp_all [chS, strN, bI]; done) | (subst_vars; unfold ldF isLow; simp_all [chS, strN, bI]; omega)) d_M_isLeader_191
      by_cases w20 : x = 10
      · refine li_to (z := 10) w20 ?_
        refine lv_tableIn (x := iI 10) (off := 163) (tgt := 192) hx hb d_M_isLeader_29 (by decide) (by decide) (by decide) (by decide) ?_
        refine lv_iload_n hx hb d_M_isLeader_192 rfl (lv_at hl 0 rfl) ?_
        refine lv_bipush (v := iI 50) hx hb d_M_isLeader_193 (by decide) ?_
        refine li_icmp_ne (tgt := 202) hx hb d_M_isLeader_195 (by decide) (by omega) (by omega) (fun c21 => ?_) (fun c21 => ?_)
        · have _q := c21
          refine lv_iconst (v := iI 0) hx hb d_M_isLeader_202 rfl ?_
          exact fin _ _ _ (by rw [← ecx]; clear ecx; first | (unfold ldF; rw [if_pos (by omega)]; done) | (exfalso; omega) | (subst_vars; unfold ldF isLow; simp_all [chS, strN, bI]; done) | (subst_vars; unfold ldF isLow; simp_all [chS, strN, bI]; omega)) d_M_isLeader_203
        · have _q := c21
          refine lv_iconst (v := iI 1) hx hb d_M_isLeader_198 rfl ?_
          refine lv_goto (tgt := 203) hx hb d_M_isLeader_199 (by decide) ?_
          exact fin _ _ _ (by rw [← ecx]; clear ecx; first | (unfold ldF; rw [if_pos (by omega)]; done) | (exfalso; omega) | (subst_vars; unfold ldF isLow; simp_all [chS, strN, bI]; done) | (subst_vars; unfold ldF isLow; simp_all [chS, strN, bI]; omega)) d_M_isLeader_203
      by_cases w22 : x = 11
      · refine li_to (z := 11) w22 ?_
        refine lv_tableIn (x := iI 11) (off := 163) (tgt := 192) hx hb d_M_isLeader_29 (by decide) (by decide) (by decide) (by decide) ?_
        refine lv_iload_n hx hb d_M_isLeader_192 rfl (lv_at hl 0 rfl) ?_
        refine lv_bipush (v := iI 50) hx hb d_M_isLeader_193 (by decide) ?_
        refine li_icmp_ne (tgt := 202) hx hb d_M_isLeader_195 (by decide) (by omega) (by omega) (fun c23 => ?_) (fun c23 => ?_)
        · have _q := c23
          refine lv_iconst (v := iI 0) hx hb d_M_isLeader_202 rfl ?_
          exact fin _ _ _ (by rw [← ecx]; clear ecx; first | (unfold ldF; rw [if_pos (by omega)]; done) | (exfalso; omega) | (subst_vars; unfold ldF isLow; simp_all [chS, strN, bI]; done) | (subst_vars; unfold ldF isLow; simp_all [chS, strN, bI]; omega)) d_M_isLeader_203
        · have _q := c23
          refine lv_iconst (v := iI 1) hx hb d_M_isLeader_198 rfl ?_
          refine lv_goto (tgt := 203) hx hb d_M_isLeader_199 (by decide) ?_
          exact fin _ _ _ (by rw [← ecx]; clear ecx; first | (unfold ldF; rw [if_pos (by omega)]; done) | (exfalso; omega) | (subst_vars; unfold ldF isLow; simp_all [chS, strN, bI]; done) | (subst_vars; unfold ldF isLow; simp_all [chS, strN, bI]; omega)) d_M_isLeader_203
      by_cases w24 : x = 12
      · refine li_to (z := 12) w24 ?_
        refine lv_tableIn (x := iI 12) (off := 211) (tgt := 240) hx hb d_M_isLeader_29 (by decide) (by decide) (by decide) (by decide) ?_
        refine lv_iload_n hx hb d_M_isLeader_240 rfl (lv_at hl 0 rfl) ?_
        refine lv_bipush (v := iI 32) hx hb d_M_isLeader_241 (by decide) ?_
        refine li_icmp_ne (tgt := 250) hx hb d_M_isLeader_243 (by decide) (by omega) (by omega) (fun c25 => ?_) (fun c25 => ?_)
        · have _q := c25
          refine lv_iconst (v := iI 0) hx hb d_M_isLeader_250 rfl ?_
          exact fin _ _ _ (by rw [← ecx]; clear ecx; first | (unfold ldF; rw [if_pos (by omega)]; done) | (exfalso; omega) | (subst_vars; unfold ldF isLow; simp_all [chS, strN, bI]; done) | (subst_vars; unfold ldF isLow; simp_all [chS, strN, bI]; omega)) d_M_isLeader_251
        · have _q := c25
          refine lv_iconst (v := iI 1) hx hb d_M_isLeader_246 rfl ?_
          refine lv_goto (tgt := 251) hx hb d_M_isLeader_247 (by decide) ?_
          exact fin _ _ _ (by rw [← ecx]; clear ecx; first | (unfold ldF; rw [if_pos (by omega)]; done) | (exfalso; omega) | (subst_vars; unfold ldF isLow; simp_all [chS, strN, bI]; done) | (subst_vars; unfold ldF isLow; simp_all [chS, strN, bI]; omega)) d_M_isLeader_251
      by_cases w26 : x = 13
      · refine li_to (z := 13) w26 ?_
        refine lv_tableIn (x := iI 13) (off := 211) (tgt := 240) hx hb d_M_isLeader_29 (by decide) (by decide) (by decide) (by decide) ?_
        refine lv_iload_n hx hb d_M_isLeader_240 rfl (lv_at hl 0 rfl) ?_
        refine lv_bipush (v := iI 32) hx hb d_M_isLeader_241 (by decide) ?_
        refine li_icmp_ne (tgt := 250) hx hb d_M_isLeader_243 (by decide) (by omega) (by omega) (fun c27 => ?_) (fun c27 => ?_)
        · have _q := c27
          refine lv_iconst (v := iI 0) hx hb d_M_isLeader_250 rfl ?_
          exact fin _ _ _ (by rw [← ecx]; clear ecx; first | (unfold ldF; rw [if_pos (by omega)]; done) | (exfalso; omega) | (subst_vars; unfold ldF isLow; simp_all [chS, strN, bI]; done) | (subst_vars; unfold ldF isLow; simp_all [chS, strN, bI]; omega)) d_M_isLeader_251
        · have _q := c27
          refine lv_iconst (v := iI 1) hx hb d_M_isLeader_246 rfl ?_
          refine lv_goto (tgt := 251) hx hb d_M_isLeader_247 (by decide) ?_
          exact fin _ _ _ (by rw [← ecx]; clear ecx; first | (unfold ldF; rw [if_pos (by omega)]; done) | (exfalso; omega) | (subst_vars; unfold ldF isLow; simp_all [chS, strN, bI]; done) | (subst_vars; unfold ldF isLow; simp_all [chS, strN, bI]; omega)) d_M_isLeader_251
      by_cases w28 : x = 14
      · refine li_to (z := 14) w28 ?_
        refine lv_tableIn (x := iI 14) (off := 211) (tgt := 240) hx hb d_M_isLeader_29 (by decide) (by decide) (by decide) (by decide) ?_
        refine lv_iload_n hx hb d_M_isLeader_240 rfl (lv_at hl 0 rfl) ?_
        refine lv_bipush (v := iI 32) hx hb d_M_isLeader_241 (by decide) ?_
        refine li_icmp_ne (tgt := 250) hx hb d_M_isLeader_243 (by decide) (by omega) (by omega) (fun c29 => ?_) (fun c29 => ?_)
        · have _q := c29
          refine lv_iconst (v := iI 0) hx hb d_M_isLeader_250 rfl ?_
          exact fin _ _ _ (by rw [← ecx]; clear ecx; first | (unfold ldF; rw [if_pos (by omega)]; done) | (exfalso; omega) | (subst_vars; unfold ldF isLow; simp_all [chS, strN, bI]; done) | (subst_vars; unfold ldF isLow; simp_all [chS, strN, bI]; omega)) d_M_isLeader_251
        · have _q := c29
          refine lv_iconst (v := iI 1) hx hb d_M_isLeader_246 rfl ?_
          refine lv_goto (tgt := 251) hx hb d_M_isLeader_247 (by decide) ?_
          exact fin _ _ _ (by rw [← ecx]; clear ecx; first | (unfold ldF; rw [if_pos (by omega)]; done) | (exfalso; omega) | (subst_vars; unfold ldF isLow; simp_all [chS, strN, bI]; done) | (subst_vars; unfold ldF isLow; simp_all [chS, strN, bI]; omega)) d_M_isLeader_251
      by_cases w30 : x = 15
      · refine li_to (z := 15) w30 ?_
        refine lv_tableIn (x := iI 15) (off := 211) (tgt := 240) hx hb d_M_isLeader_29 (by decide) (by decide) (by decide) (by decide) ?_
        refine lv_iload_n hx hb d_M_isLeader_240 rfl (lv_at hl 0 rfl) ?_
        refine lv_bipush (v := iI 32) hx hb d_M_isLeader_241 (by decide) ?_
        refine li_icmp_ne (tgt := 250) hx hb d_M_isLeader_243 (by decide) (by omega) (by omega) (fun c31 => ?_) (fun c31 => ?_)
        · have _q := c31
          refine lv_iconst (v := iI 0) hx hb d_M_isLeader_250 rfl ?_
          exact fin _ _ _ (by rw [← ecx]; clear ecx; first | (unfold ldF; rw [if_pos (by omega)]; done) | (exfalso; omega) | (subst_vars; unfold ldF isLow; simp_all [chS, strN, bI]; done) | (subst_vars; unfold ldF isLow; simp_all [chS, strN, bI]; omega)) d_M_isLeader_251
        · have _q := c31
          refine lv_iconst (v := iI 1) hx hb d_M_isLeader_246 rfl ?_
          refine lv_goto (tgt := 251) hx hb d_M_isLeader_247 (by decide) ?_
          exact fin _ _ _ (by rw [← ecx]; clear ecx; first | (unfold ldF; rw [if_pos (by omega)]; done) | (exfalso; omega) | (subst_vars; unfold ldF isLow; simp_all [chS, strN, bI]; done) | (subst_vars; unfold ldF isLow; simp_all [chS, strN, bI]; omega)) d_M_isLeader_251
      by_cases w32 : x = 16
      · refine li_to (z := 16) w32 ?_
        refine lv_tableIn (x := iI 16) (off := 211) (tgt := 240) hx hb d_M_isLeader_29 (by decide) (by decide) (by decide) (by decide) ?_
        refine lv_iload_n hx hb d_M_isLeader_240 rfl (lv_at hl 0 rfl) ?_
        refine lv_bipush (v := iI 32) hx hb d_M_isLeader_241 (by decide) ?_
        refine li_icmp_ne (tgt := 250) hx hb d_M_isLeader_243 (by decide) (by omega) (by omega) (fun c33 => ?_) (fun c33 => ?_)
        · have _q := c33
          refine lv_iconst (v := iI 0) hx hb d_M_isLeader_250 rfl ?_
          exact fin _ _ _ (by rw [← ecx]; clear ecx; first | (unfold ldF; rw [if_pos (by omega)]; done) | (exfalso; omega) | (subst_vars; unfold ldF isLow; simp_all [chS, strN, bI]; done) | (subst_vars; unfold ldF isLow; simp_all [chS, strN, bI]; omega)) d_M_isLeader_251
        · have _q := c33
          refine lv_iconst (v := iI 1) hx hb d_M_isLeader_246 rfl ?_
          refine lv_goto (tgt := 251) hx hb d_M_isLeader_247 (by decide) ?_
          exact fin _ _ _ (by rw [← ecx]; clear ecx; first | (unfold ldF; rw [if_pos (by omega)]; done) | (exfalso; omega) | (subst_vars; unfold ldF isLow; simp_all [chS, strN, bI]; done) | (subst_vars; unfold ldF isLow; simp_all [chS, strN, bI]; omega)) d_M_isLeader_251
      by_cases w34 : x = 17
      · refine li_to (z := 17) w34 ?_
        refine lv_tableIn (x := iI 17) (off := 211) (tgt := 240) hx hb d_M_isLeader_29 (by decide) (by decide) (by decide) (by decide) ?_
        refine lv_iload_n hx hb d_M_isLeader_240 rfl (lv_at hl 0 rfl) ?_
        refine lv_bipush (v := iI 32) hx hb d_M_isLeader_241 (by decide) ?_
        refine li_icmp_ne (tgt := 250) hx hb d_M_isLeader_243 (by decide) (by omega) (by omega) (fun c35 => ?_) (fun c35 => ?_)
        · have _q := c35
          refine lv_iconst (v := iI 0) hx hb d_M_isLeader_250 rfl ?_
          exact fin _ _ _ (by rw [← ecx]; clear ecx; first | (unfold ldF; rw [if_pos (by omega)]; done) | (exfalso; omega) | (subst_vars; unfold ldF isLow; simp_all [chS, strN, bI]; done) | (subst_vars; unfold ldF isLow; simp_all [chS, strN, bI]; omega)) d_M_isLeader_251
        · have _q := c35
          refine lv_iconst (v := iI 1) hx hb d_M_isLeader_246 rfl ?_
          refine lv_goto (tgt := 251) hx hb d_M_isLeader_247 (by decide) ?_
          exact fin _ _ _ (by rw [← ecx]; clear ecx; first | (unfold ldF; rw [if_pos (by omega)]; done) | (exfalso; omega) | (subst_vars; unfold ldF isLow; simp_all [chS, strN, bI]; done) | (subst_vars; unfold ldF isLow; simp_all [chS, strN, bI]; omega)) d_M_isLeader_251
      by_cases w36 : x = 18
      · refine li_to (z := 18) w36 ?_
        refine lv_tableIn (x := iI 18) (off := 211) (tgt := 240) hx hb d_M_isLeader_29 (by decide) (by decide) (by decide) (by decide) ?_
        refine lv_iload_n hx hb d_M_isLeader_240 rfl (lv_at hl 0 rfl) ?_
        refine lv_bipush (v := iI 32) hx hb d_M_isLeader_241 (by decide) ?_
        refine li_icmp_ne (tgt := 250) hx hb d_M_isLeader_243 (by decide) (by omega) (by omega) (fun c37 => ?_) (fun c37 => ?_)
        · have _q := c37
          refine lv_iconst (v := iI 0) hx hb d_M_isLeader_250 rfl ?_
          exact fin _ _ _ (by rw [← ecx]; clear ecx; first | (unfold ldF; rw [if_pos (by omega)]; done) | (exfalso; omega) | (subst_vars; unfold ldF isLow; simp_all [chS, strN, bI]; done) | (subst_vars; unfold ldF isLow; simp_all [chS, strN, bI]; omega)) d_M_isLeader_251
        · have _q := c37
          refine lv_iconst (v := iI 1) hx hb d_M_isLeader_246 rfl ?_
          refine lv_goto (tgt := 251) hx hb d_M_isLeader_247 (by decide) ?_
          exact fin _ _ _ (by rw [← ecx]; clear ecx; first | (unfold ldF; rw [if_pos (by omega)]; done) | (exfalso; omega) | (subst_vars; unfold ldF isLow; simp_all [chS, strN, bI]; done) | (subst_vars; unfold ldF isLow; simp_all [chS, strN, bI]; omega)) d_M_isLeader_251
      by_cases w38 : x = 19
      · refine li_to (z := 19) w38 ?_
        refine lv_tableIn (x := iI 19) (off := 211) (tgt := 240) hx hb d_M_isLeader_29 (by decide) (by decide) (by decide) (by decide) ?_
        refine lv_iload_n hx hb d_M_isLeader_240 rfl (lv_at hl 0 rfl) ?_
        refine lv_bipush (v := iI 32) hx hb d_M_isLeader_241 (by decide) ?_
        refine li_icmp_ne (tgt := 250) hx hb d_M_isLeader_243 (by decide) (by omega) (by omega) (fun c39 => ?_) (fun c39 => ?_)
        · have _q := c39
          refine lv_iconst (v := iI 0) hx hb d_M_isLeader_250 rfl ?_
          exact fin _ _ _ (by rw [← ecx]; clear ecx; first | (unfold ldF; rw [if_pos (by omega)]; done) | (exfalso; omega) | (subst_vars; unfold ldF isLow; simp_all [chS, strN, bI]; done) | (subst_vars; unfold ldF isLow; simp_all [chS, strN, bI]; omega)) d_M_isLeader_251
        · have _q := c39
          refine lv_iconst (v := iI 1) hx hb d_M_isLeader_246 rfl ?_
          refine lv_goto (tgt := 251) hx hb d_M_isLeader_247 (by decide) ?_
          exact fin _ _ _ (by rw [← ecx]; clear ecx; first | (unfold ldF; rw [if_pos (by omega)]; done) | (exfalso; omega) | (subst_vars; unfold ldF isLow; simp_all [chS, strN, bI]; done) | (subst_vars; unfold ldF isLow; simp_all [chS, strN, bI]; omega)) d_M_isLeader_251
      by_cases w40 : x = 20
      · refine li_to (z := 20) w40 ?_
        refine lv_tableIn (x := iI 20) (off := 175) (tgt := 204) hx hb d_M_isLeader_29 (by decide) (by decide) (by decide) (by decide) ?_
        refine lv_iload_n hx hb d_M_isLeader_204 rfl (lv_at hl 0 rfl) ?_
        refine lv_bipush (v := iI 52) hx hb d_M_isLeader_205 (by decide) ?_
        refine li_icmp_ne (tgt := 214) hx hb d_M_isLeader_207 (by decide) (by omega) (by omega) (fun c41 => ?_) (fun c41 => ?_)
        · have _q := c41
          refine lv_iconst (v := iI 0) hx hb d_M_isLeader_214 rfl ?_
          exact fin _ _ _ (by rw [← ecx]; clear ecx; first | (unfold ldF; rw [if_pos (by omega)]; done) | (exfalso; omega) | (subst_vars; unfold ldF isLow; simp_all [chS, strN, bI]; done) | (subst_vars; unfold ldF isLow; simp_all [chS, strN, bI]; omega)) d_M_isLeader_215
        · have _q := c41
          refine lv_iconst (v := iI 1) hx hb d_M_isLeader_210 rfl ?_
          refine lv_goto (tgt := 215) hx hb d_M_isLeader_211 (by decide) ?_
          exact fin _ _ _ (by rw [← ecx]; clear ecx; first | (unfold ldF; rw [if_pos (by omega)]; done) | (exfalso; omega) | (subst_vars; unfold ldF isLow; simp_all [chS, strN, bI]; done) | (subst_vars; unfold ldF isLow; simp_all [chS, strN, bI]; omega)) d_M_isLeader_215
      by_cases w42 : x = 21
      · refine li_to (z := 21) w42 ?_
        refine lv_tableIn (x := iI 21) (off := 187) (tgt := 216) hx hb d_M_isLeader_29 (by decide) (by decide) (by decide) (by decide) ?_
        refine lv_iload_n hx hb d_M_isLeader_216 rfl (lv_at hl 0 rfl) ?_
        refine lv_bipush (v := iI 53) hx hb d_M_isLeader_217 (by decide) ?_
        refine li_icmp_ne (tgt := 226) hx hb d_M_isLeader_219 (by decide) (by omega) (by omega) (fun c43 => ?_) (fun c43 => ?_)
        · have _q := c43
          refine lv_iconst (v := iI 0) hx hb d_M_isLeader_226 rfl ?_
          exact fin _ _ _ (by rw [← ecx]; clear ecx; first | (unfold ldF; rw [if_pos (by omega)]; done) | (exfalso; omega) | (subst_vars; unfold ldF isLow; simp_all [chS, strN, bI]; done) | (subst_vars; unfold ldF isLow; simp_all [chS, strN, bI]; omega)) d_M_isLeader_227
        · have _q := c43
          refine lv_iconst (v := iI 1) hx hb d_M_isLeader_222 rfl ?_
          refine lv_goto (tgt := 227) hx hb d_M_isLeader_223 (by decide) ?_
          exact fin _ _ _ (by rw [← ecx]; clear ecx; first | (unfold ldF; rw [if_pos (by omega)]; done) | (exfalso; omega) | (subst_vars; unfold ldF isLow; simp_all [chS, strN, bI]; done) | (subst_vars; unfold ldF isLow; simp_all [chS, strN, bI]; omega)) d_M_isLeader_227
      by_cases w44 : x = 22
      · refine li_to (z := 22) w44 ?_
        refine lv_tableIn (x := iI 22) (off := 199) (tgt := 228) hx hb d_M_isLeader_29 (by decide) (by decide) (by decide) (by decide) ?_
        refine lv_iload_n hx hb d_M_isLeader_228 rfl (lv_at hl 0 rfl) ?_
        refine lv_bipush (v := iI 48) hx hb d_M_isLeader_229 (by decide) ?_
        refine li_icmp_ne (tgt := 238) hx hb d_M_isLeader_231 (by decide) (by omega) (by omega) (fun c45 => ?_) (fun c45 => ?_)
        · have _q := c45
          refine lv_iconst (v := iI 0) hx hb d_M_isLeader_238 rfl ?_
          exact fin _ _ _ (by rw [← ecx]; clear ecx; first | (unfold ldF; rw [if_pos (by omega)]; done) | (exfalso; omega) | (subst_vars; unfold ldF isLow; simp_all [chS, strN, bI]; done) | (subst_vars; unfold ldF isLow; simp_all [chS, strN, bI]; omega)) d_M_isLeader_239
        · have _q := c45
          refine lv_iconst (v := iI 1) hx hb d_M_isLeader_234 rfl ?_
          refine lv_goto (tgt := 239) hx hb d_M_isLeader_235 (by decide) ?_
          exact fin _ _ _ (by rw [← ecx]; clear ecx; first | (unfold ldF; rw [if_pos (by omega)]; done) | (exfalso; omega) | (subst_vars; unfold ldF isLow; simp_all [chS, strN, bI]; done) | (subst_vars; unfold ldF isLow; simp_all [chS, strN, bI]; omega)) d_M_isLeader_239
      by_cases w46 : x = 23
      · refine li_to (z := 23) w46 ?_
        refine lv_tableIn (x := iI 23) (off := 199) (tgt := 228) hx hb d_M_isLeader_29 (by decide) (by decide) (by decide) (by decide) ?_
        refine lv_iload_n hx hb d_M_isLeader_228 rfl (lv_at hl 0 rfl) ?_
        refine lv_bipush (v := iI 48) hx hb d_M_isLeader_229 (by decide) ?_
        refine li_icmp_ne (tgt := 238) hx hb d_M_isLeader_231 (by decide) (by omega) (by omega) (fun c47 => ?_) (fun c47 => ?_)
        · have _q := c47
          refine lv_iconst (v := iI 0) hx hb d_M_isLeader_238 rfl ?_
          exact fin _ _ _ (by rw [← ecx]; clear ecx; first | (unfold ldF; rw [if_pos (by omega)]; done) | (exfalso; omega) | (subst_vars; unfold ldF isLow; simp_all [chS, strN, bI]; done) | (subst_vars; unfold ldF isLow; simp_all [chS, strN, bI]; omega)) d_M_isLeader_239
        · have _q := c47
          refine lv_iconst (v := iI 1) hx hb d_M_isLeader_234 rfl ?_
          refine lv_goto (tgt := 239) hx hb d_M_isLeader_235 (by decide) ?_
          exact fin _ _ _ (by rw [← ecx]; clear ecx; first | (unfold ldF; rw [if_pos (by omega)]; done) | (exfalso; omega) | (subst_vars; unfold ldF isLow; simp_all [chS, strN, bI]; done) | (subst_vars; unfold ldF isLow; simp_all [chS, strN, bI]; omega)) d_M_isLeader_239
      refine lv_tableOut (tgt := 240) hx hb d_M_isLeader_29 (by rw [iI_toInt (by omega)]; omega) (by decide) ?_
      refine lv_iload_n hx hb d_M_isLeader_240 rfl (lv_at hl 0 rfl) ?_
      refine lv_bipush (v := iI 32) hx hb d_M_isLeader_241 (by decide) ?_
      refine li_icmp_ne (tgt := 250) hx hb d_M_isLeader_243 (by decide) (by omega) (by omega) (fun c48 => ?_) (fun c48 => ?_)
      · have _q := c48
        refine lv_iconst (v := iI 0) hx hb d_M_isLeader_250 rfl ?_
        exact fin _ _ _ (by rw [← ecx]; clear ecx; first | (unfold ldF; rw [if_pos (by omega)]; done) | (exfalso; omega) | (subst_vars; unfold ldF isLow; simp_all [chS, strN, bI]; done) | (subst_vars; unfold ldF isLow; simp_all [chS, strN, bI]; omega)) d_M_isLeader_251
      · have _q := c48
        refine lv_iconst (v := iI 1) hx hb d_M_isLeader_246 rfl ?_
        refine lv_goto (tgt := 251) hx hb d_M_isLeader_247 (by decide) ?_
        exact fin _ _ _ (by rw [← ecx]; clear ecx; first | (unfold ldF; rw [if_pos (by omega)]; done) | (exfalso; omega) | (subst_vars; unfold ldF isLow; simp_all [chS, strN, bI]; done) | (subst_vars; unfold ldF isLow; simp_all [chS, strN, bI]; omega)) d_M_isLeader_251
    · have _q := c2
      refine lv_iload_n hx hb d_M_isLeader_17 rfl (lv_at hl 2 rfl) ?_
      refine lv_bipush (v := iI 17) hx hb d_M_isLeader_18 (by decide) ?_
      refine li_icmp_ge (tgt := 28) hx hb d_M_isLeader_20 (by decide) (by omega) (by omega) (fun c49 => ?_) (fun c49 => ?_)
      · have _q := c49
        refine lv_iload_n hx hb d_M_isLeader_28 rfl (lv_at hl 2 rfl) ?_
        by_cases w50 : x = 5
        · refine li_to (z := 5) w50 ?_
          refine lv_tableIn (x := iI 5) (off := 91) (tgt := 120) hx hb d_M_isLeader_29 (by decide) (by decide) (by decide) (by decide) ?_
          refine lv_iload_n hx hb d_M_isLeader_120 rfl (lv_at hl 0 rfl) ?_
          refine lv_bipush (v := iI 97) hx hb d_M_isLeader_121 (by decide) ?_
          refine li_icmp_eq (tgt := 150) hx hb d_M_isLeader_123 (by decide) (by omega) (by omega) (fun c51 => ?_) (fun c51 => ?_)
          · have _q := c51
            refine lv_iconst (v := iI 1) hx hb d_M_isLeader_150 rfl ?_
            refine lv_goto (tgt := 155) hx hb d_M_isLeader_151 (by decide) ?_
            exact fin _ _ _ (by rw [← ecx]; clear ecx; first | (unfold ldF; rw [if_pos (by omega)]; done) | (exfalso; omega) | (subst_vars; unfold ldF isLow; simp_all [chS, strN, bI]; done) | (subst_vars; unfold ldF isLow; simp_all [chS, strN, bI]; omega)) d_M_isLeader_155
          · have _q := c51
            refine lv_iload_n hx hb d_M_isLeader_126 rfl (lv_at hl 0 rfl) ?_
            refine lv_bipush (v := iI 99) hx hb d_M_isLeader_127 (by decide) ?_
            refine li_icmp_eq (tgt := 150) hx hb d_M_isLeader_129 (by decide) (by omega) (by omega) (fun c52 => ?_) (fun c52 => ?_)
            · have _q := c52
              refine lv_iconst (v := iI 1) hx hb d_M_isLeader_150 rfl ?_
              refine lv_goto (tgt := 155) hx hb d_M_isLeader_151 (by decide) ?_
              exact fin _ _ _ (by rw [← ecx]; clear ecx; first | (unfold ldF; rw [if_pos (by omega)]; done) | (exfalso; omega) | (subst_vars; unfold ldF isLow; simp_all [chS, strN, bI]; done) | (subst_vars; unfold ldF isLow; simp_all [chS, strN, bI]; omega)) d_M_isLeader_155
            · have _q := c52
              refine lv_iload_n hx hb d_M_isLeader_132 rfl (lv_at hl 0 rfl) ?_
              refine lv_bipush (v := iI 100) hx hb d_M_isLeader_133 (by decide) ?_
              refine li_icmp_eq (tgt := 150) hx hb d_M_isLeader_135 (by decide) (by omega) (by omega) (fun c53 => ?_) (fun c53 => ?_)
              · have _q := c53
                refine lv_iconst (v := iI 1) hx hb d_M_isLeader_150 rfl ?_
                refine lv_goto (tgt := 155) hx hb d_M_isLeader_151 (by decide) ?_
                exact fin _ _ _ (by rw [← ecx]; clear ecx; first | (unfold ldF; rw [if_pos (by omega)]; done) | (exfalso; omega) | (subst_vars; unfold ldF isLow; simp_all [chS, strN, bI]; done) | (subst_vars; unfold ldF isLow; simp_all [chS, strN, bI]; omega)) d_M_isLeader_155
              · have _q := c53
                refine lv_iload_n hx hb d_M_isLeader_138 rfl (lv_at hl 0 rfl) ?_
                refine lv_bipush (v := iI 110) hx hb d_M_isLeader_139 (by decide) ?_
                refine li_icmp_eq (tgt := 150) hx hb d_M_isLeader_141 (by decide) (by omega) (by omega) (fun c54 => ?_) (fun c54 => ?_)
                · have _q := c54
                  refine lv_iconst (v := iI 1) hx hb d_M_isLeader_150 rfl ?_
                  refine lv_goto (tgt := 155) hx hb d_M_isLeader_151 (by decide) ?_
                  exact fin _ _ _ (by rw [← ecx]; clear ecx; first | (unfold ldF; rw [if_pos (by omega)]; done) | (exfalso; omega) | (subst_vars; unfold ldF isLow; simp_all [chS, strN, bI]; done) | (subst_vars; unfold ldF isLow; simp_all [chS, strN, bI]; omega)) d_M_isLeader_155
                · have _q := c54
                  refine lv_iload_n hx hb d_M_isLeader_144 rfl (lv_at hl 0 rfl) ?_
                  refine lv_bipush (v := iI 112) hx hb d_M_isLeader_145 (by decide) ?_
                  refine li_icmp_ne (tgt := 154) hx hb d_M_isLeader_147 (by decide) (by omega) (by omega) (fun c55 => ?_) (fun c55 => ?_)
                  · have _q := c55
                    refine lv_iconst (v := iI 0) hx hb d_M_isLeader_154 rfl ?_
                    exact fin _ _ _ (by rw [← ecx]; clear ecx; first | (unfold ldF; rw [if_pos (by omega)]; done) | (exfalso; omega) | (subst_vars; unfold ldF isLow; simp_all [chS, strN, bI]; done) | (subst_vars; unfold ldF isLow; simp_all [chS, strN, bI]; omega)) d_M_isLeader_155
                  · have _q := c55
                    refine lv_iconst (v := iI 1) hx hb d_M_isLeader_150 rfl ?_
                    refine lv_goto (tgt := 155) hx hb d_M_isLeader_151 (by decide) ?_
                    exact fin _ _ _ (by rw [← ecx]; clear ecx; first | (unfold ldF; rw [if_pos (by omega)]; done) | (exfalso; omega) | (subst_vars; unfold ldF isLow; simp_all [chS, strN, bI]; done) | (subst_vars; unfold ldF isLow; simp_all [chS, strN, bI]; omega)) d_M_isLeader_155
        by_cases w56 : x = 6
        · refine li_to (z := 6) w56 ?_
          refine lv_tableIn (x := iI 6) (off := 127) (tgt := 156) hx hb d_M_isLeader_29 (by decide) (by decide) (by decide) (by decide) ?_
          refine lv_iload_n hx hb d_M_isLeader_156 rfl (lv_at hl 0 rfl) ?_
          refine lv_bipush (v := iI 97) hx hb d_M_isLeader_157 (by decide) ?_
          refine li_icmp_lt (tgt := 172) hx hb d_M_isLeader_159 (by decide) (by omega) (by omega) (fun c57 => ?_) (fun c57 => ?_)
          · have _q := c57
            refine lv_iconst (v := iI 0) hx hb d_M_isLeader_172 rfl ?_
            exact fin _ _ _ (by rw [← ecx]; clear ecx; first | (unfold ldF; rw [if_pos (by omega)]; done) | (exfalso; omega) | (subst_vars; unfold ldF isLow; simp_all [chS, strN, bI]; done) | (subst_vars; unfold ldF isLow; simp_all [chS, strN, bI]; omega)) d_M_isLeader_173
          · have _q := c57
            refine lv_iload_n hx hb d_M_isLeader_162 rfl (lv_at hl 0 rfl) ?_
            refine lv_bipush (v := iI 122) hx hb d_M_isLeader_163 (by decide) ?_
            refine li_icmp_gt (tgt := 172) hx hb d_M_isLeader_165 (by decide) (by omega) (by omega) (fun c58 => ?_) (fun c58 => ?_)
            · have _q := c58
              refine lv_iconst (v := iI 0) hx hb d_M_isLeader_172 rfl ?_
              exact fin _ _ _ (by rw [← ecx]; clear ecx; first | (unfold ldF; rw [if_pos (by omega)]; done) | (exfalso; omega) | (subst_vars; unfold ldF isLow; simp_all [chS, strN, bI]; done) | (subst_vars; unfold ldF isLow; simp_all [chS, strN, bI]; omega)) d_M_isLeader_173
            · have _q := c58
              refine lv_iconst (v := iI 1) hx hb d_M_isLeader_168 rfl ?_
              refine lv_goto (tgt := 173) hx hb d_M_isLeader_169 (by decide) ?_
              exact fin _ _ _ (by rw [← ecx]; clear ecx; first | (unfold ldF; rw [if_pos (by omega)]; done) | (exfalso; omega) | (subst_vars; unfold ldF isLow; simp_all [chS, strN, bI]; done) | (subst_vars; unfold ldF isLow; simp_all [chS, strN, bI]; omega)) d_M_isLeader_173
        by_cases w59 : x = 7
        · refine li_to (z := 7) w59 ?_
          refine lv_tableIn (x := iI 7) (off := 127) (tgt := 156) hx hb d_M_isLeader_29 (by decide) (by decide) (by decide) (by decide) ?_
          refine lv_iload_n hx hb d_M_isLeader_156 rfl (lv_at hl 0 rfl) ?_
          refine lv_bipush (v := iI 97) hx hb d_M_isLeader_157 (by decide) ?_
          refine li_icmp_lt (tgt := 172) hx hb d_M_isLeader_159 (by decide) (by omega) (by omega) (fun c60 => ?_) (fun c60 => ?_)
          · have _q := c60
            refine lv_iconst (v := iI 0) hx hb d_M_isLeader_172 rfl ?_
            exact fin _ _ _ (by rw [← ecx]; clear ecx; first | (unfold ldF; rw [if_pos (by omega)]; done) | (exfalso; omega) | (subst_vars; unfold ldF isLow; simp_all [chS, strN, bI]; done) | (subst_vars; unfold ldF isLow; simp_all [chS, strN, bI]; omega)) d_M_isLeader_173
          · have _q := c60
            refine lv_iload_n hx hb d_M_isLeader_162 rfl (lv_at hl 0 rfl) ?_
            refine lv_bipush (v := iI 122) hx hb d_M_isLeader_163 (by decide) ?_
            refine li_icmp_gt (tgt := 172) hx hb d_M_isLeader_165 (by decide) (by omega) (by omega) (fun c61 => ?_) (fun c61 => ?_)
            · have _q := c61
              refine lv_iconst (v := iI 0) hx hb d_M_isLeader_172 rfl ?_
              exact fin _ _ _ (by rw [← ecx]; clear ecx; first | (unfold ldF; rw [if_pos (by omega)]; done) | (exfalso; omega) | (subst_vars; unfold ldF isLow; simp_all [chS, strN, bI]; done) | (subst_vars; unfold ldF isLow; simp_all [chS, strN, bI]; omega)) d_M_isLeader_173
            · have _q := c61
              refine lv_iconst (v := iI 1) hx hb d_M_isLeader_168 rfl ?_
              refine lv_goto (tgt := 173) hx hb d_M_isLeader_169 (by decide) ?_
              exact fin _ _ _ (by rw [← ecx]; clear ecx; first | (unfold ldF; rw [if_pos (by omega)]; done) | (exfalso; omega) | (subst_vars; unfold ldF isLow; simp_all [chS, strN, bI]; done) | (subst_vars; unfold ldF isLow; simp_all [chS, strN, bI]; omega)) d_M_isLeader_173
        by_cases w62 : x = 8
        · refine li_to (z := 8) w62 ?_
          refine lv_tableIn (x := iI 8) (off := 211) (tgt := 240) hx hb d_M_isLeader_29 (by decide) (by decide) (by decide) (by decide) ?_
          refine lv_iload_n hx hb d_M_isLeader_240 rfl (lv_at hl 0 rfl) ?_
          refine lv_bipush (v := iI 32) hx hb d_M_isLeader_241 (by decide) ?_
          refine li_icmp_ne (tgt := 250) hx hb d_M_isLeader_243 (by decide) (by omega) (by omega) (fun c63 => ?_) (fun c63 => ?_)
          · have _q := c63
            refine lv_iconst (v := iI 0) hx hb d_M_isLeader_250 rfl ?_
            exact fin _ _ _ (by rw [← ecx]; clear ecx; first | (unfold ldF; rw [if_pos (by omega)]; done) | (exfalso; omega) | (subst_vars; unfold ldF isLow; simp_all [chS, strN, bI]; done) | (subst_vars; unfold ldF isLow; simp_all [chS, strN, bI]; omega)) d_M_isLeader_251
          · have _q := c63
            refine lv_iconst (v := iI 1) hx hb d_M_isLeader_246 rfl ?_
            refine lv_goto (tgt := 251) hx hb d_M_isLeader_247 (by decide) ?_
            exact fin _ _ _ (by rw [← ecx]; clear ecx; first | (unfold ldF; rw [if_pos (by omega)]; done) | (exfalso; omega) | (subst_vars; unfold ldF isLow; simp_all [chS, strN, bI]; done) | (subst_vars; unfold ldF isLow; simp_all [chS, strN, bI]; omega)) d_M_isLeader_251
        by_cases w64 : x = 9
        · refine li_to (z := 9) w64 ?_
          refine lv_tableIn (x := iI 9) (off := 145) (tgt := 174) hx hb d_M_isLeader_29 (by decide) (by decide) (by decide) (by decide) ?_
          refine lv_iload_n hx hb d_M_isLeader_174 rfl (lv_at hl 0 rfl) ?_
          refine lv_bipush (v := iI 32) hx hb d_M_isLeader_175 (by decide) ?_
          refine li_icmp_eq (tgt := 186) hx hb d_M_isLeader_177 (by decide) (by omega) (by omega) (fun c65 => ?_) (fun c65 => ?_)
          · have _q := c65
            refine lv_iconst (v := iI 1) hx hb d_M_isLeader_186 rfl ?_
            refine lv_goto (tgt := 191) hx hb d_M_isLeader_187 (by decide) ?_
            exact fin _ _ _ (by rw [← ecx]; clear ecx; first | (unfold ldF; rw [if_pos (by omega)]; done) | (exfalso; omega) | (subst_vars; unfold ldF isLow; simp_all [chS, strN, bI]; done) | (subst_vars; unfold ldF isLow; simp_all [chS, strN, bI]; omega)) d_M_isLeader_191
          · have _q := c65
            refine lv_iload_n hx hb d_M_isLeader_180 rfl (lv_at hl 0 rfl) ?_
            refine lv_bipush (v := iI 97) hx hb d_M_isLeader_181 (by decide) ?_
            refine li_icmp_ne (tgt := 190) hx hb d_M_isLeader_183 (by decide) (by omega) (by omega) (fun c66 => ?_) (fun c66 => ?_)
            · have _q := c66
              refine lv_iconst (v := iI 0) hx hb d_M_isLeader_190 rfl ?_
              exact fin _ _ _ (by rw [← ecx]; clear ecx; first | (unfold ldF; rw [if_pos (by omega)]; done) | (exfalso; omega) | (subst_vars; unfold ldF isLow; simp_all [chS, strN, bI]; done) | (subst_vars; unfold ldF isLow; simp_all [chS, strN, bI]; omega)) d_M_isLeader_191
            · have _q := c66
              refine lv_iconst (v := iI 1) hx hb d_M_isLeader_186 rfl ?_
              refine lv_goto (tgt := 191) hx hb d_M_isLeader_187 (by decide) ?_
              exact fin _ _ _ (by rw [← ecx]; clear ecx; first | (unfold ldF; rw [if_pos (by omega)]; done) | (exfalso; omega) | (subst_vars; unfold ldF isLow; simp_all [chS, strN, bI]; done) | (subst_vars; unfold ldF isLow; simp_all [chS, strN, bI]; omega)) d_M_isLeader_191
        by_cases w67 : x = 10
        · refine li_to (z := 10) w67 ?_
          refine lv_tableIn (x := iI 10) (off := 163) (tgt := 192) hx hb d_M_isLeader_29 (by decide) (by decide) (by decide) (by decide) ?_
          refine lv_iload_n hx hb d_M_isLeader_192 rfl (lv_at hl 0 rfl) ?_
          refine lv_bipush (v := iI 50) hx hb d_M_isLeader_193 (by decide) ?_
          refine li_icmp_ne (tgt := 202) hx hb d_M_isLeader_195 (by decide) (by omega) (by omega) (fun c68 => ?_) (fun c68 => ?_)
          · have _q := c68
            refine lv_iconst (v := iI 0) hx hb d_M_isLeader_202 rfl ?_
            exact fin _ _ _ (by rw [← ecx]; clear ecx; first | (unfold ldF; rw [if_pos (by omega)]; done) | (exfalso; omega) | (subst_vars; unfold ldF isLow; simp_all [chS, strN, bI]; done) | (subst_vars; unfold ldF isLow; simp_all [chS, strN, bI]; omega)) d_M_isLeader_203
          · have _q := c68
            refine lv_iconst (v := iI 1) hx hb d_M_isLeader_198 rfl ?_
            refine lv_goto (tgt := 203) hx hb d_M_isLeader_199 (by decide) ?_
            exact fin _ _ _ (by rw [← ecx]; clear ecx; first | (unfold ldF; rw [if_pos (by omega)]; done) | (exfalso; omega) | (subst_vars; unfold ldF isLow; simp_all [chS, strN, bI]; done) | (subst_vars; unfold ldF isLow; simp_all [chS, strN, bI]; omega)) d_M_isLeader_203
        by_cases w69 : x = 11
        · refine li_to (z := 11) w69 ?_
          refine lv_tableIn (x := iI 11) (off := 163) (tgt := 192) hx hb d_M_isLeader_29 (by decide) (by decide) (by decide) (by decide) ?_
          refine lv_iload_n hx hb d_M_isLeader_192 rfl (lv_at hl 0 rfl) ?_
          refine lv_bipush (v := iI 50) hx hb d_M_isLeader_193 (by decide) ?_
          refine li_icmp_ne (tgt := 202) hx hb d_M_isLeader_195 (by decide) (by omega) (by omega) (fun c70 => ?_) (fun c70 => ?_)
          · have _q := c70
            refine lv_iconst (v := iI 0) hx hb d_M_isLeader_202 rfl ?_
            exact fin _ _ _ (by rw [← ecx]; clear ecx; first | (unfold ldF; rw [if_pos (by omega)]; done) | (exfalso; omega) | (subst_vars; unfold ldF isLow; simp_all [chS, strN, bI]; done) | (subst_vars; unfold ldF isLow; simp_all [chS, strN, bI]; omega)) d_M_isLeader_203
          · have _q := c70
            refine lv_iconst (v := iI 1) hx hb d_M_isLeader_198 rfl ?_
            refine lv_goto (tgt := 203) hx hb d_M_isLeader_199 (by decide) ?_
            exact fin _ _ _ (by rw [← ecx]; clear ecx; first | (unfold ldF; rw [if_pos (by omega)]; done) | (exfalso; omega) | (subst_vars; unfold ldF isLow; simp_all [chS, strN, bI]; done) | (subst_vars; unfold ldF isLow; simp_all [chS, strN, bI]; omega)) d_M_isLeader_203
        by_cases w71 : x = 12
        · refine li_to (z := 12) w71 ?_
          refine lv_tableIn (x := iI 12) (off := 211) (tgt := 240) hx hb d_M_isLeader_29 (by decide) (by decide) (by decide) (by decide) ?_
          refine lv_iload_n hx hb d_M_isLeader_240 rfl (lv_at hl 0 rfl) ?_
          refine lv_bipush (v := iI 32) hx hb d_M_isLeader_241 (by decide) ?_
          refine li_icmp_ne (tgt := 250) hx hb d_M_isLeader_243 (by decide) (by omega) (by omega) (fun c72 => ?_) (fun c72 => ?_)
          · have _q := c72
            refine lv_iconst (v := iI 0) hx hb d_M_isLeader_250 rfl ?_
            exact fin _ _ _ (by rw [← ecx]; clear ecx; first | (unfold ldF; rw [if_pos (by omega)]; done) | (exfalso; omega) | (subst_vars; unfold ldF isLow; simp_all [chS, strN, bI]; done) | (subst_vars; unfold ldF isLow; simp_all [chS, strN, bI]; omega)) d_M_isLeader_251
          · have _q := c72
            refine lv_iconst (v := iI 1) hx hb d_M_isLeader_246 rfl ?_
            refine lv_goto (tgt := 251) hx hb d_M_isLeader_247 (by decide) ?_
            exact fin _ _ _ (by rw [← ecx]; clear ecx; first | (unfold ldF; rw [if_pos (by omega)]; done) | (exfalso; omega) | (subst_vars; unfold ldF isLow; simp_all [chS, strN, bI]; done) | (subst_vars; unfold ldF isLow; simp_all [chS, strN, bI]; omega)) d_M_isLeader_251
        by_cases w73 : x = 13
        · refine li_to (z := 13) w73 ?_
          refine lv_tableIn (x := iI 13) (off := 211) (tgt := 240) hx hb d_M_isLeader_29 (by decide) (by decide) (by decide) (by decide) ?_
          refine lv_iload_n hx hb d_M_isLeader_240 rfl (lv_at hl 0 rfl) ?_
          refine lv_bipush (v := iI 32) hx hb d_M_isLeader_241 (by decide) ?_
          refine li_icmp_ne (tgt := 250) hx hb d_M_isLeader_243 (by decide) (by omega) (by omega) (fun c74 => ?_) (fun c74 => ?_)
          · have _q := c74
            refine lv_iconst (v := iI 0) hx hb d_M_isLeader_250 rfl ?_
            exact fin _ _ _ (by rw [← ecx]; clear ecx; first | (unfold ldF; rw [if_pos (by omega)]; done) | (exfalso; omega) | (subst_vars; unfold ldF isLow; simp_all [chS, strN, bI]; done) | (subst_vars; unfold ldF isLow; simp_all [chS, strN, bI]; omega)) d_M_isLeader_251
          · have _q := c74
            refine lv_iconst (v := iI 1) hx hb d_M_isLeader_246 rfl ?_
            refine lv_goto (tgt := 251) hx hb d_M_isLeader_247 (by decide) ?_
            exact fin _ _ _ (by rw [← ecx]; clear ecx; first | (unfold ldF; rw [if_pos (by omega)]; done) | (exfalso; omega) | (subst_vars; unfold ldF isLow; simp_all [chS, strN, bI]; done) | (subst_vars; unfold ldF isLow; simp_all [chS, strN, bI]; omega)) d_M_isLeader_251
        by_cases w75 : x = 14
        · refine li_to (z := 14) w75 ?_
          refine lv_tableIn (x := iI 14) (off := 211) (tgt := 240) hx hb d_M_isLeader_29 (by decide) (by decide) (by decide) (by decide) ?_
          refine lv_iload_n hx hb d_M_isLeader_240 rfl (lv_at hl 0 rfl) ?_
          refine lv_bipush (v := iI 32) hx hb d_M_isLeader_241 (by decide) ?_
          refine li_icmp_ne (tgt := 250) hx hb d_M_isLeader_243 (by decide) (by omega) (by omega) (fun c76 => ?_) (fun c76 => ?_)
          · have _q := c76
            refine lv_iconst (v := iI 0) hx hb d_M_isLeader_250 rfl ?_
            exact fin _ _ _ (by rw [← ecx]; clear ecx; first | (unfold ldF; rw [if_pos (by omega)]; done) | (exfalso; omega) | (subst_vars; unfold ldF isLow; simp_all [chS, strN, bI]; done) | (subst_vars; unfold ldF isLow; simp_all [chS, strN, bI]; omega)) d_M_isLeader_251
          · have _q := c76
            refine lv_iconst (v := iI 1) hx hb d_M_isLeader_246 rfl ?_
            refine lv_goto (tgt := 251) hx hb d_M_isLeader_247 (by decide) ?_
            exact fin _ _ _ (by rw [← ecx]; clear ecx; first | (unfold ldF; rw [if_pos (by omega)]; done) | (exfalso; omega) | (subst_vars; unfold ldF isLow; simp_all [chS, strN, bI]; done) | (subst_vars; unfold ldF isLow; simp_all [chS, strN, bI]; omega)) d_M_isLeader_251
        by_cases w77 : x = 15
        · refine li_to (z := 15) w77 ?_
          refine lv_tableIn (x := iI 15) (off := 211) (tgt := 240) hx hb d_M_isLeader_29 (by decide) (by decide) (by decide) (by decide) ?_
          refine lv_iload_n hx hb d_M_isLeader_240 rfl (lv_at hl 0 rfl) ?_
          refine lv_bipush (v := iI 32) hx hb d_M_isLeader_241 (by decide) ?_
          refine li_icmp_ne (tgt := 250) hx hb d_M_isLeader_243 (by decide) (by omega) (by omega) (fun c78 => ?_) (fun c78 => ?_)
          · have _q := c78
            refine lv_iconst (v := iI 0) hx hb d_M_isLeader_250 rfl ?_
            exact fin _ _ _ (by rw [← ecx]; clear ecx; first | (unfold ldF; rw [if_pos (by omega)]; done) | (exfalso; omega) | (subst_vars; unfold ldF isLow; simp_all [chS, strN, bI]; done) | (subst_vars; unfold ldF isLow; simp_all [chS, strN, bI]; omega)) d_M_isLeader_251
          · have _q := c78
            refine lv_iconst (v := iI 1) hx hb d_M_isLeader_246 rfl ?_
            refine lv_goto (tgt := 251) hx hb d_M_isLeader_247 (by decide) ?_
            exact fin _ _ _ (by rw [← ecx]; clear ecx; first | (unfold ldF; rw [if_pos (by omega)]; done) | (exfalso; omega) | (subst_vars; unfold ldF isLow; simp_all [chS, strN, bI]; done) | (subst_vars; unfold ldF isLow; simp_all [chS, strN, bI]; omega)) d_M_isLeader_251
        by_cases w79 : x = 16
        · refine li_to (z := 16) w79 ?_
          refine lv_tableIn (x := iI 16) (off := 211) (tgt := 240) hx hb d_M_isLeader_29 (by decide) (by decide) (by decide) (by decide) ?_
          refine lv_iload_n hx hb d_M_isLeader_240 rfl (lv_at hl 0 rfl) ?_
          refine lv_bipush (v := iI 32) hx hb d_M_isLeader_241 (by decide) ?_
          refine li_icmp_ne (tgt := 250) hx hb d_M_isLeader_243 (by decide) (by omega) (by omega) (fun c80 => ?_) (fun c80 => ?_)
          · have _q := c80
            refine lv_iconst (v := iI 0) hx hb d_M_isLeader_250 rfl ?_
            exact fin _ _ _ (by rw [← ecx]; clear ecx; first | (unfold ldF; rw [if_pos (by omega)]; done) | (exfalso; omega) | (subst_vars; unfold ldF isLow; simp_all [chS, strN, bI]; done) | (subst_vars; unfold ldF isLow; simp_all [chS, strN, bI]; omega)) d_M_isLeader_251
          · have _q := c80
            refine lv_iconst (v := iI 1) hx hb d_M_isLeader_246 rfl ?_
            refine lv_goto (tgt := 251) hx hb d_M_isLeader_247 (by decide) ?_
            exact fin _ _ _ (by rw [← ecx]; clear ecx; first | (unfold ldF; rw [if_pos (by omega)]; done) | (exfalso; omega) | (subst_vars; unfold ldF isLow; simp_all [chS, strN, bI]; done) | (subst_vars; unfold ldF isLow; simp_all [chS, strN, bI]; omega)) d_M_isLeader_251
        by_cases w81 : x = 17
        · refine li_to (z := 17) w81 ?_
          refine lv_tableIn (x := iI 17) (off := 211) (tgt := 240) hx hb d_M_isLeader_29 (by decide) (by decide) (by decide) (by decide) ?_
          refine lv_iload_n hx hb d_M_isLeader_240 rfl (lv_at hl 0 rfl) ?_
          refine lv_bipush (v := iI 32) hx hb d_M_isLeader_241 (by decide) ?_
          refine li_icmp_ne (tgt := 250) hx hb d_M_isLeader_243 (by decide) (by omega) (by omega) (fun c82 => ?_) (fun c82 => ?_)
          · have _q := c82
            refine lv_iconst (v := iI 0) hx hb d_M_isLeader_250 rfl ?_
            exact fin _ _ _ (by rw [← ecx]; clear ecx; first | (unfold ldF; rw [if_pos (by omega)]; done) | (exfalso; omega) | (subst_vars; unfold ldF isLow; simp_all [chS, strN, bI]; done) | (subst_vars; unfold ldF isLow; simp_all [chS, strN, bI]; omega)) d_M_isLeader_251
          · have _q := c82
            refine lv_iconst (v := iI 1) hx hb d_M_isLeader_246 rfl ?_
            refine lv_goto (tgt := 251) hx hb d_M_isLeader_247 (by decide) ?_
            exact fin _ _ _ (by rw [← ecx]; clear ecx; first | (unfold ldF; rw [if_pos (by omega)]; done) | (exfalso; omega) | (subst_vars; unfold ldF isLow; simp_all [chS, strN, bI]; done) | (subst_vars; unfold ldF isLow; simp_all [chS, strN, bI]; omega)) d_M_isLeader_251
        by_cases w83 : x = 18
        · refine li_to (z := 18) w83 ?_
          refine lv_tableIn (x := iI 18) (off := 211) (tgt := 240) hx hb d_M_isLeader_29 (by decide) (by decide) (by decide) (by decide) ?_
          refine lv_iload_n hx hb d_M_isLeader_240 rfl (lv_at hl 0 rfl) ?_
          refine lv_bipush (v := iI 32) hx hb d_M_isLeader_241 (by decide) ?_
          refine li_icmp_ne (tgt := 250) hx hb d_M_isLeader_243 (by decide) (by omega) (by omega) (fun c84 => ?_) (fun c84 => ?_)
          · have _q := c84
            refine lv_iconst (v := iI 0) hx hb d_M_isLeader_250 rfl ?_
            exact fin _ _ _ (by rw [← ecx]; clear ecx; first | (unfold ldF; rw [if_pos (by omega)]; done) | (exfalso; omega) | (subst_vars; unfold ldF isLow; simp_all [chS, strN, bI]; done) | (subst_vars; unfold ldF isLow; simp_all [chS, strN, bI]; omega)) d_M_isLeader_251
          · have _q := c84
            refine lv_iconst (v := iI 1) hx hb d_M_isLeader_246 rfl ?_
            refine lv_goto (tgt := 251) hx hb d_M_isLeader_247 (by decide) ?_
            exact fin _ _ _ (by rw [← ecx]; clear ecx; first | (unfold ldF; rw [if_pos (by omega)]; done) | (exfalso; omega) | (subst_vars; unfold ldF isLow; simp_all [chS, strN, bI]; done) | (subst_vars; unfold ldF isLow; simp_all [chS, strN, bI]; omega)) d_M_isLeader_251
        by_cases w85 : x = 19
        · refine li_to (z := 19) w85 ?_
          refine lv_tableIn (x := iI 19) (off := 211) (tgt := 240) hx hb d_M_isLeader_29 (by decide) (by decide) (by decide) (by decide) ?_
          refine lv_iload_n hx hb d_M_isLeader_240 rfl (lv_at hl 0 rfl) ?_
          refine lv_bipush (v := iI 32) hx hb d_M_isLeader_241 (by decide) ?_
          refine li_icmp_ne (tgt := 250) hx hb d_M_isLeader_243 (by decide) (by omega) (by omega) (fun c86 => ?_) (fun c86 => ?_)
          · have _q := c86
            refine lv_iconst (v := iI 0) hx hb d_M_isLeader_250 rfl ?_
            exact fin _ _ _ (by rw [← ecx]; clear ecx; first | (unfold ldF; rw [if_pos (by omega)]; done) | (exfalso; omega) | (subst_vars; unfold ldF isLow; simp_all [chS, strN, bI]; done) | (subst_vars; unfold ldF isLow; simp_all [chS, strN, bI]; omega)) d_M_isLeader_251
          · have _q := c86
            refine lv_iconst (v := iI 1) hx hb d_M_isLeader_246 rfl ?_
            refine lv_goto (tgt := 251) hx hb d_M_isLeader_247 (by decide) ?_
            exact fin _ _ _ (by rw [← ecx]; clear ecx; first | (unfold ldF; rw [if_pos (by omega)]; done) | (exfalso; omega) | (subst_vars; unfold ldF isLow; simp_all [chS, strN, bI]; done) | (subst_vars; unfold ldF isLow; simp_all [chS, strN, bI]; omega)) d_M_isLeader_251
        by_cases w87 : x = 20
        · refine li_to (z := 20) w87 ?_
          refine lv_tableIn (x := iI 20) (off := 175) (tgt := 204) hx hb d_M_isLeader_29 (by decide) (by decide) (by decide) (by decide) ?_
          refine lv_iload_n hx hb d_M_isLeader_204 rfl (lv_at hl 0 rfl) ?_
          refine lv_bipush (v := iI 52) hx hb d_M_isLeader_205 (by decide) ?_
          refine li_icmp_ne (tgt := 214) hx hb d_M_isLeader_207 (by decide) (by omega) (by omega) (fun c88 => ?_) (fun c88 => ?_)
          · have _q := c88
            refine lv_iconst (v := iI 0) hx hb d_M_isLeader_214 rfl ?_
            exact fin _ _ _ (by rw [← ecx]; clear ecx; first | (unfold ldF; rw [if_pos (by omega)]; done) | (exfalso; omega) | (subst_vars; unfold ldF isLow; simp_all [chS, strN, bI]; done) | (subst_vars; unfold ldF isLow; simp_all [chS, strN, bI]; omega)) d_M_isLeader_215
          · have _q := c88
            refine lv_iconst (v := iI 1) hx hb d_M_isLeader_210 rfl ?_
            refine lv_goto (tgt := 215) hx hb d_M_isLeader_211 (by decide) ?_
            exact fin _ _ _ (by rw [← ecx]; clear ecx; first | (unfold ldF; rw [if_pos (by omega)]; done) | (exfalso; omega) | (subst_vars; unfold ldF isLow; simp_all [chS, strN, bI]; done) | (subst_vars; unfold ldF isLow; simp_all [chS, strN, bI]; omega)) d_M_isLeader_215
        by_cases w89 : x = 21
        · refine li_to (z := 21) w89 ?_
          refine lv_tableIn (x := iI 21) (off := 187) (tgt := 216) hx hb d_M_isLeader_29 (by decide) (by decide) (by decide) (by decide) ?_
          refine lv_iload_n hx hb d_M_isLeader_216 rfl (lv_at hl 0 rfl) ?_
          refine lv_bipush (v := iI 53) hx hb d_M_isLeader_217 (by decide) ?_
          refine li_icmp_ne (tgt := 226) hx hb d_M_isLeader_219 (by decide) (by omega) (by omega) (fun c90 => ?_) (fun c90 => ?_)
          · have _q := c90
            refine lv_iconst (v := iI 0) hx hb d_M_isLeader_226 rfl ?_
            exact fin _ _ _ (by rw [← ecx]; clear ecx; first | (unfold ldF; rw [if_pos (by omega)]; done) | (exfalso; omega) | (subst_vars; unfold ldF isLow; simp_all [chS, strN, bI]; done) | (subst_vars; unfold ldF isLow; simp_all [chS, strN, bI]; omega)) d_M_isLeader_227
          · have _q := c90
            refine lv_iconst (v := iI 1) hx hb d_M_isLeader_222 rfl ?_
            refine lv_goto (tgt := 227) hx hb d_M_isLeader_223 (by decide) ?_
            exact fin _ _ _ (by rw [← ecx]; clear ecx; first | (unfold ldF; rw [if_pos (by omega)]; done) | (exfalso; omega) | (subst_vars; unfold ldF isLow; simp_all [chS, strN, bI]; done) | (subst_vars; unfold ldF isLow; simp_all [chS, strN, bI]; omega)) d_M_isLeader_227
        by_cases w91 : x = 22
        · refine li_to (z := 22) w91 ?_
          refine lv_tableIn (x := iI 22) (off := 199) (tgt := 228) hx hb d_M_isLeader_29 (by decide) (by decide) (by decide) (by decide) ?_
          refine lv_iload_n hx hb d_M_isLeader_228 rfl (lv_at hl 0 rfl) ?_
          refine lv_bipush (v := iI 48) hx hb d_M_isLeader_229 (by decide) ?_
          refine li_icmp_ne (tgt := 238) hx hb d_M_isLeader_231 (by decide) (by omega) (by omega) (fun c92 => ?_) (fun c92 => ?_)
          · have _q := c92
            refine lv_iconst (v := iI 0) hx hb d_M_isLeader_238 rfl ?_
            exact fin _ _ _ (by rw [← ecx]; clear ecx; first | (unfold ldF; rw [if_pos (by omega)]; done) | (exfalso; omega) | (subst_vars; unfold ldF isLow; simp_all [chS, strN, bI]; done) | (subst_vars; unfold ldF isLow; simp_all [chS, strN, bI]; omega)) d_M_isLeader_239
          · have _q := c92
            refine lv_iconst (v := iI 1) hx hb d_M_isLeader_234 rfl ?_
            refine lv_goto (tgt := 239) hx hb d_M_isLeader_235 (by decide) ?_
            exact fin _ _ _ (by rw [← ecx]; clear ecx; first | (unfold ldF; rw [if_pos (by omega)]; done) | (exfalso; omega) | (subst_vars; unfold ldF isLow; simp_all [chS, strN, bI]; done) | (subst_vars; unfold ldF isLow; simp_all [chS, strN, bI]; omega)) d_M_isLeader_239
        by_cases w93 : x = 23
        · refine li_to (z := 23) w93 ?_
          refine lv_tableIn (x := iI 23) (off := 199) (tgt := 228) hx hb d_M_isLeader_29 (by decide) (by decide) (by decide) (by decide) ?_
          refine lv_iload_n hx hb d_M_isLeader_228 rfl (lv_at hl 0 rfl) ?_
          refine lv_bipush (v := iI 48) hx hb d_M_isLeader_229 (by decide) ?_
          refine li_icmp_ne (tgt := 238) hx hb d_M_isLeader_231 (by decide) (by omega) (by omega) (fun c94 => ?_) (fun c94 => ?_)
          · have _q := c94
            refine lv_iconst (v := iI 0) hx hb d_M_isLeader_238 rfl ?_
            exact fin _ _ _ (by rw [← ecx]; clear ecx; first | (unfold ldF; rw [if_pos (by omega)]; done) | (exfalso; omega) | (subst_vars; unfold ldF isLow; simp_all [chS, strN, bI]; done) | (subst_vars; unfold ldF isLow; simp_all [chS, strN, bI]; omega)) d_M_isLeader_239
          · have _q := c94
            refine lv_iconst (v := iI 1) hx hb d_M_isLeader_234 rfl ?_
            refine lv_goto (tgt := 239) hx hb d_M_isLeader_235 (by decide) ?_
            exact fin _ _ _ (by rw [← ecx]; clear ecx; first | (unfold ldF; rw [if_pos (by omega)]; done) | (exfalso; omega) | (subst_vars; unfold ldF isLow; simp_all [chS, strN, bI]; done) | (subst_vars; unfold ldF isLow; simp_all [chS, strN, bI]; omega)) d_M_isLeader_239
        refine lv_tableOut (tgt := 240) hx hb d_M_isLeader_29 (by rw [iI_toInt (by omega)]; omega) (by decide) ?_
        refine lv_iload_n hx hb d_M_isLeader_240 rfl (lv_at hl 0 rfl) ?_
        refine lv_bipush (v := iI 32) hx hb d_M_isLeader_241 (by decide) ?_
        refine li_icmp_ne (tgt := 250) hx hb d_M_isLeader_243 (by decide) (by omega) (by omega) (fun c95 => ?_) (fun c95 => ?_)
        · have _q := c95
          refine lv_iconst (v := iI 0) hx hb d_M_isLeader_250 rfl ?_
          exact fin _ _ _ (by rw [← ecx]; clear ecx; first | (unfold ldF; rw [if_pos (by omega)]; done) | (exfalso; omega) | (subst_vars; unfold ldF isLow; simp_all [chS, strN, bI]; done) | (subst_vars; unfold ldF isLow; simp_all [chS, strN, bI]; omega)) d_M_isLeader_251
        · have _q := c95
          refine lv_iconst (v := iI 1) hx hb d_M_isLeader_246 rfl ?_
          refine lv_goto (tgt := 251) hx hb d_M_isLeader_247 (by decide) ?_
          exact fin _ _ _ (by rw [← ecx]; clear ecx; first | (unfold ldF; rw [if_pos (by omega)]; done) | (exfalso; omega) | (subst_vars; unfold ldF isLow; simp_all [chS, strN, bI]; done) | (subst_vars; unfold ldF isLow; simp_all [chS, strN, bI]; omega)) d_M_isLeader_251
      · have _q := c49
        refine lv_iload_n hx hb d_M_isLeader_23 rfl (lv_at hl 0 rfl) ?_
        refine li_callr ((va_runS (As := [.int (iI cx)]) (rest := []) ⟨hx, hb, hml, hown, hts⟩ (c_M_isDigit l dC dI kA cx (by omega)) (cw_M_77 hts rfl rfl ⟨Nat.le_of_ble_eq_true rfl, Nat.le_of_ble_eq_true rfl⟩) (li_preS va_Pnil hK hN hG.rd) rfl rfl hl.1 rfl (lv_room (Nat.le_of_ble_eq_true rfl)) d_M_isLeader_24 ⟨(by show 0 + 0 ≤ 0; omega), (by show 0 + 0 ≤ 0; omega)⟩).run) ?_
        exact fin _ _ _ (by rw [← ecx]; clear ecx; first | (unfold ldF; rw [if_pos (by omega)]; done) | (exfalso; omega) | (subst_vars; unfold ldF isLow; simp_all [chS, strN, bI]; done) | (subst_vars; unfold ldF isLow; simp_all [chS, strN, bI]; omega)) d_M_isLeader_27
theorem d_M_addText_0 : decode b_M_addText 0 = .ok (.aload_n 0, 1) := by decide +kernel
theorem d_M_addText_1 : decode b_M_addText 1 = .ok (.getfield 26, 3) := by decide +kernel
theorem d_M_addText_4 : decode b_M_addText 4 = .ok (.aload_n 0, 1) := by decide +kernel
theorem d_M_addText_5 : decode b_M_addText 5 = .ok (.getfield 113, 3) := by decide +kernel
theorem d_M_addText_8 : decode b_M_addText 8 = .ok (.iload_n 1, 1) := by decide +kernel
theorem d_M_addText_9 : decode b_M_addText 9 = .ok (.iastore, 1) := by decide +kernel
theorem d_M_addText_10 : decode b_M_addText 10 = .ok (.aload_n 0, 1) := by decide +kernel
theorem d_M_addText_11 : decode b_M_addText 11 = .ok (.getfield 29, 3) := by decide +kernel
theorem d_M_addText_14 : decode b_M_addText 14 = .ok (.aload_n 0, 1) := by decide +kernel
theorem d_M_addText_15 : decode b_M_addText 15 = .ok (.getfield 113, 3) := by decide +kernel
theorem d_M_addText_18 : decode b_M_addText 18 = .ok (.iload_n 2, 1) := by decide +kernel
theorem d_M_addText_19 : decode b_M_addText 19 = .ok (.iastore, 1) := by decide +kernel
theorem d_M_addText_20 : decode b_M_addText 20 = .ok (.aload_n 0, 1) := by decide +kernel
theorem d_M_addText_21 : decode b_M_addText 21 = .ok (.dup, 1) := by decide +kernel
theorem d_M_addText_22 : decode b_M_addText 22 = .ok (.getfield 113, 3) := by decide +kernel
theorem d_M_addText_25 : decode b_M_addText 25 = .ok (.iconst 1, 1) := by decide +kernel
theorem d_M_addText_26 : decode b_M_addText 26 = .ok (.iadd, 1) := by decide +kernel
theorem d_M_addText_27 : decode b_M_addText 27 = .ok (.putfield 113, 3) := by decide +kernel
theorem d_M_addText_30 : decode b_M_addText 30 = .ok (.return_, 1) := by decide +kernel
set_option maxHeartbeats 4000000 in
set_option maxRecDepth 100000 in
theorem c_M_addText (l : Launch) (dC : Nat → ClassId) (dI : Nat → Nat → Nat) (kA : Nat → ClassId) (sz : Nat) (mo : Nat) (ma : Nat → Nat) (mrf : Int) (mz : Int) (mls : Int) (mfp : Int) (mfm : Int) (mtx : Int) (mwd : Int) (mak : Int) (mli : Int) (mlx : Int) (mat : Int) (mtk : Int) (mtf : Int) (mtt : Int) (mfa : Int) (mla : Int) (mlp : Int) (mdp : Int) (msi : Int) (mpf : Int) (mpt : Int) (mdn : Bool) (ctf : Nat → Int) (ctt : Nat → Int) (a0 : Int) (a1 : Int) (hx9 : 0 ≤ mtx ∧ mtx < 400) : Met l y_M_addText (wsy y_M_addText b_M_addText 3 none) (rmd 0 0 0) (li_Pr (dC, dI) CL (TY kA) [.ref mo, .int (iI a0), .int (iI a1)] (fun h => h.size = sz ∧ va_P (dC, dI) CL [(mo, .inr (10, [.int (iI mrf), .ref (ma 0), .int (iI mz), .ref (ma 1), .ref (ma 2), .int (iI mls), .int (iI mfp), .int (iI mfm), .ref (ma 3), .int (iI mtx), .ref (ma 4), .ref (ma 5), .int (iI mwd), .ref (ma 6), .ref (ma 7), .int (iI mak), .ref (ma 8), .ref (ma 9), .int (iI mli), .int (iI mlx), .ref (ma 10), .ref (ma 11), .int (iI mat), .int (iI mtk), .int (iI mtf), .int (iI mtt), .int (iI mfa), .int (iI mla), .int (iI mlp), .int (iI mdp), .ref (ma 12), .ref (ma 13), .int (iI msi), .int (iI (bI mdn)), .int (iI mpf), .int (iI mpt)])), (ma 4, .inl (kA 0, 400, .inl (aI ctf))), (ma 5, .inl (kA 0, 400, .inl (aI ctt)))] h ∧ va_D (fun q => dI 100 0 ≤ q) [(mo, .inr (10, [.int (iI mrf), .ref (ma 0), .int (iI mz), .ref (ma 1), .ref (ma 2), .int (iI mls), .int (iI mfp), .int (iI mfm), .ref (ma 3), .int (iI mtx), .ref (ma 4), .ref (ma 5), .int (iI mwd), .ref (ma 6), .ref (ma 7), .int (iI mak), .ref (ma 8), .ref (ma 9), .int (iI mli), .int (iI mlx), .ref (ma 10), .ref (ma 11), .int (iI mat), .int (iI mtk), .int (iI mtf), .int (iI mtt), .int (iI mfa), .int (iI mla), .int (iI mlp), .int (iI mdp), .ref (ma 12), .ref (ma 13), .int (iI msi), .int (iI (bI mdn)), .int (iI mpf), .int (iI mpt)])), (ma 4, .inl (kA 0, 400, .inl (aI ctf))), (ma 5, .inl (kA 0, 400, .inl (aI ctt)))] ∧ (fun _ => True) h)) (li_Qw (S := Unit) (dC, dI) CL (fun _ => True) (fun _ => none) (fun _ => [(mo, .inr (10, [.int (iI mrf), .ref (ma 0), .int (iI mz), .ref (ma 1), .ref (ma 2), .int (iI mls), .int (iI mfp), .int (iI mfm), .ref (ma 3), .int (iI (mtx + 1)), .ref (ma 4), .ref (ma 5), .int (iI mwd), .ref (ma 6), .ref (ma 7), .int (iI mak), .ref (ma 8), .ref (ma 9), .int (iI mli), .int (iI mlx), .ref (ma 10), .ref (ma 11), .int (iI mat), .int (iI mtk), .int (iI mtf), .int (iI mtt), .int (iI mfa), .int (iI mla), .int (iI mlp), .int (iI mdp), .ref (ma 12), .ref (ma 13), .int (iI msi), .int (iI (bI mdn)), .int (iI mpf), .int (iI mpt)])), (ma 4, .inl (kA 0, 400, .inl (aI (va_up ctf mtx.toNat a0)))), (ma 5, .inl (kA 0, 400, .inl (aI (va_up ctt mtx.toNat a1))))]) (va_A [(mo, .inr (10, [.int (iI mrf), .ref (ma 0), .int (iI mz), .ref (ma 1), .ref (ma 2), .int (iI mls), .int (iI mfp), .int (iI mfm), .ref (ma 3), .int (iI mtx), .ref (ma 4), .ref (ma 5), .int (iI mwd), .ref (ma 6), .ref (ma 7), .int (iI mak), .ref (ma 8), .ref (ma 9), .int (iI mli), .int (iI mlx), .ref (ma 10), .ref (ma 11), .int (iI mat), .int (iI mtk), .int (iI mtf), .int (iI mtt), .int (iI mfa), .int (iI mla), .int (iI mlp), .int (iI mdp), .ref (ma 12), .ref (ma 13), .int (iI msi), .int (iI (bI mdn)), .int (iI mpf), .int (iI mpt)])), (ma 4, .inl (kA 0, 400, .inl (aI ctf))), (ma 5, .inl (kA 0, 400, .inl (aI ctt)))] sz)) 0 0 (va_A [(mo, .inr (10, [.int (iI mrf), .ref (ma 0), .int (iI mz), .ref (ma 1), .ref (ma 2), .int (iI mls), .int (iI mfp), .int (iI mfm), .ref (ma 3), .int (iI mtx), .ref (ma 4), .ref (ma 5), .int (iI mwd), .ref (ma 6), .ref (ma 7), .int (iI mak), .ref (ma 8), .ref (ma 9), .int (iI mli), .int (iI mlx), .ref (ma 10), .ref (ma 11), .int (iI mat), .int (iI mtk), .int (iI mtf), .int (iI mtt), .int (iI mfa), .int (iI mla), .int (iI mlp), .int (iI mdp), .ref (ma 12), .ref (ma 13), .int (iI msi), .int (iI (bI mdn)), .int (iI mpf), .int (iI mpt)])), (ma 4, .inl (kA 0, 400, .inl (aI ctf))), (ma 5, .inl (kA 0, 400, .inl (aI ctt)))] sz) := by
  refine li_mwv (by decide) (Nat.le_of_ble_eq_true rfl) ?_
  intro p e s m args below meth c Q A C hP hD hBx hK hN hG hA hAi hAN fin ls hl
  obtain ⟨hx, hb, hr, hml, hown, hts, hlocks, hin⟩ := C
  have hown : s.vm.findClass R_M = some m.cls := hown
  have hl : lv_has ls 3 [(0, .ref mo), (1, .int (iI a0)), (2, .int (iI a1))] := hl
  suffices h9 : ∀ (H : Heap) (locs : List Loc), H = s.heap → locs = [] → W p l e (rmd 0 0 0) s m args below meth c H locs 0 0 Q (F0 m 0 ls []) from h9 _ _ rfl rfl
  intro H locs eH eL
  have hP : va_P (dC, dI) CL [(mo, .inr (10, [.int (iI mrf), .ref (ma 0), .int (iI mz), .ref (ma 1), .ref (ma 2), .int (iI mls), .int (iI mfp), .int (iI mfm), .ref (ma 3), .int (iI mtx), .ref (ma 4), .ref (ma 5), .int (iI mwd), .ref (ma 6), .ref (ma 7), .int (iI mak), .ref (ma 8), .ref (ma 9), .int (iI mli), .int (iI mlx), .ref (ma 10), .ref (ma 11), .int (iI mat), .int (iI mtk), .int (iI mtf), .int (iI mtt), .int (iI mfa), .int (iI mla), .int (iI mlp), .int (iI mdp), .ref (ma 12), .ref (ma 13), .int (iI msi), .int (iI (bI mdn)), .int (iI mpf), .int (iI mpt)])), (ma 4, .inl (kA 0, 400, .inl (aI ctf))), (ma 5, .inl (kA 0, 400, .inl (aI ctt)))] H := by rw [eH]; exact hP
  have hS : va_S A s.heap H locs := by rw [eH, eL]; exact va_S.rf
  refine lv_aload_n hx hb d_M_addText_0 rfl (lv_at hl 0 rfl) ?_
  refine gf_M_26 hx hb hts hown hK hP 0 rfl rfl d_M_addText_1 ?_
  refine lv_aload_n hx hb d_M_addText_4 rfl (lv_at hl 0 rfl) ?_
  refine gf_M_113 hx hb hts hown hK hP 0 rfl rfl d_M_addText_5 ?_
  refine lv_iload_n hx hb d_M_addText_8 rfl (lv_at hl 1 rfl) ?_
  refine li_iast hx hb hK hP hD hS 1 0 rfl rfl (by omega) (by omega) (by omega) d_M_addText_9 (fun H locs hP hD hS => ?_)
  have hP : va_P (dC, dI) CL [(mo, .inr (10, [.int (iI mrf), .ref (ma 0), .int (iI mz), .ref (ma 1), .ref (ma 2), .int (iI mls), .int (iI mfp), .int (iI mfm), .ref (ma 3), .int (iI mtx), .ref (ma 4), .ref (ma 5), .int (iI mwd), .ref (ma 6), .ref (ma 7), .int (iI mak), .ref (ma 8), .ref (ma 9), .int (iI mli), .int (iI mlx), .ref (ma 10), .ref (ma 11), .int (iI mat), .int (iI mtk), .int (iI mtf), .int (iI mtt), .int (iI mfa), .int (iI mla), .int (iI mlp), .int (iI mdp), .ref (ma 12), .ref (ma 13), .int (iI msi), .int (iI (bI mdn)), .int (iI mpf), .int (iI mpt)])), (ma 4, .inl (kA 0, 400, .inl (aI (va_up ctf mtx.toNat a0)))), (ma 5, .inl (kA 0, 400, .inl (aI ctt)))] H := hP
  have hD : va_D A [(mo, .inr (10, [.int (iI mrf), .ref (ma 0), .int (iI mz), .ref (ma 1), .ref (ma 2), .int (iI mls), .int (iI mfp), .int (iI mfm), .ref (ma 3), .int (iI mtx), .ref (ma 4), .ref (ma 5), .int (iI mwd), .ref (ma 6), .ref (ma 7), .int (iI mak), .ref (ma 8), .ref (ma 9), .int (iI mli), .int (iI mlx), .ref (ma 10), .ref (ma 11), .int (iI mat), .int (iI mtk), .int (iI mtf), .int (iI mtt), .int (iI mfa), .int (iI mla), .int (iI mlp), .int (iI mdp), .ref (ma 12), .ref (ma 13), .int (iI msi), .int (iI (bI mdn)), .int (iI mpf), .int (iI mpt)])), (ma 4, .inl (kA 0, 400, .inl (aI (va_up ctf mtx.toNat a0)))), (ma 5, .inl (kA 0, 400, .inl (aI ctt)))] := hD
  refine lv_aload_n hx hb d_M_addText_10 rfl (lv_at hl 0 rfl) ?_
  refine gf_M_29 hx hb hts hown hK hP 0 rfl rfl d_M_addText_11 ?_
  refine lv_aload_n hx hb d_M_addText_14 rfl (lv_at hl 0 rfl) ?_
  refine gf_M_113 hx hb hts hown hK hP 0 rfl rfl d_M_addText_15 ?_
  refine lv_iload_n hx hb d_M_addText_18 rfl (lv_at hl 2 rfl) ?_
  refine li_iast hx hb hK hP hD hS 2 0 rfl rfl (by omega) (by omega) (by omega) d_M_addText_19 (fun H locs hP hD hS => ?_)
  have hP : va_P (dC, dI) CL [(mo, .inr (10, [.int (iI mrf), .ref (ma 0), .int (iI mz), .ref (ma 1), .ref (ma 2), .int (iI mls), .int (iI mfp), .int (iI mfm), .ref (ma 3), .int (iI mtx), .ref (ma 4), .ref (ma 5), .int (iI mwd), .ref (ma 6), .ref (ma 7), .int (iI mak), .ref (ma 8), .ref (ma 9), .int (iI mli), .int (iI mlx), .ref (ma 10), .ref (ma 11), .int (iI mat), .int (iI mtk), .int (iI mtf), .int (iI mtt), .int (iI mfa), .int (iI mla), .int (iI mlp), .int (iI mdp), .ref (ma 12), .ref (ma 13), .int (iI msi), .int (iI (bI mdn)), .int (iI mpf), .int (iI mpt)])), (ma 4, .inl (kA 0, 400, .inl (aI (va_up ctf mtx.toNat a0)))), (ma 5, .inl (kA 0, 400, .inl (aI (va_up ctt mtx.toNat a1))))] H := hP
  have hD : va_D A [(mo, .inr (10, [.int (iI mrf), .ref (ma 0), .int (iI mz), .ref (ma 1), .ref (ma 2), .int (iI mls), .int (iI mfp), .int (iI mfm), .ref (ma 3), .int (iI mtx), .ref (ma 4), .ref (ma 5), .int (iI mwd), .ref (ma 6), .ref (ma 7), .int (iI mak), .ref (ma 8), .ref (ma 9), .int (iI mli), .int (iI mlx), .ref (ma 10), .ref (ma 11), .int (iI mat), .int (iI mtk), .int (iI mtf), .int (iI mtt), .int (iI mfa), .int (iI mla), .int (iI mlp), .int (iI mdp), .ref (ma 12), .ref (ma 13), .int (iI msi), .int (iI (bI mdn)), .int (iI mpf), .int (iI mpt)])), (ma 4, .inl (kA 0, 400, .inl (aI (va_up ctf mtx.toNat a0)))), (ma 5, .inl (kA 0, 400, .inl (aI (va_up ctt mtx.toNat a1))))] := hD
  refine lv_aload_n hx hb d_M_addText_20 rfl (lv_at hl 0 rfl) ?_
  refine lv_dup hx hb d_M_addText_21 rfl ?_
  refine gf_M_113 hx hb hts hown hK hP 0 rfl rfl d_M_addText_22 ?_
  refine lv_iconst (v := iI 1) hx hb d_M_addText_25 rfl ?_
  refine li_iadd hx hb d_M_addText_26 ?_
  refine li_nm (fun x1 ex1 => ?_)
  refine pf_M_113 hx hb hts hown hK hP hD hS 0 rfl (Nat.le_of_ble_eq_true rfl) d_M_addText_27 (fun H locs hP hD hS => ?_)
  have hP : va_P (dC, dI) CL [(mo, .inr (10, [.int (iI mrf), .ref (ma 0), .int (iI mz), .ref (ma 1), .ref (ma 2), .int (iI mls), .int (iI mfp), .int (iI mfm), .ref (ma 3), .int (iI x1), .ref (ma 4), .ref (ma 5), .int (iI mwd), .ref (ma 6), .ref (ma 7), .int (iI mak), .ref (ma 8), .ref (ma 9), .int (iI mli), .int (iI mlx), .ref (ma 10), .ref (ma 11), .int (iI mat), .int (iI mtk), .int (iI mtf), .int (iI mtt), .int (iI mfa), .int (iI mla), .int (iI mlp), .int (iI mdp), .ref (ma 12), .ref (ma 13), .int (iI msi), .int (iI (bI mdn)), .int (iI mpf), .int (iI mpt)])), (ma 4, .inl (kA 0, 400, .inl (aI (va_up ctf mtx.toNat a0)))), (ma 5, .inl (kA 0, 400, .inl (aI (va_up ctt mtx.toNat a1))))] H := hP
  have hD : va_D A [(mo, .inr (10, [.int (iI mrf), .ref (ma 0), .int (iI mz), .ref (ma 1), .ref (ma 2), .int (iI mls), .int (iI mfp), .int (iI mfm), .ref (ma 3), .int (iI x1), .ref (ma 4), .ref (ma 5), .int (iI mwd), .ref (ma 6), .ref (ma 7), .int (iI mak), .ref (ma 8), .ref (ma 9), .int (iI mli), .int (iI mlx), .ref (ma 10), .ref (ma 11), .int (iI mat), .int (iI mtk), .int (iI mtf), .int (iI mtt), .int (iI mfa), .int (iI mla), .int (iI mlp), .int (iI mdp), .ref (ma 12), .ref (ma 13), .int (iI msi), .int (iI (bI mdn)), .int (iI mpf), .int (iI mpt)])), (ma 4, .inl (kA 0, 400, .inl (aI (va_up ctf mtx.toNat a0)))), (ma 5, .inl (kA 0, 400, .inl (aI (va_up ctt mtx.toNat a1))))] := hD
  exact fin () _ _ _ _ (by trivial) (by first | exact hP | (subst_vars; exact hP)) (by first | exact hD | (subst_vars; exact hD)) hS d_M_addText_30
theorem d_M_split_0 : decode b_M_split 0 = .ok (.aload_n 0, 1) := by decide +kernel
theorem d_M_split_1 : decode b_M_split 1 = .ok (.iconst 0, 1) := by decide +kernel
theorem d_M_split_2 : decode b_M_split 2 = .ok (.putfield 142, 3) := by decide +kernel
theorem d_M_split_5 : decode b_M_split 5 = .ok (.aload_n 0, 1) := by decide +kernel
theorem d_M_split_6 : decode b_M_split 6 = .ok (.iload_n 1, 1) := by decide +kernel
theorem d_M_split_7 : decode b_M_split 7 = .ok (.iload_n 2, 1) := by decide +kernel
theorem d_M_split_8 : decode b_M_split 8 = .ok (.iconst 0, 1) := by decide +kernel
theorem d_M_split_9 : decode b_M_split 9 = .ok (.invokevirtual 145, 3) := by decide +kernel
theorem d_M_split_12 : decode b_M_split 12 = .ok (.istore_n 3, 1) := by decide +kernel
theorem d_M_split_13 : decode b_M_split 13 = .ok (.iload_n 3, 1) := by decide +kernel
theorem d_M_split_14 : decode b_M_split 14 = .ok (.iload_n 2, 1) := by decide +kernel
theorem d_M_split_15 : decode b_M_split 15 = .ok (.if_icmp .ge 52, 3) := by decide +kernel
theorem d_M_split_18 : decode b_M_split 18 = .ok (.aload_n 0, 1) := by decide +kernel
theorem d_M_split_19 : decode b_M_split 19 = .ok (.getfield 32, 3) := by decide +kernel
theorem d_M_split_22 : decode b_M_split 22 = .ok (.aload_n 0, 1) := by decide +kernel
theorem d_M_split_23 : decode b_M_split 23 = .ok (.getfield 142, 3) := by decide +kernel
theorem d_M_split_26 : decode b_M_split 26 = .ok (.iload_n 3, 1) := by decide +kernel
theorem d_M_split_27 : decode b_M_split 27 = .ok (.iastore, 1) := by decide +kernel
theorem d_M_split_28 : decode b_M_split 28 = .ok (.aload_n 0, 1) := by decide +kernel
theorem d_M_split_29 : decode b_M_split 29 = .ok (.iload_n 3, 1) := by decide +kernel
theorem d_M_split_30 : decode b_M_split 30 = .ok (.iload_n 2, 1) := by decide +kernel
theorem d_M_split_31 : decode b_M_split 31 = .ok (.iconst 0, 1) := by decide +kernel
theorem d_M_split_32 : decode b_M_split 32 = .ok (.invokevirtual 149, 3) := by decide +kernel
theorem d_M_split_35 : decode b_M_split 35 = .ok (.istore_n 3, 1) := by decide +kernel
theorem d_M_split_36 : decode b_M_split 36 = .ok (.aload_n 0, 1) := by decide +kernel
theorem d_M_split_37 : decode b_M_split 37 = .ok (.getfield 35, 3) := by decide +kernel
theorem d_M_split_40 : decode b_M_split 40 = .ok (.aload_n 0, 1) := by decide +kernel
theorem d_M_split_41 : decode b_M_split 41 = .ok (.getfield 142, 3) := by decide +kernel
theorem d_M_split_44 : decode b_M_split 44 = .ok (.iload_n 3, 1) := by decide +kernel
theorem d_M_split_45 : decode b_M_split 45 = .ok (.iastore, 1) := by decide +kernel
theorem d_M_split_46 : decode b_M_split 46 = .ok (.aload_n 0, 1) := by decide +kernel
theorem d_M_split_47 : decode b_M_split 47 = .ok (.dup, 1) := by decide +kernel
theorem d_M_split_48 : decode b_M_split 48 = .ok (.getfield 142, 3) := by decide +kernel
theorem d_M_split_51 : decode b_M_split 51 = .ok (.iconst 1, 1) := by decide +kernel
theorem d_M_split_52 : decode b_M_split 52 = .ok (.iadd, 1) := by decide +kernel
theorem d_M_split_53 : decode b_M_split 53 = .ok (.putfield 142, 3) := by decide +kernel
theorem d_M_split_56 : decode b_M_split 56 = .ok (.aload_n 0, 1) := by decide +kernel
theorem d_M_split_57 : decode b_M_split 57 = .ok (.iload_n 3, 1) := by decide +kernel
theorem d_M_split_58 : decode b_M_split 58 = .ok (.iload_n 2, 1) := by decide +kernel
theorem d_M_split_59 : decode b_M_split 59 = .ok (.iconst 0, 1) := by decide +kernel
theorem d_M_split_60 : decode b_M_split 60 = .ok (.invokevirtual 145, 3) := by decide +kernel
theorem d_M_split_63 : decode b_M_split 63 = .ok (.istore_n 3, 1) := by decide +kernel
theorem d_M_split_64 : decode b_M_split 64 = .ok (.goto (-51), 3) := by decide +kernel
theorem d_M_split_67 : decode b_M_split 67 = .ok (.return_, 1) := by decide +kernel
set_option maxHeartbeats 4000000 in
set_option maxRecDepth 100000 in
theorem c_M_split (l : Launch) (dC : Nat → ClassId) (dI : Nat → Nat → Nat) (kA : Nat → ClassId) (sz : Nat) (mo : Nat) (ma : Nat → Nat) (mrf : Int) (mz : Int) (mls : Int) (mfp : Int) (mfm : Int) (mtx : Int) (mwd : Int) (mak : Int) (mli : Int) (mlx : Int) (mat : Int) (mtk : Int) (mtf : Int) (mtt : Int) (mfa : Int) (mla : Int) (mlp : Int) (mdp : Int) (msi : Int) (mpf : Int) (mpt : Int) (mdn : Bool) (ca : Nat → Int) (cwf : Nat → Int) (cwt : Nat → Int) (x : Int) (y : Int) (hca : C2 ca) (hx0 : 0 ≤ x ∧ x ≤ y ∧ y ≤ 4120 ∧ y - x ≤ 400) : Met l y_M_split (wsy y_M_split b_M_split 4 none) (rmd 3 0 0) (li_Pr (dC, dI) CL (TY kA) [.ref mo, .int (iI x), .int (iI y)] (fun h => h.size = sz ∧ va_P (dC, dI) CL [(mo, .inr (10, [.int (iI mrf), .ref (ma 0), .int (iI mz), .ref (ma 1), .ref (ma 2), .int (iI mls), .int (iI mfp), .int (iI mfm), .ref (ma 3), .int (iI mtx), .ref (ma 4), .ref (ma 5), .int (iI mwd), .ref (ma 6), .ref (ma 7), .int (iI mak), .ref (ma 8), .ref (ma 9), .int (iI mli), .int (iI mlx), .ref (ma 10), .ref (ma 11), .int (iI mat), .int (iI mtk), .int (iI mtf), .int (iI mtt), .int (iI mfa), .int (iI mla), .int (iI mlp), .int (iI mdp), .ref (ma 12), .ref (ma 13), .int (iI msi), .int (iI (bI mdn)), .int (iI mpf), .int (iI mpt)])), (ma 1, .inl (kA 0, 4120, .inl (aI ca))), (ma 6, .inl (kA 0, 400, .inl (aI cwf))), (ma 7, .inl (kA 0, 400, .inl (aI cwt)))] h ∧ va_D (fun q => dI 100 0 ≤ q) [(mo, .inr (10, [.int (iI mrf), .ref (ma 0), .int (iI mz), .ref (ma 1), .ref (ma 2), .int (iI mls), .int (iI mfp), .int (iI mfm), .ref (ma 3), .int (iI mtx), .ref (ma 4), .ref (ma 5), .int (iI mwd), .ref (ma 6), .ref (ma 7), .int (iI mak), .ref (ma 8), .ref (ma 9), .int (iI mli), .int (iI mlx), .ref (ma 10), .ref (ma 11), .int (iI mat), .int (iI mtk), .int (iI mtf), .int (iI mtt), .int (iI mfa), .int (iI mla), .int (iI mlp), .int (iI mdp), .ref (ma 12), .ref (ma 13), .int (iI msi), .int (iI (bI mdn)), .int (iI mpf), .int (iI mpt)])), (ma 1, .inl (kA 0, 4120, .inl (aI ca))), (ma 6, .inl (kA 0, 400, .inl (aI cwf))), (ma 7, .inl (kA 0, 400, .inl (aI cwt)))] ∧ (fun _ => True) h)) (li_Qw (S := (Int) × (Nat → Int) × (Nat → Int)) (dC, dI) CL (fun u => HL (spW ca false x y) u.1 u.2.1 u.2.2 ∧ LB (spW ca false x y) x y ∧ u.1 ≤ 400) (fun _ => none) (fun u => [(mo, .inr (10, [.int (iI mrf), .ref (ma 0), .int (iI mz), .ref (ma 1), .ref (ma 2), .int (iI mls), .int (iI mfp), .int (iI mfm), .ref (ma 3), .int (iI mtx), .ref (ma 4), .ref (ma 5), .int (iI u.1), .ref (ma 6), .ref (ma 7), .int (iI mak), .ref (ma 8), .ref (ma 9), .int (iI mli), .int (iI mlx), .ref (ma 10), .ref (ma 11), .int (iI mat), .int (iI mtk), .int (iI mtf), .int (iI mtt), .int (iI mfa), .int (iI mla), .int (iI mlp), .int (iI mdp), .ref (ma 12), .ref (ma 13), .int (iI msi), .int (iI (bI mdn)), .int (iI mpf), .int (iI mpt)])), (ma 1, .inl (kA 0, 4120, .inl (aI ca))), (ma 6, .inl (kA 0, 400, .inl (aI u.2.1))), (ma 7, .inl (kA 0, 400, .inl (aI u.2.2)))]) (va_A [(mo, .inr (10, [.int (iI mrf), .ref (ma 0), .int (iI mz), .ref (ma 1), .ref (ma 2), .int (iI mls), .int (iI mfp), .int (iI mfm), .ref (ma 3), .int (iI mtx), .ref (ma 4), .ref (ma 5), .int (iI mwd), .ref (ma 6), .ref (ma 7), .int (iI mak), .ref (ma 8), .ref (ma 9), .int (iI mli), .int (iI mlx), .ref (ma 10), .ref (ma 11), .int (iI mat), .int (iI mtk), .int (iI mtf), .int (iI mtt), .int (iI mfa), .int (iI mla), .int (iI mlp), .int (iI mdp), .ref (ma 12), .ref (ma 13), .int (iI msi), .int (iI (bI mdn)), .int (iI mpf), .int (iI mpt)])), (ma 1, .inl (kA 0, 4120, .inl (aI ca))), (ma 6, .inl (kA 0, 400, .inl (aI cwf))), (ma 7, .inl (kA 0, 400, .inl (aI cwt)))] sz)) 0 0 (va_A [(mo, .inr (10, [.int (iI mrf), .ref (ma 0), .int (iI mz), .ref (ma 1), .ref (ma 2), .int (iI mls), .int (iI mfp), .int (iI mfm), .ref (ma 3), .int (iI mtx), .ref (ma 4), .ref (ma 5), .int (iI mwd), .ref (ma 6), .ref (ma 7), .int (iI mak), .ref (ma 8), .ref (ma 9), .int (iI mli), .int (iI mlx), .ref (ma 10), .ref (ma 11), .int (iI mat), .int (iI mtk), .int (iI mtf), .int (iI mtt), .int (iI mfa), .int (iI mla), .int (iI mlp), .int (iI mdp), .ref (ma 12), .ref (ma 13), .int (iI msi), .int (iI (bI mdn)), .int (iI mpf), .int (iI mpt)])), (ma 1, .inl (kA 0, 4120, .inl (aI ca))), (ma 6, .inl (kA 0, 400, .inl (aI cwf))), (ma 7, .inl (kA 0, 400, .inl (aI cwt)))] sz) := by
  refine li_mwv (by decide) (Nat.le_of_ble_eq_true rfl) ?_
  intro p e s m args below meth c Q A C hP hD hBx hK hN hG hA hAi hAN fin ls hl
  obtain ⟨hx, hb, hr, hml, hown, hts, hlocks, hin⟩ := C
  have hown : s.vm.findClass R_M = some m.cls := hown
  have hl : lv_has ls 4 [(0, .ref mo), (1, .int (iI x)), (2, .int (iI y))] := hl
  have K_13 : ∀ (nn_13 : Nat) (z : Int) (f : Nat) (vn : Int) (vf : Nat → Int) (vt : Nat → Int), (x ≤ z ∧ z ≤ y ∧ 0 ≤ vn ∧ vn ≤ z - x) → ((y - z).toNat < f) → (z < y → isLw (ca z.toNat) false = true) → (spL ca false y f z (vn, vf, vt) = spM ca false x y cwf cwt) → ((y - z).toNat < nn_13) → ∀ (H : Heap) (locs : List Loc), va_P (dC, dI) CL [(mo, .inr (10, [.int (iI mrf), .ref (ma 0), .int (iI mz), .ref (ma 1), .ref (ma 2), .int (iI mls), .int (iI mfp), .int (iI mfm), .ref (ma 3), .int (iI mtx), .ref (ma 4), .ref (ma 5), .int (iI vn), .ref (ma 6), .ref (ma 7), .int (iI mak), .ref (ma 8), .ref (ma 9), .int (iI mli), .int (iI mlx), .ref (ma 10), .ref (ma 11), .int (iI mat), .int (iI mtk), .int (iI mtf), .int (iI mtt), .int (iI mfa), .int (iI mla), .int (iI mlp), .int (iI mdp), .ref (ma 12), .ref (ma 13), .int (iI msi), .int (iI (bI mdn)), .int (iI mpf), .int (iI mpt)])), (ma 1, .inl (kA 0, 4120, .inl (aI ca))), (ma 6, .inl (kA 0, 400, .inl (aI vf))), (ma 7, .inl (kA 0, 400, .inl (aI vt)))] H → va_D A [(mo, .inr (10, [.int (iI mrf), .ref (ma 0), .int (iI mz), .ref (ma 1), .ref (ma 2), .int (iI mls), .int (iI mfp), .int (iI mfm), .ref (ma 3), .int (iI mtx), .ref (ma 4), .ref (ma 5), .int (iI vn), .ref (ma 6), .ref (ma 7), .int (iI mak), .ref (ma 8), .ref (ma 9), .int (iI mli), .int (iI mlx), .ref (ma 10), .ref (ma 11), .int (iI mat), .int (iI mtk), .int (iI mtf), .int (iI mtt), .int (iI mfa), .int (iI mla), .int (iI mlp), .int (iI mdp), .ref (ma 12), .ref (ma 13), .int (iI msi), .int (iI (bI mdn)), .int (iI mpf), .int (iI mpt)])), (ma 1, .inl (kA 0, 4120, .inl (aI ca))), (ma 6, .inl (kA 0, 400, .inl (aI vf))), (ma 7, .inl (kA 0, 400, .inl (aI vt)))] → va_S A s.heap H locs → ∀ ls : Array Slot, lv_has ls 4 [(0, .ref mo), (1, .int (iI x)), (2, .int (iI y)), (3, .int (iI z))] → W p l e (rmd 3 0 0) s m args below meth c H locs 0 0 Q (F0 m 13 ls []) := by
    intro nn_13
    induction nn_13 with
    | zero => intro z f vn vf vt hz9 hff hlw hres hm; exact absurd hm (Nat.not_lt_zero _)
    | succ nn_13 ih_13 =>
      intro z f vn vf vt hz9 hff hlw hres hm_13 H locs hP hD hS ls hl
      obtain ⟨g, rfl⟩ : ∃ g, f = g + 1 := ⟨f - 1, by omega⟩
      refine lv_iload_n hx hb d_M_split_13 rfl (lv_at hl 3 rfl) ?_
      refine lv_iload_n hx hb d_M_split_14 rfl (lv_at hl 2 rfl) ?_
      refine li_icmp_ge (tgt := 67) hx hb d_M_split_15 (by decide) (by omega) (by omega) (fun c1 => ?_) (fun c1 => ?_)
      · have _q := c1
        simp only [spL] at hres
        rw [if_pos (by assumption)] at hres
        exact fin (vn, vf, vt) _ _ _ _ (by show HL (spW ca false x y) vn vf vt ∧ LB (spW ca false x y) x y ∧ vn ≤ 400; have e9 := spM_HL (f := ca) (b := false) (x := x) (y := y) (g := cwf) (h := cwt); rw [← hres] at e9; exact ⟨e9, spW_LB (by omega), by omega⟩) (by first | exact hP | (subst_vars; exact hP)) (by first | exact hD | (subst_vars; exact hD)) hS d_M_split_67
      · have _q := c1
        simp only [spL] at hres
        rw [if_neg (by omega)] at hres
        refine lv_aload_n hx hb d_M_split_18 rfl (lv_at hl 0 rfl) ?_
        refine gf_M_32 hx hb hts hown hK hP 0 rfl rfl d_M_split_19 ?_
        refine lv_aload_n hx hb d_M_split_22 rfl (lv_at hl 0 rfl) ?_
        refine gf_M_142 hx hb hts hown hK hP 0 rfl rfl d_M_split_23 ?_
        refine lv_iload_n hx hb d_M_split_26 rfl (lv_at hl 3 rfl) ?_
        refine li_iast hx hb hK hP hD hS 2 0 rfl rfl (by omega) (by omega) (by omega) d_M_split_27 (fun H locs hP hD hS => ?_)
        have hP : va_P (dC, dI) CL [(mo, .inr (10, [.int (iI mrf), .ref (ma 0), .int (iI mz), .ref (ma 1), .ref (ma 2), .int (iI mls), .int (iI mfp), .int (iI mfm), .ref (ma 3), .int (iI mtx), .ref (ma 4), .ref (ma 5), .int (iI vn), .ref (ma 6), .ref (ma 7), .int (iI mak), .ref (ma 8), .ref (ma 9), .int (iI mli), .int (iI mlx), .ref (ma 10), .ref (ma 11), .int (iI mat), .int (iI mtk), .int (iI mtf), .int (iI mtt), .int (iI mfa), .int (iI mla), .int (iI mlp), .int (iI mdp), .ref (ma 12), .ref (ma 13), .int (iI msi), .int (iI (bI mdn)), .int (iI mpf), .int (iI mpt)])), (ma 1, .inl (kA 0, 4120, .inl (aI ca))), (ma 6, .inl (kA 0, 400, .inl (aI (va_up vf vn.toNat z)))), (ma 7, .inl (kA 0, 400, .inl (aI vt)))] H := hP
        have hD : va_D A [(mo, .inr (10, [.int (iI mrf), .ref (ma 0), .int (iI mz), .ref (ma 1), .ref (ma 2), .int (iI mls), .int (iI mfp), .int (iI mfm), .ref (ma 3), .int (iI mtx), .ref (ma 4), .ref (ma 5), .int (iI vn), .ref (ma 6), .ref (ma 7), .int (iI mak), .ref (ma 8), .ref (ma 9), .int (iI mli), .int (iI mlx), .ref (ma 10), .ref (ma 11), .int (iI mat), .int (iI mtk), .int (iI mtf), .int (iI mtt), .int (iI mfa), .int (iI mla), .int (iI mlp), .int (iI mdp), .ref (ma 12), .ref (ma 13), .int (iI msi), .int (iI (bI mdn)), .int (iI mpf), .int (iI mpt)])), (ma 1, .inl (kA 0, 4120, .inl (aI ca))), (ma 6, .inl (kA 0, 400, .inl (aI (va_up vf vn.toNat z)))), (ma 7, .inl (kA 0, 400, .inl (aI vt)))] := hD
        refine lv_aload_n hx hb d_M_split_28 rfl (lv_at hl 0 rfl) ?_
        refine lv_iload_n hx hb d_M_split_29 rfl (lv_at hl 3 rfl) ?_
        refine lv_iload_n hx hb d_M_split_30 rfl (lv_at hl 2 rfl) ?_
        refine lv_iconst (v := iI 0) hx hb d_M_split_31 rfl ?_
        refine li_callr ((va_runV (As := [.int (iI z), .int (iI y), .int (iI 0)]) (rest := []) ⟨hx, hb, hml, hown, hts⟩ (c_M_endOf l dC dI kA mo ma mrf mz mls mfp mfm mtx vn mak mli mlx mat mtk mtf mtt mfa mla mlp mdp msi mpf mpt mdn ca z y false (by exact hca) (by omega)) (cw_M_149 hts rfl rfl ⟨Nat.le_of_ble_eq_true rfl, Nat.le_of_ble_eq_true rfl⟩) (li_preV (va_recv hK hP (ci := 10) (q0 := 0) rfl rfl) (hP.sub [0, 1] rfl) hK hN (hG.go hS hAN)) rfl rfl hl.1 rfl (lv_room (Nat.le_of_ble_eq_true rfl)) d_M_split_32 ⟨(by show 0 + 0 ≤ 0; omega), (by show 0 + 0 ≤ 0; omega)⟩).run) ?_
        refine li_nm (fun ze eze => ?_)
        refine lv_istore_n (lv' := [(3, .int (iI ze)), (0, .ref mo), (1, .int (iI x)), (2, .int (iI y))]) hx hb d_M_split_35 rfl hl (by decide) rfl (fun ls hl => ?_)
        have he0 := edM_r (f := ca) (b := false) (x := z) (y := y) (by omega)
        have he1 := edM_p (f := ca) (b := false) (x := z) (y := y) (by omega) (hlw (by omega))
        rw [← eze] at he0 he1
        refine lv_aload_n hx hb d_M_split_36 rfl (lv_at hl 1 rfl) ?_
        refine gf_M_35 hx hb hts hown hK hP 0 rfl rfl d_M_split_37 ?_
        refine lv_aload_n hx hb d_M_split_40 rfl (lv_at hl 1 rfl) ?_
        refine gf_M_142 hx hb hts hown hK hP 0 rfl rfl d_M_split_41 ?_
        refine lv_iload_n hx hb d_M_split_44 rfl (lv_at hl 0 rfl) ?_
        refine li_iast hx hb hK hP hD hS 3 0 rfl rfl (by omega) (by omega) (by omega) d_M_split_45 (fun H locs hP hD hS => ?_)
        have hP : va_P (dC, dI) CL [(mo, .inr (10, [.int (iI mrf), .ref (ma 0), .int (iI mz), .ref (ma 1), .ref (ma 2), .int (iI mls), .int (iI mfp), .int (iI mfm), .ref (ma 3), .int (iI mtx), .ref (ma 4), .ref (ma 5), .int (iI vn), .ref (ma 6), .ref (ma 7), .int (iI mak), .ref (ma 8), .ref (ma 9), .int (iI mli), .int (iI mlx), .ref (ma 10), .ref (ma 11), .int (iI mat), .int (iI mtk), .int (iI mtf), .int (iI mtt), .int (iI mfa), .int (iI mla), .int (iI mlp), .int (iI mdp), .ref (ma 12), .ref (ma 13), .int (iI msi), .int (iI (bI mdn)), .int (iI mpf), .int (iI mpt)])), (ma 1, .inl (kA 0, 4120, .inl (aI ca))), (ma 6, .inl (kA 0, 400, .inl (aI (va_up vf vn.toNat z)))), (ma 7, .inl (kA 0, 400, .inl (aI (va_up vt vn.toNat ze))))] H := hP
        have hD : va_D A [(mo, .inr (10, [.int (iI mrf), .ref (ma 0), .int (iI mz), .ref (ma 1), .ref (ma 2), .int (iI mls), .int (iI mfp), .int (iI mfm), .ref (ma 3), .int (iI mtx), .ref (ma 4), .ref (ma 5), .int (iI vn), .ref (ma 6), .ref (ma 7), .int (iI mak), .ref (ma 8), .ref (ma 9), .int (iI mli), .int (iI mlx), .ref (ma 10), .ref (ma 11), .int (iI mat), .int (iI mtk), .int (iI mtf), .int (iI mtt), .int (iI mfa), .int (iI mla), .int (iI mlp), .int (iI mdp), .ref (ma 12), .ref (ma 13), .int (iI msi), .int (iI (bI mdn)), .int (iI mpf), .int (iI mpt)])), (ma 1, .inl (kA 0, 4120, .inl (aI ca))), (ma 6, .inl (kA 0, 400, .inl (aI (va_up vf vn.toNat z)))), (ma 7, .inl (kA 0, 400, .inl (aI (va_up vt vn.toNat ze))))] := hD
        refine lv_aload_n hx hb d_M_split_46 rfl (lv_at hl 1 rfl) ?_
        refine lv_dup hx hb d_M_split_47 rfl ?_
        refine gf_M_142 hx hb hts hown hK hP 0 rfl rfl d_M_split_48 ?_
        refine lv_iconst (v := iI 1) hx hb d_M_split_51 rfl ?_
        refine li_iadd hx hb d_M_split_52 ?_
        refine li_nm (fun x2 ex2 => ?_)
        refine pf_M_142 hx hb hts hown hK hP hD hS 0 rfl (Nat.le_of_ble_eq_true rfl) d_M_split_53 (fun H locs hP hD hS => ?_)
        have hP : va_P (dC, dI) CL [(mo, .inr (10, [.int (iI mrf), .ref (ma 0), .int (iI mz), .ref (ma 1), .ref (ma 2), .int (iI mls), .int (iI mfp), .int (iI mfm), .ref (ma 3), .int (iI mtx), .ref (ma 4), .ref (ma 5), .int (iI x2), .ref (ma 6), .ref (ma 7), .int (iI mak), .ref (ma 8), .ref (ma 9), .int (iI mli), .int (iI mlx), .ref (ma 10), .ref (ma 11), .int (iI mat), .int (iI mtk), .int (iI mtf), .int (iI mtt), .int (iI mfa), .int (iI mla), .int (iI mlp), .int (iI mdp), .ref (ma 12), .ref (ma 13), .int (iI msi), .int (iI (bI mdn)), .int (iI mpf), .int (iI mpt)])), (ma 1, .inl (kA 0, 4120, .inl (aI ca))), (ma 6, .inl (kA 0, 400, .inl (aI (va_up vf vn.toNat z)))), (ma 7, .inl (kA 0, 400, .inl (aI (va_up vt vn.toNat ze))))] H := hP
        have hD : va_D A [(mo, .inr (10, [.int (iI mrf), .ref (ma 0), .int (iI mz), .ref (ma 1), .ref (ma 2), .int (iI mls), .int (iI mfp), .int (iI mfm), .ref (ma 3), .int (iI mtx), .ref (ma 4), .ref (ma 5), .int (iI x2), .ref (ma 6), .ref (ma 7), .int (iI mak), .ref (ma 8), .ref (ma 9), .int (iI mli), .int (iI mlx), .ref (ma 10), .ref (ma 11), .int (iI mat), .int (iI mtk), .int (iI mtf), .int (iI mtt), .int (iI mfa), .int (iI mla), .int (iI mlp), .int (iI mdp), .ref (ma 12), .ref (ma 13), .int (iI msi), .int (iI (bI mdn)), .int (iI mpf), .int (iI mpt)])), (ma 1, .inl (kA 0, 4120, .inl (aI ca))), (ma 6, .inl (kA 0, 400, .inl (aI (va_up vf vn.toNat z)))), (ma 7, .inl (kA 0, 400, .inl (aI (va_up vt vn.toNat ze))))] := hD
        refine lv_aload_n hx hb d_M_split_56 rfl (lv_at hl 1 rfl) ?_
        refine lv_iload_n hx hb d_M_split_57 rfl (lv_at hl 0 rfl) ?_
        refine lv_iload_n hx hb d_M_split_58 rfl (lv_at hl 3 rfl) ?_
        refine lv_iconst (v := iI 0) hx hb d_M_split_59 rfl ?_
        refine li_callr ((va_runV (As := [.int (iI ze), .int (iI y), .int (iI 0)]) (rest := []) ⟨hx, hb, hml, hown, hts⟩ (c_M_beginOf l dC dI kA mo ma mrf mz mls mfp mfm mtx x2 mak mli mlx mat mtk mtf mtt mfa mla mlp mdp msi mpf mpt mdn ca ze y false (by exact hca) (by omega)) (cw_M_145 hts rfl rfl ⟨Nat.le_of_ble_eq_true rfl, Nat.le_of_ble_eq_true rfl⟩) (li_preV (va_recv hK hP (ci := 10) (q0 := 0) rfl rfl) (hP.sub [0, 1] rfl) hK hN (hG.go hS hAN)) rfl rfl hl.1 rfl (lv_room (Nat.le_of_ble_eq_true rfl)) d_M_split_60 ⟨(by show 0 + 0 ≤ 0; omega), (by show 0 + 0 ≤ 0; omega)⟩).run) ?_
        refine li_nm (fun zb ezb => ?_)
        refine lv_istore_n (lv' := [(3, .int (iI zb)), (0, .ref mo), (1, .int (iI x)), (2, .int (iI y))]) hx hb d_M_split_63 rfl hl (by decide) rfl (fun ls hl => ?_)
        have hb0 := bgM_r (f := ca) (b := false) (x := ze) (y := y) (by omega)
        rw [← ezb] at hb0
        refine lv_goto (tgt := 13) hx hb d_M_split_64 (by decide) ?_
        exact ih_13 zb g x2 (va_up vf vn.toNat z) (va_up vt vn.toNat ze) (by omega) (by omega) (by intro h5; first | (rw [ez0]; exact bgM_w (by omega) (by rw [← ez0]; exact h5)) | (rw [ezb]; exact bgM_w (by omega) (by rw [← ezb]; exact h5))) (by first | (subst_vars; rfl) | (subst_vars; exact hres)) (by omega) _ _ hP hD hS _ (lv_sub hl [1, 2, 3, 0] rfl)
  suffices h9 : ∀ (H : Heap) (locs : List Loc), H = s.heap → locs = [] → W p l e (rmd 3 0 0) s m args below meth c H locs 0 0 Q (F0 m 0 ls []) from h9 _ _ rfl rfl
  intro H locs eH eL
  have hP : va_P (dC, dI) CL [(mo, .inr (10, [.int (iI mrf), .ref (ma 0), .int (iI mz), .ref (ma 1), .ref (ma 2), .int (iI mls), .int (iI mfp), .int (iI mfm), .ref (ma 3), .int (iI mtx), .ref (ma 4), .ref (ma 5), .int (iI mwd), .ref (ma 6), .ref (ma 7), .int (iI mak), .ref (ma 8), .ref (ma 9), .int (iI mli), .int (iI mlx), .ref (ma 10), .ref (ma 11), .int (iI mat), .int (iI mtk), .int (iI mtf), .int (iI mtt), .int (iI mfa), .int (iI mla), .int (iI mlp), .int (iI mdp), .ref (ma 12), .ref (ma 13), .int (iI msi), .int (iI (bI mdn)), .int (iI mpf), .int (iI mpt)])), (ma 1, .inl (kA 0, 4120, .inl (aI ca))), (ma 6, .inl (kA 0, 400, .inl (aI cwf))), (ma 7, .inl (kA 0, 400, .inl (aI cwt)))] H := by rw [eH]; exact hP
  have hS : va_S A s.heap H locs := by rw [eH, eL]; exact va_S.rf
  refine lv_aload_n hx hb d_M_split_0 rfl (lv_at hl 0 rfl) ?_
  refine lv_iconst (v := iI 0) hx hb d_M_split_1 rfl ?_
  refine pf_M_142 hx hb hts hown hK hP hD hS 0 rfl (Nat.le_of_ble_eq_true rfl) d_M_split_2 (fun H locs hP hD hS => ?_)
  have hP : va_P (dC, dI) CL [(mo, .inr (10, [.int (iI mrf), .ref (ma 0), .int (iI mz), .ref (ma 1), .ref (ma 2), .int (iI mls), .int (iI mfp), .int (iI mfm), .ref (ma 3), .int (iI mtx), .ref (ma 4), .ref (ma 5), .int (iI 0), .ref (ma 6), .ref (ma 7), .int (iI mak), .ref (ma 8), .ref (ma 9), .int (iI mli), .int (iI mlx), .ref (ma 10), .ref (ma 11), .int (iI mat), .int (iI mtk), .int (iI mtf), .int (iI mtt), .int (iI mfa), .int (iI mla), .int (iI mlp), .int (iI mdp), .ref (ma 12), .ref (ma 13), .int (iI msi), .int (iI (bI mdn)), .int (iI mpf), .int (iI mpt)])), (ma 1, .inl (kA 0, 4120, .inl (aI ca))), (ma 6, .inl (kA 0, 400, .inl (aI cwf))), (ma 7, .inl (kA 0, 400, .inl (aI cwt)))] H := hP
  have hD : va_D A [(mo, .inr (10, [.int (iI mrf), .ref (ma 0), .int (iI mz), .ref (ma 1), .ref (ma 2), .int (iI mls), .int (iI mfp), .int (iI mfm), .ref (ma 3), .int (iI mtx), .ref (ma 4), .ref (ma 5), .int (iI 0), .ref (ma 6), .ref (ma 7), .int (iI mak), .ref (ma 8), .ref (ma 9), .int (iI mli), .int (iI mlx), .ref (ma 10), .ref (ma 11), .int (iI mat), .int (iI mtk), .int (iI mtf), .int (iI mtt), .int (iI mfa), .int (iI mla), .int (iI mlp), .int (iI mdp), .ref (ma 12), .ref (ma 13), .int (iI msi), .int (iI (bI mdn)), .int (iI mpf), .int (iI mpt)])), (ma 1, .inl (kA 0, 4120, .inl (aI ca))), (ma 6, .inl (kA 0, 400, .inl (aI cwf))), (ma 7, .inl (kA 0, 400, .inl (aI cwt)))] := hD
  refine lv_aload_n hx hb d_M_split_5 rfl (lv_at hl 0 rfl) ?_
  refine lv_iload_n hx hb d_M_split_6 rfl (lv_at hl 1 rfl) ?_
  refine lv_iload_n hx hb d_M_split_7 rfl (lv_at hl 2 rfl) ?_
  refine lv_iconst (v := iI 0) hx hb d_M_split_8 rfl ?_
  refine li_callr ((va_runV (As := [.int (iI x), .int (iI y), .int (iI 0)]) (rest := []) ⟨hx, hb, hml, hown, hts⟩ (c_M_beginOf l dC dI kA mo ma mrf mz mls mfp mfm mtx 0 mak mli mlx mat mtk mtf mtt mfa mla mlp mdp msi mpf mpt mdn ca x y false (by exact hca) (by omega)) (cw_M_145 hts rfl rfl ⟨Nat.le_of_ble_eq_true rfl, Nat.le_of_ble_eq_true rfl⟩) (li_preV (va_recv hK hP (ci := 10) (q0 := 0) rfl rfl) (hP.sub [0, 1] rfl) hK hN (hG.go hS hAN)) rfl rfl hl.1 rfl (lv_room (Nat.le_of_ble_eq_true rfl)) d_M_split_9 ⟨(by show 0 + 0 ≤ 0; omega), (by show 0 + 0 ≤ 0; omega)⟩).run) ?_
  refine li_nm (fun z0 ez0 => ?_)
  refine lv_istore_n (lv' := [(3, .int (iI z0)), (0, .ref mo), (1, .int (iI x)), (2, .int (iI y))]) hx hb d_M_split_12 rfl hl (by decide) rfl (fun ls hl => ?_)
  have hb0 := bgM_r (f := ca) (b := false) (x := x) (y := y) (by omega)
  rw [← ez0] at hb0
  exact K_13 ((y - z0).toNat + 1) z0 1000 0 cwf cwt (by omega) (by omega) (by intro h5; first | (rw [ez0]; exact bgM_w (by omega) (by rw [← ez0]; exact h5)) | (rw [ezb]; exact bgM_w (by omega) (by rw [← ezb]; exact h5))) (by first | (subst_vars; rfl) | (subst_vars; exact hres)) (Nat.lt_succ_self _) _ _ hP hD hS _ (lv_sub hl [1, 2, 3, 0] rfl)
theorem d_M_ask_0 : decode b_M_ask 0 = .ok (.aload_n 0, 1) := by decide +kernel
theorem d_M_ask_1 : decode b_M_ask 1 = .ok (.iconst 0, 1) := by decide +kernel
theorem d_M_ask_2 : decode b_M_ask 2 = .ok (.putfield 152, 3) := by decide +kernel
theorem d_M_ask_5 : decode b_M_ask 5 = .ok (.aload_n 0, 1) := by decide +kernel
theorem d_M_ask_6 : decode b_M_ask 6 = .ok (.iload_n 1, 1) := by decide +kernel
theorem d_M_ask_7 : decode b_M_ask 7 = .ok (.iload_n 2, 1) := by decide +kernel
theorem d_M_ask_8 : decode b_M_ask 8 = .ok (.iconst 1, 1) := by decide +kernel
theorem d_M_ask_9 : decode b_M_ask 9 = .ok (.invokevirtual 145, 3) := by decide +kernel
theorem d_M_ask_12 : decode b_M_ask 12 = .ok (.istore_n 3, 1) := by decide +kernel
theorem d_M_ask_13 : decode b_M_ask 13 = .ok (.iload_n 3, 1) := by decide +kernel
theorem d_M_ask_14 : decode b_M_ask 14 = .ok (.iload_n 2, 1) := by decide +kernel
theorem d_M_ask_15 : decode b_M_ask 15 = .ok (.if_icmp .ge 52, 3) := by decide +kernel
theorem d_M_ask_18 : decode b_M_ask 18 = .ok (.aload_n 0, 1) := by decide +kernel
theorem d_M_ask_19 : decode b_M_ask 19 = .ok (.getfield 38, 3) := by decide +kernel
theorem d_M_ask_22 : decode b_M_ask 22 = .ok (.aload_n 0, 1) := by decide +kernel
theorem d_M_ask_23 : decode b_M_ask 23 = .ok (.getfield 152, 3) := by decide +kernel
theorem d_M_ask_26 : decode b_M_ask 26 = .ok (.iload_n 3, 1) := by decide +kernel
theorem d_M_ask_27 : decode b_M_ask 27 = .ok (.iastore, 1) := by decide +kernel
theorem d_M_ask_28 : decode b_M_ask 28 = .ok (.aload_n 0, 1) := by decide +kernel
theorem d_M_ask_29 : decode b_M_ask 29 = .ok (.iload_n 3, 1) := by decide +kernel
theorem d_M_ask_30 : decode b_M_ask 30 = .ok (.iload_n 2, 1) := by decide +kernel
theorem d_M_ask_31 : decode b_M_ask 31 = .ok (.iconst 1, 1) := by decide +kernel
theorem d_M_ask_32 : decode b_M_ask 32 = .ok (.invokevirtual 149, 3) := by decide +kernel
theorem d_M_ask_35 : decode b_M_ask 35 = .ok (.istore_n 3, 1) := by decide +kernel
theorem d_M_ask_36 : decode b_M_ask 36 = .ok (.aload_n 0, 1) := by decide +kernel
theorem d_M_ask_37 : decode b_M_ask 37 = .ok (.getfield 41, 3) := by decide +kernel
theorem d_M_ask_40 : decode b_M_ask 40 = .ok (.aload_n 0, 1) := by decide +kernel
theorem d_M_ask_41 : decode b_M_ask 41 = .ok (.getfield 152, 3) := by decide +kernel
theorem d_M_ask_44 : decode b_M_ask 44 = .ok (.iload_n 3, 1) := by decide +kernel
theorem d_M_ask_45 : decode b_M_ask 45 = .ok (.iastore, 1) := by decide +kernel
theorem d_M_ask_46 : decode b_M_ask 46 = .ok (.aload_n 0, 1) := by decide +kernel
theorem d_M_ask_47 : decode b_M_ask 47 = .ok (.dup, 1) := by decide +kernel
theorem d_M_ask_48 : decode b_M_ask 48 = .ok (.getfield 152, 3) := by decide +kernel
theorem d_M_ask_51 : decode b_M_ask 51 = .ok (.iconst 1, 1) := by decide +kernel
theorem d_M_ask_52 : decode b_M_ask 52 = .ok (.iadd, 1) := by decide +kernel
theorem d_M_ask_53 : decode b_M_ask 53 = .ok (.putfield 152, 3) := by decide +kernel
theorem d_M_ask_56 : decode b_M_ask 56 = .ok (.aload_n 0, 1) := by decide +kernel
theorem d_M_ask_57 : decode b_M_ask 57 = .ok (.iload_n 3, 1) := by decide +kernel
theorem d_M_ask_58 : decode b_M_ask 58 = .ok (.iload_n 2, 1) := by decide +kernel
theorem d_M_ask_59 : decode b_M_ask 59 = .ok (.iconst 1, 1) := by decide +kernel
theorem d_M_ask_60 : decode b_M_ask 60 = .ok (.invokevirtual 145, 3) := by decide +kernel
theorem d_M_ask_63 : decode b_M_ask 63 = .ok (.istore_n 3, 1) := by decide +kernel
theorem d_M_ask_64 : decode b_M_ask 64 = .ok (.goto (-51), 3) := by decide +kernel
theorem d_M_ask_67 : decode b_M_ask 67 = .ok (.return_, 1) := by decide +kernel
set_option maxHeartbeats 4000000 in
set_option maxRecDepth 100000 in
theorem c_M_ask (l : Launch) (dC : Nat → ClassId) (dI : Nat → Nat → Nat) (kA : Nat → ClassId) (sz : Nat) (mo : Nat) (ma : Nat → Nat) (mrf : Int) (mz : Int) (mls : Int) (mfp : Int) (mfm : Int) (mtx : Int) (mwd : Int) (mak : Int) (mli : Int) (mlx : Int) (mat : Int) (mtk : Int) (mtf : Int) (mtt : Int) (mfa : Int) (mla : Int) (mlp : Int) (mdp : Int) (msi : Int) (mpf : Int) (mpt : Int) (mdn : Bool) (ca : Nat → Int) (caf : Nat → Int) (cat : Nat → Int) (x : Int) (y : Int) (hca : C2 ca) (hx0 : 0 ≤ x ∧ x ≤ y ∧ y ≤ 4120 ∧ y - x ≤ 110) : Met l y_M_ask (wsy y_M_ask b_M_ask 4 none) (rmd 3 0 0) (li_Pr (dC, dI) CL (TY kA) [.ref mo, .int (iI x), .int (iI y)] (fun h => h.size = sz ∧ va_P (dC, dI) CL [(mo, .inr (10, [.int (iI mrf), .ref (ma 0), .int (iI mz), .ref (ma 1), .ref (ma 2), .int (iI mls), .int (iI mfp), .int (iI mfm), .ref (ma 3), .int (iI mtx), .ref (ma 4), .ref (ma 5), .int (iI mwd), .ref (ma 6), .ref (ma 7), .int (iI mak), .ref (ma 8), .ref (ma 9), .int (iI mli), .int (iI mlx), .ref (ma 10), .ref (ma 11), .int (iI mat), .int (iI mtk), .int (iI mtf), .int (iI mtt), .int (iI mfa), .int (iI mla), .int (iI mlp), .int (iI mdp), .ref (ma 12), .ref (ma 13), .int (iI msi), .int (iI (bI mdn)), .int (iI mpf), .int (iI mpt)])), (ma 1, .inl (kA 0, 4120, .inl (aI ca))), (ma 8, .inl (kA 0, 110, .inl (aI caf))), (ma 9, .inl (kA 0, 110, .inl (aI cat)))] h ∧ va_D (fun q => dI 100 0 ≤ q) [(mo, .inr (10, [.int (iI mrf), .ref (ma 0), .int (iI mz), .ref (ma 1), .ref (ma 2), .int (iI mls), .int (iI mfp), .int (iI mfm), .ref (ma 3), .int (iI mtx), .ref (ma 4), .ref (ma 5), .int (iI mwd), .ref (ma 6), .ref (ma 7), .int (iI mak), .ref (ma 8), .ref (ma 9), .int (iI mli), .int (iI mlx), .ref (ma 10), .ref (ma 11), .int (iI mat), .int (iI mtk), .int (iI mtf), .int (iI mtt), .int (iI mfa), .int (iI mla), .int (iI mlp), .int (iI mdp), .ref (ma 12), .ref (ma 13), .int (iI msi), .int (iI (bI mdn)), .int (iI mpf), .int (iI mpt)])), (ma 1, .inl (kA 0, 4120, .inl (aI ca))), (ma 8, .inl (kA 0, 110, .inl (aI caf))), (ma 9, .inl (kA 0, 110, .inl (aI cat)))] ∧ (fun _ => True) h)) (li_Qw (S := (Int) × (Nat → Int) × (Nat → Int)) (dC, dI) CL (fun u => HL (spW ca true x y) u.1 u.2.1 u.2.2 ∧ LB (spW ca true x y) x y ∧ u.1 ≤ 110) (fun _ => none) (fun u => [(mo, .inr (10, [.int (iI mrf), .ref (ma 0), .int (iI mz), .ref (ma 1), .ref (ma 2), .int (iI mls), .int (iI mfp), .int (iI mfm), .ref (ma 3), .int (iI mtx), .ref (ma 4), .ref (ma 5), .int (iI mwd), .ref (ma 6), .ref (ma 7), .int (iI u.1), .ref (ma 8), .ref (ma 9), .int (iI mli), .int (iI mlx), .ref (ma 10), .ref (ma 11), .int (iI mat), .int (iI mtk), .int (iI mtf), .int (iI mtt), .int (iI mfa), .int (iI mla), .int (iI mlp), .int (iI mdp), .ref (ma 12), .ref (ma 13), .int (iI msi), .int (iI (bI mdn)), .int (iI mpf), .int (iI mpt)])), (ma 1, .inl (kA 0, 4120, .inl (aI ca))), (ma 8, .inl (kA 0, 110, .inl (aI u.2.1))), (ma 9, .inl (kA 0, 110, .inl (aI u.2.2)))]) (va_A [(mo, .inr (10, [.int (iI mrf), .ref (ma 0), .int (iI mz), .ref (ma 1), .ref (ma 2), .int (iI mls), .int (iI mfp), .int (iI mfm), .ref (ma 3), .int (iI mtx), .ref (ma 4), .ref (ma 5), .int (iI mwd), .ref (ma 6), .ref (ma 7), .int (iI mak), .ref (ma 8), .ref (ma 9), .int (iI mli), .int (iI mlx), .ref (ma 10), .ref (ma 11), .int (iI mat), .int (iI mtk), .int (iI mtf), .int (iI mtt), .int (iI mfa), .int (iI mla), .int (iI mlp), .int (iI mdp), .ref (ma 12), .ref (ma 13), .int (iI msi), .int (iI (bI mdn)), .int (iI mpf), .int (iI mpt)])), (ma 1, .inl (kA 0, 4120, .inl (aI ca))), (ma 8, .inl (kA 0, 110, .inl (aI caf))), (ma 9, .inl (kA 0, 110, .inl (aI cat)))] sz)) 0 0 (va_A [(mo, .inr (10, [.int (iI mrf), .ref (ma 0), .int (iI mz), .ref (ma 1), .ref (ma 2), .int (iI mls), .int (iI mfp), .int (iI mfm), .ref (ma 3), .int (iI mtx), .ref (ma 4), .ref (ma 5), .int (iI mwd), .ref (ma 6), .ref (ma 7), .int (iI mak), .ref (ma 8), .ref (ma 9), .int (iI mli), .int (iI mlx), .ref (ma 10), .ref (ma 11), .int (iI mat), .int (iI mtk), .int (iI mtf), .int (iI mtt), .int (iI mfa), .int (iI mla), .int (iI mlp), .int (iI mdp), .ref (ma 12), .ref (ma 13), .int (iI msi), .int (iI (bI mdn)), .int (iI mpf), .int (iI mpt)])), (ma 1, .inl (kA 0, 4120, .inl (aI ca))), (ma 8, .inl (kA 0, 110, .inl (aI caf))), (ma 9, .inl (kA 0, 110, .inl (aI cat)))] sz) := by
  refine li_mwv (by decide) (Nat.le_of_ble_eq_true rfl) ?_
  intro p e s m args below meth c Q A C hP hD hBx hK hN hG hA hAi hAN fin ls hl
  obtain ⟨hx, hb, hr, hml, hown, hts, hlocks, hin⟩ := C
  have hown : s.vm.findClass R_M = some m.cls := hown
  have hl : lv_has ls 4 [(0, .ref mo), (1, .int (iI x)), (2, .int (iI y))] := hl
  have K_13 : ∀ (nn_13 : Nat) (z : Int) (f : Nat) (vn : Int) (vf : Nat → Int) (vt : Nat → Int), (x ≤ z ∧ z ≤ y ∧ 0 ≤ vn ∧ vn ≤ z - x) → ((y - z).toNat < f) → (z < y → isLw (ca z.toNat) true = true) → (spL ca true y f z (vn, vf, vt) = spM ca true x y caf cat) → ((y - z).toNat < nn_13) → ∀ (H : Heap) (locs : List Loc), va_P (dC, dI) CL [(mo, .inr (10, [.int (iI mrf), .ref (ma 0), .int (iI mz), .ref (ma 1), .ref (ma 2), .int (iI mls), .int (iI mfp), .int (iI mfm), .ref (ma 3), .int (iI mtx), .ref (ma 4), .ref (ma 5), .int (iI mwd), .ref (ma 6), .ref (ma 7), .int (iI vn), .ref (ma 8), .ref (ma 9), .int (iI mli), .int (iI mlx), .ref (ma 10), .ref (ma 11), .int (iI mat), .int (iI mtk), .int (iI mtf), .int (iI mtt), .int (iI mfa), .int (iI mla), .int (iI mlp), .int (iI mdp), .ref (ma 12), .ref (ma 13), .int (iI msi), .int (iI (bI mdn)), .int (iI mpf), .int (iI mpt)])), (ma 1, .inl (kA 0, 4120, .inl (aI ca))), (ma 8, .inl (kA 0, 110, .inl (aI vf))), (ma 9, .inl (kA 0, 110, .inl (aI vt)))] H → va_D A [(mo, .inr (10, [.int (iI mrf), .ref (ma 0), .int (iI mz), .ref (ma 1), .ref (ma 2), .int (iI mls), .int (iI mfp), .int (iI mfm), .ref (ma 3), .int (iI mtx), .ref (ma 4), .ref (ma 5), .int (iI mwd), .ref (ma 6), .ref (ma 7), .int (iI vn), .ref (ma 8), .ref (ma 9), .int (iI mli), .int (iI mlx), .ref (ma 10), .ref (ma 11), .int (iI mat), .int (iI mtk), .int (iI mtf), .int (iI mtt), .int (iI mfa), .int (iI mla), .int (iI mlp), .int (iI mdp), .ref (ma 12), .ref (ma 13), .int (iI msi), .int (iI (bI mdn)), .int (iI mpf), .int (iI mpt)])), (ma 1, .inl (kA 0, 4120, .inl (aI ca))), (ma 8, .inl (kA 0, 110, .inl (aI vf))), (ma 9, .inl (kA 0, 110, .inl (aI vt)))] → va_S A s.heap H locs → ∀ ls : Array Slot, lv_has ls 4 [(0, .ref mo), (1, .int (iI x)), (2, .int (iI y)), (3, .int (iI z))] → W p l e (rmd 3 0 0) s m args below meth c H locs 0 0 Q (F0 m 13 ls []) := by
    intro nn_13
    induction nn_13 with
    | zero => intro z f vn vf vt hz9 hff hlw hres hm; exact absurd hm (Nat.not_lt_zero _)
    | succ nn_13 ih_13 =>
      intro z f vn vf vt hz9 hff hlw hres hm_13 H locs hP hD hS ls hl
      obtain ⟨g, rfl⟩ : ∃ g, f = g + 1 := ⟨f - 1, by omega⟩
      refine lv_iload_n hx hb d_M_ask_13 rfl (lv_at hl 3 rfl) ?_
      refine lv_iload_n hx hb d_M_ask_14 rfl (lv_at hl 2 rfl) ?_
      refine li_icmp_ge (tgt := 67) hx hb d_M_ask_15 (by decide) (by omega) (by omega) (fun c1 => ?_) (fun c1 => ?_)
      · have _q := c1
        simp only [spL] at hres
        rw [if_pos (by assumption)] at hres
        exact fin (vn, vf, vt) _ _ _ _ (by show HL (spW ca true x y) vn vf vt ∧ LB (spW ca true x y) x y ∧ vn ≤ 110; have e9 := spM_HL (f := ca) (b := true) (x := x) (y := y) (g := caf) (h := cat); rw [← hres] at e9; exact ⟨e9, spW_LB (by omega), by omega⟩) (by first | exact hP | (subst_vars; exact hP)) (by first | exact hD | (subst_vars; exact hD)) hS d_M_ask_67
      · have _q := c1
        simp only [spL] at hres
        rw [if_neg (by omega)] at hres
        refine lv_aload_n hx hb d_M_ask_18 rfl (lv_at hl 0 rfl) ?_
        refine gf_M_38 hx hb hts hown hK hP 0 rfl rfl d_M_ask_19 ?_
        refine lv_aload_n hx hb d_M_ask_22 rfl (lv_at hl 0 rfl) ?_
        refine gf_M_152 hx hb hts hown hK hP 0 rfl rfl d_M_ask_23 ?_
        refine lv_iload_n hx hb d_M_ask_26 rfl (lv_at hl 3 rfl) ?_
        refine li_iast hx hb hK hP hD hS 2 0 rfl rfl (by omega) (by omega) (by omega) d_M_ask_27 (fun H locs hP hD hS => ?_)
        have hP : va_P (dC, dI) CL [(mo, .inr (10, [.int (iI mrf), .ref (ma 0), .int (iI mz), .ref (ma 1), .ref (ma 2), .int (iI mls), .int (iI mfp), .int (iI mfm), .ref (ma 3), .int (iI mtx), .ref (ma 4), .ref (ma 5), .int (iI mwd), .ref (ma 6), .ref (ma 7), .int (iI vn), .ref (ma 8), .ref (ma 9), .int (iI mli), .int (iI mlx), .ref (ma 10), .ref (ma 11), .int (iI mat), .int (iI mtk), .int (iI mtf), .int (iI mtt), .int (iI mfa), .int (iI mla), .int (iI mlp), .int (iI mdp), .ref (ma 12), .ref (ma 13), .int (iI msi), .int (iI (bI mdn)), .int (iI mpf), .int (iI mpt)])), (ma 1, .inl (kA 0, 4120, .inl (aI ca))), (ma 8, .inl (kA 0, 110, .inl (aI (va_up vf vn.toNat z)))), (ma 9, .inl (kA 0, 110, .inl (aI vt)))] H := hP
        have hD : va_D A [(mo, .inr (10, [.int (iI mrf), .ref (ma 0), .int (iI mz), .ref (ma 1), .ref (ma 2), .int (iI mls), .int (iI mfp), .int (iI mfm), .ref (ma 3), .int (iI mtx), .ref (ma 4), .ref (ma 5), .int (iI mwd), .ref (ma 6), .ref (ma 7), .int (iI vn), .ref (ma 8), .ref (ma 9), .int (iI mli), .int (iI mlx), .ref (ma 10), .ref (ma 11), .int (iI mat), .int (iI mtk), .int (iI mtf), .int (iI mtt), .int (iI mfa), .int (iI mla), .int (iI mlp), .int (iI mdp), .ref (ma 12), .ref (ma 13), .int (iI msi), .int (iI (bI mdn)), .int (iI mpf), .int (iI mpt)])), (ma 1, .inl (kA 0, 4120, .inl (aI ca))), (ma 8, .inl (kA 0, 110, .inl (aI (va_up vf vn.toNat z)))), (ma 9, .inl (kA 0, 110, .inl (aI vt)))] := hD
        refine lv_aload_n hx hb d_M_ask_28 rfl (lv_at hl 0 rfl) ?_
        refine lv_iload_n hx hb d_M_ask_29 rfl (lv_at hl 3 rfl) ?_
        refine lv_iload_n hx hb d_M_ask_30 rfl (lv_at hl 2 rfl) ?_
        refine lv_iconst (v := iI 1) hx hb d_M_ask_31 rfl ?_
        refine li_callr ((va_runV (As := [.int (iI z), .int (iI y), .int (iI 1)]) (rest := []) ⟨hx, hb, hml, hown, hts⟩ (c_M_endOf l dC dI kA mo ma mrf mz mls mfp mfm mtx mwd vn mli mlx mat mtk mtf mtt mfa mla mlp mdp msi mpf mpt mdn ca z y true (by exact hca) (by omega)) (cw_M_149 hts rfl rfl ⟨Nat.le_of_ble_eq_true rfl, Nat.le_of_ble_eq_true rfl⟩) (li_preV (va_recv hK hP (ci := 10) (q0 := 0) rfl rfl) (hP.sub [0, 1] rfl) hK hN (hG.go hS hAN)) rfl rfl hl.1 rfl (lv_room (Nat.le_of_ble_eq_true rfl)) d_M_ask_32 ⟨(by show 0 + 0 ≤ 0; omega), (by show 0 + 0 ≤ 0; omega)⟩).run) ?_
        refine li_nm (fun ze eze => ?_)
        refine lv_istore_n (lv' := [(3, .int (iI ze)), (0, .ref mo), (1, .int (iI x)), (2, .int (iI y))]) hx hb d_M_ask_35 rfl hl (by decide) rfl (fun ls hl => ?_)
        have he0 := edM_r (f := ca) (b := true) (x := z) (y := y) (by omega)
        have he1 := edM_p (f := ca) (b := true) (x := z) (y := y) (by omega) (hlw (by omega))
        rw [← eze] at he0 he1
        refine lv_aload_n hx hb d_M_ask_36 rfl (lv_at hl 1 rfl) ?_
        refine gf_M_41 hx hb hts hown hK hP 0 rfl rfl d_M_ask_37 ?_
        refine lv_aload_n hx hb d_M_ask_40 rfl (lv_at hl 1 rfl) ?_
        refine gf_M_152 hx hb hts hown hK hP 0 rfl rfl d_M_ask_41 ?_
        refine lv_iload_n hx hb d_M_ask_44 rfl (lv_at hl 0 rfl) ?_
        refine li_iast hx hb hK hP hD hS 3 0 rfl rfl (by omega) (by omega) (by omega) d_M_ask_45 (fun H locs hP hD hS => ?_)
        have hP : va_P (dC, dI) CL [(mo, .inr (10, [.int (iI mrf), .ref (ma 0), .int (iI mz), .ref (ma 1), .ref (ma 2), .int (iI mls), .int (iI mfp), .int (iI mfm), .ref (ma 3), .int (iI mtx), .ref (ma 4), .ref (ma 5), .int (iI mwd), .ref (ma 6), .ref (ma 7), .int (iI vn), .ref (ma 8), .ref (ma 9), .int (iI mli), .int (iI mlx), .ref (ma 10), .ref (ma 11), .int (iI mat), .int (iI mtk), .int (iI mtf), .int (iI mtt), .int (iI mfa), .int (iI mla), .int (iI mlp), .int (iI mdp), .ref (ma 12), .ref (ma 13), .int (iI msi), .int (iI (bI mdn)), .int (iI mpf), .int (iI mpt)])), (ma 1, .inl (kA 0, 4120, .inl (aI ca))), (ma 8, .inl (kA 0, 110, .inl (aI (va_up vf vn.toNat z)))), (ma 9, .inl (kA 0, 110, .inl (aI (va_up vt vn.toNat ze))))] H := hP
        have hD : va_D A [(mo, .inr (10, [.int (iI mrf), .ref (ma 0), .int (iI mz), .ref (ma 1), .ref (ma 2), .int (iI mls), .int (iI mfp), .int (iI mfm), .ref (ma 3), .int (iI mtx), .ref (ma 4), .ref (ma 5), .int (iI mwd), .ref (ma 6), .ref (ma 7), .int (iI vn), .ref (ma 8), .ref (ma 9), .int (iI mli), .int (iI mlx), .ref (ma 10), .ref (ma 11), .int (iI mat), .int (iI mtk), .int (iI mtf), .int (iI mtt), .int (iI mfa), .int (iI mla), .int (iI mlp), .int (iI mdp), .ref (ma 12), .ref (ma 13), .int (iI msi), .int (iI (bI mdn)), .int (iI mpf), .int (iI mpt)])), (ma 1, .inl (kA 0, 4120, .inl (aI ca))), (ma 8, .inl (kA 0, 110, .inl (aI (va_up vf vn.toNat z)))), (ma 9, .inl (kA 0, 110, .inl (aI (va_up vt vn.toNat ze))))] := hD
        refine lv_aload_n hx hb d_M_ask_46 rfl (lv_at hl 1 rfl) ?_
        refine lv_dup hx hb d_M_ask_47 rfl ?_
        refine gf_M_152 hx hb hts hown hK hP 0 rfl rfl d_M_ask_48 ?_
        refine lv_iconst (v := iI 1) hx hb d_M_ask_51 rfl ?_
        refine li_iadd hx hb d_M_ask_52 ?_
        refine li_nm (fun x2 ex2 => ?_)
        refine pf_M_152 hx hb hts hown hK hP hD hS 0 rfl (Nat.le_of_ble_eq_true rfl) d_M_ask_53 (fun H locs hP hD hS => ?_)
        have hP : va_P (dC, dI) CL [(mo, .inr (10, [.int (iI mrf), .ref (ma 0), .int (iI mz), .ref (ma 1), .ref (ma 2), .int (iI mls), .int (iI mfp), .int (iI mfm), .ref (ma 3), .int (iI mtx), .ref (ma 4), .ref (ma 5), .int (iI mwd), .ref (ma 6), .ref (ma 7), .int (iI x2), .ref (ma 8), .ref (ma 9), .int (iI mli), .int (iI mlx), .ref (ma 10), .ref (ma 11), .int (iI mat), .int (iI mtk), .int (iI mtf), .int (iI mtt), .int (iI mfa), .int (iI mla), .int (iI mlp), .int (iI mdp), .ref (ma 12), .ref (ma 13), .int (iI msi), .int (iI (bI mdn)), .int (iI mpf), .int (iI mpt)])), (ma 1, .inl (kA 0, 4120, .inl (aI ca))), (ma 8, .inl (kA 0, 110, .inl (aI (va_up vf vn.toNat z)))), (ma 9, .inl (kA 0, 110, .inl (aI (va_up vt vn.toNat ze))))] H := hP
        have hD : va_D A [(mo, .inr (10, [.int (iI mrf), .ref (ma 0), .int (iI mz), .ref (ma 1), .ref (ma 2), .int (iI mls), .int (iI mfp), .int (iI mfm), .ref (ma 3), .int (iI mtx), .ref (ma 4), .ref (ma 5), .int (iI mwd), .ref (ma 6), .ref (ma 7), .int (iI x2), .ref (ma 8), .ref (ma 9), .int (iI mli), .int (iI mlx), .ref (ma 10), .ref (ma 11), .int (iI mat), .int (iI mtk), .int (iI mtf), .int (iI mtt), .int (iI mfa), .int (iI mla), .int (iI mlp), .int (iI mdp), .ref (ma 12), .ref (ma 13), .int (iI msi), .int (iI (bI mdn)), .int (iI mpf), .int (iI mpt)])), (ma 1, .inl (kA 0, 4120, .inl (aI ca))), (ma 8, .inl (kA 0, 110, .inl (aI (va_up vf vn.toNat z)))), (ma 9, .inl (kA 0, 110, .inl (aI (va_up vt vn.toNat ze))))] := hD
        refine lv_aload_n hx hb d_M_ask_56 rfl (lv_at hl 1 rfl) ?_
        refine lv_iload_n hx hb d_M_ask_57 rfl (lv_at hl 0 rfl) ?_
        refine lv_iload_n hx hb d_M_ask_58 rfl (lv_at hl 3 rfl) ?_
        refine lv_iconst (v := iI 1) hx hb d_M_ask_59 rfl ?_
        refine li_callr ((va_runV (As := [.int (iI ze), .int (iI y), .int (iI 1)]) (rest := []) ⟨hx, hb, hml, hown, hts⟩ (c_M_beginOf l dC dI kA mo ma mrf mz mls mfp mfm mtx mwd x2 mli mlx mat mtk mtf mtt mfa mla mlp mdp msi mpf mpt mdn ca ze y true (by exact hca) (by omega)) (cw_M_145 hts rfl rfl ⟨Nat.le_of_ble_eq_true rfl, Nat.le_of_ble_eq_true rfl⟩) (li_preV (va_recv hK hP (ci := 10) (q0 := 0) rfl rfl) (hP.sub [0, 1] rfl) hK hN (hG.go hS hAN)) rfl rfl hl.1 rfl (lv_room (Nat.le_of_ble_eq_true rfl)) d_M_ask_60 ⟨(by show 0 + 0 ≤ 0; omega), (by show 0 + 0 ≤ 0; omega)⟩).run) ?_
        refine li_nm (fun zb ezb => ?_)
        refine lv_istore_n (lv' := [(3, .int (iI zb)), (0, .ref mo), (1, .int (iI x)), (2, .int (iI y))]) hx hb d_M_ask_63 rfl hl (by decide) rfl (fun ls hl => ?_)
        have hb0 := bgM_r (f := ca) (b := true) (x := ze) (y := y) (by omega)
        rw [← ezb] at hb0
        refine lv_goto (tgt := 13) hx hb d_M_ask_64 (by decide) ?_
        exact ih_13 zb g x2 (va_up vf vn.toNat z) (va_up vt vn.toNat ze) (by omega) (by omega) (by intro h5; first | (rw [ez0]; exact bgM_w (by omega) (by rw [← ez0]; exact h5)) | (rw [ezb]; exact bgM_w (by omega) (by rw [← ezb]; exact h5))) (by first | (subst_vars; rfl) | (subst_vars; exact hres)) (by omega) _ _ hP hD hS _ (lv_sub hl [1, 2, 3, 0] rfl)
  suffices h9 : ∀ (H : Heap) (locs : List Loc), H = s.heap → locs = [] → W p l e (rmd 3 0 0) s m args below meth c H locs 0 0 Q (F0 m 0 ls []) from h9 _ _ rfl rfl
  intro H locs eH eL
  have hP : va_P (dC, dI) CL [(mo, .inr (10, [.int (iI mrf), .ref (ma 0), .int (iI mz), .ref (ma 1), .ref (ma 2), .int (iI mls), .int (iI mfp), .int (iI mfm), .ref (ma 3), .int (iI mtx), .ref (ma 4), .ref (ma 5), .int (iI mwd), .ref (ma 6), .ref (ma 7), .int (iI mak), .ref (ma 8), .ref (ma 9), .int (iI mli), .int (iI mlx), .ref (ma 10), .ref (ma 11), .int (iI mat), .int (iI mtk), .int (iI mtf), .int (iI mtt), .int (iI mfa), .int (iI mla), .int (iI mlp), .int (iI mdp), .ref (ma 12), .ref (ma 13), .int (iI msi), .int (iI (bI mdn)), .int (iI mpf), .int (iI mpt)])), (ma 1, .inl (kA 0, 4120, .inl (aI ca))), (ma 8, .inl (kA 0, 110, .inl (aI caf))), (ma 9, .inl (kA 0, 110, .inl (aI cat)))] H := by rw [eH]; exact hP
  have hS : va_S A s.heap H locs := by rw [eH, eL]; exact va_S.rf
  refine lv_aload_n hx hb d_M_ask_0 rfl (lv_at hl 0 rfl) ?_
  refine lv_iconst (v := iI 0) hx hb d_M_ask_1 rfl ?_
  refine pf_M_152 hx hb hts hown hK hP hD hS 0 rfl (Nat.le_of_ble_eq_true rfl) d_M_ask_2 (fun H locs hP hD hS => ?_)
  have hP : va_P (dC, dI) CL [(mo, .inr (10, [.int (iI mrf), .ref (ma 0), .int (iI mz), .ref (ma 1), .ref (ma 2), .int (iI mls), .int (iI mfp), .int (iI mfm), .ref (ma 3), .int (iI mtx), .ref (ma 4), .ref (ma 5), .int (iI mwd), .ref (ma 6), .ref (ma 7), .int (iI 0), .ref (ma 8), .ref (ma 9), .int (iI mli), .int (iI mlx), .ref (ma 10), .ref (ma 11), .int (iI mat), .int (iI mtk), .int (iI mtf), .int (iI mtt), .int (iI mfa), .int (iI mla), .int (iI mlp), .int (iI mdp), .ref (ma 12), .ref (ma 13), .int (iI msi), .int (iI (bI mdn)), .int (iI mpf), .int (iI mpt)])), (ma 1, .inl (kA 0, 4120, .inl (aI ca))), (ma 8, .inl (kA 0, 110, .inl (aI caf))), (ma 9, .inl (kA 0, 110, .inl (aI cat)))] H := hP
  have hD : va_D A [(mo, .inr (10, [.int (iI mrf), .ref (ma 0), .int (iI mz), .ref (ma 1), .ref (ma 2), .int (iI mls), .int (iI mfp), .int (iI mfm), .ref (ma 3), .int (iI mtx), .ref (ma 4), .ref (ma 5), .int (iI mwd), .ref (ma 6), .ref (ma 7), .int (iI 0), .ref (ma 8), .ref (ma 9), .int (iI mli), .int (iI mlx), .ref (ma 10), .ref (ma 11), .int (iI mat), .int (iI mtk), .int (iI mtf), .int (iI mtt), .int (iI mfa), .int (iI mla), .int (iI mlp), .int (iI mdp), .ref (ma 12), .ref (ma 13), .int (iI msi), .int (iI (bI mdn)), .int (iI mpf), .int (iI mpt)])), (ma 1, .inl (kA 0, 4120, .inl (aI ca))), (ma 8, .inl (kA 0, 110, .inl (aI caf))), (ma 9, .inl (kA 0, 110, .inl (aI cat)))] := hD
  refine lv_aload_n hx hb d_M_ask_5 rfl (lv_at hl 0 rfl) ?_
  refine lv_iload_n hx hb d_M_ask_6 rfl (lv_at hl 1 rfl) ?_
  refine lv_iload_n hx hb d_M_ask_7 rfl (lv_at hl 2 rfl) ?_
  refine lv_iconst (v := iI 1) hx hb d_M_ask_8 rfl ?_
  refine li_callr ((va_runV (As := [.int (iI x), .int (iI y), .int (iI 1)]) (rest := []) ⟨hx, hb, hml, hown, hts⟩ (c_M_beginOf l dC dI kA mo ma mrf mz mls mfp mfm mtx mwd 0 mli mlx mat mtk mtf mtt mfa mla mlp mdp msi mpf mpt mdn ca x y true (by exact hca) (by omega)) (cw_M_145 hts rfl rfl ⟨Nat.le_of_ble_eq_true rfl, Nat.le_of_ble_eq_true rfl⟩) (li_preV (va_recv hK hP (ci := 10) (q0 := 0) rfl rfl) (hP.sub [0, 1] rfl) hK hN (hG.go hS hAN)) rfl rfl hl.1 rfl (lv_room (Nat.le_of_ble_eq_true rfl)) d_M_ask_9 ⟨(by show 0 + 0 ≤ 0; omega), (by show 0 + 0 ≤ 0; omega)⟩).run) ?_
  refine li_nm (fun z0 ez0 => ?_)
  refine lv_istore_n (lv' := [(3, .int (iI z0)), (0, .ref mo), (1, .int (iI x)), (2, .int (iI y))]) hx hb d_M_ask_12 rfl hl (by decide) rfl (fun ls hl => ?_)
  have hb0 := bgM_r (f := ca) (b := true) (x := x) (y := y) (by omega)
  rw [← ez0] at hb0
  exact K_13 ((y - z0).toNat + 1) z0 1000 0 caf cat (by omega) (by omega) (by intro h5; first | (rw [ez0]; exact bgM_w (by omega) (by rw [← ez0]; exact h5)) | (rw [ezb]; exact bgM_w (by omega) (by rw [← ezb]; exact h5))) (by first | (subst_vars; rfl) | (subst_vars; exact hres)) (Nat.lt_succ_self _) _ _ hP hD hS _ (lv_sub hl [1, 2, 3, 0] rfl)
theorem d_M_cut_0 : decode b_M_cut 0 = .ok (.aload_n 0, 1) := by decide +kernel
theorem d_M_cut_1 : decode b_M_cut 1 = .ok (.iload_n 1, 1) := by decide +kernel
theorem d_M_cut_2 : decode b_M_cut 2 = .ok (.iconst 0, 1) := by decide +kernel
theorem d_M_cut_3 : decode b_M_cut 3 = .ok (.aload_n 0, 1) := by decide +kernel
theorem d_M_cut_4 : decode b_M_cut 4 = .ok (.getfield 66, 3) := by decide +kernel
theorem d_M_cut_7 : decode b_M_cut 7 = .ok (.invokestatic 62, 3) := by decide +kernel
theorem d_M_cut_10 : decode b_M_cut 10 = .ok (.ifCond .eq 7, 3) := by decide +kernel
theorem d_M_cut_13 : decode b_M_cut 13 = .ok (.iconst 0, 1) := by decide +kernel
theorem d_M_cut_14 : decode b_M_cut 14 = .ok (.goto 4, 3) := by decide +kernel
theorem d_M_cut_17 : decode b_M_cut 17 = .ok (.iconst 1, 1) := by decide +kernel
theorem d_M_cut_18 : decode b_M_cut 18 = .ok (.invokevirtual 69, 3) := by decide +kernel
theorem d_M_cut_21 : decode b_M_cut 21 = .ok (.ifCond .eq 5, 3) := by decide +kernel
theorem d_M_cut_24 : decode b_M_cut 24 = .ok (.iconst 0, 1) := by decide +kernel
theorem d_M_cut_25 : decode b_M_cut 25 = .ok (.ireturn, 1) := by decide +kernel
theorem d_M_cut_26 : decode b_M_cut 26 = .ok (.aload_n 0, 1) := by decide +kernel
theorem d_M_cut_27 : decode b_M_cut 27 = .ok (.getfield 66, 3) := by decide +kernel
theorem d_M_cut_30 : decode b_M_cut 30 = .ok (.iload_n 1, 1) := by decide +kernel
theorem d_M_cut_31 : decode b_M_cut 31 = .ok (.isub, 1) := by decide +kernel
theorem d_M_cut_32 : decode b_M_cut 32 = .ok (.istore_n 2, 1) := by decide +kernel
theorem d_M_cut_33 : decode b_M_cut 33 = .ok (.aload_n 0, 1) := by decide +kernel
theorem d_M_cut_34 : decode b_M_cut 34 = .ok (.iload_n 1, 1) := by decide +kernel
theorem d_M_cut_35 : decode b_M_cut 35 = .ok (.putfield 66, 3) := by decide +kernel
theorem d_M_cut_38 : decode b_M_cut 38 = .ok (.iload_n 2, 1) := by decide +kernel
theorem d_M_cut_39 : decode b_M_cut 39 = .ok (.ireturn, 1) := by decide +kernel
set_option maxHeartbeats 4000000 in
set_option maxRecDepth 100000 in
theorem c_M_cut (l : Launch) (dC : Nat → ClassId) (dI : Nat → Nat → Nat) (kA : Nat → ClassId) (sz : Nat) (mo : Nat) (ma : Nat → Nat) (mrf : Int) (mz : Int) (mls : Int) (mfp : Int) (mfm : Int) (mtx : Int) (mwd : Int) (mak : Int) (mli : Int) (mlx : Int) (mat : Int) (mtk : Int) (mtf : Int) (mtt : Int) (mfa : Int) (mla : Int) (mlp : Int) (mdp : Int) (msi : Int) (mpf : Int) (mpt : Int) (mdn : Bool) (n : Int) (hz : 0 ≤ mz ∧ mz ≤ 400) (hn : -2147483648 ≤ n ∧ n < 2147483648) : Met l y_M_cut (wsy y_M_cut b_M_cut 3 (some .int)) (rmd 1 0 0) (li_Pr (dC, dI) CL (TY kA) [.ref mo, .int (iI n)] (fun h => h.size = sz ∧ va_P (dC, dI) CL [(mo, .inr (10, [.int (iI mrf), .ref (ma 0), .int (iI mz), .ref (ma 1), .ref (ma 2), .int (iI mls), .int (iI mfp), .int (iI mfm), .ref (ma 3), .int (iI mtx), .ref (ma 4), .ref (ma 5), .int (iI mwd), .ref (ma 6), .ref (ma 7), .int (iI mak), .ref (ma 8), .ref (ma 9), .int (iI mli), .int (iI mlx), .ref (ma 10), .ref (ma 11), .int (iI mat), .int (iI mtk), .int (iI mtf), .int (iI mtt), .int (iI mfa), .int (iI mla), .int (iI mlp), .int (iI mdp), .ref (ma 12), .ref (ma 13), .int (iI msi), .int (iI (bI mdn)), .int (iI mpf), .int (iI mpt)]))] h ∧ va_D (fun q => dI 100 0 ≤ q) [(mo, .inr (10, [.int (iI mrf), .ref (ma 0), .int (iI mz), .ref (ma 1), .ref (ma 2), .int (iI mls), .int (iI mfp), .int (iI mfm), .ref (ma 3), .int (iI mtx), .ref (ma 4), .ref (ma 5), .int (iI mwd), .ref (ma 6), .ref (ma 7), .int (iI mak), .ref (ma 8), .ref (ma 9), .int (iI mli), .int (iI mlx), .ref (ma 10), .ref (ma 11), .int (iI mat), .int (iI mtk), .int (iI mtf), .int (iI mtt), .int (iI mfa), .int (iI mla), .int (iI mlp), .int (iI mdp), .ref (ma 12), .ref (ma 13), .int (iI msi), .int (iI (bI mdn)), .int (iI mpf), .int (iI mpt)]))] ∧ (fun _ => True) h)) (li_Qw (S := Unit) (dC, dI) CL (fun _ => True) (fun _ => some (.int (iI ((if 0 ≤ n ∧ n ≤ mz then mz - n else 0))))) (fun _ => [(mo, .inr (10, [.int (iI (if 0 ≤ n ∧ n ≤ mz then 0 else 1)), .ref (ma 0), .int (iI (if 0 ≤ n ∧ n ≤ mz then n else mz)), .ref (ma 1), .ref (ma 2), .int (iI mls), .int (iI mfp), .int (iI mfm), .ref (ma 3), .int (iI mtx), .ref (ma 4), .ref (ma 5), .int (iI mwd), .ref (ma 6), .ref (ma 7), .int (iI mak), .ref (ma 8), .ref (ma 9), .int (iI mli), .int (iI mlx), .ref (ma 10), .ref (ma 11), .int (iI mat), .int (iI mtk), .int (iI mtf), .int (iI mtt), .int (iI mfa), .int (iI mla), .int (iI mlp), .int (iI mdp), .ref (ma 12), .ref (ma 13), .int (iI msi), .int (iI (bI mdn)), .int (iI mpf), .int (iI mpt)]))]) (va_A [(mo, .inr (10, [.int (iI mrf), .ref (ma 0), .int (iI mz), .ref (ma 1), .ref (ma 2), .int (iI mls), .int (iI mfp), .int (iI mfm), .ref (ma 3), .int (iI mtx), .ref (ma 4), .ref (ma 5), .int (iI mwd), .ref (ma 6), .ref (ma 7), .int (iI mak), .ref (ma 8), .ref (ma 9), .int (iI mli), .int (iI mlx), .ref (ma 10), .ref (ma 11), .int (iI mat), .int (iI mtk), .int (iI mtf), .int (iI mtt), .int (iI mfa), .int (iI mla), .int (iI mlp), .int (iI mdp), .ref (ma 12), .ref (ma 13), .int (iI msi), .int (iI (bI mdn)), .int (iI mpf), .int (iI mpt)]))] sz)) 0 0 (va_A [(mo, .inr (10, [.int (iI mrf), .ref (ma 0), .int (iI mz), .ref (ma 1), .ref (ma 2), .int (iI mls), .int (iI mfp), .int (iI mfm), .ref (ma 3), .int (iI mtx), .ref (ma 4), .ref (ma 5), .int (iI mwd), .ref (ma 6), .ref (ma 7), .int (iI mak), .ref (ma 8), .ref (ma 9), .int (iI mli), .int (iI mlx), .ref (ma 10), .ref (ma 11), .int (iI mat), .int (iI mtk), .int (iI mtf), .int (iI mtt), .int (iI mfa), .int (iI mla), .int (iI mlp), .int (iI mdp), .ref (ma 12), .ref (ma 13), .int (iI msi), .int (iI (bI mdn)), .int (iI mpf), .int (iI mpt)]))] sz) := by
  refine li_mwi (r := fun _ => (if 0 ≤ n ∧ n ≤ mz then mz - n else 0)) (by decide) (Nat.le_of_ble_eq_true rfl) (fun _ _ => by rfl) ?_
  intro p e s m args below meth c Q A C hP hD hBx hK hN hG hA hAi hAN fin ls hl
  obtain ⟨hx, hb, hr, hml, hown, hts, hlocks, hin⟩ := C
  have hown : s.vm.findClass R_M = some m.cls := hown
  have hl : lv_has ls 3 [(0, .ref mo), (1, .int (iI n))] := hl
  suffices h9 : ∀ (H : Heap) (locs : List Loc), H = s.heap → locs = [] → W p l e (rmd 1 0 0) s m args below meth c H locs 0 0 Q (F0 m 0 ls []) from h9 _ _ rfl rfl
  intro H locs eH eL
  have hP : va_P (dC, dI) CL [(mo, .inr (10, [.int (iI mrf), .ref (ma 0), .int (iI mz), .ref (ma 1), .ref (ma 2), .int (iI mls), .int (iI mfp), .int (iI mfm), .ref (ma 3), .int (iI mtx), .ref (ma 4), .ref (ma 5), .int (iI mwd), .ref (ma 6), .ref (ma 7), .int (iI mak), .ref (ma 8), .ref (ma 9), .int (iI mli), .int (iI mlx), .ref (ma 10), .ref (ma 11), .int (iI mat), .int (iI mtk), .int (iI mtf), .int (iI mtt), .int (iI mfa), .int (iI mla), .int (iI mlp), .int (iI mdp), .ref (ma 12), .ref (ma 13), .int (iI msi), .int (iI (bI mdn)), .int (iI mpf), .int (iI mpt)]))] H := by rw [eH]; exact hP
  have hS : va_S A s.heap H locs := by rw [eH, eL]; exact va_S.rf
  refine lv_aload_n hx hb d_M_cut_0 rfl (lv_at hl 0 rfl) ?_
  refine lv_iload_n hx hb d_M_cut_1 rfl (lv_at hl 1 rfl) ?_
  refine lv_iconst (v := iI 0) hx hb d_M_cut_2 rfl ?_
  refine lv_aload_n hx hb d_M_cut_3 rfl (lv_at hl 0 rfl) ?_
  refine gf_M_66 hx hb hts hown hK hP 0 rfl rfl d_M_cut_4 ?_
  refine li_callr ((va_runS (As := [.int (iI n), .int (iI 0), .int (iI mz)]) (rest := [.ref mo]) ⟨hx, hb, hml, hown, hts⟩ (c_M_isIn l dC dI kA n 0 mz (by omega) (by omega) (by omega)) (cw_M_62 hts rfl rfl ⟨Nat.le_of_ble_eq_true rfl, Nat.le_of_ble_eq_true rfl⟩) (li_preS va_Pnil hK hN (hG.go hS hAN)) rfl rfl hl.1 rfl (lv_room (Nat.le_of_ble_eq_true rfl)) d_M_cut_7 ⟨(by show 0 + 0 ≤ 0; omega), (by show 0 + 0 ≤ 0; omega)⟩).run) ?_
  refine li_bz (tgt := 17) hx hb d_M_cut_10 (by decide) (fun c1 => ?_) (fun c1 => ?_)
  · have _q := c1
    have hin9 := of_decide_eq_false (show inF n 0 mz = false by assumption)
    refine lv_iconst (v := iI 1) hx hb d_M_cut_17 rfl ?_
    refine li_callw (wc := [(mo, .inr (10, [.int (iI mrf), .ref (ma 0), .int (iI mz), .ref (ma 1), .ref (ma 2), .int (iI mls), .int (iI mfp), .int (iI mfm), .ref (ma 3), .int (iI mtx), .ref (ma 4), .ref (ma 5), .int (iI mwd), .ref (ma 6), .ref (ma 7), .int (iI mak), .ref (ma 8), .ref (ma 9), .int (iI mli), .int (iI mlx), .ref (ma 10), .ref (ma 11), .int (iI mat), .int (iI mtk), .int (iI mtf), .int (iI mtt), .int (iI mfa), .int (iI mla), .int (iI mlp), .int (iI mdp), .ref (ma 12), .ref (ma 13), .int (iI msi), .int (iI (bI mdn)), .int (iI mpf), .int (iI mpt)]))]) (wr := []) (va_runV (As := [.int (iI 1)]) (rest := []) ⟨hx, hb, hml, hown, hts⟩ (c_M_refused l dC dI kA H.size mo ma mrf mz mls mfp mfm mtx mwd mak mli mlx mat mtk mtf mtt mfa mla mlp mdp msi mpf mpt mdn 1 (by omega)) (cw_M_69 hts rfl rfl ⟨Nat.le_of_ble_eq_true rfl, Nat.le_of_ble_eq_true rfl⟩) (li_preV (va_recv hK hP (ci := 10) (q0 := 0) rfl rfl) ⟨rfl, hP.sub [0] rfl, (hD.sub [0] (by decide) rfl).weaken (fun _ _ _ h => hAN _ h), trivial⟩ hK hN (hG.go hS hAN)) rfl rfl hl.1 rfl (lv_room (Nat.le_of_ble_eq_true rfl)) d_M_cut_18 ⟨(by show 0 + 0 ≤ 0; omega), (by show 0 + 0 ≤ 0; omega)⟩) hP hD hS hA [0] [] rfl rfl (by decide) (by decide) (fun u2 H locs hu2 hP hD hS _hk => ?_)
    have hP : va_P (dC, dI) CL [(mo, .inr (10, [.int (iI 1), .ref (ma 0), .int (iI mz), .ref (ma 1), .ref (ma 2), .int (iI mls), .int (iI mfp), .int (iI mfm), .ref (ma 3), .int (iI mtx), .ref (ma 4), .ref (ma 5), .int (iI mwd), .ref (ma 6), .ref (ma 7), .int (iI mak), .ref (ma 8), .ref (ma 9), .int (iI mli), .int (iI mlx), .ref (ma 10), .ref (ma 11), .int (iI mat), .int (iI mtk), .int (iI mtf), .int (iI mtt), .int (iI mfa), .int (iI mla), .int (iI mlp), .int (iI mdp), .ref (ma 12), .ref (ma 13), .int (iI msi), .int (iI (bI mdn)), .int (iI mpf), .int (iI mpt)]))] H := hP
    have hD : va_D A [(mo, .inr (10, [.int (iI 1), .ref (ma 0), .int (iI mz), .ref (ma 1), .ref (ma 2), .int (iI mls), .int (iI mfp), .int (iI mfm), .ref (ma 3), .int (iI mtx), .ref (ma 4), .ref (ma 5), .int (iI mwd), .ref (ma 6), .ref (ma 7), .int (iI mak), .ref (ma 8), .ref (ma 9), .int (iI mli), .int (iI mlx), .ref (ma 10), .ref (ma 11), .int (iI mat), .int (iI mtk), .int (iI mtf), .int (iI mtt), .int (iI mfa), .int (iI mla), .int (iI mlp), .int (iI mdp), .ref (ma 12), .ref (ma 13), .int (iI msi), .int (iI (bI mdn)), .int (iI mpf), .int (iI mpt)]))] := hD
    refine li_bz (tgt := 26) hx hb d_M_cut_21 (by decide) (fun c3 => ?_) (fun c3 => ?_)
    · have _q := c3
      exact absurd c3 (by decide)
    · have _q := c3
      refine lv_iconst (v := iI 0) hx hb d_M_cut_24 rfl ?_
      exact fin () _ _ _ _ _ (by first | (rw [if_pos (by omega)]; omega) | (rw [if_neg (by omega)]) | (exfalso; simp_all)) (by trivial) (by first | (rw [if_pos (by omega), if_pos (by omega)]; exact hP) | (rw [if_neg (by omega), if_neg (by omega)]; exact hP)) (by first | (rw [if_pos (by omega), if_pos (by omega)]; exact hD) | (rw [if_neg (by omega), if_neg (by omega)]; exact hD)) hS d_M_cut_25
  · have _q := c1
    have hin9 := of_decide_eq_true (show inF n 0 mz = true by assumption)
    refine lv_iconst (v := iI 0) hx hb d_M_cut_13 rfl ?_
    refine lv_goto (tgt := 18) hx hb d_M_cut_14 (by decide) ?_
    refine li_callw (wc := [(mo, .inr (10, [.int (iI mrf), .ref (ma 0), .int (iI mz), .ref (ma 1), .ref (ma 2), .int (iI mls), .int (iI mfp), .int (iI mfm), .ref (ma 3), .int (iI mtx), .ref (ma 4), .ref (ma 5), .int (iI mwd), .ref (ma 6), .ref (ma 7), .int (iI mak), .ref (ma 8), .ref (ma 9), .int (iI mli), .int (iI mlx), .ref (ma 10), .ref (ma 11), .int (iI mat), .int (iI mtk), .int (iI mtf), .int (iI mtt), .int (iI mfa), .int (iI mla), .int (iI mlp), .int (iI mdp), .ref (ma 12), .ref (ma 13), .int (iI msi), .int (iI (bI mdn)), .int (iI mpf), .int (iI mpt)]))]) (wr := []) (va_runV (As := [.int (iI 0)]) (rest := []) ⟨hx, hb, hml, hown, hts⟩ (c_M_refused l dC dI kA H.size mo ma mrf mz mls mfp mfm mtx mwd mak mli mlx mat mtk mtf mtt mfa mla mlp mdp msi mpf mpt mdn 0 (by omega)) (cw_M_69 hts rfl rfl ⟨Nat.le_of_ble_eq_true rfl, Nat.le_of_ble_eq_true rfl⟩) (li_preV (va_recv hK hP (ci := 10) (q0 := 0) rfl rfl) ⟨rfl, hP.sub [0] rfl, (hD.sub [0] (by decide) rfl).weaken (fun _ _ _ h => hAN _ h), trivial⟩ hK hN (hG.go hS hAN)) rfl rfl hl.1 rfl (lv_room (Nat.le_of_ble_eq_true rfl)) d_M_cut_18 ⟨(by show 0 + 0 ≤ 0; omega), (by show 0 + 0 ≤ 0; omega)⟩) hP hD hS hA [0] [] rfl rfl (by decide) (by decide) (fun u4 H locs hu4 hP hD hS _hk => ?_)
    have hP : va_P (dC, dI) CL [(mo, .inr (10, [.int (iI 0), .ref (ma 0), .int (iI mz), .ref (ma 1), .ref (ma 2), .int (iI mls), .int (iI mfp), .int (iI mfm), .ref (ma 3), .int (iI mtx), .ref (ma 4), .ref (ma 5), .int (iI mwd), .ref (ma 6), .ref (ma 7), .int (iI mak), .ref (ma 8), .ref (ma 9), .int (iI mli), .int (iI mlx), .ref (ma 10), .ref (ma 11), .int (iI mat), .int (iI mtk), .int (iI mtf), .int (iI mtt), .int (iI mfa), .int (iI mla), .int (iI mlp), .int (iI mdp), .ref (ma 12), .ref (ma 13), .int (iI msi), .int (iI (bI mdn)), .int (iI mpf), .int (iI mpt)]))] H := hP
    have hD : va_D A [(mo, .inr (10, [.int (iI 0), .ref (ma 0), .int (iI mz), .ref (ma 1), .ref (ma 2), .int (iI mls), .int (iI mfp), .int (iI mfm), .ref (ma 3), .int (iI mtx), .ref (ma 4), .ref (ma 5), .int (iI mwd), .ref (ma 6), .ref (ma 7), .int (iI mak), .ref (ma 8), .ref (ma 9), .int (iI mli), .int (iI mlx), .ref (ma 10), .ref (ma 11), .int (iI mat), .int (iI mtk), .int (iI mtf), .int (iI mtt), .int (iI mfa), .int (iI mla), .int (iI mlp), .int (iI mdp), .ref (ma 12), .ref (ma 13), .int (iI msi), .int (iI (bI mdn)), .int (iI mpf), .int (iI mpt)]))] := hD
    refine li_bz (tgt := 26) hx hb d_M_cut_21 (by decide) (fun c5 => ?_) (fun c5 => ?_)
    · have _q := c5
      refine lv_aload_n hx hb d_M_cut_26 rfl (lv_at hl 0 rfl) ?_
      refine gf_M_66 hx hb hts hown hK hP 0 rfl rfl d_M_cut_27 ?_
      refine lv_iload_n hx hb d_M_cut_30 rfl (lv_at hl 1 rfl) ?_
      refine li_isub hx hb d_M_cut_31 ?_
      refine li_nm (fun x6 ex6 => ?_)
      refine lv_istore_n (lv' := [(2, .int (iI x6)), (0, .ref mo), (1, .int (iI n))]) hx hb d_M_cut_32 rfl hl (by decide) rfl (fun ls hl => ?_)
      refine lv_aload_n hx hb d_M_cut_33 rfl (lv_at hl 1 rfl) ?_
      refine lv_iload_n hx hb d_M_cut_34 rfl (lv_at hl 2 rfl) ?_
      refine pf_M_66 hx hb hts hown hK hP hD hS 0 rfl (Nat.le_of_ble_eq_true rfl) d_M_cut_35 (fun H locs hP hD hS => ?_)
      have hP : va_P (dC, dI) CL [(mo, .inr (10, [.int (iI 0), .ref (ma 0), .int (iI n), .ref (ma 1), .ref (ma 2), .int (iI mls), .int (iI mfp), .int (iI mfm), .ref (ma 3), .int (iI mtx), .ref (ma 4), .ref (ma 5), .int (iI mwd), .ref (ma 6), .ref (ma 7), .int (iI mak), .ref (ma 8), .ref (ma 9), .int (iI mli), .int (iI mlx), .ref (ma 10), .ref (ma 11), .int (iI mat), .int (iI mtk), .int (iI mtf), .int (iI mtt), .int (iI mfa), .int (iI mla), .int (iI mlp), .int (iI mdp), .ref (ma 12), .ref (ma 13), .int (iI msi), .int (iI (bI mdn)), .int (iI mpf), .int (iI mpt)]))] H := hP
      have hD : va_D A [(mo, .inr (10, [.int (iI 0), .ref (ma 0), .int (iI n), .ref (ma 1), .ref (ma 2), .int (iI mls), .int (iI mfp), .int (iI mfm), .ref (ma 3), .int (iI mtx), .ref (ma 4), .ref (ma 5), .int (iI mwd), .ref (ma 6), .ref (ma 7), .int (iI mak), .ref (ma 8), .ref (ma 9), .int (iI mli), .int (iI mlx), .ref (ma 10), .ref (ma 11), .int (iI mat), .int (iI mtk), .int (iI mtf), .int (iI mtt), .int (iI mfa), .int (iI mla), .int (iI mlp), .int (iI mdp), .ref (ma 12), .ref (ma 13), .int (iI msi), .int (iI (bI mdn)), .int (iI mpf), .int (iI mpt)]))] := hD
      refine lv_iload_n hx hb d_M_cut_38 rfl (lv_at hl 0 rfl) ?_
      exact fin () _ _ _ _ _ (by first | (rw [if_pos (by omega)]; omega) | (rw [if_neg (by omega)]) | (exfalso; simp_all)) (by trivial) (by first | (rw [if_pos (by omega), if_pos (by omega)]; exact hP) | (rw [if_neg (by omega), if_neg (by omega)]; exact hP)) (by first | (rw [if_pos (by omega), if_pos (by omega)]; exact hD) | (rw [if_neg (by omega), if_neg (by omega)]; exact hD)) hS d_M_cut_39
    · have _q := c5
      exact absurd c5 (by decide)

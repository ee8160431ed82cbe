/-! the order of what was found: both sides -/
def insB (p : Int → Int → Bool) (r : Int) : List Int → List Int
  | [] => [r]
  | s :: l => if p r s = true then s :: insB p r l else r :: s :: l
def rvF (f : Nat → Int) : Nat → List Int
  | 0 => []
  | n + 1 => f n :: rvF f n
theorem rvF_c {f g : Nat → Int} : ∀ n : Nat, (∀ j, j < n → f j = g j) → rvF f n = rvF g n := by
  intro n
  induction n with
  | zero => intro _; rfl
  | succ n ih => intro h; simp only [rvF]; rw [h n (by omega), ih (fun j hj => h j (by omega))]
theorem rvF_i {f g : Nat → Int} : ∀ n : Nat, rvF f n = rvF g n → ∀ j, j < n → f j = g j := by
  intro n
  induction n with
  | zero => intro _ j hj; omega
  | succ n ih =>
    intro h j hj
    simp only [rvF] at h
    obtain ⟨h1, h2⟩ := List.cons.inj h
    by_cases e : j = n
    · rw [e]; exact h1
    · exact ih h2 j (by omega)
theorem fiL_o {bf : Int → Int → Bool} {r : Int} : ∀ (k : Nat) (f : Nat → Int) (j : Nat), k < j → fiL bf r k f j = f j := by
  intro k
  induction k with
  | zero => intro f j h; simp only [fiL]; rw [vu_n (by omega)]
  | succ k ih =>
    intro f j h
    simp only [fiL]
    split
    · rw [ih _ j (by omega), vu_n (by omega)]
    · rw [vu_n (by omega)]
theorem fiL_B {bf : Int → Int → Bool} {r : Int} : ∀ (k : Nat) (f : Nat → Int), rvF (fiL bf r k f) (k + 1) = insB bf r (rvF f k) := by
  intro k
  induction k with
  | zero => intro f; simp only [fiL, rvF, insB]; rw [vu_e]
  | succ k ih =>
    intro f
    rw [show rvF (fiL bf r (k + 1) f) (k + 1 + 1) = fiL bf r (k + 1) f (k + 1) :: rvF (fiL bf r (k + 1) f) (k + 1) from rfl]
    simp only [fiL, rvF, insB]
    by_cases c : bf r (f k) = true
    · rw [if_pos c, if_pos c, fiL_o k _ _ (by omega), vu_e]
      have := ih (va_up f (k + 1) (f k))
      simp only [rvF] at this
      rw [this, rvF_c (f := va_up f (k + 1) (f k)) (g := f) k (fun j hj => vu_n (by omega))]
    · rw [if_neg c, if_neg c, vu_e, vu_n (by omega), rvF_c (f := va_up f (k + 1) r) (g := f) k (fun j hj => vu_n (by omega))]
theorem siL_o {cf : Int → Int → Int} : ∀ (k : Nat) (f : Nat → Int) (j : Nat), k < j → siL cf k f j = f j := by
  intro k
  induction k with
  | zero => intro f j h; rfl
  | succ k ih =>
    intro f j h
    simp only [siL]
    split
    · rw [ih _ j (by omega), vu_n (by omega), vu_n (by omega)]
    · rfl
theorem siL_B {cf : Int → Int → Int} : ∀ (k : Nat) (f : Nat → Int), rvF (siL cf k f) (k + 1) = insB (fun a b => decide (cf a b < 0)) (f k) (rvF f k) := by
  intro k
  induction k with
  | zero => intro f; rfl
  | succ k ih =>
    intro f
    rw [show rvF (siL cf (k + 1) f) (k + 1 + 1) = siL cf (k + 1) f (k + 1) :: rvF (siL cf (k + 1) f) (k + 1) from rfl]
    simp only [siL, rvF, insB]
    by_cases c : cf (f (k + 1)) (f k) < 0
    · rw [if_pos c, if_pos (decide_eq_true c), siL_o k _ _ (by omega), vu_n (by omega), vu_e]
      have := ih (va_up (va_up f (k + 1) (f k)) k (f (k + 1)))
      simp only [rvF] at this
      rw [this, vu_e, rvF_c (f := va_up (va_up f (k + 1) (f k)) k (f (k + 1))) (g := f) k (fun j hj => by rw [vu_n (by omega), vu_n (by omega)])]
    · rw [if_neg c, if_neg (by rw [decide_eq_true_eq]; exact c)]
def frF (f : Nat → Int) (i : Nat) : Nat → List Int
  | 0 => []
  | k + 1 => f i :: frF f (i + 1) k
theorem frF_c {f g : Nat → Int} : ∀ (k i : Nat), (∀ j, i ≤ j → j < i + k → f j = g j) → frF f i k = frF g i k := by
  intro k
  induction k with
  | zero => intro i _; rfl
  | succ k ih => intro i h; simp only [frF]; rw [h i (by omega) (by omega), ih (i + 1) (fun j h1 h2 => h j (by omega) (by omega))]
abbrev inB (p : Int → Int → Bool) (L R : List Int) : List Int := R.foldl (fun l r => insB p r l) L
theorem soS_B {cf : Int → Int → Int} : ∀ (k i : Nat) (f : Nat → Int), rvF (soS cf k i f) (i + k) = inB (fun a b => decide (cf a b < 0)) (rvF f i) (frF f i k) := by
  intro k
  induction k with
  | zero => intro i f; rfl
  | succ k ih =>
    intro i f
    simp only [soS, frF]
    rw [Int.toNat_natCast]
    have := ih (i + 1) (siL cf i f)
    rw [show (((i + 1 : Nat)) : Int) = (i : Int) + 1 by omega, show i + 1 + k = i + (k + 1) by omega, siL_B, frF_c (f := siL cf i f) (g := f) k (i + 1) (fun j h1 h2 => siL_o i f j (by omega))] at this
    exact this
def biL (v : Int) : Nat → Int → List Int
  | 0, _ => []
  | j + 1, r => if andI (shrI v r) 1 = 1 then r :: biL v j (r + 1) else biL v j (r + 1)
theorem foL_B {bf : Int → Int → Bool} {v : Int} : ∀ (j : Nat) (r : Int) (c : Nat) (f : Nat → Int), (foL bf v j r ((c : Int), f)).1 = (c : Int) + (biL v j r).length ∧ rvF (foL bf v j r ((c : Int), f)).2 (c + (biL v j r).length) = inB bf (rvF f c) (biL v j r) := by
  intro j
  induction j with
  | zero => intro r c f; simp only [foL, biL]; exact ⟨by simp, rfl⟩
  | succ j ih =>
    intro r c f
    simp only [foL, biL]
    by_cases q : andI (shrI v r) 1 = 1
    · rw [if_pos q, if_pos q]
      obtain ⟨i1, i2⟩ := ih (r + 1) (c + 1) (fiL bf r c f)
      rw [show (((c + 1 : Nat)) : Int) = (c : Int) + 1 by omega] at i1 i2
      rw [Int.toNat_natCast]
      refine ⟨by rw [i1, List.length_cons]; omega, ?_⟩
      rw [List.length_cons, show c + ((biL v j (r + 1)).length + 1) = c + 1 + (biL v j (r + 1)).length by omega, i2, fiL_B]
      rfl
    · rw [if_neg q, if_neg q]
      exact ih (r + 1) c f
theorem kpL_B {v : Int} : ∀ (j : Nat) (r : Int) (c : Nat) (f : Nat → Int), (kpL v j r ((c : Int), f)).1 = (c : Int) + (biL v j r).length ∧ (∀ i, i < c → (kpL v j r ((c : Int), f)).2 i = f i) ∧ frF (kpL v j r ((c : Int), f)).2 c (biL v j r).length = biL v j r := by
  intro j
  induction j with
  | zero => intro r c f; exact ⟨by simp [kpL, biL], fun _ _ => rfl, rfl⟩
  | succ j ih =>
    intro r c f
    simp only [kpL, biL]
    by_cases q : andI (shrI v r) 1 = 1
    · rw [if_pos q, if_pos q]
      obtain ⟨i1, i2, i3⟩ := ih (r + 1) (c + 1) (va_up f c r)
      rw [show (((c + 1 : Nat)) : Int) = (c : Int) + 1 by omega] at i1 i2 i3
      rw [Int.toNat_natCast]
      refine ⟨by rw [i1, List.length_cons]; omega, ?_, ?_⟩
      · intro i hi; rw [i2 i (by omega), vu_n (by omega)]
      · rw [List.length_cons]
        simp only [frF]
        rw [i3, i2 c (by omega), vu_e]
    · rw [if_neg q, if_neg q]
      exact ih (r + 1) c f
theorem rv_fr {f : Nat → Int} : ∀ (k i : Nat), rvF f (i + k) = (frF f i k).foldl (fun l r => r :: l) (rvF f i) := by
  intro k
  induction k with
  | zero => intro i; rfl
  | succ k ih =>
    intro i
    simp only [frF, List.foldl_cons]
    rw [show i + (k + 1) = i + 1 + k by omega, ih (i + 1)]
    rfl
theorem insB_m {p : Int → Int → Bool} {r x : Int} : ∀ l : List Int, x ∈ insB p r l → x = r ∨ x ∈ l := by
  intro l
  induction l with
  | nil => intro h; exact Or.inl (List.mem_singleton.mp h)
  | cons s l ih =>
    intro h
    simp only [insB] at h
    split at h
    · rcases List.mem_cons.mp h with h | h
      · exact Or.inr (by simp [h])
      · rcases ih h with h | h
        · exact Or.inl h
        · exact Or.inr (by simp [h])
    · rcases List.mem_cons.mp h with h | h
      · exact Or.inl h
      · exact Or.inr h
theorem insB_c {p q : Int → Int → Bool} {r : Int} : ∀ l : List Int, (∀ s ∈ l, p r s = q r s) → insB p r l = insB q r l := by
  intro l
  induction l with
  | nil => intro _; rfl
  | cons s l ih =>
    intro h
    simp only [insB]
    rw [h s (by simp), ih (fun x hx => h x (by simp [hx]))]
theorem insB_f {p : Int → Int → Bool} {r : Int} : ∀ l : List Int, (∀ s ∈ l, p r s = false) → insB p r l = r :: l := by
  intro l
  cases l with
  | nil => intro _; rfl
  | cons s l => intro h; simp only [insB]; rw [h s (by simp), if_neg (by simp)]
theorem biL_m {v : Int} : ∀ (j : Nat) (r x : Int), x ∈ biL v j r → r ≤ x ∧ x < r + j ∧ andI (shrI v x) 1 = 1 := by
  intro j
  induction j with
  | zero => intro r x h; simp only [biL] at h; cases h
  | succ j ih =>
    intro r x h
    simp only [biL] at h
    split at h
    · rcases List.mem_cons.mp h with h | h
      · subst h; rename_i q; exact ⟨by omega, by omega, q⟩
      · have := ih (r + 1) x h; exact ⟨by omega, by omega, this.2.2⟩
    · have := ih (r + 1) x h; exact ⟨by omega, by omega, this.2.2⟩
theorem inB_c {p q : Int → Int → Bool} {v : Int} : ∀ (j : Nat) (r : Int) (L : List Int), (∀ s ∈ L, s < r) → (∀ a b : Int, b < a → (a ∈ biL v j r) → (b ∈ L ∨ b ∈ biL v j r) → p a b = q a b) → inB p L (biL v j r) = inB q L (biL v j r) := by
  intro j
  induction j with
  | zero => intro r L _ _; rfl
  | succ j ih =>
    intro r L hL h
    simp only [biL] at h ⊢
    by_cases c : andI (shrI v r) 1 = 1
    · rw [if_pos c] at h ⊢
      have e : insB p r L = insB q r L := insB_c L (fun s hs => h r s (hL s hs) (by simp) (Or.inl hs))
      show inB p (insB p r L) (biL v j (r + 1)) = inB q (insB q r L) (biL v j (r + 1))
      rw [← e]
      refine ih (r + 1) (insB p r L) ?_ ?_
      · intro s hs
        rcases insB_m L hs with hs | hs
        · omega
        · have := hL s hs; omega
      · intro a b hab ha hb
        refine h a b hab (by simp [ha]) ?_
        rcases hb with hb | hb
        · rcases insB_m L hb with hb | hb
          · exact Or.inr (by simp [hb])
          · exact Or.inl hb
        · exact Or.inr (by simp [hb])
    · rw [if_neg c] at h ⊢
      exact ih (r + 1) L (fun s hs => by have := hL s hs; omega) h
theorem inB_f : ∀ (R L : List Int), inB (fun _ _ => false) L R = R.foldl (fun l r => r :: l) L := by
  intro R
  induction R with
  | nil => intro L; rfl
  | cons r R ih =>
    intro L
    show inB (fun _ _ => false) (insB (fun _ _ => false) r L) R = R.foldl (fun l r => r :: l) (r :: L)
    rw [insB_f L (fun _ _ => rfl)]
    exact ih _
/-- WORDS of two TEXTS side by side -/
theorem icmp_s {a b : Nat} : icmp ((a + 1 : Nat) : Int) ((b + 1 : Nat) : Int) = icmp a b := by
  unfold icmp; (repeat' split) <;> omega
theorem cwL_I {ca : Nat → Int} {xT yT : Int} : ∀ (k : Nat) (x y : Int), 0 ≤ x → 0 ≤ y → (x < xT → isLw (ca x.toNat) false = true) → (y < yT → isLw (ca y.toNat) false = true) → (xT - x).toNat < k → cwL ca xT yT k x y = icL (wsC [] ca false x xT) (wsC [] ca false y yT) := by
  intro k
  induction k with
  | zero => intro x y _ _ _ _ h; omega
  | succ k ih =>
    intro x y h0 h1 hx hy hk
    simp only [cwL]
    by_cases c1 : x < xT
    · obtain ⟨w1, w2, w3, w4, w5, w6⟩ := ws_cons h0 c1 (hx c1)
      by_cases c2 : y < yT
      · obtain ⟨v1, v2, v3, v4, v5, v6⟩ := ws_cons h1 c2 (hy c2)
        rw [if_pos ⟨c1, c2⟩, cmM_W (by omega) (by omega), w1, v1]
        unfold icL
        rw [List.length_cons, List.length_cons, icmp_s]
        simp only [caW]
        rw [ih _ _ (by omega) (by omega) w6 v6 (by omega)]
        rfl
      · rw [if_neg (fun q => c2 q.2), if_pos c1, w1, wsC_end (x := y) (by omega)]
        unfold icL
        show 1 = icmp _ _
        unfold icmp
        rw [show (wsE ([], [])).length = 0 from rfl, List.length_cons, if_neg (by omega), if_neg (by omega)]
    · rw [if_neg (fun q => c1 q.1), if_neg c1, wsC_end (x := x) (by omega)]
      by_cases c2 : y < yT
      · obtain ⟨v1, v2, v3, v4, v5, v6⟩ := ws_cons h1 c2 (hy c2)
        rw [if_pos c2, v1]
        unfold icL
        show -1 = icmp _ _
        unfold icmp
        rw [show (wsE ([], [])).length = 0 from rfl, List.length_cons, if_pos (by omega)]
      · rw [if_neg c2, wsC_end (x := y) (by omega)]
        rfl
theorem cwA_I {ca : Nat → Int} {s t : Int × Int} (hs : 0 ≤ s.1 ∧ s.2 - s.1 ≤ 900) (ht : 0 ≤ t.1) : cwA ca s t = icL (wsF ca false s.1 s.2) (wsF ca false t.1 t.2) := by
  obtain ⟨a1, a2, a3, a4⟩ := wsC_bg (f := ca) (b := false) (y := s.2) (s.2 - s.1).toNat s.1 hs.1 rfl
  obtain ⟨b1, b2, b3, b4⟩ := wsC_bg (f := ca) (b := false) (y := t.2) (t.2 - t.1).toNat t.1 ht rfl
  unfold cwA
  rw [cwL_I 1000 (bgM ca false s.1 s.2) (bgM ca false t.1 t.2) (by unfold bgM; omega) (by unfold bgM; omega) a3 b3 (by unfold bgM; omega)]
  rw [wsF_C, wsF_C, ← a1, ← b1]
  rfl
theorem txL_F {ti ts te tl : Nat → Int} {tc ix : Int} : ∀ (k : Nat) (i : Int), (txFst ti tc ix k i = -1 ∧ txL ti ts te tl tc ix k i = [] ∨ txFst ti tc ix k i ≠ -1 ∧ ∃ l, txL ti ts te tl tc ix k i = (txSt ts te tl tc (txFst ti tc ix k i) ix, txEn te tc (txFst ti tc ix k i)) :: l) := by
  intro k
  induction k with
  | zero => intro i; exact Or.inl ⟨rfl, rfl⟩
  | succ k ih =>
    intro i
    simp only [txFst, txL]
    by_cases c : txIn ti tc i ix = true
    · have := txIn_r c
      rw [if_pos c, if_pos c]; exact Or.inr ⟨by omega, _, rfl⟩
    · rw [if_neg c, if_neg c]; exact ih (i + 1)
theorem hkM_D {ca : Nat → Int} {r : Int} {d : HD} (h : RD ca r d) (hk : ∀ j, d.te j ≤ d.n) {si : Int} : hkM ca si r = decide (kyD si d ≠ -1) := by
  unfold hkM kyD kyF
  by_cases c : si = 4
  · rw [if_pos c, if_pos c, dtM_F h hk]
    have hd : 0 ≤ dateF d.t d.n d.ti d.ts d.te d.tc ∨ dateF d.t d.n d.ti d.ts d.te d.tc = -1 := by
      obtain ⟨base, fd, sf, h1, h2, h3, h4, h5, h6, h7, h8, h9, h10⟩ := h
      have := dateF_r (t := d.t) (n := d.n) (ti := d.ti) (ts := d.ts) (te := d.te) (tc := d.tc) (fun j => by have := h10 j; omega)
      omega
    rcases hd with hd | hd
    · rw [decide_eq_true hd, decide_eq_true (by omega)]
    · rw [hd]; rfl
  · rw [if_neg c, if_neg c, (h.tx_ si).1, List.length_map]
    unfold txs
    rcases txL_F (ti := d.ti) (ts := d.ts) (te := d.te) (tl := d.tl) (tc := d.tc) (ix := si) d.tc.toNat 0 with ⟨e1, e2⟩ | ⟨e1, l, e2⟩
    · rw [e1, e2]; rfl
    · rw [e2, decide_eq_true e1, List.length_cons, decide_eq_true (by omega)]
theorem ctM_D {ca : Nat → Int} {a b : Int} {da db : HD} (ha : RD ca a da) (ka : ∀ j, da.te j ≤ da.n) (hb : RD ca b db) (kb : ∀ j, db.te j ≤ db.n) {si : Int} (h1 : kyD si da ≠ -1) (h2 : kyD si db ≠ -1) : (ctM ca si a b < 0 ↔ scO si da db < 0) ∧ (0 < ctM ca si a b ↔ 0 < scO si da db) ∧ (ctM ca si a b = 0 ↔ scO si da db = 0) := by
  unfold ctM scO
  by_cases c : si = 4
  · rw [if_pos c, if_pos c, dtM_F ha ka, dtM_F hb kb]
    unfold kyD kyF icmp
    rw [if_pos c, if_pos c]
    refine ⟨?_, ?_, ?_⟩ <;> ((repeat' split) <;> omega)
  · rw [if_neg c, if_neg c, (ha.tx_ si).1, (hb.tx_ si).1]
    unfold kyD kyF at h1 h2
    rw [if_neg c] at h1 h2
    have qa : ∃ l, txs da si = (txSt da.ts da.te da.tl da.tc (kyD si da) si, txEn da.te da.tc (kyD si da)) :: l := by
      unfold txs kyD kyF
      rw [if_neg c]
      rcases txL_F (ti := da.ti) (ts := da.ts) (te := da.te) (tl := da.tl) (tc := da.tc) (ix := si) da.tc.toNat 0 with ⟨e1, e2⟩ | ⟨e1, l, e2⟩
      · exact absurd e1 h1
      · exact ⟨l, e2⟩
    have qb : ∃ l, txs db si = (txSt db.ts db.te db.tl db.tc (kyD si db) si, txEn db.te db.tc (kyD si db)) :: l := by
      unfold txs kyD kyF
      rw [if_neg c]
      rcases txL_F (ti := db.ti) (ts := db.ts) (te := db.te) (tl := db.tl) (tc := db.tc) (ix := si) db.tc.toNat 0 with ⟨e1, e2⟩ | ⟨e1, l, e2⟩
      · exact absurd e1 h2
      · exact ⟨l, e2⟩
    obtain ⟨la, ea⟩ := qa
    obtain ⟨lb, eb⟩ := qb
    obtain ⟨pa, epa⟩ : ∃ p, p = (txSt da.ts da.te da.tl da.tc (kyD si da) si, txEn da.te da.tc (kyD si da)) := ⟨_, rfl⟩
    obtain ⟨pb, epb⟩ : ∃ p, p = (txSt db.ts db.te db.tl db.tc (kyD si db) si, txEn db.te db.tc (kyD si db)) := ⟨_, rfl⟩
    rw [← epa] at ea
    rw [← epb] at eb
    have ia := ha.in_ ka (ix := si) (q := pa) (by rw [ea]; simp)
    have ib := hb.in_ kb (ix := si) (q := pb) (by rw [eb]; simp)
    have ra := ha.r9
    have rb := hb.r9
    have na := ha.at_.2
    have nb := hb.at_.2
    rw [ea, eb, List.map_cons, List.map_cons, show (shF (400 * a) pa :: la.map (shF (400 * a))).getD 0 (0, 0) = shF (400 * a) pa from rfl, show (shF (400 * b) pb :: lb.map (shF (400 * b))).getD 0 (0, 0) = shF (400 * b) pb from rfl]
    have e : cwA ca (shF (400 * a) pa) (shF (400 * b) pb) = icL (txW da si (kyD si da)) (txW db si (kyD si db)) := by
      rw [cwA_I (by unfold shF; dsimp only; omega) (by unfold shF; dsimp only; omega)]
      have ta := tw_C ha ia
      have tb := tw_C hb ib
      rw [spW_F (by omega) (by omega)] at ta tb
      unfold shF
      dsimp only
      rw [ta, tb, epa, epb]
      rfl
    rw [e]
    exact ⟨Iff.rfl, Iff.rfl, Iff.rfl⟩
theorem ibM_D {ca : Nat → Int} {a b : Int} {da db : HD} {hd : Nat → Option HD} (ea : hd a.toNat = some da) (eb : hd b.toNat = some db) (ha : RD ca a da) (ka : ∀ j, da.te j ≤ da.n) (hb : RD ca b db) (kb : ∀ j, db.te j ≤ db.n) {si : Int} {dn : Bool} (h0 : 0 ≤ si) (hab : b < a) : ibM ca si dn a b = decide (cmR hd si dn a b < 0) := by
  have ec : cmR hd si dn a b = scF si dn da db := by unfold cmR; rw [ea, eb]
  unfold ibM
  rw [ec, if_neg (by omega), hkM_D ha ka, hkM_D hb kb]
  by_cases h1 : kyD si da = -1
  · have e1 : decide (kyD si da ≠ -1) = false := decide_eq_false (fun q => q h1)
    by_cases h2 : kyD si db = -1
    · have e2 : decide (kyD si db ≠ -1) = false := decide_eq_false (fun q => q h2)
      have es : scF si dn da db = 0 := by unfold scF; rw [if_pos (Or.inl h1), if_pos (by rw [h1, h2])]
      rw [e1, e2, es, if_pos rfl, if_neg (show ¬ (false : Bool) = true by decide)]
      unfold ibC
      rw [if_pos rfl, decide_eq_false (show ¬ a < b by omega)]
      rfl
    · have e2 : decide (kyD si db ≠ -1) = true := decide_eq_true h2
      have es : scF si dn da db = 1 := by unfold scF; rw [if_pos (Or.inl h1), if_neg (by omega), if_pos h1]
      rw [e1, e2, es, if_neg (by decide)]
      rfl
  · have e1 : decide (kyD si da ≠ -1) = true := decide_eq_true h1
    by_cases h2 : kyD si db = -1
    · have e2 : decide (kyD si db ≠ -1) = false := decide_eq_false (fun q => q h2)
      have es : scF si dn da db = -1 := by unfold scF; rw [if_pos (Or.inr h2), if_neg (by omega), if_neg h1]
      rw [e1, e2, es, if_neg (by decide)]
      rfl
    · have e2 : decide (kyD si db ≠ -1) = true := decide_eq_true h2
      have es : scF si dn da db = if dn = true then - scO si da db else scO si da db := by unfold scF; rw [if_neg (fun q => q.elim h1 h2)]
      rw [e1, e2, es, if_pos rfl, if_pos rfl]
      obtain ⟨t1, t2, t3⟩ := ctM_D ha ka hb kb (si := si) h1 h2
      generalize ctM ca si a b = C at *
      generalize scO si da db = S at *
      unfold ibC
      by_cases q : C = 0
      · have qs := t3.mp q
        rw [if_pos q, qs, decide_eq_false (show ¬ a < b by omega)]
        cases dn <;> rfl
      · rw [if_neg q]
        cases dn
        · exact decide_eq_decide.mpr t1
        · exact decide_eq_decide.mpr (by show 0 < C ↔ - S < 0; omega)
def soF (hd : Nat → Option HD) (si : Int) (dn : Bool) (u : Int × (Nat → Int)) : Int × (Nat → Int) := if si = -1 then u else (u.1, soA (cmR hd si dn) u.1 u.2)
theorem foM_F {ca le : Nat → Int} {hd : Nat → Option HD} (h : SR ca le hd) {si : Int} {dn : Bool} {v : Int} {f g : Nat → Int} (hsi : -1 ≤ si) (hv : ∀ r : Int, 0 ≤ r → r ≤ 9 → andI (shrI v r) 1 = 1 → 0 < le r.toNat) : (foM ca si dn v f).1 = (soF hd si dn (kpM v g)).1 ∧ ∀ j : Nat, (j : Int) < (foM ca si dn v f).1 → (foM ca si dn v f).2 j = (soF hd si dn (kpM v g)).2 j := by
  obtain ⟨f1, f2⟩ := foL_B (bf := ibM ca si dn) (v := v) 10 0 0 f
  obtain ⟨k1, k2, k3⟩ := kpL_B (v := v) 10 0 0 g
  have ef : foM ca si dn v f = foL (ibM ca si dn) v 10 0 (((0 : Nat) : Int), f) := rfl
  have ek : kpM v g = kpL v 10 0 (((0 : Nat) : Int), g) := rfl
  rw [← ef, Nat.zero_add] at f2
  rw [← ef] at f1
  rw [← ek] at k1 k3
  have e1 : (soF hd si dn (kpM v g)).1 = (kpM v g).1 := by unfold soF; split <;> rfl
  refine ⟨by rw [e1]; omega, ?_⟩
  intro j hj
  refine rvF_i (biL v 10 0).length ?_ j (by omega)
  rw [f2]
  have hk : rvF (kpM v g).2 (biL v 10 0).length = (biL v 10 0).foldl (fun l r => r :: l) [] := by
    have := rv_fr (f := (kpM v g).2) (biL v 10 0).length 0
    rw [k3, Nat.zero_add] at this
    exact this
  unfold soF
  by_cases c : si = -1
  · rw [if_pos c, hk]
    rw [inB_c (p := ibM ca si dn) (q := fun _ _ => false) 10 0 (rvF f 0) (fun s hs => by cases hs) (fun a b hab _ _ => by
      unfold ibM; rw [if_pos (by omega)]; exact decide_eq_false (by omega))]
    exact inB_f _ _
  · rw [if_neg c]
    dsimp only
    have hs : rvF (soA (cmR hd si dn) (kpM v g).1 (kpM v g).2) (biL v 10 0).length = inB (fun a b => decide (cmR hd si dn a b < 0)) [] (biL v 10 0) := by
      unfold soA
      rw [k1]
      generalize hL : biL v 10 0 = L at *
      cases L with
      | nil => rfl
      | cons r L =>
        have hs := soS_B (cf := cmR hd si dn) L.length 1 (kpM v g).2
        rw [List.length_cons] at k3 ⊢
        simp only [frF] at k3
        obtain ⟨q1, q2⟩ := List.cons.inj k3
        rw [show (((0 : Nat) : Int) + ((L.length + 1 : Nat) : Int) - 1).toNat = L.length by omega, show L.length + 1 = 1 + L.length by omega]
        rw [q2] at hs
        rw [show rvF (kpM v g).2 1 = [r] by simp only [rvF]; rw [q1]] at hs
        exact hs
    rw [hs]
    refine inB_c 10 0 (rvF f 0) (fun s hs => by cases hs) ?_
    intro a b hab ha hb
    have hb : b ∈ biL v 10 0 := hb.elim (fun q => by cases q) id
    obtain ⟨a1, a2, a3⟩ := biL_m 10 0 a ha
    obtain ⟨b1, b2, b3⟩ := biL_m 10 0 b hb
    have la := hv a a1 (by omega) a3
    have lb := hv b b1 (by omega) b3
    rcases h a a1 (by omega) with ⟨_, e2⟩ | ⟨da, x1, x2, x3, x4, x5, _⟩
    · omega
    · rcases h b b1 (by omega) with ⟨_, e2⟩ | ⟨db, y1, y2, y3, y4, y5, _⟩
      · omega
      · exact ibM_D x1 y1 x4 x5.2 y4 y5.2 (by omega) hab

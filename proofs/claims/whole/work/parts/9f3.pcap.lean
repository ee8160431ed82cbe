def CBu (u : LxS) (a b : Int) : Prop := u.xk ≤ 4000 ∧ u.xn ≤ 9500 ∧ 2 * (u.ws.length : Int) ≤ a ∧ u.xc ≤ b
theorem CBu.mono {u : LxS} {a b a2 b2 : Int} (h : CBu u a b) (h1 : a ≤ a2) (h2 : b ≤ b2) : CBu u a2 b2 := by
  obtain ⟨k1, k2, k3, k4⟩ := h
  exact ⟨k1, k2, by omega, by omega⟩
theorem insA_l {α : Type} {xs : List α} {k : Nat} {x : α} : (insA xs k x).length = xs.length + 1 := by
  rw [List.length_append, List.length_cons, List.length_take, List.length_drop]; omega
theorem lxI_cb {u : LxS} {a b : Int} {w : List Int} (h : CBu u a b) (hw : w.length ≤ 400) (ha : a ≤ 4000) (hb : b + w.length ≤ 4000) : CBu (lxI u w) (a + 2) (b + w.length) := by
  obtain ⟨k1, k2, k3, k4⟩ := h
  unfold lxI
  split
  · exact ⟨k1, k2, by omega, by omega⟩
  · refine ⟨?_, ?_, ?_, ?_⟩
    · show cpK u.xk u.ws.length ≤ 4000
      unfold cpK
      split
      · rename_i e
        have e : (u.ws.length : Int) = (u.xk : Int) := e
        omega
      · exact k1
    · show rmN u.xn u.xc w.length ≤ 9500
      unfold rmN
      split
      · rename_i e
        have e : (u.xn : Int) < u.xc + (w.length : Int) := e
        omega
      · exact k2
    · show 2 * ((insA u.ws (plW u.ws w).toNat w).length : Int) ≤ a + 2
      rw [insA_l]
      omega
    · show u.xc + (w.length : Int) ≤ b + w.length
      omega
theorem lxA_cb {m : Int} {u : LxS} {a b : Int} {w : List Int} (h : CBu u a b) (hw : w.length ≤ 400) (ha : a ≤ 4000) (hb : b + w.length ≤ 4000) : CBu (lxA m u w) (a + 2) (b + w.length) := lxI_cb h hw ha hb
theorem lxW_cb {m : Int} : ∀ (wl : List (List Int)) (u : LxS) (a b : Int), CBu u a b → smL wl ≤ 400 → a + 2 * (wl.length : Int) ≤ 4000 → b + smL wl ≤ 4000 → CBu (lxW m u wl) (a + 2 * (wl.length : Int)) (b + smL wl) := by
  intro wl
  induction wl with
  | nil =>
    intro u a b h _ _ _
    show CBu u _ _
    exact h.mono (by simp only [List.length_nil]; omega) (by simp only [smL]; omega)
  | cons w wl ih =>
    intro u a b h h1 h2 h3
    simp only [smL, List.length_cons] at h1 h2 h3
    have hn := smL_nn wl
    have hA := lxA_cb (m := m) (w := w) h (by omega) (by omega) (by omega)
    have := ih (lxA m u w) (a + 2) (b + w.length) hA (by omega) (by omega) (by omega)
    show CBu (lxW m (lxA m u w) wl) _ _
    exact this.mono (by simp only [List.length_cons]; omega) (by simp only [smL]; omega)
theorem rbT_cb {m : Int} {t : Nat → Int} : ∀ (tx : List (Int × Int)) (u : LxS) (a b : Int), LB tx 0 400 → CBu u a b → a + tsum tx ≤ 4000 → b + tsum tx ≤ 4000 → CBu (rbT m t tx u) (a + tsum tx) (b + tsum tx) := by
  intro tx
  induction tx with
  | nil =>
    intro u a b _ h _ _
    show CBu u _ _
    exact h.mono (by simp only [tsum]; omega) (by simp only [tsum]; omega)
  | cons q tx ih =>
    intro u a b hl h h1 h2
    simp only [tsum] at h1 h2
    have hq := hl q List.mem_cons_self
    have hl2 : LB tx 0 400 := fun z hz => hl z (List.mem_cons_of_mem _ hz)
    have hn := tsum_nn tx hl2
    have hw : smL (twF t q) ≤ q.2 - q.1 ∧ 2 * ((twF t q).length : Int) ≤ q.2 - q.1 + 1 := wsF_b (by omega)
    have hA := lxW_cb (m := m) (twF t q) u a b h (by omega) (by omega) (by omega)
    have := ih (lxW m u (twF t q)) (a + (q.2 - q.1 + 1)) (b + (q.2 - q.1 + 1)) hl2 (hA.mono (by omega) (by omega)) (by omega) (by omega)
    show CBu (rbT m t tx (lxW m u (twF t q))) _ _
    exact this.mono (by simp only [tsum]; omega) (by simp only [tsum]; omega)
theorem rbO_cb {o : Option HD} (ho : ∀ d, o = some d → HDt d) {m ix : Int} {u : LxS} {a b : Int} (h : CBu u a b) (h1 : a + 400 ≤ 4000) (h2 : b + 400 ≤ 4000) : CBu (rbO o m ix 0 u) (a + 400) (b + 400) := by
  cases o with
  | none => exact h.mono (by omega) (by omega)
  | some d =>
    obtain ⟨t1, t2⟩ := ho d rfl ix
    unfold txs at t1 t2
    show CBu (rbT m d.t (txL d.ti d.ts d.te d.tl d.tc ix (d.tc - 0).toNat 0) u) _ _
    rw [Int.sub_zero]
    exact (rbT_cb _ u a b t2 h (by omega) (by omega)).mono (by omega) (by omega)
theorem rbL_cb {sv : Nat → Option HD} (hH : ∀ (r : Nat) (d : HD), sv r = some d → HDt d) {ix : Int} : ∀ (k : Nat) (r : Int) (u : LxS) (a b : Int), CBu u a b → a + 400 * (k : Int) ≤ 4000 → b + 400 * (k : Int) ≤ 4000 → CBu (rbL sv ix k r u) (a + 400 * (k : Int)) (b + 400 * (k : Int)) := by
  intro k
  induction k with
  | zero => intro r u a b h _ _; exact h.mono (by omega) (by omega)
  | succ k ih =>
    intro r u a b h h1 h2
    simp only [rbL]
    have := ih (r + 1) _ (a + 400) (b + 400) (rbO_cb (o := sv r.toNat) (fun d q => hH r.toNat d q) (m := shlI 1 r) (ix := ix) h (by omega) (by omega)) (by omega) (by omega)
    exact this.mono (by omega) (by omega)
theorem rbM_cap {sv : Nat → Option HD} (hH : ∀ (r : Nat) (d : HD), sv r = some d → HDok d ∧ HDt d) {ix : Int} {xn xk : Nat} (hk : xk ≤ 4000) (hn : xn ≤ 9500) : (rbM sv ix xn xk).xk ≤ 4000 ∧ (rbM sv ix xn xk).xn ≤ 9500 := by
  have h := rbL_cb (sv := sv) (fun r d q => (hH r d q).2) (ix := ix) 10 0 (LxS.mk [] [] xn xk 0) 0 0 ⟨hk, hn, by show 2 * ((0 : Nat) : Int) ≤ 0; omega, by show (0 : Int) ≤ 0; omega⟩ (by omega) (by omega)
  exact ⟨h.1, h.2.1⟩
theorem gr_cap {sv : Nat → Option HD} (hH : ∀ (r : Nat) (d : HD), sv r = some d → HDok d ∧ HDt d) {ix : Int} {xn xk : Nat} {xst : Bool} (hk : xk ≤ 4000) (hn : xn ≤ 9500) : xk + (if xst = true then (rbM sv ix xn xk).xk - xk else 0) ≤ 4000 ∧ xn + (if xst = true then (rbM sv ix xn xk).xn - xn else 0) ≤ 9500 := by
  have := rbM_cap hH (ix := ix) hk hn
  split <;> omega
theorem SR.zero {ca le : Nat → Int} {hd : Nat → Option HD} (h : SR ca le hd) {r : Int} (hr : 0 ≤ r ∧ r ≤ 9) (hn : hd r.toNat = none) : le r.toNat = 0 := by
  rcases h r hr.1 hr.2 with ⟨_, e⟩ | ⟨d, e, _⟩
  · exact e
  · rw [hn] at e; cases e
theorem SR.pos {ca le : Nat → Int} {hd : Nat → Option HD} (h : SR ca le hd) {r : Int} (hr : 0 ≤ r ∧ r ≤ 9) {d : HD} (hn : hd r.toNat = some d) : 0 < le r.toNat := by
  rcases h r hr.1 hr.2 with ⟨e, _⟩ | ⟨d2, _, e2, e3, _⟩
  · rw [hn] at e; cases e
  · omega
theorem hd_up {P : HD → Prop} {hd : Nat → Option HD} (h : ∀ (r : Nat) (d : HD), hd r = some d → P d) {k : Nat} {d0 : HD} (h0 : P d0) : ∀ (r : Nat) (d : HD), va_up hd k (some d0) r = some d → P d := by
  intro r d hr
  by_cases e : r = k
  · rw [e, vu_e] at hr; cases hr; exact h0
  · rw [vu_n e] at hr; exact h r d hr
theorem hd_dn {hd : Nat → Option HD} {k : Nat} (r : Nat) (d : HD) (hr : va_up hd k none r = some d) : hd r = some d := by
  by_cases e : r = k
  · rw [e, vu_e] at hr; cases hr
  · rw [vu_n e] at hr; exact hr
theorem SR.ok_ {ca le : Nat → Int} {hd : Nat → Option HD} (h : SR ca le hd) {r : Int} (hr : 0 ≤ r ∧ r ≤ 9) {d : HD} (hn : hd r.toNat = some d) : HDok d ∧ HDt d := by
  rcases h r hr.1 hr.2 with ⟨e, _⟩ | ⟨d2, e, e2, e3, e4, e5, e6⟩
  · rw [hn] at e; cases e
  · rw [hn] at e; cases e; exact ⟨e5, e6⟩
theorem lx_up {hd : Nat → Option HD} {xni xki : Nat → Nat} {xci xzi : Nat → Int} {xsi : Nat → Bool} {lxi bxi exi hxi : Nat → Nat → Int} (h : ∀ k : Nat, k < 6 → LXI hd k (xni k) (xki k) (xci k) (xzi k) (xsi k) (lxi k) (bxi k) (exi k) (hxi k)) {k0 n9 k9 : Nat} {c9 z9 : Int} {b9 : Bool} {f1 f2 f3 f4 : Nat → Int} (h0 : LXI hd k0 n9 k9 c9 z9 b9 f1 f2 f3 f4) : ∀ k : Nat, k < 6 → LXI hd k (va_up xni k0 n9 k) (va_up xki k0 k9 k) (va_up xci k0 c9 k) (va_up xzi k0 z9 k) (va_up xsi k0 b9 k) (va_up lxi k0 f1 k) (va_up bxi k0 f2 k) (va_up exi k0 f3 k) (va_up hxi k0 f4 k) := by
  intro k hk
  by_cases e : k = k0
  · subst e
    simp only [vu_e]
    exact h0
  · simp only [vu_n e]
    exact h k hk

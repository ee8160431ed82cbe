abbrev St4 : Type := (Nat → Int) × (Nat → Int) × (Nat → Int) × (Nat → Int) × Int
def aT (u : St4) (ix a b : Int) : St4 := (va_up u.1 u.2.2.2.2.toNat ix, va_up u.2.1 u.2.2.2.2.toNat a, va_up u.2.2.1 u.2.2.2.2.toNat b, u.2.2.2.1, u.2.2.2.2 + 1)
def lO (u : St4) (k : Int) : St4 := (u.1, u.2.1, u.2.2.1, va_up u.2.2.2.1 (u.2.2.2.2 - 1).toNat k, u.2.2.2.2)
def eT (u : St4) (k : Int) : St4 := (u.1, u.2.1, va_up u.2.2.1 (u.2.2.2.2 - 1).toNat k, u.2.2.2.1, u.2.2.2.2)
def rsS (t : Nat → Int) (tag st : Int) (u : St4) (x : Int) : St4 := if t x.toNat = 31 then (if t (x + 1).toNat = 97 ∧ isDig (t (st + 1).toNat) = true then lO (aT u (ixOf tag (t (x + 1).toNat)) (x + 2) (x + 2)) (t (st + 1).toNat - 48) else aT u (ixOf tag (t (x + 1).toNat)) (x + 2) (x + 2)) else eT u (x + 1)
def rsL (t : Nat → Int) (tag st : Int) : Nat → Int → St4 → St4
  | 0, _, u => u
  | k + 1, x, u => rsL t tag st k (x + 1) (rsS t tag st u x)
def mkC (t : Nat → Int) : Nat → Nat → Int
  | 0, _ => 0
  | k + 1, x => (if t x = 31 then 1 else 0) + mkC t k (x + 1)
theorem mkC_nn (t : Nat → Int) : ∀ (k x : Nat), 0 ≤ mkC t k x := by
  intro k
  induction k with
  | zero => intro x; simp [mkC]
  | succ k ih => intro x; simp only [mkC]; have := ih (x + 1); split <;> omega
theorem ixOf_r (tag cd : Int) : 0 ≤ ixOf tag cd ∧ ixOf tag cd ≤ 5 := by unfold ixOf; repeat (first | omega | split)
theorem up_r {f : Nat → Int} {lo hi : Int} {k : Nat} {v : Int} (h : ∀ j, lo ≤ f j ∧ f j ≤ hi) (hv : lo ≤ v ∧ v ≤ hi) : ∀ j, lo ≤ va_up f k v j ∧ va_up f k v j ≤ hi := by
  intro j; unfold va_up; split
  · exact hv
  · exact h j
def HRu (n mx : Nat) (t : Nat → Int) (u : St4) : Prop := HR n mx t u.1 u.2.1 u.2.2.1 u.2.2.2.1 u.2.2.2.2
theorem HR_aT {n mx : Nat} {t : Nat → Int} {u : St4} {ix a b : Int} (h : HRu n mx t u) (hix : 0 ≤ ix ∧ ix ≤ 5) (ha : 0 ≤ a ∧ a ≤ 1000) (hb : 0 ≤ b ∧ b ≤ 1000) (hr : u.2.2.2.2 < mx) : HRu n mx t (aT u ix a b) := by
  obtain ⟨h1, h2, h3, h4, h5, h6, h7, h8⟩ := h
  refine ⟨h1, h2, ?_, h4, up_r h5 hix, up_r h6 ha, up_r h7 hb, h8⟩
  show 0 ≤ u.2.2.2.2 + 1 ∧ u.2.2.2.2 + 1 ≤ mx
  omega
theorem HR_lO {n mx : Nat} {t : Nat → Int} {u : St4} {k : Int} (h : HRu n mx t u) (hk : 0 ≤ k ∧ k ≤ 9) : HRu n mx t (lO u k) := by
  obtain ⟨h1, h2, h3, h4, h5, h6, h7, h8⟩ := h
  exact ⟨h1, h2, h3, h4, h5, h6, h7, up_r h8 hk⟩
theorem HR_eT {n mx : Nat} {t : Nat → Int} {u : St4} {k : Int} (h : HRu n mx t u) (hk : 0 ≤ k ∧ k ≤ 1000) : HRu n mx t (eT u k) := by
  obtain ⟨h1, h2, h3, h4, h5, h6, h7, h8⟩ := h
  exact ⟨h1, h2, h3, h4, h5, h6, up_r h7 hk, h8⟩
theorem mkC_add (t : Nat → Int) : ∀ (a b x : Nat), mkC t (a + b) x = mkC t a x + mkC t b (x + a) := by
  intro a
  induction a with
  | zero => intro b x; simp [mkC]
  | succ a ih => intro b x; rw [show a + 1 + b = (a + b) + 1 by omega]; simp only [mkC]; rw [ih b (x + 1), show x + 1 + a = x + (a + 1) by omega]; omega
theorem mkC_split (t : Nat → Int) {a b n : Nat} (h : a ≤ b) (h2 : b ≤ n) : mkC t (n - a) a = mkC t (b - a) a + mkC t (n - b) b := by
  have := mkC_add t (b - a) (n - b) a
  rw [show b - a + (n - b) = n - a by omega, show a + (b - a) = b by omega] at this
  exact this
theorem mkC_mono (t : Nat → Int) {a a2 b2 b : Nat} (h : a ≤ a2) (h1 : a2 ≤ b2) (h2 : b2 ≤ b) : mkC t (b2 - a2) a2 ≤ mkC t (b - a) a := by
  have e1 := mkC_split t (a := a) (b := a2) (n := b) h (by omega)
  have e2 := mkC_split t (a := a2) (b := b2) (n := b) h1 h2
  have e3 := mkC_nn t (a2 - a) a
  have e4 := mkC_nn t (b - b2) b2
  omega
/-- a RECORD without FAULT: where its fields begin -/
def RecOK (t : Nat → Int) (n : Nat) (base fd : Int) (sf : Int → Int) : Prop :=
  (0 ≤ fd ∧ fd ≤ 40 ∧ base + 1 ≤ n) ∧ base = 25 + 12 * fd ∧ sf 0 = base ∧ sf fd + 1 = n ∧ ∀ e : Int, 0 ≤ e → e < fd →
    (0 ≤ numAt t n (24 + e * 12) 3 ∧ numAt t n (24 + e * 12) 3 ≤ 999) ∧ base + numAt t n (24 + e * 12 + 7) 5 = sf e ∧ numAt t n (24 + e * 12 + 3) 4 = sf (e + 1) - sf e ∧ (base ≤ sf e ∧ sf e + 1 ≤ sf (e + 1) ∧ sf (e + 1) + 1 ≤ n) ∧ (numAt t n (24 + e * 12) 3 = 1 ↔ e = 0) ∧ (10 ≤ numAt t n (24 + e * 12) 3 → sf e + 4 < sf (e + 1) ∧ t (sf e + 2).toNat = 31)
def rtS (t : Nat → Int) (n : Nat) (sf : Int → Int) (u : St4) (e : Int) : St4 := if numAt t n (24 + e * 12) 3 = 1 then aT u 5 (sf e) (sf (e + 1) - 1) else if 10 ≤ numAt t n (24 + e * 12) 3 then rsL t (numAt t n (24 + e * 12) 3) (sf e) ((sf (e + 1) - 1) - (sf e + 2)).toNat (sf e + 2) u else u
def rtL (t : Nat → Int) (n : Nat) (sf : Int → Int) : Nat → Int → St4 → St4
  | 0, _, u => u
  | k + 1, e, u => rtL t n sf k (e + 1) (rtS t n sf u e)

theorem d_H_readSubfields_0 : decode b_H_readSubfields 0 = .ok (.iload_n 2, 1) := by decide +kernel
theorem d_H_readSubfields_1 : decode b_H_readSubfields 1 = .ok (.iconst 2, 1) := by decide +kernel
theorem d_H_readSubfields_2 : decode b_H_readSubfields 2 = .ok (.iadd, 1) := by decide +kernel
theorem d_H_readSubfields_3 : decode b_H_readSubfields 3 = .ok (.istore 4, 2) := by decide +kernel
theorem d_H_readSubfields_5 : decode b_H_readSubfields 5 = .ok (.iload 4, 2) := by decide +kernel
theorem d_H_readSubfields_7 : decode b_H_readSubfields 7 = .ok (.iload_n 3, 1) := by decide +kernel
theorem d_H_readSubfields_8 : decode b_H_readSubfields 8 = .ok (.if_icmp .ge 109, 3) := by decide +kernel
theorem d_H_readSubfields_11 : decode b_H_readSubfields 11 = .ok (.iload 4, 2) := by decide +kernel
theorem d_H_readSubfields_13 : decode b_H_readSubfields 13 = .ok (.iconst 1, 1) := by decide +kernel
theorem d_H_readSubfields_14 : decode b_H_readSubfields 14 = .ok (.iadd, 1) := by decide +kernel
theorem d_H_readSubfields_15 : decode b_H_readSubfields 15 = .ok (.aload_n 0, 1) := by decide +kernel
theorem d_H_readSubfields_16 : decode b_H_readSubfields 16 = .ok (.getfield 18, 3) := by decide +kernel
theorem d_H_readSubfields_19 : decode b_H_readSubfields 19 = .ok (.arraylength, 1) := by decide +kernel
theorem d_H_readSubfields_20 : decode b_H_readSubfields 20 = .ok (.if_icmp .ge 97, 3) := by decide +kernel
theorem d_H_readSubfields_23 : decode b_H_readSubfields 23 = .ok (.aload_n 0, 1) := by decide +kernel
theorem d_H_readSubfields_24 : decode b_H_readSubfields 24 = .ok (.getfield 18, 3) := by decide +kernel
theorem d_H_readSubfields_27 : decode b_H_readSubfields 27 = .ok (.iload 4, 2) := by decide +kernel
theorem d_H_readSubfields_29 : decode b_H_readSubfields 29 = .ok (.caload, 1) := by decide +kernel
theorem d_H_readSubfields_30 : decode b_H_readSubfields 30 = .ok (.bipush 31, 2) := by decide +kernel
theorem d_H_readSubfields_32 : decode b_H_readSubfields 32 = .ok (.if_icmp .ne 71, 3) := by decide +kernel
theorem d_H_readSubfields_35 : decode b_H_readSubfields 35 = .ok (.aload_n 0, 1) := by decide +kernel
theorem d_H_readSubfields_36 : decode b_H_readSubfields 36 = .ok (.getfield 18, 3) := by decide +kernel
theorem d_H_readSubfields_39 : decode b_H_readSubfields 39 = .ok (.iload 4, 2) := by decide +kernel
theorem d_H_readSubfields_41 : decode b_H_readSubfields 41 = .ok (.iconst 1, 1) := by decide +kernel
theorem d_H_readSubfields_42 : decode b_H_readSubfields 42 = .ok (.iadd, 1) := by decide +kernel
theorem d_H_readSubfields_43 : decode b_H_readSubfields 43 = .ok (.caload, 1) := by decide +kernel
theorem d_H_readSubfields_44 : decode b_H_readSubfields 44 = .ok (.istore 5, 2) := by decide +kernel
theorem d_H_readSubfields_46 : decode b_H_readSubfields 46 = .ok (.aload_n 0, 1) := by decide +kernel
theorem d_H_readSubfields_47 : decode b_H_readSubfields 47 = .ok (.iload_n 1, 1) := by decide +kernel
theorem d_H_readSubfields_48 : decode b_H_readSubfields 48 = .ok (.iload 5, 2) := by decide +kernel
theorem d_H_readSubfields_50 : decode b_H_readSubfields 50 = .ok (.invokestatic 66, 3) := by decide +kernel
theorem d_H_readSubfields_53 : decode b_H_readSubfields 53 = .ok (.iload 4, 2) := by decide +kernel
theorem d_H_readSubfields_55 : decode b_H_readSubfields 55 = .ok (.iconst 2, 1) := by decide +kernel
theorem d_H_readSubfields_56 : decode b_H_readSubfields 56 = .ok (.iadd, 1) := by decide +kernel
theorem d_H_readSubfields_57 : decode b_H_readSubfields 57 = .ok (.iload 4, 2) := by decide +kernel
theorem d_H_readSubfields_59 : decode b_H_readSubfields 59 = .ok (.iconst 2, 1) := by decide +kernel
theorem d_H_readSubfields_60 : decode b_H_readSubfields 60 = .ok (.iadd, 1) := by decide +kernel
theorem d_H_readSubfields_61 : decode b_H_readSubfields 61 = .ok (.invokevirtual 59, 3) := by decide +kernel
theorem d_H_readSubfields_64 : decode b_H_readSubfields 64 = .ok (.iload 5, 2) := by decide +kernel
theorem d_H_readSubfields_66 : decode b_H_readSubfields 66 = .ok (.bipush 97, 2) := by decide +kernel
theorem d_H_readSubfields_68 : decode b_H_readSubfields 68 = .ok (.if_icmp .ne 32, 3) := by decide +kernel
theorem d_H_readSubfields_71 : decode b_H_readSubfields 71 = .ok (.aload_n 0, 1) := by decide +kernel
theorem d_H_readSubfields_72 : decode b_H_readSubfields 72 = .ok (.getfield 18, 3) := by decide +kernel
theorem d_H_readSubfields_75 : decode b_H_readSubfields 75 = .ok (.iload_n 2, 1) := by decide +kernel
theorem d_H_readSubfields_76 : decode b_H_readSubfields 76 = .ok (.iconst 1, 1) := by decide +kernel
theorem d_H_readSubfields_77 : decode b_H_readSubfields 77 = .ok (.iadd, 1) := by decide +kernel
theorem d_H_readSubfields_78 : decode b_H_readSubfields 78 = .ok (.caload, 1) := by decide +kernel
theorem d_H_readSubfields_79 : decode b_H_readSubfields 79 = .ok (.invokestatic 70, 3) := by decide +kernel
theorem d_H_readSubfields_82 : decode b_H_readSubfields 82 = .ok (.ifCond .eq 18, 3) := by decide +kernel
theorem d_H_readSubfields_85 : decode b_H_readSubfields 85 = .ok (.aload_n 0, 1) := by decide +kernel
theorem d_H_readSubfields_86 : decode b_H_readSubfields 86 = .ok (.aload_n 0, 1) := by decide +kernel
theorem d_H_readSubfields_87 : decode b_H_readSubfields 87 = .ok (.getfield 18, 3) := by decide +kernel
theorem d_H_readSubfields_90 : decode b_H_readSubfields 90 = .ok (.iload_n 2, 1) := by decide +kernel
theorem d_H_readSubfields_91 : decode b_H_readSubfields 91 = .ok (.iconst 1, 1) := by decide +kernel
theorem d_H_readSubfields_92 : decode b_H_readSubfields 92 = .ok (.iadd, 1) := by decide +kernel
theorem d_H_readSubfields_93 : decode b_H_readSubfields 93 = .ok (.caload, 1) := by decide +kernel
theorem d_H_readSubfields_94 : decode b_H_readSubfields 94 = .ok (.bipush 48, 2) := by decide +kernel
theorem d_H_readSubfields_96 : decode b_H_readSubfields 96 = .ok (.isub, 1) := by decide +kernel
theorem d_H_readSubfields_97 : decode b_H_readSubfields 97 = .ok (.invokevirtual 74, 3) := by decide +kernel
theorem d_H_readSubfields_100 : decode b_H_readSubfields 100 = .ok (.goto 11, 3) := by decide +kernel
theorem d_H_readSubfields_103 : decode b_H_readSubfields 103 = .ok (.aload_n 0, 1) := by decide +kernel
theorem d_H_readSubfields_104 : decode b_H_readSubfields 104 = .ok (.iload 4, 2) := by decide +kernel
theorem d_H_readSubfields_106 : decode b_H_readSubfields 106 = .ok (.iconst 1, 1) := by decide +kernel
theorem d_H_readSubfields_107 : decode b_H_readSubfields 107 = .ok (.iadd, 1) := by decide +kernel
theorem d_H_readSubfields_108 : decode b_H_readSubfields 108 = .ok (.invokevirtual 77, 3) := by decide +kernel
theorem d_H_readSubfields_111 : decode b_H_readSubfields 111 = .ok (.iinc 4 1, 3) := by decide +kernel
theorem d_H_readSubfields_114 : decode b_H_readSubfields 114 = .ok (.goto (-109), 3) := by decide +kernel
theorem d_H_readSubfields_117 : decode b_H_readSubfields 117 = .ok (.return_, 1) := by decide +kernel
set_option maxHeartbeats 4000000 in
set_option maxRecDepth 100000 in
theorem c_H_readSubfields (l : Launch) (dC : Nat → ClassId) (dI : Nat → Nat → Nat) (kA : Nat → ClassId) (sz : Nat) (ho : Nat) (oc : Nat) (xi : Nat) (xs : Nat) (xe : Nat) (xl : Nat) (n : Nat) (mx : Nat) (fd : Int) (tc : Int) (t : Nat → Int) (ti : Nat → Int) (ts : Nat → Int) (te : Nat → Int) (tl : Nat → Int) (tag : Int) (st : Int) (en : Int) (hH : HR n mx t ti ts te tl tc) (htag : -2147483648 ≤ tag ∧ tag < 2147483648) (hst : 0 ≤ st ∧ st + 2 ≤ en ∧ en + 1 < n) (h31 : st + 2 < en → t (st + 2).toNat = 31) (hcap : tc + mkC t (en - (st + 2)).toNat (st + 2).toNat ≤ mx) : Met l y_H_readSubfields (wsy y_H_readSubfields b_H_readSubfields 6 none) (rmd 2 0 0) (li_Pr (dC, dI) CL (TY kA) [.ref ho, .int (iI tag), .int (iI st), .int (iI en)] (fun h => h.size = sz ∧ va_P (dC, dI) CL [(ho, .inr (2, [.ref oc, .int (iI fd), .ref xi, .ref xs, .ref xe, .ref xl, .int (iI tc)])), (oc, .inl (kA 1, n, .inl (aI t))), (xi, .inl (kA 0, mx, .inl (aI ti))), (xs, .inl (kA 0, mx, .inl (aI ts))), (xe, .inl (kA 0, mx, .inl (aI te))), (xl, .inl (kA 0, mx, .inl (aI tl)))] h ∧ va_D (fun q => dI 100 0 ≤ q) [(ho, .inr (2, [.ref oc, .int (iI fd), .ref xi, .ref xs, .ref xe, .ref xl, .int (iI tc)])), (oc, .inl (kA 1, n, .inl (aI t))), (xi, .inl (kA 0, mx, .inl (aI ti))), (xs, .inl (kA 0, mx, .inl (aI ts))), (xe, .inl (kA 0, mx, .inl (aI te))), (xl, .inl (kA 0, mx, .inl (aI tl)))] ∧ (fun _ => True) h)) (li_Qw (S := Unit) (dC, dI) CL (fun _ => HRu n mx t (rsL t tag st (en - (st + 2)).toNat (st + 2) (ti, ts, te, tl, tc)) ∧ (rsL t tag st (en - (st + 2)).toNat (st + 2) (ti, ts, te, tl, tc)).2.2.2.2 = tc + mkC t (en - (st + 2)).toNat (st + 2).toNat) (fun _ => none) (fun _ => [(ho, .inr (2, [.ref oc, .int (iI fd), .ref xi, .ref xs, .ref xe, .ref xl, .int (iI ((rsL t tag st (en - (st + 2)).toNat (st + 2) (ti, ts, te, tl, tc)).2.2.2.2))])), (oc, .inl (kA 1, n, .inl (aI t))), (xi, .inl (kA 0, mx, .inl (aI ((rsL t tag st (en - (st + 2)).toNat (st + 2) (ti, ts, te, tl, tc)).1)))), (xs, .inl (kA 0, mx, .inl (aI ((rsL t tag st (en - (st + 2)).toNat (st + 2) (ti, ts, te, tl, tc)).2.1)))), (xe, .inl (kA 0, mx, .inl (aI ((rsL t tag st (en - (st + 2)).toNat (st + 2) (ti, ts, te, tl, tc)).2.2.1)))), (xl, .inl (kA 0, mx, .inl (aI ((rsL t tag st (en - (st + 2)).toNat (st + 2) (ti, ts, te, tl, tc)).2.2.2.1))))]) (va_A [(ho, .inr (2, [.ref oc, .int (iI fd), .ref xi, .ref xs, .ref xe, .ref xl, .int (iI tc)])), (oc, .inl (kA 1, n, .inl (aI t))), (xi, .inl (kA 0, mx, .inl (aI ti))), (xs, .inl (kA 0, mx, .inl (aI ts))), (xe, .inl (kA 0, mx, .inl (aI te))), (xl, .inl (kA 0, mx, .inl (aI tl)))] sz)) 0 0 (va_A [(ho, .inr (2, [.ref oc, .int (iI fd), .ref xi, .ref xs, .ref xe, .ref xl, .int (iI tc)])), (oc, .inl (kA 1, n, .inl (aI t))), (xi, .inl (kA 0, mx, .inl (aI ti))), (xs, .inl (kA 0, mx, .inl (aI ts))), (xe, .inl (kA 0, mx, .inl (aI te))), (xl, .inl (kA 0, mx, .inl (aI tl)))] sz) := by
  refine li_mwv (by decide) (Nat.le_of_ble_eq_true rfl) ?_
  intro p e s m args below meth c Q A C hP hD hBx hK hN hG hA hAi hAN fin ls hl
  obtain ⟨hx, hb, hr, hml, hown, hts, hlocks, hin⟩ := C
  have hown : s.vm.findClass R_H = some m.cls := hown
  have hS : va_S A s.heap s.heap [] := va_S.rf
  have hl : lv_has ls 6 [(0, .ref ho), (1, .int (iI tag)), (2, .int (iI st)), (3, .int (iI en))] := hl
  obtain ⟨hn, hmx, htc, ht, hti, hxs, hxe, hxl⟩ := id hH
  have K_5 : ∀ (nn : Nat) (q : Int) (vi : Nat → Int) (vs : Nat → Int) (ve : Nat → Int) (vl : Nat → Int) (vc : Int), (st + 2 ≤ q ∧ q ≤ en) → (HR n mx t vi vs ve vl vc) → (vc + mkC t (en - q).toNat q.toNat ≤ mx) → (vc + mkC t (en - q).toNat q.toNat = tc + mkC t (en - (st + 2)).toNat (st + 2).toNat) → (q = st + 2 ∨ 0 < vc) → (rsL t tag st (en - q).toNat q (vi, vs, ve, vl, vc) = rsL t tag st (en - (st + 2)).toNat (st + 2) (ti, ts, te, tl, tc)) → ((en - q).toNat < nn) → ∀ (H : Heap) (locs : List Loc), va_P (dC, dI) CL [(ho, .inr (2, [.ref oc, .int (iI fd), .ref xi, .ref xs, .ref xe, .ref xl, .int (iI vc)])), (oc, .inl (kA 1, n, .inl (aI t))), (xi, .inl (kA 0, mx, .inl (aI vi))), (xs, .inl (kA 0, mx, .inl (aI vs))), (xe, .inl (kA 0, mx, .inl (aI ve))), (xl, .inl (kA 0, mx, .inl (aI vl)))] H → va_D A [(ho, .inr (2, [.ref oc, .int (iI fd), .ref xi, .ref xs, .ref xe, .ref xl, .int (iI vc)])), (oc, .inl (kA 1, n, .inl (aI t))), (xi, .inl (kA 0, mx, .inl (aI vi))), (xs, .inl (kA 0, mx, .inl (aI vs))), (xe, .inl (kA 0, mx, .inl (aI ve))), (xl, .inl (kA 0, mx, .inl (aI vl)))] → va_S A s.heap H locs → ∀ ls : Array Slot, lv_has ls 6 [(0, .ref ho), (1, .int (iI tag)), (2, .int (iI st)), (3, .int (iI en)), (4, .int (iI q))] → W p l e (rmd 2 0 0) s m args below meth c H locs 0 0 Q (F0 m 5 ls []) := by
    intro nn
    induction nn with
    | zero => intro q vi vs ve vl vc hq hHc hcp hgr hps hres hm; exact absurd hm (Nat.not_lt_zero _)
    | succ nn ih =>
      intro q vi vs ve vl vc hq hHc hcp hgr hps hres hm H locs hP hD hS ls hl
      obtain ⟨_, _, hvc, _, hvi, hvs, hve, hvl⟩ := id hHc
      refine lv_iload hx hb d_H_readSubfields_5 (lv_at hl 4 rfl) ?_
      refine lv_iload_n hx hb d_H_readSubfields_7 rfl (lv_at hl 3 rfl) ?_
      refine li_icmp_ge (tgt := 117) hx hb d_H_readSubfields_8 (by decide) (by omega) (by omega) (fun c1 => ?_) (fun c1 => ?_)
      · have _q := c1
        exact fin () _ _ _ _ (by rw [← hres, show (en - q).toNat = 0 by omega]; exact ⟨hHc, by have h9 := hgr; rw [show (en - q).toNat = 0 by omega] at h9; simp only [mkC] at h9; show vc = _; omega⟩) (by rw [← hres, show (en - q).toNat = 0 by omega]; exact hP) (by rw [← hres, show (en - q).toNat = 0 by omega]; exact hD) hS d_H_readSubfields_117
      · have _q := c1
        refine lv_iload hx hb d_H_readSubfields_11 (lv_at hl 4 rfl) ?_
        refine lv_iconst (v := iI 1) hx hb d_H_readSubfields_13 rfl ?_
        refine li_iadd hx hb d_H_readSubfields_14 ?_
        refine lv_aload_n hx hb d_H_readSubfields_15 rfl (lv_at hl 0 rfl) ?_
        refine gf_H_18 hx hb hts hown hK hP 0 rfl rfl d_H_readSubfields_16 ?_
        refine li_alen hx hb hK hP 1 1 rfl rfl d_H_readSubfields_19 ?_
        refine li_icmp_ge (tgt := 117) hx hb d_H_readSubfields_20 (by decide) (by omega) (by omega) (fun c2 => ?_) (fun c2 => ?_)
        · have _q := c2
          exact absurd c2 (by omega)
        · have _q := c2
          refine lv_aload_n hx hb d_H_readSubfields_23 rfl (lv_at hl 0 rfl) ?_
          refine gf_H_18 hx hb hts hown hK hP 0 rfl rfl d_H_readSubfields_24 ?_
          refine lv_iload hx hb d_H_readSubfields_27 (lv_at hl 4 rfl) ?_
          refine li_cald hx hb hK hP 1 1 rfl rfl (by omega) (by omega) (by omega) d_H_readSubfields_29 ?_
          have f3 := ht q.toNat
          refine lv_bipush (v := iI 31) hx hb d_H_readSubfields_30 (by decide) ?_
          refine li_icmp_ne (tgt := 103) hx hb d_H_readSubfields_32 (by decide) (by omega) (by omega) (fun c4 => ?_) (fun c4 => ?_)
          · have _q := c4
            have hq1 := hcp
            rw [show (en - q).toNat = (en - (q + 1)).toNat + 1 by omega] at hq1
            simp only [mkC] at hq1
            rw [if_neg (by assumption)] at hq1
            have hlt : q < en := by omega
            have hnq : ¬ q = st + 2 := fun e => by have := h31 (by omega); rw [← e] at this; contradiction
            refine lv_aload_n hx hb d_H_readSubfields_103 rfl (lv_at hl 0 rfl) ?_
            refine lv_iload hx hb d_H_readSubfields_104 (lv_at hl 4 rfl) ?_
            refine lv_iconst (v := iI 1) hx hb d_H_readSubfields_106 rfl ?_
            refine li_iadd hx hb d_H_readSubfields_107 ?_
            refine li_callw (wc := [(ho, .inr (2, [.ref oc, .int (iI fd), .ref xi, .ref xs, .ref xe, .ref xl, .int (iI vc)])), (oc, .inl (kA 1, n, .inl (aI t))), (xi, .inl (kA 0, mx, .inl (aI vi))), (xs, .inl (kA 0, mx, .inl (aI vs))), (xe, .inl (kA 0, mx, .inl (aI ve))), (xl, .inl (kA 0, mx, .inl (aI vl)))]) (wr := []) (va_runV (As := [.int (iI (q + 1))]) (rest := []) ⟨hx, hb, hml, hown, hts⟩ (c_H_endText l dC dI kA H.size ho oc xi xs xe xl n mx fd vc t vi vs ve vl (q + 1) (by exact hHc) (by omega) (by omega)) (cw_H_77 hts rfl rfl ⟨by decide, by decide⟩) (li_preV (va_recv hK hP (ci := 2) (q0 := 0) rfl rfl) ⟨rfl, hP.sub [0, 1, 2, 3, 4, 5] rfl, (hD.sub [0, 1, 2, 3, 4, 5] (by decide) rfl).weaken (fun _ _ _ h => hAN _ h), trivial⟩ hK hN (hG.go hS hAN)) rfl rfl hl.1 rfl (lv_room (Nat.le_of_ble_eq_true rfl)) d_H_readSubfields_108 ⟨by decide, by decide⟩) hP hD hS hA [0, 1, 2, 3, 4, 5] [] rfl rfl (by decide) (by decide) (fun u5 H locs hu5 hP hD hS _hk => ?_)
            have hP : va_P (dC, dI) CL [(ho, .inr (2, [.ref oc, .int (iI fd), .ref xi, .ref xs, .ref xe, .ref xl, .int (iI vc)])), (oc, .inl (kA 1, n, .inl (aI t))), (xi, .inl (kA 0, mx, .inl (aI vi))), (xs, .inl (kA 0, mx, .inl (aI vs))), (xe, .inl (kA 0, mx, .inl (aI (va_up ve (vc - 1).toNat (q + 1))))), (xl, .inl (kA 0, mx, .inl (aI vl)))] H := hP
            have hD : va_D A [(ho, .inr (2, [.ref oc, .int (iI fd), .ref xi, .ref xs, .ref xe, .ref xl, .int (iI vc)])), (oc, .inl (kA 1, n, .inl (aI t))), (xi, .inl (kA 0, mx, .inl (aI vi))), (xs, .inl (kA 0, mx, .inl (aI vs))), (xe, .inl (kA 0, mx, .inl (aI (va_up ve (vc - 1).toNat (q + 1))))), (xl, .inl (kA 0, mx, .inl (aI vl)))] := hD
            obtain ⟨x6, ex6⟩ : ∃ y : Int, y = q + 1 := ⟨_, rfl⟩
            refine lv_iinc (v := iI x6) (lv' := [(4, .int (iI x6)), (0, .ref ho), (1, .int (iI tag)), (2, .int (iI st)), (3, .int (iI en))]) hx hb d_H_readSubfields_111 hl (k := 4) rfl (by rw [ex6]; exact iI_add _ _) (by decide) rfl (fun ls hl => ?_)
            refine lv_goto (tgt := 5) hx hb d_H_readSubfields_114 (by decide) ?_
            exact ih x6 vi vs (va_up ve (vc - 1).toNat (q + 1)) vl vc (by first | omega | (subst_vars; omega)) (by first | exact hH | (subst_vars; exact HR_eT (u := (vi, vs, ve, vl, vc)) hHc (by omega)) | (subst_vars; exact HR_aT (u := (vi, vs, ve, vl, vc)) hHc hq3 (by omega) (by omega) (by show vc < _; omega)) | (subst_vars; exact HR_lO (u := aT (vi, vs, ve, vl, vc) _ _ _) (HR_aT (u := (vi, vs, ve, vl, vc)) hHc hq3 (by omega) (by omega) (by show vc < _; omega)) (by omega))) (by first | (subst_vars; exact hcap) | (subst_vars; rw [show (q + 1).toNat = q.toNat + 1 by omega]; omega)) (by first | (subst_vars; rfl) | (subst_vars; rw [← hgr, show (en - q).toNat = (en - (q + 1)).toNat + 1 by omega, show (q + 1).toNat = q.toNat + 1 by omega]; simp only [mkC]; first | (rw [if_pos (by assumption)]; omega) | (rw [if_neg (by assumption)]; omega))) (by first | omega | (subst_vars; omega)) (by first | (subst_vars; rfl) | (subst_vars; rw [← hres, show (en - q).toNat = (en - (q + 1)).toNat + 1 by omega]; simp only [rsL, rsS]; first | (rw [if_neg (by assumption)]; rfl) | (rw [if_pos (by assumption), if_pos ⟨by assumption, by assumption⟩]; rfl) | (rw [if_pos (by assumption), if_neg (by simp_all)]; rfl))) (by omega) _ _ hP hD hS _ (lv_sub hl [1, 2, 3, 4, 0] rfl)
          · have _q := c4
            have hq1 := hcp
            rw [show (en - q).toNat = (en - (q + 1)).toNat + 1 by omega] at hq1
            simp only [mkC] at hq1
            rw [if_pos (by assumption)] at hq1
            have hq2 := mkC_nn t (en - (q + 1)).toNat (q.toNat + 1)
            have hq3 := ixOf_r tag (t (q + 1).toNat)
            have hlt : q < en := by omega
            refine lv_aload_n hx hb d_H_readSubfields_35 rfl (lv_at hl 0 rfl) ?_
            refine gf_H_18 hx hb hts hown hK hP 0 rfl rfl d_H_readSubfields_36 ?_
            refine lv_iload hx hb d_H_readSubfields_39 (lv_at hl 4 rfl) ?_
            refine lv_iconst (v := iI 1) hx hb d_H_readSubfields_41 rfl ?_
            refine li_iadd hx hb d_H_readSubfields_42 ?_
            refine li_cald hx hb hK hP 1 1 rfl rfl (by omega) (by omega) (by omega) d_H_readSubfields_43 ?_
            have f7 := ht ((q + 1).toNat)
            refine li_nm (fun x8 ex8 => ?_)
            refine lv_istore (lv' := [(5, .int (iI x8)), (0, .ref ho), (1, .int (iI tag)), (2, .int (iI st)), (3, .int (iI en)), (4, .int (iI q))]) hx hb d_H_readSubfields_44 hl (by decide) rfl (fun ls hl => ?_)
            refine lv_aload_n hx hb d_H_readSubfields_46 rfl (lv_at hl 1 rfl) ?_
            refine lv_iload_n hx hb d_H_readSubfields_47 rfl (lv_at hl 2 rfl) ?_
            refine lv_iload hx hb d_H_readSubfields_48 (lv_at hl 0 rfl) ?_
            refine li_callr ((va_runS (As := [.int (iI tag), .int (iI x8)]) (rest := [.ref ho]) ⟨hx, hb, hml, hown, hts⟩ (c_H_indexOf l dC dI kA tag x8 (by omega) (by subst_vars; omega)) (cw_H_66 hts rfl rfl ⟨by decide, by decide⟩) (li_preS (hP.sub [] rfl) hK hN (hG.go hS hAN)) rfl rfl hl.1 rfl (lv_room (Nat.le_of_ble_eq_true rfl)) d_H_readSubfields_50 ⟨by decide, by decide⟩).run) ?_
            refine lv_iload hx hb d_H_readSubfields_53 (lv_at hl 5 rfl) ?_
            refine lv_iconst (v := iI 2) hx hb d_H_readSubfields_55 rfl ?_
            refine li_iadd hx hb d_H_readSubfields_56 ?_
            refine lv_iload hx hb d_H_readSubfields_57 (lv_at hl 5 rfl) ?_
            refine lv_iconst (v := iI 2) hx hb d_H_readSubfields_59 rfl ?_
            refine li_iadd hx hb d_H_readSubfields_60 ?_
            refine li_callw (wc := [(ho, .inr (2, [.ref oc, .int (iI fd), .ref xi, .ref xs, .ref xe, .ref xl, .int (iI vc)])), (oc, .inl (kA 1, n, .inl (aI t))), (xi, .inl (kA 0, mx, .inl (aI vi))), (xs, .inl (kA 0, mx, .inl (aI vs))), (xe, .inl (kA 0, mx, .inl (aI ve))), (xl, .inl (kA 0, mx, .inl (aI vl)))]) (wr := []) (va_runV (As := [.int (iI (ixOf tag x8)), .int (iI (q + 2)), .int (iI (q + 2))]) (rest := []) ⟨hx, hb, hml, hown, hts⟩ (c_H_addText l dC dI kA H.size ho oc xi xs xe xl n mx fd vc t vi vs ve vl (ixOf tag x8) (q + 2) (q + 2) (by exact hHc) (by subst_vars; omega) (by omega) (by omega) (by omega)) (cw_H_59 hts rfl rfl ⟨by decide, by decide⟩) (li_preV (va_recv hK hP (ci := 2) (q0 := 0) rfl rfl) ⟨rfl, hP.sub [0, 1, 2, 3, 4, 5] rfl, (hD.sub [0, 1, 2, 3, 4, 5] (by decide) rfl).weaken (fun _ _ _ h => hAN _ h), trivial⟩ hK hN (hG.go hS hAN)) rfl rfl hl.1 rfl (lv_room (Nat.le_of_ble_eq_true rfl)) d_H_readSubfields_61 ⟨by decide, by decide⟩) hP hD hS hA [0, 1, 2, 3, 4, 5] [] rfl rfl (by decide) (by decide) (fun u9 H locs hu9 hP hD hS _hk => ?_)
            have hP : va_P (dC, dI) CL [(ho, .inr (2, [.ref oc, .int (iI fd), .ref xi, .ref xs, .ref xe, .ref xl, .int (iI (vc + 1))])), (oc, .inl (kA 1, n, .inl (aI t))), (xi, .inl (kA 0, mx, .inl (aI (va_up vi vc.toNat (ixOf tag x8))))), (xs, .inl (kA 0, mx, .inl (aI (va_up vs vc.toNat (q + 2))))), (xe, .inl (kA 0, mx, .inl (aI (va_up ve vc.toNat (q + 2))))), (xl, .inl (kA 0, mx, .inl (aI vl)))] H := hP
            have hD : va_D A [(ho, .inr (2, [.ref oc, .int (iI fd), .ref xi, .ref xs, .ref xe, .ref xl, .int (iI (vc + 1))])), (oc, .inl (kA 1, n, .inl (aI t))), (xi, .inl (kA 0, mx, .inl (aI (va_up vi vc.toNat (ixOf tag x8))))), (xs, .inl (kA 0, mx, .inl (aI (va_up vs vc.toNat (q + 2))))), (xe, .inl (kA 0, mx, .inl (aI (va_up ve vc.toNat (q + 2))))), (xl, .inl (kA 0, mx, .inl (aI vl)))] := hD
            refine lv_iload hx hb d_H_readSubfields_64 (lv_at hl 0 rfl) ?_
            refine lv_bipush (v := iI 97) hx hb d_H_readSubfields_66 (by decide) ?_
            refine li_icmp_ne (tgt := 100) hx hb d_H_readSubfields_68 (by decide) (by omega) (by omega) (fun c10 => ?_) (fun c10 => ?_)
            · have _q := c10
              refine lv_goto (tgt := 111) hx hb d_H_readSubfields_100 (by decide) ?_
              obtain ⟨x11, ex11⟩ : ∃ y : Int, y = q + 1 := ⟨_, rfl⟩
              refine lv_iinc (v := iI x11) (lv' := [(4, .int (iI x11)), (5, .int (iI x8)), (0, .ref ho), (1, .int (iI tag)), (2, .int (iI st)), (3, .int (iI en))]) hx hb d_H_readSubfields_111 hl (k := 5) rfl (by rw [ex11]; exact iI_add _ _) (by decide) rfl (fun ls hl => ?_)
              refine lv_goto (tgt := 5) hx hb d_H_readSubfields_114 (by decide) ?_
              exact ih x11 (va_up vi vc.toNat (ixOf tag x8)) (va_up vs vc.toNat (q + 2)) (va_up ve vc.toNat (q + 2)) vl (vc + 1) (by first | omega | (subst_vars; omega)) (by first | exact hH | (subst_vars; exact HR_eT (u := (vi, vs, ve, vl, vc)) hHc (by omega)) | (subst_vars; exact HR_aT (u := (vi, vs, ve, vl, vc)) hHc hq3 (by omega) (by omega) (by show vc < _; omega)) | (subst_vars; exact HR_lO (u := aT (vi, vs, ve, vl, vc) _ _ _) (HR_aT (u := (vi, vs, ve, vl, vc)) hHc hq3 (by omega) (by omega) (by show vc < _; omega)) (by omega))) (by first | (subst_vars; exact hcap) | (subst_vars; rw [show (q + 1).toNat = q.toNat + 1 by omega]; omega)) (by first | (subst_vars; rfl) | (subst_vars; rw [← hgr, show (en - q).toNat = (en - (q + 1)).toNat + 1 by omega, show (q + 1).toNat = q.toNat + 1 by omega]; simp only [mkC]; first | (rw [if_pos (by assumption)]; omega) | (rw [if_neg (by assumption)]; omega))) (by first | omega | (subst_vars; omega)) (by first | (subst_vars; rfl) | (subst_vars; rw [← hres, show (en - q).toNat = (en - (q + 1)).toNat + 1 by omega]; simp only [rsL, rsS]; first | (rw [if_neg (by assumption)]; rfl) | (rw [if_pos (by assumption), if_pos ⟨by assumption, by assumption⟩]; rfl) | (rw [if_pos (by assumption), if_neg (by simp_all)]; rfl))) (by omega) _ _ hP hD hS _ (lv_sub hl [2, 3, 4, 5, 0] rfl)
            · have _q := c10
              refine lv_aload_n hx hb d_H_readSubfields_71 rfl (lv_at hl 1 rfl) ?_
              refine gf_H_18 hx hb hts hown hK hP 0 rfl rfl d_H_readSubfields_72 ?_
              refine lv_iload_n hx hb d_H_readSubfields_75 rfl (lv_at hl 3 rfl) ?_
              refine lv_iconst (v := iI 1) hx hb d_H_readSubfields_76 rfl ?_
              refine li_iadd hx hb d_H_readSubfields_77 ?_
              refine li_cald hx hb hK hP 1 1 rfl rfl (by omega) (by omega) (by omega) d_H_readSubfields_78 ?_
              have f12 := ht ((st + 1).toNat)
              refine li_callr ((va_runSN (As := [.int (iI (t ((st + 1).toNat)))]) (rest := []) ⟨hx, hb, hml, hown, hts⟩ (c_Q_isDigit l dC dI kA (t ((st + 1).toNat)) (by omega)) (cw_H_70 hts hN rfl rfl ⟨by decide, by decide⟩) (li_preS (hP.sub [] rfl) hK hN (hG.go hS hAN)) rfl rfl hl.1 rfl (lv_room (Nat.le_of_ble_eq_true rfl)) d_H_readSubfields_79 ⟨by decide, by decide⟩).run) ?_
              refine li_bz (tgt := 100) hx hb d_H_readSubfields_82 (by decide) (fun c13 => ?_) (fun c13 => ?_)
              · have _q := c13
                refine lv_goto (tgt := 111) hx hb d_H_readSubfields_100 (by decide) ?_
                obtain ⟨x14, ex14⟩ : ∃ y : Int, y = q + 1 := ⟨_, rfl⟩
                refine lv_iinc (v := iI x14) (lv' := [(4, .int (iI x14)), (5, .int (iI x8)), (0, .ref ho), (1, .int (iI tag)), (2, .int (iI st)), (3, .int (iI en))]) hx hb d_H_readSubfields_111 hl (k := 5) rfl (by rw [ex14]; exact iI_add _ _) (by decide) rfl (fun ls hl => ?_)
                refine lv_goto (tgt := 5) hx hb d_H_readSubfields_114 (by decide) ?_
                exact ih x14 (va_up vi vc.toNat (ixOf tag x8)) (va_up vs vc.toNat (q + 2)) (va_up ve vc.toNat (q + 2)) vl (vc + 1) (by first | omega | (subst_vars; omega)) (by first | exact hH | (subst_vars; exact HR_eT (u := (vi, vs, ve, vl, vc)) hHc (by omega)) | (subst_vars; exact HR_aT (u := (vi, vs, ve, vl, vc)) hHc hq3 (by omega) (by omega) (by show vc < _; omega)) | (subst_vars; exact HR_lO (u := aT (vi, vs, ve, vl, vc) _ _ _) (HR_aT (u := (vi, vs, ve, vl, vc)) hHc hq3 (by omega) (by omega) (by show vc < _; omega)) (by omega))) (by first | (subst_vars; exact hcap) | (subst_vars; rw [show (q + 1).toNat = q.toNat + 1 by omega]; omega)) (by first | (subst_vars; rfl) | (subst_vars; rw [← hgr, show (en - q).toNat = (en - (q + 1)).toNat + 1 by omega, show (q + 1).toNat = q.toNat + 1 by omega]; simp only [mkC]; first | (rw [if_pos (by assumption)]; omega) | (rw [if_neg (by assumption)]; omega))) (by first | omega | (subst_vars; omega)) (by first | (subst_vars; rfl) | (subst_vars; rw [← hres, show (en - q).toNat = (en - (q + 1)).toNat + 1 by omega]; simp only [rsL, rsS]; first | (rw [if_neg (by assumption)]; rfl) | (rw [if_pos (by assumption), if_pos ⟨by assumption, by assumption⟩]; rfl) | (rw [if_pos (by assumption), if_neg (by simp_all)]; rfl))) (by omega) _ _ hP hD hS _ (lv_sub hl [2, 3, 4, 5, 0] rfl)
              · have _q := c13
                have hdg := of_decide_eq_true (show isDig (t (st + 1).toNat) = true by assumption)
                refine lv_aload_n hx hb d_H_readSubfields_85 rfl (lv_at hl 1 rfl) ?_
                refine lv_aload_n hx hb d_H_readSubfields_86 rfl (lv_at hl 1 rfl) ?_
                refine gf_H_18 hx hb hts hown hK hP 0 rfl rfl d_H_readSubfields_87 ?_
                refine lv_iload_n hx hb d_H_readSubfields_90 rfl (lv_at hl 3 rfl) ?_
                refine lv_iconst (v := iI 1) hx hb d_H_readSubfields_91 rfl ?_
                refine li_iadd hx hb d_H_readSubfields_92 ?_
                refine li_cald hx hb hK hP 1 1 rfl rfl (by omega) (by omega) (by omega) d_H_readSubfields_93 ?_
                have f15 := ht ((st + 1).toNat)
                refine lv_bipush (v := iI 48) hx hb d_H_readSubfields_94 (by decide) ?_
                refine li_isub hx hb d_H_readSubfields_96 ?_
                refine li_callw (wc := [(ho, .inr (2, [.ref oc, .int (iI fd), .ref xi, .ref xs, .ref xe, .ref xl, .int (iI (vc + 1))])), (oc, .inl (kA 1, n, .inl (aI t))), (xi, .inl (kA 0, mx, .inl (aI (va_up vi vc.toNat (ixOf tag x8))))), (xs, .inl (kA 0, mx, .inl (aI (va_up vs vc.toNat (q + 2))))), (xe, .inl (kA 0, mx, .inl (aI (va_up ve vc.toNat (q + 2))))), (xl, .inl (kA 0, mx, .inl (aI vl)))]) (wr := []) (va_runV (As := [.int (iI ((t ((st + 1).toNat)) - 48))]) (rest := []) ⟨hx, hb, hml, hown, hts⟩ (c_H_leaveOut l dC dI kA H.size ho oc xi xs xe xl n mx fd (vc + 1) t (va_up vi vc.toNat (ixOf tag x8)) (va_up vs vc.toNat (q + 2)) (va_up ve vc.toNat (q + 2)) vl ((t ((st + 1).toNat)) - 48) (by exact HR_aT (u := (vi, vs, ve, vl, vc)) hHc (by subst_vars; exact hq3) (by omega) (by omega) (by show vc < _; omega)) (by omega) (by omega)) (cw_H_74 hts rfl rfl ⟨by decide, by decide⟩) (li_preV (va_recv hK hP (ci := 2) (q0 := 0) rfl rfl) ⟨rfl, hP.sub [0, 1, 2, 3, 4, 5] rfl, (hD.sub [0, 1, 2, 3, 4, 5] (by decide) rfl).weaken (fun _ _ _ h => hAN _ h), trivial⟩ hK hN (hG.go hS hAN)) rfl rfl hl.1 rfl (lv_room (Nat.le_of_ble_eq_true rfl)) d_H_readSubfields_97 ⟨by decide, by decide⟩) hP hD hS hA [0, 1, 2, 3, 4, 5] [] rfl rfl (by decide) (by decide) (fun u16 H locs hu16 hP hD hS _hk => ?_)
                have hP : va_P (dC, dI) CL [(ho, .inr (2, [.ref oc, .int (iI fd), .ref xi, .ref xs, .ref xe, .ref xl, .int (iI (vc + 1))])), (oc, .inl (kA 1, n, .inl (aI t))), (xi, .inl (kA 0, mx, .inl (aI (va_up vi vc.toNat (ixOf tag x8))))), (xs, .inl (kA 0, mx, .inl (aI (va_up vs vc.toNat (q + 2))))), (xe, .inl (kA 0, mx, .inl (aI (va_up ve vc.toNat (q + 2))))), (xl, .inl (kA 0, mx, .inl (aI (va_up vl ((vc + 1) - 1).toNat ((t ((st + 1).toNat)) - 48)))))] H := hP
                have hD : va_D A [(ho, .inr (2, [.ref oc, .int (iI fd), .ref xi, .ref xs, .ref xe, .ref xl, .int (iI (vc + 1))])), (oc, .inl (kA 1, n, .inl (aI t))), (xi, .inl (kA 0, mx, .inl (aI (va_up vi vc.toNat (ixOf tag x8))))), (xs, .inl (kA 0, mx, .inl (aI (va_up vs vc.toNat (q + 2))))), (xe, .inl (kA 0, mx, .inl (aI (va_up ve vc.toNat (q + 2))))), (xl, .inl (kA 0, mx, .inl (aI (va_up vl ((vc + 1) - 1).toNat ((t ((st + 1).toNat)) - 48)))))] := hD
                refine lv_goto (tgt := 111) hx hb d_H_readSubfields_100 (by decide) ?_
                obtain ⟨x17, ex17⟩ : ∃ y : Int, y = q + 1 := ⟨_, rfl⟩
                refine lv_iinc (v := iI x17) (lv' := [(4, .int (iI x17)), (5, .int (iI x8)), (0, .ref ho), (1, .int (iI tag)), (2, .int (iI st)), (3, .int (iI en))]) hx hb d_H_readSubfields_111 hl (k := 5) rfl (by rw [ex17]; exact iI_add _ _) (by decide) rfl (fun ls hl => ?_)
                refine lv_goto (tgt := 5) hx hb d_H_readSubfields_114 (by decide) ?_
                exact ih x17 (va_up vi vc.toNat (ixOf tag x8)) (va_up vs vc.toNat (q + 2)) (va_up ve vc.toNat (q + 2)) (va_up vl ((vc + 1) - 1).toNat ((t ((st + 1).toNat)) - 48)) (vc + 1) (by first | omega | (subst_vars; omega)) (by first | exact hH | (subst_vars; exact HR_eT (u := (vi, vs, ve, vl, vc)) hHc (by omega)) | (subst_vars; exact HR_aT (u := (vi, vs, ve, vl, vc)) hHc hq3 (by omega) (by omega) (by show vc < _; omega)) | (subst_vars; exact HR_lO (u := aT (vi, vs, ve, vl, vc) _ _ _) (HR_aT (u := (vi, vs, ve, vl, vc)) hHc hq3 (by omega) (by omega) (by show vc < _; omega)) (by omega))) (by first | (subst_vars; exact hcap) | (subst_vars; rw [show (q + 1).toNat = q.toNat + 1 by omega]; omega)) (by first | (subst_vars; rfl) | (subst_vars; rw [← hgr, show (en - q).toNat = (en - (q + 1)).toNat + 1 by omega, show (q + 1).toNat = q.toNat + 1 by omega]; simp only [mkC]; first | (rw [if_pos (by assumption)]; omega) | (rw [if_neg (by assumption)]; omega))) (by first | omega | (subst_vars; omega)) (by first | (subst_vars; rfl) | (subst_vars; rw [← hres, show (en - q).toNat = (en - (q + 1)).toNat + 1 by omega]; simp only [rsL, rsS]; first | (rw [if_neg (by assumption)]; rfl) | (rw [if_pos (by assumption), if_pos ⟨by assumption, by assumption⟩]; rfl) | (rw [if_pos (by assumption), if_neg (by simp_all)]; rfl))) (by omega) _ _ hP hD hS _ (lv_sub hl [2, 3, 4, 5, 0] rfl)
  refine lv_iload_n hx hb d_H_readSubfields_0 rfl (lv_at hl 2 rfl) ?_
  refine lv_iconst (v := iI 2) hx hb d_H_readSubfields_1 rfl ?_
  refine li_iadd hx hb d_H_readSubfields_2 ?_
  refine li_nm (fun x18 ex18 => ?_)
  refine lv_istore (lv' := [(4, .int (iI x18)), (0, .ref ho), (1, .int (iI tag)), (2, .int (iI st)), (3, .int (iI en))]) hx hb d_H_readSubfields_3 hl (by decide) rfl (fun ls hl => ?_)
  exact K_5 ((en - x18).toNat + 1) x18 ti ts te tl tc (by first | omega | (subst_vars; omega)) (by first | exact hH | (subst_vars; exact HR_eT (u := (vi, vs, ve, vl, vc)) hHc (by omega)) | (subst_vars; exact HR_aT (u := (vi, vs, ve, vl, vc)) hHc hq3 (by omega) (by omega) (by show vc < _; omega)) | (subst_vars; exact HR_lO (u := aT (vi, vs, ve, vl, vc) _ _ _) (HR_aT (u := (vi, vs, ve, vl, vc)) hHc hq3 (by omega) (by omega) (by show vc < _; omega)) (by omega))) (by first | (subst_vars; exact hcap) | (subst_vars; rw [show (q + 1).toNat = q.toNat + 1 by omega]; omega)) (by first | (subst_vars; rfl) | (subst_vars; rw [← hgr, show (en - q).toNat = (en - (q + 1)).toNat + 1 by omega, show (q + 1).toNat = q.toNat + 1 by omega]; simp only [mkC]; first | (rw [if_pos (by assumption)]; omega) | (rw [if_neg (by assumption)]; omega))) (by first | omega | (subst_vars; omega)) (by first | (subst_vars; rfl) | (subst_vars; rw [← hres, show (en - q).toNat = (en - (q + 1)).toNat + 1 by omega]; simp only [rsL, rsS]; first | (rw [if_neg (by assumption)]; rfl) | (rw [if_pos (by assumption), if_pos ⟨by assumption, by assumption⟩]; rfl) | (rw [if_pos (by assumption), if_neg (by simp_all)]; rfl))) (Nat.lt_succ_self _) _ _ hP hD hS _ (lv_sub hl [1, 2, 3, 4, 0] rfl)
theorem d_H_readTexts_0 : decode b_H_readTexts 0 = .ok (.iconst 0, 1) := by decide +kernel
theorem d_H_readTexts_1 : decode b_H_readTexts 1 = .ok (.istore_n 2, 1) := by decide +kernel
theorem d_H_readTexts_2 : decode b_H_readTexts 2 = .ok (.iload_n 2, 1) := by decide +kernel
theorem d_H_readTexts_3 : decode b_H_readTexts 3 = .ok (.aload_n 0, 1) := by decide +kernel
theorem d_H_readTexts_4 : decode b_H_readTexts 4 = .ok (.getfield 30, 3) := by decide +kernel
theorem d_H_readTexts_7 : decode b_H_readTexts 7 = .ok (.if_icmp .ge 97, 3) := by decide +kernel
theorem d_H_readTexts_10 : decode b_H_readTexts 10 = .ok (.bipush 24, 2) := by decide +kernel
theorem d_H_readTexts_12 : decode b_H_readTexts 12 = .ok (.iload_n 2, 1) := by decide +kernel
theorem d_H_readTexts_13 : decode b_H_readTexts 13 = .ok (.bipush 12, 2) := by decide +kernel
theorem d_H_readTexts_15 : decode b_H_readTexts 15 = .ok (.imul, 1) := by decide +kernel
theorem d_H_readTexts_16 : decode b_H_readTexts 16 = .ok (.iadd, 1) := by decide +kernel
theorem d_H_readTexts_17 : decode b_H_readTexts 17 = .ok (.istore_n 3, 1) := by decide +kernel
theorem d_H_readTexts_18 : decode b_H_readTexts 18 = .ok (.aload_n 0, 1) := by decide +kernel
theorem d_H_readTexts_19 : decode b_H_readTexts 19 = .ok (.getfield 18, 3) := by decide +kernel
theorem d_H_readTexts_22 : decode b_H_readTexts 22 = .ok (.iload_n 3, 1) := by decide +kernel
theorem d_H_readTexts_23 : decode b_H_readTexts 23 = .ok (.iconst 3, 1) := by decide +kernel
theorem d_H_readTexts_24 : decode b_H_readTexts 24 = .ok (.invokestatic 55, 3) := by decide +kernel
theorem d_H_readTexts_27 : decode b_H_readTexts 27 = .ok (.istore 4, 2) := by decide +kernel
theorem d_H_readTexts_29 : decode b_H_readTexts 29 = .ok (.iload_n 1, 1) := by decide +kernel
theorem d_H_readTexts_30 : decode b_H_readTexts 30 = .ok (.aload_n 0, 1) := by decide +kernel
theorem d_H_readTexts_31 : decode b_H_readTexts 31 = .ok (.getfield 18, 3) := by decide +kernel
theorem d_H_readTexts_34 : decode b_H_readTexts 34 = .ok (.iload_n 3, 1) := by decide +kernel
theorem d_H_readTexts_35 : decode b_H_readTexts 35 = .ok (.bipush 7, 2) := by decide +kernel
theorem d_H_readTexts_37 : decode b_H_readTexts 37 = .ok (.iadd, 1) := by decide +kernel
theorem d_H_readTexts_38 : decode b_H_readTexts 38 = .ok (.iconst 5, 1) := by decide +kernel
theorem d_H_readTexts_39 : decode b_H_readTexts 39 = .ok (.invokestatic 55, 3) := by decide +kernel
theorem d_H_readTexts_42 : decode b_H_readTexts 42 = .ok (.iadd, 1) := by decide +kernel
theorem d_H_readTexts_43 : decode b_H_readTexts 43 = .ok (.istore 5, 2) := by decide +kernel
theorem d_H_readTexts_45 : decode b_H_readTexts 45 = .ok (.iload 5, 2) := by decide +kernel
theorem d_H_readTexts_47 : decode b_H_readTexts 47 = .ok (.aload_n 0, 1) := by decide +kernel
theorem d_H_readTexts_48 : decode b_H_readTexts 48 = .ok (.getfield 18, 3) := by decide +kernel
theorem d_H_readTexts_51 : decode b_H_readTexts 51 = .ok (.iload_n 3, 1) := by decide +kernel
theorem d_H_readTexts_52 : decode b_H_readTexts 52 = .ok (.iconst 3, 1) := by decide +kernel
theorem d_H_readTexts_53 : decode b_H_readTexts 53 = .ok (.iadd, 1) := by decide +kernel
theorem d_H_readTexts_54 : decode b_H_readTexts 54 = .ok (.iconst 4, 1) := by decide +kernel
theorem d_H_readTexts_55 : decode b_H_readTexts 55 = .ok (.invokestatic 55, 3) := by decide +kernel
theorem d_H_readTexts_58 : decode b_H_readTexts 58 = .ok (.iadd, 1) := by decide +kernel
theorem d_H_readTexts_59 : decode b_H_readTexts 59 = .ok (.iconst 1, 1) := by decide +kernel
theorem d_H_readTexts_60 : decode b_H_readTexts 60 = .ok (.isub, 1) := by decide +kernel
theorem d_H_readTexts_61 : decode b_H_readTexts 61 = .ok (.istore 6, 2) := by decide +kernel
theorem d_H_readTexts_63 : decode b_H_readTexts 63 = .ok (.iload 4, 2) := by decide +kernel
theorem d_H_readTexts_65 : decode b_H_readTexts 65 = .ok (.iconst 1, 1) := by decide +kernel
theorem d_H_readTexts_66 : decode b_H_readTexts 66 = .ok (.if_icmp .ne 15, 3) := by decide +kernel
theorem d_H_readTexts_69 : decode b_H_readTexts 69 = .ok (.aload_n 0, 1) := by decide +kernel
theorem d_H_readTexts_70 : decode b_H_readTexts 70 = .ok (.iconst 5, 1) := by decide +kernel
theorem d_H_readTexts_71 : decode b_H_readTexts 71 = .ok (.iload 5, 2) := by decide +kernel
theorem d_H_readTexts_73 : decode b_H_readTexts 73 = .ok (.iload 6, 2) := by decide +kernel
theorem d_H_readTexts_75 : decode b_H_readTexts 75 = .ok (.invokevirtual 59, 3) := by decide +kernel
theorem d_H_readTexts_78 : decode b_H_readTexts 78 = .ok (.goto 20, 3) := by decide +kernel
theorem d_H_readTexts_81 : decode b_H_readTexts 81 = .ok (.iload 4, 2) := by decide +kernel
theorem d_H_readTexts_83 : decode b_H_readTexts 83 = .ok (.bipush 10, 2) := by decide +kernel
theorem d_H_readTexts_85 : decode b_H_readTexts 85 = .ok (.if_icmp .lt 13, 3) := by decide +kernel
theorem d_H_readTexts_88 : decode b_H_readTexts 88 = .ok (.aload_n 0, 1) := by decide +kernel
theorem d_H_readTexts_89 : decode b_H_readTexts 89 = .ok (.iload 4, 2) := by decide +kernel
theorem d_H_readTexts_91 : decode b_H_readTexts 91 = .ok (.iload 5, 2) := by decide +kernel
theorem d_H_readTexts_93 : decode b_H_readTexts 93 = .ok (.iload 6, 2) := by decide +kernel
theorem d_H_readTexts_95 : decode b_H_readTexts 95 = .ok (.invokevirtual 63, 3) := by decide +kernel
theorem d_H_readTexts_98 : decode b_H_readTexts 98 = .ok (.iinc 2 1, 3) := by decide +kernel
theorem d_H_readTexts_101 : decode b_H_readTexts 101 = .ok (.goto (-99), 3) := by decide +kernel
theorem d_H_readTexts_104 : decode b_H_readTexts 104 = .ok (.return_, 1) := by decide +kernel
set_option maxHeartbeats 4000000 in
set_option maxRecDepth 100000 in
theorem c_H_readTexts (l : Launch) (dC : Nat → ClassId) (dI : Nat → Nat → Nat) (kA : Nat → ClassId) (sz : Nat) (ho : Nat) (oc : Nat) (xi : Nat) (xs : Nat) (xe : Nat) (xl : Nat) (n : Nat) (mx : Nat) (fd : Int) (tc : Int) (t : Nat → Int) (ti : Nat → Int) (ts : Nat → Int) (te : Nat → Int) (tl : Nat → Int) (base : Int) (sf : Int → Int) (hH : HR n mx t ti ts te tl tc) (hR : RecOK t n base fd sf) (hcap : tc + mkC t (n - base.toNat) base.toNat + 1 ≤ mx) : Met l y_H_readTexts (wsy y_H_readTexts b_H_readTexts 7 none) (rmd 3 0 0) (li_Pr (dC, dI) CL (TY kA) [.ref ho, .int (iI base)] (fun h => h.size = sz ∧ va_P (dC, dI) CL [(ho, .inr (2, [.ref oc, .int (iI fd), .ref xi, .ref xs, .ref xe, .ref xl, .int (iI tc)])), (oc, .inl (kA 1, n, .inl (aI t))), (xi, .inl (kA 0, mx, .inl (aI ti))), (xs, .inl (kA 0, mx, .inl (aI ts))), (xe, .inl (kA 0, mx, .inl (aI te))), (xl, .inl (kA 0, mx, .inl (aI tl)))] h ∧ va_D (fun q => dI 100 0 ≤ q) [(ho, .inr (2, [.ref oc, .int (iI fd), .ref xi, .ref xs, .ref xe, .ref xl, .int (iI tc)])), (oc, .inl (kA 1, n, .inl (aI t))), (xi, .inl (kA 0, mx, .inl (aI ti))), (xs, .inl (kA 0, mx, .inl (aI ts))), (xe, .inl (kA 0, mx, .inl (aI te))), (xl, .inl (kA 0, mx, .inl (aI tl)))] ∧ (fun _ => True) h)) (li_Qw (S := Unit) (dC, dI) CL (fun _ => HRu n mx t (rtL t n sf fd.toNat 0 (ti, ts, te, tl, tc))) (fun _ => none) (fun _ => [(ho, .inr (2, [.ref oc, .int (iI fd), .ref xi, .ref xs, .ref xe, .ref xl, .int (iI ((rtL t n sf fd.toNat 0 (ti, ts, te, tl, tc)).2.2.2.2))])), (oc, .inl (kA 1, n, .inl (aI t))), (xi, .inl (kA 0, mx, .inl (aI ((rtL t n sf fd.toNat 0 (ti, ts, te, tl, tc)).1)))), (xs, .inl (kA 0, mx, .inl (aI ((rtL t n sf fd.toNat 0 (ti, ts, te, tl, tc)).2.1)))), (xe, .inl (kA 0, mx, .inl (aI ((rtL t n sf fd.toNat 0 (ti, ts, te, tl, tc)).2.2.1)))), (xl, .inl (kA 0, mx, .inl (aI ((rtL t n sf fd.toNat 0 (ti, ts, te, tl, tc)).2.2.2.1))))]) (va_A [(ho, .inr (2, [.ref oc, .int (iI fd), .ref xi, .ref xs, .ref xe, .ref xl, .int (iI tc)])), (oc, .inl (kA 1, n, .inl (aI t))), (xi, .inl (kA 0, mx, .inl (aI ti))), (xs, .inl (kA 0, mx, .inl (aI ts))), (xe, .inl (kA 0, mx, .inl (aI te))), (xl, .inl (kA 0, mx, .inl (aI tl)))] sz)) 0 0 (va_A [(ho, .inr (2, [.ref oc, .int (iI fd), .ref xi, .ref xs, .ref xe, .ref xl, .int (iI tc)])), (oc, .inl (kA 1, n, .inl (aI t))), (xi, .inl (kA 0, mx, .inl (aI ti))), (xs, .inl (kA 0, mx, .inl (aI ts))), (xe, .inl (kA 0, mx, .inl (aI te))), (xl, .inl (kA 0, mx, .inl (aI tl)))] sz) := by
  refine li_mwv (by decide) (Nat.le_of_ble_eq_true rfl) ?_
  intro p e s m args below meth c Q A C hP hD hBx hK hN hG hA hAi hAN fin ls hl
  obtain ⟨hx, hb, hr, hml, hown, hts, hlocks, hin⟩ := C
  have hown : s.vm.findClass R_H = some m.cls := hown
  have hS : va_S A s.heap s.heap [] := va_S.rf
  have hl : lv_has ls 7 [(0, .ref ho), (1, .int (iI base))] := hl
  obtain ⟨hn, hmx, htc, ht, hti, hxs, hxe, hxl⟩ := id hH
  obtain ⟨hfd, hbase, hs0, hsn, hf⟩ := id hR
  have K_2 : ∀ (nn : Nat) (i : Int) (vi : Nat → Int) (vs : Nat → Int) (ve : Nat → Int) (vl : Nat → Int) (vc : Int), (0 ≤ i ∧ i ≤ fd) → (HR n mx t vi vs ve vl vc) → (vc + mkC t (n - (sf i).toNat) (sf i).toNat + (if i = 0 then 1 else 0) ≤ mx) → (base ≤ sf i ∧ sf i + 1 ≤ n) → (rtL t n sf (fd - i).toNat i (vi, vs, ve, vl, vc) = rtL t n sf fd.toNat 0 (ti, ts, te, tl, tc)) → ((fd - i).toNat < nn) → ∀ (H : Heap) (locs : List Loc), va_P (dC, dI) CL [(ho, .inr (2, [.ref oc, .int (iI fd), .ref xi, .ref xs, .ref xe, .ref xl, .int (iI vc)])), (oc, .inl (kA 1, n, .inl (aI t))), (xi, .inl (kA 0, mx, .inl (aI vi))), (xs, .inl (kA 0, mx, .inl (aI vs))), (xe, .inl (kA 0, mx, .inl (aI ve))), (xl, .inl (kA 0, mx, .inl (aI vl)))] H → va_D A [(ho, .inr (2, [.ref oc, .int (iI fd), .ref xi, .ref xs, .ref xe, .ref xl, .int (iI vc)])), (oc, .inl (kA 1, n, .inl (aI t))), (xi, .inl (kA 0, mx, .inl (aI vi))), (xs, .inl (kA 0, mx, .inl (aI vs))), (xe, .inl (kA 0, mx, .inl (aI ve))), (xl, .inl (kA 0, mx, .inl (aI vl)))] → va_S A s.heap H locs → ∀ ls : Array Slot, lv_has ls 7 [(0, .ref ho), (1, .int (iI base)), (2, .int (iI i))] → W p l e (rmd 3 0 0) s m args below meth c H locs 0 0 Q (F0 m 2 ls []) := by
    intro nn
    induction nn with
    | zero => intro i vi vs ve vl vc hi hHc hcp hsi hres hm; exact absurd hm (Nat.not_lt_zero _)
    | succ nn ih =>
      intro i vi vs ve vl vc hi hHc hcp hsi hres hm H locs hP hD hS ls hl
      obtain ⟨_, _, hvc, _, hvi, hvs, hve, hvl⟩ := id hHc
      refine lv_iload_n hx hb d_H_readTexts_2 rfl (lv_at hl 2 rfl) ?_
      refine lv_aload_n hx hb d_H_readTexts_3 rfl (lv_at hl 0 rfl) ?_
      refine gf_H_30 hx hb hts hown hK hP 0 rfl rfl d_H_readTexts_4 ?_
      refine li_icmp_ge (tgt := 104) hx hb d_H_readTexts_7 (by decide) (by omega) (by omega) (fun c1 => ?_) (fun c1 => ?_)
      · have _q := c1
        exact fin () _ _ _ _ (by rw [← hres, show (fd - i).toNat = 0 by omega]; exact hHc) (by rw [← hres, show (fd - i).toNat = 0 by omega]; exact hP) (by rw [← hres, show (fd - i).toNat = 0 by omega]; exact hD) hS d_H_readTexts_104
      · have _q := c1
        obtain ⟨ftag, fst, flen, fb, fid, fsub⟩ := hf i (by omega) (by omega)
        have hmn := mkC_nn t (n - (sf i).toNat) (sf i).toNat
        refine lv_bipush (v := iI 24) hx hb d_H_readTexts_10 (by decide) ?_
        refine lv_iload_n hx hb d_H_readTexts_12 rfl (lv_at hl 2 rfl) ?_
        refine lv_bipush (v := iI 12) hx hb d_H_readTexts_13 (by decide) ?_
        refine li_imul hx hb d_H_readTexts_15 ?_
        refine li_iadd hx hb d_H_readTexts_16 ?_
        refine li_nm (fun ent eent => ?_)
        refine lv_istore_n (lv' := [(3, .int (iI ent)), (0, .ref ho), (1, .int (iI base)), (2, .int (iI i))]) hx hb d_H_readTexts_17 rfl hl (by decide) rfl (fun ls hl => ?_)
        refine lv_aload_n hx hb d_H_readTexts_18 rfl (lv_at hl 1 rfl) ?_
        refine gf_H_18 hx hb hts hown hK hP 0 rfl rfl d_H_readTexts_19 ?_
        refine lv_iload_n hx hb d_H_readTexts_22 rfl (lv_at hl 0 rfl) ?_
        refine lv_iconst (v := iI 3) hx hb d_H_readTexts_23 rfl ?_
        refine li_callr ((va_runSN (As := [.ref oc, .int (iI ent), .int (iI 3)]) (rest := []) ⟨hx, hb, hml, hown, hts⟩ (c_Q_numberAt l dC dI kA oc n t ent 3 (by omega) (by omega) (by omega)) (cw_H_55 hts hN rfl rfl ⟨by decide, by decide⟩) (li_preS (hP.sub [1] rfl) hK hN (hG.go hS hAN)) rfl rfl hl.1 rfl (lv_room (Nat.le_of_ble_eq_true rfl)) d_H_readTexts_24 ⟨by decide, by decide⟩).run) ?_
        refine li_nm (fun tag etag => ?_)
        refine lv_istore (lv' := [(4, .int (iI tag)), (3, .int (iI ent)), (0, .ref ho), (1, .int (iI base)), (2, .int (iI i))]) hx hb d_H_readTexts_27 hl (by decide) rfl (fun ls hl => ?_)
        rw [eent] at etag
        refine lv_iload_n hx hb d_H_readTexts_29 rfl (lv_at hl 3 rfl) ?_
        refine lv_aload_n hx hb d_H_readTexts_30 rfl (lv_at hl 2 rfl) ?_
        refine gf_H_18 hx hb hts hown hK hP 0 rfl rfl d_H_readTexts_31 ?_
        refine lv_iload_n hx hb d_H_readTexts_34 rfl (lv_at hl 1 rfl) ?_
        refine lv_bipush (v := iI 7) hx hb d_H_readTexts_35 (by decide) ?_
        refine li_iadd hx hb d_H_readTexts_37 ?_
        refine lv_iconst (v := iI 5) hx hb d_H_readTexts_38 rfl ?_
        refine li_callr ((va_runSN (As := [.ref oc, .int (iI (ent + 7)), .int (iI 5)]) (rest := [.int (iI base)]) ⟨hx, hb, hml, hown, hts⟩ (c_Q_numberAt l dC dI kA oc n t (ent + 7) 5 (by omega) (by omega) (by omega)) (cw_H_55 hts hN rfl rfl ⟨by decide, by decide⟩) (li_preS (hP.sub [1] rfl) hK hN (hG.go hS hAN)) rfl rfl hl.1 rfl (lv_room (Nat.le_of_ble_eq_true rfl)) d_H_readTexts_39 ⟨by decide, by decide⟩).run) ?_
        refine li_iadd hx hb d_H_readTexts_42 ?_
        refine li_nm (fun st est => ?_)
        refine lv_istore (lv' := [(5, .int (iI st)), (4, .int (iI tag)), (3, .int (iI ent)), (0, .ref ho), (1, .int (iI base)), (2, .int (iI i))]) hx hb d_H_readTexts_43 hl (by decide) rfl (fun ls hl => ?_)
        rw [eent, fst] at est
        refine lv_iload hx hb d_H_readTexts_45 (lv_at hl 0 rfl) ?_
        refine lv_aload_n hx hb d_H_readTexts_47 rfl (lv_at hl 3 rfl) ?_
        refine gf_H_18 hx hb hts hown hK hP 0 rfl rfl d_H_readTexts_48 ?_
        refine lv_iload_n hx hb d_H_readTexts_51 rfl (lv_at hl 2 rfl) ?_
        refine lv_iconst (v := iI 3) hx hb d_H_readTexts_52 rfl ?_
        refine li_iadd hx hb d_H_readTexts_53 ?_
        refine lv_iconst (v := iI 4) hx hb d_H_readTexts_54 rfl ?_
        refine li_callr ((va_runSN (As := [.ref oc, .int (iI (ent + 3)), .int (iI 4)]) (rest := [.int (iI st)]) ⟨hx, hb, hml, hown, hts⟩ (c_Q_numberAt l dC dI kA oc n t (ent + 3) 4 (by omega) (by omega) (by omega)) (cw_H_55 hts hN rfl rfl ⟨by decide, by decide⟩) (li_preS (hP.sub [1] rfl) hK hN (hG.go hS hAN)) rfl rfl hl.1 rfl (lv_room (Nat.le_of_ble_eq_true rfl)) d_H_readTexts_55 ⟨by decide, by decide⟩).run) ?_
        refine li_iadd hx hb d_H_readTexts_58 ?_
        refine lv_iconst (v := iI 1) hx hb d_H_readTexts_59 rfl ?_
        refine li_isub hx hb d_H_readTexts_60 ?_
        refine li_nm (fun fe efe => ?_)
        refine lv_istore (lv' := [(6, .int (iI fe)), (5, .int (iI st)), (4, .int (iI tag)), (3, .int (iI ent)), (0, .ref ho), (1, .int (iI base)), (2, .int (iI i))]) hx hb d_H_readTexts_61 hl (by decide) rfl (fun ls hl => ?_)
        rw [eent, flen, est] at efe
        have efe : fe = sf (i + 1) - 1 := by omega
        have hsp := mkC_split t (a := (sf i).toNat) (b := (sf (i + 1)).toNat) (n := n) (by omega) (by omega)
        refine lv_iload hx hb d_H_readTexts_63 (lv_at hl 2 rfl) ?_
        refine lv_iconst (v := iI 1) hx hb d_H_readTexts_65 rfl ?_
        refine li_icmp_ne (tgt := 81) hx hb d_H_readTexts_66 (by decide) (by omega) (by omega) (fun c2 => ?_) (fun c2 => ?_)
        · have _q := c2
          refine lv_iload hx hb d_H_readTexts_81 (lv_at hl 2 rfl) ?_
          refine lv_bipush (v := iI 10) hx hb d_H_readTexts_83 (by decide) ?_
          refine li_icmp_lt (tgt := 98) hx hb d_H_readTexts_85 (by decide) (by omega) (by omega) (fun c3 => ?_) (fun c3 => ?_)
          · have _q := c3
            obtain ⟨x_i, ex_i⟩ : ∃ y : Int, y = i + 1 := ⟨_, rfl⟩
            refine lv_iinc (v := iI x_i) (lv' := [(2, .int (iI x_i)), (6, .int (iI fe)), (5, .int (iI st)), (4, .int (iI tag)), (3, .int (iI ent)), (0, .ref ho), (1, .int (iI base))]) hx hb d_H_readTexts_98 hl (k := 6) rfl (by rw [ex_i]; exact iI_add _ _) (by decide) rfl (fun ls hl => ?_)
            refine lv_goto (tgt := 2) hx hb d_H_readTexts_101 (by decide) ?_
            exact ih x_i vi vs ve vl vc (by first | omega | (subst_vars; omega)) (by first | exact hH | exact hHc | exact hpo.1 | exact HR_aT (u := (vi, vs, ve, vl, vc)) hHc (by omega) (by omega) (by omega) (by show vc < _; rw [if_pos (fid.mp (by omega))] at hcp; omega)) (by first | (rw [hs0, if_pos rfl]; exact hcap) | (rw [ex_i, if_neg (by omega)]; first | (rw [if_pos (fid.mp (by omega))] at hcp; have := mkC_nn t ((sf (i + 1)).toNat - (sf i).toNat) (sf i).toNat; omega) | (have hpo2 := hpo.2; have hg := fsub (by omega); have h5 := mkC_mono t (a := (sf i).toNat) (a2 := (st + 2).toNat) (b2 := fe.toNat) (b := (sf (i + 1)).toNat) (by omega) (by omega) (by omega); rw [show fe.toNat - (st + 2).toNat = (fe - (st + 2)).toNat by omega] at h5; split at hcp <;> omega) | (have := mkC_nn t ((sf (i + 1)).toNat - (sf i).toNat) (sf i).toNat; split at hcp <;> omega))) (by first | omega | (rw [hs0]; omega) | (rw [ex_i]; omega)) (by first | (rw [show fd - 0 = fd by omega]; done) | (rw [ex_i, ← hres, show (fd - i).toNat = (fd - (i + 1)).toNat + 1 by omega]; simp only [rtL, rtS]; rw [← etag, ← est, ← efe]; first | (rw [if_pos (by omega)]; done) | (rw [if_pos (by omega)]; rfl) | (rw [if_neg (by omega), if_pos (by omega)]; done) | (rw [if_neg (by omega), if_pos (by omega)]; rfl) | (rw [if_neg (by omega), if_neg (by omega)]; done))) (by omega) _ _ hP hD hS _ (lv_sub hl [5, 6, 0] rfl)
          · have _q := c3
            refine lv_aload_n hx hb d_H_readTexts_88 rfl (lv_at hl 4 rfl) ?_
            refine lv_iload hx hb d_H_readTexts_89 (lv_at hl 2 rfl) ?_
            refine lv_iload hx hb d_H_readTexts_91 (lv_at hl 1 rfl) ?_
            refine lv_iload hx hb d_H_readTexts_93 (lv_at hl 0 rfl) ?_
            refine li_callw (wc := [(ho, .inr (2, [.ref oc, .int (iI fd), .ref xi, .ref xs, .ref xe, .ref xl, .int (iI vc)])), (oc, .inl (kA 1, n, .inl (aI t))), (xi, .inl (kA 0, mx, .inl (aI vi))), (xs, .inl (kA 0, mx, .inl (aI vs))), (xe, .inl (kA 0, mx, .inl (aI ve))), (xl, .inl (kA 0, mx, .inl (aI vl)))]) (wr := []) (va_runV (As := [.int (iI tag), .int (iI st), .int (iI fe)]) (rest := []) ⟨hx, hb, hml, hown, hts⟩ (c_H_readSubfields l dC dI kA H.size ho oc xi xs xe xl n mx fd vc t vi vs ve vl tag st fe (by exact hHc) (by omega) (by have := fsub (by omega); omega) (by intro _; rw [est]; exact (fsub (by omega)).2) (by have hg := fsub (by omega); have h5 := mkC_mono t (a := (sf i).toNat) (a2 := (st + 2).toNat) (b2 := fe.toNat) (b := (sf (i + 1)).toNat) (by omega) (by omega) (by omega); have h6 := mkC_nn t (n - (sf (i + 1)).toNat) (sf (i + 1)).toNat; rw [show (fe - (st + 2)).toNat = fe.toNat - (st + 2).toNat by omega]; split at hcp <;> omega)) (cw_H_63 hts rfl rfl ⟨by decide, by decide⟩) (li_preV (va_recv hK hP (ci := 2) (q0 := 0) rfl rfl) ⟨rfl, hP.sub [0, 1, 2, 3, 4, 5] rfl, (hD.sub [0, 1, 2, 3, 4, 5] (by decide) rfl).weaken (fun _ _ _ h => hAN _ h), trivial⟩ hK hN (hG.go hS hAN)) rfl rfl hl.1 rfl (lv_room (Nat.le_of_ble_eq_true rfl)) d_H_readTexts_95 ⟨by decide, by decide⟩) hP hD hS hA [0, 1, 2, 3, 4, 5] [] rfl rfl (by decide) (by decide) (fun u4 H locs hu4 hP hD hS _hk => ?_)
            have hP : va_P (dC, dI) CL [(ho, .inr (2, [.ref oc, .int (iI fd), .ref xi, .ref xs, .ref xe, .ref xl, .int (iI ((rsL t tag st (fe - (st + 2)).toNat (st + 2) (vi, vs, ve, vl, vc)).2.2.2.2))])), (oc, .inl (kA 1, n, .inl (aI t))), (xi, .inl (kA 0, mx, .inl (aI ((rsL t tag st (fe - (st + 2)).toNat (st + 2) (vi, vs, ve, vl, vc)).1)))), (xs, .inl (kA 0, mx, .inl (aI ((rsL t tag st (fe - (st + 2)).toNat (st + 2) (vi, vs, ve, vl, vc)).2.1)))), (xe, .inl (kA 0, mx, .inl (aI ((rsL t tag st (fe - (st + 2)).toNat (st + 2) (vi, vs, ve, vl, vc)).2.2.1)))), (xl, .inl (kA 0, mx, .inl (aI ((rsL t tag st (fe - (st + 2)).toNat (st + 2) (vi, vs, ve, vl, vc)).2.2.2.1))))] H := hP
            have hD : va_D A [(ho, .inr (2, [.ref oc, .int (iI fd), .ref xi, .ref xs, .ref xe, .ref xl, .int (iI ((rsL t tag st (fe - (st + 2)).toNat (st + 2) (vi, vs, ve, vl, vc)).2.2.2.2))])), (oc, .inl (kA 1, n, .inl (aI t))), (xi, .inl (kA 0, mx, .inl (aI ((rsL t tag st (fe - (st + 2)).toNat (st + 2) (vi, vs, ve, vl, vc)).1)))), (xs, .inl (kA 0, mx, .inl (aI ((rsL t tag st (fe - (st + 2)).toNat (st + 2) (vi, vs, ve, vl, vc)).2.1)))), (xe, .inl (kA 0, mx, .inl (aI ((rsL t tag st (fe - (st + 2)).toNat (st + 2) (vi, vs, ve, vl, vc)).2.2.1)))), (xl, .inl (kA 0, mx, .inl (aI ((rsL t tag st (fe - (st + 2)).toNat (st + 2) (vi, vs, ve, vl, vc)).2.2.2.1))))] := hD
            have hpo : HRu n mx t (rsL t tag st (fe - (st + 2)).toNat (st + 2) (vi, vs, ve, vl, vc)) ∧ (rsL t tag st (fe - (st + 2)).toNat (st + 2) (vi, vs, ve, vl, vc)).2.2.2.2 = vc + mkC t (fe - (st + 2)).toNat (st + 2).toNat := hu4
            obtain ⟨x_i, ex_i⟩ : ∃ y : Int, y = i + 1 := ⟨_, rfl⟩
            refine lv_iinc (v := iI x_i) (lv' := [(2, .int (iI x_i)), (6, .int (iI fe)), (5, .int (iI st)), (4, .int (iI tag)), (3, .int (iI ent)), (0, .ref ho), (1, .int (iI base))]) hx hb d_H_readTexts_98 hl (k := 6) rfl (by rw [ex_i]; exact iI_add _ _) (by decide) rfl (fun ls hl => ?_)
            refine lv_goto (tgt := 2) hx hb d_H_readTexts_101 (by decide) ?_
            exact ih x_i ((rsL t tag st (fe - (st + 2)).toNat (st + 2) (vi, vs, ve, vl, vc)).1) ((rsL t tag st (fe - (st + 2)).toNat (st + 2) (vi, vs, ve, vl, vc)).2.1) ((rsL t tag st (fe - (st + 2)).toNat (st + 2) (vi, vs, ve, vl, vc)).2.2.1) ((rsL t tag st (fe - (st + 2)).toNat (st + 2) (vi, vs, ve, vl, vc)).2.2.2.1) ((rsL t tag st (fe - (st + 2)).toNat (st + 2) (vi, vs, ve, vl, vc)).2.2.2.2) (by first | omega | (subst_vars; omega)) (by first | exact hH | exact hHc | exact hpo.1 | exact HR_aT (u := (vi, vs, ve, vl, vc)) hHc (by omega) (by omega) (by omega) (by show vc < _; rw [if_pos (fid.mp (by omega))] at hcp; omega)) (by first | (rw [hs0, if_pos rfl]; exact hcap) | (rw [ex_i, if_neg (by omega)]; first | (rw [if_pos (fid.mp (by omega))] at hcp; have := mkC_nn t ((sf (i + 1)).toNat - (sf i).toNat) (sf i).toNat; omega) | (have hpo2 := hpo.2; have hg := fsub (by omega); have h5 := mkC_mono t (a := (sf i).toNat) (a2 := (st + 2).toNat) (b2 := fe.toNat) (b := (sf (i + 1)).toNat) (by omega) (by omega) (by omega); rw [show fe.toNat - (st + 2).toNat = (fe - (st + 2)).toNat by omega] at h5; split at hcp <;> omega) | (have := mkC_nn t ((sf (i + 1)).toNat - (sf i).toNat) (sf i).toNat; split at hcp <;> omega))) (by first | omega | (rw [hs0]; omega) | (rw [ex_i]; omega)) (by first | (rw [show fd - 0 = fd by omega]; done) | (rw [ex_i, ← hres, show (fd - i).toNat = (fd - (i + 1)).toNat + 1 by omega]; simp only [rtL, rtS]; rw [← etag, ← est, ← efe]; first | (rw [if_pos (by omega)]; done) | (rw [if_pos (by omega)]; rfl) | (rw [if_neg (by omega), if_pos (by omega)]; done) | (rw [if_neg (by omega), if_pos (by omega)]; rfl) | (rw [if_neg (by omega), if_neg (by omega)]; done))) (by omega) _ _ hP hD hS _ (lv_sub hl [5, 6, 0] rfl)
        · have _q := c2
          refine lv_aload_n hx hb d_H_readTexts_69 rfl (lv_at hl 4 rfl) ?_
          refine lv_iconst (v := iI 5) hx hb d_H_readTexts_70 rfl ?_
          refine lv_iload hx hb d_H_readTexts_71 (lv_at hl 1 rfl) ?_
          refine lv_iload hx hb d_H_readTexts_73 (lv_at hl 0 rfl) ?_
          refine li_callw (wc := [(ho, .inr (2, [.ref oc, .int (iI fd), .ref xi, .ref xs, .ref xe, .ref xl, .int (iI vc)])), (oc, .inl (kA 1, n, .inl (aI t))), (xi, .inl (kA 0, mx, .inl (aI vi))), (xs, .inl (kA 0, mx, .inl (aI vs))), (xe, .inl (kA 0, mx, .inl (aI ve))), (xl, .inl (kA 0, mx, .inl (aI vl)))]) (wr := []) (va_runV (As := [.int (iI 5), .int (iI st), .int (iI fe)]) (rest := []) ⟨hx, hb, hml, hown, hts⟩ (c_H_addText l dC dI kA H.size ho oc xi xs xe xl n mx fd vc t vi vs ve vl 5 st fe (by exact hHc) (by omega) (by omega) (by omega) (by have := (show tag = 1 by omega); have hi0 : i = 0 := fid.mp (by omega); rw [if_pos hi0] at hcp; omega)) (cw_H_59 hts rfl rfl ⟨by decide, by decide⟩) (li_preV (va_recv hK hP (ci := 2) (q0 := 0) rfl rfl) ⟨rfl, hP.sub [0, 1, 2, 3, 4, 5] rfl, (hD.sub [0, 1, 2, 3, 4, 5] (by decide) rfl).weaken (fun _ _ _ h => hAN _ h), trivial⟩ hK hN (hG.go hS hAN)) rfl rfl hl.1 rfl (lv_room (Nat.le_of_ble_eq_true rfl)) d_H_readTexts_75 ⟨by decide, by decide⟩) hP hD hS hA [0, 1, 2, 3, 4, 5] [] rfl rfl (by decide) (by decide) (fun u5 H locs hu5 hP hD hS _hk => ?_)
          have hP : va_P (dC, dI) CL [(ho, .inr (2, [.ref oc, .int (iI fd), .ref xi, .ref xs, .ref xe, .ref xl, .int (iI (vc + 1))])), (oc, .inl (kA 1, n, .inl (aI t))), (xi, .inl (kA 0, mx, .inl (aI (va_up vi vc.toNat 5)))), (xs, .inl (kA 0, mx, .inl (aI (va_up vs vc.toNat st)))), (xe, .inl (kA 0, mx, .inl (aI (va_up ve vc.toNat fe)))), (xl, .inl (kA 0, mx, .inl (aI vl)))] H := hP
          have hD : va_D A [(ho, .inr (2, [.ref oc, .int (iI fd), .ref xi, .ref xs, .ref xe, .ref xl, .int (iI (vc + 1))])), (oc, .inl (kA 1, n, .inl (aI t))), (xi, .inl (kA 0, mx, .inl (aI (va_up vi vc.toNat 5)))), (xs, .inl (kA 0, mx, .inl (aI (va_up vs vc.toNat st)))), (xe, .inl (kA 0, mx, .inl (aI (va_up ve vc.toNat fe)))), (xl, .inl (kA 0, mx, .inl (aI vl)))] := hD
          refine lv_goto (tgt := 98) hx hb d_H_readTexts_78 (by decide) ?_
          obtain ⟨x_i, ex_i⟩ : ∃ y : Int, y = i + 1 := ⟨_, rfl⟩
          refine lv_iinc (v := iI x_i) (lv' := [(2, .int (iI x_i)), (6, .int (iI fe)), (5, .int (iI st)), (4, .int (iI tag)), (3, .int (iI ent)), (0, .ref ho), (1, .int (iI base))]) hx hb d_H_readTexts_98 hl (k := 6) rfl (by rw [ex_i]; exact iI_add _ _) (by decide) rfl (fun ls hl => ?_)
          refine lv_goto (tgt := 2) hx hb d_H_readTexts_101 (by decide) ?_
          exact ih x_i (va_up vi vc.toNat 5) (va_up vs vc.toNat st) (va_up ve vc.toNat fe) vl (vc + 1) (by first | omega | (subst_vars; omega)) (by first | exact hH | exact hHc | exact hpo.1 | exact HR_aT (u := (vi, vs, ve, vl, vc)) hHc (by omega) (by omega) (by omega) (by show vc < _; rw [if_pos (fid.mp (by omega))] at hcp; omega)) (by first | (rw [hs0, if_pos rfl]; exact hcap) | (rw [ex_i, if_neg (by omega)]; first | (rw [if_pos (fid.mp (by omega))] at hcp; have := mkC_nn t ((sf (i + 1)).toNat - (sf i).toNat) (sf i).toNat; omega) | (have hpo2 := hpo.2; have hg := fsub (by omega); have h5 := mkC_mono t (a := (sf i).toNat) (a2 := (st + 2).toNat) (b2 := fe.toNat) (b := (sf (i + 1)).toNat) (by omega) (by omega) (by omega); rw [show fe.toNat - (st + 2).toNat = (fe - (st + 2)).toNat by omega] at h5; split at hcp <;> omega) | (have := mkC_nn t ((sf (i + 1)).toNat - (sf i).toNat) (sf i).toNat; split at hcp <;> omega))) (by first | omega | (rw [hs0]; omega) | (rw [ex_i]; omega)) (by first | (rw [show fd - 0 = fd by omega]; done) | (rw [ex_i, ← hres, show (fd - i).toNat = (fd - (i + 1)).toNat + 1 by omega]; simp only [rtL, rtS]; rw [← etag, ← est, ← efe]; first | (rw [if_pos (by omega)]; done) | (rw [if_pos (by omega)]; rfl) | (rw [if_neg (by omega), if_pos (by omega)]; done) | (rw [if_neg (by omega), if_pos (by omega)]; rfl) | (rw [if_neg (by omega), if_neg (by omega)]; done))) (by omega) _ _ hP hD hS _ (lv_sub hl [5, 6, 0] rfl)
  refine lv_iconst (v := iI 0) hx hb d_H_readTexts_0 rfl ?_
  refine lv_istore_n (lv' := [(2, .int (iI 0)), (0, .ref ho), (1, .int (iI base))]) hx hb d_H_readTexts_1 rfl hl (by decide) rfl (fun ls hl => ?_)
  exact K_2 ((fd - 0).toNat + 1) 0 ti ts te tl tc (by first | omega | (subst_vars; omega)) (by first | exact hH | exact hHc | exact hpo.1 | exact HR_aT (u := (vi, vs, ve, vl, vc)) hHc (by omega) (by omega) (by omega) (by show vc < _; rw [if_pos (fid.mp (by omega))] at hcp; omega)) (by first | (rw [hs0, if_pos rfl]; exact hcap) | (rw [ex_i, if_neg (by omega)]; first | (rw [if_pos (fid.mp (by omega))] at hcp; have := mkC_nn t ((sf (i + 1)).toNat - (sf i).toNat) (sf i).toNat; omega) | (have hpo2 := hpo.2; have hg := fsub (by omega); have h5 := mkC_mono t (a := (sf i).toNat) (a2 := (st + 2).toNat) (b2 := fe.toNat) (b := (sf (i + 1)).toNat) (by omega) (by omega) (by omega); rw [show fe.toNat - (st + 2).toNat = (fe - (st + 2)).toNat by omega] at h5; split at hcp <;> omega) | (have := mkC_nn t ((sf (i + 1)).toNat - (sf i).toNat) (sf i).toNat; split at hcp <;> omega))) (by first | omega | (rw [hs0]; omega) | (rw [ex_i]; omega)) (by first | (rw [show fd - 0 = fd by omega]; done) | (rw [ex_i, ← hres, show (fd - i).toNat = (fd - (i + 1)).toNat + 1 by omega]; simp only [rtL, rtS]; rw [← etag, ← est, ← efe]; first | (rw [if_pos (by omega)]; done) | (rw [if_pos (by omega)]; rfl) | (rw [if_neg (by omega), if_pos (by omega)]; done) | (rw [if_neg (by omega), if_pos (by omega)]; rfl) | (rw [if_neg (by omega), if_neg (by omega)]; done))) (Nat.lt_succ_self _) _ _ hP hD hS _ (lv_sub hl [1, 2, 0] rfl)

abbrev St4 : Type := (Nat → Int) × (Nat → Int) × (Nat → Int) × (Nat → Int) × Int
def aT (u : St4) (ix a b : Int) : St4 := (va_up u.1 u.2.2.2.2.toNat ix, va_up u.2.1 u.2.2.2.2.toNat a, va_up u.2.2.1 u.2.2.2.2.toNat b, u.2.2.2.1, u.2.2.2.2 + 1)
def lO (u : St4) (k : Int) : St4 := (u.1, u.2.1, u.2.2.1, va_up u.2.2.2.1 (u.2.2.2.2 - 1).toNat k, u.2.2.2.2)
def eT (u : St4) (k : Int) : St4 := (u.1, u.2.1, va_up u.2.2.1 (u.2.2.2.2 - 1).toNat k, u.2.2.2.1, u.2.2.2.2)
def rsS (t : Nat → Int) (tag st : Int) (u : St4) (x : Int) : St4 := if t x.toNat = 31 then (if t (x + 1).toNat = 97 ∧ isDig (t (st + 1).toNat) = true then lO (aT u (ixOf tag (t (x + 1).toNat)) (x + 2) (x + 2)) (t (st + 1).toNat - 48) else aT u (ixOf tag (t (x + 1).toNat)) (x + 2) (x + 2)) else eT u (x + 1)
def rsL (t : Nat → Int) (tag st : Int) : Nat → Int → St4 → St4
  | 0, _, u => u
  | k + 1, x, u => rsL t tag st k (x + 1) (rsS t tag st u x)
def mkC (t : Nat → Int) : Nat → Nat → Int
  | 0, _ => 0
  | k + 1, x => (if t x = 31 then 1 else 0) + mkC t k (x + 1)
theorem mkC_nn (t : Nat → Int) : ∀ (k x : Nat), 0 ≤ mkC t k x := by
  intro k
  induction k with
  | zero => intro x; simp [mkC]
  | succ k ih => intro x; simp only [mkC]; have := ih (x + 1); split <;> omega
theorem ixOf_r (tag cd : Int) : 0 ≤ ixOf tag cd ∧ ixOf tag cd ≤ 5 := by unfold ixOf; repeat (first | omega | split)
theorem up_r {f : Nat → Int} {lo hi : Int} {k : Nat} {v : Int} (h : ∀ j, lo ≤ f j ∧ f j ≤ hi) (hv : lo ≤ v ∧ v ≤ hi) : ∀ j, lo ≤ va_up f k v j ∧ va_up f k v j ≤ hi := by
  intro j; unfold va_up; split
  · exact hv
  · exact h j
def HRu (n mx : Nat) (t : Nat → Int) (u : St4) : Prop := HR n mx t u.1 u.2.1 u.2.2.1 u.2.2.2.1 u.2.2.2.2
theorem HR_aT {n mx : Nat} {t : Nat → Int} {u : St4} {ix a b : Int} (h : HRu n mx t u) (hix : 0 ≤ ix ∧ ix ≤ 5) (ha : 0 ≤ a ∧ a ≤ 1000) (hb : 0 ≤ b ∧ b ≤ 1000) (hr : u.2.2.2.2 < mx) : HRu n mx t (aT u ix a b) := by
  obtain ⟨h1, h2, h3, h4, h5, h6, h7, h8⟩ := h
  refine ⟨h1, h2, ?_, h4, up_r h5 hix, up_r h6 ha, up_r h7 hb, h8⟩
  show 0 ≤ u.2.2.2.2 + 1 ∧ u.2.2.2.2 + 1 ≤ mx
  omega
theorem HR_lO {n mx : Nat} {t : Nat → Int} {u : St4} {k : Int} (h : HRu n mx t u) (hk : 0 ≤ k ∧ k ≤ 9) : HRu n mx t (lO u k) := by
  obtain ⟨h1, h2, h3, h4, h5, h6, h7, h8⟩ := h
  exact ⟨h1, h2, h3, h4, h5, h6, h7, up_r h8 hk⟩
theorem HR_eT {n mx : Nat} {t : Nat → Int} {u : St4} {k : Int} (h : HRu n mx t u) (hk : 0 ≤ k ∧ k ≤ 1000) : HRu n mx t (eT u k) := by
  obtain ⟨h1, h2, h3, h4, h5, h6, h7, h8⟩ := h
  exact ⟨h1, h2, h3, h4, h5, h6, up_r h7 hk, h8⟩

theorem d_H_readSubfields_0 : decode b_H_readSubfields 0 = .ok (.iload_n 2, 1) := by decide +kernel
theorem d_H_readSubfields_1 : decode b_H_readSubfields 1 = .ok (.iconst 2, 1) := by decide +kernel
theorem d_H_readSubfields_2 : decode b_H_readSubfields 2 = .ok (.iadd, 1) := by decide +kernel
theorem d_H_readSubfields_3 : decode b_H_readSubfields 3 = .ok (.istore 4, 2) := by decide +kernel
theorem d_H_readSubfields_5 : decode b_H_readSubfields 5 = .ok (.iload 4, 2) := by decide +kernel
theorem d_H_readSubfields_7 : decode b_H_readSubfields 7 = .ok (.iload_n 3, 1) := by decide +kernel
theorem d_H_readSubfields_8 : decode b_H_readSubfields 8 = .ok (.if_icmp .ge 109, 3) := by decide +kernel
theorem d_H_readSubfields_11 : decode b_H_readSubfields 11 = .ok (.iload 4, 2) := by decide +kernel
theorem d_H_readSubfields_13 : decode b_H_readSubfields 13 = .ok (.iconst 1, 1) := by decide +kernel
theorem d_H_readSubfields_14 : decode b_H_readSubfields 14 = .ok (.iadd, 1) := by decide +kernel
theorem d_H_readSubfields_15 : decode b_H_readSubfields 15 = .ok (.aload_n 0, 1) := by decide +kernel
theorem d_H_readSubfields_16 : decode b_H_readSubfields 16 = .ok (.getfield 18, 3) := by decide +kernel
theorem d_H_readSubfields_19 : decode b_H_readSubfields 19 = .ok (.arraylength, 1) := by decide +kernel
theorem d_H_readSubfields_20 : decode b_H_readSubfields 20 = .ok (.if_icmp .ge 97, 3) := by decide +kernel
theorem d_H_readSubfields_23 : decode b_H_readSubfields 23 = .ok (.aload_n 0, 1) := by decide +kernel
theorem d_H_readSubfields_24 : decode b_H_readSubfields 24 = .ok (.getfield 18, 3) := by decide +kernel
theorem d_H_readSubfields_27 : decode b_H_readSubfields 27 = .ok (.iload 4, 2) := by decide +kernel
theorem d_H_readSubfields_29 : decode b_H_readSubfields 29 = .ok (.caload, 1) := by decide +kernel
theorem d_H_readSubfields_30 : decode b_H_readSubfields 30 = .ok (.bipush 31, 2) := by decide +kernel
theorem d_H_readSubfields_32 : decode b_H_readSubfields 32 = .ok (.if_icmp .ne 71, 3) := by decide +kernel
theorem d_H_readSubfields_35 : decode b_H_readSubfields 35 = .ok (.aload_n 0, 1) := by decide +kernel
theorem d_H_readSubfields_36 : decode b_H_readSubfields 36 = .ok (.getfield 18, 3) := by decide +kernel
theorem d_H_readSubfields_39 : decode b_H_readSubfields 39 = .ok (.iload 4, 2) := by decide +kernel
theorem d_H_readSubfields_41 : decode b_H_readSubfields 41 = .ok (.iconst 1, 1) := by decide +kernel
theorem d_H_readSubfields_42 : decode b_H_readSubfields 42 = .ok (.iadd, 1) := by decide +kernel
theorem d_H_readSubfields_43 : decode b_H_readSubfields 43 = .ok (.caload, 1) := by decide +kernel
theorem d_H_readSubfields_44 : decode b_H_readSubfields 44 = .ok (.istore 5, 2) := by decide +kernel
theorem d_H_readSubfields_46 : decode b_H_readSubfields 46 = .ok (.aload_n 0, 1) := by decide +kernel
theorem d_H_readSubfields_47 : decode b_H_readSubfields 47 = .ok (.iload_n 1, 1) := by decide +kernel
theorem d_H_readSubfields_48 : decode b_H_readSubfields 48 = .ok (.iload 5, 2) := by decide +kernel
theorem d_H_readSubfields_50 : decode b_H_readSubfields 50 = .ok (.invokestatic 66, 3) := by decide +kernel
theorem d_H_readSubfields_53 : decode b_H_readSubfields 53 = .ok (.iload 4, 2) := by decide +kernel
theorem d_H_readSubfields_55 : decode b_H_readSubfields 55 = .ok (.iconst 2, 1) := by decide +kernel
theorem d_H_readSubfields_56 : decode b_H_readSubfields 56 = .ok (.iadd, 1) := by decide +kernel
theorem d_H_readSubfields_57 : decode b_H_readSubfields 57 = .ok (.iload 4, 2) := by decide +kernel
theorem d_H_readSubfields_59 : decode b_H_readSubfields 59 = .ok (.iconst 2, 1) := by decide +kernel
theorem d_H_readSubfields_60 : decode b_H_readSubfields 60 = .ok (.iadd, 1) := by decide +kernel
theorem d_H_readSubfields_61 : decode b_H_readSubfields 61 = .ok (.invokevirtual 59, 3) := by decide +kernel
theorem d_H_readSubfields_64 : decode b_H_readSubfields 64 = .ok (.iload 5, 2) := by decide +kernel
theorem d_H_readSubfields_66 : decode b_H_readSubfields 66 = .ok (.bipush 97, 2) := by decide +kernel
theorem d_H_readSubfields_68 : decode b_H_readSubfields 68 = .ok (.if_icmp .ne 32, 3) := by decide +kernel
theorem d_H_readSubfields_71 : decode b_H_readSubfields 71 = .ok (.aload_n 0, 1) := by decide +kernel
theorem d_H_readSubfields_72 : decode b_H_readSubfields 72 = .ok (.getfield 18, 3) := by decide +kernel
theorem d_H_readSubfields_75 : decode b_H_readSubfields 75 = .ok (.iload_n 2, 1) := by decide +kernel
theorem d_H_readSubfields_76 : decode b_H_readSubfields 76 = .ok (.iconst 1, 1) := by decide +kernel
theorem d_H_readSubfields_77 : decode b_H_readSubfields 77 = .ok (.iadd, 1) := by decide +kernel
theorem d_H_readSubfields_78 : decode b_H_readSubfields 78 = .ok (.caload, 1) := by decide +kernel
theorem d_H_readSubfields_79 : decode b_H_readSubfields 79 = .ok (.invokestatic 70, 3) := by decide +kernel
theorem d_H_readSubfields_82 : decode b_H_readSubfields 82 = .ok (.ifCond .eq 18, 3) := by decide +kernel
theorem d_H_readSubfields_85 : decode b_H_readSubfields 85 = .ok (.aload_n 0, 1) := by decide +kernel
theorem d_H_readSubfields_86 : decode b_H_readSubfields 86 = .ok (.aload_n 0, 1) := by decide +kernel
theorem d_H_readSubfields_87 : decode b_H_readSubfields 87 = .ok (.getfield 18, 3) := by decide +kernel
theorem d_H_readSubfields_90 : decode b_H_readSubfields 90 = .ok (.iload_n 2, 1) := by decide +kernel
theorem d_H_readSubfields_91 : decode b_H_readSubfields 91 = .ok (.iconst 1, 1) := by decide +kernel
theorem d_H_readSubfields_92 : decode b_H_readSubfields 92 = .ok (.iadd, 1) := by decide +kernel
theorem d_H_readSubfields_93 : decode b_H_readSubfields 93 = .ok (.caload, 1) := by decide +kernel
theorem d_H_readSubfields_94 : decode b_H_readSubfields 94 = .ok (.bipush 48, 2) := by decide +kernel
theorem d_H_readSubfields_96 : decode b_H_readSubfields 96 = .ok (.isub, 1) := by decide +kernel
theorem d_H_readSubfields_97 : decode b_H_readSubfields 97 = .ok (.invokevirtual 74, 3) := by decide +kernel
theorem d_H_readSubfields_100 : decode b_H_readSubfields 100 = .ok (.goto 11, 3) := by decide +kernel
theorem d_H_readSubfields_103 : decode b_H_readSubfields 103 = .ok (.aload_n 0, 1) := by decide +kernel
theorem d_H_readSubfields_104 : decode b_H_readSubfields 104 = .ok (.iload 4, 2) := by decide +kernel
theorem d_H_readSubfields_106 : decode b_H_readSubfields 106 = .ok (.iconst 1, 1) := by decide +kernel
theorem d_H_readSubfields_107 : decode b_H_readSubfields 107 = .ok (.iadd, 1) := by decide +kernel
theorem d_H_readSubfields_108 : decode b_H_readSubfields 108 = .ok (.invokevirtual 77, 3) := by decide +kernel
theorem d_H_readSubfields_111 : decode b_H_readSubfields 111 = .ok (.iinc 4 1, 3) := by decide +kernel
theorem d_H_readSubfields_114 : decode b_H_readSubfields 114 = .ok (.goto (-109), 3) := by decide +kernel
theorem d_H_readSubfields_117 : decode b_H_readSubfields 117 = .ok (.return_, 1) := by decide +kernel
set_option maxHeartbeats 4000000 in
set_option maxRecDepth 100000 in
theorem c_H_readSubfields (l : Launch) (dC : Nat → ClassId) (dI : Nat → Nat → Nat) (kA : Nat → ClassId) (sz : Nat) (ho : Nat) (oc : Nat) (xi : Nat) (xs : Nat) (xe : Nat) (xl : Nat) (n : Nat) (mx : Nat) (fd : Int) (tc : Int) (t : Nat → Int) (ti : Nat → Int) (ts : Nat → Int) (te : Nat → Int) (tl : Nat → Int) (tag : Int) (st : Int) (en : Int) (hH : HR n mx t ti ts te tl tc) (htag : -2147483648 ≤ tag ∧ tag < 2147483648) (hst : 0 ≤ st ∧ st + 2 ≤ en ∧ en + 1 < n) (h31 : st + 2 < en → t (st + 2).toNat = 31) (hcap : tc + mkC t (en - (st + 2)).toNat (st + 2).toNat ≤ mx) : Met l y_H_readSubfields (wsy y_H_readSubfields b_H_readSubfields 6 none) (rmd 2 0 0) (li_Pr (dC, dI) CL (TY kA) [.ref ho, .int (iI tag), .int (iI st), .int (iI en)] (fun h => h.size = sz ∧ va_P (dC, dI) CL [(ho, .inr (2, [.ref oc, .int (iI fd), .ref xi, .ref xs, .ref xe, .ref xl, .int (iI tc)])), (oc, .inl (kA 1, n, .inl (aI t))), (xi, .inl (kA 0, mx, .inl (aI ti))), (xs, .inl (kA 0, mx, .inl (aI ts))), (xe, .inl (kA 0, mx, .inl (aI te))), (xl, .inl (kA 0, mx, .inl (aI tl)))] h ∧ va_D (fun _ => True) [(ho, .inr (2, [.ref oc, .int (iI fd), .ref xi, .ref xs, .ref xe, .ref xl, .int (iI tc)])), (oc, .inl (kA 1, n, .inl (aI t))), (xi, .inl (kA 0, mx, .inl (aI ti))), (xs, .inl (kA 0, mx, .inl (aI ts))), (xe, .inl (kA 0, mx, .inl (aI te))), (xl, .inl (kA 0, mx, .inl (aI tl)))] ∧ (fun _ => True) h)) (li_Qw (S := Unit) (dC, dI) CL (fun _ => True) (fun _ => none) (fun _ => [(ho, .inr (2, [.ref oc, .int (iI fd), .ref xi, .ref xs, .ref xe, .ref xl, .int (iI ((rsL t tag st (en - (st + 2)).toNat (st + 2) (ti, ts, te, tl, tc)).2.2.2.2))])), (oc, .inl (kA 1, n, .inl (aI t))), (xi, .inl (kA 0, mx, .inl (aI ((rsL t tag st (en - (st + 2)).toNat (st + 2) (ti, ts, te, tl, tc)).1)))), (xs, .inl (kA 0, mx, .inl (aI ((rsL t tag st (en - (st + 2)).toNat (st + 2) (ti, ts, te, tl, tc)).2.1)))), (xe, .inl (kA 0, mx, .inl (aI ((rsL t tag st (en - (st + 2)).toNat (st + 2) (ti, ts, te, tl, tc)).2.2.1)))), (xl, .inl (kA 0, mx, .inl (aI ((rsL t tag st (en - (st + 2)).toNat (st + 2) (ti, ts, te, tl, tc)).2.2.2.1))))]) (va_A [(ho, .inr (2, [.ref oc, .int (iI fd), .ref xi, .ref xs, .ref xe, .ref xl, .int (iI tc)])), (oc, .inl (kA 1, n, .inl (aI t))), (xi, .inl (kA 0, mx, .inl (aI ti))), (xs, .inl (kA 0, mx, .inl (aI ts))), (xe, .inl (kA 0, mx, .inl (aI te))), (xl, .inl (kA 0, mx, .inl (aI tl)))] sz)) 0 0 (va_A [(ho, .inr (2, [.ref oc, .int (iI fd), .ref xi, .ref xs, .ref xe, .ref xl, .int (iI tc)])), (oc, .inl (kA 1, n, .inl (aI t))), (xi, .inl (kA 0, mx, .inl (aI ti))), (xs, .inl (kA 0, mx, .inl (aI ts))), (xe, .inl (kA 0, mx, .inl (aI te))), (xl, .inl (kA 0, mx, .inl (aI tl)))] sz) := by
  refine li_mwv (by decide) (Nat.le_of_ble_eq_true rfl) ?_
  intro p e s m args below meth c Q A C hP hD hBx hK hN hA hAi fin ls hl
  obtain ⟨hx, hb, hr, hml, hown, hts, hlocks, hin⟩ := C
  have hown : s.vm.findClass R_H = some m.cls := hown
  have hS : va_S A s.heap s.heap [] := va_S.rf
  have hl : lv_has ls 6 [(0, .ref ho), (1, .int (iI tag)), (2, .int (iI st)), (3, .int (iI en))] := hl
  obtain ⟨hn, hmx, htc, ht, hti, hxs, hxe, hxl⟩ := id hH
  have K_5 : ∀ (nn : Nat) (q : Int) (vi : Nat → Int) (vs : Nat → Int) (ve : Nat → Int) (vl : Nat → Int) (vc : Int), (st + 2 ≤ q ∧ q ≤ en) → (HR n mx t vi vs ve vl vc) → (vc + mkC t (en - q).toNat q.toNat ≤ mx) → (q = st + 2 ∨ 0 < vc) → (rsL t tag st (en - q).toNat q (vi, vs, ve, vl, vc) = rsL t tag st (en - (st + 2)).toNat (st + 2) (ti, ts, te, tl, tc)) → ((en - q).toNat < nn) → ∀ (H : Heap) (locs : List Loc), va_P (dC, dI) CL [(ho, .inr (2, [.ref oc, .int (iI fd), .ref xi, .ref xs, .ref xe, .ref xl, .int (iI vc)])), (oc, .inl (kA 1, n, .inl (aI t))), (xi, .inl (kA 0, mx, .inl (aI vi))), (xs, .inl (kA 0, mx, .inl (aI vs))), (xe, .inl (kA 0, mx, .inl (aI ve))), (xl, .inl (kA 0, mx, .inl (aI vl)))] H → va_D A [(ho, .inr (2, [.ref oc, .int (iI fd), .ref xi, .ref xs, .ref xe, .ref xl, .int (iI vc)])), (oc, .inl (kA 1, n, .inl (aI t))), (xi, .inl (kA 0, mx, .inl (aI vi))), (xs, .inl (kA 0, mx, .inl (aI vs))), (xe, .inl (kA 0, mx, .inl (aI ve))), (xl, .inl (kA 0, mx, .inl (aI vl)))] → va_S A s.heap H locs → ∀ ls : Array Slot, lv_has ls 6 [(0, .ref ho), (1, .int (iI tag)), (2, .int (iI st)), (3, .int (iI en)), (4, .int (iI q))] → W p l e (rmd 2 0 0) s m args below meth c H locs 0 0 Q (F0 m 5 ls []) := by
    intro nn
    induction nn with
    | zero => intro q vi vs ve vl vc hq hHc hcp hps hres hm; exact absurd hm (Nat.not_lt_zero _)
    | succ nn ih =>
      intro q vi vs ve vl vc hq hHc hcp hps hres hm H locs hP hD hS ls hl
      obtain ⟨_, _, hvc, _, hvi, hvs, hve, hvl⟩ := id hHc
      refine lv_iload hx hb d_H_readSubfields_5 (lv_at hl 4 rfl) ?_
      refine lv_iload_n hx hb d_H_readSubfields_7 rfl (lv_at hl 3 rfl) ?_
      refine li_icmp_ge (tgt := 117) hx hb d_H_readSubfields_8 (by decide) (by omega) (by omega) (fun c1 => ?_) (fun c1 => ?_)
      · have _q := c1
        exact fin () _ _ _ _ (by trivial) (by rw [← hres, show (en - q).toNat = 0 by omega]; exact hP) (by rw [← hres, show (en - q).toNat = 0 by omega]; exact hD) hS d_H_readSubfields_117
      · have _q := c1
        refine lv_iload hx hb d_H_readSubfields_11 (lv_at hl 4 rfl) ?_
        refine lv_iconst (v := iI 1) hx hb d_H_readSubfields_13 rfl ?_
        refine li_iadd hx hb d_H_readSubfields_14 ?_
        refine lv_aload_n hx hb d_H_readSubfields_15 rfl (lv_at hl 0 rfl) ?_
        refine gf_H_18 hx hb hts hown hK hP 0 rfl rfl d_H_readSubfields_16 ?_
        refine li_alen hx hb hK hP 1 1 rfl rfl d_H_readSubfields_19 ?_
        refine li_icmp_ge (tgt := 117) hx hb d_H_readSubfields_20 (by decide) (by omega) (by omega) (fun c2 => ?_) (fun c2 => ?_)
        · have _q := c2
          exact absurd c2 (by omega)
        · have _q := c2
          refine lv_aload_n hx hb d_H_readSubfields_23 rfl (lv_at hl 0 rfl) ?_
          refine gf_H_18 hx hb hts hown hK hP 0 rfl rfl d_H_readSubfields_24 ?_
          refine lv_iload hx hb d_H_readSubfields_27 (lv_at hl 4 rfl) ?_
          refine li_cald hx hb hK hP 1 1 rfl rfl (by omega) (by omega) (by omega) d_H_readSubfields_29 ?_
          have f3 := ht q.toNat
          refine lv_bipush (v := iI 31) hx hb d_H_readSubfields_30 (by decide) ?_
          refine li_icmp_ne (tgt := 103) hx hb d_H_readSubfields_32 (by decide) (by omega) (by omega) (fun c4 => ?_) (fun c4 => ?_)
          · have _q := c4
            have hq1 := hcp
            rw [show (en - q).toNat = (en - (q + 1)).toNat + 1 by omega] at hq1
            simp only [mkC] at hq1
            rw [if_neg (by assumption)] at hq1
            have hlt : q < en := by omega
            have hnq : ¬ q = st + 2 := fun e => by have := h31 (by omega); rw [← e] at this; contradiction
            refine lv_aload_n hx hb d_H_readSubfields_103 rfl (lv_at hl 0 rfl) ?_
            refine lv_iload hx hb d_H_readSubfields_104 (lv_at hl 4 rfl) ?_
            refine lv_iconst (v := iI 1) hx hb d_H_readSubfields_106 rfl ?_
            refine li_iadd hx hb d_H_readSubfields_107 ?_
            refine li_callw (wc := [(ho, .inr (2, [.ref oc, .int (iI fd), .ref xi, .ref xs, .ref xe, .ref xl, .int (iI vc)])), (oc, .inl (kA 1, n, .inl (aI t))), (xi, .inl (kA 0, mx, .inl (aI vi))), (xs, .inl (kA 0, mx, .inl (aI vs))), (xe, .inl (kA 0, mx, .inl (aI ve))), (xl, .inl (kA 0, mx, .inl (aI vl)))]) (wr := []) (va_runV (As := [.int (iI (q + 1))]) (rest := []) ⟨hx, hb, hml, hown, hts⟩ (c_H_endText l dC dI kA H.size ho oc xi xs xe xl n mx fd vc t vi vs ve vl (q + 1) (by exact hHc) (by omega) (by omega)) (cw_H_77 hts rfl rfl ⟨by decide, by decide⟩) (li_preV (va_recv hK hP (ci := 2) (q0 := 0) rfl rfl) ⟨rfl, hP.sub [0, 1, 2, 3, 4, 5] rfl, (hD.sub [0, 1, 2, 3, 4, 5] (by decide) rfl).weaken (fun _ _ _ _ => trivial), trivial⟩ hK hN) rfl rfl hl.1 rfl (lv_room (Nat.le_of_ble_eq_true rfl)) d_H_readSubfields_108 ⟨by decide, by decide⟩) hP hD hS hA [0, 1, 2, 3, 4, 5] [] rfl rfl (by decide) (by decide) (fun u5 H locs hu5 hP hD hS _hk => ?_)
            have hP : va_P (dC, dI) CL [(ho, .inr (2, [.ref oc, .int (iI fd), .ref xi, .ref xs, .ref xe, .ref xl, .int (iI vc)])), (oc, .inl (kA 1, n, .inl (aI t))), (xi, .inl (kA 0, mx, .inl (aI vi))), (xs, .inl (kA 0, mx, .inl (aI vs))), (xe, .inl (kA 0, mx, .inl (aI (va_up ve (vc - 1).toNat (q + 1))))), (xl, .inl (kA 0, mx, .inl (aI vl)))] H := hP
            have hD : va_D A [(ho, .inr (2, [.ref oc, .int (iI fd), .ref xi, .ref xs, .ref xe, .ref xl, .int (iI vc)])), (oc, .inl (kA 1, n, .inl (aI t))), (xi, .inl (kA 0, mx, .inl (aI vi))), (xs, .inl (kA 0, mx, .inl (aI vs))), (xe, .inl (kA 0, mx, .inl (aI (va_up ve (vc - 1).toNat (q + 1))))), (xl, .inl (kA 0, mx, .inl (aI vl)))] := hD
            obtain ⟨x6, ex6⟩ : ∃ y : Int, y = q + 1 := ⟨_, rfl⟩
            refine lv_iinc (v := iI x6) (lv' := [(4, .int (iI x6)), (0, .ref ho), (1, .int (iI tag)), (2, .int (iI st)), (3, .int (iI en))]) hx hb d_H_readSubfields_111 hl (k := 4) rfl (by rw [ex6]; exact iI_add _ _) (by decide) rfl (fun ls hl => ?_)
            refine lv_goto (tgt := 5) hx hb d_H_readSubfields_114 (by decide) ?_
            exact ih x6 vi vs (va_up ve (vc - 1).toNat (q + 1)) vl vc (by first | omega | (subst_vars; omega)) (by first | exact hH | (subst_vars; exact HR_eT (u := (vi, vs, ve, vl, vc)) hHc (by omega)) | (subst_vars; exact HR_aT (u := (vi, vs, ve, vl, vc)) hHc hq3 (by omega) (by omega) (by show vc < _; omega)) | (subst_vars; exact HR_lO (u := aT (vi, vs, ve, vl, vc) _ _ _) (HR_aT (u := (vi, vs, ve, vl, vc)) hHc hq3 (by omega) (by omega) (by show vc < _; omega)) (by omega))) (by first | (subst_vars; exact hcap) | (subst_vars; rw [show (q + 1).toNat = q.toNat + 1 by omega]; omega)) (by first | omega | (subst_vars; omega)) (by first | (subst_vars; rfl) | (subst_vars; rw [← hres, show (en - q).toNat = (en - (q + 1)).toNat + 1 by omega]; simp only [rsL, rsS]; first | (rw [if_neg (by assumption)]; rfl) | (rw [if_pos (by assumption), if_pos ⟨by assumption, by assumption⟩]; rfl) | (rw [if_pos (by assumption), if_neg (by simp_all)]; rfl))) (by omega) _ _ hP hD hS _ (lv_sub hl [1, 2, 3, 4, 0] rfl)
          · have _q := c4
            have hq1 := hcp
            rw [show (en - q).toNat = (en - (q + 1)).toNat + 1 by omega] at hq1
            simp only [mkC] at hq1
            rw [if_pos (by assumption)] at hq1
            have hq2 := mkC_nn t (en - (q + 1)).toNat (q.toNat + 1)
            have hq3 := ixOf_r tag (t (q + 1).toNat)
            have hlt : q < en := by omega
            refine lv_aload_n hx hb d_H_readSubfields_35 rfl (lv_at hl 0 rfl) ?_
            refine gf_H_18 hx hb hts hown hK hP 0 rfl rfl d_H_readSubfields_36 ?_
            refine lv_iload hx hb d_H_readSubfields_39 (lv_at hl 4 rfl) ?_
            refine lv_iconst (v := iI 1) hx hb d_H_readSubfields_41 rfl ?_
            refine li_iadd hx hb d_H_readSubfields_42 ?_
            refine li_cald hx hb hK hP 1 1 rfl rfl (by omega) (by omega) (by omega) d_H_readSubfields_43 ?_
            have f7 := ht ((q + 1).toNat)
            refine li_nm (fun x8 ex8 => ?_)
            refine lv_istore (lv' := [(5, .int (iI x8)), (0, .ref ho), (1, .int (iI tag)), (2, .int (iI st)), (3, .int (iI en)), (4, .int (iI q))]) hx hb d_H_readSubfields_44 hl (by decide) rfl (fun ls hl => ?_)
            refine lv_aload_n hx hb d_H_readSubfields_46 rfl (lv_at hl 1 rfl) ?_
            refine lv_iload_n hx hb d_H_readSubfields_47 rfl (lv_at hl 2 rfl) ?_
            refine lv_iload hx hb d_H_readSubfields_48 (lv_at hl 0 rfl) ?_
            refine li_callr ((va_runS (As := [.int (iI tag), .int (iI x8)]) (rest := [.ref ho]) ⟨hx, hb, hml, hown, hts⟩ (c_H_indexOf l dC dI kA tag x8 (by omega) (by subst_vars; omega)) (cw_H_66 hts rfl rfl ⟨by decide, by decide⟩) (li_preS (hP.sub [] rfl) hK hN) rfl rfl hl.1 rfl (lv_room (Nat.le_of_ble_eq_true rfl)) d_H_readSubfields_50 ⟨by decide, by decide⟩).run) ?_
            refine lv_iload hx hb d_H_readSubfields_53 (lv_at hl 5 rfl) ?_
            refine lv_iconst (v := iI 2) hx hb d_H_readSubfields_55 rfl ?_
            refine li_iadd hx hb d_H_readSubfields_56 ?_
            refine lv_iload hx hb d_H_readSubfields_57 (lv_at hl 5 rfl) ?_
            refine lv_iconst (v := iI 2) hx hb d_H_readSubfields_59 rfl ?_
            refine li_iadd hx hb d_H_readSubfields_60 ?_
            refine li_callw (wc := [(ho, .inr (2, [.ref oc, .int (iI fd), .ref xi, .ref xs, .ref xe, .ref xl, .int (iI vc)])), (oc, .inl (kA 1, n, .inl (aI t))), (xi, .inl (kA 0, mx, .inl (aI vi))), (xs, .inl (kA 0, mx, .inl (aI vs))), (xe, .inl (kA 0, mx, .inl (aI ve))), (xl, .inl (kA 0, mx, .inl (aI vl)))]) (wr := []) (va_runV (As := [.int (iI (ixOf tag x8)), .int (iI (q + 2)), .int (iI (q + 2))]) (rest := []) ⟨hx, hb, hml, hown, hts⟩ (c_H_addText l dC dI kA H.size ho oc xi xs xe xl n mx fd vc t vi vs ve vl (ixOf tag x8) (q + 2) (q + 2) (by exact hHc) (by subst_vars; omega) (by omega) (by omega) (by omega)) (cw_H_59 hts rfl rfl ⟨by decide, by decide⟩) (li_preV (va_recv hK hP (ci := 2) (q0 := 0) rfl rfl) ⟨rfl, hP.sub [0, 1, 2, 3, 4, 5] rfl, (hD.sub [0, 1, 2, 3, 4, 5] (by decide) rfl).weaken (fun _ _ _ _ => trivial), trivial⟩ hK hN) rfl rfl hl.1 rfl (lv_room (Nat.le_of_ble_eq_true rfl)) d_H_readSubfields_61 ⟨by decide, by decide⟩) hP hD hS hA [0, 1, 2, 3, 4, 5] [] rfl rfl (by decide) (by decide) (fun u9 H locs hu9 hP hD hS _hk => ?_)
            have hP : va_P (dC, dI) CL [(ho, .inr (2, [.ref oc, .int (iI fd), .ref xi, .ref xs, .ref xe, .ref xl, .int (iI (vc + 1))])), (oc, .inl (kA 1, n, .inl (aI t))), (xi, .inl (kA 0, mx, .inl (aI (va_up vi vc.toNat (ixOf tag x8))))), (xs, .inl (kA 0, mx, .inl (aI (va_up vs vc.toNat (q + 2))))), (xe, .inl (kA 0, mx, .inl (aI (va_up ve vc.toNat (q + 2))))), (xl, .inl (kA 0, mx, .inl (aI vl)))] H := hP
            have hD : va_D A [(ho, .inr (2, [.ref oc, .int (iI fd), .ref xi, .ref xs, .ref xe, .ref xl, .int (iI (vc + 1))])), (oc, .inl (kA 1, n, .inl (aI t))), (xi, .inl (kA 0, mx, .inl (aI (va_up vi vc.toNat (ixOf tag x8))))), (xs, .inl (kA 0, mx, .inl (aI (va_up vs vc.toNat (q + 2))))), (xe, .inl (kA 0, mx, .inl (aI (va_up ve vc.toNat (q + 2))))), (xl, .inl (kA 0, mx, .inl (aI vl)))] := hD
            refine lv_iload hx hb d_H_readSubfields_64 (lv_at hl 0 rfl) ?_
            refine lv_bipush (v := iI 97) hx hb d_H_readSubfields_66 (by decide) ?_
            refine li_icmp_ne (tgt := 100) hx hb d_H_readSubfields_68 (by decide) (by omega) (by omega) (fun c10 => ?_) (fun c10 => ?_)
            · have _q := c10
              refine lv_goto (tgt := 111) hx hb d_H_readSubfields_100 (by decide) ?_
              obtain ⟨x11, ex11⟩ : ∃ y : Int, y = q + 1 := ⟨_, rfl⟩
              refine lv_iinc (v := iI x11) (lv' := [(4, .int (iI x11)), (5, .int (iI x8)), (0, .ref ho), (1, .int (iI tag)), (2, .int (iI st)), (3, .int (iI en))]) hx hb d_H_readSubfields_111 hl (k := 5) rfl (by rw [ex11]; exact iI_add _ _) (by decide) rfl (fun ls hl => ?_)
              refine lv_goto (tgt := 5) hx hb d_H_readSubfields_114 (by decide) ?_
              exact ih x11 (va_up vi vc.toNat (ixOf tag x8)) (va_up vs vc.toNat (q + 2)) (va_up ve vc.toNat (q + 2)) vl (vc + 1) (by first | omega | (subst_vars; omega)) (by first | exact hH | (subst_vars; exact HR_eT (u := (vi, vs, ve, vl, vc)) hHc (by omega)) | (subst_vars; exact HR_aT (u := (vi, vs, ve, vl, vc)) hHc hq3 (by omega) (by omega) (by show vc < _; omega)) | (subst_vars; exact HR_lO (u := aT (vi, vs, ve, vl, vc) _ _ _) (HR_aT (u := (vi, vs, ve, vl, vc)) hHc hq3 (by omega) (by omega) (by show vc < _; omega)) (by omega))) (by first | (subst_vars; exact hcap) | (subst_vars; rw [show (q + 1).toNat = q.toNat + 1 by omega]; omega)) (by first | omega | (subst_vars; omega)) (by first | (subst_vars; rfl) | (subst_vars; rw [← hres, show (en - q).toNat = (en - (q + 1)).toNat + 1 by omega]; simp only [rsL, rsS]; first | (rw [if_neg (by assumption)]; rfl) | (rw [if_pos (by assumption), if_pos ⟨by assumption, by assumption⟩]; rfl) | (rw [if_pos (by assumption), if_neg (by simp_all)]; rfl))) (by omega) _ _ hP hD hS _ (lv_sub hl [2, 3, 4, 5, 0] rfl)
            · have _q := c10
              refine lv_aload_n hx hb d_H_readSubfields_71 rfl (lv_at hl 1 rfl) ?_
              refine gf_H_18 hx hb hts hown hK hP 0 rfl rfl d_H_readSubfields_72 ?_
              refine lv_iload_n hx hb d_H_readSubfields_75 rfl (lv_at hl 3 rfl) ?_
              refine lv_iconst (v := iI 1) hx hb d_H_readSubfields_76 rfl ?_
              refine li_iadd hx hb d_H_readSubfields_77 ?_
              refine li_cald hx hb hK hP 1 1 rfl rfl (by omega) (by omega) (by omega) d_H_readSubfields_78 ?_
              have f12 := ht ((st + 1).toNat)
              refine li_callr ((va_runSN (As := [.int (iI (t ((st + 1).toNat)))]) (rest := []) ⟨hx, hb, hml, hown, hts⟩ (c_Q_isDigit l dC dI kA (t ((st + 1).toNat)) (by omega)) (cw_H_70 hts hN rfl rfl ⟨by decide, by decide⟩) (li_preS (hP.sub [] rfl) hK hN) rfl rfl hl.1 rfl (lv_room (Nat.le_of_ble_eq_true rfl)) d_H_readSubfields_79 ⟨by decide, by decide⟩).run) ?_
              refine li_bz (tgt := 100) hx hb d_H_readSubfields_82 (by decide) (fun c13 => ?_) (fun c13 => ?_)
              · have _q := c13
                refine lv_goto (tgt := 111) hx hb d_H_readSubfields_100 (by decide) ?_
                obtain ⟨x14, ex14⟩ : ∃ y : Int, y = q + 1 := ⟨_, rfl⟩
                refine lv_iinc (v := iI x14) (lv' := [(4, .int (iI x14)), (5, .int (iI x8)), (0, .ref ho), (1, .int (iI tag)), (2, .int (iI st)), (3, .int (iI en))]) hx hb d_H_readSubfields_111 hl (k := 5) rfl (by rw [ex14]; exact iI_add _ _) (by decide) rfl (fun ls hl => ?_)
                refine lv_goto (tgt := 5) hx hb d_H_readSubfields_114 (by decide) ?_
                exact ih x14 (va_up vi vc.toNat (ixOf tag x8)) (va_up vs vc.toNat (q + 2)) (va_up ve vc.toNat (q + 2)) vl (vc + 1) (by first | omega | (subst_vars; omega)) (by first | exact hH | (subst_vars; exact HR_eT (u := (vi, vs, ve, vl, vc)) hHc (by omega)) | (subst_vars; exact HR_aT (u := (vi, vs, ve, vl, vc)) hHc hq3 (by omega) (by omega) (by show vc < _; omega)) | (subst_vars; exact HR_lO (u := aT (vi, vs, ve, vl, vc) _ _ _) (HR_aT (u := (vi, vs, ve, vl, vc)) hHc hq3 (by omega) (by omega) (by show vc < _; omega)) (by omega))) (by first | (subst_vars; exact hcap) | (subst_vars; rw [show (q + 1).toNat = q.toNat + 1 by omega]; omega)) (by first | omega | (subst_vars; omega)) (by first | (subst_vars; rfl) | (subst_vars; rw [← hres, show (en - q).toNat = (en - (q + 1)).toNat + 1 by omega]; simp only [rsL, rsS]; first | (rw [if_neg (by assumption)]; rfl) | (rw [if_pos (by assumption), if_pos ⟨by assumption, by assumption⟩]; rfl) | (rw [if_pos (by assumption), if_neg (by simp_all)]; rfl))) (by omega) _ _ hP hD hS _ (lv_sub hl [2, 3, 4, 5, 0] rfl)
              · have _q := c13
                have hdg := of_decide_eq_true (show isDig (t (st + 1).toNat) = true by assumption)
                refine lv_aload_n hx hb d_H_readSubfields_85 rfl (lv_at hl 1 rfl) ?_
                refine lv_aload_n hx hb d_H_readSubfields_86 rfl (lv_at hl 1 rfl) ?_
                refine gf_H_18 hx hb hts hown hK hP 0 rfl rfl d_H_readSubfields_87 ?_
                refine lv_iload_n hx hb d_H_readSubfields_90 rfl (lv_at hl 3 rfl) ?_
                refine lv_iconst (v := iI 1) hx hb d_H_readSubfields_91 rfl ?_
                refine li_iadd hx hb d_H_readSubfields_92 ?_
                refine li_cald hx hb hK hP 1 1 rfl rfl (by omega) (by omega) (by omega) d_H_readSubfields_93 ?_
                have f15 := ht ((st + 1).toNat)
                refine lv_bipush (v := iI 48) hx hb d_H_readSubfields_94 (by decide) ?_
                refine li_isub hx hb d_H_readSubfields_96 ?_
                refine li_callw (wc := [(ho, .inr (2, [.ref oc, .int (iI fd), .ref xi, .ref xs, .ref xe, .ref xl, .int (iI (vc + 1))])), (oc, .inl (kA 1, n, .inl (aI t))), (xi, .inl (kA 0, mx, .inl (aI (va_up vi vc.toNat (ixOf tag x8))))), (xs, .inl (kA 0, mx, .inl (aI (va_up vs vc.toNat (q + 2))))), (xe, .inl (kA 0, mx, .inl (aI (va_up ve vc.toNat (q + 2))))), (xl, .inl (kA 0, mx, .inl (aI vl)))]) (wr := []) (va_runV (As := [.int (iI ((t ((st + 1).toNat)) - 48))]) (rest := []) ⟨hx, hb, hml, hown, hts⟩ (c_H_leaveOut l dC dI kA H.size ho oc xi xs xe xl n mx fd (vc + 1) t (va_up vi vc.toNat (ixOf tag x8)) (va_up vs vc.toNat (q + 2)) (va_up ve vc.toNat (q + 2)) vl ((t ((st + 1).toNat)) - 48) (by exact HR_aT (u := (vi, vs, ve, vl, vc)) hHc (by subst_vars; exact hq3) (by omega) (by omega) (by show vc < _; omega)) (by omega) (by omega)) (cw_H_74 hts rfl rfl ⟨by decide, by decide⟩) (li_preV (va_recv hK hP (ci := 2) (q0 := 0) rfl rfl) ⟨rfl, hP.sub [0, 1, 2, 3, 4, 5] rfl, (hD.sub [0, 1, 2, 3, 4, 5] (by decide) rfl).weaken (fun _ _ _ _ => trivial), trivial⟩ hK hN) rfl rfl hl.1 rfl (lv_room (Nat.le_of_ble_eq_true rfl)) d_H_readSubfields_97 ⟨by decide, by decide⟩) hP hD hS hA [0, 1, 2, 3, 4, 5] [] rfl rfl (by decide) (by decide) (fun u16 H locs hu16 hP hD hS _hk => ?_)
                have hP : va_P (dC, dI) CL [(ho, .inr (2, [.ref oc, .int (iI fd), .ref xi, .ref xs, .ref xe, .ref xl, .int (iI (vc + 1))])), (oc, .inl (kA 1, n, .inl (aI t))), (xi, .inl (kA 0, mx, .inl (aI (va_up vi vc.toNat (ixOf tag x8))))), (xs, .inl (kA 0, mx, .inl (aI (va_up vs vc.toNat (q + 2))))), (xe, .inl (kA 0, mx, .inl (aI (va_up ve vc.toNat (q + 2))))), (xl, .inl (kA 0, mx, .inl (aI (va_up vl ((vc + 1) - 1).toNat ((t ((st + 1).toNat)) - 48)))))] H := hP
                have hD : va_D A [(ho, .inr (2, [.ref oc, .int (iI fd), .ref xi, .ref xs, .ref xe, .ref xl, .int (iI (vc + 1))])), (oc, .inl (kA 1, n, .inl (aI t))), (xi, .inl (kA 0, mx, .inl (aI (va_up vi vc.toNat (ixOf tag x8))))), (xs, .inl (kA 0, mx, .inl (aI (va_up vs vc.toNat (q + 2))))), (xe, .inl (kA 0, mx, .inl (aI (va_up ve vc.toNat (q + 2))))), (xl, .inl (kA 0, mx, .inl (aI (va_up vl ((vc + 1) - 1).toNat ((t ((st + 1).toNat)) - 48)))))] := hD
                refine lv_goto (tgt := 111) hx hb d_H_readSubfields_100 (by decide) ?_
                obtain ⟨x17, ex17⟩ : ∃ y : Int, y = q + 1 := ⟨_, rfl⟩
                refine lv_iinc (v := iI x17) (lv' := [(4, .int (iI x17)), (5, .int (iI x8)), (0, .ref ho), (1, .int (iI tag)), (2, .int (iI st)), (3, .int (iI en))]) hx hb d_H_readSubfields_111 hl (k := 5) rfl (by rw [ex17]; exact iI_add _ _) (by decide) rfl (fun ls hl => ?_)
                refine lv_goto (tgt := 5) hx hb d_H_readSubfields_114 (by decide) ?_
                exact ih x17 (va_up vi vc.toNat (ixOf tag x8)) (va_up vs vc.toNat (q + 2)) (va_up ve vc.toNat (q + 2)) (va_up vl ((vc + 1) - 1).toNat ((t ((st + 1).toNat)) - 48)) (vc + 1) (by first | omega | (subst_vars; omega)) (by first | exact hH | (subst_vars; exact HR_eT (u := (vi, vs, ve, vl, vc)) hHc (by omega)) | (subst_vars; exact HR_aT (u := (vi, vs, ve, vl, vc)) hHc hq3 (by omega) (by omega) (by show vc < _; omega)) | (subst_vars; exact HR_lO (u := aT (vi, vs, ve, vl, vc) _ _ _) (HR_aT (u := (vi, vs, ve, vl, vc)) hHc hq3 (by omega) (by omega) (by show vc < _; omega)) (by omega))) (by first | (subst_vars; exact hcap) | (subst_vars; rw [show (q + 1).toNat = q.toNat + 1 by omega]; omega)) (by first | omega | (subst_vars; omega)) (by first | (subst_vars; rfl) | (subst_vars; rw [← hres, show (en - q).toNat = (en - (q + 1)).toNat + 1 by omega]; simp only [rsL, rsS]; first | (rw [if_neg (by assumption)]; rfl) | (rw [if_pos (by assumption), if_pos ⟨by assumption, by assumption⟩]; rfl) | (rw [if_pos (by assumption), if_neg (by simp_all)]; rfl))) (by omega) _ _ hP hD hS _ (lv_sub hl [2, 3, 4, 5, 0] rfl)
  refine lv_iload_n hx hb d_H_readSubfields_0 rfl (lv_at hl 2 rfl) ?_
  refine lv_iconst (v := iI 2) hx hb d_H_readSubfields_1 rfl ?_
  refine li_iadd hx hb d_H_readSubfields_2 ?_
  refine li_nm (fun x18 ex18 => ?_)
  refine lv_istore (lv' := [(4, .int (iI x18)), (0, .ref ho), (1, .int (iI tag)), (2, .int (iI st)), (3, .int (iI en))]) hx hb d_H_readSubfields_3 hl (by decide) rfl (fun ls hl => ?_)
  exact K_5 ((en - x18).toNat + 1) x18 ti ts te tl tc (by first | omega | (subst_vars; omega)) (by first | exact hH | (subst_vars; exact HR_eT (u := (vi, vs, ve, vl, vc)) hHc (by omega)) | (subst_vars; exact HR_aT (u := (vi, vs, ve, vl, vc)) hHc hq3 (by omega) (by omega) (by show vc < _; omega)) | (subst_vars; exact HR_lO (u := aT (vi, vs, ve, vl, vc) _ _ _) (HR_aT (u := (vi, vs, ve, vl, vc)) hHc hq3 (by omega) (by omega) (by show vc < _; omega)) (by omega))) (by first | (subst_vars; exact hcap) | (subst_vars; rw [show (q + 1).toNat = q.toNat + 1 by omega]; omega)) (by first | omega | (subst_vars; omega)) (by first | (subst_vars; rfl) | (subst_vars; rw [← hres, show (en - q).toNat = (en - (q + 1)).toNat + 1 by omega]; simp only [rsL, rsS]; first | (rw [if_neg (by assumption)]; rfl) | (rw [if_pos (by assumption), if_pos ⟨by assumption, by assumption⟩]; rfl) | (rw [if_pos (by assumption), if_neg (by simp_all)]; rfl))) (Nat.lt_succ_self _) _ _ hP hD hS _ (lv_sub hl [1, 2, 3, 4, 0] rfl)

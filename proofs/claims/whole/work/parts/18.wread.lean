abbrev St5 : Type := (Nat → Int) × (Nat → Int) × (Nat → Int) × Int × Bool
def rdS (t : Nat → Int) (x : Int) (b : Bool) (wk : Nat) (u : St5) (i : Int) : St5 :=
  if letF (t (x + i).toNat) b = 0 then (va_up u.1 i.toNat (letF (t (x + i).toNat) b), u.2.1, u.2.2.1, u.2.2.2.1, false)
  else if u.2.2.2.2 = true then (va_up u.1 i.toNat (letF (t (x + i).toNat) b), u.2.1, va_up u.2.2.1 (u.2.2.2.1 - 1).toNat (i + 1), u.2.2.2.1, true)
  else if u.2.2.2.1 < wk then (va_up u.1 i.toNat (letF (t (x + i).toNat) b), va_up u.2.1 u.2.2.2.1.toNat i, va_up u.2.2.1 u.2.2.2.1.toNat (i + 1), u.2.2.2.1 + 1, true)
  else (va_up u.1 i.toNat (letF (t (x + i).toNat) b), u.2.1, u.2.2.1, u.2.2.2.1, false)
def rdL (t : Nat → Int) (x : Int) (b : Bool) (wk : Nat) : Nat → Int → St5 → St5
  | 0, _, u => u
  | k + 1, i, u => rdL t x b wk k (i + 1) (rdS t x b wk u i)
def rdF (t : Nat → Int) (n : Nat) (x y : Int) (b : Bool) (wn wk : Nat) (lt sb se : Nat → Int) : St5 := rdL t x b wk (min (min y n - x) wn).toNat 0 (lt, sb, se, 0, false)
theorem letF_b {ch : Int} {w : Bool} (h : 0 ≤ ch ∧ ch < 256) : 0 ≤ letF ch w ∧ letF ch w < 256 := by
  unfold letF sml; (repeat' split) <;> omega
theorem up_rt {f : Nat → Int} {lo hi : Int} {k : Nat} {v : Int} (h : ∀ j, lo ≤ f j ∧ f j < hi) (hv : lo ≤ v ∧ v < hi) : ∀ j, lo ≤ va_up f k v j ∧ va_up f k v j < hi := by
  intro j; unfold va_up; split
  · exact hv
  · exact h j
theorem vu_s {f : Nat → Int} {k : Nat} {v : Int} : va_up f k v k = v := by simp [va_up]

theorem d_W_read_0 : decode b_W_read 0 = .ok (.aload_n 0, 1) := by decide +kernel
theorem d_W_read_1 : decode b_W_read 1 = .ok (.iconst 0, 1) := by decide +kernel
theorem d_W_read_2 : decode b_W_read 2 = .ok (.putfield 28, 3) := by decide +kernel
theorem d_W_read_5 : decode b_W_read 5 = .ok (.iconst 0, 1) := by decide +kernel
theorem d_W_read_6 : decode b_W_read 6 = .ok (.istore 5, 2) := by decide +kernel
theorem d_W_read_8 : decode b_W_read 8 = .ok (.iload_n 3, 1) := by decide +kernel
theorem d_W_read_9 : decode b_W_read 9 = .ok (.aload_n 1, 1) := by decide +kernel
theorem d_W_read_10 : decode b_W_read 10 = .ok (.arraylength, 1) := by decide +kernel
theorem d_W_read_11 : decode b_W_read 11 = .ok (.invokestatic 32, 3) := by decide +kernel
theorem d_W_read_14 : decode b_W_read 14 = .ok (.iload_n 2, 1) := by decide +kernel
theorem d_W_read_15 : decode b_W_read 15 = .ok (.isub, 1) := by decide +kernel
theorem d_W_read_16 : decode b_W_read 16 = .ok (.aload_n 0, 1) := by decide +kernel
theorem d_W_read_17 : decode b_W_read 17 = .ok (.getfield 15, 3) := by decide +kernel
theorem d_W_read_20 : decode b_W_read 20 = .ok (.arraylength, 1) := by decide +kernel
theorem d_W_read_21 : decode b_W_read 21 = .ok (.invokestatic 32, 3) := by decide +kernel
theorem d_W_read_24 : decode b_W_read 24 = .ok (.istore 6, 2) := by decide +kernel
theorem d_W_read_26 : decode b_W_read 26 = .ok (.iconst 0, 1) := by decide +kernel
theorem d_W_read_27 : decode b_W_read 27 = .ok (.istore 7, 2) := by decide +kernel
theorem d_W_read_29 : decode b_W_read 29 = .ok (.iload 7, 2) := by decide +kernel
theorem d_W_read_31 : decode b_W_read 31 = .ok (.iload 6, 2) := by decide +kernel
theorem d_W_read_33 : decode b_W_read 33 = .ok (.if_icmp .ge 119, 3) := by decide +kernel
theorem d_W_read_36 : decode b_W_read 36 = .ok (.iload_n 2, 1) := by decide +kernel
theorem d_W_read_37 : decode b_W_read 37 = .ok (.ifCond .lt 115, 3) := by decide +kernel
theorem d_W_read_40 : decode b_W_read 40 = .ok (.aload_n 0, 1) := by decide +kernel
theorem d_W_read_41 : decode b_W_read 41 = .ok (.getfield 15, 3) := by decide +kernel
theorem d_W_read_44 : decode b_W_read 44 = .ok (.iload 7, 2) := by decide +kernel
theorem d_W_read_46 : decode b_W_read 46 = .ok (.aload_n 1, 1) := by decide +kernel
theorem d_W_read_47 : decode b_W_read 47 = .ok (.iload_n 2, 1) := by decide +kernel
theorem d_W_read_48 : decode b_W_read 48 = .ok (.iload 7, 2) := by decide +kernel
theorem d_W_read_50 : decode b_W_read 50 = .ok (.iadd, 1) := by decide +kernel
theorem d_W_read_51 : decode b_W_read 51 = .ok (.caload, 1) := by decide +kernel
theorem d_W_read_52 : decode b_W_read 52 = .ok (.iload 4, 2) := by decide +kernel
theorem d_W_read_54 : decode b_W_read 54 = .ok (.invokestatic 35, 3) := by decide +kernel
theorem d_W_read_57 : decode b_W_read 57 = .ok (.castore, 1) := by decide +kernel
theorem d_W_read_58 : decode b_W_read 58 = .ok (.aload_n 0, 1) := by decide +kernel
theorem d_W_read_59 : decode b_W_read 59 = .ok (.getfield 15, 3) := by decide +kernel
theorem d_W_read_62 : decode b_W_read 62 = .ok (.iload 7, 2) := by decide +kernel
theorem d_W_read_64 : decode b_W_read 64 = .ok (.caload, 1) := by decide +kernel
theorem d_W_read_65 : decode b_W_read 65 = .ok (.ifCond .ne 9, 3) := by decide +kernel
theorem d_W_read_68 : decode b_W_read 68 = .ok (.iconst 0, 1) := by decide +kernel
theorem d_W_read_69 : decode b_W_read 69 = .ok (.istore 5, 2) := by decide +kernel
theorem d_W_read_71 : decode b_W_read 71 = .ok (.goto 75, 3) := by decide +kernel
theorem d_W_read_74 : decode b_W_read 74 = .ok (.iload 5, 2) := by decide +kernel
theorem d_W_read_76 : decode b_W_read 76 = .ok (.ifCond .eq 21, 3) := by decide +kernel
theorem d_W_read_79 : decode b_W_read 79 = .ok (.aload_n 0, 1) := by decide +kernel
theorem d_W_read_80 : decode b_W_read 80 = .ok (.getfield 25, 3) := by decide +kernel
theorem d_W_read_83 : decode b_W_read 83 = .ok (.aload_n 0, 1) := by decide +kernel
theorem d_W_read_84 : decode b_W_read 84 = .ok (.getfield 28, 3) := by decide +kernel
theorem d_W_read_87 : decode b_W_read 87 = .ok (.iconst 1, 1) := by decide +kernel
theorem d_W_read_88 : decode b_W_read 88 = .ok (.isub, 1) := by decide +kernel
theorem d_W_read_89 : decode b_W_read 89 = .ok (.iload 7, 2) := by decide +kernel
theorem d_W_read_91 : decode b_W_read 91 = .ok (.iconst 1, 1) := by decide +kernel
theorem d_W_read_92 : decode b_W_read 92 = .ok (.iadd, 1) := by decide +kernel
theorem d_W_read_93 : decode b_W_read 93 = .ok (.iastore, 1) := by decide +kernel
theorem d_W_read_94 : decode b_W_read 94 = .ok (.goto 52, 3) := by decide +kernel
theorem d_W_read_97 : decode b_W_read 97 = .ok (.aload_n 0, 1) := by decide +kernel
theorem d_W_read_98 : decode b_W_read 98 = .ok (.getfield 28, 3) := by decide +kernel
theorem d_W_read_101 : decode b_W_read 101 = .ok (.aload_n 0, 1) := by decide +kernel
theorem d_W_read_102 : decode b_W_read 102 = .ok (.getfield 21, 3) := by decide +kernel
theorem d_W_read_105 : decode b_W_read 105 = .ok (.arraylength, 1) := by decide +kernel
theorem d_W_read_106 : decode b_W_read 106 = .ok (.if_icmp .ge 40, 3) := by decide +kernel
theorem d_W_read_109 : decode b_W_read 109 = .ok (.aload_n 0, 1) := by decide +kernel
theorem d_W_read_110 : decode b_W_read 110 = .ok (.getfield 21, 3) := by decide +kernel
theorem d_W_read_113 : decode b_W_read 113 = .ok (.aload_n 0, 1) := by decide +kernel
theorem d_W_read_114 : decode b_W_read 114 = .ok (.getfield 28, 3) := by decide +kernel
theorem d_W_read_117 : decode b_W_read 117 = .ok (.iload 7, 2) := by decide +kernel
theorem d_W_read_119 : decode b_W_read 119 = .ok (.iastore, 1) := by decide +kernel
theorem d_W_read_120 : decode b_W_read 120 = .ok (.aload_n 0, 1) := by decide +kernel
theorem d_W_read_121 : decode b_W_read 121 = .ok (.getfield 25, 3) := by decide +kernel
theorem d_W_read_124 : decode b_W_read 124 = .ok (.aload_n 0, 1) := by decide +kernel
theorem d_W_read_125 : decode b_W_read 125 = .ok (.getfield 28, 3) := by decide +kernel
theorem d_W_read_128 : decode b_W_read 128 = .ok (.iload 7, 2) := by decide +kernel
theorem d_W_read_130 : decode b_W_read 130 = .ok (.iconst 1, 1) := by decide +kernel
theorem d_W_read_131 : decode b_W_read 131 = .ok (.iadd, 1) := by decide +kernel
theorem d_W_read_132 : decode b_W_read 132 = .ok (.iastore, 1) := by decide +kernel
theorem d_W_read_133 : decode b_W_read 133 = .ok (.aload_n 0, 1) := by decide +kernel
theorem d_W_read_134 : decode b_W_read 134 = .ok (.dup, 1) := by decide +kernel
theorem d_W_read_135 : decode b_W_read 135 = .ok (.getfield 28, 3) := by decide +kernel
theorem d_W_read_138 : decode b_W_read 138 = .ok (.iconst 1, 1) := by decide +kernel
theorem d_W_read_139 : decode b_W_read 139 = .ok (.iadd, 1) := by decide +kernel
theorem d_W_read_140 : decode b_W_read 140 = .ok (.putfield 28, 3) := by decide +kernel
theorem d_W_read_143 : decode b_W_read 143 = .ok (.iconst 1, 1) := by decide +kernel
theorem d_W_read_144 : decode b_W_read 144 = .ok (.istore 5, 2) := by decide +kernel
theorem d_W_read_146 : decode b_W_read 146 = .ok (.iinc 7 1, 3) := by decide +kernel
theorem d_W_read_149 : decode b_W_read 149 = .ok (.goto (-120), 3) := by decide +kernel
theorem d_W_read_152 : decode b_W_read 152 = .ok (.return_, 1) := by decide +kernel
set_option maxHeartbeats 4000000 in
set_option maxRecDepth 100000 in
theorem c_W_read (l : Launch) (dC : Nat → ClassId) (dI : Nat → Nat → Nat) (kA : Nat → ClassId) (sz : Nat) (wo : Nat) (wl : Nat) (wb : Nat) (we : Nat) (wn : Nat) (wk : Nat) (wz : Int) (lt : Nat → Int) (sb : Nat → Int) (se : Nat → Int) (oc : Nat) (n : Nat) (t : Nat → Int) (x : Int) (y : Int) (b : Bool) (hW : WR wn wk wz lt sb se) (hn : n ≤ 1000) (ht : ∀ j, 0 ≤ t j ∧ t j < 256) (hxy : 0 ≤ x ∧ x ≤ 1000 ∧ 0 ≤ y ∧ y ≤ 1000) : Met l y_W_read (wsy y_W_read b_W_read 8 none) (rmd 2 0 0) (li_Pr (dC, dI) CL (TY kA) [.ref wo, .ref oc, .int (iI x), .int (iI y), .int (iI (bI b))] (fun h => h.size = sz ∧ va_P (dC, dI) CL [(wo, .inr (9, [.ref wl, .ref wb, .ref we, .int (iI wz)])), (wl, .inl (kA 1, wn, .inl (aI lt))), (wb, .inl (kA 0, wk, .inl (aI sb))), (we, .inl (kA 0, wk, .inl (aI se)))] h ∧ va_D (fun q => dI 100 0 ≤ q) [(wo, .inr (9, [.ref wl, .ref wb, .ref we, .int (iI wz)])), (wl, .inl (kA 1, wn, .inl (aI lt))), (wb, .inl (kA 0, wk, .inl (aI sb))), (we, .inl (kA 0, wk, .inl (aI se)))] ∧ (fun h => va_P (dC, dI) CL [(oc, .inl (kA 1, n, .inl (aI t)))] h ∧ Dsj [(oc, .inl (kA 1, n, .inl (aI t)))] [(wo, .inr (9, [.ref wl, .ref wb, .ref we, .int (iI wz)])), (wl, .inl (kA 1, wn, .inl (aI lt))), (wb, .inl (kA 0, wk, .inl (aI sb))), (we, .inl (kA 0, wk, .inl (aI se)))]) h)) (li_Qw (S := Unit) (dC, dI) CL (fun _ => WR wn wk (rdF t n x y b wn wk lt sb se).2.2.2.1 (rdF t n x y b wn wk lt sb se).1 (rdF t n x y b wn wk lt sb se).2.1 (rdF t n x y b wn wk lt sb se).2.2.1) (fun _ => none) (fun _ => [(wo, .inr (9, [.ref wl, .ref wb, .ref we, .int (iI ((rdF t n x y b wn wk lt sb se).2.2.2.1))])), (wl, .inl (kA 1, wn, .inl (aI ((rdF t n x y b wn wk lt sb se).1)))), (wb, .inl (kA 0, wk, .inl (aI ((rdF t n x y b wn wk lt sb se).2.1)))), (we, .inl (kA 0, wk, .inl (aI ((rdF t n x y b wn wk lt sb se).2.2.1))))]) (va_A [(wo, .inr (9, [.ref wl, .ref wb, .ref we, .int (iI wz)])), (wl, .inl (kA 1, wn, .inl (aI lt))), (wb, .inl (kA 0, wk, .inl (aI sb))), (we, .inl (kA 0, wk, .inl (aI se)))] sz)) 0 0 (va_A [(wo, .inr (9, [.ref wl, .ref wb, .ref we, .int (iI wz)])), (wl, .inl (kA 1, wn, .inl (aI lt))), (wb, .inl (kA 0, wk, .inl (aI sb))), (we, .inl (kA 0, wk, .inl (aI se)))] sz) := by
  refine li_mwv (by decide) (Nat.le_of_ble_eq_true rfl) ?_
  intro p e s m args below meth c Q A C hP hD hBx hK hN hG hA hAi hAN fin ls hl
  obtain ⟨hx, hb, hr, hml, hown, hts, hlocks, hin⟩ := C
  have hown : s.vm.findClass R_W = some m.cls := hown
  have hS : va_S A s.heap s.heap [] := va_S.rf
  obtain ⟨hRo, hDj⟩ := hBx
  have hRo : va_P (dC, dI) CL [(oc, .inl (kA 1, n, .inl (aI t)))] s.heap := hRo
  have hRoN := li_roN (A := A) hRo hDj hAi
  have hl : lv_has ls 8 [(0, .ref wo), (1, .ref oc), (2, .int (iI x)), (3, .int (iI y)), (4, .int (iI (bI b)))] := hl
  obtain ⟨hwn, hwk, hwz, hlt, hsb, hse⟩ := id hW
  have K_29 : ∀ (nn : Nat) (i : Int) (mn : Int) (vl : Nat → Int) (vb : Nat → Int) (ve : Nat → Int) (vz : Int) (iw : Bool), (mn = min (min y n - x) wn) → (0 ≤ i ∧ (i = 0 ∨ i ≤ mn)) → (WR wn wk vz vl vb ve) → (iw = true → 0 < vz) → (rdL t x b wk (mn - i).toNat i (vl, vb, ve, vz, iw) = rdF t n x y b wn wk lt sb se) → ((mn - i).toNat < nn) → ∀ (H : Heap) (locs : List Loc), va_P (dC, dI) CL [(wo, .inr (9, [.ref wl, .ref wb, .ref we, .int (iI vz)])), (wl, .inl (kA 1, wn, .inl (aI vl))), (wb, .inl (kA 0, wk, .inl (aI vb))), (we, .inl (kA 0, wk, .inl (aI ve)))] H → va_D A [(wo, .inr (9, [.ref wl, .ref wb, .ref we, .int (iI vz)])), (wl, .inl (kA 1, wn, .inl (aI vl))), (wb, .inl (kA 0, wk, .inl (aI vb))), (we, .inl (kA 0, wk, .inl (aI ve)))] → va_S A s.heap H locs → ∀ ls : Array Slot, lv_has ls 8 [(0, .ref wo), (1, .ref oc), (2, .int (iI x)), (3, .int (iI y)), (4, .int (iI (bI b))), (5, .int (iI (bI iw))), (6, .int (iI mn)), (7, .int (iI i))] → W p l e (rmd 2 0 0) s m args below meth c H locs 0 0 Q (F0 m 29 ls []) := by
    intro nn
    induction nn with
    | zero => intro i mn vl vb ve vz iw hmn hi hWc hiw hres hm; exact absurd hm (Nat.not_lt_zero _)
    | succ nn ih =>
      intro i mn vl vb ve vz iw hmn hi hWc hiw hres hm H locs hP hD hS ls hl
      obtain ⟨_, _, hvz, hvl, hvb, hve⟩ := id hWc
      refine lv_iload hx hb d_W_read_29 (lv_at hl 7 rfl) ?_
      refine lv_iload hx hb d_W_read_31 (lv_at hl 6 rfl) ?_
      refine li_icmp_ge (tgt := 152) hx hb d_W_read_33 (by decide) (by omega) (by omega) (fun c1 => ?_) (fun c1 => ?_)
      · have _q := c1
        exact fin () _ _ _ _ (by first | (rw [← hres, show (mn - i).toNat = 0 by omega]; exact hWc)) (by rw [← hres, show (mn - i).toNat = 0 by omega]; exact hP) (by rw [← hres, show (mn - i).toNat = 0 by omega]; exact hD) hS d_W_read_152
      · have _q := c1
        refine lv_iload_n hx hb d_W_read_36 rfl (lv_at hl 2 rfl) ?_
        refine li_if_lt (tgt := 152) hx hb d_W_read_37 (by decide) (by omega) (fun c2 => ?_) (fun c2 => ?_)
        · have _q := c2
          exact absurd c2 (by omega)
        · have _q := c2
          refine lv_aload_n hx hb d_W_read_40 rfl (lv_at hl 0 rfl) ?_
          refine gf_W_15 hx hb hts hown hK hP 0 rfl rfl d_W_read_41 ?_
          refine lv_iload hx hb d_W_read_44 (lv_at hl 7 rfl) ?_
          refine lv_aload_n hx hb d_W_read_46 rfl (lv_at hl 1 rfl) ?_
          refine lv_iload_n hx hb d_W_read_47 rfl (lv_at hl 2 rfl) ?_
          refine lv_iload hx hb d_W_read_48 (lv_at hl 7 rfl) ?_
          refine li_iadd hx hb d_W_read_50 ?_
          refine li_cald hx hb hK (li_ro hRo hRoN hS) 0 1 rfl rfl (by omega) (by omega) (by omega) d_W_read_51 ?_
          have f3 := ht ((x + i).toNat)
          have hlf := letF_b (w := b) (ht (x + i).toNat)
          refine lv_iload hx hb d_W_read_52 (lv_at hl 4 rfl) ?_
          refine li_callr ((va_runS (As := [.int (iI (t ((x + i).toNat))), .int (iI (bI b))]) (rest := [.int (iI i), .ref wl]) ⟨hx, hb, hml, hown, hts⟩ (c_W_letterOf l dC dI kA (t ((x + i).toNat)) b (by have := ht (x + i).toNat; omega)) (cw_W_35 hts rfl rfl ⟨by decide, by decide⟩) (li_preS (hP.sub [] rfl) hK hN (hG.go hS hAN)) rfl rfl hl.1 rfl (lv_room (Nat.le_of_ble_eq_true rfl)) d_W_read_54 ⟨by decide, by decide⟩).run) ?_
          refine li_cast hx hb hK hP hD hS 1 1 rfl rfl (by omega) (by omega) (by omega) (by omega) (by omega) d_W_read_57 (fun H locs hP hD hS => ?_)
          have hP : va_P (dC, dI) CL [(wo, .inr (9, [.ref wl, .ref wb, .ref we, .int (iI vz)])), (wl, .inl (kA 1, wn, .inl (aI (va_up vl i.toNat (letF (t ((x + i).toNat)) b))))), (wb, .inl (kA 0, wk, .inl (aI vb))), (we, .inl (kA 0, wk, .inl (aI ve)))] H := hP
          have hD : va_D A [(wo, .inr (9, [.ref wl, .ref wb, .ref we, .int (iI vz)])), (wl, .inl (kA 1, wn, .inl (aI (va_up vl i.toNat (letF (t ((x + i).toNat)) b))))), (wb, .inl (kA 0, wk, .inl (aI vb))), (we, .inl (kA 0, wk, .inl (aI ve)))] := hD
          have hvs : ∀ j, 0 ≤ va_up vl i.toNat (letF (t (x + i).toNat) b) j ∧ va_up vl i.toNat (letF (t (x + i).toNat) b) j < 256 := up_rt hvl hlf
          refine lv_aload_n hx hb d_W_read_58 rfl (lv_at hl 0 rfl) ?_
          refine gf_W_15 hx hb hts hown hK hP 0 rfl rfl d_W_read_59 ?_
          refine lv_iload hx hb d_W_read_62 (lv_at hl 7 rfl) ?_
          refine li_cald hx hb hK hP 1 1 rfl rfl (by omega) (by omega) (by omega) d_W_read_64 ?_
          refine li_to (z := letF (t (x + i).toNat) b) vu_s ?_
          refine li_if_ne (tgt := 74) hx hb d_W_read_65 (by decide) (by omega) (fun c4 => ?_) (fun c4 => ?_)
          · have _q := c4
            refine lv_iload hx hb d_W_read_74 (lv_at hl 5 rfl) ?_
            refine li_bz (tgt := 97) hx hb d_W_read_76 (by decide) (fun c5 => ?_) (fun c5 => ?_)
            · have _q := c5
              refine lv_aload_n hx hb d_W_read_97 rfl (lv_at hl 0 rfl) ?_
              refine gf_W_28 hx hb hts hown hK hP 0 rfl rfl d_W_read_98 ?_
              refine lv_aload_n hx hb d_W_read_101 rfl (lv_at hl 0 rfl) ?_
              refine gf_W_21 hx hb hts hown hK hP 0 rfl rfl d_W_read_102 ?_
              refine li_alen hx hb hK hP 2 0 rfl rfl d_W_read_105 ?_
              refine li_icmp_ge (tgt := 146) hx hb d_W_read_106 (by decide) (by omega) (by omega) (fun c6 => ?_) (fun c6 => ?_)
              · have _q := c6
                obtain ⟨x_i, ex_i⟩ : ∃ y : Int, y = i + 1 := ⟨_, rfl⟩
                refine lv_iinc (v := iI x_i) (lv' := [(7, .int (iI x_i)), (0, .ref wo), (1, .ref oc), (2, .int (iI x)), (3, .int (iI y)), (4, .int (iI (bI b))), (5, .int (iI (bI iw))), (6, .int (iI mn))]) hx hb d_W_read_146 hl (k := 7) rfl (by rw [ex_i]; exact iI_add _ _) (by decide) rfl (fun ls hl => ?_)
                refine lv_goto (tgt := 29) hx hb d_W_read_149 (by decide) ?_
                exact ih x_i mn (va_up vl i.toNat (letF (t ((x + i).toNat)) b)) vb ve vz iw (by first | exact hmn | (rw [emn])) (by first | omega | (subst_vars; omega)) (by first | exact ⟨hwn, hwk, by omega, hlt, hsb, hse⟩ | exact ⟨hwn, hwk, by first | omega | (have := hiw (by assumption); omega), hvs, hvb, hve⟩ | exact ⟨hwn, hwk, by omega, hvs, hvb, up_r hve (by omega)⟩ | (subst_vars; exact ⟨hwn, hwk, by omega, hvs, up_r hvb (by omega), up_r hve (by omega)⟩)) (by first | exact hiw | (intro _; omega) | (intro h; cases h) | (intro h; exact hiw h)) (by first | (subst_vars; unfold rdF; rw [show min (min y ↑n - x) ↑wn - 0 = min (min y ↑n - x) ↑wn by omega]; done) | (rw [ex_i, ← hres, show (mn - i).toNat = (mn - (i + 1)).toNat + 1 by omega]; simp only [rdL, rdS]; first | (rw [if_pos (by assumption)]; done) | (subst_vars; rw [if_neg (by assumption), if_pos rfl]; done) | (subst_vars; rw [if_neg (by assumption), if_neg (by simp), if_pos (by omega)]; done) | (subst_vars; rw [if_neg (by assumption), if_neg (by simp), if_neg (by omega)]; done))) (by first | omega | (subst_vars; omega)) _ _ hP hD hS _ (lv_sub hl [1, 2, 3, 4, 5, 6, 7, 0] rfl)
              · have _q := c6
                refine lv_aload_n hx hb d_W_read_109 rfl (lv_at hl 0 rfl) ?_
                refine gf_W_21 hx hb hts hown hK hP 0 rfl rfl d_W_read_110 ?_
                refine lv_aload_n hx hb d_W_read_113 rfl (lv_at hl 0 rfl) ?_
                refine gf_W_28 hx hb hts hown hK hP 0 rfl rfl d_W_read_114 ?_
                refine lv_iload hx hb d_W_read_117 (lv_at hl 7 rfl) ?_
                refine li_iast hx hb hK hP hD hS 2 0 rfl rfl (by omega) (by omega) (by omega) d_W_read_119 (fun H locs hP hD hS => ?_)
                have hP : va_P (dC, dI) CL [(wo, .inr (9, [.ref wl, .ref wb, .ref we, .int (iI vz)])), (wl, .inl (kA 1, wn, .inl (aI (va_up vl i.toNat (letF (t ((x + i).toNat)) b))))), (wb, .inl (kA 0, wk, .inl (aI (va_up vb vz.toNat i)))), (we, .inl (kA 0, wk, .inl (aI ve)))] H := hP
                have hD : va_D A [(wo, .inr (9, [.ref wl, .ref wb, .ref we, .int (iI vz)])), (wl, .inl (kA 1, wn, .inl (aI (va_up vl i.toNat (letF (t ((x + i).toNat)) b))))), (wb, .inl (kA 0, wk, .inl (aI (va_up vb vz.toNat i)))), (we, .inl (kA 0, wk, .inl (aI ve)))] := hD
                refine lv_aload_n hx hb d_W_read_120 rfl (lv_at hl 0 rfl) ?_
                refine gf_W_25 hx hb hts hown hK hP 0 rfl rfl d_W_read_121 ?_
                refine lv_aload_n hx hb d_W_read_124 rfl (lv_at hl 0 rfl) ?_
                refine gf_W_28 hx hb hts hown hK hP 0 rfl rfl d_W_read_125 ?_
                refine lv_iload hx hb d_W_read_128 (lv_at hl 7 rfl) ?_
                refine lv_iconst (v := iI 1) hx hb d_W_read_130 rfl ?_
                refine li_iadd hx hb d_W_read_131 ?_
                refine li_iast hx hb hK hP hD hS 3 0 rfl rfl (by omega) (by omega) (by omega) d_W_read_132 (fun H locs hP hD hS => ?_)
                have hP : va_P (dC, dI) CL [(wo, .inr (9, [.ref wl, .ref wb, .ref we, .int (iI vz)])), (wl, .inl (kA 1, wn, .inl (aI (va_up vl i.toNat (letF (t ((x + i).toNat)) b))))), (wb, .inl (kA 0, wk, .inl (aI (va_up vb vz.toNat i)))), (we, .inl (kA 0, wk, .inl (aI (va_up ve vz.toNat (i + 1)))))] H := hP
                have hD : va_D A [(wo, .inr (9, [.ref wl, .ref wb, .ref we, .int (iI vz)])), (wl, .inl (kA 1, wn, .inl (aI (va_up vl i.toNat (letF (t ((x + i).toNat)) b))))), (wb, .inl (kA 0, wk, .inl (aI (va_up vb vz.toNat i)))), (we, .inl (kA 0, wk, .inl (aI (va_up ve vz.toNat (i + 1)))))] := hD
                refine lv_aload_n hx hb d_W_read_133 rfl (lv_at hl 0 rfl) ?_
                refine lv_dup hx hb d_W_read_134 rfl ?_
                refine gf_W_28 hx hb hts hown hK hP 0 rfl rfl d_W_read_135 ?_
                refine lv_iconst (v := iI 1) hx hb d_W_read_138 rfl ?_
                refine li_iadd hx hb d_W_read_139 ?_
                refine li_nm (fun x7 ex7 => ?_)
                refine pf_W_28 hx hb hts hown hK hP hD hS 0 rfl (Nat.le_of_ble_eq_true rfl) d_W_read_140 (fun H locs hP hD hS => ?_)
                have hP : va_P (dC, dI) CL [(wo, .inr (9, [.ref wl, .ref wb, .ref we, .int (iI x7)])), (wl, .inl (kA 1, wn, .inl (aI (va_up vl i.toNat (letF (t ((x + i).toNat)) b))))), (wb, .inl (kA 0, wk, .inl (aI (va_up vb vz.toNat i)))), (we, .inl (kA 0, wk, .inl (aI (va_up ve vz.toNat (i + 1)))))] H := hP
                have hD : va_D A [(wo, .inr (9, [.ref wl, .ref wb, .ref we, .int (iI x7)])), (wl, .inl (kA 1, wn, .inl (aI (va_up vl i.toNat (letF (t ((x + i).toNat)) b))))), (wb, .inl (kA 0, wk, .inl (aI (va_up vb vz.toNat i)))), (we, .inl (kA 0, wk, .inl (aI (va_up ve vz.toNat (i + 1)))))] := hD
                refine lv_iconst (v := iI 1) hx hb d_W_read_143 rfl ?_
                refine lv_istore (lv' := [(5, .int (iI 1)), (0, .ref wo), (1, .ref oc), (2, .int (iI x)), (3, .int (iI y)), (4, .int (iI (bI b))), (6, .int (iI mn)), (7, .int (iI i))]) hx hb d_W_read_144 hl (by decide) rfl (fun ls hl => ?_)
                obtain ⟨x_i, ex_i⟩ : ∃ y : Int, y = i + 1 := ⟨_, rfl⟩
                refine lv_iinc (v := iI x_i) (lv' := [(7, .int (iI x_i)), (5, .int (iI 1)), (0, .ref wo), (1, .ref oc), (2, .int (iI x)), (3, .int (iI y)), (4, .int (iI (bI b))), (6, .int (iI mn))]) hx hb d_W_read_146 hl (k := 7) rfl (by rw [ex_i]; exact iI_add _ _) (by decide) rfl (fun ls hl => ?_)
                refine lv_goto (tgt := 29) hx hb d_W_read_149 (by decide) ?_
                exact ih x_i mn (va_up vl i.toNat (letF (t ((x + i).toNat)) b)) (va_up vb vz.toNat i) (va_up ve vz.toNat (i + 1)) x7 true (by first | exact hmn | (rw [emn])) (by first | omega | (subst_vars; omega)) (by first | exact ⟨hwn, hwk, by omega, hlt, hsb, hse⟩ | exact ⟨hwn, hwk, by first | omega | (have := hiw (by assumption); omega), hvs, hvb, hve⟩ | exact ⟨hwn, hwk, by omega, hvs, hvb, up_r hve (by omega)⟩ | (subst_vars; exact ⟨hwn, hwk, by omega, hvs, up_r hvb (by omega), up_r hve (by omega)⟩)) (by first | exact hiw | (intro _; omega) | (intro h; cases h) | (intro h; exact hiw h)) (by first | (subst_vars; unfold rdF; rw [show min (min y ↑n - x) ↑wn - 0 = min (min y ↑n - x) ↑wn by omega]; done) | (rw [ex_i, ← hres, show (mn - i).toNat = (mn - (i + 1)).toNat + 1 by omega]; simp only [rdL, rdS]; first | (rw [if_pos (by assumption)]; done) | (subst_vars; rw [if_neg (by assumption), if_pos rfl]; done) | (subst_vars; rw [if_neg (by assumption), if_neg (by simp), if_pos (by omega)]; done) | (subst_vars; rw [if_neg (by assumption), if_neg (by simp), if_neg (by omega)]; done))) (by first | omega | (subst_vars; omega)) _ _ hP hD hS _ (lv_sub hl [2, 3, 4, 5, 6, 1, 7, 0] rfl)
            · have _q := c5
              have hvp := hiw (by assumption)
              refine lv_aload_n hx hb d_W_read_79 rfl (lv_at hl 0 rfl) ?_
              refine gf_W_25 hx hb hts hown hK hP 0 rfl rfl d_W_read_80 ?_
              refine lv_aload_n hx hb d_W_read_83 rfl (lv_at hl 0 rfl) ?_
              refine gf_W_28 hx hb hts hown hK hP 0 rfl rfl d_W_read_84 ?_
              refine lv_iconst (v := iI 1) hx hb d_W_read_87 rfl ?_
              refine li_isub hx hb d_W_read_88 ?_
              refine lv_iload hx hb d_W_read_89 (lv_at hl 7 rfl) ?_
              refine lv_iconst (v := iI 1) hx hb d_W_read_91 rfl ?_
              refine li_iadd hx hb d_W_read_92 ?_
              refine li_iast hx hb hK hP hD hS 3 0 rfl rfl (by omega) (by omega) (by omega) d_W_read_93 (fun H locs hP hD hS => ?_)
              have hP : va_P (dC, dI) CL [(wo, .inr (9, [.ref wl, .ref wb, .ref we, .int (iI vz)])), (wl, .inl (kA 1, wn, .inl (aI (va_up vl i.toNat (letF (t ((x + i).toNat)) b))))), (wb, .inl (kA 0, wk, .inl (aI vb))), (we, .inl (kA 0, wk, .inl (aI (va_up ve ((vz - 1).toNat) (i + 1)))))] H := hP
              have hD : va_D A [(wo, .inr (9, [.ref wl, .ref wb, .ref we, .int (iI vz)])), (wl, .inl (kA 1, wn, .inl (aI (va_up vl i.toNat (letF (t ((x + i).toNat)) b))))), (wb, .inl (kA 0, wk, .inl (aI vb))), (we, .inl (kA 0, wk, .inl (aI (va_up ve ((vz - 1).toNat) (i + 1)))))] := hD
              refine lv_goto (tgt := 146) hx hb d_W_read_94 (by decide) ?_
              obtain ⟨x_i, ex_i⟩ : ∃ y : Int, y = i + 1 := ⟨_, rfl⟩
              refine lv_iinc (v := iI x_i) (lv' := [(7, .int (iI x_i)), (0, .ref wo), (1, .ref oc), (2, .int (iI x)), (3, .int (iI y)), (4, .int (iI (bI b))), (5, .int (iI (bI iw))), (6, .int (iI mn))]) hx hb d_W_read_146 hl (k := 7) rfl (by rw [ex_i]; exact iI_add _ _) (by decide) rfl (fun ls hl => ?_)
              refine lv_goto (tgt := 29) hx hb d_W_read_149 (by decide) ?_
              exact ih x_i mn (va_up vl i.toNat (letF (t ((x + i).toNat)) b)) vb (va_up ve ((vz - 1).toNat) (i + 1)) vz iw (by first | exact hmn | (rw [emn])) (by first | omega | (subst_vars; omega)) (by first | exact ⟨hwn, hwk, by omega, hlt, hsb, hse⟩ | exact ⟨hwn, hwk, by first | omega | (have := hiw (by assumption); omega), hvs, hvb, hve⟩ | exact ⟨hwn, hwk, by omega, hvs, hvb, up_r hve (by omega)⟩ | (subst_vars; exact ⟨hwn, hwk, by omega, hvs, up_r hvb (by omega), up_r hve (by omega)⟩)) (by first | exact hiw | (intro _; omega) | (intro h; cases h) | (intro h; exact hiw h)) (by first | (subst_vars; unfold rdF; rw [show min (min y ↑n - x) ↑wn - 0 = min (min y ↑n - x) ↑wn by omega]; done) | (rw [ex_i, ← hres, show (mn - i).toNat = (mn - (i + 1)).toNat + 1 by omega]; simp only [rdL, rdS]; first | (rw [if_pos (by assumption)]; done) | (subst_vars; rw [if_neg (by assumption), if_pos rfl]; done) | (subst_vars; rw [if_neg (by assumption), if_neg (by simp), if_pos (by omega)]; done) | (subst_vars; rw [if_neg (by assumption), if_neg (by simp), if_neg (by omega)]; done))) (by first | omega | (subst_vars; omega)) _ _ hP hD hS _ (lv_sub hl [1, 2, 3, 4, 5, 6, 7, 0] rfl)
          · have _q := c4
            refine lv_iconst (v := iI 0) hx hb d_W_read_68 rfl ?_
            refine lv_istore (lv' := [(5, .int (iI 0)), (0, .ref wo), (1, .ref oc), (2, .int (iI x)), (3, .int (iI y)), (4, .int (iI (bI b))), (6, .int (iI mn)), (7, .int (iI i))]) hx hb d_W_read_69 hl (by decide) rfl (fun ls hl => ?_)
            refine lv_goto (tgt := 146) hx hb d_W_read_71 (by decide) ?_
            obtain ⟨x_i, ex_i⟩ : ∃ y : Int, y = i + 1 := ⟨_, rfl⟩
            refine lv_iinc (v := iI x_i) (lv' := [(7, .int (iI x_i)), (5, .int (iI 0)), (0, .ref wo), (1, .ref oc), (2, .int (iI x)), (3, .int (iI y)), (4, .int (iI (bI b))), (6, .int (iI mn))]) hx hb d_W_read_146 hl (k := 7) rfl (by rw [ex_i]; exact iI_add _ _) (by decide) rfl (fun ls hl => ?_)
            refine lv_goto (tgt := 29) hx hb d_W_read_149 (by decide) ?_
            exact ih x_i mn (va_up vl i.toNat (letF (t ((x + i).toNat)) b)) vb ve vz false (by first | exact hmn | (rw [emn])) (by first | omega | (subst_vars; omega)) (by first | exact ⟨hwn, hwk, by omega, hlt, hsb, hse⟩ | exact ⟨hwn, hwk, by first | omega | (have := hiw (by assumption); omega), hvs, hvb, hve⟩ | exact ⟨hwn, hwk, by omega, hvs, hvb, up_r hve (by omega)⟩ | (subst_vars; exact ⟨hwn, hwk, by omega, hvs, up_r hvb (by omega), up_r hve (by omega)⟩)) (by first | exact hiw | (intro _; omega) | (intro h; cases h) | (intro h; exact hiw h)) (by first | (subst_vars; unfold rdF; rw [show min (min y ↑n - x) ↑wn - 0 = min (min y ↑n - x) ↑wn by omega]; done) | (rw [ex_i, ← hres, show (mn - i).toNat = (mn - (i + 1)).toNat + 1 by omega]; simp only [rdL, rdS]; first | (rw [if_pos (by assumption)]; done) | (subst_vars; rw [if_neg (by assumption), if_pos rfl]; done) | (subst_vars; rw [if_neg (by assumption), if_neg (by simp), if_pos (by omega)]; done) | (subst_vars; rw [if_neg (by assumption), if_neg (by simp), if_neg (by omega)]; done))) (by first | omega | (subst_vars; omega)) _ _ hP hD hS _ (lv_sub hl [2, 3, 4, 5, 6, 1, 7, 0] rfl)
  refine lv_aload_n hx hb d_W_read_0 rfl (lv_at hl 0 rfl) ?_
  refine lv_iconst (v := iI 0) hx hb d_W_read_1 rfl ?_
  refine pf_W_28 hx hb hts hown hK hP hD hS 0 rfl (Nat.le_of_ble_eq_true rfl) d_W_read_2 (fun H locs hP hD hS => ?_)
  have hP : va_P (dC, dI) CL [(wo, .inr (9, [.ref wl, .ref wb, .ref we, .int (iI 0)])), (wl, .inl (kA 1, wn, .inl (aI lt))), (wb, .inl (kA 0, wk, .inl (aI sb))), (we, .inl (kA 0, wk, .inl (aI se)))] H := hP
  have hD : va_D A [(wo, .inr (9, [.ref wl, .ref wb, .ref we, .int (iI 0)])), (wl, .inl (kA 1, wn, .inl (aI lt))), (wb, .inl (kA 0, wk, .inl (aI sb))), (we, .inl (kA 0, wk, .inl (aI se)))] := hD
  refine lv_iconst (v := iI 0) hx hb d_W_read_5 rfl ?_
  refine lv_istore (lv' := [(5, .int (iI 0)), (0, .ref wo), (1, .ref oc), (2, .int (iI x)), (3, .int (iI y)), (4, .int (iI (bI b)))]) hx hb d_W_read_6 hl (by decide) rfl (fun ls hl => ?_)
  refine lv_iload_n hx hb d_W_read_8 rfl (lv_at hl 4 rfl) ?_
  refine lv_aload_n hx hb d_W_read_9 rfl (lv_at hl 2 rfl) ?_
  refine li_alen hx hb hK (li_ro hRo hRoN hS) 0 1 rfl rfl d_W_read_10 ?_
  refine li_mmin hx hb (hml.trans hl.1.symm) hown (hts (Cond.methodLink R_W 32 Lib.Math.min.name) (tk3 186 rfl rfl)) (hts (Cond.static Lib.Math.min.name) (tk2 85 rfl rfl)) (hts (Cond.initialized "java/lang/Math") (tk1 8 rfl rfl)) (hts (Cond.code Lib.Math.min.name Lib.Math.min.code 2 (some .int)) (tk2 86 rfl rfl)) (by decide) (by decide) (by decide) (by decide) (by omega) (by omega) d_W_read_11 ?_
  refine lv_iload_n hx hb d_W_read_14 rfl (lv_at hl 3 rfl) ?_
  refine li_isub hx hb d_W_read_15 ?_
  refine lv_aload_n hx hb d_W_read_16 rfl (lv_at hl 1 rfl) ?_
  refine gf_W_15 hx hb hts hown hK hP 0 rfl rfl d_W_read_17 ?_
  refine li_alen hx hb hK hP 1 1 rfl rfl d_W_read_20 ?_
  refine li_mmin hx hb (hml.trans hl.1.symm) hown (hts (Cond.methodLink R_W 32 Lib.Math.min.name) (tk3 186 rfl rfl)) (hts (Cond.static Lib.Math.min.name) (tk2 85 rfl rfl)) (hts (Cond.initialized "java/lang/Math") (tk1 8 rfl rfl)) (hts (Cond.code Lib.Math.min.name Lib.Math.min.code 2 (some .int)) (tk2 86 rfl rfl)) (by decide) (by decide) (by decide) (by decide) (by omega) (by omega) d_W_read_21 ?_
  refine li_nm (fun mn emn => ?_)
  refine lv_istore (lv' := [(6, .int (iI mn)), (5, .int (iI 0)), (0, .ref wo), (1, .ref oc), (2, .int (iI x)), (3, .int (iI y)), (4, .int (iI (bI b)))]) hx hb d_W_read_24 hl (by decide) rfl (fun ls hl => ?_)
  refine lv_iconst (v := iI 0) hx hb d_W_read_26 rfl ?_
  refine lv_istore (lv' := [(7, .int (iI 0)), (6, .int (iI mn)), (5, .int (iI 0)), (0, .ref wo), (1, .ref oc), (2, .int (iI x)), (3, .int (iI y)), (4, .int (iI (bI b)))]) hx hb d_W_read_27 hl (by decide) rfl (fun ls hl => ?_)
  exact K_29 ((mn - 0).toNat + 1) 0 mn lt sb se 0 false (by first | exact hmn | (rw [emn])) (by first | omega | (subst_vars; omega)) (by first | exact ⟨hwn, hwk, by omega, hlt, hsb, hse⟩ | exact ⟨hwn, hwk, by first | omega | (have := hiw (by assumption); omega), hvs, hvb, hve⟩ | exact ⟨hwn, hwk, by omega, hvs, hvb, up_r hve (by omega)⟩ | (subst_vars; exact ⟨hwn, hwk, by omega, hvs, up_r hvb (by omega), up_r hve (by omega)⟩)) (by first | exact hiw | (intro _; omega) | (intro h; cases h) | (intro h; exact hiw h)) (by first | (subst_vars; unfold rdF; rw [show min (min y ↑n - x) ↑wn - 0 = min (min y ↑n - x) ↑wn by omega]; done) | (rw [ex_i, ← hres, show (mn - i).toNat = (mn - (i + 1)).toNat + 1 by omega]; simp only [rdL, rdS]; first | (rw [if_pos (by assumption)]; done) | (subst_vars; rw [if_neg (by assumption), if_pos rfl]; done) | (subst_vars; rw [if_neg (by assumption), if_neg (by simp), if_pos (by omega)]; done) | (subst_vars; rw [if_neg (by assumption), if_neg (by simp), if_neg (by omega)]; done))) (Nat.lt_succ_self _) _ _ hP hD hS _ (lv_sub hl [3, 4, 5, 6, 7, 2, 1, 0] rfl)

def octM (ca : Nat → Int) (r : Int) : Nat → Int := fun j => ca (400 * r.toNat + j)
/-- what more is known of a RECORD without FAULT: a field's last byte is 30 and no other; behind a mark stands a code -/
def RecX (t : Nat → Int) (n : Nat) (fd : Int) (sf : Int → Int) : Prop := ∀ e : Int, 0 ≤ e → e < fd → t (sf (e + 1) - 1).toNat = 30 ∧ (∀ z : Int, sf e ≤ z → z < sf (e + 1) - 1 → t z.toNat ≠ 30) ∧ (10 ≤ numAt t n (24 + e * 12) 3 → ∀ z : Int, sf e ≤ z → z < sf (e + 1) - 1 → t z.toNat = 31 → sf e + 2 ≤ z ∧ z + 1 < sf (e + 1) - 1 ∧ t (z + 1).toNat ≠ 31)
def RecA (t : Nat → Int) (n : Nat) : Prop := ∃ (base fd : Int) (sf : Int → Int), n ≤ 400 ∧ RecOK t n base fd sf ∧ RecX t n fd sf ∧ numAt t n 12 5 = base ∧ 1 ≤ fd
theorem numM_oct {ca : Nat → Int} {r : Int} {n : Nat} (hr : 0 ≤ r) : ∀ (k : Nat) (x v : Int), 0 ≤ x → x + k ≤ n → numL (octM ca r) n k x v = numM ca k (400 * r + x) v := by
  intro k
  induction k with
  | zero => intro x v _ _; rfl
  | succ k ih =>
    intro x v h0 h1
    simp only [numL, numM]
    rw [if_pos (by omega), ih (x + 1) _ (by omega) (by omega)]
    unfold octM
    rw [show 400 * r.toNat + x.toNat = (400 * r + x).toNat by omega, show 400 * r + (x + 1) = 400 * r + x + 1 by omega]
    congr 1; omega
theorem numA_oct {ca : Nat → Int} {r : Int} {n : Nat} (hr : 0 ≤ r) {x k : Int} (h0 : 0 ≤ x) (hk : 0 ≤ k) (h1 : x + k ≤ n) : numM ca k.toNat (400 * r + x) 0 = numAt (octM ca r) n x k := by
  unfold numAt; rw [numM_oct hr k.toNat x 0 h0 (by omega)]
theorem octM_at {ca : Nat → Int} {r z : Int} (hr : 0 ≤ r) (hz : 0 ≤ z) : octM ca r z.toNat = ca (400 * r + z).toNat := by
  unfold octM; congr 1; omega
theorem fr_oct {ca : Nat → Int} {r a b : Int} (hr : 0 ≤ r) (ha : 0 ≤ a) (h1 : ∀ z : Int, a ≤ z → z < b → octM ca r z.toNat ≠ 30) (h2 : ∀ z : Int, a ≤ z → z < b → octM ca r z.toNat = 31 → a + 2 ≤ z ∧ z + 1 < b ∧ octM ca r (z + 1).toNat ≠ 31) : ∀ z : Int, 400 * r + a ≤ z → z < 400 * r + b → ca z.toNat ≠ 30 ∧ (ca z.toNat = 31 → 400 * r + a + 2 ≤ z ∧ z + 1 < 400 * r + b ∧ ca (z + 1).toNat ≠ 31) := by
  intro z hz1 hz2
  have e1 := h1 (z - 400 * r) (by omega) (by omega)
  have e2 := h2 (z - 400 * r) (by omega) (by omega)
  rw [octM_at hr (by omega), show 400 * r + (z - 400 * r) = z by omega] at e1 e2
  rw [octM_at hr (by omega), show 400 * r + (z - 400 * r + 1) = z + 1 by omega] at e2
  exact ⟨e1, fun h => by have := e2 h; exact ⟨by omega, by omega, this.2.2⟩⟩
/-- TEXTS of one entry; of a RECORD -/
def gaE (ca : Nat → Int) (r ix e : Int) : List (Int × Int) :=
  if numM ca 3 (400 * r + 24 + 12 * e) 0 < 10 then (if ix = 5 ∧ numM ca 3 (400 * r + 24 + 12 * e) 0 = 1 then [(400 * r + numM ca 5 (400 * r + 12) 0 + numM ca 5 (400 * r + 24 + 12 * e + 7) 0, 400 * r + numM ca 5 (400 * r + 12) 0 + numM ca 5 (400 * r + 24 + 12 * e + 7) 0 + numM ca 4 (400 * r + 24 + 12 * e + 3) 0 - 1)] else [])
  else gpA ca ix (numM ca 3 (400 * r + 24 + 12 * e) 0) (400 * r + numM ca 5 (400 * r + 12) 0 + numM ca 5 (400 * r + 24 + 12 * e + 7) 0) (400 * r + numM ca 5 (400 * r + 12) 0 + numM ca 5 (400 * r + 24 + 12 * e + 7) 0 + numM ca 4 (400 * r + 24 + 12 * e + 3) 0 - 1)
def gaL (ca : Nat → Int) (r ix : Int) : Nat → Int → List (Int × Int)
  | 0, _ => []
  | k + 1, e => gaE ca r ix e ++ gaL ca r ix k (e + 1)
def gaT (ca : Nat → Int) (r ix : Int) : List (Int × Int) := gaL ca r ix ((numM ca 5 (400 * r + 12) 0 - 25) / 12).toNat 0

theorem d_M_gather_0 : decode b_M_gather 0 = .ok (.aload_n 0, 1) := by decide +kernel
theorem d_M_gather_1 : decode b_M_gather 1 = .ok (.iconst 0, 1) := by decide +kernel
theorem d_M_gather_2 : decode b_M_gather 2 = .ok (.putfield 113, 3) := by decide +kernel
theorem d_M_gather_5 : decode b_M_gather 5 = .ok (.sipush 400, 3) := by decide +kernel
theorem d_M_gather_8 : decode b_M_gather 8 = .ok (.iload_n 1, 1) := by decide +kernel
theorem d_M_gather_9 : decode b_M_gather 9 = .ok (.imul, 1) := by decide +kernel
theorem d_M_gather_10 : decode b_M_gather 10 = .ok (.istore_n 3, 1) := by decide +kernel
theorem d_M_gather_11 : decode b_M_gather 11 = .ok (.aload_n 0, 1) := by decide +kernel
theorem d_M_gather_12 : decode b_M_gather 12 = .ok (.iload_n 1, 1) := by decide +kernel
theorem d_M_gather_13 : decode b_M_gather 13 = .ok (.invokevirtual 100, 3) := by decide +kernel
theorem d_M_gather_16 : decode b_M_gather 16 = .ok (.istore 4, 2) := by decide +kernel
theorem d_M_gather_18 : decode b_M_gather 18 = .ok (.aload_n 0, 1) := by decide +kernel
theorem d_M_gather_19 : decode b_M_gather 19 = .ok (.iload_n 1, 1) := by decide +kernel
theorem d_M_gather_20 : decode b_M_gather 20 = .ok (.invokevirtual 116, 3) := by decide +kernel
theorem d_M_gather_23 : decode b_M_gather 23 = .ok (.istore 5, 2) := by decide +kernel
theorem d_M_gather_25 : decode b_M_gather 25 = .ok (.iconst 0, 1) := by decide +kernel
theorem d_M_gather_26 : decode b_M_gather 26 = .ok (.istore 6, 2) := by decide +kernel
theorem d_M_gather_28 : decode b_M_gather 28 = .ok (.iload 6, 2) := by decide +kernel
theorem d_M_gather_30 : decode b_M_gather 30 = .ok (.iload 5, 2) := by decide +kernel
theorem d_M_gather_32 : decode b_M_gather 32 = .ok (.if_icmp .ge 103, 3) := by decide +kernel
theorem d_M_gather_35 : decode b_M_gather 35 = .ok (.iload_n 3, 1) := by decide +kernel
theorem d_M_gather_36 : decode b_M_gather 36 = .ok (.bipush 24, 2) := by decide +kernel
theorem d_M_gather_38 : decode b_M_gather 38 = .ok (.iadd, 1) := by decide +kernel
theorem d_M_gather_39 : decode b_M_gather 39 = .ok (.bipush 12, 2) := by decide +kernel
theorem d_M_gather_41 : decode b_M_gather 41 = .ok (.iload 6, 2) := by decide +kernel
theorem d_M_gather_43 : decode b_M_gather 43 = .ok (.imul, 1) := by decide +kernel
theorem d_M_gather_44 : decode b_M_gather 44 = .ok (.iadd, 1) := by decide +kernel
theorem d_M_gather_45 : decode b_M_gather 45 = .ok (.istore 7, 2) := by decide +kernel
theorem d_M_gather_47 : decode b_M_gather 47 = .ok (.aload_n 0, 1) := by decide +kernel
theorem d_M_gather_48 : decode b_M_gather 48 = .ok (.iload 7, 2) := by decide +kernel
theorem d_M_gather_50 : decode b_M_gather 50 = .ok (.iconst 3, 1) := by decide +kernel
theorem d_M_gather_51 : decode b_M_gather 51 = .ok (.invokevirtual 110, 3) := by decide +kernel
theorem d_M_gather_54 : decode b_M_gather 54 = .ok (.istore 8, 2) := by decide +kernel
theorem d_M_gather_56 : decode b_M_gather 56 = .ok (.iload_n 3, 1) := by decide +kernel
theorem d_M_gather_57 : decode b_M_gather 57 = .ok (.iload 4, 2) := by decide +kernel
theorem d_M_gather_59 : decode b_M_gather 59 = .ok (.iadd, 1) := by decide +kernel
theorem d_M_gather_60 : decode b_M_gather 60 = .ok (.aload_n 0, 1) := by decide +kernel
theorem d_M_gather_61 : decode b_M_gather 61 = .ok (.iload 7, 2) := by decide +kernel
theorem d_M_gather_63 : decode b_M_gather 63 = .ok (.bipush 7, 2) := by decide +kernel
theorem d_M_gather_65 : decode b_M_gather 65 = .ok (.iadd, 1) := by decide +kernel
theorem d_M_gather_66 : decode b_M_gather 66 = .ok (.iconst 5, 1) := by decide +kernel
theorem d_M_gather_67 : decode b_M_gather 67 = .ok (.invokevirtual 110, 3) := by decide +kernel
theorem d_M_gather_70 : decode b_M_gather 70 = .ok (.iadd, 1) := by decide +kernel
theorem d_M_gather_71 : decode b_M_gather 71 = .ok (.istore 9, 2) := by decide +kernel
theorem d_M_gather_73 : decode b_M_gather 73 = .ok (.iload 9, 2) := by decide +kernel
theorem d_M_gather_75 : decode b_M_gather 75 = .ok (.aload_n 0, 1) := by decide +kernel
theorem d_M_gather_76 : decode b_M_gather 76 = .ok (.iload 7, 2) := by decide +kernel
theorem d_M_gather_78 : decode b_M_gather 78 = .ok (.iconst 3, 1) := by decide +kernel
theorem d_M_gather_79 : decode b_M_gather 79 = .ok (.iadd, 1) := by decide +kernel
theorem d_M_gather_80 : decode b_M_gather 80 = .ok (.iconst 4, 1) := by decide +kernel
theorem d_M_gather_81 : decode b_M_gather 81 = .ok (.invokevirtual 110, 3) := by decide +kernel
theorem d_M_gather_84 : decode b_M_gather 84 = .ok (.iadd, 1) := by decide +kernel
theorem d_M_gather_85 : decode b_M_gather 85 = .ok (.iconst 1, 1) := by decide +kernel
theorem d_M_gather_86 : decode b_M_gather 86 = .ok (.isub, 1) := by decide +kernel
theorem d_M_gather_87 : decode b_M_gather 87 = .ok (.istore 10, 2) := by decide +kernel
theorem d_M_gather_89 : decode b_M_gather 89 = .ok (.iload 8, 2) := by decide +kernel
theorem d_M_gather_91 : decode b_M_gather 91 = .ok (.bipush 10, 2) := by decide +kernel
theorem d_M_gather_93 : decode b_M_gather 93 = .ok (.if_icmp .ge 25, 3) := by decide +kernel
theorem d_M_gather_96 : decode b_M_gather 96 = .ok (.iload_n 2, 1) := by decide +kernel
theorem d_M_gather_97 : decode b_M_gather 97 = .ok (.iconst 5, 1) := by decide +kernel
theorem d_M_gather_98 : decode b_M_gather 98 = .ok (.if_icmp .ne 31, 3) := by decide +kernel
theorem d_M_gather_101 : decode b_M_gather 101 = .ok (.iload 8, 2) := by decide +kernel
theorem d_M_gather_103 : decode b_M_gather 103 = .ok (.iconst 1, 1) := by decide +kernel
theorem d_M_gather_104 : decode b_M_gather 104 = .ok (.if_icmp .ne 25, 3) := by decide +kernel
theorem d_M_gather_107 : decode b_M_gather 107 = .ok (.aload_n 0, 1) := by decide +kernel
theorem d_M_gather_108 : decode b_M_gather 108 = .ok (.iload 9, 2) := by decide +kernel
theorem d_M_gather_110 : decode b_M_gather 110 = .ok (.iload 10, 2) := by decide +kernel
theorem d_M_gather_112 : decode b_M_gather 112 = .ok (.invokevirtual 119, 3) := by decide +kernel
theorem d_M_gather_115 : decode b_M_gather 115 = .ok (.goto 14, 3) := by decide +kernel
theorem d_M_gather_118 : decode b_M_gather 118 = .ok (.aload_n 0, 1) := by decide +kernel
theorem d_M_gather_119 : decode b_M_gather 119 = .ok (.iload_n 2, 1) := by decide +kernel
theorem d_M_gather_120 : decode b_M_gather 120 = .ok (.iload 8, 2) := by decide +kernel
theorem d_M_gather_122 : decode b_M_gather 122 = .ok (.iload 9, 2) := by decide +kernel
theorem d_M_gather_124 : decode b_M_gather 124 = .ok (.iload 10, 2) := by decide +kernel
theorem d_M_gather_126 : decode b_M_gather 126 = .ok (.invokevirtual 123, 3) := by decide +kernel
theorem d_M_gather_129 : decode b_M_gather 129 = .ok (.iinc 6 1, 3) := by decide +kernel
theorem d_M_gather_132 : decode b_M_gather 132 = .ok (.goto (-104), 3) := by decide +kernel
theorem d_M_gather_135 : decode b_M_gather 135 = .ok (.return_, 1) := by decide +kernel
set_option maxHeartbeats 4000000 in
set_option maxRecDepth 100000 in
theorem c_M_gather (l : Launch) (dC : Nat → ClassId) (dI : Nat → Nat → Nat) (kA : Nat → ClassId) (sz : Nat) (mo : Nat) (ma : Nat → Nat) (mrf : Int) (mz : Int) (mls : Int) (mfp : Int) (mfm : Int) (mtx : Int) (mwd : Int) (mak : Int) (mli : Int) (mlx : Int) (mat : Int) (mtk : Int) (mtf : Int) (mtt : Int) (mfa : Int) (mla : Int) (mlp : Int) (mdp : Int) (msi : Int) (mpf : Int) (mpt : Int) (mdn : Bool) (ca : Nat → Int) (ctf : Nat → Int) (ctt : Nat → Int) (r : Int) (ix : Int) (rn : Nat) (hca : C2 ca) (hr0 : 0 ≤ r ∧ r ≤ 9) (hix : -2147483648 ≤ ix ∧ ix < 2147483648) (hRA : RecA (octM ca r) rn) : Met l y_M_gather (wsy y_M_gather b_M_gather 11 none) (rmd 3 0 0) (li_Pr (dC, dI) CL (TY kA) [.ref mo, .int (iI r), .int (iI ix)] (fun h => h.size = sz ∧ va_P (dC, dI) CL [(mo, .inr (10, [.int (iI mrf), .ref (ma 0), .int (iI mz), .ref (ma 1), .ref (ma 2), .int (iI mls), .int (iI mfp), .int (iI mfm), .ref (ma 3), .int (iI mtx), .ref (ma 4), .ref (ma 5), .int (iI mwd), .ref (ma 6), .ref (ma 7), .int (iI mak), .ref (ma 8), .ref (ma 9), .int (iI mli), .int (iI mlx), .ref (ma 10), .ref (ma 11), .int (iI mat), .int (iI mtk), .int (iI mtf), .int (iI mtt), .int (iI mfa), .int (iI mla), .int (iI mlp), .int (iI mdp), .ref (ma 12), .ref (ma 13), .int (iI msi), .int (iI (bI mdn)), .int (iI mpf), .int (iI mpt)])), (ma 1, .inl (kA 0, 4120, .inl (aI ca))), (ma 4, .inl (kA 0, 400, .inl (aI ctf))), (ma 5, .inl (kA 0, 400, .inl (aI ctt)))] h ∧ va_D (fun q => dI 100 0 ≤ q) [(mo, .inr (10, [.int (iI mrf), .ref (ma 0), .int (iI mz), .ref (ma 1), .ref (ma 2), .int (iI mls), .int (iI mfp), .int (iI mfm), .ref (ma 3), .int (iI mtx), .ref (ma 4), .ref (ma 5), .int (iI mwd), .ref (ma 6), .ref (ma 7), .int (iI mak), .ref (ma 8), .ref (ma 9), .int (iI mli), .int (iI mlx), .ref (ma 10), .ref (ma 11), .int (iI mat), .int (iI mtk), .int (iI mtf), .int (iI mtt), .int (iI mfa), .int (iI mla), .int (iI mlp), .int (iI mdp), .ref (ma 12), .ref (ma 13), .int (iI msi), .int (iI (bI mdn)), .int (iI mpf), .int (iI mpt)])), (ma 1, .inl (kA 0, 4120, .inl (aI ca))), (ma 4, .inl (kA 0, 400, .inl (aI ctf))), (ma 5, .inl (kA 0, 400, .inl (aI ctt)))] ∧ (fun _ => True) h)) (li_Qw (S := (Int) × (Nat → Int) × (Nat → Int)) (dC, dI) CL (fun u => HL (gaT ca r ix) u.1 u.2.1 u.2.2 ∧ LB (gaT ca r ix) (400 * r) (400 * r + 400) ∧ u.1 ≤ 400) (fun _ => none) (fun u => [(mo, .inr (10, [.int (iI mrf), .ref (ma 0), .int (iI mz), .ref (ma 1), .ref (ma 2), .int (iI mls), .int (iI mfp), .int (iI mfm), .ref (ma 3), .int (iI u.1), .ref (ma 4), .ref (ma 5), .int (iI mwd), .ref (ma 6), .ref (ma 7), .int (iI mak), .ref (ma 8), .ref (ma 9), .int (iI mli), .int (iI mlx), .ref (ma 10), .ref (ma 11), .int (iI mat), .int (iI mtk), .int (iI mtf), .int (iI mtt), .int (iI mfa), .int (iI mla), .int (iI mlp), .int (iI mdp), .ref (ma 12), .ref (ma 13), .int (iI msi), .int (iI (bI mdn)), .int (iI mpf), .int (iI mpt)])), (ma 1, .inl (kA 0, 4120, .inl (aI ca))), (ma 4, .inl (kA 0, 400, .inl (aI u.2.1))), (ma 5, .inl (kA 0, 400, .inl (aI u.2.2)))]) (va_A [(mo, .inr (10, [.int (iI mrf), .ref (ma 0), .int (iI mz), .ref (ma 1), .ref (ma 2), .int (iI mls), .int (iI mfp), .int (iI mfm), .ref (ma 3), .int (iI mtx), .ref (ma 4), .ref (ma 5), .int (iI mwd), .ref (ma 6), .ref (ma 7), .int (iI mak), .ref (ma 8), .ref (ma 9), .int (iI mli), .int (iI mlx), .ref (ma 10), .ref (ma 11), .int (iI mat), .int (iI mtk), .int (iI mtf), .int (iI mtt), .int (iI mfa), .int (iI mla), .int (iI mlp), .int (iI mdp), .ref (ma 12), .ref (ma 13), .int (iI msi), .int (iI (bI mdn)), .int (iI mpf), .int (iI mpt)])), (ma 1, .inl (kA 0, 4120, .inl (aI ca))), (ma 4, .inl (kA 0, 400, .inl (aI ctf))), (ma 5, .inl (kA 0, 400, .inl (aI ctt)))] sz)) 0 0 (va_A [(mo, .inr (10, [.int (iI mrf), .ref (ma 0), .int (iI mz), .ref (ma 1), .ref (ma 2), .int (iI mls), .int (iI mfp), .int (iI mfm), .ref (ma 3), .int (iI mtx), .ref (ma 4), .ref (ma 5), .int (iI mwd), .ref (ma 6), .ref (ma 7), .int (iI mak), .ref (ma 8), .ref (ma 9), .int (iI mli), .int (iI mlx), .ref (ma 10), .ref (ma 11), .int (iI mat), .int (iI mtk), .int (iI mtf), .int (iI mtt), .int (iI mfa), .int (iI mla), .int (iI mlp), .int (iI mdp), .ref (ma 12), .ref (ma 13), .int (iI msi), .int (iI (bI mdn)), .int (iI mpf), .int (iI mpt)])), (ma 1, .inl (kA 0, 4120, .inl (aI ca))), (ma 4, .inl (kA 0, 400, .inl (aI ctf))), (ma 5, .inl (kA 0, 400, .inl (aI ctt)))] sz) := by
  refine li_mwv (by decide) (Nat.le_of_ble_eq_true rfl) ?_
  intro p e s m args below meth c Q A C hP hD hBx hK hN hG hA hAi hAN fin ls hl
  obtain ⟨hx, hb, hr, hml, hown, hts, hlocks, hin⟩ := C
  have hown : s.vm.findClass R_M = some m.cls := hown
  have hl : lv_has ls 11 [(0, .ref mo), (1, .int (iI r)), (2, .int (iI ix))] := hl
  obtain ⟨base, fd, sf, hn4, ⟨hfd, hbase, hs0, hsn, hf⟩, hX, hnb, hfd1⟩ := id hRA
  have hb0 : numM ca 5 (400 * r + 12) 0 = base := by rw [← hnb]; exact numA_oct hr0.1 (x := 12) (k := 5) (by omega) (by omega) (by omega)
  have K_28 : ∀ (nn_28 : Nat) (e1 : Int) (vn : Int) (vf : Nat → Int) (vt : Nat → Int) (tl : List (Int × Int)), (0 ≤ e1 ∧ e1 ≤ fd) → (HL tl vn vf vt) → (LB tl (400 * r) (400 * r + 400)) → (vn ≤ sf e1) → (base ≤ sf e1 ∧ sf e1 + 1 ≤ rn) → (tl ++ gaL ca r ix (fd - e1).toNat e1 = gaT ca r ix) → ((fd - e1).toNat < nn_28) → ∀ (H : Heap) (locs : List Loc), va_P (dC, dI) CL [(mo, .inr (10, [.int (iI mrf), .ref (ma 0), .int (iI mz), .ref (ma 1), .ref (ma 2), .int (iI mls), .int (iI mfp), .int (iI mfm), .ref (ma 3), .int (iI vn), .ref (ma 4), .ref (ma 5), .int (iI mwd), .ref (ma 6), .ref (ma 7), .int (iI mak), .ref (ma 8), .ref (ma 9), .int (iI mli), .int (iI mlx), .ref (ma 10), .ref (ma 11), .int (iI mat), .int (iI mtk), .int (iI mtf), .int (iI mtt), .int (iI mfa), .int (iI mla), .int (iI mlp), .int (iI mdp), .ref (ma 12), .ref (ma 13), .int (iI msi), .int (iI (bI mdn)), .int (iI mpf), .int (iI mpt)])), (ma 1, .inl (kA 0, 4120, .inl (aI ca))), (ma 4, .inl (kA 0, 400, .inl (aI vf))), (ma 5, .inl (kA 0, 400, .inl (aI vt)))] H → va_D A [(mo, .inr (10, [.int (iI mrf), .ref (ma 0), .int (iI mz), .ref (ma 1), .ref (ma 2), .int (iI mls), .int (iI mfp), .int (iI mfm), .ref (ma 3), .int (iI vn), .ref (ma 4), .ref (ma 5), .int (iI mwd), .ref (ma 6), .ref (ma 7), .int (iI mak), .ref (ma 8), .ref (ma 9), .int (iI mli), .int (iI mlx), .ref (ma 10), .ref (ma 11), .int (iI mat), .int (iI mtk), .int (iI mtf), .int (iI mtt), .int (iI mfa), .int (iI mla), .int (iI mlp), .int (iI mdp), .ref (ma 12), .ref (ma 13), .int (iI msi), .int (iI (bI mdn)), .int (iI mpf), .int (iI mpt)])), (ma 1, .inl (kA 0, 4120, .inl (aI ca))), (ma 4, .inl (kA 0, 400, .inl (aI vf))), (ma 5, .inl (kA 0, 400, .inl (aI vt)))] → va_S A s.heap H locs → ∀ ls : Array Slot, lv_has ls 11 [(0, .ref mo), (1, .int (iI r)), (2, .int (iI ix)), (3, .int (iI (400 * r))), (4, .int (iI base)), (5, .int (iI fd)), (6, .int (iI e1))] → W p l e (rmd 3 0 0) s m args below meth c H locs 0 0 Q (F0 m 28 ls []) := by
    intro nn_28
    induction nn_28 with
    | zero => intro e1 vn vf vt tl he9 hHc hLc hcc hsi hres hm; exact absurd hm (Nat.not_lt_zero _)
    | succ nn_28 ih_28 =>
      intro e1 vn vf vt tl he9 hHc hLc hcc hsi hres hm_28 H locs hP hD hS ls hl
      have hvn := hHc.nn
      refine lv_iload hx hb d_M_gather_28 (lv_at hl 6 rfl) ?_
      refine lv_iload hx hb d_M_gather_30 (lv_at hl 5 rfl) ?_
      refine li_icmp_ge (tgt := 135) hx hb d_M_gather_32 (by decide) (by omega) (by omega) (fun c1 => ?_) (fun c1 => ?_)
      · have _q := c1
        exact fin (vn, vf, vt) _ _ _ _ (by show HL (gaT ca r ix) vn vf vt ∧ LB (gaT ca r ix) (400 * r) (400 * r + 400) ∧ vn ≤ 400; have e9 := hres; rw [show (fd - e1).toNat = 0 by omega] at e9; simp only [gaL] at e9; rw [List.append_nil] at e9; rw [← e9]; exact ⟨hHc, hLc, by omega⟩) (by first | exact hP | (subst_vars; exact hP)) (by first | exact hD | (subst_vars; exact hD)) hS d_M_gather_135
      · have _q := c1
        obtain ⟨ftag, fst, flen, fb, fid, fsub⟩ := hf e1 (by omega) (by omega)
        obtain ⟨x30, xno, xsub⟩ := hX e1 (by omega) (by omega)
        refine lv_iload_n hx hb d_M_gather_35 rfl (lv_at hl 3 rfl) ?_
        refine lv_bipush (v := iI 24) hx hb d_M_gather_36 (by decide) ?_
        refine li_iadd hx hb d_M_gather_38 ?_
        refine lv_bipush (v := iI 12) hx hb d_M_gather_39 (by decide) ?_
        refine lv_iload hx hb d_M_gather_41 (lv_at hl 6 rfl) ?_
        refine li_imul hx hb d_M_gather_43 ?_
        refine li_iadd hx hb d_M_gather_44 ?_
        refine li_nm (fun ent eent => ?_)
        refine lv_istore (lv' := [(7, .int (iI ent)), (0, .ref mo), (1, .int (iI r)), (2, .int (iI ix)), (3, .int (iI (400 * r))), (4, .int (iI base)), (5, .int (iI fd)), (6, .int (iI e1))]) hx hb d_M_gather_45 hl (by decide) rfl (fun ls hl => ?_)
        refine lv_aload_n hx hb d_M_gather_47 rfl (lv_at hl 1 rfl) ?_
        refine lv_iload hx hb d_M_gather_48 (lv_at hl 0 rfl) ?_
        refine lv_iconst (v := iI 3) hx hb d_M_gather_50 rfl ?_
        refine li_callr ((va_runV (As := [.int (iI ent), .int (iI 3)]) (rest := []) ⟨hx, hb, hml, hown, hts⟩ (c_M_numberOf l dC dI kA mo ma mrf mz mls mfp mfm vn mwd mak mli mlx mat mtk mtf mtt mfa mla mlp mdp msi mpf mpt mdn ca ent 3 (by omega)) (cw_M_110 hts rfl rfl ⟨Nat.le_of_ble_eq_true rfl, Nat.le_of_ble_eq_true rfl⟩) (li_preV (va_recv hK hP (ci := 10) (q0 := 0) rfl rfl) (hP.sub [0, 1] rfl) hK hN (hG.go hS hAN)) rfl rfl hl.1 rfl (lv_room (Nat.le_of_ble_eq_true rfl)) d_M_gather_51 ⟨(by show 0 + 0 ≤ 0; omega), (by show 0 + 0 ≤ 0; omega)⟩).run) ?_
        refine li_nm (fun tag etag => ?_)
        refine lv_istore (lv' := [(8, .int (iI tag)), (7, .int (iI ent)), (0, .ref mo), (1, .int (iI r)), (2, .int (iI ix)), (3, .int (iI (400 * r))), (4, .int (iI base)), (5, .int (iI fd)), (6, .int (iI e1))]) hx hb d_M_gather_54 hl (by decide) rfl (fun ls hl => ?_)
        have etag2 : tag = numAt (octM ca r) rn (24 + e1 * 12) 3 := by rw [etag, eent, show 400 * r + 24 + 12 * e1 = 400 * r + (24 + e1 * 12) by omega]; exact numA_oct hr0.1 (by omega) (by omega) (by omega)
        have htr : 0 ≤ tag ∧ tag ≤ 999 := by rw [etag2]; exact ftag
        refine lv_iload_n hx hb d_M_gather_56 rfl (lv_at hl 5 rfl) ?_
        refine lv_iload hx hb d_M_gather_57 (lv_at hl 6 rfl) ?_
        refine li_iadd hx hb d_M_gather_59 ?_
        refine lv_aload_n hx hb d_M_gather_60 rfl (lv_at hl 2 rfl) ?_
        refine lv_iload hx hb d_M_gather_61 (lv_at hl 1 rfl) ?_
        refine lv_bipush (v := iI 7) hx hb d_M_gather_63 (by decide) ?_
        refine li_iadd hx hb d_M_gather_65 ?_
        refine lv_iconst (v := iI 5) hx hb d_M_gather_66 rfl ?_
        refine li_callr ((va_runV (As := [.int (iI (ent + 7)), .int (iI 5)]) (rest := [.int (iI ((400 * r) + base))]) ⟨hx, hb, hml, hown, hts⟩ (c_M_numberOf l dC dI kA mo ma mrf mz mls mfp mfm vn mwd mak mli mlx mat mtk mtf mtt mfa mla mlp mdp msi mpf mpt mdn ca (ent + 7) 5 (by omega)) (cw_M_110 hts rfl rfl ⟨Nat.le_of_ble_eq_true rfl, Nat.le_of_ble_eq_true rfl⟩) (li_preV (va_recv hK hP (ci := 10) (q0 := 0) rfl rfl) (hP.sub [0, 1] rfl) hK hN (hG.go hS hAN)) rfl rfl hl.1 rfl (lv_room (Nat.le_of_ble_eq_true rfl)) d_M_gather_67 ⟨(by show 0 + 0 ≤ 0; omega), (by show 0 + 0 ≤ 0; omega)⟩).run) ?_
        refine li_iadd hx hb d_M_gather_70 ?_
        refine li_nm (fun st est => ?_)
        refine lv_istore (lv' := [(9, .int (iI st)), (8, .int (iI tag)), (7, .int (iI ent)), (0, .ref mo), (1, .int (iI r)), (2, .int (iI ix)), (3, .int (iI (400 * r))), (4, .int (iI base)), (5, .int (iI fd)), (6, .int (iI e1))]) hx hb d_M_gather_71 hl (by decide) rfl (fun ls hl => ?_)
        have est2 : st = 400 * r + sf e1 := by rw [est, ← fst, eent, show 400 * r + 24 + 12 * e1 + 7 = 400 * r + (24 + e1 * 12 + 7) by omega, numA_oct (n := rn) hr0.1 (by omega) (by omega) (by omega)]; omega
        refine lv_iload hx hb d_M_gather_73 (lv_at hl 0 rfl) ?_
        refine lv_aload_n hx hb d_M_gather_75 rfl (lv_at hl 3 rfl) ?_
        refine lv_iload hx hb d_M_gather_76 (lv_at hl 2 rfl) ?_
        refine lv_iconst (v := iI 3) hx hb d_M_gather_78 rfl ?_
        refine li_iadd hx hb d_M_gather_79 ?_
        refine lv_iconst (v := iI 4) hx hb d_M_gather_80 rfl ?_
        refine li_callr ((va_runV (As := [.int (iI (ent + 3)), .int (iI 4)]) (rest := [.int (iI st)]) ⟨hx, hb, hml, hown, hts⟩ (c_M_numberOf l dC dI kA mo ma mrf mz mls mfp mfm vn mwd mak mli mlx mat mtk mtf mtt mfa mla mlp mdp msi mpf mpt mdn ca (ent + 3) 4 (by omega)) (cw_M_110 hts rfl rfl ⟨Nat.le_of_ble_eq_true rfl, Nat.le_of_ble_eq_true rfl⟩) (li_preV (va_recv hK hP (ci := 10) (q0 := 0) rfl rfl) (hP.sub [0, 1] rfl) hK hN (hG.go hS hAN)) rfl rfl hl.1 rfl (lv_room (Nat.le_of_ble_eq_true rfl)) d_M_gather_81 ⟨(by show 0 + 0 ≤ 0; omega), (by show 0 + 0 ≤ 0; omega)⟩).run) ?_
        refine li_iadd hx hb d_M_gather_84 ?_
        refine lv_iconst (v := iI 1) hx hb d_M_gather_85 rfl ?_
        refine li_isub hx hb d_M_gather_86 ?_
        refine li_nm (fun en een => ?_)
        refine lv_istore (lv' := [(10, .int (iI en)), (9, .int (iI st)), (8, .int (iI tag)), (7, .int (iI ent)), (0, .ref mo), (1, .int (iI r)), (2, .int (iI ix)), (3, .int (iI (400 * r))), (4, .int (iI base)), (5, .int (iI fd)), (6, .int (iI e1))]) hx hb d_M_gather_87 hl (by decide) rfl (fun ls hl => ?_)
        have een2 : en = 400 * r + (sf (e1 + 1) - 1) := by rw [een, est2, eent, show 400 * r + 24 + 12 * e1 + 3 = 400 * r + (24 + e1 * 12 + 3) by omega, numA_oct (n := rn) hr0.1 (by omega) (by omega) (by omega), flen]; omega
        have hgE : gaE ca r ix e1 = if tag < 10 then (if ix = 5 ∧ tag = 1 then [(st, en)] else []) else gpA ca ix tag st en := by rw [een, est, etag, eent, ← hb0]; rfl
        refine lv_iload hx hb d_M_gather_89 (lv_at hl 2 rfl) ?_
        refine lv_bipush (v := iI 10) hx hb d_M_gather_91 (by decide) ?_
        refine li_icmp_ge (tgt := 118) hx hb d_M_gather_93 (by decide) (by omega) (by omega) (fun c2 => ?_) (fun c2 => ?_)
        · have _q := c2
          have hg := fsub (by rw [← etag2]; omega)
          refine lv_aload_n hx hb d_M_gather_118 rfl (lv_at hl 4 rfl) ?_
          refine lv_iload_n hx hb d_M_gather_119 rfl (lv_at hl 6 rfl) ?_
          refine lv_iload hx hb d_M_gather_120 (lv_at hl 2 rfl) ?_
          refine lv_iload hx hb d_M_gather_122 (lv_at hl 1 rfl) ?_
          refine lv_iload hx hb d_M_gather_124 (lv_at hl 0 rfl) ?_
          refine li_callw (wc := [(mo, .inr (10, [.int (iI mrf), .ref (ma 0), .int (iI mz), .ref (ma 1), .ref (ma 2), .int (iI mls), .int (iI mfp), .int (iI mfm), .ref (ma 3), .int (iI vn), .ref (ma 4), .ref (ma 5), .int (iI mwd), .ref (ma 6), .ref (ma 7), .int (iI mak), .ref (ma 8), .ref (ma 9), .int (iI mli), .int (iI mlx), .ref (ma 10), .ref (ma 11), .int (iI mat), .int (iI mtk), .int (iI mtf), .int (iI mtt), .int (iI mfa), .int (iI mla), .int (iI mlp), .int (iI mdp), .ref (ma 12), .ref (ma 13), .int (iI msi), .int (iI (bI mdn)), .int (iI mpf), .int (iI mpt)])), (ma 1, .inl (kA 0, 4120, .inl (aI ca))), (ma 4, .inl (kA 0, 400, .inl (aI vf))), (ma 5, .inl (kA 0, 400, .inl (aI vt)))]) (wr := []) (va_runV (As := [.int (iI ix), .int (iI tag), .int (iI st), .int (iI en)]) (rest := []) ⟨hx, hb, hml, hown, hts⟩ (c_M_gatherParts l dC dI kA H.size mo ma mrf mz mls mfp mfm vn mwd mak mli mlx mat mtk mtf mtt mfa mla mlp mdp msi mpf mpt mdn ca vf vt ix tag st en tl (400 * r) (400 * r + 400) (by exact hca) (by omega) (by omega) (by omega) (by rw [een2, ← octM_at (ca := ca) hr0.1 (by omega)]; exact x30) (by rw [een2, est2]; exact fr_oct hr0.1 (by omega) xno (xsub (by rw [← etag2]; omega))) (by rw [est2, show 400 * r + sf e1 + 2 = 400 * r + (sf e1 + 2) by omega, ← octM_at (ca := ca) hr0.1 (by omega)]; exact hg.2) (by exact hHc) (by exact hLc) (by omega)) (cw_M_123 hts rfl rfl ⟨Nat.le_of_ble_eq_true rfl, Nat.le_of_ble_eq_true rfl⟩) (li_preV (va_recv hK hP (ci := 10) (q0 := 0) rfl rfl) ⟨rfl, hP.sub [0, 1, 2, 3] rfl, (hD.sub [0, 1, 2, 3] (by decide) rfl).weaken (fun _ _ _ h => hAN _ h), trivial⟩ hK hN (hG.go hS hAN)) rfl rfl hl.1 rfl (lv_room (Nat.le_of_ble_eq_true rfl)) d_M_gather_126 ⟨(by show 0 + 0 ≤ 0; omega), (by show 0 + 0 ≤ 0; omega)⟩) hP hD hS hA [0, 1, 2, 3] [] rfl rfl (by decide) (by decide) (fun u3 H locs hu3 hP hD hS _hk => ?_)
          obtain ⟨n94, f95, g96⟩ := u3
          have hP : va_P (dC, dI) CL [(mo, .inr (10, [.int (iI mrf), .ref (ma 0), .int (iI mz), .ref (ma 1), .ref (ma 2), .int (iI mls), .int (iI mfp), .int (iI mfm), .ref (ma 3), .int (iI n94), .ref (ma 4), .ref (ma 5), .int (iI mwd), .ref (ma 6), .ref (ma 7), .int (iI mak), .ref (ma 8), .ref (ma 9), .int (iI mli), .int (iI mlx), .ref (ma 10), .ref (ma 11), .int (iI mat), .int (iI mtk), .int (iI mtf), .int (iI mtt), .int (iI mfa), .int (iI mla), .int (iI mlp), .int (iI mdp), .ref (ma 12), .ref (ma 13), .int (iI msi), .int (iI (bI mdn)), .int (iI mpf), .int (iI mpt)])), (ma 1, .inl (kA 0, 4120, .inl (aI ca))), (ma 4, .inl (kA 0, 400, .inl (aI f95))), (ma 5, .inl (kA 0, 400, .inl (aI g96)))] H := hP
          have hD : va_D A [(mo, .inr (10, [.int (iI mrf), .ref (ma 0), .int (iI mz), .ref (ma 1), .ref (ma 2), .int (iI mls), .int (iI mfp), .int (iI mfm), .ref (ma 3), .int (iI n94), .ref (ma 4), .ref (ma 5), .int (iI mwd), .ref (ma 6), .ref (ma 7), .int (iI mak), .ref (ma 8), .ref (ma 9), .int (iI mli), .int (iI mlx), .ref (ma 10), .ref (ma 11), .int (iI mat), .int (iI mtk), .int (iI mtf), .int (iI mtt), .int (iI mfa), .int (iI mla), .int (iI mlp), .int (iI mdp), .ref (ma 12), .ref (ma 13), .int (iI msi), .int (iI (bI mdn)), .int (iI mpf), .int (iI mpt)])), (ma 1, .inl (kA 0, 4120, .inl (aI ca))), (ma 4, .inl (kA 0, 400, .inl (aI f95))), (ma 5, .inl (kA 0, 400, .inl (aI g96)))] := hD
          have hp126 : HL (tl ++ gpA ca ix tag st en) n94 f95 g96 ∧ LB (tl ++ gpA ca ix tag st en) (400 * r) (400 * r + 400) ∧ n94 ≤ vn + (en - st) := hu3
          obtain ⟨e2, ee2⟩ : ∃ y_9 : Int, y_9 = e1 + 1 := ⟨_, rfl⟩
          refine lv_iinc (v := iI e2) (lv' := [(6, .int (iI e2)), (10, .int (iI en)), (9, .int (iI st)), (8, .int (iI tag)), (7, .int (iI ent)), (0, .ref mo), (1, .int (iI r)), (2, .int (iI ix)), (3, .int (iI (400 * r))), (4, .int (iI base)), (5, .int (iI fd))]) hx hb d_M_gather_129 hl (k := 10) rfl (by rw [ee2]; exact iI_add _ _) (by decide) rfl (fun ls hl => ?_)
          refine lv_goto (tgt := 28) hx hb d_M_gather_132 (by decide) ?_
          exact ih_28 e2 n94 f95 g96 (tl ++ gaE ca r ix e1) (by omega) (by first | exact HL.nil | (rw [hgE]; first | (rw [if_pos (by omega), if_pos (by omega)]; exact hHc.push _ _) | (rw [if_pos (by omega), if_neg (by omega), List.append_nil]; exact hHc) | (rw [if_neg (by omega)]; exact hp126.1))) (by first | exact LB.nil | (rw [hgE]; first | (rw [if_pos (by omega), if_pos (by omega)]; exact hLc.app (LB.one (by omega))) | (rw [if_pos (by omega), if_neg (by omega), List.append_nil]; exact hLc) | (rw [if_neg (by omega)]; exact hp126.2.1))) (by first | (rw [hs0]; omega) | (rw [ee2]; omega)) (by first | (rw [hs0]; omega) | (rw [ee2]; omega)) (by first | (unfold gaT; rw [hb0, List.nil_append, show (base - 25) / 12 = fd by omega, Int.sub_zero]; done) | (rw [ee2, ← hres, show (fd - e1).toNat = (fd - (e1 + 1)).toNat + 1 by omega]; simp only [gaL]; rw [List.append_assoc])) (by omega) _ _ hP hD hS _ (lv_sub hl [5, 6, 7, 8, 9, 10, 0] rfl)
        · have _q := c2
          refine lv_iload_n hx hb d_M_gather_96 rfl (lv_at hl 6 rfl) ?_
          refine lv_iconst (v := iI 5) hx hb d_M_gather_97 rfl ?_
          refine li_icmp_ne (tgt := 129) hx hb d_M_gather_98 (by decide) (by omega) (by omega) (fun c7 => ?_) (fun c7 => ?_)
          · have _q := c7
            obtain ⟨e2, ee2⟩ : ∃ y_9 : Int, y_9 = e1 + 1 := ⟨_, rfl⟩
            refine lv_iinc (v := iI e2) (lv' := [(6, .int (iI e2)), (10, .int (iI en)), (9, .int (iI st)), (8, .int (iI tag)), (7, .int (iI ent)), (0, .ref mo), (1, .int (iI r)), (2, .int (iI ix)), (3, .int (iI (400 * r))), (4, .int (iI base)), (5, .int (iI fd))]) hx hb d_M_gather_129 hl (k := 10) rfl (by rw [ee2]; exact iI_add _ _) (by decide) rfl (fun ls hl => ?_)
            refine lv_goto (tgt := 28) hx hb d_M_gather_132 (by decide) ?_
            exact ih_28 e2 vn vf vt (tl ++ gaE ca r ix e1) (by omega) (by first | exact HL.nil | (rw [hgE]; first | (rw [if_pos (by omega), if_pos (by omega)]; exact hHc.push _ _) | (rw [if_pos (by omega), if_neg (by omega), List.append_nil]; exact hHc) | (rw [if_neg (by omega)]; exact hp126.1))) (by first | exact LB.nil | (rw [hgE]; first | (rw [if_pos (by omega), if_pos (by omega)]; exact hLc.app (LB.one (by omega))) | (rw [if_pos (by omega), if_neg (by omega), List.append_nil]; exact hLc) | (rw [if_neg (by omega)]; exact hp126.2.1))) (by first | (rw [hs0]; omega) | (rw [ee2]; omega)) (by first | (rw [hs0]; omega) | (rw [ee2]; omega)) (by first | (unfold gaT; rw [hb0, List.nil_append, show (base - 25) / 12 = fd by omega, Int.sub_zero]; done) | (rw [ee2, ← hres, show (fd - e1).toNat = (fd - (e1 + 1)).toNat + 1 by omega]; simp only [gaL]; rw [List.append_assoc])) (by omega) _ _ hP hD hS _ (lv_sub hl [5, 6, 7, 8, 9, 10, 0] rfl)
          · have _q := c7
            refine lv_iload hx hb d_M_gather_101 (lv_at hl 2 rfl) ?_
            refine lv_iconst (v := iI 1) hx hb d_M_gather_103 rfl ?_
            refine li_icmp_ne (tgt := 129) hx hb d_M_gather_104 (by decide) (by omega) (by omega) (fun c8 => ?_) (fun c8 => ?_)
            · have _q := c8
              obtain ⟨e2, ee2⟩ : ∃ y_9 : Int, y_9 = e1 + 1 := ⟨_, rfl⟩
              refine lv_iinc (v := iI e2) (lv' := [(6, .int (iI e2)), (10, .int (iI en)), (9, .int (iI st)), (8, .int (iI tag)), (7, .int (iI ent)), (0, .ref mo), (1, .int (iI r)), (2, .int (iI ix)), (3, .int (iI (400 * r))), (4, .int (iI base)), (5, .int (iI fd))]) hx hb d_M_gather_129 hl (k := 10) rfl (by rw [ee2]; exact iI_add _ _) (by decide) rfl (fun ls hl => ?_)
              refine lv_goto (tgt := 28) hx hb d_M_gather_132 (by decide) ?_
              exact ih_28 e2 vn vf vt (tl ++ gaE ca r ix e1) (by omega) (by first | exact HL.nil | (rw [hgE]; first | (rw [if_pos (by omega), if_pos (by omega)]; exact hHc.push _ _) | (rw [if_pos (by omega), if_neg (by omega), List.append_nil]; exact hHc) | (rw [if_neg (by omega)]; exact hp126.1))) (by first | exact LB.nil | (rw [hgE]; first | (rw [if_pos (by omega), if_pos (by omega)]; exact hLc.app (LB.one (by omega))) | (rw [if_pos (by omega), if_neg (by omega), List.append_nil]; exact hLc) | (rw [if_neg (by omega)]; exact hp126.2.1))) (by first | (rw [hs0]; omega) | (rw [ee2]; omega)) (by first | (rw [hs0]; omega) | (rw [ee2]; omega)) (by first | (unfold gaT; rw [hb0, List.nil_append, show (base - 25) / 12 = fd by omega, Int.sub_zero]; done) | (rw [ee2, ← hres, show (fd - e1).toNat = (fd - (e1 + 1)).toNat + 1 by omega]; simp only [gaL]; rw [List.append_assoc])) (by omega) _ _ hP hD hS _ (lv_sub hl [5, 6, 7, 8, 9, 10, 0] rfl)
            · have _q := c8
              refine lv_aload_n hx hb d_M_gather_107 rfl (lv_at hl 4 rfl) ?_
              refine lv_iload hx hb d_M_gather_108 (lv_at hl 1 rfl) ?_
              refine lv_iload hx hb d_M_gather_110 (lv_at hl 0 rfl) ?_
              refine li_callw (wc := [(mo, .inr (10, [.int (iI mrf), .ref (ma 0), .int (iI mz), .ref (ma 1), .ref (ma 2), .int (iI mls), .int (iI mfp), .int (iI mfm), .ref (ma 3), .int (iI vn), .ref (ma 4), .ref (ma 5), .int (iI mwd), .ref (ma 6), .ref (ma 7), .int (iI mak), .ref (ma 8), .ref (ma 9), .int (iI mli), .int (iI mlx), .ref (ma 10), .ref (ma 11), .int (iI mat), .int (iI mtk), .int (iI mtf), .int (iI mtt), .int (iI mfa), .int (iI mla), .int (iI mlp), .int (iI mdp), .ref (ma 12), .ref (ma 13), .int (iI msi), .int (iI (bI mdn)), .int (iI mpf), .int (iI mpt)])), (ma 4, .inl (kA 0, 400, .inl (aI vf))), (ma 5, .inl (kA 0, 400, .inl (aI vt)))]) (wr := [(ma 1, .inl (kA 0, 4120, .inl (aI ca)))]) (va_runV (As := [.int (iI st), .int (iI en)]) (rest := []) ⟨hx, hb, hml, hown, hts⟩ (c_M_addText l dC dI kA H.size mo ma mrf mz mls mfp mfm vn mwd mak mli mlx mat mtk mtf mtt mfa mla mlp mdp msi mpf mpt mdn vf vt st en (by omega)) (cw_M_119 hts rfl rfl ⟨Nat.le_of_ble_eq_true rfl, Nat.le_of_ble_eq_true rfl⟩) (li_preV (va_recv hK hP (ci := 10) (q0 := 0) rfl rfl) ⟨rfl, hP.sub [0, 2, 3] rfl, (hD.sub [0, 2, 3] (by decide) rfl).weaken (fun _ _ _ h => hAN _ h), trivial⟩ hK hN (hG.go hS hAN)) rfl rfl hl.1 rfl (lv_room (Nat.le_of_ble_eq_true rfl)) d_M_gather_112 ⟨(by show 0 + 0 ≤ 0; omega), (by show 0 + 0 ≤ 0; omega)⟩) hP hD hS hA [0, 2, 3] [1] rfl rfl (by decide) (by decide) (fun u9 H locs hu9 hP hD hS _hk => ?_)
              have hP : va_P (dC, dI) CL [(ma 1, .inl (kA 0, 4120, .inl (aI ca))), (mo, .inr (10, [.int (iI mrf), .ref (ma 0), .int (iI mz), .ref (ma 1), .ref (ma 2), .int (iI mls), .int (iI mfp), .int (iI mfm), .ref (ma 3), .int (iI (vn + 1)), .ref (ma 4), .ref (ma 5), .int (iI mwd), .ref (ma 6), .ref (ma 7), .int (iI mak), .ref (ma 8), .ref (ma 9), .int (iI mli), .int (iI mlx), .ref (ma 10), .ref (ma 11), .int (iI mat), .int (iI mtk), .int (iI mtf), .int (iI mtt), .int (iI mfa), .int (iI mla), .int (iI mlp), .int (iI mdp), .ref (ma 12), .ref (ma 13), .int (iI msi), .int (iI (bI mdn)), .int (iI mpf), .int (iI mpt)])), (ma 4, .inl (kA 0, 400, .inl (aI (va_up vf vn.toNat st)))), (ma 5, .inl (kA 0, 400, .inl (aI (va_up vt vn.toNat en))))] H := hP
              have hD : va_D A [(ma 1, .inl (kA 0, 4120, .inl (aI ca))), (mo, .inr (10, [.int (iI mrf), .ref (ma 0), .int (iI mz), .ref (ma 1), .ref (ma 2), .int (iI mls), .int (iI mfp), .int (iI mfm), .ref (ma 3), .int (iI (vn + 1)), .ref (ma 4), .ref (ma 5), .int (iI mwd), .ref (ma 6), .ref (ma 7), .int (iI mak), .ref (ma 8), .ref (ma 9), .int (iI mli), .int (iI mlx), .ref (ma 10), .ref (ma 11), .int (iI mat), .int (iI mtk), .int (iI mtf), .int (iI mtt), .int (iI mfa), .int (iI mla), .int (iI mlp), .int (iI mdp), .ref (ma 12), .ref (ma 13), .int (iI msi), .int (iI (bI mdn)), .int (iI mpf), .int (iI mpt)])), (ma 4, .inl (kA 0, 400, .inl (aI (va_up vf vn.toNat st)))), (ma 5, .inl (kA 0, 400, .inl (aI (va_up vt vn.toNat en))))] := hD
              refine lv_goto (tgt := 129) hx hb d_M_gather_115 (by decide) ?_
              obtain ⟨e2, ee2⟩ : ∃ y_9 : Int, y_9 = e1 + 1 := ⟨_, rfl⟩
              refine lv_iinc (v := iI e2) (lv' := [(6, .int (iI e2)), (10, .int (iI en)), (9, .int (iI st)), (8, .int (iI tag)), (7, .int (iI ent)), (0, .ref mo), (1, .int (iI r)), (2, .int (iI ix)), (3, .int (iI (400 * r))), (4, .int (iI base)), (5, .int (iI fd))]) hx hb d_M_gather_129 hl (k := 10) rfl (by rw [ee2]; exact iI_add _ _) (by decide) rfl (fun ls hl => ?_)
              refine lv_goto (tgt := 28) hx hb d_M_gather_132 (by decide) ?_
              exact ih_28 e2 (vn + 1) (va_up vf vn.toNat st) (va_up vt vn.toNat en) (tl ++ gaE ca r ix e1) (by omega) (by first | exact HL.nil | (rw [hgE]; first | (rw [if_pos (by omega), if_pos (by omega)]; exact hHc.push _ _) | (rw [if_pos (by omega), if_neg (by omega), List.append_nil]; exact hHc) | (rw [if_neg (by omega)]; exact hp126.1))) (by first | exact LB.nil | (rw [hgE]; first | (rw [if_pos (by omega), if_pos (by omega)]; exact hLc.app (LB.one (by omega))) | (rw [if_pos (by omega), if_neg (by omega), List.append_nil]; exact hLc) | (rw [if_neg (by omega)]; exact hp126.2.1))) (by first | (rw [hs0]; omega) | (rw [ee2]; omega)) (by first | (rw [hs0]; omega) | (rw [ee2]; omega)) (by first | (unfold gaT; rw [hb0, List.nil_append, show (base - 25) / 12 = fd by omega, Int.sub_zero]; done) | (rw [ee2, ← hres, show (fd - e1).toNat = (fd - (e1 + 1)).toNat + 1 by omega]; simp only [gaL]; rw [List.append_assoc])) (by omega) _ _ (hP.sub [1, 0, 2, 3] rfl) (hD.sub [1, 0, 2, 3] (by decide) rfl) hS _ (lv_sub hl [5, 6, 7, 8, 9, 10, 0] rfl)
  suffices h9 : ∀ (H : Heap) (locs : List Loc), H = s.heap → locs = [] → W p l e (rmd 3 0 0) s m args below meth c H locs 0 0 Q (F0 m 0 ls []) from h9 _ _ rfl rfl
  intro H locs eH eL
  have hP : va_P (dC, dI) CL [(mo, .inr (10, [.int (iI mrf), .ref (ma 0), .int (iI mz), .ref (ma 1), .ref (ma 2), .int (iI mls), .int (iI mfp), .int (iI mfm), .ref (ma 3), .int (iI mtx), .ref (ma 4), .ref (ma 5), .int (iI mwd), .ref (ma 6), .ref (ma 7), .int (iI mak), .ref (ma 8), .ref (ma 9), .int (iI mli), .int (iI mlx), .ref (ma 10), .ref (ma 11), .int (iI mat), .int (iI mtk), .int (iI mtf), .int (iI mtt), .int (iI mfa), .int (iI mla), .int (iI mlp), .int (iI mdp), .ref (ma 12), .ref (ma 13), .int (iI msi), .int (iI (bI mdn)), .int (iI mpf), .int (iI mpt)])), (ma 1, .inl (kA 0, 4120, .inl (aI ca))), (ma 4, .inl (kA 0, 400, .inl (aI ctf))), (ma 5, .inl (kA 0, 400, .inl (aI ctt)))] H := by rw [eH]; exact hP
  have hS : va_S A s.heap H locs := by rw [eH, eL]; exact va_S.rf
  refine lv_aload_n hx hb d_M_gather_0 rfl (lv_at hl 0 rfl) ?_
  refine lv_iconst (v := iI 0) hx hb d_M_gather_1 rfl ?_
  refine pf_M_113 hx hb hts hown hK hP hD hS 0 rfl (Nat.le_of_ble_eq_true rfl) d_M_gather_2 (fun H locs hP hD hS => ?_)
  have hP : va_P (dC, dI) CL [(mo, .inr (10, [.int (iI mrf), .ref (ma 0), .int (iI mz), .ref (ma 1), .ref (ma 2), .int (iI mls), .int (iI mfp), .int (iI mfm), .ref (ma 3), .int (iI 0), .ref (ma 4), .ref (ma 5), .int (iI mwd), .ref (ma 6), .ref (ma 7), .int (iI mak), .ref (ma 8), .ref (ma 9), .int (iI mli), .int (iI mlx), .ref (ma 10), .ref (ma 11), .int (iI mat), .int (iI mtk), .int (iI mtf), .int (iI mtt), .int (iI mfa), .int (iI mla), .int (iI mlp), .int (iI mdp), .ref (ma 12), .ref (ma 13), .int (iI msi), .int (iI (bI mdn)), .int (iI mpf), .int (iI mpt)])), (ma 1, .inl (kA 0, 4120, .inl (aI ca))), (ma 4, .inl (kA 0, 400, .inl (aI ctf))), (ma 5, .inl (kA 0, 400, .inl (aI ctt)))] H := hP
  have hD : va_D A [(mo, .inr (10, [.int (iI mrf), .ref (ma 0), .int (iI mz), .ref (ma 1), .ref (ma 2), .int (iI mls), .int (iI mfp), .int (iI mfm), .ref (ma 3), .int (iI 0), .ref (ma 4), .ref (ma 5), .int (iI mwd), .ref (ma 6), .ref (ma 7), .int (iI mak), .ref (ma 8), .ref (ma 9), .int (iI mli), .int (iI mlx), .ref (ma 10), .ref (ma 11), .int (iI mat), .int (iI mtk), .int (iI mtf), .int (iI mtt), .int (iI mfa), .int (iI mla), .int (iI mlp), .int (iI mdp), .ref (ma 12), .ref (ma 13), .int (iI msi), .int (iI (bI mdn)), .int (iI mpf), .int (iI mpt)])), (ma 1, .inl (kA 0, 4120, .inl (aI ca))), (ma 4, .inl (kA 0, 400, .inl (aI ctf))), (ma 5, .inl (kA 0, 400, .inl (aI ctt)))] := hD
  refine lv_sipush (v := iI 400) hx hb d_M_gather_5 (by decide) ?_
  refine lv_iload_n hx hb d_M_gather_8 rfl (lv_at hl 1 rfl) ?_
  refine li_imul hx hb d_M_gather_9 ?_
  refine li_nm (fun bg ebg => ?_)
  refine lv_istore_n (lv' := [(3, .int (iI bg)), (0, .ref mo), (1, .int (iI r)), (2, .int (iI ix))]) hx hb d_M_gather_10 rfl hl (by decide) rfl (fun ls hl => ?_)
  refine lv_aload_n hx hb d_M_gather_11 rfl (lv_at hl 1 rfl) ?_
  refine lv_iload_n hx hb d_M_gather_12 rfl (lv_at hl 2 rfl) ?_
  refine li_callr ((va_runV (As := [.int (iI r)]) (rest := []) ⟨hx, hb, hml, hown, hts⟩ (c_M_baseOf l dC dI kA mo ma mrf mz mls mfp mfm 0 mwd mak mli mlx mat mtk mtf mtt mfa mla mlp mdp msi mpf mpt mdn ca r (by exact hr0)) (cw_M_100 hts rfl rfl ⟨Nat.le_of_ble_eq_true rfl, Nat.le_of_ble_eq_true rfl⟩) (li_preV (va_recv hK hP (ci := 10) (q0 := 0) rfl rfl) (hP.sub [0, 1] rfl) hK hN (hG.go hS hAN)) rfl rfl hl.1 rfl (lv_room (Nat.le_of_ble_eq_true rfl)) d_M_gather_13 ⟨(by show 0 + 0 ≤ 0; omega), (by show 0 + 0 ≤ 0; omega)⟩).run) ?_
  refine li_nm (fun bs ebs => ?_)
  refine lv_istore (lv' := [(4, .int (iI bs)), (3, .int (iI bg)), (0, .ref mo), (1, .int (iI r)), (2, .int (iI ix))]) hx hb d_M_gather_16 hl (by decide) rfl (fun ls hl => ?_)
  refine lv_aload_n hx hb d_M_gather_18 rfl (lv_at hl 2 rfl) ?_
  refine lv_iload_n hx hb d_M_gather_19 rfl (lv_at hl 3 rfl) ?_
  refine li_callr ((va_runV (As := [.int (iI r)]) (rest := []) ⟨hx, hb, hml, hown, hts⟩ (c_M_fieldsOf l dC dI kA mo ma mrf mz mls mfp mfm 0 mwd mak mli mlx mat mtk mtf mtt mfa mla mlp mdp msi mpf mpt mdn ca r (by exact hr0) (by rw [hb0]; omega)) (cw_M_116 hts rfl rfl ⟨Nat.le_of_ble_eq_true rfl, Nat.le_of_ble_eq_true rfl⟩) (li_preV (va_recv hK hP (ci := 10) (q0 := 0) rfl rfl) (hP.sub [0, 1] rfl) hK hN (hG.go hS hAN)) rfl rfl hl.1 rfl (lv_room (Nat.le_of_ble_eq_true rfl)) d_M_gather_20 ⟨(by show 0 + 0 ≤ 0; omega), (by show 0 + 0 ≤ 0; omega)⟩).run) ?_
  refine li_nm (fun fdn efdn => ?_)
  refine lv_istore (lv' := [(5, .int (iI fdn)), (4, .int (iI bs)), (3, .int (iI bg)), (0, .ref mo), (1, .int (iI r)), (2, .int (iI ix))]) hx hb d_M_gather_23 hl (by decide) rfl (fun ls hl => ?_)
  refine lv_iconst (v := iI 0) hx hb d_M_gather_25 rfl ?_
  refine lv_istore (lv' := [(6, .int (iI 0)), (5, .int (iI fdn)), (4, .int (iI bs)), (3, .int (iI bg)), (0, .ref mo), (1, .int (iI r)), (2, .int (iI ix))]) hx hb d_M_gather_26 hl (by decide) rfl (fun ls hl => ?_)
  have ebs2 : base = bs := by rw [ebs]; exact hb0.symm
  have efd2 : fd = fdn := by rw [efdn, hb0]; omega
  subst ebg ebs2 efd2
  exact K_28 ((fd - 0).toNat + 1) 0 0 ctf ctt ([]) (by omega) (by first | exact HL.nil | (rw [hgE]; first | (rw [if_pos (by omega), if_pos (by omega)]; exact hHc.push _ _) | (rw [if_pos (by omega), if_neg (by omega), List.append_nil]; exact hHc) | (rw [if_neg (by omega)]; exact hp126.1))) (by first | exact LB.nil | (rw [hgE]; first | (rw [if_pos (by omega), if_pos (by omega)]; exact hLc.app (LB.one (by omega))) | (rw [if_pos (by omega), if_neg (by omega), List.append_nil]; exact hLc) | (rw [if_neg (by omega)]; exact hp126.2.1))) (by first | (rw [hs0]; omega) | (rw [ee2]; omega)) (by first | (rw [hs0]; omega) | (rw [ee2]; omega)) (by first | (unfold gaT; rw [hb0, List.nil_append, show (base - 25) / 12 = fd by omega, Int.sub_zero]; done) | (rw [ee2, ← hres, show (fd - e1).toNat = (fd - (e1 + 1)).toNat + 1 by omega]; simp only [gaL]; rw [List.append_assoc])) (Nat.lt_succ_self _) _ _ hP hD hS _ (lv_sub hl [4, 5, 6, 3, 2, 1, 0] rfl)

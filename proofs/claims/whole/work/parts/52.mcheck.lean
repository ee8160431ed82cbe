/-! feed, check, load, drop of the reference -/
def feC (a0 a1 a2 a3 k : Int) : Int := if k < 4 then a0 else if k < 8 then a1 else if k < 12 then a2 else a3
def feL (a0 a1 a2 a3 : Int) : Nat → Int → (Nat → Int) × Int → (Nat → Int) × Int
  | 0, _, u => u
  | j + 1, k, u => feL a0 a1 a2 a3 j (k + 1) (va_up u.1 u.2.toNat (andI (shrI (feC a0 a1 a2 a3 k) (24 - 8 * (k % 4))) 255), u.2 + 1)
def feM (a0 a1 a2 a3 n : Int) (u : (Nat → Int) × Int) : (Nat → Int) × Int := feL a0 a1 a2 a3 n.toNat 0 u
def idL (cb ca : Nat → Int) : Nat → Int → Int → Bool
  | 0, _, _ => false
  | k + 1, b, o => if cb b.toNat = ca o.toNat then (if cb b.toNat = 30 then true else idL cb ca k (b + 1) (o + 1)) else false
def idM (cb ca : Nat → Int) (b o : Int) : Bool := idL cb ca 500 b o
def coL (cb ca le : Nat → Int) (fp b : Int) : Nat → Int → Int × Int
  | 0, fr => if fr < 0 then (-9, 0) else (0, fp)
  | k + 1, fr => if 0 < le k then (if idM cb ca b (400 * (k : Int) + numM ca 5 (400 * (k : Int) + 12) 0) = true then (-8, b) else coL cb ca le fp b k fr) else coL cb ca le fp b k k
def coM (cb ca le : Nat → Int) (fp b : Int) : Int × Int := coL cb ca le fp b 10 (-1)
def leL (cb : Nat → Int) (mz : Int) : Nat → Int → Int
  | 0, x => x
  | k + 1, x => if ldF x (byM cb mz x) = true then leL cb mz k (x + 1) else x
theorem ldF_no {x : Int} : ldF x (-1) = false := by
  unfold ldF
  (repeat' split)
  · exact decide_eq_false (by omega)
  · exact decide_eq_false (by omega)
  · exact decide_eq_false (by omega)
  · exact decide_eq_false (by omega)
  · exact decide_eq_false (by have := chS_r 0 x.toNat; omega)
theorem leL_z {cb : Nat → Int} {mz : Int} : ∀ (k : Nat) (x : Int), x ≤ mz → leL cb mz k x ≤ mz := by
  intro k
  induction k with
  | zero => intro x h; exact h
  | succ k ih =>
    intro x h
    simp only [leL]
    split
    · rename_i h1
      refine ih _ ?_
      by_cases q : x < mz
      · omega
      · rw [byM_e (by omega), ldF_no] at h1; cases h1
    · exact h
def diL (cb : Nat → Int) (mz : Int) : Nat → Int → Bool × Int
  | 0, x => (false, x)
  | k + 1, x => if ¬ x = 24 ∧ (x - 24) % 12 = 0 ∧ byM cb mz x = 30 then (true, x) else if isDig (byM cb mz x) = true then diL cb mz k (x + 1) else (false, x)
def diM (cb : Nat → Int) (mz : Int) : Bool × Int := diL cb mz 1000 24
/-- one entry's field: kind, place or where the field's bytes end -/
def cf1 (cb : Nat → Int) (mz bs e d : Int) : Int × Int :=
  if decide (e = 24) ≠ decide (numM cb 3 e 0 = 1) then (-7, e)
  else if ¬ numM cb 5 (e + 7) 0 = d then (-6, e + 7)
  else if alM cb mz (decide (numM cb 3 e 0 < 10)) (bs + d) < 0 then (-5, -1 - alM cb mz (decide (numM cb 3 e 0 < 10)) (bs + d))
  else if ¬ numM cb 4 (e + 3) 0 = alM cb mz (decide (numM cb 3 e 0 < 10)) (bs + d) - bs - d then (-6, e + 3)
  else (0, alM cb mz (decide (numM cb 3 e 0 < 10)) (bs + d) - bs)
def cfL (cb : Nat → Int) (mz bs : Int) : Nat → Int → Int → Int × Int
  | 0, _, d => (0, d)
  | k + 1, e, d => if (cf1 cb mz bs e d).1 < 0 then cf1 cb mz bs e d else cfL cb mz bs k (e + 12) (cf1 cb mz bs e d).2
def ck4 (cb ca le : Nat → Int) (mz fp bs : Int) (u : Int × Int) : Int × Int := if u.1 < 0 then u else if ¬ byM cb mz (bs + u.2) = 29 then (-5, bs + u.2) else if bs + u.2 + 1 < mz then (-5, bs + u.2 + 1) else coM cb ca le fp bs
def ck3 (cb ca le : Nat → Int) (mz fp x : Int) : Int × Int := ck4 cb ca le mz fp (x + 1) (cfL cb mz (x + 1) ((x - 24) / 12).toNat 24 0)
def ck2 (cb ca le : Nat → Int) (mz fp : Int) (u : Bool × Int) : Int × Int := if u.1 = false then (-5, u.2) else if ¬ numM cb 5 12 0 = u.2 + 1 then (-6, 12) else ck3 cb ca le mz fp u.2
def leM (cb : Nat → Int) (mz : Int) : Int := leL cb mz 24 0
theorem leM_z {cb : Nat → Int} {mz : Int} (h : 0 ≤ mz) : leM cb mz ≤ mz := leL_z 24 0 h
def ckM (cb ca le : Nat → Int) (mz fp : Int) : Int × Int := if leM cb mz < 24 then (-5, leM cb mz) else if ¬ numM cb 5 0 0 = mz then (-6, 0) else ck2 cb ca le mz fp (diM cb mz)
def frL (le : Nat → Int) : Nat → Int → Int
  | 0, r => r
  | k + 1, r => if 0 < le r.toNat then frL le k (r + 1) else r
def frM (le : Nat → Int) : Int := frL le 10 0
def cpL (cb : Nat → Int) (b : Int) : Nat → Int → (Nat → Int) → (Nat → Int)
  | 0, _, f => f
  | j + 1, k, f => cpL cb b j (k + 1) (va_up f (b + k).toNat (cb k.toNat))
def cpM (cb ca : Nat → Int) (b z : Int) : Nat → Int := cpL cb b z.toNat 0 ca
def kfL (rec : Int) : Nat → Int → Int × (Nat → Int) → Int × (Nat → Int)
  | 0, _, u => u
  | j + 1, k, u => if u.2 k.toNat = rec then kfL rec j (k + 1) u else kfL rec j (k + 1) (u.1 + 1, va_up u.2 u.1.toNat (u.2 k.toNat))
theorem alW_r {cb : Nat → Int} {mz : Int} {b : Bool} : ∀ (h : Nat) (k : Int), 0 ≤ k → 0 < alW cb mz b h k → k < alW cb mz b h k ∧ alW cb mz b h k ≤ mz ∧ byM cb mz (alW cb mz b h k - 1) = 30 := by
  intro h
  induction h with
  | zero => intro k _ h1; simp [alW] at h1
  | succ h ih =>
    intro k h0 h1
    simp only [alW] at h1 ⊢
    split
    · rename_i h2
      have h3 := byM_lt h2 (by omega)
      exact ⟨by omega, by omega, by rw [show k + 1 - 1 = k by omega]; exact h2⟩
    · rename_i h2
      rw [if_neg h2] at h1
      split
      · rename_i h3
        rw [if_pos h3] at h1
        split
        · rename_i h4
          rw [if_pos h4] at h1
          have := ih (k + 2) (by omega) h1
          exact ⟨by omega, this.2⟩
        · rename_i h4
          rw [if_neg h4] at h1; omega
      · rename_i h3
        rw [if_neg h3] at h1
        split
        · rename_i h4
          rw [if_pos h4] at h1
          have := ih (k + 1) (by omega) h1
          exact ⟨by omega, this.2⟩
        · rename_i h4
          rw [if_neg h4] at h1; omega
theorem alW_0 {cb : Nat → Int} {mz : Int} {b : Bool} : ∀ (h : Nat) (k : Int), 0 ≤ k → (mz + 2 - k).toNat < h → alW cb mz b h k ≠ 0 := by
  intro h
  induction h with
  | zero => intro k _ h1; omega
  | succ h ih =>
    intro k h0 h1
    simp only [alW]
    split
    · omega
    · split
      · rename_i h2
        have h3 := byM_lt h2.2 (by omega)
        split
        · exact ih _ (by omega) (by omega)
        · omega
      · split
        · rename_i h2
          have h3 := txt_lt h2
          exact ih _ (by omega) (by omega)
        · omega
theorem alM_r {cb : Nat → Int} {mz x : Int} {b : Bool} (hz : mz ≤ 400) (h0 : 0 ≤ x) (h1 : 0 ≤ alM cb mz b x) : x < alM cb mz b x ∧ alM cb mz b x ≤ mz ∧ byM cb mz (alM cb mz b x - 1) = 30 := by
  unfold alM at h1 ⊢
  split
  · rename_i h2; rw [if_pos h2] at h1
    exact alW_r 1000 x h0 (by have := alW_0 (cb := cb) (mz := mz) (b := b) 1000 x h0 (by omega); omega)
  · rename_i h2; rw [if_neg h2] at h1
    split
    · rename_i h3; rw [if_pos h3] at h1; omega
    · rename_i h3; rw [if_neg h3] at h1
      split
      · rename_i h4; rw [if_pos h4] at h1; omega
      · rename_i h4; rw [if_neg h4] at h1
        split
        · rename_i h5; rw [if_pos h5] at h1
          have := alW_r (cb := cb) (mz := mz) (b := b) 1000 (x + 2) (by omega) (by have := alW_0 (cb := cb) (mz := mz) (b := b) 1000 (x + 2) (by omega) (by omega); omega)
          exact ⟨by omega, this.2⟩
        · rename_i h5; rw [if_neg h5] at h1; omega
theorem alW_b {cb : Nat → Int} {mz : Int} {b : Bool} (hz : 0 ≤ mz) : ∀ (h : Nat) (k : Int), 0 ≤ k → k ≤ mz + 2 → -(mz + 5) ≤ alW cb mz b h k ∧ alW cb mz b h k ≤ mz + 5 := by
  intro h
  induction h with
  | zero => intro k _ _; simp only [alW]; omega
  | succ h ih =>
    intro k h0 h1
    simp only [alW]
    split
    · omega
    · split
      · rename_i h2
        have h3 := byM_lt h2.2 (by omega)
        split
        · exact ih _ (by omega) (by omega)
        · omega
      · split
        · rename_i h2
          have h3 := txt_lt h2
          exact ih _ (by omega) (by omega)
        · omega
theorem alM_b {cb : Nat → Int} {mz x : Int} {b : Bool} (hz : 0 ≤ mz ∧ mz ≤ 400) (h0 : 0 ≤ x ∧ x ≤ mz) : -1000 ≤ alM cb mz b x ∧ alM cb mz b x ≤ 1000 := by
  have e1 := alW_b (cb := cb) (mz := mz) (b := b) hz.1 1000 x h0.1 (by omega)
  have e2 := alW_b (cb := cb) (mz := mz) (b := b) hz.1 1000 (x + 2) (by omega) (by omega)
  unfold alM
  (repeat' split) <;> omega
theorem byM_cb {cb : Nat → Int} {mz x v : Int} (h : byM cb mz x = v) (hv : 0 ≤ v) : cb x.toNat = v := by
  have h1 := byM_lt h hv
  unfold byM at h; rw [if_pos h1] at h; exact h
def kfM (rec fm : Int) (f : Nat → Int) : Int × (Nat → Int) := kfL rec fm.toNat 0 (0, f)

theorem d_M_feed_0 : decode b_M_feed 0 = .ok (.aload_n 0, 1) := by decide +kernel
theorem d_M_feed_1 : decode b_M_feed 1 = .ok (.iload_n 1, 1) := by decide +kernel
theorem d_M_feed_2 : decode b_M_feed 2 = .ok (.iconst 0, 1) := by decide +kernel
theorem d_M_feed_3 : decode b_M_feed 3 = .ok (.bipush 16, 2) := by decide +kernel
theorem d_M_feed_5 : decode b_M_feed 5 = .ok (.invokestatic 62, 3) := by decide +kernel
theorem d_M_feed_8 : decode b_M_feed 8 = .ok (.ifCond .ne 7, 3) := by decide +kernel
theorem d_M_feed_11 : decode b_M_feed 11 = .ok (.iconst 1, 1) := by decide +kernel
theorem d_M_feed_12 : decode b_M_feed 12 = .ok (.goto 20, 3) := by decide +kernel
theorem d_M_feed_15 : decode b_M_feed 15 = .ok (.aload_n 0, 1) := by decide +kernel
theorem d_M_feed_16 : decode b_M_feed 16 = .ok (.getfield 66, 3) := by decide +kernel
theorem d_M_feed_19 : decode b_M_feed 19 = .ok (.iload_n 1, 1) := by decide +kernel
theorem d_M_feed_20 : decode b_M_feed 20 = .ok (.iadd, 1) := by decide +kernel
theorem d_M_feed_21 : decode b_M_feed 21 = .ok (.sipush 400, 3) := by decide +kernel
theorem d_M_feed_24 : decode b_M_feed 24 = .ok (.if_icmp .le 7, 3) := by decide +kernel
theorem d_M_feed_27 : decode b_M_feed 27 = .ok (.iconst 2, 1) := by decide +kernel
theorem d_M_feed_28 : decode b_M_feed 28 = .ok (.goto 4, 3) := by decide +kernel
theorem d_M_feed_31 : decode b_M_feed 31 = .ok (.iconst 0, 1) := by decide +kernel
theorem d_M_feed_32 : decode b_M_feed 32 = .ok (.invokevirtual 69, 3) := by decide +kernel
theorem d_M_feed_35 : decode b_M_feed 35 = .ok (.ifCond .eq 5, 3) := by decide +kernel
theorem d_M_feed_38 : decode b_M_feed 38 = .ok (.iconst 0, 1) := by decide +kernel
theorem d_M_feed_39 : decode b_M_feed 39 = .ok (.ireturn, 1) := by decide +kernel
theorem d_M_feed_40 : decode b_M_feed 40 = .ok (.iconst 0, 1) := by decide +kernel
theorem d_M_feed_41 : decode b_M_feed 41 = .ok (.istore 6, 2) := by decide +kernel
theorem d_M_feed_43 : decode b_M_feed 43 = .ok (.iload 6, 2) := by decide +kernel
theorem d_M_feed_45 : decode b_M_feed 45 = .ok (.iload_n 1, 1) := by decide +kernel
theorem d_M_feed_46 : decode b_M_feed 46 = .ok (.if_icmp .ge 82, 3) := by decide +kernel
theorem d_M_feed_49 : decode b_M_feed 49 = .ok (.iload 6, 2) := by decide +kernel
theorem d_M_feed_51 : decode b_M_feed 51 = .ok (.iconst 4, 1) := by decide +kernel
theorem d_M_feed_52 : decode b_M_feed 52 = .ok (.if_icmp .ge 7, 3) := by decide +kernel
theorem d_M_feed_55 : decode b_M_feed 55 = .ok (.iload_n 2, 1) := by decide +kernel
theorem d_M_feed_56 : decode b_M_feed 56 = .ok (.goto 28, 3) := by decide +kernel
theorem d_M_feed_59 : decode b_M_feed 59 = .ok (.iload 6, 2) := by decide +kernel
theorem d_M_feed_61 : decode b_M_feed 61 = .ok (.bipush 8, 2) := by decide +kernel
theorem d_M_feed_63 : decode b_M_feed 63 = .ok (.if_icmp .ge 7, 3) := by decide +kernel
theorem d_M_feed_66 : decode b_M_feed 66 = .ok (.iload_n 3, 1) := by decide +kernel
theorem d_M_feed_67 : decode b_M_feed 67 = .ok (.goto 17, 3) := by decide +kernel
theorem d_M_feed_70 : decode b_M_feed 70 = .ok (.iload 6, 2) := by decide +kernel
theorem d_M_feed_72 : decode b_M_feed 72 = .ok (.bipush 12, 2) := by decide +kernel
theorem d_M_feed_74 : decode b_M_feed 74 = .ok (.if_icmp .ge 8, 3) := by decide +kernel
theorem d_M_feed_77 : decode b_M_feed 77 = .ok (.iload 4, 2) := by decide +kernel
theorem d_M_feed_79 : decode b_M_feed 79 = .ok (.goto 5, 3) := by decide +kernel
theorem d_M_feed_82 : decode b_M_feed 82 = .ok (.iload 5, 2) := by decide +kernel
theorem d_M_feed_84 : decode b_M_feed 84 = .ok (.istore 7, 2) := by decide +kernel
theorem d_M_feed_86 : decode b_M_feed 86 = .ok (.aload_n 0, 1) := by decide +kernel
theorem d_M_feed_87 : decode b_M_feed 87 = .ok (.getfield 7, 3) := by decide +kernel
theorem d_M_feed_90 : decode b_M_feed 90 = .ok (.aload_n 0, 1) := by decide +kernel
theorem d_M_feed_91 : decode b_M_feed 91 = .ok (.getfield 66, 3) := by decide +kernel
theorem d_M_feed_94 : decode b_M_feed 94 = .ok (.iload 7, 2) := by decide +kernel
theorem d_M_feed_96 : decode b_M_feed 96 = .ok (.bipush 24, 2) := by decide +kernel
theorem d_M_feed_98 : decode b_M_feed 98 = .ok (.bipush 8, 2) := by decide +kernel
theorem d_M_feed_100 : decode b_M_feed 100 = .ok (.iload 6, 2) := by decide +kernel
theorem d_M_feed_102 : decode b_M_feed 102 = .ok (.iconst 4, 1) := by decide +kernel
theorem d_M_feed_103 : decode b_M_feed 103 = .ok (.irem, 1) := by decide +kernel
theorem d_M_feed_104 : decode b_M_feed 104 = .ok (.imul, 1) := by decide +kernel
theorem d_M_feed_105 : decode b_M_feed 105 = .ok (.isub, 1) := by decide +kernel
theorem d_M_feed_106 : decode b_M_feed 106 = .ok (.ishr, 1) := by decide +kernel
theorem d_M_feed_107 : decode b_M_feed 107 = .ok (.sipush 255, 3) := by decide +kernel
theorem d_M_feed_110 : decode b_M_feed 110 = .ok (.iand, 1) := by decide +kernel
theorem d_M_feed_111 : decode b_M_feed 111 = .ok (.iastore, 1) := by decide +kernel
theorem d_M_feed_112 : decode b_M_feed 112 = .ok (.aload_n 0, 1) := by decide +kernel
theorem d_M_feed_113 : decode b_M_feed 113 = .ok (.dup, 1) := by decide +kernel
theorem d_M_feed_114 : decode b_M_feed 114 = .ok (.getfield 66, 3) := by decide +kernel
theorem d_M_feed_117 : decode b_M_feed 117 = .ok (.iconst 1, 1) := by decide +kernel
theorem d_M_feed_118 : decode b_M_feed 118 = .ok (.iadd, 1) := by decide +kernel
theorem d_M_feed_119 : decode b_M_feed 119 = .ok (.putfield 66, 3) := by decide +kernel
theorem d_M_feed_122 : decode b_M_feed 122 = .ok (.iinc 6 1, 3) := by decide +kernel
theorem d_M_feed_125 : decode b_M_feed 125 = .ok (.goto (-82), 3) := by decide +kernel
theorem d_M_feed_128 : decode b_M_feed 128 = .ok (.aload_n 0, 1) := by decide +kernel
theorem d_M_feed_129 : decode b_M_feed 129 = .ok (.getfield 66, 3) := by decide +kernel
theorem d_M_feed_132 : decode b_M_feed 132 = .ok (.ireturn, 1) := by decide +kernel
set_option maxHeartbeats 4000000 in
set_option maxRecDepth 100000 in
theorem c_M_feed (l : Launch) (dC : Nat → ClassId) (dI : Nat → Nat → Nat) (kA : Nat → ClassId) (sz : Nat) (mo : Nat) (ma : Nat → Nat) (mrf : Int) (mz : Int) (mls : Int) (mfp : Int) (mfm : Int) (mtx : Int) (mwd : Int) (mak : Int) (mli : Int) (mlx : Int) (mat : Int) (mtk : Int) (mtf : Int) (mtt : Int) (mfa : Int) (mla : Int) (mlp : Int) (mdp : Int) (msi : Int) (mpf : Int) (mpt : Int) (mdn : Bool) (cb : Nat → Int) (n : Int) (a0 : Int) (a1 : Int) (a2 : Int) (a3 : Int) (hz : 0 ≤ mz ∧ mz ≤ 400) (hcb : C2 cb) (hn : -2147483648 ≤ n ∧ n < 2147483648) : Met l y_M_feed (wsy y_M_feed b_M_feed 8 (some .int)) (rmd 1 0 0) (li_Pr (dC, dI) CL (TY kA) [.ref mo, .int (iI n), .int (iI a0), .int (iI a1), .int (iI a2), .int (iI a3)] (fun h => h.size = sz ∧ va_P (dC, dI) CL [(mo, .inr (10, [.int (iI mrf), .ref (ma 0), .int (iI mz), .ref (ma 1), .ref (ma 2), .int (iI mls), .int (iI mfp), .int (iI mfm), .ref (ma 3), .int (iI mtx), .ref (ma 4), .ref (ma 5), .int (iI mwd), .ref (ma 6), .ref (ma 7), .int (iI mak), .ref (ma 8), .ref (ma 9), .int (iI mli), .int (iI mlx), .ref (ma 10), .ref (ma 11), .int (iI mat), .int (iI mtk), .int (iI mtf), .int (iI mtt), .int (iI mfa), .int (iI mla), .int (iI mlp), .int (iI mdp), .ref (ma 12), .ref (ma 13), .int (iI msi), .int (iI (bI mdn)), .int (iI mpf), .int (iI mpt)])), (ma 0, .inl (kA 0, 400, .inl (aI cb)))] h ∧ va_D (fun q => dI 100 0 ≤ q) [(mo, .inr (10, [.int (iI mrf), .ref (ma 0), .int (iI mz), .ref (ma 1), .ref (ma 2), .int (iI mls), .int (iI mfp), .int (iI mfm), .ref (ma 3), .int (iI mtx), .ref (ma 4), .ref (ma 5), .int (iI mwd), .ref (ma 6), .ref (ma 7), .int (iI mak), .ref (ma 8), .ref (ma 9), .int (iI mli), .int (iI mlx), .ref (ma 10), .ref (ma 11), .int (iI mat), .int (iI mtk), .int (iI mtf), .int (iI mtt), .int (iI mfa), .int (iI mla), .int (iI mlp), .int (iI mdp), .ref (ma 12), .ref (ma 13), .int (iI msi), .int (iI (bI mdn)), .int (iI mpf), .int (iI mpt)])), (ma 0, .inl (kA 0, 400, .inl (aI cb)))] ∧ (fun _ => True) h)) (li_Qw (S := (Nat → Int) × (Int) × (Int) × (Int)) (dC, dI) CL (fun u => (¬ (0 ≤ n ∧ n ≤ 16) ∧ u.2.2.1 = 1 ∧ u.2.2.2 = 0 ∧ u.2.1 = mz ∧ u.1 = cb) ∨ ((0 ≤ n ∧ n ≤ 16) ∧ 400 < mz + n ∧ u.2.2.1 = 2 ∧ u.2.2.2 = 0 ∧ u.2.1 = mz ∧ u.1 = cb) ∨ ((0 ≤ n ∧ n ≤ 16) ∧ mz + n ≤ 400 ∧ u.2.2.1 = 0 ∧ u.2.2.2 = u.2.1 ∧ (u.1, u.2.1) = feM a0 a1 a2 a3 n (cb, mz) ∧ u.2.1 = mz + n ∧ C2 u.1)) (fun u => some (.int (iI (u.2.2.2)))) (fun u => [(mo, .inr (10, [.int (iI u.2.2.1), .ref (ma 0), .int (iI u.2.1), .ref (ma 1), .ref (ma 2), .int (iI mls), .int (iI mfp), .int (iI mfm), .ref (ma 3), .int (iI mtx), .ref (ma 4), .ref (ma 5), .int (iI mwd), .ref (ma 6), .ref (ma 7), .int (iI mak), .ref (ma 8), .ref (ma 9), .int (iI mli), .int (iI mlx), .ref (ma 10), .ref (ma 11), .int (iI mat), .int (iI mtk), .int (iI mtf), .int (iI mtt), .int (iI mfa), .int (iI mla), .int (iI mlp), .int (iI mdp), .ref (ma 12), .ref (ma 13), .int (iI msi), .int (iI (bI mdn)), .int (iI mpf), .int (iI mpt)])), (ma 0, .inl (kA 0, 400, .inl (aI u.1)))]) (va_A [(mo, .inr (10, [.int (iI mrf), .ref (ma 0), .int (iI mz), .ref (ma 1), .ref (ma 2), .int (iI mls), .int (iI mfp), .int (iI mfm), .ref (ma 3), .int (iI mtx), .ref (ma 4), .ref (ma 5), .int (iI mwd), .ref (ma 6), .ref (ma 7), .int (iI mak), .ref (ma 8), .ref (ma 9), .int (iI mli), .int (iI mlx), .ref (ma 10), .ref (ma 11), .int (iI mat), .int (iI mtk), .int (iI mtf), .int (iI mtt), .int (iI mfa), .int (iI mla), .int (iI mlp), .int (iI mdp), .ref (ma 12), .ref (ma 13), .int (iI msi), .int (iI (bI mdn)), .int (iI mpf), .int (iI mpt)])), (ma 0, .inl (kA 0, 400, .inl (aI cb)))] sz)) 0 0 (va_A [(mo, .inr (10, [.int (iI mrf), .ref (ma 0), .int (iI mz), .ref (ma 1), .ref (ma 2), .int (iI mls), .int (iI mfp), .int (iI mfm), .ref (ma 3), .int (iI mtx), .ref (ma 4), .ref (ma 5), .int (iI mwd), .ref (ma 6), .ref (ma 7), .int (iI mak), .ref (ma 8), .ref (ma 9), .int (iI mli), .int (iI mlx), .ref (ma 10), .ref (ma 11), .int (iI mat), .int (iI mtk), .int (iI mtf), .int (iI mtt), .int (iI mfa), .int (iI mla), .int (iI mlp), .int (iI mdp), .ref (ma 12), .ref (ma 13), .int (iI msi), .int (iI (bI mdn)), .int (iI mpf), .int (iI mpt)])), (ma 0, .inl (kA 0, 400, .inl (aI cb)))] sz) := by
  refine li_mwi (r := fun (u : (Nat → Int) × (Int) × (Int) × (Int)) => u.2.2.2) (by decide) (Nat.le_of_ble_eq_true rfl) (fun u _ => by rfl) ?_
  intro p e s m args below meth c Q A C hP hD hBx hK hN hG hA hAi hAN fin ls hl
  obtain ⟨hx, hb, hr, hml, hown, hts, hlocks, hin⟩ := C
  have hown : s.vm.findClass R_M = some m.cls := hown
  have hl : lv_has ls 8 [(0, .ref mo), (1, .int (iI n)), (2, .int (iI a0)), (3, .int (iI a1)), (4, .int (iI a2)), (5, .int (iI a3))] := hl
  suffices h9 : ∀ (H : Heap) (locs : List Loc), H = s.heap → locs = [] → W p l e (rmd 1 0 0) s m args below meth c H locs 0 0 Q (F0 m 0 ls []) from h9 _ _ rfl rfl
  intro H locs eH eL
  have hP : va_P (dC, dI) CL [(mo, .inr (10, [.int (iI mrf), .ref (ma 0), .int (iI mz), .ref (ma 1), .ref (ma 2), .int (iI mls), .int (iI mfp), .int (iI mfm), .ref (ma 3), .int (iI mtx), .ref (ma 4), .ref (ma 5), .int (iI mwd), .ref (ma 6), .ref (ma 7), .int (iI mak), .ref (ma 8), .ref (ma 9), .int (iI mli), .int (iI mlx), .ref (ma 10), .ref (ma 11), .int (iI mat), .int (iI mtk), .int (iI mtf), .int (iI mtt), .int (iI mfa), .int (iI mla), .int (iI mlp), .int (iI mdp), .ref (ma 12), .ref (ma 13), .int (iI msi), .int (iI (bI mdn)), .int (iI mpf), .int (iI mpt)])), (ma 0, .inl (kA 0, 400, .inl (aI cb)))] H := by rw [eH]; exact hP
  have hS : va_S A s.heap H locs := by rw [eH, eL]; exact va_S.rf
  refine lv_aload_n hx hb d_M_feed_0 rfl (lv_at hl 0 rfl) ?_
  refine lv_iload_n hx hb d_M_feed_1 rfl (lv_at hl 1 rfl) ?_
  refine lv_iconst (v := iI 0) hx hb d_M_feed_2 rfl ?_
  refine lv_bipush (v := iI 16) hx hb d_M_feed_3 (by decide) ?_
  refine li_callr ((va_runS (As := [.int (iI n), .int (iI 0), .int (iI 16)]) (rest := [.ref mo]) ⟨hx, hb, hml, hown, hts⟩ (c_M_isIn l dC dI kA n 0 16 (by omega) (by omega) (by omega)) (cw_M_62 hts rfl rfl ⟨Nat.le_of_ble_eq_true rfl, Nat.le_of_ble_eq_true rfl⟩) (li_preS va_Pnil hK hN (hG.go hS hAN)) rfl rfl hl.1 rfl (lv_room (Nat.le_of_ble_eq_true rfl)) d_M_feed_5 ⟨(by show 0 + 0 ≤ 0; omega), (by show 0 + 0 ≤ 0; omega)⟩).run) ?_
  refine li_bnz (tgt := 15) hx hb d_M_feed_8 (by decide) (fun c1 => ?_) (fun c1 => ?_)
  · have _q := c1
    have hin9 := of_decide_eq_true (show inF n 0 16 = true by assumption)
    refine lv_aload_n hx hb d_M_feed_15 rfl (lv_at hl 0 rfl) ?_
    refine gf_M_66 hx hb hts hown hK hP 0 rfl rfl d_M_feed_16 ?_
    refine lv_iload_n hx hb d_M_feed_19 rfl (lv_at hl 1 rfl) ?_
    refine li_iadd hx hb d_M_feed_20 ?_
    refine lv_sipush (v := iI 400) hx hb d_M_feed_21 (by decide) ?_
    refine li_icmp_le (tgt := 31) hx hb d_M_feed_24 (by decide) (by omega) (by omega) (fun c2 => ?_) (fun c2 => ?_)
    · have _q := c2
      refine lv_iconst (v := iI 0) hx hb d_M_feed_31 rfl ?_
      refine li_callw (wc := [(mo, .inr (10, [.int (iI mrf), .ref (ma 0), .int (iI mz), .ref (ma 1), .ref (ma 2), .int (iI mls), .int (iI mfp), .int (iI mfm), .ref (ma 3), .int (iI mtx), .ref (ma 4), .ref (ma 5), .int (iI mwd), .ref (ma 6), .ref (ma 7), .int (iI mak), .ref (ma 8), .ref (ma 9), .int (iI mli), .int (iI mlx), .ref (ma 10), .ref (ma 11), .int (iI mat), .int (iI mtk), .int (iI mtf), .int (iI mtt), .int (iI mfa), .int (iI mla), .int (iI mlp), .int (iI mdp), .ref (ma 12), .ref (ma 13), .int (iI msi), .int (iI (bI mdn)), .int (iI mpf), .int (iI mpt)]))]) (wr := [(ma 0, .inl (kA 0, 400, .inl (aI cb)))]) (va_runV (As := [.int (iI 0)]) (rest := []) ⟨hx, hb, hml, hown, hts⟩ (c_M_refused l dC dI kA H.size mo ma mrf mz mls mfp mfm mtx mwd mak mli mlx mat mtk mtf mtt mfa mla mlp mdp msi mpf mpt mdn 0 (by omega)) (cw_M_69 hts rfl rfl ⟨Nat.le_of_ble_eq_true rfl, Nat.le_of_ble_eq_true rfl⟩) (li_preV (va_recv hK hP (ci := 10) (q0 := 0) rfl rfl) ⟨rfl, hP.sub [0] rfl, (hD.sub [0] (by decide) rfl).weaken (fun _ _ _ h => hAN _ h), trivial⟩ hK hN (hG.go hS hAN)) rfl rfl hl.1 rfl (lv_room (Nat.le_of_ble_eq_true rfl)) d_M_feed_32 ⟨(by show 0 + 0 ≤ 0; omega), (by show 0 + 0 ≤ 0; omega)⟩) hP hD hS hA [0] [1] rfl rfl (by decide) (by decide) (fun u3 H locs hu3 hP hD hS _hk => ?_)
      have hP : va_P (dC, dI) CL [(ma 0, .inl (kA 0, 400, .inl (aI cb))), (mo, .inr (10, [.int (iI 0), .ref (ma 0), .int (iI mz), .ref (ma 1), .ref (ma 2), .int (iI mls), .int (iI mfp), .int (iI mfm), .ref (ma 3), .int (iI mtx), .ref (ma 4), .ref (ma 5), .int (iI mwd), .ref (ma 6), .ref (ma 7), .int (iI mak), .ref (ma 8), .ref (ma 9), .int (iI mli), .int (iI mlx), .ref (ma 10), .ref (ma 11), .int (iI mat), .int (iI mtk), .int (iI mtf), .int (iI mtt), .int (iI mfa), .int (iI mla), .int (iI mlp), .int (iI mdp), .ref (ma 12), .ref (ma 13), .int (iI msi), .int (iI (bI mdn)), .int (iI mpf), .int (iI mpt)]))] H := hP
      have hD : va_D A [(ma 0, .inl (kA 0, 400, .inl (aI cb))), (mo, .inr (10, [.int (iI 0), .ref (ma 0), .int (iI mz), .ref (ma 1), .ref (ma 2), .int (iI mls), .int (iI mfp), .int (iI mfm), .ref (ma 3), .int (iI mtx), .ref (ma 4), .ref (ma 5), .int (iI mwd), .ref (ma 6), .ref (ma 7), .int (iI mak), .ref (ma 8), .ref (ma 9), .int (iI mli), .int (iI mlx), .ref (ma 10), .ref (ma 11), .int (iI mat), .int (iI mtk), .int (iI mtf), .int (iI mtt), .int (iI mfa), .int (iI mla), .int (iI mlp), .int (iI mdp), .ref (ma 12), .ref (ma 13), .int (iI msi), .int (iI (bI mdn)), .int (iI mpf), .int (iI mpt)]))] := hD
      refine li_bz (tgt := 40) hx hb d_M_feed_35 (by decide) (fun c4 => ?_) (fun c4 => ?_)
      · have _q := c4
        refine lv_iconst (v := iI 0) hx hb d_M_feed_40 rfl ?_
        refine lv_istore (lv' := [(6, .int (iI 0)), (0, .ref mo), (1, .int (iI n)), (2, .int (iI a0)), (3, .int (iI a1)), (4, .int (iI a2)), (5, .int (iI a3))]) hx hb d_M_feed_41 hl (by decide) rfl (fun ls hl => ?_)
        have K_43 : ∀ (nn_43 : Nat) (k : Int) (vf : Nat → Int) (vz : Int), (0 ≤ k ∧ k ≤ n) → (vz = mz + k) → (C2 vf) → (feL a0 a1 a2 a3 (n - k).toNat k (vf, vz) = feM a0 a1 a2 a3 n (cb, mz)) → ((n - k).toNat < nn_43) → ∀ (H : Heap) (locs : List Loc), va_P (dC, dI) CL [(ma 0, .inl (kA 0, 400, .inl (aI vf))), (mo, .inr (10, [.int (iI 0), .ref (ma 0), .int (iI vz), .ref (ma 1), .ref (ma 2), .int (iI mls), .int (iI mfp), .int (iI mfm), .ref (ma 3), .int (iI mtx), .ref (ma 4), .ref (ma 5), .int (iI mwd), .ref (ma 6), .ref (ma 7), .int (iI mak), .ref (ma 8), .ref (ma 9), .int (iI mli), .int (iI mlx), .ref (ma 10), .ref (ma 11), .int (iI mat), .int (iI mtk), .int (iI mtf), .int (iI mtt), .int (iI mfa), .int (iI mla), .int (iI mlp), .int (iI mdp), .ref (ma 12), .ref (ma 13), .int (iI msi), .int (iI (bI mdn)), .int (iI mpf), .int (iI mpt)]))] H → va_D A [(ma 0, .inl (kA 0, 400, .inl (aI vf))), (mo, .inr (10, [.int (iI 0), .ref (ma 0), .int (iI vz), .ref (ma 1), .ref (ma 2), .int (iI mls), .int (iI mfp), .int (iI mfm), .ref (ma 3), .int (iI mtx), .ref (ma 4), .ref (ma 5), .int (iI mwd), .ref (ma 6), .ref (ma 7), .int (iI mak), .ref (ma 8), .ref (ma 9), .int (iI mli), .int (iI mlx), .ref (ma 10), .ref (ma 11), .int (iI mat), .int (iI mtk), .int (iI mtf), .int (iI mtt), .int (iI mfa), .int (iI mla), .int (iI mlp), .int (iI mdp), .ref (ma 12), .ref (ma 13), .int (iI msi), .int (iI (bI mdn)), .int (iI mpf), .int (iI mpt)]))] → va_S A s.heap H locs → ∀ ls : Array Slot, lv_has ls 8 [(6, .int (iI k)), (0, .ref mo), (1, .int (iI n)), (2, .int (iI a0)), (3, .int (iI a1)), (4, .int (iI a2)), (5, .int (iI a3))] → W p l e (rmd 1 0 0) s m args below meth c H locs 0 0 Q (F0 m 43 ls []) := by
          intro nn_43
          induction nn_43 with
          | zero => intro k vf vz hk9 hvz hvf hres hm; exact absurd hm (Nat.not_lt_zero _)
          | succ nn_43 ih_43 =>
            intro k vf vz hk9 hvz hvf hres hm_43 H locs hP hD hS ls hl
            refine lv_iload hx hb d_M_feed_43 (lv_at hl 0 rfl) ?_
            refine lv_iload_n hx hb d_M_feed_45 rfl (lv_at hl 2 rfl) ?_
            refine li_icmp_ge (tgt := 128) hx hb d_M_feed_46 (by decide) (by omega) (by omega) (fun c5 => ?_) (fun c5 => ?_)
            · have _q := c5
              rw [show (n - k).toNat = 0 by omega] at hres
              simp only [feL] at hres
              refine lv_aload_n hx hb d_M_feed_128 rfl (lv_at hl 1 rfl) ?_
              refine gf_M_66 hx hb hts hown hK hP 1 rfl rfl d_M_feed_129 ?_
              exact fin (vf, vz, 0, vz) _ _ _ _ _ (by rfl) (by show (¬ (0 ≤ n ∧ n ≤ 16) ∧ 0 = 1 ∧ vz = 0 ∧ vz = mz ∧ vf = cb) ∨ ((0 ≤ n ∧ n ≤ 16) ∧ 400 < mz + n ∧ 0 = 2 ∧ vz = 0 ∧ vz = mz ∧ vf = cb) ∨ ((0 ≤ n ∧ n ≤ 16) ∧ mz + n ≤ 400 ∧ 0 = 0 ∧ vz = vz ∧ (vf, vz) = feM a0 a1 a2 a3 n (cb, mz) ∧ vz = mz + n ∧ C2 vf); exact Or.inr (Or.inr ⟨by omega, by omega, rfl, rfl, hres, by omega, hvf⟩)) (by first | exact hP.sub [1, 0] rfl | (subst_vars; exact hP.sub [1, 0] rfl)) (by first | exact hD.sub [1, 0] (by decide) rfl | (subst_vars; exact hD.sub [1, 0] (by decide) rfl)) hS d_M_feed_132
            · have _q := c5
              rw [show (n - k).toNat = (n - (k + 1)).toNat + 1 by omega] at hres
              simp only [feL] at hres
              refine lv_iload hx hb d_M_feed_49 (lv_at hl 0 rfl) ?_
              refine lv_iconst (v := iI 4) hx hb d_M_feed_51 rfl ?_
              refine li_icmp_ge (tgt := 59) hx hb d_M_feed_52 (by decide) (by omega) (by omega) (fun c6 => ?_) (fun c6 => ?_)
              · have _q := c6
                refine lv_iload hx hb d_M_feed_59 (lv_at hl 0 rfl) ?_
                refine lv_bipush (v := iI 8) hx hb d_M_feed_61 (by decide) ?_
                refine li_icmp_ge (tgt := 70) hx hb d_M_feed_63 (by decide) (by omega) (by omega) (fun c7 => ?_) (fun c7 => ?_)
                · have _q := c7
                  refine lv_iload hx hb d_M_feed_70 (lv_at hl 0 rfl) ?_
                  refine lv_bipush (v := iI 12) hx hb d_M_feed_72 (by decide) ?_
                  refine li_icmp_ge (tgt := 82) hx hb d_M_feed_74 (by decide) (by omega) (by omega) (fun c8 => ?_) (fun c8 => ?_)
                  · have _q := c8
                    refine lv_iload hx hb d_M_feed_82 (lv_at hl 6 rfl) ?_
                    refine li_nm (fun cel ecel => ?_)
                    refine lv_istore (lv' := [(7, .int (iI cel)), (6, .int (iI k)), (0, .ref mo), (1, .int (iI n)), (2, .int (iI a0)), (3, .int (iI a1)), (4, .int (iI a2)), (5, .int (iI a3))]) hx hb d_M_feed_84 hl (by decide) rfl (fun ls hl => ?_)
                    have hce : feC a0 a1 a2 a3 k = cel := by rw [ecel]; unfold feC; (repeat (first | rw [if_pos (by omega)] | rw [if_neg (by omega)]))
                    refine lv_aload_n hx hb d_M_feed_86 rfl (lv_at hl 2 rfl) ?_
                    refine gf_M_7 hx hb hts hown hK hP 1 rfl rfl d_M_feed_87 ?_
                    refine lv_aload_n hx hb d_M_feed_90 rfl (lv_at hl 2 rfl) ?_
                    refine gf_M_66 hx hb hts hown hK hP 1 rfl rfl d_M_feed_91 ?_
                    refine lv_iload hx hb d_M_feed_94 (lv_at hl 0 rfl) ?_
                    refine lv_bipush (v := iI 24) hx hb d_M_feed_96 (by decide) ?_
                    refine lv_bipush (v := iI 8) hx hb d_M_feed_98 (by decide) ?_
                    refine lv_iload hx hb d_M_feed_100 (lv_at hl 1 rfl) ?_
                    refine lv_iconst (v := iI 4) hx hb d_M_feed_102 rfl ?_
                    refine li_irem hx hb d_M_feed_103 (by omega) (by omega) (by omega) (by omega) ?_
                    refine li_imul hx hb d_M_feed_104 ?_
                    refine li_isub hx hb d_M_feed_105 ?_
                    refine li_ishrI hx hb d_M_feed_106 ?_
                    refine lv_sipush (v := iI 255) hx hb d_M_feed_107 (by decide) ?_
                    refine li_iandI hx hb d_M_feed_110 ?_
                    refine li_iast hx hb hK hP hD hS 0 0 rfl rfl (by omega) (by omega) (by omega) d_M_feed_111 (fun H locs hP hD hS => ?_)
                    have hP : va_P (dC, dI) CL [(ma 0, .inl (kA 0, 400, .inl (aI (va_up vf vz.toNat (andI (shrI cel (24 - (8 * (k % 4)))) 255))))), (mo, .inr (10, [.int (iI 0), .ref (ma 0), .int (iI vz), .ref (ma 1), .ref (ma 2), .int (iI mls), .int (iI mfp), .int (iI mfm), .ref (ma 3), .int (iI mtx), .ref (ma 4), .ref (ma 5), .int (iI mwd), .ref (ma 6), .ref (ma 7), .int (iI mak), .ref (ma 8), .ref (ma 9), .int (iI mli), .int (iI mlx), .ref (ma 10), .ref (ma 11), .int (iI mat), .int (iI mtk), .int (iI mtf), .int (iI mtt), .int (iI mfa), .int (iI mla), .int (iI mlp), .int (iI mdp), .ref (ma 12), .ref (ma 13), .int (iI msi), .int (iI (bI mdn)), .int (iI mpf), .int (iI mpt)]))] H := hP
                    have hD : va_D A [(ma 0, .inl (kA 0, 400, .inl (aI (va_up vf vz.toNat (andI (shrI cel (24 - (8 * (k % 4)))) 255))))), (mo, .inr (10, [.int (iI 0), .ref (ma 0), .int (iI vz), .ref (ma 1), .ref (ma 2), .int (iI mls), .int (iI mfp), .int (iI mfm), .ref (ma 3), .int (iI mtx), .ref (ma 4), .ref (ma 5), .int (iI mwd), .ref (ma 6), .ref (ma 7), .int (iI mak), .ref (ma 8), .ref (ma 9), .int (iI mli), .int (iI mlx), .ref (ma 10), .ref (ma 11), .int (iI mat), .int (iI mtk), .int (iI mtf), .int (iI mtt), .int (iI mfa), .int (iI mla), .int (iI mlp), .int (iI mdp), .ref (ma 12), .ref (ma 13), .int (iI msi), .int (iI (bI mdn)), .int (iI mpf), .int (iI mpt)]))] := hD
                    refine lv_aload_n hx hb d_M_feed_112 rfl (lv_at hl 2 rfl) ?_
                    refine lv_dup hx hb d_M_feed_113 rfl ?_
                    refine gf_M_66 hx hb hts hown hK hP 1 rfl rfl d_M_feed_114 ?_
                    refine lv_iconst (v := iI 1) hx hb d_M_feed_117 rfl ?_
                    refine li_iadd hx hb d_M_feed_118 ?_
                    refine li_nm (fun z_n ez_n => ?_)
                    refine pf_M_66 hx hb hts hown hK hP hD hS 1 rfl (Nat.le_of_ble_eq_true rfl) d_M_feed_119 (fun H locs hP hD hS => ?_)
                    have hP : va_P (dC, dI) CL [(ma 0, .inl (kA 0, 400, .inl (aI (va_up vf vz.toNat (andI (shrI cel (24 - (8 * (k % 4)))) 255))))), (mo, .inr (10, [.int (iI 0), .ref (ma 0), .int (iI z_n), .ref (ma 1), .ref (ma 2), .int (iI mls), .int (iI mfp), .int (iI mfm), .ref (ma 3), .int (iI mtx), .ref (ma 4), .ref (ma 5), .int (iI mwd), .ref (ma 6), .ref (ma 7), .int (iI mak), .ref (ma 8), .ref (ma 9), .int (iI mli), .int (iI mlx), .ref (ma 10), .ref (ma 11), .int (iI mat), .int (iI mtk), .int (iI mtf), .int (iI mtt), .int (iI mfa), .int (iI mla), .int (iI mlp), .int (iI mdp), .ref (ma 12), .ref (ma 13), .int (iI msi), .int (iI (bI mdn)), .int (iI mpf), .int (iI mpt)]))] H := hP
                    have hD : va_D A [(ma 0, .inl (kA 0, 400, .inl (aI (va_up vf vz.toNat (andI (shrI cel (24 - (8 * (k % 4)))) 255))))), (mo, .inr (10, [.int (iI 0), .ref (ma 0), .int (iI z_n), .ref (ma 1), .ref (ma 2), .int (iI mls), .int (iI mfp), .int (iI mfm), .ref (ma 3), .int (iI mtx), .ref (ma 4), .ref (ma 5), .int (iI mwd), .ref (ma 6), .ref (ma 7), .int (iI mak), .ref (ma 8), .ref (ma 9), .int (iI mli), .int (iI mlx), .ref (ma 10), .ref (ma 11), .int (iI mat), .int (iI mtk), .int (iI mtf), .int (iI mtt), .int (iI mfa), .int (iI mla), .int (iI mlp), .int (iI mdp), .ref (ma 12), .ref (ma 13), .int (iI msi), .int (iI (bI mdn)), .int (iI mpf), .int (iI mpt)]))] := hD
                    obtain ⟨k_n, ek_n⟩ : ∃ y_9 : Int, y_9 = k + 1 := ⟨_, rfl⟩
                    refine lv_iinc (v := iI k_n) (lv' := [(6, .int (iI k_n)), (7, .int (iI cel)), (0, .ref mo), (1, .int (iI n)), (2, .int (iI a0)), (3, .int (iI a1)), (4, .int (iI a2)), (5, .int (iI a3))]) hx hb d_M_feed_122 hl (k := 1) rfl (by rw [ek_n]; exact iI_add _ _) (by decide) rfl (fun ls hl => ?_)
                    refine lv_goto (tgt := 43) hx hb d_M_feed_125 (by decide) ?_
                    exact ih_43 k_n (va_up vf vz.toNat (andI (shrI cel (24 - (8 * (k % 4)))) 255)) z_n (by omega) (by omega) (by exact C2_up (and255_r _) hvf) (by rw [ek_n, ez_n, ← hce]; exact hres) (by omega) _ _ hP hD hS _ (lv_sub hl [0, 2, 3, 4, 5, 6, 7] rfl)
                  · have _q := c8
                    refine lv_iload hx hb d_M_feed_77 (lv_at hl 5 rfl) ?_
                    refine lv_goto (tgt := 84) hx hb d_M_feed_79 (by decide) ?_
                    refine li_nm (fun cel ecel => ?_)
                    refine lv_istore (lv' := [(7, .int (iI cel)), (6, .int (iI k)), (0, .ref mo), (1, .int (iI n)), (2, .int (iI a0)), (3, .int (iI a1)), (4, .int (iI a2)), (5, .int (iI a3))]) hx hb d_M_feed_84 hl (by decide) rfl (fun ls hl => ?_)
                    have hce : feC a0 a1 a2 a3 k = cel := by rw [ecel]; unfold feC; (repeat (first | rw [if_pos (by omega)] | rw [if_neg (by omega)]))
                    refine lv_aload_n hx hb d_M_feed_86 rfl (lv_at hl 2 rfl) ?_
                    refine gf_M_7 hx hb hts hown hK hP 1 rfl rfl d_M_feed_87 ?_
                    refine lv_aload_n hx hb d_M_feed_90 rfl (lv_at hl 2 rfl) ?_
                    refine gf_M_66 hx hb hts hown hK hP 1 rfl rfl d_M_feed_91 ?_
                    refine lv_iload hx hb d_M_feed_94 (lv_at hl 0 rfl) ?_
                    refine lv_bipush (v := iI 24) hx hb d_M_feed_96 (by decide) ?_
                    refine lv_bipush (v := iI 8) hx hb d_M_feed_98 (by decide) ?_
                    refine lv_iload hx hb d_M_feed_100 (lv_at hl 1 rfl) ?_
                    refine lv_iconst (v := iI 4) hx hb d_M_feed_102 rfl ?_
                    refine li_irem hx hb d_M_feed_103 (by omega) (by omega) (by omega) (by omega) ?_
                    refine li_imul hx hb d_M_feed_104 ?_
                    refine li_isub hx hb d_M_feed_105 ?_
                    refine li_ishrI hx hb d_M_feed_106 ?_
                    refine lv_sipush (v := iI 255) hx hb d_M_feed_107 (by decide) ?_
                    refine li_iandI hx hb d_M_feed_110 ?_
                    refine li_iast hx hb hK hP hD hS 0 0 rfl rfl (by omega) (by omega) (by omega) d_M_feed_111 (fun H locs hP hD hS => ?_)
                    have hP : va_P (dC, dI) CL [(ma 0, .inl (kA 0, 400, .inl (aI (va_up vf vz.toNat (andI (shrI cel (24 - (8 * (k % 4)))) 255))))), (mo, .inr (10, [.int (iI 0), .ref (ma 0), .int (iI vz), .ref (ma 1), .ref (ma 2), .int (iI mls), .int (iI mfp), .int (iI mfm), .ref (ma 3), .int (iI mtx), .ref (ma 4), .ref (ma 5), .int (iI mwd), .ref (ma 6), .ref (ma 7), .int (iI mak), .ref (ma 8), .ref (ma 9), .int (iI mli), .int (iI mlx), .ref (ma 10), .ref (ma 11), .int (iI mat), .int (iI mtk), .int (iI mtf), .int (iI mtt), .int (iI mfa), .int (iI mla), .int (iI mlp), .int (iI mdp), .ref (ma 12), .ref (ma 13), .int (iI msi), .int (iI (bI mdn)), .int (iI mpf), .int (iI mpt)]))] H := hP
                    have hD : va_D A [(ma 0, .inl (kA 0, 400, .inl (aI (va_up vf vz.toNat (andI (shrI cel (24 - (8 * (k % 4)))) 255))))), (mo, .inr (10, [.int (iI 0), .ref (ma 0), .int (iI vz), .ref (ma 1), .ref (ma 2), .int (iI mls), .int (iI mfp), .int (iI mfm), .ref (ma 3), .int (iI mtx), .ref (ma 4), .ref (ma 5), .int (iI mwd), .ref (ma 6), .ref (ma 7), .int (iI mak), .ref (ma 8), .ref (ma 9), .int (iI mli), .int (iI mlx), .ref (ma 10), .ref (ma 11), .int (iI mat), .int (iI mtk), .int (iI mtf), .int (iI mtt), .int (iI mfa), .int (iI mla), .int (iI mlp), .int (iI mdp), .ref (ma 12), .ref (ma 13), .int (iI msi), .int (iI (bI mdn)), .int (iI mpf), .int (iI mpt)]))] := hD
                    refine lv_aload_n hx hb d_M_feed_112 rfl (lv_at hl 2 rfl) ?_
                    refine lv_dup hx hb d_M_feed_113 rfl ?_
                    refine gf_M_66 hx hb hts hown hK hP 1 rfl rfl d_M_feed_114 ?_
                    refine lv_iconst (v := iI 1) hx hb d_M_feed_117 rfl ?_
                    refine li_iadd hx hb d_M_feed_118 ?_
                    refine li_nm (fun z_n ez_n => ?_)
                    refine pf_M_66 hx hb hts hown hK hP hD hS 1 rfl (Nat.le_of_ble_eq_true rfl) d_M_feed_119 (fun H locs hP hD hS => ?_)
                    have hP : va_P (dC, dI) CL [(ma 0, .inl (kA 0, 400, .inl (aI (va_up vf vz.toNat (andI (shrI cel (24 - (8 * (k % 4)))) 255))))), (mo, .inr (10, [.int (iI 0), .ref (ma 0), .int (iI z_n), .ref (ma 1), .ref (ma 2), .int (iI mls), .int (iI mfp), .int (iI mfm), .ref (ma 3), .int (iI mtx), .ref (ma 4), .ref (ma 5), .int (iI mwd), .ref (ma 6), .ref (ma 7), .int (iI mak), .ref (ma 8), .ref (ma 9), .int (iI mli), .int (iI mlx), .ref (ma 10), .ref (ma 11), .int (iI mat), .int (iI mtk), .int (iI mtf), .int (iI mtt), .int (iI mfa), .int (iI mla), .int (iI mlp), .int (iI mdp), .ref (ma 12), .ref (ma 13), .int (iI msi), .int (iI (bI mdn)), .int (iI mpf), .int (iI mpt)]))] H := hP
                    have hD : va_D A [(ma 0, .inl (kA 0, 400, .inl (aI (va_up vf vz.toNat (andI (shrI cel (24 - (8 * (k % 4)))) 255))))), (mo, .inr (10, [.int (iI 0), .ref (ma 0), .int (iI z_n), .ref (ma 1), .ref (ma 2), .int (iI mls), .int (iI mfp), .int (iI mfm), .ref (ma 3), .int (iI mtx), .ref (ma 4), .ref (ma 5), .int (iI mwd), .ref (ma 6), .ref (ma 7), .int (iI mak), .ref (ma 8), .ref (ma 9), .int (iI mli), .int (iI mlx), .ref (ma 10), .ref (ma 11), .int (iI mat), .int (iI mtk), .int (iI mtf), .int (iI mtt), .int (iI mfa), .int (iI mla), .int (iI mlp), .int (iI mdp), .ref (ma 12), .ref (ma 13), .int (iI msi), .int (iI (bI mdn)), .int (iI mpf), .int (iI mpt)]))] := hD
                    obtain ⟨k_n, ek_n⟩ : ∃ y_9 : Int, y_9 = k + 1 := ⟨_, rfl⟩
                    refine lv_iinc (v := iI k_n) (lv' := [(6, .int (iI k_n)), (7, .int (iI cel)), (0, .ref mo), (1, .int (iI n)), (2, .int (iI a0)), (3, .int (iI a1)), (4, .int (iI a2)), (5, .int (iI a3))]) hx hb d_M_feed_122 hl (k := 1) rfl (by rw [ek_n]; exact iI_add _ _) (by decide) rfl (fun ls hl => ?_)
                    refine lv_goto (tgt := 43) hx hb d_M_feed_125 (by decide) ?_
                    exact ih_43 k_n (va_up vf vz.toNat (andI (shrI cel (24 - (8 * (k % 4)))) 255)) z_n (by omega) (by omega) (by exact C2_up (and255_r _) hvf) (by rw [ek_n, ez_n, ← hce]; exact hres) (by omega) _ _ hP hD hS _ (lv_sub hl [0, 2, 3, 4, 5, 6, 7] rfl)
                · have _q := c7
                  refine lv_iload_n hx hb d_M_feed_66 rfl (lv_at hl 4 rfl) ?_
                  refine lv_goto (tgt := 84) hx hb d_M_feed_67 (by decide) ?_
                  refine li_nm (fun cel ecel => ?_)
                  refine lv_istore (lv' := [(7, .int (iI cel)), (6, .int (iI k)), (0, .ref mo), (1, .int (iI n)), (2, .int (iI a0)), (3, .int (iI a1)), (4, .int (iI a2)), (5, .int (iI a3))]) hx hb d_M_feed_84 hl (by decide) rfl (fun ls hl => ?_)
                  have hce : feC a0 a1 a2 a3 k = cel := by rw [ecel]; unfold feC; (repeat (first | rw [if_pos (by omega)] | rw [if_neg (by omega)]))
                  refine lv_aload_n hx hb d_M_feed_86 rfl (lv_at hl 2 rfl) ?_
                  refine gf_M_7 hx hb hts hown hK hP 1 rfl rfl d_M_feed_87 ?_
                  refine lv_aload_n hx hb d_M_feed_90 rfl (lv_at hl 2 rfl) ?_
                  refine gf_M_66 hx hb hts hown hK hP 1 rfl rfl d_M_feed_91 ?_
                  refine lv_iload hx hb d_M_feed_94 (lv_at hl 0 rfl) ?_
                  refine lv_bipush (v := iI 24) hx hb d_M_feed_96 (by decide) ?_
                  refine lv_bipush (v := iI 8) hx hb d_M_feed_98 (by decide) ?_
                  refine lv_iload hx hb d_M_feed_100 (lv_at hl 1 rfl) ?_
                  refine lv_iconst (v := iI 4) hx hb d_M_feed_102 rfl ?_
                  refine li_irem hx hb d_M_feed_103 (by omega) (by omega) (by omega) (by omega) ?_
                  refine li_imul hx hb d_M_feed_104 ?_
                  refine li_isub hx hb d_M_feed_105 ?_
                  refine li_ishrI hx hb d_M_feed_106 ?_
                  refine lv_sipush (v := iI 255) hx hb d_M_feed_107 (by decide) ?_
                  refine li_iandI hx hb d_M_feed_110 ?_
                  refine li_iast hx hb hK hP hD hS 0 0 rfl rfl (by omega) (by omega) (by omega) d_M_feed_111 (fun H locs hP hD hS => ?_)
                  have hP : va_P (dC, dI) CL [(ma 0, .inl (kA 0, 400, .inl (aI (va_up vf vz.toNat (andI (shrI cel (24 - (8 * (k % 4)))) 255))))), (mo, .inr (10, [.int (iI 0), .ref (ma 0), .int (iI vz), .ref (ma 1), .ref (ma 2), .int (iI mls), .int (iI mfp), .int (iI mfm), .ref (ma 3), .int (iI mtx), .ref (ma 4), .ref (ma 5), .int (iI mwd), .ref (ma 6), .ref (ma 7), .int (iI mak), .ref (ma 8), .ref (ma 9), .int (iI mli), .int (iI mlx), .ref (ma 10), .ref (ma 11), .int (iI mat), .int (iI mtk), .int (iI mtf), .int (iI mtt), .int (iI mfa), .int (iI mla), .int (iI mlp), .int (iI mdp), .ref (ma 12), .ref (ma 13), .int (iI msi), .int (iI (bI mdn)), .int (iI mpf), .int (iI mpt)]))] H := hP
                  have hD : va_D A [(ma 0, .inl (kA 0, 400, .inl (aI (va_up vf vz.toNat (andI (shrI cel (24 - (8 * (k % 4)))) 255))))), (mo, .inr (10, [.int (iI 0), .ref (ma 0), .int (iI vz), .ref (ma 1), .ref (ma 2), .int (iI mls), .int (iI mfp), .int (iI mfm), .ref (ma 3), .int (iI mtx), .ref (ma 4), .ref (ma 5), .int (iI mwd), .ref (ma 6), .ref (ma 7), .int (iI mak), .ref (ma 8), .ref (ma 9), .int (iI mli), .int (iI mlx), .ref (ma 10), .ref (ma 11), .int (iI mat), .int (iI mtk), .int (iI mtf), .int (iI mtt), .int (iI mfa), .int (iI mla), .int (iI mlp), .int (iI mdp), .ref (ma 12), .ref (ma 13), .int (iI msi), .int (iI (bI mdn)), .int (iI mpf), .int (iI mpt)]))] := hD
                  refine lv_aload_n hx hb d_M_feed_112 rfl (lv_at hl 2 rfl) ?_
                  refine lv_dup hx hb d_M_feed_113 rfl ?_
                  refine gf_M_66 hx hb hts hown hK hP 1 rfl rfl d_M_feed_114 ?_
                  refine lv_iconst (v := iI 1) hx hb d_M_feed_117 rfl ?_
                  refine li_iadd hx hb d_M_feed_118 ?_
                  refine li_nm (fun z_n ez_n => ?_)
                  refine pf_M_66 hx hb hts hown hK hP hD hS 1 rfl (Nat.le_of_ble_eq_true rfl) d_M_feed_119 (fun H locs hP hD hS => ?_)
                  have hP : va_P (dC, dI) CL [(ma 0, .inl (kA 0, 400, .inl (aI (va_up vf vz.toNat (andI (shrI cel (24 - (8 * (k % 4)))) 255))))), (mo, .inr (10, [.int (iI 0), .ref (ma 0), .int (iI z_n), .ref (ma 1), .ref (ma 2), .int (iI mls), .int (iI mfp), .int (iI mfm), .ref (ma 3), .int (iI mtx), .ref (ma 4), .ref (ma 5), .int (iI mwd), .ref (ma 6), .ref (ma 7), .int (iI mak), .ref (ma 8), .ref (ma 9), .int (iI mli), .int (iI mlx), .ref (ma 10), .ref (ma 11), .int (iI mat), .int (iI mtk), .int (iI mtf), .int (iI mtt), .int (iI mfa), .int (iI mla), .int (iI mlp), .int (iI mdp), .ref (ma 12), .ref (ma 13), .int (iI msi), .int (iI (bI mdn)), .int (iI mpf), .int (iI mpt)]))] H := hP
                  have hD : va_D A [(ma 0, .inl (kA 0, 400, .inl (aI (va_up vf vz.toNat (andI (shrI cel (24 - (8 * (k % 4)))) 255))))), (mo, .inr (10, [.int (iI 0), .ref (ma 0), .int (iI z_n), .ref (ma 1), .ref (ma 2), .int (iI mls), .int (iI mfp), .int (iI mfm), .ref (ma 3), .int (iI mtx), .ref (ma 4), .ref (ma 5), .int (iI mwd), .ref (ma 6), .ref (ma 7), .int (iI mak), .ref (ma 8), .ref (ma 9), .int (iI mli), .int (iI mlx), .ref (ma 10), .ref (ma 11), .int (iI mat), .int (iI mtk), .int (iI mtf), .int (iI mtt), .int (iI mfa), .int (iI mla), .int (iI mlp), .int (iI mdp), .ref (ma 12), .ref (ma 13), .int (iI msi), .int (iI (bI mdn)), .int (iI mpf), .int (iI mpt)]))] := hD
                  obtain ⟨k_n, ek_n⟩ : ∃ y_9 : Int, y_9 = k + 1 := ⟨_, rfl⟩
                  refine lv_iinc (v := iI k_n) (lv' := [(6, .int (iI k_n)), (7, .int (iI cel)), (0, .ref mo), (1, .int (iI n)), (2, .int (iI a0)), (3, .int (iI a1)), (4, .int (iI a2)), (5, .int (iI a3))]) hx hb d_M_feed_122 hl (k := 1) rfl (by rw [ek_n]; exact iI_add _ _) (by decide) rfl (fun ls hl => ?_)
                  refine lv_goto (tgt := 43) hx hb d_M_feed_125 (by decide) ?_
                  exact ih_43 k_n (va_up vf vz.toNat (andI (shrI cel (24 - (8 * (k % 4)))) 255)) z_n (by omega) (by omega) (by exact C2_up (and255_r _) hvf) (by rw [ek_n, ez_n, ← hce]; exact hres) (by omega) _ _ hP hD hS _ (lv_sub hl [0, 2, 3, 4, 5, 6, 7] rfl)
              · have _q := c6
                refine lv_iload_n hx hb d_M_feed_55 rfl (lv_at hl 3 rfl) ?_
                refine lv_goto (tgt := 84) hx hb d_M_feed_56 (by decide) ?_
                refine li_nm (fun cel ecel => ?_)
                refine lv_istore (lv' := [(7, .int (iI cel)), (6, .int (iI k)), (0, .ref mo), (1, .int (iI n)), (2, .int (iI a0)), (3, .int (iI a1)), (4, .int (iI a2)), (5, .int (iI a3))]) hx hb d_M_feed_84 hl (by decide) rfl (fun ls hl => ?_)
                have hce : feC a0 a1 a2 a3 k = cel := by rw [ecel]; unfold feC; (repeat (first | rw [if_pos (by omega)] | rw [if_neg (by omega)]))
                refine lv_aload_n hx hb d_M_feed_86 rfl (lv_at hl 2 rfl) ?_
                refine gf_M_7 hx hb hts hown hK hP 1 rfl rfl d_M_feed_87 ?_
                refine lv_aload_n hx hb d_M_feed_90 rfl (lv_at hl 2 rfl) ?_
                refine gf_M_66 hx hb hts hown hK hP 1 rfl rfl d_M_feed_91 ?_
                refine lv_iload hx hb d_M_feed_94 (lv_at hl 0 rfl) ?_
                refine lv_bipush (v := iI 24) hx hb d_M_feed_96 (by decide) ?_
                refine lv_bipush (v := iI 8) hx hb d_M_feed_98 (by decide) ?_
                refine lv_iload hx hb d_M_feed_100 (lv_at hl 1 rfl) ?_
                refine lv_iconst (v := iI 4) hx hb d_M_feed_102 rfl ?_
                refine li_irem hx hb d_M_feed_103 (by omega) (by omega) (by omega) (by omega) ?_
                refine li_imul hx hb d_M_feed_104 ?_
                refine li_isub hx hb d_M_feed_105 ?_
                refine li_ishrI hx hb d_M_feed_106 ?_
                refine lv_sipush (v := iI 255) hx hb d_M_feed_107 (by decide) ?_
                refine li_iandI hx hb d_M_feed_110 ?_
                refine li_iast hx hb hK hP hD hS 0 0 rfl rfl (by omega) (by omega) (by omega) d_M_feed_111 (fun H locs hP hD hS => ?_)
                have hP : va_P (dC, dI) CL [(ma 0, .inl (kA 0, 400, .inl (aI (va_up vf vz.toNat (andI (shrI cel (24 - (8 * (k % 4)))) 255))))), (mo, .inr (10, [.int (iI 0), .ref (ma 0), .int (iI vz), .ref (ma 1), .ref (ma 2), .int (iI mls), .int (iI mfp), .int (iI mfm), .ref (ma 3), .int (iI mtx), .ref (ma 4), .ref (ma 5), .int (iI mwd), .ref (ma 6), .ref (ma 7), .int (iI mak), .ref (ma 8), .ref (ma 9), .int (iI mli), .int (iI mlx), .ref (ma 10), .ref (ma 11), .int (iI mat), .int (iI mtk), .int (iI mtf), .int (iI mtt), .int (iI mfa), .int (iI mla), .int (iI mlp), .int (iI mdp), .ref (ma 12), .ref (ma 13), .int (iI msi), .int (iI (bI mdn)), .int (iI mpf), .int (iI mpt)]))] H := hP
                have hD : va_D A [(ma 0, .inl (kA 0, 400, .inl (aI (va_up vf vz.toNat (andI (shrI cel (24 - (8 * (k % 4)))) 255))))), (mo, .inr (10, [.int (iI 0), .ref (ma 0), .int (iI vz), .ref (ma 1), .ref (ma 2), .int (iI mls), .int (iI mfp), .int (iI mfm), .ref (ma 3), .int (iI mtx), .ref (ma 4), .ref (ma 5), .int (iI mwd), .ref (ma 6), .ref (ma 7), .int (iI mak), .ref (ma 8), .ref (ma 9), .int (iI mli), .int (iI mlx), .ref (ma 10), .ref (ma 11), .int (iI mat), .int (iI mtk), .int (iI mtf), .int (iI mtt), .int (iI mfa), .int (iI mla), .int (iI mlp), .int (iI mdp), .ref (ma 12), .ref (ma 13), .int (iI msi), .int (iI (bI mdn)), .int (iI mpf), .int (iI mpt)]))] := hD
                refine lv_aload_n hx hb d_M_feed_112 rfl (lv_at hl 2 rfl) ?_
                refine lv_dup hx hb d_M_feed_113 rfl ?_
                refine gf_M_66 hx hb hts hown hK hP 1 rfl rfl d_M_feed_114 ?_
                refine lv_iconst (v := iI 1) hx hb d_M_feed_117 rfl ?_
                refine li_iadd hx hb d_M_feed_118 ?_
                refine li_nm (fun z_n ez_n => ?_)
                refine pf_M_66 hx hb hts hown hK hP hD hS 1 rfl (Nat.le_of_ble_eq_true rfl) d_M_feed_119 (fun H locs hP hD hS => ?_)
                have hP : va_P (dC, dI) CL [(ma 0, .inl (kA 0, 400, .inl (aI (va_up vf vz.toNat (andI (shrI cel (24 - (8 * (k % 4)))) 255))))), (mo, .inr (10, [.int (iI 0), .ref (ma 0), .int (iI z_n), .ref (ma 1), .ref (ma 2), .int (iI mls), .int (iI mfp), .int (iI mfm), .ref (ma 3), .int (iI mtx), .ref (ma 4), .ref (ma 5), .int (iI mwd), .ref (ma 6), .ref (ma 7), .int (iI mak), .ref (ma 8), .ref (ma 9), .int (iI mli), .int (iI mlx), .ref (ma 10), .ref (ma 11), .int (iI mat), .int (iI mtk), .int (iI mtf), .int (iI mtt), .int (iI mfa), .int (iI mla), .int (iI mlp), .int (iI mdp), .ref (ma 12), .ref (ma 13), .int (iI msi), .int (iI (bI mdn)), .int (iI mpf), .int (iI mpt)]))] H := hP
                have hD : va_D A [(ma 0, .inl (kA 0, 400, .inl (aI (va_up vf vz.toNat (andI (shrI cel (24 - (8 * (k % 4)))) 255))))), (mo, .inr (10, [.int (iI 0), .ref (ma 0), .int (iI z_n), .ref (ma 1), .ref (ma 2), .int (iI mls), .int (iI mfp), .int (iI mfm), .ref (ma 3), .int (iI mtx), .ref (ma 4), .ref (ma 5), .int (iI mwd), .ref (ma 6), .ref (ma 7), .int (iI mak), .ref (ma 8), .ref (ma 9), .int (iI mli), .int (iI mlx), .ref (ma 10), .ref (ma 11), .int (iI mat), .int (iI mtk), .int (iI mtf), .int (iI mtt), .int (iI mfa), .int (iI mla), .int (iI mlp), .int (iI mdp), .ref (ma 12), .ref (ma 13), .int (iI msi), .int (iI (bI mdn)), .int (iI mpf), .int (iI mpt)]))] := hD
                obtain ⟨k_n, ek_n⟩ : ∃ y_9 : Int, y_9 = k + 1 := ⟨_, rfl⟩
                refine lv_iinc (v := iI k_n) (lv' := [(6, .int (iI k_n)), (7, .int (iI cel)), (0, .ref mo), (1, .int (iI n)), (2, .int (iI a0)), (3, .int (iI a1)), (4, .int (iI a2)), (5, .int (iI a3))]) hx hb d_M_feed_122 hl (k := 1) rfl (by rw [ek_n]; exact iI_add _ _) (by decide) rfl (fun ls hl => ?_)
                refine lv_goto (tgt := 43) hx hb d_M_feed_125 (by decide) ?_
                exact ih_43 k_n (va_up vf vz.toNat (andI (shrI cel (24 - (8 * (k % 4)))) 255)) z_n (by omega) (by omega) (by exact C2_up (and255_r _) hvf) (by rw [ek_n, ez_n, ← hce]; exact hres) (by omega) _ _ hP hD hS _ (lv_sub hl [0, 2, 3, 4, 5, 6, 7] rfl)
        exact K_43 ((n - 0).toNat + 1) 0 cb mz (by omega) (by omega) (by exact hcb) (by rw [Int.sub_zero]; rfl) (Nat.lt_succ_self _) _ _ hP hD hS _ (lv_sub hl [0, 1, 2, 3, 4, 5, 6] rfl)
      · have _q := c4
        exact absurd c4 (by decide)
    · have _q := c2
      refine lv_iconst (v := iI 2) hx hb d_M_feed_27 rfl ?_
      refine lv_goto (tgt := 32) hx hb d_M_feed_28 (by decide) ?_
      refine li_callw (wc := [(mo, .inr (10, [.int (iI mrf), .ref (ma 0), .int (iI mz), .ref (ma 1), .ref (ma 2), .int (iI mls), .int (iI mfp), .int (iI mfm), .ref (ma 3), .int (iI mtx), .ref (ma 4), .ref (ma 5), .int (iI mwd), .ref (ma 6), .ref (ma 7), .int (iI mak), .ref (ma 8), .ref (ma 9), .int (iI mli), .int (iI mlx), .ref (ma 10), .ref (ma 11), .int (iI mat), .int (iI mtk), .int (iI mtf), .int (iI mtt), .int (iI mfa), .int (iI mla), .int (iI mlp), .int (iI mdp), .ref (ma 12), .ref (ma 13), .int (iI msi), .int (iI (bI mdn)), .int (iI mpf), .int (iI mpt)]))]) (wr := [(ma 0, .inl (kA 0, 400, .inl (aI cb)))]) (va_runV (As := [.int (iI 2)]) (rest := []) ⟨hx, hb, hml, hown, hts⟩ (c_M_refused l dC dI kA H.size mo ma mrf mz mls mfp mfm mtx mwd mak mli mlx mat mtk mtf mtt mfa mla mlp mdp msi mpf mpt mdn 2 (by omega)) (cw_M_69 hts rfl rfl ⟨Nat.le_of_ble_eq_true rfl, Nat.le_of_ble_eq_true rfl⟩) (li_preV (va_recv hK hP (ci := 10) (q0 := 0) rfl rfl) ⟨rfl, hP.sub [0] rfl, (hD.sub [0] (by decide) rfl).weaken (fun _ _ _ h => hAN _ h), trivial⟩ hK hN (hG.go hS hAN)) rfl rfl hl.1 rfl (lv_room (Nat.le_of_ble_eq_true rfl)) d_M_feed_32 ⟨(by show 0 + 0 ≤ 0; omega), (by show 0 + 0 ≤ 0; omega)⟩) hP hD hS hA [0] [1] rfl rfl (by decide) (by decide) (fun u9 H locs hu9 hP hD hS _hk => ?_)
      have hP : va_P (dC, dI) CL [(ma 0, .inl (kA 0, 400, .inl (aI cb))), (mo, .inr (10, [.int (iI 2), .ref (ma 0), .int (iI mz), .ref (ma 1), .ref (ma 2), .int (iI mls), .int (iI mfp), .int (iI mfm), .ref (ma 3), .int (iI mtx), .ref (ma 4), .ref (ma 5), .int (iI mwd), .ref (ma 6), .ref (ma 7), .int (iI mak), .ref (ma 8), .ref (ma 9), .int (iI mli), .int (iI mlx), .ref (ma 10), .ref (ma 11), .int (iI mat), .int (iI mtk), .int (iI mtf), .int (iI mtt), .int (iI mfa), .int (iI mla), .int (iI mlp), .int (iI mdp), .ref (ma 12), .ref (ma 13), .int (iI msi), .int (iI (bI mdn)), .int (iI mpf), .int (iI mpt)]))] H := hP
      have hD : va_D A [(ma 0, .inl (kA 0, 400, .inl (aI cb))), (mo, .inr (10, [.int (iI 2), .ref (ma 0), .int (iI mz), .ref (ma 1), .ref (ma 2), .int (iI mls), .int (iI mfp), .int (iI mfm), .ref (ma 3), .int (iI mtx), .ref (ma 4), .ref (ma 5), .int (iI mwd), .ref (ma 6), .ref (ma 7), .int (iI mak), .ref (ma 8), .ref (ma 9), .int (iI mli), .int (iI mlx), .ref (ma 10), .ref (ma 11), .int (iI mat), .int (iI mtk), .int (iI mtf), .int (iI mtt), .int (iI mfa), .int (iI mla), .int (iI mlp), .int (iI mdp), .ref (ma 12), .ref (ma 13), .int (iI msi), .int (iI (bI mdn)), .int (iI mpf), .int (iI mpt)]))] := hD
      refine li_bz (tgt := 40) hx hb d_M_feed_35 (by decide) (fun c10 => ?_) (fun c10 => ?_)
      · have _q := c10
        exact absurd c10 (by decide)
      · have _q := c10
        refine lv_iconst (v := iI 0) hx hb d_M_feed_38 rfl ?_
        exact fin (cb, mz, 2, 0) _ _ _ _ _ (by rfl) (by show (¬ (0 ≤ n ∧ n ≤ 16) ∧ 2 = 1 ∧ 0 = 0 ∧ mz = mz ∧ cb = cb) ∨ ((0 ≤ n ∧ n ≤ 16) ∧ 400 < mz + n ∧ 2 = 2 ∧ 0 = 0 ∧ mz = mz ∧ cb = cb) ∨ ((0 ≤ n ∧ n ≤ 16) ∧ mz + n ≤ 400 ∧ 2 = 0 ∧ 0 = mz ∧ (cb, mz) = feM a0 a1 a2 a3 n (cb, mz) ∧ mz = mz + n ∧ C2 cb); first | exact Or.inl ⟨by omega, rfl, rfl, rfl, rfl⟩ | exact Or.inr (Or.inl ⟨by omega, by omega, rfl, rfl, rfl, rfl⟩)) (by first | exact hP.sub [1, 0] rfl | (subst_vars; exact hP.sub [1, 0] rfl)) (by first | exact hD.sub [1, 0] (by decide) rfl | (subst_vars; exact hD.sub [1, 0] (by decide) rfl)) hS d_M_feed_39
  · have _q := c1
    have hin9 := of_decide_eq_false (show inF n 0 16 = false by assumption)
    refine lv_iconst (v := iI 1) hx hb d_M_feed_11 rfl ?_
    refine lv_goto (tgt := 32) hx hb d_M_feed_12 (by decide) ?_
    refine li_callw (wc := [(mo, .inr (10, [.int (iI mrf), .ref (ma 0), .int (iI mz), .ref (ma 1), .ref (ma 2), .int (iI mls), .int (iI mfp), .int (iI mfm), .ref (ma 3), .int (iI mtx), .ref (ma 4), .ref (ma 5), .int (iI mwd), .ref (ma 6), .ref (ma 7), .int (iI mak), .ref (ma 8), .ref (ma 9), .int (iI mli), .int (iI mlx), .ref (ma 10), .ref (ma 11), .int (iI mat), .int (iI mtk), .int (iI mtf), .int (iI mtt), .int (iI mfa), .int (iI mla), .int (iI mlp), .int (iI mdp), .ref (ma 12), .ref (ma 13), .int (iI msi), .int (iI (bI mdn)), .int (iI mpf), .int (iI mpt)]))]) (wr := [(ma 0, .inl (kA 0, 400, .inl (aI cb)))]) (va_runV (As := [.int (iI 1)]) (rest := []) ⟨hx, hb, hml, hown, hts⟩ (c_M_refused l dC dI kA H.size mo ma mrf mz mls mfp mfm mtx mwd mak mli mlx mat mtk mtf mtt mfa mla mlp mdp msi mpf mpt mdn 1 (by omega)) (cw_M_69 hts rfl rfl ⟨Nat.le_of_ble_eq_true rfl, Nat.le_of_ble_eq_true rfl⟩) (li_preV (va_recv hK hP (ci := 10) (q0 := 0) rfl rfl) ⟨rfl, hP.sub [0] rfl, (hD.sub [0] (by decide) rfl).weaken (fun _ _ _ h => hAN _ h), trivial⟩ hK hN (hG.go hS hAN)) rfl rfl hl.1 rfl (lv_room (Nat.le_of_ble_eq_true rfl)) d_M_feed_32 ⟨(by show 0 + 0 ≤ 0; omega), (by show 0 + 0 ≤ 0; omega)⟩) hP hD hS hA [0] [1] rfl rfl (by decide) (by decide) (fun u11 H locs hu11 hP hD hS _hk => ?_)
    have hP : va_P (dC, dI) CL [(ma 0, .inl (kA 0, 400, .inl (aI cb))), (mo, .inr (10, [.int (iI 1), .ref (ma 0), .int (iI mz), .ref (ma 1), .ref (ma 2), .int (iI mls), .int (iI mfp), .int (iI mfm), .ref (ma 3), .int (iI mtx), .ref (ma 4), .ref (ma 5), .int (iI mwd), .ref (ma 6), .ref (ma 7), .int (iI mak), .ref (ma 8), .ref (ma 9), .int (iI mli), .int (iI mlx), .ref (ma 10), .ref (ma 11), .int (iI mat), .int (iI mtk), .int (iI mtf), .int (iI mtt), .int (iI mfa), .int (iI mla), .int (iI mlp), .int (iI mdp), .ref (ma 12), .ref (ma 13), .int (iI msi), .int (iI (bI mdn)), .int (iI mpf), .int (iI mpt)]))] H := hP
    have hD : va_D A [(ma 0, .inl (kA 0, 400, .inl (aI cb))), (mo, .inr (10, [.int (iI 1), .ref (ma 0), .int (iI mz), .ref (ma 1), .ref (ma 2), .int (iI mls), .int (iI mfp), .int (iI mfm), .ref (ma 3), .int (iI mtx), .ref (ma 4), .ref (ma 5), .int (iI mwd), .ref (ma 6), .ref (ma 7), .int (iI mak), .ref (ma 8), .ref (ma 9), .int (iI mli), .int (iI mlx), .ref (ma 10), .ref (ma 11), .int (iI mat), .int (iI mtk), .int (iI mtf), .int (iI mtt), .int (iI mfa), .int (iI mla), .int (iI mlp), .int (iI mdp), .ref (ma 12), .ref (ma 13), .int (iI msi), .int (iI (bI mdn)), .int (iI mpf), .int (iI mpt)]))] := hD
    refine li_bz (tgt := 40) hx hb d_M_feed_35 (by decide) (fun c12 => ?_) (fun c12 => ?_)
    · have _q := c12
      exact absurd c12 (by decide)
    · have _q := c12
      refine lv_iconst (v := iI 0) hx hb d_M_feed_38 rfl ?_
      exact fin (cb, mz, 1, 0) _ _ _ _ _ (by rfl) (by show (¬ (0 ≤ n ∧ n ≤ 16) ∧ 1 = 1 ∧ 0 = 0 ∧ mz = mz ∧ cb = cb) ∨ ((0 ≤ n ∧ n ≤ 16) ∧ 400 < mz + n ∧ 1 = 2 ∧ 0 = 0 ∧ mz = mz ∧ cb = cb) ∨ ((0 ≤ n ∧ n ≤ 16) ∧ mz + n ≤ 400 ∧ 1 = 0 ∧ 0 = mz ∧ (cb, mz) = feM a0 a1 a2 a3 n (cb, mz) ∧ mz = mz + n ∧ C2 cb); first | exact Or.inl ⟨by omega, rfl, rfl, rfl, rfl⟩ | exact Or.inr (Or.inl ⟨by omega, by omega, rfl, rfl, rfl, rfl⟩)) (by first | exact hP.sub [1, 0] rfl | (subst_vars; exact hP.sub [1, 0] rfl)) (by first | exact hD.sub [1, 0] (by decide) rfl | (subst_vars; exact hD.sub [1, 0] (by decide) rfl)) hS d_M_feed_39
theorem d_M_checkOthers_0 : decode b_M_checkOthers 0 = .ok (.iconst (-1), 1) := by decide +kernel
theorem d_M_checkOthers_1 : decode b_M_checkOthers 1 = .ok (.istore_n 2, 1) := by decide +kernel
theorem d_M_checkOthers_2 : decode b_M_checkOthers 2 = .ok (.bipush 9, 2) := by decide +kernel
theorem d_M_checkOthers_4 : decode b_M_checkOthers 4 = .ok (.istore_n 3, 1) := by decide +kernel
theorem d_M_checkOthers_5 : decode b_M_checkOthers 5 = .ok (.iload_n 3, 1) := by decide +kernel
theorem d_M_checkOthers_6 : decode b_M_checkOthers 6 = .ok (.ifCond .lt 121, 3) := by decide +kernel
theorem d_M_checkOthers_9 : decode b_M_checkOthers 9 = .ok (.aload_n 0, 1) := by decide +kernel
theorem d_M_checkOthers_10 : decode b_M_checkOthers 10 = .ok (.getfield 16, 3) := by decide +kernel
theorem d_M_checkOthers_13 : decode b_M_checkOthers 13 = .ok (.iload_n 3, 1) := by decide +kernel
theorem d_M_checkOthers_14 : decode b_M_checkOthers 14 = .ok (.iaload, 1) := by decide +kernel
theorem d_M_checkOthers_15 : decode b_M_checkOthers 15 = .ok (.ifCond .ne 7, 3) := by decide +kernel
theorem d_M_checkOthers_18 : decode b_M_checkOthers 18 = .ok (.iload_n 3, 1) := by decide +kernel
theorem d_M_checkOthers_19 : decode b_M_checkOthers 19 = .ok (.goto 4, 3) := by decide +kernel
theorem d_M_checkOthers_22 : decode b_M_checkOthers 22 = .ok (.iload_n 2, 1) := by decide +kernel
theorem d_M_checkOthers_23 : decode b_M_checkOthers 23 = .ok (.istore_n 2, 1) := by decide +kernel
theorem d_M_checkOthers_24 : decode b_M_checkOthers 24 = .ok (.aload_n 0, 1) := by decide +kernel
theorem d_M_checkOthers_25 : decode b_M_checkOthers 25 = .ok (.getfield 16, 3) := by decide +kernel
theorem d_M_checkOthers_28 : decode b_M_checkOthers 28 = .ok (.iload_n 3, 1) := by decide +kernel
theorem d_M_checkOthers_29 : decode b_M_checkOthers 29 = .ok (.iaload, 1) := by decide +kernel
theorem d_M_checkOthers_30 : decode b_M_checkOthers 30 = .ok (.ifCond .le 91, 3) := by decide +kernel
theorem d_M_checkOthers_33 : decode b_M_checkOthers 33 = .ok (.sipush 400, 3) := by decide +kernel
theorem d_M_checkOthers_36 : decode b_M_checkOthers 36 = .ok (.iload_n 3, 1) := by decide +kernel
theorem d_M_checkOthers_37 : decode b_M_checkOthers 37 = .ok (.imul, 1) := by decide +kernel
theorem d_M_checkOthers_38 : decode b_M_checkOthers 38 = .ok (.aload_n 0, 1) := by decide +kernel
theorem d_M_checkOthers_39 : decode b_M_checkOthers 39 = .ok (.iload_n 3, 1) := by decide +kernel
theorem d_M_checkOthers_40 : decode b_M_checkOthers 40 = .ok (.invokevirtual 100, 3) := by decide +kernel
theorem d_M_checkOthers_43 : decode b_M_checkOthers 43 = .ok (.iadd, 1) := by decide +kernel
theorem d_M_checkOthers_44 : decode b_M_checkOthers 44 = .ok (.istore 4, 2) := by decide +kernel
theorem d_M_checkOthers_46 : decode b_M_checkOthers 46 = .ok (.iconst 0, 1) := by decide +kernel
theorem d_M_checkOthers_47 : decode b_M_checkOthers 47 = .ok (.istore 5, 2) := by decide +kernel
theorem d_M_checkOthers_49 : decode b_M_checkOthers 49 = .ok (.aload_n 0, 1) := by decide +kernel
theorem d_M_checkOthers_50 : decode b_M_checkOthers 50 = .ok (.getfield 7, 3) := by decide +kernel
theorem d_M_checkOthers_53 : decode b_M_checkOthers 53 = .ok (.iload_n 1, 1) := by decide +kernel
theorem d_M_checkOthers_54 : decode b_M_checkOthers 54 = .ok (.iload 5, 2) := by decide +kernel
theorem d_M_checkOthers_56 : decode b_M_checkOthers 56 = .ok (.iadd, 1) := by decide +kernel
theorem d_M_checkOthers_57 : decode b_M_checkOthers 57 = .ok (.iaload, 1) := by decide +kernel
theorem d_M_checkOthers_58 : decode b_M_checkOthers 58 = .ok (.aload_n 0, 1) := by decide +kernel
theorem d_M_checkOthers_59 : decode b_M_checkOthers 59 = .ok (.getfield 13, 3) := by decide +kernel
theorem d_M_checkOthers_62 : decode b_M_checkOthers 62 = .ok (.iload 4, 2) := by decide +kernel
theorem d_M_checkOthers_64 : decode b_M_checkOthers 64 = .ok (.iload 5, 2) := by decide +kernel
theorem d_M_checkOthers_66 : decode b_M_checkOthers 66 = .ok (.iadd, 1) := by decide +kernel
theorem d_M_checkOthers_67 : decode b_M_checkOthers 67 = .ok (.iaload, 1) := by decide +kernel
theorem d_M_checkOthers_68 : decode b_M_checkOthers 68 = .ok (.if_icmp .ne 23, 3) := by decide +kernel
theorem d_M_checkOthers_71 : decode b_M_checkOthers 71 = .ok (.aload_n 0, 1) := by decide +kernel
theorem d_M_checkOthers_72 : decode b_M_checkOthers 72 = .ok (.getfield 7, 3) := by decide +kernel
theorem d_M_checkOthers_75 : decode b_M_checkOthers 75 = .ok (.iload_n 1, 1) := by decide +kernel
theorem d_M_checkOthers_76 : decode b_M_checkOthers 76 = .ok (.iload 5, 2) := by decide +kernel
theorem d_M_checkOthers_78 : decode b_M_checkOthers 78 = .ok (.iadd, 1) := by decide +kernel
theorem d_M_checkOthers_79 : decode b_M_checkOthers 79 = .ok (.iaload, 1) := by decide +kernel
theorem d_M_checkOthers_80 : decode b_M_checkOthers 80 = .ok (.bipush 30, 2) := by decide +kernel
theorem d_M_checkOthers_82 : decode b_M_checkOthers 82 = .ok (.if_icmp .eq 9, 3) := by decide +kernel
theorem d_M_checkOthers_85 : decode b_M_checkOthers 85 = .ok (.iinc 5 1, 3) := by decide +kernel
theorem d_M_checkOthers_88 : decode b_M_checkOthers 88 = .ok (.goto (-39), 3) := by decide +kernel
theorem d_M_checkOthers_91 : decode b_M_checkOthers 91 = .ok (.aload_n 0, 1) := by decide +kernel
theorem d_M_checkOthers_92 : decode b_M_checkOthers 92 = .ok (.getfield 7, 3) := by decide +kernel
theorem d_M_checkOthers_95 : decode b_M_checkOthers 95 = .ok (.iload_n 1, 1) := by decide +kernel
theorem d_M_checkOthers_96 : decode b_M_checkOthers 96 = .ok (.iload 5, 2) := by decide +kernel
theorem d_M_checkOthers_98 : decode b_M_checkOthers 98 = .ok (.iadd, 1) := by decide +kernel
theorem d_M_checkOthers_99 : decode b_M_checkOthers 99 = .ok (.iaload, 1) := by decide +kernel
theorem d_M_checkOthers_100 : decode b_M_checkOthers 100 = .ok (.aload_n 0, 1) := by decide +kernel
theorem d_M_checkOthers_101 : decode b_M_checkOthers 101 = .ok (.getfield 13, 3) := by decide +kernel
theorem d_M_checkOthers_104 : decode b_M_checkOthers 104 = .ok (.iload 4, 2) := by decide +kernel
theorem d_M_checkOthers_106 : decode b_M_checkOthers 106 = .ok (.iload 5, 2) := by decide +kernel
theorem d_M_checkOthers_108 : decode b_M_checkOthers 108 = .ok (.iadd, 1) := by decide +kernel
theorem d_M_checkOthers_109 : decode b_M_checkOthers 109 = .ok (.iaload, 1) := by decide +kernel
theorem d_M_checkOthers_110 : decode b_M_checkOthers 110 = .ok (.if_icmp .ne 11, 3) := by decide +kernel
theorem d_M_checkOthers_113 : decode b_M_checkOthers 113 = .ok (.aload_n 0, 1) := by decide +kernel
theorem d_M_checkOthers_114 : decode b_M_checkOthers 114 = .ok (.bipush (-8), 2) := by decide +kernel
theorem d_M_checkOthers_116 : decode b_M_checkOthers 116 = .ok (.iload_n 1, 1) := by decide +kernel
theorem d_M_checkOthers_117 : decode b_M_checkOthers 117 = .ok (.invokevirtual 86, 3) := by decide +kernel
theorem d_M_checkOthers_120 : decode b_M_checkOthers 120 = .ok (.ireturn, 1) := by decide +kernel
theorem d_M_checkOthers_121 : decode b_M_checkOthers 121 = .ok (.iinc 3 (-1), 3) := by decide +kernel
theorem d_M_checkOthers_124 : decode b_M_checkOthers 124 = .ok (.goto (-119), 3) := by decide +kernel
theorem d_M_checkOthers_127 : decode b_M_checkOthers 127 = .ok (.iload_n 2, 1) := by decide +kernel
theorem d_M_checkOthers_128 : decode b_M_checkOthers 128 = .ok (.ifCond .ge 13, 3) := by decide +kernel
theorem d_M_checkOthers_131 : decode b_M_checkOthers 131 = .ok (.aload_n 0, 1) := by decide +kernel
theorem d_M_checkOthers_132 : decode b_M_checkOthers 132 = .ok (.bipush (-9), 2) := by decide +kernel
theorem d_M_checkOthers_134 : decode b_M_checkOthers 134 = .ok (.iconst 0, 1) := by decide +kernel
theorem d_M_checkOthers_135 : decode b_M_checkOthers 135 = .ok (.invokevirtual 86, 3) := by decide +kernel
theorem d_M_checkOthers_138 : decode b_M_checkOthers 138 = .ok (.goto 4, 3) := by decide +kernel
theorem d_M_checkOthers_141 : decode b_M_checkOthers 141 = .ok (.iconst 0, 1) := by decide +kernel
theorem d_M_checkOthers_142 : decode b_M_checkOthers 142 = .ok (.ireturn, 1) := by decide +kernel
set_option maxHeartbeats 4000000 in
set_option maxRecDepth 100000 in
theorem c_M_checkOthers (l : Launch) (dC : Nat → ClassId) (dI : Nat → Nat → Nat) (kA : Nat → ClassId) (sz : Nat) (mo : Nat) (ma : Nat → Nat) (mrf : Int) (mz : Int) (mls : Int) (mfp : Int) (mfm : Int) (mtx : Int) (mwd : Int) (mak : Int) (mli : Int) (mlx : Int) (mat : Int) (mtk : Int) (mtf : Int) (mtt : Int) (mfa : Int) (mla : Int) (mlp : Int) (mdp : Int) (msi : Int) (mpf : Int) (mpt : Int) (mdn : Bool) (cb : Nat → Int) (ca : Nat → Int) (cle : Nat → Int) (b : Int) (dd : Int) (hca : C2 ca) (hcb : C2 cb) (hle : ∀ j, 0 ≤ cle j ∧ cle j ≤ 400) (hRec : Recs ca cle) (hb0 : 0 ≤ b ∧ b ≤ dd ∧ dd < 400) (hb30 : cb dd.toNat = 30) : Met l y_M_checkOthers (wsy y_M_checkOthers b_M_checkOthers 6 (some .int)) (rmd 2 0 0) (li_Pr (dC, dI) CL (TY kA) [.ref mo, .int (iI b)] (fun h => h.size = sz ∧ va_P (dC, dI) CL [(mo, .inr (10, [.int (iI mrf), .ref (ma 0), .int (iI mz), .ref (ma 1), .ref (ma 2), .int (iI mls), .int (iI mfp), .int (iI mfm), .ref (ma 3), .int (iI mtx), .ref (ma 4), .ref (ma 5), .int (iI mwd), .ref (ma 6), .ref (ma 7), .int (iI mak), .ref (ma 8), .ref (ma 9), .int (iI mli), .int (iI mlx), .ref (ma 10), .ref (ma 11), .int (iI mat), .int (iI mtk), .int (iI mtf), .int (iI mtt), .int (iI mfa), .int (iI mla), .int (iI mlp), .int (iI mdp), .ref (ma 12), .ref (ma 13), .int (iI msi), .int (iI (bI mdn)), .int (iI mpf), .int (iI mpt)])), (ma 0, .inl (kA 0, 400, .inl (aI cb))), (ma 1, .inl (kA 0, 4120, .inl (aI ca))), (ma 2, .inl (kA 0, 10, .inl (aI cle)))] h ∧ va_D (fun q => dI 100 0 ≤ q) [(mo, .inr (10, [.int (iI mrf), .ref (ma 0), .int (iI mz), .ref (ma 1), .ref (ma 2), .int (iI mls), .int (iI mfp), .int (iI mfm), .ref (ma 3), .int (iI mtx), .ref (ma 4), .ref (ma 5), .int (iI mwd), .ref (ma 6), .ref (ma 7), .int (iI mak), .ref (ma 8), .ref (ma 9), .int (iI mli), .int (iI mlx), .ref (ma 10), .ref (ma 11), .int (iI mat), .int (iI mtk), .int (iI mtf), .int (iI mtt), .int (iI mfa), .int (iI mla), .int (iI mlp), .int (iI mdp), .ref (ma 12), .ref (ma 13), .int (iI msi), .int (iI (bI mdn)), .int (iI mpf), .int (iI mpt)])), (ma 0, .inl (kA 0, 400, .inl (aI cb))), (ma 1, .inl (kA 0, 4120, .inl (aI ca))), (ma 2, .inl (kA 0, 10, .inl (aI cle)))] ∧ (fun _ => True) h)) (li_Qw (S := (Int) × (Int)) (dC, dI) CL (fun u => (u.2, u.1) = coM cb ca cle mfp b ∧ -9 ≤ u.2 ∧ u.2 ≤ 0 ∧ (u.2 = 0 → ∃ q : Int, 0 ≤ q ∧ q ≤ 9 ∧ cle q.toNat = 0)) (fun u => some (.int (iI (u.2)))) (fun u => [(mo, .inr (10, [.int (iI mrf), .ref (ma 0), .int (iI mz), .ref (ma 1), .ref (ma 2), .int (iI mls), .int (iI u.1), .int (iI mfm), .ref (ma 3), .int (iI mtx), .ref (ma 4), .ref (ma 5), .int (iI mwd), .ref (ma 6), .ref (ma 7), .int (iI mak), .ref (ma 8), .ref (ma 9), .int (iI mli), .int (iI mlx), .ref (ma 10), .ref (ma 11), .int (iI mat), .int (iI mtk), .int (iI mtf), .int (iI mtt), .int (iI mfa), .int (iI mla), .int (iI mlp), .int (iI mdp), .ref (ma 12), .ref (ma 13), .int (iI msi), .int (iI (bI mdn)), .int (iI mpf), .int (iI mpt)])), (ma 0, .inl (kA 0, 400, .inl (aI cb))), (ma 1, .inl (kA 0, 4120, .inl (aI ca))), (ma 2, .inl (kA 0, 10, .inl (aI cle)))]) (va_A [(mo, .inr (10, [.int (iI mrf), .ref (ma 0), .int (iI mz), .ref (ma 1), .ref (ma 2), .int (iI mls), .int (iI mfp), .int (iI mfm), .ref (ma 3), .int (iI mtx), .ref (ma 4), .ref (ma 5), .int (iI mwd), .ref (ma 6), .ref (ma 7), .int (iI mak), .ref (ma 8), .ref (ma 9), .int (iI mli), .int (iI mlx), .ref (ma 10), .ref (ma 11), .int (iI mat), .int (iI mtk), .int (iI mtf), .int (iI mtt), .int (iI mfa), .int (iI mla), .int (iI mlp), .int (iI mdp), .ref (ma 12), .ref (ma 13), .int (iI msi), .int (iI (bI mdn)), .int (iI mpf), .int (iI mpt)])), (ma 0, .inl (kA 0, 400, .inl (aI cb))), (ma 1, .inl (kA 0, 4120, .inl (aI ca))), (ma 2, .inl (kA 0, 10, .inl (aI cle)))] sz)) 0 0 (va_A [(mo, .inr (10, [.int (iI mrf), .ref (ma 0), .int (iI mz), .ref (ma 1), .ref (ma 2), .int (iI mls), .int (iI mfp), .int (iI mfm), .ref (ma 3), .int (iI mtx), .ref (ma 4), .ref (ma 5), .int (iI mwd), .ref (ma 6), .ref (ma 7), .int (iI mak), .ref (ma 8), .ref (ma 9), .int (iI mli), .int (iI mlx), .ref (ma 10), .ref (ma 11), .int (iI mat), .int (iI mtk), .int (iI mtf), .int (iI mtt), .int (iI mfa), .int (iI mla), .int (iI mlp), .int (iI mdp), .ref (ma 12), .ref (ma 13), .int (iI msi), .int (iI (bI mdn)), .int (iI mpf), .int (iI mpt)])), (ma 0, .inl (kA 0, 400, .inl (aI cb))), (ma 1, .inl (kA 0, 4120, .inl (aI ca))), (ma 2, .inl (kA 0, 10, .inl (aI cle)))] sz) := by
  refine li_mwi (r := fun (u : (Int) × (Int)) => u.2) (by decide) (Nat.le_of_ble_eq_true rfl) (fun u _ => by rfl) ?_
  intro p e s m args below meth c Q A C hP hD hBx hK hN hG hA hAi hAN fin ls hl
  obtain ⟨hx, hb, hr, hml, hown, hts, hlocks, hin⟩ := C
  have hown : s.vm.findClass R_M = some m.cls := hown
  have hl : lv_has ls 6 [(0, .ref mo), (1, .int (iI b))] := hl
  have K_5 : ∀ (nn_5 : Nat) (r : Int) (fr : Int), (-1 ≤ r ∧ r ≤ 9) → (fr = -1 ∨ (0 ≤ fr ∧ fr ≤ 9 ∧ cle fr.toNat = 0)) → (coL cb ca cle mfp b (r + 1).toNat fr = coM cb ca cle mfp b) → (((r : Int) + 1).toNat < nn_5) → ∀ (H : Heap) (locs : List Loc), va_P (dC, dI) CL [(mo, .inr (10, [.int (iI mrf), .ref (ma 0), .int (iI mz), .ref (ma 1), .ref (ma 2), .int (iI mls), .int (iI mfp), .int (iI mfm), .ref (ma 3), .int (iI mtx), .ref (ma 4), .ref (ma 5), .int (iI mwd), .ref (ma 6), .ref (ma 7), .int (iI mak), .ref (ma 8), .ref (ma 9), .int (iI mli), .int (iI mlx), .ref (ma 10), .ref (ma 11), .int (iI mat), .int (iI mtk), .int (iI mtf), .int (iI mtt), .int (iI mfa), .int (iI mla), .int (iI mlp), .int (iI mdp), .ref (ma 12), .ref (ma 13), .int (iI msi), .int (iI (bI mdn)), .int (iI mpf), .int (iI mpt)])), (ma 0, .inl (kA 0, 400, .inl (aI cb))), (ma 1, .inl (kA 0, 4120, .inl (aI ca))), (ma 2, .inl (kA 0, 10, .inl (aI cle)))] H → va_D A [(mo, .inr (10, [.int (iI mrf), .ref (ma 0), .int (iI mz), .ref (ma 1), .ref (ma 2), .int (iI mls), .int (iI mfp), .int (iI mfm), .ref (ma 3), .int (iI mtx), .ref (ma 4), .ref (ma 5), .int (iI mwd), .ref (ma 6), .ref (ma 7), .int (iI mak), .ref (ma 8), .ref (ma 9), .int (iI mli), .int (iI mlx), .ref (ma 10), .ref (ma 11), .int (iI mat), .int (iI mtk), .int (iI mtf), .int (iI mtt), .int (iI mfa), .int (iI mla), .int (iI mlp), .int (iI mdp), .ref (ma 12), .ref (ma 13), .int (iI msi), .int (iI (bI mdn)), .int (iI mpf), .int (iI mpt)])), (ma 0, .inl (kA 0, 400, .inl (aI cb))), (ma 1, .inl (kA 0, 4120, .inl (aI ca))), (ma 2, .inl (kA 0, 10, .inl (aI cle)))] → va_S A s.heap H locs → ∀ ls : Array Slot, lv_has ls 6 [(0, .ref mo), (1, .int (iI b)), (2, .int (iI fr)), (3, .int (iI r))] → W p l e (rmd 2 0 0) s m args below meth c H locs 0 0 Q (F0 m 5 ls []) := by
    intro nn_5
    induction nn_5 with
    | zero => intro r fr hr9 hfr hres hm; exact absurd hm (Nat.not_lt_zero _)
    | succ nn_5 ih_5 =>
      intro r fr hr9 hfr hres hm_5 H locs hP hD hS ls hl
      refine lv_iload_n hx hb d_M_checkOthers_5 rfl (lv_at hl 3 rfl) ?_
      refine li_if_lt (tgt := 127) hx hb d_M_checkOthers_6 (by decide) (by omega) (fun c1 => ?_) (fun c1 => ?_)
      · have _q := c1
        rw [show (r + 1).toNat = 0 by omega] at hres
        simp only [coL] at hres
        refine lv_iload_n hx hb d_M_checkOthers_127 rfl (lv_at hl 2 rfl) ?_
        refine li_if_ge (tgt := 141) hx hb d_M_checkOthers_128 (by decide) (by omega) (fun c2 => ?_) (fun c2 => ?_)
        · have _q := c2
          refine lv_iconst (v := iI 0) hx hb d_M_checkOthers_141 rfl ?_
          exact fin (mfp, 0) _ _ _ _ _ (by rfl) (by show (0, mfp) = coM cb ca cle mfp b ∧ -9 ≤ 0 ∧ 0 ≤ 0 ∧ (0 = 0 → ∃ q : Int, 0 ≤ q ∧ q ≤ 9 ∧ cle q.toNat = 0); refine ⟨by (rw [← hres]; first | (rw [if_pos (by omega)]) | (rw [if_neg (by omega)])), by omega, by omega, fun h => ?_⟩; first | (exfalso; omega) | exact ⟨fr, by omega, by omega, by omega⟩) (by first | exact hP | (subst_vars; exact hP)) (by first | exact hD | (subst_vars; exact hD)) hS d_M_checkOthers_142
        · have _q := c2
          refine lv_aload_n hx hb d_M_checkOthers_131 rfl (lv_at hl 0 rfl) ?_
          refine lv_bipush (v := iI (-9)) hx hb d_M_checkOthers_132 (by decide) ?_
          refine lv_iconst (v := iI 0) hx hb d_M_checkOthers_134 rfl ?_
          refine li_callw (wc := [(mo, .inr (10, [.int (iI mrf), .ref (ma 0), .int (iI mz), .ref (ma 1), .ref (ma 2), .int (iI mls), .int (iI mfp), .int (iI mfm), .ref (ma 3), .int (iI mtx), .ref (ma 4), .ref (ma 5), .int (iI mwd), .ref (ma 6), .ref (ma 7), .int (iI mak), .ref (ma 8), .ref (ma 9), .int (iI mli), .int (iI mlx), .ref (ma 10), .ref (ma 11), .int (iI mat), .int (iI mtk), .int (iI mtf), .int (iI mtt), .int (iI mfa), .int (iI mla), .int (iI mlp), .int (iI mdp), .ref (ma 12), .ref (ma 13), .int (iI msi), .int (iI (bI mdn)), .int (iI mpf), .int (iI mpt)]))]) (wr := [(ma 0, .inl (kA 0, 400, .inl (aI cb))), (ma 1, .inl (kA 0, 4120, .inl (aI ca))), (ma 2, .inl (kA 0, 10, .inl (aI cle)))]) (va_runV (As := [.int (iI (-9)), .int (iI 0)]) (rest := []) ⟨hx, hb, hml, hown, hts⟩ (c_M_wrong l dC dI kA H.size mo ma mrf mz mls mfp mfm mtx mwd mak mli mlx mat mtk mtf mtt mfa mla mlp mdp msi mpf mpt mdn (-9) 0 ) (cw_M_86 hts rfl rfl ⟨Nat.le_of_ble_eq_true rfl, Nat.le_of_ble_eq_true rfl⟩) (li_preV (va_recv hK hP (ci := 10) (q0 := 0) rfl rfl) ⟨rfl, hP.sub [0] rfl, (hD.sub [0] (by decide) rfl).weaken (fun _ _ _ h => hAN _ h), trivial⟩ hK hN (hG.go hS hAN)) rfl rfl hl.1 rfl (lv_room (Nat.le_of_ble_eq_true rfl)) d_M_checkOthers_135 ⟨(by show 0 + 0 ≤ 0; omega), (by show 0 + 0 ≤ 0; omega)⟩) hP hD hS hA [0] [1, 2, 3] rfl rfl (by decide) (by decide) (fun u3 H locs hu3 hP hD hS _hk => ?_)
          have hP : va_P (dC, dI) CL [(ma 0, .inl (kA 0, 400, .inl (aI cb))), (ma 1, .inl (kA 0, 4120, .inl (aI ca))), (ma 2, .inl (kA 0, 10, .inl (aI cle))), (mo, .inr (10, [.int (iI mrf), .ref (ma 0), .int (iI mz), .ref (ma 1), .ref (ma 2), .int (iI mls), .int (iI 0), .int (iI mfm), .ref (ma 3), .int (iI mtx), .ref (ma 4), .ref (ma 5), .int (iI mwd), .ref (ma 6), .ref (ma 7), .int (iI mak), .ref (ma 8), .ref (ma 9), .int (iI mli), .int (iI mlx), .ref (ma 10), .ref (ma 11), .int (iI mat), .int (iI mtk), .int (iI mtf), .int (iI mtt), .int (iI mfa), .int (iI mla), .int (iI mlp), .int (iI mdp), .ref (ma 12), .ref (ma 13), .int (iI msi), .int (iI (bI mdn)), .int (iI mpf), .int (iI mpt)]))] H := hP
          have hD : va_D A [(ma 0, .inl (kA 0, 400, .inl (aI cb))), (ma 1, .inl (kA 0, 4120, .inl (aI ca))), (ma 2, .inl (kA 0, 10, .inl (aI cle))), (mo, .inr (10, [.int (iI mrf), .ref (ma 0), .int (iI mz), .ref (ma 1), .ref (ma 2), .int (iI mls), .int (iI 0), .int (iI mfm), .ref (ma 3), .int (iI mtx), .ref (ma 4), .ref (ma 5), .int (iI mwd), .ref (ma 6), .ref (ma 7), .int (iI mak), .ref (ma 8), .ref (ma 9), .int (iI mli), .int (iI mlx), .ref (ma 10), .ref (ma 11), .int (iI mat), .int (iI mtk), .int (iI mtf), .int (iI mtt), .int (iI mfa), .int (iI mla), .int (iI mlp), .int (iI mdp), .ref (ma 12), .ref (ma 13), .int (iI msi), .int (iI (bI mdn)), .int (iI mpf), .int (iI mpt)]))] := hD
          refine lv_goto (tgt := 142) hx hb d_M_checkOthers_138 (by decide) ?_
          exact fin (0, (-9)) _ _ _ _ _ (by rfl) (by show ((-9), 0) = coM cb ca cle mfp b ∧ -9 ≤ (-9) ∧ (-9) ≤ 0 ∧ ((-9) = 0 → ∃ q : Int, 0 ≤ q ∧ q ≤ 9 ∧ cle q.toNat = 0); refine ⟨by (rw [← hres]; first | (rw [if_pos (by omega)]) | (rw [if_neg (by omega)])), by omega, by omega, fun h => ?_⟩; first | (exfalso; omega) | exact ⟨fr, by omega, by omega, by omega⟩) (by first | exact hP.sub [3, 0, 1, 2] rfl | (subst_vars; exact hP.sub [3, 0, 1, 2] rfl)) (by first | exact hD.sub [3, 0, 1, 2] (by decide) rfl | (subst_vars; exact hD.sub [3, 0, 1, 2] (by decide) rfl)) hS d_M_checkOthers_142
      · have _q := c1
        rw [show (r + 1).toNat = r.toNat + 1 by omega] at hres
        simp only [coL] at hres
        rw [show ((r.toNat : Nat) : Int) = r by omega] at hres
        refine lv_aload_n hx hb d_M_checkOthers_9 rfl (lv_at hl 0 rfl) ?_
        refine gf_M_16 hx hb hts hown hK hP 0 rfl rfl d_M_checkOthers_10 ?_
        refine lv_iload_n hx hb d_M_checkOthers_13 rfl (lv_at hl 3 rfl) ?_
        refine li_iald hx hb hK hP 3 0 rfl rfl (by omega) (by omega) (by omega) d_M_checkOthers_14 ?_
        have f4 := hle r.toNat
        refine li_if_ne (tgt := 22) hx hb d_M_checkOthers_15 (by decide) (by omega) (fun c5 => ?_) (fun c5 => ?_)
        · have _q := c5
          refine lv_iload_n hx hb d_M_checkOthers_22 rfl (lv_at hl 2 rfl) ?_
          refine lv_istore_n (lv' := [(2, .int (iI fr)), (0, .ref mo), (1, .int (iI b)), (3, .int (iI r))]) hx hb d_M_checkOthers_23 rfl hl (by decide) rfl (fun ls hl => ?_)
          refine lv_aload_n hx hb d_M_checkOthers_24 rfl (lv_at hl 1 rfl) ?_
          refine gf_M_16 hx hb hts hown hK hP 0 rfl rfl d_M_checkOthers_25 ?_
          refine lv_iload_n hx hb d_M_checkOthers_28 rfl (lv_at hl 3 rfl) ?_
          refine li_iald hx hb hK hP 3 0 rfl rfl (by omega) (by omega) (by omega) d_M_checkOthers_29 ?_
          have f6 := hle r.toNat
          refine li_if_le (tgt := 121) hx hb d_M_checkOthers_30 (by decide) (by omega) (fun c7 => ?_) (fun c7 => ?_)
          · have _q := c7
            exact absurd c7 (by omega)
          · have _q := c7
            obtain ⟨base, fd, sf, hn4, ⟨hfd, hbase, hs0, hsn, hf⟩, hX, hnb, hfd1⟩ := hRec r (by omega) (by omega) (by omega)
            have hbs : numM ca 5 (400 * r + 12) 0 = base := by rw [← hnb]; exact numA_oct (by omega) (x := 12) (k := 5) (by omega) (by omega) (by omega)
            obtain ⟨ftag, fst, flen, fb, fid, fsub⟩ := hf 0 (by omega) (by omega)
            obtain ⟨x30, xno, xsub⟩ := hX 0 (by omega) (by omega)
            rw [show (0 : Int) + 1 = 1 from rfl] at *
            have h30r : ca (400 * r + (sf 1 - 1)).toNat = 30 := by rw [← octM_at (ca := ca) (by omega) (by omega)]; exact x30
            rw [if_pos (by omega)] at hres
            refine lv_sipush (v := iI 400) hx hb d_M_checkOthers_33 (by decide) ?_
            refine lv_iload_n hx hb d_M_checkOthers_36 rfl (lv_at hl 3 rfl) ?_
            refine li_imul hx hb d_M_checkOthers_37 ?_
            refine lv_aload_n hx hb d_M_checkOthers_38 rfl (lv_at hl 1 rfl) ?_
            refine lv_iload_n hx hb d_M_checkOthers_39 rfl (lv_at hl 3 rfl) ?_
            refine li_callr ((va_runV (As := [.int (iI r)]) (rest := [.int (iI (400 * r))]) ⟨hx, hb, hml, hown, hts⟩ (c_M_baseOf l dC dI kA mo ma mrf mz mls mfp mfm mtx mwd mak mli mlx mat mtk mtf mtt mfa mla mlp mdp msi mpf mpt mdn ca r (by omega)) (cw_M_100 hts rfl rfl ⟨Nat.le_of_ble_eq_true rfl, Nat.le_of_ble_eq_true rfl⟩) (li_preV (va_recv hK hP (ci := 10) (q0 := 0) rfl rfl) (hP.sub [0, 2] rfl) hK hN (hG.go hS hAN)) rfl rfl hl.1 rfl (lv_room (Nat.le_of_ble_eq_true rfl)) d_M_checkOthers_40 ⟨(by show 0 + 0 ≤ 0; omega), (by show 0 + 0 ≤ 0; omega)⟩).run) ?_
            refine li_iadd hx hb d_M_checkOthers_43 ?_
            refine li_nm (fun ot eot => ?_)
            refine lv_istore (lv' := [(4, .int (iI ot)), (2, .int (iI fr)), (0, .ref mo), (1, .int (iI b)), (3, .int (iI r))]) hx hb d_M_checkOthers_44 hl (by decide) rfl (fun ls hl => ?_)
            have eot2 : ot = 400 * r + sf 0 := by omega
            refine lv_iconst (v := iI 0) hx hb d_M_checkOthers_46 rfl ?_
            refine lv_istore (lv' := [(5, .int (iI 0)), (4, .int (iI ot)), (2, .int (iI fr)), (0, .ref mo), (1, .int (iI b)), (3, .int (iI r))]) hx hb d_M_checkOthers_47 hl (by decide) rfl (fun ls hl => ?_)
            have K_49 : ∀ (nn_49 : Nat) (k : Int) (h : Nat), (0 ≤ k ∧ b + k ≤ dd ∧ sf 0 + k ≤ sf 1 - 1) → ((dd - b - k).toNat < h) → (idL cb ca h (b + k) (ot + k) = idM cb ca b ot) → ((dd - b - k).toNat < nn_49) → ∀ (H : Heap) (locs : List Loc), va_P (dC, dI) CL [(mo, .inr (10, [.int (iI mrf), .ref (ma 0), .int (iI mz), .ref (ma 1), .ref (ma 2), .int (iI mls), .int (iI mfp), .int (iI mfm), .ref (ma 3), .int (iI mtx), .ref (ma 4), .ref (ma 5), .int (iI mwd), .ref (ma 6), .ref (ma 7), .int (iI mak), .ref (ma 8), .ref (ma 9), .int (iI mli), .int (iI mlx), .ref (ma 10), .ref (ma 11), .int (iI mat), .int (iI mtk), .int (iI mtf), .int (iI mtt), .int (iI mfa), .int (iI mla), .int (iI mlp), .int (iI mdp), .ref (ma 12), .ref (ma 13), .int (iI msi), .int (iI (bI mdn)), .int (iI mpf), .int (iI mpt)])), (ma 0, .inl (kA 0, 400, .inl (aI cb))), (ma 1, .inl (kA 0, 4120, .inl (aI ca))), (ma 2, .inl (kA 0, 10, .inl (aI cle)))] H → va_D A [(mo, .inr (10, [.int (iI mrf), .ref (ma 0), .int (iI mz), .ref (ma 1), .ref (ma 2), .int (iI mls), .int (iI mfp), .int (iI mfm), .ref (ma 3), .int (iI mtx), .ref (ma 4), .ref (ma 5), .int (iI mwd), .ref (ma 6), .ref (ma 7), .int (iI mak), .ref (ma 8), .ref (ma 9), .int (iI mli), .int (iI mlx), .ref (ma 10), .ref (ma 11), .int (iI mat), .int (iI mtk), .int (iI mtf), .int (iI mtt), .int (iI mfa), .int (iI mla), .int (iI mlp), .int (iI mdp), .ref (ma 12), .ref (ma 13), .int (iI msi), .int (iI (bI mdn)), .int (iI mpf), .int (iI mpt)])), (ma 0, .inl (kA 0, 400, .inl (aI cb))), (ma 1, .inl (kA 0, 4120, .inl (aI ca))), (ma 2, .inl (kA 0, 10, .inl (aI cle)))] → va_S A s.heap H locs → ∀ ls : Array Slot, lv_has ls 6 [(5, .int (iI k)), (4, .int (iI ot)), (2, .int (iI fr)), (0, .ref mo), (1, .int (iI b)), (3, .int (iI r))] → W p l e (rmd 2 0 0) s m args below meth c H locs 0 0 Q (F0 m 49 ls []) := by
              intro nn_49
              induction nn_49 with
              | zero => intro k h hk9 hhf hin hm; exact absurd hm (Nat.not_lt_zero _)
              | succ nn_49 ih_49 =>
                intro k h hk9 hhf hin hm_49 H locs hP hD hS ls hl
                obtain ⟨g, rfl⟩ : ∃ g, h = g + 1 := ⟨h - 1, by omega⟩
                simp only [idL] at hin
                refine lv_aload_n hx hb d_M_checkOthers_49 rfl (lv_at hl 3 rfl) ?_
                refine gf_M_7 hx hb hts hown hK hP 0 rfl rfl d_M_checkOthers_50 ?_
                refine lv_iload_n hx hb d_M_checkOthers_53 rfl (lv_at hl 4 rfl) ?_
                refine lv_iload hx hb d_M_checkOthers_54 (lv_at hl 0 rfl) ?_
                refine li_iadd hx hb d_M_checkOthers_56 ?_
                refine li_iald hx hb hK hP 1 0 rfl rfl (by omega) (by omega) (by omega) d_M_checkOthers_57 ?_
                have f8 := hcb ((b + k).toNat)
                refine lv_aload_n hx hb d_M_checkOthers_58 rfl (lv_at hl 3 rfl) ?_
                refine gf_M_13 hx hb hts hown hK hP 0 rfl rfl d_M_checkOthers_59 ?_
                refine lv_iload hx hb d_M_checkOthers_62 (lv_at hl 1 rfl) ?_
                refine lv_iload hx hb d_M_checkOthers_64 (lv_at hl 0 rfl) ?_
                refine li_iadd hx hb d_M_checkOthers_66 ?_
                refine li_iald hx hb hK hP 2 0 rfl rfl (by omega) (by omega) (by omega) d_M_checkOthers_67 ?_
                have f9 := hca ((ot + k).toNat)
                refine li_icmp_ne (tgt := 91) hx hb d_M_checkOthers_68 (by decide) (by omega) (by omega) (fun c10 => ?_) (fun c10 => ?_)
                · have _q := c10
                  rw [if_neg (by assumption)] at hin
                  refine lv_aload_n hx hb d_M_checkOthers_91 rfl (lv_at hl 3 rfl) ?_
                  refine gf_M_7 hx hb hts hown hK hP 0 rfl rfl d_M_checkOthers_92 ?_
                  refine lv_iload_n hx hb d_M_checkOthers_95 rfl (lv_at hl 4 rfl) ?_
                  refine lv_iload hx hb d_M_checkOthers_96 (lv_at hl 0 rfl) ?_
                  refine li_iadd hx hb d_M_checkOthers_98 ?_
                  refine li_iald hx hb hK hP 1 0 rfl rfl (by omega) (by omega) (by omega) d_M_checkOthers_99 ?_
                  have f11 := hcb ((b + k).toNat)
                  refine lv_aload_n hx hb d_M_checkOthers_100 rfl (lv_at hl 3 rfl) ?_
                  refine gf_M_13 hx hb hts hown hK hP 0 rfl rfl d_M_checkOthers_101 ?_
                  refine lv_iload hx hb d_M_checkOthers_104 (lv_at hl 1 rfl) ?_
                  refine lv_iload hx hb d_M_checkOthers_106 (lv_at hl 0 rfl) ?_
                  refine li_iadd hx hb d_M_checkOthers_108 ?_
                  refine li_iald hx hb hK hP 2 0 rfl rfl (by omega) (by omega) (by omega) d_M_checkOthers_109 ?_
                  have f12 := hca ((ot + k).toNat)
                  refine li_icmp_ne (tgt := 121) hx hb d_M_checkOthers_110 (by decide) (by omega) (by omega) (fun c13 => ?_) (fun c13 => ?_)
                  · have _q := c13
                    obtain ⟨r_n, er_n⟩ : ∃ y_9 : Int, y_9 = r + (-1) := ⟨_, rfl⟩
                    refine lv_iinc (v := iI r_n) (lv' := [(3, .int (iI r_n)), (5, .int (iI k)), (4, .int (iI ot)), (2, .int (iI fr)), (0, .ref mo), (1, .int (iI b))]) hx hb d_M_checkOthers_121 hl (k := 5) rfl (by rw [er_n]; exact iI_add _ _) (by decide) rfl (fun ls hl => ?_)
                    refine lv_goto (tgt := 5) hx hb d_M_checkOthers_124 (by decide) ?_
                    exact ih_5 r_n fr (by omega) (by omega) (by rw [er_n, show r + -1 + 1 = r by omega]; rw [← eot] at hres; rw [← hin] at hres; simpa using hres) (by omega) _ _ hP hD hS _ (lv_sub hl [4, 5, 3, 0] rfl)
                  · have _q := c13
                    exact absurd c13 (by omega)
                · have _q := c10
                  rw [if_pos (by assumption)] at hin
                  refine lv_aload_n hx hb d_M_checkOthers_71 rfl (lv_at hl 3 rfl) ?_
                  refine gf_M_7 hx hb hts hown hK hP 0 rfl rfl d_M_checkOthers_72 ?_
                  refine lv_iload_n hx hb d_M_checkOthers_75 rfl (lv_at hl 4 rfl) ?_
                  refine lv_iload hx hb d_M_checkOthers_76 (lv_at hl 0 rfl) ?_
                  refine li_iadd hx hb d_M_checkOthers_78 ?_
                  refine li_iald hx hb hK hP 1 0 rfl rfl (by omega) (by omega) (by omega) d_M_checkOthers_79 ?_
                  have f14 := hcb ((b + k).toNat)
                  refine lv_bipush (v := iI 30) hx hb d_M_checkOthers_80 (by decide) ?_
                  refine li_icmp_eq (tgt := 91) hx hb d_M_checkOthers_82 (by decide) (by omega) (by omega) (fun c15 => ?_) (fun c15 => ?_)
                  · have _q := c15
                    rw [if_pos (by assumption)] at hin
                    refine lv_aload_n hx hb d_M_checkOthers_91 rfl (lv_at hl 3 rfl) ?_
                    refine gf_M_7 hx hb hts hown hK hP 0 rfl rfl d_M_checkOthers_92 ?_
                    refine lv_iload_n hx hb d_M_checkOthers_95 rfl (lv_at hl 4 rfl) ?_
                    refine lv_iload hx hb d_M_checkOthers_96 (lv_at hl 0 rfl) ?_
                    refine li_iadd hx hb d_M_checkOthers_98 ?_
                    refine li_iald hx hb hK hP 1 0 rfl rfl (by omega) (by omega) (by omega) d_M_checkOthers_99 ?_
                    have f16 := hcb ((b + k).toNat)
                    refine lv_aload_n hx hb d_M_checkOthers_100 rfl (lv_at hl 3 rfl) ?_
                    refine gf_M_13 hx hb hts hown hK hP 0 rfl rfl d_M_checkOthers_101 ?_
                    refine lv_iload hx hb d_M_checkOthers_104 (lv_at hl 1 rfl) ?_
                    refine lv_iload hx hb d_M_checkOthers_106 (lv_at hl 0 rfl) ?_
                    refine li_iadd hx hb d_M_checkOthers_108 ?_
                    refine li_iald hx hb hK hP 2 0 rfl rfl (by omega) (by omega) (by omega) d_M_checkOthers_109 ?_
                    have f17 := hca ((ot + k).toNat)
                    refine li_icmp_ne (tgt := 121) hx hb d_M_checkOthers_110 (by decide) (by omega) (by omega) (fun c18 => ?_) (fun c18 => ?_)
                    · have _q := c18
                      exact absurd c18 (by omega)
                    · have _q := c18
                      refine lv_aload_n hx hb d_M_checkOthers_113 rfl (lv_at hl 3 rfl) ?_
                      refine lv_bipush (v := iI (-8)) hx hb d_M_checkOthers_114 (by decide) ?_
                      refine lv_iload_n hx hb d_M_checkOthers_116 rfl (lv_at hl 4 rfl) ?_
                      refine li_callw (wc := [(mo, .inr (10, [.int (iI mrf), .ref (ma 0), .int (iI mz), .ref (ma 1), .ref (ma 2), .int (iI mls), .int (iI mfp), .int (iI mfm), .ref (ma 3), .int (iI mtx), .ref (ma 4), .ref (ma 5), .int (iI mwd), .ref (ma 6), .ref (ma 7), .int (iI mak), .ref (ma 8), .ref (ma 9), .int (iI mli), .int (iI mlx), .ref (ma 10), .ref (ma 11), .int (iI mat), .int (iI mtk), .int (iI mtf), .int (iI mtt), .int (iI mfa), .int (iI mla), .int (iI mlp), .int (iI mdp), .ref (ma 12), .ref (ma 13), .int (iI msi), .int (iI (bI mdn)), .int (iI mpf), .int (iI mpt)]))]) (wr := [(ma 0, .inl (kA 0, 400, .inl (aI cb))), (ma 1, .inl (kA 0, 4120, .inl (aI ca))), (ma 2, .inl (kA 0, 10, .inl (aI cle)))]) (va_runV (As := [.int (iI (-8)), .int (iI b)]) (rest := []) ⟨hx, hb, hml, hown, hts⟩ (c_M_wrong l dC dI kA H.size mo ma mrf mz mls mfp mfm mtx mwd mak mli mlx mat mtk mtf mtt mfa mla mlp mdp msi mpf mpt mdn (-8) b ) (cw_M_86 hts rfl rfl ⟨Nat.le_of_ble_eq_true rfl, Nat.le_of_ble_eq_true rfl⟩) (li_preV (va_recv hK hP (ci := 10) (q0 := 0) rfl rfl) ⟨rfl, hP.sub [0] rfl, (hD.sub [0] (by decide) rfl).weaken (fun _ _ _ h => hAN _ h), trivial⟩ hK hN (hG.go hS hAN)) rfl rfl hl.1 rfl (lv_room (Nat.le_of_ble_eq_true rfl)) d_M_checkOthers_117 ⟨(by show 0 + 0 ≤ 0; omega), (by show 0 + 0 ≤ 0; omega)⟩) hP hD hS hA [0] [1, 2, 3] rfl rfl (by decide) (by decide) (fun u19 H locs hu19 hP hD hS _hk => ?_)
                      have hP : va_P (dC, dI) CL [(ma 0, .inl (kA 0, 400, .inl (aI cb))), (ma 1, .inl (kA 0, 4120, .inl (aI ca))), (ma 2, .inl (kA 0, 10, .inl (aI cle))), (mo, .inr (10, [.int (iI mrf), .ref (ma 0), .int (iI mz), .ref (ma 1), .ref (ma 2), .int (iI mls), .int (iI b), .int (iI mfm), .ref (ma 3), .int (iI mtx), .ref (ma 4), .ref (ma 5), .int (iI mwd), .ref (ma 6), .ref (ma 7), .int (iI mak), .ref (ma 8), .ref (ma 9), .int (iI mli), .int (iI mlx), .ref (ma 10), .ref (ma 11), .int (iI mat), .int (iI mtk), .int (iI mtf), .int (iI mtt), .int (iI mfa), .int (iI mla), .int (iI mlp), .int (iI mdp), .ref (ma 12), .ref (ma 13), .int (iI msi), .int (iI (bI mdn)), .int (iI mpf), .int (iI mpt)]))] H := hP
                      have hD : va_D A [(ma 0, .inl (kA 0, 400, .inl (aI cb))), (ma 1, .inl (kA 0, 4120, .inl (aI ca))), (ma 2, .inl (kA 0, 10, .inl (aI cle))), (mo, .inr (10, [.int (iI mrf), .ref (ma 0), .int (iI mz), .ref (ma 1), .ref (ma 2), .int (iI mls), .int (iI b), .int (iI mfm), .ref (ma 3), .int (iI mtx), .ref (ma 4), .ref (ma 5), .int (iI mwd), .ref (ma 6), .ref (ma 7), .int (iI mak), .ref (ma 8), .ref (ma 9), .int (iI mli), .int (iI mlx), .ref (ma 10), .ref (ma 11), .int (iI mat), .int (iI mtk), .int (iI mtf), .int (iI mtt), .int (iI mfa), .int (iI mla), .int (iI mlp), .int (iI mdp), .ref (ma 12), .ref (ma 13), .int (iI msi), .int (iI (bI mdn)), .int (iI mpf), .int (iI mpt)]))] := hD
                      exact fin (b, (-8)) _ _ _ _ _ (by rfl) (by show ((-8), b) = coM cb ca cle mfp b ∧ -9 ≤ (-8) ∧ (-8) ≤ 0 ∧ ((-8) = 0 → ∃ q : Int, 0 ≤ q ∧ q ≤ 9 ∧ cle q.toNat = 0); rw [← eot, ← hin] at hres; exact ⟨by simpa using hres, by omega, by omega, fun h => by omega⟩) (by first | exact hP.sub [3, 0, 1, 2] rfl | (subst_vars; exact hP.sub [3, 0, 1, 2] rfl)) (by first | exact hD.sub [3, 0, 1, 2] (by decide) rfl | (subst_vars; exact hD.sub [3, 0, 1, 2] (by decide) rfl)) hS d_M_checkOthers_120
                  · have _q := c15
                    rw [if_neg (by assumption)] at hin
                    have hk1 : ¬ b + k = dd := by (intro h8; have h9 := hb30; rw [← h8] at h9; contradiction)
                    have hk2 : ¬ sf 0 + k = sf 1 - 1 := by (intro h8; have h9 := h30r; rw [show 400 * r + (sf 1 - 1) = ot + k by omega] at h9; have h10 : cb (b + k).toNat = ca (ot + k).toNat := (by assumption); rw [h9] at h10; contradiction)
                    obtain ⟨k_n, ek_n⟩ : ∃ y_9 : Int, y_9 = k + 1 := ⟨_, rfl⟩
                    refine lv_iinc (v := iI k_n) (lv' := [(5, .int (iI k_n)), (4, .int (iI ot)), (2, .int (iI fr)), (0, .ref mo), (1, .int (iI b)), (3, .int (iI r))]) hx hb d_M_checkOthers_85 hl (k := 0) rfl (by rw [ek_n]; exact iI_add _ _) (by decide) rfl (fun ls hl => ?_)
                    refine lv_goto (tgt := 49) hx hb d_M_checkOthers_88 (by decide) ?_
                    exact ih_49 k_n g (by omega) (by omega) (by rw [ek_n, show b + (k + 1) = b + k + 1 by omega, show ot + (k + 1) = ot + k + 1 by omega]; exact hin) (by omega) _ _ hP hD hS _ (lv_sub hl [0, 1, 2, 3, 4, 5] rfl)
            exact K_49 ((dd - b - 0).toNat + 1) 0 500 (by omega) (by omega) (by rw [Int.add_zero, Int.add_zero]; rfl) (Nat.lt_succ_self _) _ _ hP hD hS _ (lv_sub hl [0, 1, 2, 3, 4, 5] rfl)
        · have _q := c5
          refine lv_iload_n hx hb d_M_checkOthers_18 rfl (lv_at hl 3 rfl) ?_
          refine lv_goto (tgt := 23) hx hb d_M_checkOthers_19 (by decide) ?_
          refine lv_istore_n (lv' := [(2, .int (iI r)), (0, .ref mo), (1, .int (iI b)), (3, .int (iI r))]) hx hb d_M_checkOthers_23 rfl hl (by decide) rfl (fun ls hl => ?_)
          refine lv_aload_n hx hb d_M_checkOthers_24 rfl (lv_at hl 1 rfl) ?_
          refine gf_M_16 hx hb hts hown hK hP 0 rfl rfl d_M_checkOthers_25 ?_
          refine lv_iload_n hx hb d_M_checkOthers_28 rfl (lv_at hl 3 rfl) ?_
          refine li_iald hx hb hK hP 3 0 rfl rfl (by omega) (by omega) (by omega) d_M_checkOthers_29 ?_
          have f20 := hle r.toNat
          refine li_if_le (tgt := 121) hx hb d_M_checkOthers_30 (by decide) (by omega) (fun c21 => ?_) (fun c21 => ?_)
          · have _q := c21
            rw [if_neg (by omega)] at hres
            obtain ⟨r_n, er_n⟩ : ∃ y_9 : Int, y_9 = r + (-1) := ⟨_, rfl⟩
            refine lv_iinc (v := iI r_n) (lv' := [(3, .int (iI r_n)), (2, .int (iI r)), (0, .ref mo), (1, .int (iI b))]) hx hb d_M_checkOthers_121 hl (k := 3) rfl (by rw [er_n]; exact iI_add _ _) (by decide) rfl (fun ls hl => ?_)
            refine lv_goto (tgt := 5) hx hb d_M_checkOthers_124 (by decide) ?_
            exact ih_5 r_n r (by omega) (by omega) (by rw [er_n, show r + -1 + 1 = r by omega]; exact hres) (by omega) _ _ hP hD hS _ (lv_sub hl [2, 3, 1, 0] rfl)
          · have _q := c21
            exact absurd c21 (by omega)
  suffices h9 : ∀ (H : Heap) (locs : List Loc), H = s.heap → locs = [] → W p l e (rmd 2 0 0) s m args below meth c H locs 0 0 Q (F0 m 0 ls []) from h9 _ _ rfl rfl
  intro H locs eH eL
  have hP : va_P (dC, dI) CL [(mo, .inr (10, [.int (iI mrf), .ref (ma 0), .int (iI mz), .ref (ma 1), .ref (ma 2), .int (iI mls), .int (iI mfp), .int (iI mfm), .ref (ma 3), .int (iI mtx), .ref (ma 4), .ref (ma 5), .int (iI mwd), .ref (ma 6), .ref (ma 7), .int (iI mak), .ref (ma 8), .ref (ma 9), .int (iI mli), .int (iI mlx), .ref (ma 10), .ref (ma 11), .int (iI mat), .int (iI mtk), .int (iI mtf), .int (iI mtt), .int (iI mfa), .int (iI mla), .int (iI mlp), .int (iI mdp), .ref (ma 12), .ref (ma 13), .int (iI msi), .int (iI (bI mdn)), .int (iI mpf), .int (iI mpt)])), (ma 0, .inl (kA 0, 400, .inl (aI cb))), (ma 1, .inl (kA 0, 4120, .inl (aI ca))), (ma 2, .inl (kA 0, 10, .inl (aI cle)))] H := by rw [eH]; exact hP
  have hS : va_S A s.heap H locs := by rw [eH, eL]; exact va_S.rf
  refine lv_iconst (v := iI (-1)) hx hb d_M_checkOthers_0 rfl ?_
  refine lv_istore_n (lv' := [(2, .int (iI (-1))), (0, .ref mo), (1, .int (iI b))]) hx hb d_M_checkOthers_1 rfl hl (by decide) rfl (fun ls hl => ?_)
  refine lv_bipush (v := iI 9) hx hb d_M_checkOthers_2 (by decide) ?_
  refine lv_istore_n (lv' := [(3, .int (iI 9)), (2, .int (iI (-1))), (0, .ref mo), (1, .int (iI b))]) hx hb d_M_checkOthers_4 rfl hl (by decide) rfl (fun ls hl => ?_)
  exact K_5 (((9 : Int) + 1).toNat + 1) 9 (-1) (by omega) (by omega) (by rfl) (Nat.lt_succ_self _) _ _ hP hD hS _ (lv_sub hl [2, 3, 1, 0] rfl)
theorem d_M_check_0 : decode b_M_check 0 = .ok (.iconst 0, 1) := by decide +kernel
theorem d_M_check_1 : decode b_M_check 1 = .ok (.istore_n 1, 1) := by decide +kernel
theorem d_M_check_2 : decode b_M_check 2 = .ok (.iload_n 1, 1) := by decide +kernel
theorem d_M_check_3 : decode b_M_check 3 = .ok (.bipush 24, 2) := by decide +kernel
theorem d_M_check_5 : decode b_M_check 5 = .ok (.if_icmp .ge 25, 3) := by decide +kernel
theorem d_M_check_8 : decode b_M_check 8 = .ok (.aload_n 0, 1) := by decide +kernel
theorem d_M_check_9 : decode b_M_check 9 = .ok (.iload_n 1, 1) := by decide +kernel
theorem d_M_check_10 : decode b_M_check 10 = .ok (.invokevirtual 83, 3) := by decide +kernel
theorem d_M_check_13 : decode b_M_check 13 = .ok (.ifCond .ne 11, 3) := by decide +kernel
theorem d_M_check_16 : decode b_M_check 16 = .ok (.aload_n 0, 1) := by decide +kernel
theorem d_M_check_17 : decode b_M_check 17 = .ok (.bipush (-5), 2) := by decide +kernel
theorem d_M_check_19 : decode b_M_check 19 = .ok (.iload_n 1, 1) := by decide +kernel
theorem d_M_check_20 : decode b_M_check 20 = .ok (.invokevirtual 86, 3) := by decide +kernel
theorem d_M_check_23 : decode b_M_check 23 = .ok (.ireturn, 1) := by decide +kernel
theorem d_M_check_24 : decode b_M_check 24 = .ok (.iinc 1 1, 3) := by decide +kernel
theorem d_M_check_27 : decode b_M_check 27 = .ok (.goto (-25), 3) := by decide +kernel
theorem d_M_check_30 : decode b_M_check 30 = .ok (.aload_n 0, 1) := by decide +kernel
theorem d_M_check_31 : decode b_M_check 31 = .ok (.iconst 0, 1) := by decide +kernel
theorem d_M_check_32 : decode b_M_check 32 = .ok (.iconst 5, 1) := by decide +kernel
theorem d_M_check_33 : decode b_M_check 33 = .ok (.invokevirtual 90, 3) := by decide +kernel
theorem d_M_check_36 : decode b_M_check 36 = .ok (.aload_n 0, 1) := by decide +kernel
theorem d_M_check_37 : decode b_M_check 37 = .ok (.getfield 66, 3) := by decide +kernel
theorem d_M_check_40 : decode b_M_check 40 = .ok (.if_icmp .eq 11, 3) := by decide +kernel
theorem d_M_check_43 : decode b_M_check 43 = .ok (.aload_n 0, 1) := by decide +kernel
theorem d_M_check_44 : decode b_M_check 44 = .ok (.bipush (-6), 2) := by decide +kernel
theorem d_M_check_46 : decode b_M_check 46 = .ok (.iconst 0, 1) := by decide +kernel
theorem d_M_check_47 : decode b_M_check 47 = .ok (.invokevirtual 86, 3) := by decide +kernel
theorem d_M_check_50 : decode b_M_check 50 = .ok (.ireturn, 1) := by decide +kernel
theorem d_M_check_51 : decode b_M_check 51 = .ok (.bipush 24, 2) := by decide +kernel
theorem d_M_check_53 : decode b_M_check 53 = .ok (.istore_n 1, 1) := by decide +kernel
theorem d_M_check_54 : decode b_M_check 54 = .ok (.iload_n 1, 1) := by decide +kernel
theorem d_M_check_55 : decode b_M_check 55 = .ok (.bipush 24, 2) := by decide +kernel
theorem d_M_check_57 : decode b_M_check 57 = .ok (.if_icmp .eq 23, 3) := by decide +kernel
theorem d_M_check_60 : decode b_M_check 60 = .ok (.iload_n 1, 1) := by decide +kernel
theorem d_M_check_61 : decode b_M_check 61 = .ok (.bipush 24, 2) := by decide +kernel
theorem d_M_check_63 : decode b_M_check 63 = .ok (.isub, 1) := by decide +kernel
theorem d_M_check_64 : decode b_M_check 64 = .ok (.bipush 12, 2) := by decide +kernel
theorem d_M_check_66 : decode b_M_check 66 = .ok (.irem, 1) := by decide +kernel
theorem d_M_check_67 : decode b_M_check 67 = .ok (.ifCond .ne 13, 3) := by decide +kernel
theorem d_M_check_70 : decode b_M_check 70 = .ok (.aload_n 0, 1) := by decide +kernel
theorem d_M_check_71 : decode b_M_check 71 = .ok (.iload_n 1, 1) := by decide +kernel
theorem d_M_check_72 : decode b_M_check 72 = .ok (.invokevirtual 73, 3) := by decide +kernel
theorem d_M_check_75 : decode b_M_check 75 = .ok (.bipush 30, 2) := by decide +kernel
theorem d_M_check_77 : decode b_M_check 77 = .ok (.if_icmp .eq 28, 3) := by decide +kernel
theorem d_M_check_80 : decode b_M_check 80 = .ok (.aload_n 0, 1) := by decide +kernel
theorem d_M_check_81 : decode b_M_check 81 = .ok (.iload_n 1, 1) := by decide +kernel
theorem d_M_check_82 : decode b_M_check 82 = .ok (.invokevirtual 73, 3) := by decide +kernel
theorem d_M_check_85 : decode b_M_check 85 = .ok (.invokestatic 77, 3) := by decide +kernel
theorem d_M_check_88 : decode b_M_check 88 = .ok (.ifCond .ne 11, 3) := by decide +kernel
theorem d_M_check_91 : decode b_M_check 91 = .ok (.aload_n 0, 1) := by decide +kernel
theorem d_M_check_92 : decode b_M_check 92 = .ok (.bipush (-5), 2) := by decide +kernel
theorem d_M_check_94 : decode b_M_check 94 = .ok (.iload_n 1, 1) := by decide +kernel
theorem d_M_check_95 : decode b_M_check 95 = .ok (.invokevirtual 86, 3) := by decide +kernel
theorem d_M_check_98 : decode b_M_check 98 = .ok (.ireturn, 1) := by decide +kernel
theorem d_M_check_99 : decode b_M_check 99 = .ok (.iinc 1 1, 3) := by decide +kernel
theorem d_M_check_102 : decode b_M_check 102 = .ok (.goto (-48), 3) := by decide +kernel
theorem d_M_check_105 : decode b_M_check 105 = .ok (.iload_n 1, 1) := by decide +kernel
theorem d_M_check_106 : decode b_M_check 106 = .ok (.iconst 1, 1) := by decide +kernel
theorem d_M_check_107 : decode b_M_check 107 = .ok (.iadd, 1) := by decide +kernel
theorem d_M_check_108 : decode b_M_check 108 = .ok (.istore_n 2, 1) := by decide +kernel
theorem d_M_check_109 : decode b_M_check 109 = .ok (.aload_n 0, 1) := by decide +kernel
theorem d_M_check_110 : decode b_M_check 110 = .ok (.bipush 12, 2) := by decide +kernel
theorem d_M_check_112 : decode b_M_check 112 = .ok (.iconst 5, 1) := by decide +kernel
theorem d_M_check_113 : decode b_M_check 113 = .ok (.invokevirtual 90, 3) := by decide +kernel
theorem d_M_check_116 : decode b_M_check 116 = .ok (.iload_n 2, 1) := by decide +kernel
theorem d_M_check_117 : decode b_M_check 117 = .ok (.if_icmp .eq 12, 3) := by decide +kernel
theorem d_M_check_120 : decode b_M_check 120 = .ok (.aload_n 0, 1) := by decide +kernel
theorem d_M_check_121 : decode b_M_check 121 = .ok (.bipush (-6), 2) := by decide +kernel
theorem d_M_check_123 : decode b_M_check 123 = .ok (.bipush 12, 2) := by decide +kernel
theorem d_M_check_125 : decode b_M_check 125 = .ok (.invokevirtual 86, 3) := by decide +kernel
theorem d_M_check_128 : decode b_M_check 128 = .ok (.ireturn, 1) := by decide +kernel
theorem d_M_check_129 : decode b_M_check 129 = .ok (.iconst 0, 1) := by decide +kernel
theorem d_M_check_130 : decode b_M_check 130 = .ok (.istore_n 3, 1) := by decide +kernel
theorem d_M_check_131 : decode b_M_check 131 = .ok (.bipush 24, 2) := by decide +kernel
theorem d_M_check_133 : decode b_M_check 133 = .ok (.istore 4, 2) := by decide +kernel
theorem d_M_check_135 : decode b_M_check 135 = .ok (.iload 4, 2) := by decide +kernel
theorem d_M_check_137 : decode b_M_check 137 = .ok (.iload_n 1, 1) := by decide +kernel
theorem d_M_check_138 : decode b_M_check 138 = .ok (.if_icmp .ge 154, 3) := by decide +kernel
theorem d_M_check_141 : decode b_M_check 141 = .ok (.aload_n 0, 1) := by decide +kernel
theorem d_M_check_142 : decode b_M_check 142 = .ok (.iload 4, 2) := by decide +kernel
theorem d_M_check_144 : decode b_M_check 144 = .ok (.iconst 3, 1) := by decide +kernel
theorem d_M_check_145 : decode b_M_check 145 = .ok (.invokevirtual 90, 3) := by decide +kernel
theorem d_M_check_148 : decode b_M_check 148 = .ok (.istore 5, 2) := by decide +kernel
theorem d_M_check_150 : decode b_M_check 150 = .ok (.iload 4, 2) := by decide +kernel
theorem d_M_check_152 : decode b_M_check 152 = .ok (.bipush 24, 2) := by decide +kernel
theorem d_M_check_154 : decode b_M_check 154 = .ok (.if_icmp .ne 7, 3) := by decide +kernel
theorem d_M_check_157 : decode b_M_check 157 = .ok (.iconst 1, 1) := by decide +kernel
theorem d_M_check_158 : decode b_M_check 158 = .ok (.goto 4, 3) := by decide +kernel
theorem d_M_check_161 : decode b_M_check 161 = .ok (.iconst 0, 1) := by decide +kernel
theorem d_M_check_162 : decode b_M_check 162 = .ok (.iload 5, 2) := by decide +kernel
theorem d_M_check_164 : decode b_M_check 164 = .ok (.iconst 1, 1) := by decide +kernel
theorem d_M_check_165 : decode b_M_check 165 = .ok (.if_icmp .ne 7, 3) := by decide +kernel
theorem d_M_check_168 : decode b_M_check 168 = .ok (.iconst 1, 1) := by decide +kernel
theorem d_M_check_169 : decode b_M_check 169 = .ok (.goto 4, 3) := by decide +kernel
theorem d_M_check_172 : decode b_M_check 172 = .ok (.iconst 0, 1) := by decide +kernel
theorem d_M_check_173 : decode b_M_check 173 = .ok (.if_icmp .eq 12, 3) := by decide +kernel
theorem d_M_check_176 : decode b_M_check 176 = .ok (.aload_n 0, 1) := by decide +kernel
theorem d_M_check_177 : decode b_M_check 177 = .ok (.bipush (-7), 2) := by decide +kernel
theorem d_M_check_179 : decode b_M_check 179 = .ok (.iload 4, 2) := by decide +kernel
theorem d_M_check_181 : decode b_M_check 181 = .ok (.invokevirtual 86, 3) := by decide +kernel
theorem d_M_check_184 : decode b_M_check 184 = .ok (.ireturn, 1) := by decide +kernel
theorem d_M_check_185 : decode b_M_check 185 = .ok (.aload_n 0, 1) := by decide +kernel
theorem d_M_check_186 : decode b_M_check 186 = .ok (.iload 4, 2) := by decide +kernel
theorem d_M_check_188 : decode b_M_check 188 = .ok (.bipush 7, 2) := by decide +kernel
theorem d_M_check_190 : decode b_M_check 190 = .ok (.iadd, 1) := by decide +kernel
theorem d_M_check_191 : decode b_M_check 191 = .ok (.iconst 5, 1) := by decide +kernel
theorem d_M_check_192 : decode b_M_check 192 = .ok (.invokevirtual 90, 3) := by decide +kernel
theorem d_M_check_195 : decode b_M_check 195 = .ok (.iload_n 3, 1) := by decide +kernel
theorem d_M_check_196 : decode b_M_check 196 = .ok (.if_icmp .eq 15, 3) := by decide +kernel
theorem d_M_check_199 : decode b_M_check 199 = .ok (.aload_n 0, 1) := by decide +kernel
theorem d_M_check_200 : decode b_M_check 200 = .ok (.bipush (-6), 2) := by decide +kernel
theorem d_M_check_202 : decode b_M_check 202 = .ok (.iload 4, 2) := by decide +kernel
theorem d_M_check_204 : decode b_M_check 204 = .ok (.bipush 7, 2) := by decide +kernel
theorem d_M_check_206 : decode b_M_check 206 = .ok (.iadd, 1) := by decide +kernel
theorem d_M_check_207 : decode b_M_check 207 = .ok (.invokevirtual 86, 3) := by decide +kernel
theorem d_M_check_210 : decode b_M_check 210 = .ok (.ireturn, 1) := by decide +kernel
theorem d_M_check_211 : decode b_M_check 211 = .ok (.aload_n 0, 1) := by decide +kernel
theorem d_M_check_212 : decode b_M_check 212 = .ok (.iload_n 2, 1) := by decide +kernel
theorem d_M_check_213 : decode b_M_check 213 = .ok (.iload_n 3, 1) := by decide +kernel
theorem d_M_check_214 : decode b_M_check 214 = .ok (.iadd, 1) := by decide +kernel
theorem d_M_check_215 : decode b_M_check 215 = .ok (.iload 5, 2) := by decide +kernel
theorem d_M_check_217 : decode b_M_check 217 = .ok (.bipush 10, 2) := by decide +kernel
theorem d_M_check_219 : decode b_M_check 219 = .ok (.if_icmp .ge 7, 3) := by decide +kernel
theorem d_M_check_222 : decode b_M_check 222 = .ok (.iconst 1, 1) := by decide +kernel
theorem d_M_check_223 : decode b_M_check 223 = .ok (.goto 4, 3) := by decide +kernel
theorem d_M_check_226 : decode b_M_check 226 = .ok (.iconst 0, 1) := by decide +kernel
theorem d_M_check_227 : decode b_M_check 227 = .ok (.invokevirtual 93, 3) := by decide +kernel
theorem d_M_check_230 : decode b_M_check 230 = .ok (.istore 6, 2) := by decide +kernel
theorem d_M_check_232 : decode b_M_check 232 = .ok (.iload 6, 2) := by decide +kernel
theorem d_M_check_234 : decode b_M_check 234 = .ok (.ifCond .ge 14, 3) := by decide +kernel
theorem d_M_check_237 : decode b_M_check 237 = .ok (.aload_n 0, 1) := by decide +kernel
theorem d_M_check_238 : decode b_M_check 238 = .ok (.bipush (-5), 2) := by decide +kernel
theorem d_M_check_240 : decode b_M_check 240 = .ok (.iconst (-1), 1) := by decide +kernel
theorem d_M_check_241 : decode b_M_check 241 = .ok (.iload 6, 2) := by decide +kernel
theorem d_M_check_243 : decode b_M_check 243 = .ok (.isub, 1) := by decide +kernel
theorem d_M_check_244 : decode b_M_check 244 = .ok (.invokevirtual 86, 3) := by decide +kernel
theorem d_M_check_247 : decode b_M_check 247 = .ok (.ireturn, 1) := by decide +kernel
theorem d_M_check_248 : decode b_M_check 248 = .ok (.aload_n 0, 1) := by decide +kernel
theorem d_M_check_249 : decode b_M_check 249 = .ok (.iload 4, 2) := by decide +kernel
theorem d_M_check_251 : decode b_M_check 251 = .ok (.iconst 3, 1) := by decide +kernel
theorem d_M_check_252 : decode b_M_check 252 = .ok (.iadd, 1) := by decide +kernel
theorem d_M_check_253 : decode b_M_check 253 = .ok (.iconst 4, 1) := by decide +kernel
theorem d_M_check_254 : decode b_M_check 254 = .ok (.invokevirtual 90, 3) := by decide +kernel
theorem d_M_check_257 : decode b_M_check 257 = .ok (.iload 6, 2) := by decide +kernel
theorem d_M_check_259 : decode b_M_check 259 = .ok (.iload_n 2, 1) := by decide +kernel
theorem d_M_check_260 : decode b_M_check 260 = .ok (.isub, 1) := by decide +kernel
theorem d_M_check_261 : decode b_M_check 261 = .ok (.iload_n 3, 1) := by decide +kernel
theorem d_M_check_262 : decode b_M_check 262 = .ok (.isub, 1) := by decide +kernel
theorem d_M_check_263 : decode b_M_check 263 = .ok (.if_icmp .eq 14, 3) := by decide +kernel
theorem d_M_check_266 : decode b_M_check 266 = .ok (.aload_n 0, 1) := by decide +kernel
theorem d_M_check_267 : decode b_M_check 267 = .ok (.bipush (-6), 2) := by decide +kernel
theorem d_M_check_269 : decode b_M_check 269 = .ok (.iload 4, 2) := by decide +kernel
theorem d_M_check_271 : decode b_M_check 271 = .ok (.iconst 3, 1) := by decide +kernel
theorem d_M_check_272 : decode b_M_check 272 = .ok (.iadd, 1) := by decide +kernel
theorem d_M_check_273 : decode b_M_check 273 = .ok (.invokevirtual 86, 3) := by decide +kernel
theorem d_M_check_276 : decode b_M_check 276 = .ok (.ireturn, 1) := by decide +kernel
theorem d_M_check_277 : decode b_M_check 277 = .ok (.iload 6, 2) := by decide +kernel
theorem d_M_check_279 : decode b_M_check 279 = .ok (.iload_n 2, 1) := by decide +kernel
theorem d_M_check_280 : decode b_M_check 280 = .ok (.isub, 1) := by decide +kernel
theorem d_M_check_281 : decode b_M_check 281 = .ok (.istore_n 3, 1) := by decide +kernel
theorem d_M_check_282 : decode b_M_check 282 = .ok (.iload 4, 2) := by decide +kernel
theorem d_M_check_284 : decode b_M_check 284 = .ok (.bipush 12, 2) := by decide +kernel
theorem d_M_check_286 : decode b_M_check 286 = .ok (.iadd, 1) := by decide +kernel
theorem d_M_check_287 : decode b_M_check 287 = .ok (.istore 4, 2) := by decide +kernel
theorem d_M_check_289 : decode b_M_check 289 = .ok (.goto (-154), 3) := by decide +kernel
theorem d_M_check_292 : decode b_M_check 292 = .ok (.aload_n 0, 1) := by decide +kernel
theorem d_M_check_293 : decode b_M_check 293 = .ok (.iload_n 2, 1) := by decide +kernel
theorem d_M_check_294 : decode b_M_check 294 = .ok (.iload_n 3, 1) := by decide +kernel
theorem d_M_check_295 : decode b_M_check 295 = .ok (.iadd, 1) := by decide +kernel
theorem d_M_check_296 : decode b_M_check 296 = .ok (.invokevirtual 73, 3) := by decide +kernel
theorem d_M_check_299 : decode b_M_check 299 = .ok (.bipush 29, 2) := by decide +kernel
theorem d_M_check_301 : decode b_M_check 301 = .ok (.if_icmp .eq 13, 3) := by decide +kernel
theorem d_M_check_304 : decode b_M_check 304 = .ok (.aload_n 0, 1) := by decide +kernel
theorem d_M_check_305 : decode b_M_check 305 = .ok (.bipush (-5), 2) := by decide +kernel
theorem d_M_check_307 : decode b_M_check 307 = .ok (.iload_n 2, 1) := by decide +kernel
theorem d_M_check_308 : decode b_M_check 308 = .ok (.iload_n 3, 1) := by decide +kernel
theorem d_M_check_309 : decode b_M_check 309 = .ok (.iadd, 1) := by decide +kernel
theorem d_M_check_310 : decode b_M_check 310 = .ok (.invokevirtual 86, 3) := by decide +kernel
theorem d_M_check_313 : decode b_M_check 313 = .ok (.ireturn, 1) := by decide +kernel
theorem d_M_check_314 : decode b_M_check 314 = .ok (.iload_n 2, 1) := by decide +kernel
theorem d_M_check_315 : decode b_M_check 315 = .ok (.iload_n 3, 1) := by decide +kernel
theorem d_M_check_316 : decode b_M_check 316 = .ok (.iadd, 1) := by decide +kernel
theorem d_M_check_317 : decode b_M_check 317 = .ok (.iconst 1, 1) := by decide +kernel
theorem d_M_check_318 : decode b_M_check 318 = .ok (.iadd, 1) := by decide +kernel
theorem d_M_check_319 : decode b_M_check 319 = .ok (.aload_n 0, 1) := by decide +kernel
theorem d_M_check_320 : decode b_M_check 320 = .ok (.getfield 66, 3) := by decide +kernel
theorem d_M_check_323 : decode b_M_check 323 = .ok (.if_icmp .ge 17, 3) := by decide +kernel
theorem d_M_check_326 : decode b_M_check 326 = .ok (.aload_n 0, 1) := by decide +kernel
theorem d_M_check_327 : decode b_M_check 327 = .ok (.bipush (-5), 2) := by decide +kernel
theorem d_M_check_329 : decode b_M_check 329 = .ok (.iload_n 2, 1) := by decide +kernel
theorem d_M_check_330 : decode b_M_check 330 = .ok (.iload_n 3, 1) := by decide +kernel
theorem d_M_check_331 : decode b_M_check 331 = .ok (.iadd, 1) := by decide +kernel
theorem d_M_check_332 : decode b_M_check 332 = .ok (.iconst 1, 1) := by decide +kernel
theorem d_M_check_333 : decode b_M_check 333 = .ok (.iadd, 1) := by decide +kernel
theorem d_M_check_334 : decode b_M_check 334 = .ok (.invokevirtual 86, 3) := by decide +kernel
theorem d_M_check_337 : decode b_M_check 337 = .ok (.goto 8, 3) := by decide +kernel
theorem d_M_check_340 : decode b_M_check 340 = .ok (.aload_n 0, 1) := by decide +kernel
theorem d_M_check_341 : decode b_M_check 341 = .ok (.iload_n 2, 1) := by decide +kernel
theorem d_M_check_342 : decode b_M_check 342 = .ok (.invokevirtual 97, 3) := by decide +kernel
theorem d_M_check_345 : decode b_M_check 345 = .ok (.ireturn, 1) := by decide +kernel
set_option maxHeartbeats 4000000 in
set_option maxRecDepth 100000 in
theorem c_M_check (l : Launch) (dC : Nat → ClassId) (dI : Nat → Nat → Nat) (kA : Nat → ClassId) (sz : Nat) (mo : Nat) (ma : Nat → Nat) (mrf : Int) (mz : Int) (mls : Int) (mfp : Int) (mfm : Int) (mtx : Int) (mwd : Int) (mak : Int) (mli : Int) (mlx : Int) (mat : Int) (mtk : Int) (mtf : Int) (mtt : Int) (mfa : Int) (mla : Int) (mlp : Int) (mdp : Int) (msi : Int) (mpf : Int) (mpt : Int) (mdn : Bool) (cb : Nat → Int) (ca : Nat → Int) (cle : Nat → Int) (hca : C2 ca) (hcb : C2 cb) (hz : 0 ≤ mz ∧ mz ≤ 400) (hle : ∀ j, 0 ≤ cle j ∧ cle j ≤ 400) (hRec : Recs ca cle) : Met l y_M_check (wsy y_M_check b_M_check 7 (some .int)) (rmd 3 0 0) (li_Pr (dC, dI) CL (TY kA) [.ref mo] (fun h => h.size = sz ∧ va_P (dC, dI) CL [(mo, .inr (10, [.int (iI mrf), .ref (ma 0), .int (iI mz), .ref (ma 1), .ref (ma 2), .int (iI mls), .int (iI mfp), .int (iI mfm), .ref (ma 3), .int (iI mtx), .ref (ma 4), .ref (ma 5), .int (iI mwd), .ref (ma 6), .ref (ma 7), .int (iI mak), .ref (ma 8), .ref (ma 9), .int (iI mli), .int (iI mlx), .ref (ma 10), .ref (ma 11), .int (iI mat), .int (iI mtk), .int (iI mtf), .int (iI mtt), .int (iI mfa), .int (iI mla), .int (iI mlp), .int (iI mdp), .ref (ma 12), .ref (ma 13), .int (iI msi), .int (iI (bI mdn)), .int (iI mpf), .int (iI mpt)])), (ma 0, .inl (kA 0, 400, .inl (aI cb))), (ma 1, .inl (kA 0, 4120, .inl (aI ca))), (ma 2, .inl (kA 0, 10, .inl (aI cle)))] h ∧ va_D (fun q => dI 100 0 ≤ q) [(mo, .inr (10, [.int (iI mrf), .ref (ma 0), .int (iI mz), .ref (ma 1), .ref (ma 2), .int (iI mls), .int (iI mfp), .int (iI mfm), .ref (ma 3), .int (iI mtx), .ref (ma 4), .ref (ma 5), .int (iI mwd), .ref (ma 6), .ref (ma 7), .int (iI mak), .ref (ma 8), .ref (ma 9), .int (iI mli), .int (iI mlx), .ref (ma 10), .ref (ma 11), .int (iI mat), .int (iI mtk), .int (iI mtf), .int (iI mtt), .int (iI mfa), .int (iI mla), .int (iI mlp), .int (iI mdp), .ref (ma 12), .ref (ma 13), .int (iI msi), .int (iI (bI mdn)), .int (iI mpf), .int (iI mpt)])), (ma 0, .inl (kA 0, 400, .inl (aI cb))), (ma 1, .inl (kA 0, 4120, .inl (aI ca))), (ma 2, .inl (kA 0, 10, .inl (aI cle)))] ∧ (fun _ => True) h)) (li_Qw (S := (Int) × (Int)) (dC, dI) CL (fun u => (u.2, u.1) = ckM cb ca cle mz mfp ∧ -9 ≤ u.2 ∧ u.2 ≤ 0 ∧ (u.2 = 0 → ∃ q : Int, 0 ≤ q ∧ q ≤ 9 ∧ cle q.toNat = 0)) (fun u => some (.int (iI (u.2)))) (fun u => [(mo, .inr (10, [.int (iI mrf), .ref (ma 0), .int (iI mz), .ref (ma 1), .ref (ma 2), .int (iI mls), .int (iI u.1), .int (iI mfm), .ref (ma 3), .int (iI mtx), .ref (ma 4), .ref (ma 5), .int (iI mwd), .ref (ma 6), .ref (ma 7), .int (iI mak), .ref (ma 8), .ref (ma 9), .int (iI mli), .int (iI mlx), .ref (ma 10), .ref (ma 11), .int (iI mat), .int (iI mtk), .int (iI mtf), .int (iI mtt), .int (iI mfa), .int (iI mla), .int (iI mlp), .int (iI mdp), .ref (ma 12), .ref (ma 13), .int (iI msi), .int (iI (bI mdn)), .int (iI mpf), .int (iI mpt)])), (ma 0, .inl (kA 0, 400, .inl (aI cb))), (ma 1, .inl (kA 0, 4120, .inl (aI ca))), (ma 2, .inl (kA 0, 10, .inl (aI cle)))]) (va_A [(mo, .inr (10, [.int (iI mrf), .ref (ma 0), .int (iI mz), .ref (ma 1), .ref (ma 2), .int (iI mls), .int (iI mfp), .int (iI mfm), .ref (ma 3), .int (iI mtx), .ref (ma 4), .ref (ma 5), .int (iI mwd), .ref (ma 6), .ref (ma 7), .int (iI mak), .ref (ma 8), .ref (ma 9), .int (iI mli), .int (iI mlx), .ref (ma 10), .ref (ma 11), .int (iI mat), .int (iI mtk), .int (iI mtf), .int (iI mtt), .int (iI mfa), .int (iI mla), .int (iI mlp), .int (iI mdp), .ref (ma 12), .ref (ma 13), .int (iI msi), .int (iI (bI mdn)), .int (iI mpf), .int (iI mpt)])), (ma 0, .inl (kA 0, 400, .inl (aI cb))), (ma 1, .inl (kA 0, 4120, .inl (aI ca))), (ma 2, .inl (kA 0, 10, .inl (aI cle)))] sz)) 0 0 (va_A [(mo, .inr (10, [.int (iI mrf), .ref (ma 0), .int (iI mz), .ref (ma 1), .ref (ma 2), .int (iI mls), .int (iI mfp), .int (iI mfm), .ref (ma 3), .int (iI mtx), .ref (ma 4), .ref (ma 5), .int (iI mwd), .ref (ma 6), .ref (ma 7), .int (iI mak), .ref (ma 8), .ref (ma 9), .int (iI mli), .int (iI mlx), .ref (ma 10), .ref (ma 11), .int (iI mat), .int (iI mtk), .int (iI mtf), .int (iI mtt), .int (iI mfa), .int (iI mla), .int (iI mlp), .int (iI mdp), .ref (ma 12), .ref (ma 13), .int (iI msi), .int (iI (bI mdn)), .int (iI mpf), .int (iI mpt)])), (ma 0, .inl (kA 0, 400, .inl (aI cb))), (ma 1, .inl (kA 0, 4120, .inl (aI ca))), (ma 2, .inl (kA 0, 10, .inl (aI cle)))] sz) := by
  refine li_mwi (r := fun (u : (Int) × (Int)) => u.2) (by decide) (Nat.le_of_ble_eq_true rfl) (fun u _ => by rfl) ?_
  intro p e s m args below meth c Q A C hP hD hBx hK hN hG hA hAi hAN fin ls hl
  obtain ⟨hx, hb, hr, hml, hown, hts, hlocks, hin⟩ := C
  have hown : s.vm.findClass R_M = some m.cls := hown
  have hl : lv_has ls 7 [(0, .ref mo)] := hl
  suffices h9 : ∀ (H : Heap) (locs : List Loc), H = s.heap → locs = [] → W p l e (rmd 3 0 0) s m args below meth c H locs 0 0 Q (F0 m 0 ls []) from h9 _ _ rfl rfl
  intro H locs eH eL
  have hP : va_P (dC, dI) CL [(mo, .inr (10, [.int (iI mrf), .ref (ma 0), .int (iI mz), .ref (ma 1), .ref (ma 2), .int (iI mls), .int (iI mfp), .int (iI mfm), .ref (ma 3), .int (iI mtx), .ref (ma 4), .ref (ma 5), .int (iI mwd), .ref (ma 6), .ref (ma 7), .int (iI mak), .ref (ma 8), .ref (ma 9), .int (iI mli), .int (iI mlx), .ref (ma 10), .ref (ma 11), .int (iI mat), .int (iI mtk), .int (iI mtf), .int (iI mtt), .int (iI mfa), .int (iI mla), .int (iI mlp), .int (iI mdp), .ref (ma 12), .ref (ma 13), .int (iI msi), .int (iI (bI mdn)), .int (iI mpf), .int (iI mpt)])), (ma 0, .inl (kA 0, 400, .inl (aI cb))), (ma 1, .inl (kA 0, 4120, .inl (aI ca))), (ma 2, .inl (kA 0, 10, .inl (aI cle)))] H := by rw [eH]; exact hP
  have hS : va_S A s.heap H locs := by rw [eH, eL]; exact va_S.rf
  refine lv_iconst (v := iI 0) hx hb d_M_check_0 rfl ?_
  refine lv_istore_n (lv' := [(1, .int (iI 0)), (0, .ref mo)]) hx hb d_M_check_1 rfl hl (by decide) rfl (fun ls hl => ?_)
  have K_2 : ∀ (nn_2 : Nat) (x : Int), (0 ≤ x ∧ x ≤ 24) → (leL cb mz (24 - x).toNat x = leM cb mz) → ((24 - (x : Int)).toNat < nn_2) → ∀ (H : Heap) (locs : List Loc), va_P (dC, dI) CL [(mo, .inr (10, [.int (iI mrf), .ref (ma 0), .int (iI mz), .ref (ma 1), .ref (ma 2), .int (iI mls), .int (iI mfp), .int (iI mfm), .ref (ma 3), .int (iI mtx), .ref (ma 4), .ref (ma 5), .int (iI mwd), .ref (ma 6), .ref (ma 7), .int (iI mak), .ref (ma 8), .ref (ma 9), .int (iI mli), .int (iI mlx), .ref (ma 10), .ref (ma 11), .int (iI mat), .int (iI mtk), .int (iI mtf), .int (iI mtt), .int (iI mfa), .int (iI mla), .int (iI mlp), .int (iI mdp), .ref (ma 12), .ref (ma 13), .int (iI msi), .int (iI (bI mdn)), .int (iI mpf), .int (iI mpt)])), (ma 0, .inl (kA 0, 400, .inl (aI cb))), (ma 1, .inl (kA 0, 4120, .inl (aI ca))), (ma 2, .inl (kA 0, 10, .inl (aI cle)))] H → va_D A [(mo, .inr (10, [.int (iI mrf), .ref (ma 0), .int (iI mz), .ref (ma 1), .ref (ma 2), .int (iI mls), .int (iI mfp), .int (iI mfm), .ref (ma 3), .int (iI mtx), .ref (ma 4), .ref (ma 5), .int (iI mwd), .ref (ma 6), .ref (ma 7), .int (iI mak), .ref (ma 8), .ref (ma 9), .int (iI mli), .int (iI mlx), .ref (ma 10), .ref (ma 11), .int (iI mat), .int (iI mtk), .int (iI mtf), .int (iI mtt), .int (iI mfa), .int (iI mla), .int (iI mlp), .int (iI mdp), .ref (ma 12), .ref (ma 13), .int (iI msi), .int (iI (bI mdn)), .int (iI mpf), .int (iI mpt)])), (ma 0, .inl (kA 0, 400, .inl (aI cb))), (ma 1, .inl (kA 0, 4120, .inl (aI ca))), (ma 2, .inl (kA 0, 10, .inl (aI cle)))] → va_S A s.heap H locs → ∀ ls : Array Slot, lv_has ls 7 [(1, .int (iI x)), (0, .ref mo)] → W p l e (rmd 3 0 0) s m args below meth c H locs 0 0 Q (F0 m 2 ls []) := by
    intro nn_2
    induction nn_2 with
    | zero => intro x hx9 hres hm; exact absurd hm (Nat.not_lt_zero _)
    | succ nn_2 ih_2 =>
      intro x hx9 hres hm_2 H locs hP hD hS ls hl
      refine lv_iload_n hx hb d_M_check_2 rfl (lv_at hl 0 rfl) ?_
      refine lv_bipush (v := iI 24) hx hb d_M_check_3 (by decide) ?_
      refine li_icmp_ge (tgt := 30) hx hb d_M_check_5 (by decide) (by omega) (by omega) (fun c1 => ?_) (fun c1 => ?_)
      · have _q := c1
        rw [show (24 - x).toNat = 0 by omega] at hres
        simp only [leL] at hres
        have hlz := leM_z (cb := cb) (mz := mz) hz.1
        refine lv_aload_n hx hb d_M_check_30 rfl (lv_at hl 1 rfl) ?_
        refine lv_iconst (v := iI 0) hx hb d_M_check_31 rfl ?_
        refine lv_iconst (v := iI 5) hx hb d_M_check_32 rfl ?_
        refine li_callr ((va_runV (As := [.int (iI 0), .int (iI 5)]) (rest := []) ⟨hx, hb, hml, hown, hts⟩ (c_M_number l dC dI kA mo ma mrf mz mls mfp mfm mtx mwd mak mli mlx mat mtk mtf mtt mfa mla mlp mdp msi mpf mpt mdn cb 0 5 (by omega)) (cw_M_90 hts rfl rfl ⟨Nat.le_of_ble_eq_true rfl, Nat.le_of_ble_eq_true rfl⟩) (li_preV (va_recv hK hP (ci := 10) (q0 := 0) rfl rfl) (hP.sub [0, 1] rfl) hK hN (hG.go hS hAN)) rfl rfl hl.1 rfl (lv_room (Nat.le_of_ble_eq_true rfl)) d_M_check_33 ⟨(by show 0 + 0 ≤ 0; omega), (by show 0 + 0 ≤ 0; omega)⟩).run) ?_
        refine W.eq (g2 := F0 m 36 ls [.int (iI (numM cb 5 0 0))]) rfl ?_
        refine lv_aload_n hx hb d_M_check_36 rfl (lv_at hl 1 rfl) ?_
        refine gf_M_66 hx hb hts hown hK hP 0 rfl rfl d_M_check_37 ?_
        refine li_icmp_eq (tgt := 51) hx hb d_M_check_40 (by decide) (by first | omega | (have h8 := numM_5 hcb (x := 0); omega)) (by first | omega | (have h8 := numM_5 hcb (x := 0); omega)) (fun c2 => ?_) (fun c2 => ?_)
        · have _q := c2
          have h5z : numM cb 5 0 0 = mz := by assumption
          have hck0 : ckM cb ca cle mz mfp = ck2 cb ca cle mz mfp (diM cb mz) := by unfold ckM; rw [if_neg (by omega), if_neg (by omega)]
          refine lv_bipush (v := iI 24) hx hb d_M_check_51 (by decide) ?_
          refine lv_istore_n (lv' := [(1, .int (iI 24)), (0, .ref mo)]) hx hb d_M_check_53 rfl hl (by decide) rfl (fun ls hl => ?_)
          have K_54 : ∀ (nn_54 : Nat) (k : Int) (h : Nat), (24 ≤ k ∧ k ≤ mz) → ((mz - k).toNat < h) → (diL cb mz h k = diM cb mz) → ((mz - k).toNat < nn_54) → ∀ (H : Heap) (locs : List Loc), va_P (dC, dI) CL [(mo, .inr (10, [.int (iI mrf), .ref (ma 0), .int (iI mz), .ref (ma 1), .ref (ma 2), .int (iI mls), .int (iI mfp), .int (iI mfm), .ref (ma 3), .int (iI mtx), .ref (ma 4), .ref (ma 5), .int (iI mwd), .ref (ma 6), .ref (ma 7), .int (iI mak), .ref (ma 8), .ref (ma 9), .int (iI mli), .int (iI mlx), .ref (ma 10), .ref (ma 11), .int (iI mat), .int (iI mtk), .int (iI mtf), .int (iI mtt), .int (iI mfa), .int (iI mla), .int (iI mlp), .int (iI mdp), .ref (ma 12), .ref (ma 13), .int (iI msi), .int (iI (bI mdn)), .int (iI mpf), .int (iI mpt)])), (ma 0, .inl (kA 0, 400, .inl (aI cb))), (ma 1, .inl (kA 0, 4120, .inl (aI ca))), (ma 2, .inl (kA 0, 10, .inl (aI cle)))] H → va_D A [(mo, .inr (10, [.int (iI mrf), .ref (ma 0), .int (iI mz), .ref (ma 1), .ref (ma 2), .int (iI mls), .int (iI mfp), .int (iI mfm), .ref (ma 3), .int (iI mtx), .ref (ma 4), .ref (ma 5), .int (iI mwd), .ref (ma 6), .ref (ma 7), .int (iI mak), .ref (ma 8), .ref (ma 9), .int (iI mli), .int (iI mlx), .ref (ma 10), .ref (ma 11), .int (iI mat), .int (iI mtk), .int (iI mtf), .int (iI mtt), .int (iI mfa), .int (iI mla), .int (iI mlp), .int (iI mdp), .ref (ma 12), .ref (ma 13), .int (iI msi), .int (iI (bI mdn)), .int (iI mpf), .int (iI mpt)])), (ma 0, .inl (kA 0, 400, .inl (aI cb))), (ma 1, .inl (kA 0, 4120, .inl (aI ca))), (ma 2, .inl (kA 0, 10, .inl (aI cle)))] → va_S A s.heap H locs → ∀ ls : Array Slot, lv_has ls 7 [(1, .int (iI k)), (0, .ref mo)] → W p l e (rmd 3 0 0) s m args below meth c H locs 0 0 Q (F0 m 54 ls []) := by
            intro nn_54
            induction nn_54 with
            | zero => intro k h hk9 hhf hdi hm; exact absurd hm (Nat.not_lt_zero _)
            | succ nn_54 ih_54 =>
              intro k h hk9 hhf hdi hm_54 H locs hP hD hS ls hl
              obtain ⟨g, rfl⟩ : ∃ g, h = g + 1 := ⟨h - 1, by omega⟩
              simp only [diL] at hdi
              have hby := byM_r (mz := mz) (x := k) hcb
              refine lv_iload_n hx hb d_M_check_54 rfl (lv_at hl 0 rfl) ?_
              refine lv_bipush (v := iI 24) hx hb d_M_check_55 (by decide) ?_
              refine li_icmp_eq (tgt := 80) hx hb d_M_check_57 (by decide) (by omega) (by omega) (fun c3 => ?_) (fun c3 => ?_)
              · have _q := c3
                rw [if_neg (by omega)] at hdi
                refine lv_aload_n hx hb d_M_check_80 rfl (lv_at hl 1 rfl) ?_
                refine lv_iload_n hx hb d_M_check_81 rfl (lv_at hl 0 rfl) ?_
                refine li_callr ((va_runV (As := [.int (iI k)]) (rest := []) ⟨hx, hb, hml, hown, hts⟩ (c_M_byteAt l dC dI kA mo ma mrf mz mls mfp mfm mtx mwd mak mli mlx mat mtk mtf mtt mfa mla mlp mdp msi mpf mpt mdn cb k (by exact hcb) (by exact hz) (by omega)) (cw_M_73 hts rfl rfl ⟨Nat.le_of_ble_eq_true rfl, Nat.le_of_ble_eq_true rfl⟩) (li_preV (va_recv hK hP (ci := 10) (q0 := 0) rfl rfl) (hP.sub [0, 1] rfl) hK hN (hG.go hS hAN)) rfl rfl hl.1 rfl (lv_room (Nat.le_of_ble_eq_true rfl)) d_M_check_82 ⟨(by show 0 + 0 ≤ 0; omega), (by show 0 + 0 ≤ 0; omega)⟩).run) ?_
                refine li_callr ((va_runS (As := [.int (iI (byM cb mz k))]) (rest := []) ⟨hx, hb, hml, hown, hts⟩ (c_M_isDigit l dC dI kA (byM cb mz k) (by omega)) (cw_M_77 hts rfl rfl ⟨Nat.le_of_ble_eq_true rfl, Nat.le_of_ble_eq_true rfl⟩) (li_preS va_Pnil hK hN (hG.go hS hAN)) rfl rfl hl.1 rfl (lv_room (Nat.le_of_ble_eq_true rfl)) d_M_check_85 ⟨(by show 0 + 0 ≤ 0; omega), (by show 0 + 0 ≤ 0; omega)⟩).run) ?_
                refine li_bnz (tgt := 99) hx hb d_M_check_88 (by decide) (fun c4 => ?_) (fun c4 => ?_)
                · have _q := c4
                  rw [if_pos (by assumption)] at hdi
                  have hkz := dig_lt (cb := cb) (mz := mz) (k := k) (by assumption)
                  obtain ⟨k_n, ek_n⟩ : ∃ y_9 : Int, y_9 = k + 1 := ⟨_, rfl⟩
                  refine lv_iinc (v := iI k_n) (lv' := [(1, .int (iI k_n)), (0, .ref mo)]) hx hb d_M_check_99 hl (k := 0) rfl (by rw [ek_n]; exact iI_add _ _) (by decide) rfl (fun ls hl => ?_)
                  refine lv_goto (tgt := 54) hx hb d_M_check_102 (by decide) ?_
                  exact ih_54 k_n g (by omega) (by omega) (by rw [ek_n]; exact hdi) (by omega) _ _ hP hD hS _ (lv_sub hl [0, 1] rfl)
                · have _q := c4
                  rw [if_neg (nbt (by assumption))] at hdi
                  refine lv_aload_n hx hb d_M_check_91 rfl (lv_at hl 1 rfl) ?_
                  refine lv_bipush (v := iI (-5)) hx hb d_M_check_92 (by decide) ?_
                  refine lv_iload_n hx hb d_M_check_94 rfl (lv_at hl 0 rfl) ?_
                  refine li_callw (wc := [(mo, .inr (10, [.int (iI mrf), .ref (ma 0), .int (iI mz), .ref (ma 1), .ref (ma 2), .int (iI mls), .int (iI mfp), .int (iI mfm), .ref (ma 3), .int (iI mtx), .ref (ma 4), .ref (ma 5), .int (iI mwd), .ref (ma 6), .ref (ma 7), .int (iI mak), .ref (ma 8), .ref (ma 9), .int (iI mli), .int (iI mlx), .ref (ma 10), .ref (ma 11), .int (iI mat), .int (iI mtk), .int (iI mtf), .int (iI mtt), .int (iI mfa), .int (iI mla), .int (iI mlp), .int (iI mdp), .ref (ma 12), .ref (ma 13), .int (iI msi), .int (iI (bI mdn)), .int (iI mpf), .int (iI mpt)]))]) (wr := [(ma 0, .inl (kA 0, 400, .inl (aI cb))), (ma 1, .inl (kA 0, 4120, .inl (aI ca))), (ma 2, .inl (kA 0, 10, .inl (aI cle)))]) (va_runV (As := [.int (iI (-5)), .int (iI k)]) (rest := []) ⟨hx, hb, hml, hown, hts⟩ (c_M_wrong l dC dI kA H.size mo ma mrf mz mls mfp mfm mtx mwd mak mli mlx mat mtk mtf mtt mfa mla mlp mdp msi mpf mpt mdn (-5) k ) (cw_M_86 hts rfl rfl ⟨Nat.le_of_ble_eq_true rfl, Nat.le_of_ble_eq_true rfl⟩) (li_preV (va_recv hK hP (ci := 10) (q0 := 0) rfl rfl) ⟨rfl, hP.sub [0] rfl, (hD.sub [0] (by decide) rfl).weaken (fun _ _ _ h => hAN _ h), trivial⟩ hK hN (hG.go hS hAN)) rfl rfl hl.1 rfl (lv_room (Nat.le_of_ble_eq_true rfl)) d_M_check_95 ⟨(by show 0 + 0 ≤ 0; omega), (by show 0 + 0 ≤ 0; omega)⟩) hP hD hS hA [0] [1, 2, 3] rfl rfl (by decide) (by decide) (fun u5 H locs hu5 hP hD hS _hk => ?_)
                  have hP : va_P (dC, dI) CL [(ma 0, .inl (kA 0, 400, .inl (aI cb))), (ma 1, .inl (kA 0, 4120, .inl (aI ca))), (ma 2, .inl (kA 0, 10, .inl (aI cle))), (mo, .inr (10, [.int (iI mrf), .ref (ma 0), .int (iI mz), .ref (ma 1), .ref (ma 2), .int (iI mls), .int (iI k), .int (iI mfm), .ref (ma 3), .int (iI mtx), .ref (ma 4), .ref (ma 5), .int (iI mwd), .ref (ma 6), .ref (ma 7), .int (iI mak), .ref (ma 8), .ref (ma 9), .int (iI mli), .int (iI mlx), .ref (ma 10), .ref (ma 11), .int (iI mat), .int (iI mtk), .int (iI mtf), .int (iI mtt), .int (iI mfa), .int (iI mla), .int (iI mlp), .int (iI mdp), .ref (ma 12), .ref (ma 13), .int (iI msi), .int (iI (bI mdn)), .int (iI mpf), .int (iI mpt)]))] H := hP
                  have hD : va_D A [(ma 0, .inl (kA 0, 400, .inl (aI cb))), (ma 1, .inl (kA 0, 4120, .inl (aI ca))), (ma 2, .inl (kA 0, 10, .inl (aI cle))), (mo, .inr (10, [.int (iI mrf), .ref (ma 0), .int (iI mz), .ref (ma 1), .ref (ma 2), .int (iI mls), .int (iI k), .int (iI mfm), .ref (ma 3), .int (iI mtx), .ref (ma 4), .ref (ma 5), .int (iI mwd), .ref (ma 6), .ref (ma 7), .int (iI mak), .ref (ma 8), .ref (ma 9), .int (iI mli), .int (iI mlx), .ref (ma 10), .ref (ma 11), .int (iI mat), .int (iI mtk), .int (iI mtf), .int (iI mtt), .int (iI mfa), .int (iI mla), .int (iI mlp), .int (iI mdp), .ref (ma 12), .ref (ma 13), .int (iI msi), .int (iI (bI mdn)), .int (iI mpf), .int (iI mpt)]))] := hD
                  exact fin (k, (-5)) _ _ _ _ _ (by rfl) (by show ((-5), k) = ckM cb ca cle mz mfp ∧ -9 ≤ (-5) ∧ (-5) ≤ 0 ∧ ((-5) = 0 → ∃ q : Int, 0 ≤ q ∧ q ≤ 9 ∧ cle q.toNat = 0); refine ⟨by (rw [hck0, ← hdi]; unfold ck2; dsimp only; rw [if_pos rfl]), by omega, by omega, fun h => by omega⟩) (by first | exact hP.sub [3, 0, 1, 2] rfl | (subst_vars; exact hP.sub [3, 0, 1, 2] rfl)) (by first | exact hD.sub [3, 0, 1, 2] (by decide) rfl | (subst_vars; exact hD.sub [3, 0, 1, 2] (by decide) rfl)) hS d_M_check_98
              · have _q := c3
                refine lv_iload_n hx hb d_M_check_60 rfl (lv_at hl 0 rfl) ?_
                refine lv_bipush (v := iI 24) hx hb d_M_check_61 (by decide) ?_
                refine li_isub hx hb d_M_check_63 ?_
                refine lv_bipush (v := iI 12) hx hb d_M_check_64 (by decide) ?_
                refine li_irem hx hb d_M_check_66 (by omega) (by omega) (by omega) (by omega) ?_
                refine li_if_ne (tgt := 80) hx hb d_M_check_67 (by decide) (by omega) (fun c6 => ?_) (fun c6 => ?_)
                · have _q := c6
                  rw [if_neg (by omega)] at hdi
                  refine lv_aload_n hx hb d_M_check_80 rfl (lv_at hl 1 rfl) ?_
                  refine lv_iload_n hx hb d_M_check_81 rfl (lv_at hl 0 rfl) ?_
                  refine li_callr ((va_runV (As := [.int (iI k)]) (rest := []) ⟨hx, hb, hml, hown, hts⟩ (c_M_byteAt l dC dI kA mo ma mrf mz mls mfp mfm mtx mwd mak mli mlx mat mtk mtf mtt mfa mla mlp mdp msi mpf mpt mdn cb k (by exact hcb) (by exact hz) (by omega)) (cw_M_73 hts rfl rfl ⟨Nat.le_of_ble_eq_true rfl, Nat.le_of_ble_eq_true rfl⟩) (li_preV (va_recv hK hP (ci := 10) (q0 := 0) rfl rfl) (hP.sub [0, 1] rfl) hK hN (hG.go hS hAN)) rfl rfl hl.1 rfl (lv_room (Nat.le_of_ble_eq_true rfl)) d_M_check_82 ⟨(by show 0 + 0 ≤ 0; omega), (by show 0 + 0 ≤ 0; omega)⟩).run) ?_
                  refine li_callr ((va_runS (As := [.int (iI (byM cb mz k))]) (rest := []) ⟨hx, hb, hml, hown, hts⟩ (c_M_isDigit l dC dI kA (byM cb mz k) (by omega)) (cw_M_77 hts rfl rfl ⟨Nat.le_of_ble_eq_true rfl, Nat.le_of_ble_eq_true rfl⟩) (li_preS va_Pnil hK hN (hG.go hS hAN)) rfl rfl hl.1 rfl (lv_room (Nat.le_of_ble_eq_true rfl)) d_M_check_85 ⟨(by show 0 + 0 ≤ 0; omega), (by show 0 + 0 ≤ 0; omega)⟩).run) ?_
                  refine li_bnz (tgt := 99) hx hb d_M_check_88 (by decide) (fun c7 => ?_) (fun c7 => ?_)
                  · have _q := c7
                    rw [if_pos (by assumption)] at hdi
                    have hkz := dig_lt (cb := cb) (mz := mz) (k := k) (by assumption)
                    obtain ⟨k_n, ek_n⟩ : ∃ y_9 : Int, y_9 = k + 1 := ⟨_, rfl⟩
                    refine lv_iinc (v := iI k_n) (lv' := [(1, .int (iI k_n)), (0, .ref mo)]) hx hb d_M_check_99 hl (k := 0) rfl (by rw [ek_n]; exact iI_add _ _) (by decide) rfl (fun ls hl => ?_)
                    refine lv_goto (tgt := 54) hx hb d_M_check_102 (by decide) ?_
                    exact ih_54 k_n g (by omega) (by omega) (by rw [ek_n]; exact hdi) (by omega) _ _ hP hD hS _ (lv_sub hl [0, 1] rfl)
                  · have _q := c7
                    rw [if_neg (nbt (by assumption))] at hdi
                    refine lv_aload_n hx hb d_M_check_91 rfl (lv_at hl 1 rfl) ?_
                    refine lv_bipush (v := iI (-5)) hx hb d_M_check_92 (by decide) ?_
                    refine lv_iload_n hx hb d_M_check_94 rfl (lv_at hl 0 rfl) ?_
                    refine li_callw (wc := [(mo, .inr (10, [.int (iI mrf), .ref (ma 0), .int (iI mz), .ref (ma 1), .ref (ma 2), .int (iI mls), .int (iI mfp), .int (iI mfm), .ref (ma 3), .int (iI mtx), .ref (ma 4), .ref (ma 5), .int (iI mwd), .ref (ma 6), .ref (ma 7), .int (iI mak), .ref (ma 8), .ref (ma 9), .int (iI mli), .int (iI mlx), .ref (ma 10), .ref (ma 11), .int (iI mat), .int (iI mtk), .int (iI mtf), .int (iI mtt), .int (iI mfa), .int (iI mla), .int (iI mlp), .int (iI mdp), .ref (ma 12), .ref (ma 13), .int (iI msi), .int (iI (bI mdn)), .int (iI mpf), .int (iI mpt)]))]) (wr := [(ma 0, .inl (kA 0, 400, .inl (aI cb))), (ma 1, .inl (kA 0, 4120, .inl (aI ca))), (ma 2, .inl (kA 0, 10, .inl (aI cle)))]) (va_runV (As := [.int (iI (-5)), .int (iI k)]) (rest := []) ⟨hx, hb, hml, hown, hts⟩ (c_M_wrong l dC dI kA H.size mo ma mrf mz mls mfp mfm mtx mwd mak mli mlx mat mtk mtf mtt mfa mla mlp mdp msi mpf mpt mdn (-5) k ) (cw_M_86 hts rfl rfl ⟨Nat.le_of_ble_eq_true rfl, Nat.le_of_ble_eq_true rfl⟩) (li_preV (va_recv hK hP (ci := 10) (q0 := 0) rfl rfl) ⟨rfl, hP.sub [0] rfl, (hD.sub [0] (by decide) rfl).weaken (fun _ _ _ h => hAN _ h), trivial⟩ hK hN (hG.go hS hAN)) rfl rfl hl.1 rfl (lv_room (Nat.le_of_ble_eq_true rfl)) d_M_check_95 ⟨(by show 0 + 0 ≤ 0; omega), (by show 0 + 0 ≤ 0; omega)⟩) hP hD hS hA [0] [1, 2, 3] rfl rfl (by decide) (by decide) (fun u8 H locs hu8 hP hD hS _hk => ?_)
                    have hP : va_P (dC, dI) CL [(ma 0, .inl (kA 0, 400, .inl (aI cb))), (ma 1, .inl (kA 0, 4120, .inl (aI ca))), (ma 2, .inl (kA 0, 10, .inl (aI cle))), (mo, .inr (10, [.int (iI mrf), .ref (ma 0), .int (iI mz), .ref (ma 1), .ref (ma 2), .int (iI mls), .int (iI k), .int (iI mfm), .ref (ma 3), .int (iI mtx), .ref (ma 4), .ref (ma 5), .int (iI mwd), .ref (ma 6), .ref (ma 7), .int (iI mak), .ref (ma 8), .ref (ma 9), .int (iI mli), .int (iI mlx), .ref (ma 10), .ref (ma 11), .int (iI mat), .int (iI mtk), .int (iI mtf), .int (iI mtt), .int (iI mfa), .int (iI mla), .int (iI mlp), .int (iI mdp), .ref (ma 12), .ref (ma 13), .int (iI msi), .int (iI (bI mdn)), .int (iI mpf), .int (iI mpt)]))] H := hP
                    have hD : va_D A [(ma 0, .inl (kA 0, 400, .inl (aI cb))), (ma 1, .inl (kA 0, 4120, .inl (aI ca))), (ma 2, .inl (kA 0, 10, .inl (aI cle))), (mo, .inr (10, [.int (iI mrf), .ref (ma 0), .int (iI mz), .ref (ma 1), .ref (ma 2), .int (iI mls), .int (iI k), .int (iI mfm), .ref (ma 3), .int (iI mtx), .ref (ma 4), .ref (ma 5), .int (iI mwd), .ref (ma 6), .ref (ma 7), .int (iI mak), .ref (ma 8), .ref (ma 9), .int (iI mli), .int (iI mlx), .ref (ma 10), .ref (ma 11), .int (iI mat), .int (iI mtk), .int (iI mtf), .int (iI mtt), .int (iI mfa), .int (iI mla), .int (iI mlp), .int (iI mdp), .ref (ma 12), .ref (ma 13), .int (iI msi), .int (iI (bI mdn)), .int (iI mpf), .int (iI mpt)]))] := hD
                    exact fin (k, (-5)) _ _ _ _ _ (by rfl) (by show ((-5), k) = ckM cb ca cle mz mfp ∧ -9 ≤ (-5) ∧ (-5) ≤ 0 ∧ ((-5) = 0 → ∃ q : Int, 0 ≤ q ∧ q ≤ 9 ∧ cle q.toNat = 0); refine ⟨by (rw [hck0, ← hdi]; unfold ck2; dsimp only; rw [if_pos rfl]), by omega, by omega, fun h => by omega⟩) (by first | exact hP.sub [3, 0, 1, 2] rfl | (subst_vars; exact hP.sub [3, 0, 1, 2] rfl)) (by first | exact hD.sub [3, 0, 1, 2] (by decide) rfl | (subst_vars; exact hD.sub [3, 0, 1, 2] (by decide) rfl)) hS d_M_check_98
                · have _q := c6
                  refine lv_aload_n hx hb d_M_check_70 rfl (lv_at hl 1 rfl) ?_
                  refine lv_iload_n hx hb d_M_check_71 rfl (lv_at hl 0 rfl) ?_
                  refine li_callr ((va_runV (As := [.int (iI k)]) (rest := []) ⟨hx, hb, hml, hown, hts⟩ (c_M_byteAt l dC dI kA mo ma mrf mz mls mfp mfm mtx mwd mak mli mlx mat mtk mtf mtt mfa mla mlp mdp msi mpf mpt mdn cb k (by exact hcb) (by exact hz) (by omega)) (cw_M_73 hts rfl rfl ⟨Nat.le_of_ble_eq_true rfl, Nat.le_of_ble_eq_true rfl⟩) (li_preV (va_recv hK hP (ci := 10) (q0 := 0) rfl rfl) (hP.sub [0, 1] rfl) hK hN (hG.go hS hAN)) rfl rfl hl.1 rfl (lv_room (Nat.le_of_ble_eq_true rfl)) d_M_check_72 ⟨(by show 0 + 0 ≤ 0; omega), (by show 0 + 0 ≤ 0; omega)⟩).run) ?_
                  refine lv_bipush (v := iI 30) hx hb d_M_check_75 (by decide) ?_
                  refine li_icmp_eq (tgt := 105) hx hb d_M_check_77 (by decide) (by omega) (by omega) (fun c9 => ?_) (fun c9 => ?_)
                  · have _q := c9
                    rw [if_pos (by omega)] at hdi
                    have hkz := byM_lt (cb := cb) (mz := mz) (k := k) (v := 30) (by assumption) (by omega)
                    refine lv_iload_n hx hb d_M_check_105 rfl (lv_at hl 0 rfl) ?_
                    refine lv_iconst (v := iI 1) hx hb d_M_check_106 rfl ?_
                    refine li_iadd hx hb d_M_check_107 ?_
                    refine li_nm (fun bs ebs => ?_)
                    refine lv_istore_n (lv' := [(2, .int (iI bs)), (1, .int (iI k)), (0, .ref mo)]) hx hb d_M_check_108 rfl hl (by decide) rfl (fun ls hl => ?_)
                    refine lv_aload_n hx hb d_M_check_109 rfl (lv_at hl 2 rfl) ?_
                    refine lv_bipush (v := iI 12) hx hb d_M_check_110 (by decide) ?_
                    refine lv_iconst (v := iI 5) hx hb d_M_check_112 rfl ?_
                    refine li_callr ((va_runV (As := [.int (iI 12), .int (iI 5)]) (rest := []) ⟨hx, hb, hml, hown, hts⟩ (c_M_number l dC dI kA mo ma mrf mz mls mfp mfm mtx mwd mak mli mlx mat mtk mtf mtt mfa mla mlp mdp msi mpf mpt mdn cb 12 5 (by omega)) (cw_M_90 hts rfl rfl ⟨Nat.le_of_ble_eq_true rfl, Nat.le_of_ble_eq_true rfl⟩) (li_preV (va_recv hK hP (ci := 10) (q0 := 0) rfl rfl) (hP.sub [0, 1] rfl) hK hN (hG.go hS hAN)) rfl rfl hl.1 rfl (lv_room (Nat.le_of_ble_eq_true rfl)) d_M_check_113 ⟨(by show 0 + 0 ≤ 0; omega), (by show 0 + 0 ≤ 0; omega)⟩).run) ?_
                    refine W.eq (g2 := F0 m 116 ls [.int (iI (numM cb 5 12 0))]) rfl ?_
                    refine lv_iload_n hx hb d_M_check_116 rfl (lv_at hl 0 rfl) ?_
                    refine li_icmp_eq (tgt := 129) hx hb d_M_check_117 (by decide) (by first | omega | (have h8 := numM_5 hcb (x := 12); omega)) (by first | omega | (have h8 := numM_5 hcb (x := 12); omega)) (fun c10 => ?_) (fun c10 => ?_)
                    · have _q := c10
                      have h12 : numM cb 5 12 0 = bs := by assumption
                      have hck : ckM cb ca cle mz mfp = ck4 cb ca cle mz mfp bs (cfL cb mz bs ((k - 24) / 12).toNat 24 0) := by rw [hck0, ← hdi]; unfold ck2; simp only; rw [if_neg (by decide), if_neg (by omega)]; unfold ck3; rw [← ebs]
                      refine lv_iconst (v := iI 0) hx hb d_M_check_129 rfl ?_
                      refine lv_istore_n (lv' := [(3, .int (iI 0)), (2, .int (iI bs)), (1, .int (iI k)), (0, .ref mo)]) hx hb d_M_check_130 rfl hl (by decide) rfl (fun ls hl => ?_)
                      refine lv_bipush (v := iI 24) hx hb d_M_check_131 (by decide) ?_
                      refine lv_istore (lv' := [(4, .int (iI 24)), (3, .int (iI 0)), (2, .int (iI bs)), (1, .int (iI k)), (0, .ref mo)]) hx hb d_M_check_133 hl (by decide) rfl (fun ls hl => ?_)
                      have K_135 : ∀ (nn_135 : Nat) (e1 : Int) (d : Int), (24 ≤ e1 ∧ e1 ≤ k ∧ (e1 - 24) % 12 = 0) → (0 ≤ d ∧ bs + d ≤ mz) → (24 < e1 → ∃ dd : Int, bs ≤ dd ∧ dd < mz ∧ cb dd.toNat = 30) → (cfL cb mz bs ((k - e1) / 12).toNat e1 d = cfL cb mz bs ((k - 24) / 12).toNat 24 0) → ((k - e1).toNat < nn_135) → ∀ (H : Heap) (locs : List Loc), va_P (dC, dI) CL [(mo, .inr (10, [.int (iI mrf), .ref (ma 0), .int (iI mz), .ref (ma 1), .ref (ma 2), .int (iI mls), .int (iI mfp), .int (iI mfm), .ref (ma 3), .int (iI mtx), .ref (ma 4), .ref (ma 5), .int (iI mwd), .ref (ma 6), .ref (ma 7), .int (iI mak), .ref (ma 8), .ref (ma 9), .int (iI mli), .int (iI mlx), .ref (ma 10), .ref (ma 11), .int (iI mat), .int (iI mtk), .int (iI mtf), .int (iI mtt), .int (iI mfa), .int (iI mla), .int (iI mlp), .int (iI mdp), .ref (ma 12), .ref (ma 13), .int (iI msi), .int (iI (bI mdn)), .int (iI mpf), .int (iI mpt)])), (ma 0, .inl (kA 0, 400, .inl (aI cb))), (ma 1, .inl (kA 0, 4120, .inl (aI ca))), (ma 2, .inl (kA 0, 10, .inl (aI cle)))] H → va_D A [(mo, .inr (10, [.int (iI mrf), .ref (ma 0), .int (iI mz), .ref (ma 1), .ref (ma 2), .int (iI mls), .int (iI mfp), .int (iI mfm), .ref (ma 3), .int (iI mtx), .ref (ma 4), .ref (ma 5), .int (iI mwd), .ref (ma 6), .ref (ma 7), .int (iI mak), .ref (ma 8), .ref (ma 9), .int (iI mli), .int (iI mlx), .ref (ma 10), .ref (ma 11), .int (iI mat), .int (iI mtk), .int (iI mtf), .int (iI mtt), .int (iI mfa), .int (iI mla), .int (iI mlp), .int (iI mdp), .ref (ma 12), .ref (ma 13), .int (iI msi), .int (iI (bI mdn)), .int (iI mpf), .int (iI mpt)])), (ma 0, .inl (kA 0, 400, .inl (aI cb))), (ma 1, .inl (kA 0, 4120, .inl (aI ca))), (ma 2, .inl (kA 0, 10, .inl (aI cle)))] → va_S A s.heap H locs → ∀ ls : Array Slot, lv_has ls 7 [(4, .int (iI e1)), (3, .int (iI d)), (2, .int (iI bs)), (1, .int (iI k)), (0, .ref mo)] → W p l e (rmd 3 0 0) s m args below meth c H locs 0 0 Q (F0 m 135 ls []) := by
                        intro nn_135
                        induction nn_135 with
                        | zero => intro e1 d he9 hd9 hdd hcf hm; exact absurd hm (Nat.not_lt_zero _)
                        | succ nn_135 ih_135 =>
                          intro e1 d he9 hd9 hdd hcf hm_135 H locs hP hD hS ls hl
                          refine lv_iload hx hb d_M_check_135 (lv_at hl 0 rfl) ?_
                          refine lv_iload_n hx hb d_M_check_137 rfl (lv_at hl 3 rfl) ?_
                          refine li_icmp_ge (tgt := 292) hx hb d_M_check_138 (by decide) (by omega) (by omega) (fun c11 => ?_) (fun c11 => ?_)
                          · have _q := c11
                            have eek : e1 = k := by omega
                            obtain ⟨dd, hd1, hd2, hd3⟩ := hdd (by omega)
                            have hck2 : ckM cb ca cle mz mfp = ck4 cb ca cle mz mfp bs (0, d) := by rw [hck, ← hcf, show ((k - e1) / 12).toNat = 0 by omega]; rfl
                            refine lv_aload_n hx hb d_M_check_292 rfl (lv_at hl 4 rfl) ?_
                            refine lv_iload_n hx hb d_M_check_293 rfl (lv_at hl 2 rfl) ?_
                            refine lv_iload_n hx hb d_M_check_294 rfl (lv_at hl 1 rfl) ?_
                            refine li_iadd hx hb d_M_check_295 ?_
                            refine li_callr ((va_runV (As := [.int (iI (bs + d))]) (rest := []) ⟨hx, hb, hml, hown, hts⟩ (c_M_byteAt l dC dI kA mo ma mrf mz mls mfp mfm mtx mwd mak mli mlx mat mtk mtf mtt mfa mla mlp mdp msi mpf mpt mdn cb (bs + d) (by exact hcb) (by exact hz) (by omega)) (cw_M_73 hts rfl rfl ⟨Nat.le_of_ble_eq_true rfl, Nat.le_of_ble_eq_true rfl⟩) (li_preV (va_recv hK hP (ci := 10) (q0 := 0) rfl rfl) (hP.sub [0, 1] rfl) hK hN (hG.go hS hAN)) rfl rfl hl.1 rfl (lv_room (Nat.le_of_ble_eq_true rfl)) d_M_check_296 ⟨(by show 0 + 0 ≤ 0; omega), (by show 0 + 0 ≤ 0; omega)⟩).run) ?_
                            refine lv_bipush (v := iI 29) hx hb d_M_check_299 (by decide) ?_
                            refine li_icmp_eq (tgt := 314) hx hb d_M_check_301 (by decide) (by first | omega | (have h8 := byM_r (mz := mz) (x := bs + d) hcb; omega)) (by first | omega | (have h8 := byM_r (mz := mz) (x := bs + d) hcb; omega)) (fun c12 => ?_) (fun c12 => ?_)
                            · have _q := c12
                              refine lv_iload_n hx hb d_M_check_314 rfl (lv_at hl 2 rfl) ?_
                              refine lv_iload_n hx hb d_M_check_315 rfl (lv_at hl 1 rfl) ?_
                              refine li_iadd hx hb d_M_check_316 ?_
                              refine lv_iconst (v := iI 1) hx hb d_M_check_317 rfl ?_
                              refine li_iadd hx hb d_M_check_318 ?_
                              refine lv_aload_n hx hb d_M_check_319 rfl (lv_at hl 4 rfl) ?_
                              refine gf_M_66 hx hb hts hown hK hP 0 rfl rfl d_M_check_320 ?_
                              refine li_icmp_ge (tgt := 340) hx hb d_M_check_323 (by decide) (by omega) (by omega) (fun c13 => ?_) (fun c13 => ?_)
                              · have _q := c13
                                refine lv_aload_n hx hb d_M_check_340 rfl (lv_at hl 4 rfl) ?_
                                refine lv_iload_n hx hb d_M_check_341 rfl (lv_at hl 2 rfl) ?_
                                refine li_callw (wc := [(mo, .inr (10, [.int (iI mrf), .ref (ma 0), .int (iI mz), .ref (ma 1), .ref (ma 2), .int (iI mls), .int (iI mfp), .int (iI mfm), .ref (ma 3), .int (iI mtx), .ref (ma 4), .ref (ma 5), .int (iI mwd), .ref (ma 6), .ref (ma 7), .int (iI mak), .ref (ma 8), .ref (ma 9), .int (iI mli), .int (iI mlx), .ref (ma 10), .ref (ma 11), .int (iI mat), .int (iI mtk), .int (iI mtf), .int (iI mtt), .int (iI mfa), .int (iI mla), .int (iI mlp), .int (iI mdp), .ref (ma 12), .ref (ma 13), .int (iI msi), .int (iI (bI mdn)), .int (iI mpf), .int (iI mpt)])), (ma 0, .inl (kA 0, 400, .inl (aI cb))), (ma 1, .inl (kA 0, 4120, .inl (aI ca))), (ma 2, .inl (kA 0, 10, .inl (aI cle)))]) (wr := []) (va_runV (As := [.int (iI bs)]) (rest := []) ⟨hx, hb, hml, hown, hts⟩ (c_M_checkOthers l dC dI kA H.size mo ma mrf mz mls mfp mfm mtx mwd mak mli mlx mat mtk mtf mtt mfa mla mlp mdp msi mpf mpt mdn cb ca cle bs dd (by exact hca) (by exact hcb) (by exact hle) (by exact hRec) (by omega) (by exact hd3)) (cw_M_97 hts rfl rfl ⟨Nat.le_of_ble_eq_true rfl, Nat.le_of_ble_eq_true rfl⟩) (li_preV (va_recv hK hP (ci := 10) (q0 := 0) rfl rfl) ⟨rfl, hP.sub [0, 1, 2, 3] rfl, (hD.sub [0, 1, 2, 3] (by decide) rfl).weaken (fun _ _ _ h => hAN _ h), trivial⟩ hK hN (hG.go hS hAN)) rfl rfl hl.1 rfl (lv_room (Nat.le_of_ble_eq_true rfl)) d_M_check_342 ⟨(by show 0 + 0 ≤ 0; omega), (by show 0 + 0 ≤ 0; omega)⟩) hP hD hS hA [0, 1, 2, 3] [] rfl rfl (by decide) (by decide) (fun u14 H locs hu14 hP hD hS _hk => ?_)
                                obtain ⟨n915, v916⟩ := u14
                                have hP : va_P (dC, dI) CL [(mo, .inr (10, [.int (iI mrf), .ref (ma 0), .int (iI mz), .ref (ma 1), .ref (ma 2), .int (iI mls), .int (iI n915), .int (iI mfm), .ref (ma 3), .int (iI mtx), .ref (ma 4), .ref (ma 5), .int (iI mwd), .ref (ma 6), .ref (ma 7), .int (iI mak), .ref (ma 8), .ref (ma 9), .int (iI mli), .int (iI mlx), .ref (ma 10), .ref (ma 11), .int (iI mat), .int (iI mtk), .int (iI mtf), .int (iI mtt), .int (iI mfa), .int (iI mla), .int (iI mlp), .int (iI mdp), .ref (ma 12), .ref (ma 13), .int (iI msi), .int (iI (bI mdn)), .int (iI mpf), .int (iI mpt)])), (ma 0, .inl (kA 0, 400, .inl (aI cb))), (ma 1, .inl (kA 0, 4120, .inl (aI ca))), (ma 2, .inl (kA 0, 10, .inl (aI cle)))] H := hP
                                have hD : va_D A [(mo, .inr (10, [.int (iI mrf), .ref (ma 0), .int (iI mz), .ref (ma 1), .ref (ma 2), .int (iI mls), .int (iI n915), .int (iI mfm), .ref (ma 3), .int (iI mtx), .ref (ma 4), .ref (ma 5), .int (iI mwd), .ref (ma 6), .ref (ma 7), .int (iI mak), .ref (ma 8), .ref (ma 9), .int (iI mli), .int (iI mlx), .ref (ma 10), .ref (ma 11), .int (iI mat), .int (iI mtk), .int (iI mtf), .int (iI mtt), .int (iI mfa), .int (iI mla), .int (iI mlp), .int (iI mdp), .ref (ma 12), .ref (ma 13), .int (iI msi), .int (iI (bI mdn)), .int (iI mpf), .int (iI mpt)])), (ma 0, .inl (kA 0, 400, .inl (aI cb))), (ma 1, .inl (kA 0, 4120, .inl (aI ca))), (ma 2, .inl (kA 0, 10, .inl (aI cle)))] := hD
                                have hp342 : (v916, n915) = coM cb ca cle mfp bs ∧ -9 ≤ v916 ∧ v916 ≤ 0 ∧ (v916 = 0 → ∃ q : Int, 0 ≤ q ∧ q ≤ 9 ∧ cle q.toNat = 0) := hu14
                                refine W.eq (g2 := F0 m 345 ls [.int (iI v916)]) rfl ?_
                                exact fin (n915, v916) _ _ _ _ _ (by rfl) (by show (v916, n915) = ckM cb ca cle mz mfp ∧ -9 ≤ v916 ∧ v916 ≤ 0 ∧ (v916 = 0 → ∃ q : Int, 0 ≤ q ∧ q ≤ 9 ∧ cle q.toNat = 0); first | (refine ⟨by (rw [hck2]; unfold ck4; dsimp only; rw [if_neg (by omega), if_neg (by omega), if_pos (by omega)]), by omega, by omega, fun h => by omega⟩) | (refine ⟨by (rw [hck2]; unfold ck4; dsimp only; rw [if_neg (by omega), if_neg (by omega), if_neg (by omega)]; exact hp342.1), hp342.2⟩)) (by first | exact hP | (subst_vars; exact hP)) (by first | exact hD | (subst_vars; exact hD)) hS d_M_check_345
                              · have _q := c13
                                refine lv_aload_n hx hb d_M_check_326 rfl (lv_at hl 4 rfl) ?_
                                refine lv_bipush (v := iI (-5)) hx hb d_M_check_327 (by decide) ?_
                                refine lv_iload_n hx hb d_M_check_329 rfl (lv_at hl 2 rfl) ?_
                                refine lv_iload_n hx hb d_M_check_330 rfl (lv_at hl 1 rfl) ?_
                                refine li_iadd hx hb d_M_check_331 ?_
                                refine lv_iconst (v := iI 1) hx hb d_M_check_332 rfl ?_
                                refine li_iadd hx hb d_M_check_333 ?_
                                refine li_callw (wc := [(mo, .inr (10, [.int (iI mrf), .ref (ma 0), .int (iI mz), .ref (ma 1), .ref (ma 2), .int (iI mls), .int (iI mfp), .int (iI mfm), .ref (ma 3), .int (iI mtx), .ref (ma 4), .ref (ma 5), .int (iI mwd), .ref (ma 6), .ref (ma 7), .int (iI mak), .ref (ma 8), .ref (ma 9), .int (iI mli), .int (iI mlx), .ref (ma 10), .ref (ma 11), .int (iI mat), .int (iI mtk), .int (iI mtf), .int (iI mtt), .int (iI mfa), .int (iI mla), .int (iI mlp), .int (iI mdp), .ref (ma 12), .ref (ma 13), .int (iI msi), .int (iI (bI mdn)), .int (iI mpf), .int (iI mpt)]))]) (wr := [(ma 0, .inl (kA 0, 400, .inl (aI cb))), (ma 1, .inl (kA 0, 4120, .inl (aI ca))), (ma 2, .inl (kA 0, 10, .inl (aI cle)))]) (va_runV (As := [.int (iI (-5)), .int (iI ((bs + d) + 1))]) (rest := []) ⟨hx, hb, hml, hown, hts⟩ (c_M_wrong l dC dI kA H.size mo ma mrf mz mls mfp mfm mtx mwd mak mli mlx mat mtk mtf mtt mfa mla mlp mdp msi mpf mpt mdn (-5) ((bs + d) + 1) ) (cw_M_86 hts rfl rfl ⟨Nat.le_of_ble_eq_true rfl, Nat.le_of_ble_eq_true rfl⟩) (li_preV (va_recv hK hP (ci := 10) (q0 := 0) rfl rfl) ⟨rfl, hP.sub [0] rfl, (hD.sub [0] (by decide) rfl).weaken (fun _ _ _ h => hAN _ h), trivial⟩ hK hN (hG.go hS hAN)) rfl rfl hl.1 rfl (lv_room (Nat.le_of_ble_eq_true rfl)) d_M_check_334 ⟨(by show 0 + 0 ≤ 0; omega), (by show 0 + 0 ≤ 0; omega)⟩) hP hD hS hA [0] [1, 2, 3] rfl rfl (by decide) (by decide) (fun u17 H locs hu17 hP hD hS _hk => ?_)
                                have hP : va_P (dC, dI) CL [(ma 0, .inl (kA 0, 400, .inl (aI cb))), (ma 1, .inl (kA 0, 4120, .inl (aI ca))), (ma 2, .inl (kA 0, 10, .inl (aI cle))), (mo, .inr (10, [.int (iI mrf), .ref (ma 0), .int (iI mz), .ref (ma 1), .ref (ma 2), .int (iI mls), .int (iI ((bs + d) + 1)), .int (iI mfm), .ref (ma 3), .int (iI mtx), .ref (ma 4), .ref (ma 5), .int (iI mwd), .ref (ma 6), .ref (ma 7), .int (iI mak), .ref (ma 8), .ref (ma 9), .int (iI mli), .int (iI mlx), .ref (ma 10), .ref (ma 11), .int (iI mat), .int (iI mtk), .int (iI mtf), .int (iI mtt), .int (iI mfa), .int (iI mla), .int (iI mlp), .int (iI mdp), .ref (ma 12), .ref (ma 13), .int (iI msi), .int (iI (bI mdn)), .int (iI mpf), .int (iI mpt)]))] H := hP
                                have hD : va_D A [(ma 0, .inl (kA 0, 400, .inl (aI cb))), (ma 1, .inl (kA 0, 4120, .inl (aI ca))), (ma 2, .inl (kA 0, 10, .inl (aI cle))), (mo, .inr (10, [.int (iI mrf), .ref (ma 0), .int (iI mz), .ref (ma 1), .ref (ma 2), .int (iI mls), .int (iI ((bs + d) + 1)), .int (iI mfm), .ref (ma 3), .int (iI mtx), .ref (ma 4), .ref (ma 5), .int (iI mwd), .ref (ma 6), .ref (ma 7), .int (iI mak), .ref (ma 8), .ref (ma 9), .int (iI mli), .int (iI mlx), .ref (ma 10), .ref (ma 11), .int (iI mat), .int (iI mtk), .int (iI mtf), .int (iI mtt), .int (iI mfa), .int (iI mla), .int (iI mlp), .int (iI mdp), .ref (ma 12), .ref (ma 13), .int (iI msi), .int (iI (bI mdn)), .int (iI mpf), .int (iI mpt)]))] := hD
                                refine lv_goto (tgt := 345) hx hb d_M_check_337 (by decide) ?_
                                exact fin (((bs + d) + 1), (-5)) _ _ _ _ _ (by rfl) (by show ((-5), ((bs + d) + 1)) = ckM cb ca cle mz mfp ∧ -9 ≤ (-5) ∧ (-5) ≤ 0 ∧ ((-5) = 0 → ∃ q : Int, 0 ≤ q ∧ q ≤ 9 ∧ cle q.toNat = 0); first | (refine ⟨by (rw [hck2]; unfold ck4; dsimp only; rw [if_neg (by omega), if_neg (by omega), if_pos (by omega)]), by omega, by omega, fun h => by omega⟩) | (refine ⟨by (rw [hck2]; unfold ck4; dsimp only; rw [if_neg (by omega), if_neg (by omega), if_neg (by omega)]; exact hp342.1), hp342.2⟩)) (by first | exact hP.sub [3, 0, 1, 2] rfl | (subst_vars; exact hP.sub [3, 0, 1, 2] rfl)) (by first | exact hD.sub [3, 0, 1, 2] (by decide) rfl | (subst_vars; exact hD.sub [3, 0, 1, 2] (by decide) rfl)) hS d_M_check_345
                            · have _q := c12
                              refine lv_aload_n hx hb d_M_check_304 rfl (lv_at hl 4 rfl) ?_
                              refine lv_bipush (v := iI (-5)) hx hb d_M_check_305 (by decide) ?_
                              refine lv_iload_n hx hb d_M_check_307 rfl (lv_at hl 2 rfl) ?_
                              refine lv_iload_n hx hb d_M_check_308 rfl (lv_at hl 1 rfl) ?_
                              refine li_iadd hx hb d_M_check_309 ?_
                              refine li_callw (wc := [(mo, .inr (10, [.int (iI mrf), .ref (ma 0), .int (iI mz), .ref (ma 1), .ref (ma 2), .int (iI mls), .int (iI mfp), .int (iI mfm), .ref (ma 3), .int (iI mtx), .ref (ma 4), .ref (ma 5), .int (iI mwd), .ref (ma 6), .ref (ma 7), .int (iI mak), .ref (ma 8), .ref (ma 9), .int (iI mli), .int (iI mlx), .ref (ma 10), .ref (ma 11), .int (iI mat), .int (iI mtk), .int (iI mtf), .int (iI mtt), .int (iI mfa), .int (iI mla), .int (iI mlp), .int (iI mdp), .ref (ma 12), .ref (ma 13), .int (iI msi), .int (iI (bI mdn)), .int (iI mpf), .int (iI mpt)]))]) (wr := [(ma 0, .inl (kA 0, 400, .inl (aI cb))), (ma 1, .inl (kA 0, 4120, .inl (aI ca))), (ma 2, .inl (kA 0, 10, .inl (aI cle)))]) (va_runV (As := [.int (iI (-5)), .int (iI (bs + d))]) (rest := []) ⟨hx, hb, hml, hown, hts⟩ (c_M_wrong l dC dI kA H.size mo ma mrf mz mls mfp mfm mtx mwd mak mli mlx mat mtk mtf mtt mfa mla mlp mdp msi mpf mpt mdn (-5) (bs + d) ) (cw_M_86 hts rfl rfl ⟨Nat.le_of_ble_eq_true rfl, Nat.le_of_ble_eq_true rfl⟩) (li_preV (va_recv hK hP (ci := 10) (q0 := 0) rfl rfl) ⟨rfl, hP.sub [0] rfl, (hD.sub [0] (by decide) rfl).weaken (fun _ _ _ h => hAN _ h), trivial⟩ hK hN (hG.go hS hAN)) rfl rfl hl.1 rfl (lv_room (Nat.le_of_ble_eq_true rfl)) d_M_check_310 ⟨(by show 0 + 0 ≤ 0; omega), (by show 0 + 0 ≤ 0; omega)⟩) hP hD hS hA [0] [1, 2, 3] rfl rfl (by decide) (by decide) (fun u18 H locs hu18 hP hD hS _hk => ?_)
                              have hP : va_P (dC, dI) CL [(ma 0, .inl (kA 0, 400, .inl (aI cb))), (ma 1, .inl (kA 0, 4120, .inl (aI ca))), (ma 2, .inl (kA 0, 10, .inl (aI cle))), (mo, .inr (10, [.int (iI mrf), .ref (ma 0), .int (iI mz), .ref (ma 1), .ref (ma 2), .int (iI mls), .int (iI (bs + d)), .int (iI mfm), .ref (ma 3), .int (iI mtx), .ref (ma 4), .ref (ma 5), .int (iI mwd), .ref (ma 6), .ref (ma 7), .int (iI mak), .ref (ma 8), .ref (ma 9), .int (iI mli), .int (iI mlx), .ref (ma 10), .ref (ma 11), .int (iI mat), .int (iI mtk), .int (iI mtf), .int (iI mtt), .int (iI mfa), .int (iI mla), .int (iI mlp), .int (iI mdp), .ref (ma 12), .ref (ma 13), .int (iI msi), .int (iI (bI mdn)), .int (iI mpf), .int (iI mpt)]))] H := hP
                              have hD : va_D A [(ma 0, .inl (kA 0, 400, .inl (aI cb))), (ma 1, .inl (kA 0, 4120, .inl (aI ca))), (ma 2, .inl (kA 0, 10, .inl (aI cle))), (mo, .inr (10, [.int (iI mrf), .ref (ma 0), .int (iI mz), .ref (ma 1), .ref (ma 2), .int (iI mls), .int (iI (bs + d)), .int (iI mfm), .ref (ma 3), .int (iI mtx), .ref (ma 4), .ref (ma 5), .int (iI mwd), .ref (ma 6), .ref (ma 7), .int (iI mak), .ref (ma 8), .ref (ma 9), .int (iI mli), .int (iI mlx), .ref (ma 10), .ref (ma 11), .int (iI mat), .int (iI mtk), .int (iI mtf), .int (iI mtt), .int (iI mfa), .int (iI mla), .int (iI mlp), .int (iI mdp), .ref (ma 12), .ref (ma 13), .int (iI msi), .int (iI (bI mdn)), .int (iI mpf), .int (iI mpt)]))] := hD
                              exact fin ((bs + d), (-5)) _ _ _ _ _ (by rfl) (by show ((-5), (bs + d)) = ckM cb ca cle mz mfp ∧ -9 ≤ (-5) ∧ (-5) ≤ 0 ∧ ((-5) = 0 → ∃ q : Int, 0 ≤ q ∧ q ≤ 9 ∧ cle q.toNat = 0); refine ⟨by (rw [hck2]; unfold ck4; dsimp only; rw [if_neg (by omega), if_pos (by omega)]), by omega, by omega, fun h => by omega⟩) (by first | exact hP.sub [3, 0, 1, 2] rfl | (subst_vars; exact hP.sub [3, 0, 1, 2] rfl)) (by first | exact hD.sub [3, 0, 1, 2] (by decide) rfl | (subst_vars; exact hD.sub [3, 0, 1, 2] (by decide) rfl)) hS d_M_check_313
                          · have _q := c11
                            have hek : (k - e1) % 12 = 0 ∧ e1 + 12 ≤ k := by omega
                            refine lv_aload_n hx hb d_M_check_141 rfl (lv_at hl 4 rfl) ?_
                            refine lv_iload hx hb d_M_check_142 (lv_at hl 0 rfl) ?_
                            refine lv_iconst (v := iI 3) hx hb d_M_check_144 rfl ?_
                            refine li_callr ((va_runV (As := [.int (iI e1), .int (iI 3)]) (rest := []) ⟨hx, hb, hml, hown, hts⟩ (c_M_number l dC dI kA mo ma mrf mz mls mfp mfm mtx mwd mak mli mlx mat mtk mtf mtt mfa mla mlp mdp msi mpf mpt mdn cb e1 3 (by omega)) (cw_M_90 hts rfl rfl ⟨Nat.le_of_ble_eq_true rfl, Nat.le_of_ble_eq_true rfl⟩) (li_preV (va_recv hK hP (ci := 10) (q0 := 0) rfl rfl) (hP.sub [0, 1] rfl) hK hN (hG.go hS hAN)) rfl rfl hl.1 rfl (lv_room (Nat.le_of_ble_eq_true rfl)) d_M_check_145 ⟨(by show 0 + 0 ≤ 0; omega), (by show 0 + 0 ≤ 0; omega)⟩).run) ?_
                            refine W.eq (g2 := F0 m 148 ls [.int (iI (numM cb 3 e1 0))]) rfl ?_
                            refine li_nm (fun tag etag => ?_)
                            refine lv_istore (lv' := [(5, .int (iI tag)), (4, .int (iI e1)), (3, .int (iI d)), (2, .int (iI bs)), (1, .int (iI k)), (0, .ref mo)]) hx hb d_M_check_148 hl (by decide) rfl (fun ls hl => ?_)
                            have etag2 : tag = numM cb 3 e1 0 := etag
                            refine lv_iload hx hb d_M_check_150 (lv_at hl 1 rfl) ?_
                            refine lv_bipush (v := iI 24) hx hb d_M_check_152 (by decide) ?_
                            refine li_icmp_ne (tgt := 161) hx hb d_M_check_154 (by decide) (by omega) (by omega) (fun c19 => ?_) (fun c19 => ?_)
                            · have _q := c19
                              refine lv_iconst (v := iI 0) hx hb d_M_check_161 rfl ?_
                              refine lv_iload hx hb d_M_check_162 (lv_at hl 0 rfl) ?_
                              refine lv_iconst (v := iI 1) hx hb d_M_check_164 rfl ?_
                              refine li_icmp_ne (tgt := 172) hx hb d_M_check_165 (by decide) (by first | omega | (have h8 := numM_3 hcb (x := e1); omega)) (by first | omega | (have h8 := numM_3 hcb (x := e1); omega)) (fun c20 => ?_) (fun c20 => ?_)
                              · have _q := c20
                                refine lv_iconst (v := iI 0) hx hb d_M_check_172 rfl ?_
                                refine li_icmp_eq (tgt := 185) hx hb d_M_check_173 (by decide) (by omega) (by omega) (fun c21 => ?_) (fun c21 => ?_)
                                · have _q := c21
                                  refine lv_aload_n hx hb d_M_check_185 rfl (lv_at hl 5 rfl) ?_
                                  refine lv_iload hx hb d_M_check_186 (lv_at hl 1 rfl) ?_
                                  refine lv_bipush (v := iI 7) hx hb d_M_check_188 (by decide) ?_
                                  refine li_iadd hx hb d_M_check_190 ?_
                                  refine lv_iconst (v := iI 5) hx hb d_M_check_191 rfl ?_
                                  refine li_callr ((va_runV (As := [.int (iI (e1 + 7)), .int (iI 5)]) (rest := []) ⟨hx, hb, hml, hown, hts⟩ (c_M_number l dC dI kA mo ma mrf mz mls mfp mfm mtx mwd mak mli mlx mat mtk mtf mtt mfa mla mlp mdp msi mpf mpt mdn cb (e1 + 7) 5 (by omega)) (cw_M_90 hts rfl rfl ⟨Nat.le_of_ble_eq_true rfl, Nat.le_of_ble_eq_true rfl⟩) (li_preV (va_recv hK hP (ci := 10) (q0 := 0) rfl rfl) (hP.sub [0, 1] rfl) hK hN (hG.go hS hAN)) rfl rfl hl.1 rfl (lv_room (Nat.le_of_ble_eq_true rfl)) d_M_check_192 ⟨(by show 0 + 0 ≤ 0; omega), (by show 0 + 0 ≤ 0; omega)⟩).run) ?_
                                  refine W.eq (g2 := F0 m 195 ls [.int (iI (numM cb 5 (e1 + 7) 0))]) rfl ?_
                                  refine lv_iload_n hx hb d_M_check_195 rfl (lv_at hl 2 rfl) ?_
                                  refine li_icmp_eq (tgt := 211) hx hb d_M_check_196 (by decide) (by first | omega | (have h8 := numM_5 hcb (x := e1 + 7); omega)) (by first | omega | (have h8 := numM_5 hcb (x := e1 + 7); omega)) (fun c22 => ?_) (fun c22 => ?_)
                                  · have _q := c22
                                    have h7 : numM cb 5 (e1 + 7) 0 = d := by assumption
                                    refine lv_aload_n hx hb d_M_check_211 rfl (lv_at hl 5 rfl) ?_
                                    refine lv_iload_n hx hb d_M_check_212 rfl (lv_at hl 3 rfl) ?_
                                    refine lv_iload_n hx hb d_M_check_213 rfl (lv_at hl 2 rfl) ?_
                                    refine li_iadd hx hb d_M_check_214 ?_
                                    refine lv_iload hx hb d_M_check_215 (lv_at hl 0 rfl) ?_
                                    refine lv_bipush (v := iI 10) hx hb d_M_check_217 (by decide) ?_
                                    refine li_icmp_ge (tgt := 226) hx hb d_M_check_219 (by decide) (by first | omega | (have h8 := numM_3 hcb (x := e1); omega)) (by first | omega | (have h8 := numM_3 hcb (x := e1); omega)) (fun c23 => ?_) (fun c23 => ?_)
                                    · have _q := c23
                                      have hpl : decide (numM cb 3 e1 0 < 10) = false := decide_eq_false (by omega)
                                      refine lv_iconst (v := iI 0) hx hb d_M_check_226 rfl ?_
                                      refine li_callr ((va_runV (As := [.int (iI (bs + d)), .int (iI 0)]) (rest := []) ⟨hx, hb, hml, hown, hts⟩ (c_M_along l dC dI kA mo ma mrf mz mls mfp mfm mtx mwd mak mli mlx mat mtk mtf mtt mfa mla mlp mdp msi mpf mpt mdn cb (bs + d) false (by exact hcb) (by exact hz) (by omega)) (cw_M_93 hts rfl rfl ⟨Nat.le_of_ble_eq_true rfl, Nat.le_of_ble_eq_true rfl⟩) (li_preV (va_recv hK hP (ci := 10) (q0 := 0) rfl rfl) (hP.sub [0, 1] rfl) hK hN (hG.go hS hAN)) rfl rfl hl.1 rfl (lv_room (Nat.le_of_ble_eq_true rfl)) d_M_check_227 ⟨(by show 0 + 0 ≤ 0; omega), (by show 0 + 0 ≤ 0; omega)⟩).run) ?_
                                      refine li_nm (fun bh ebh => ?_)
                                      refine lv_istore (lv' := [(6, .int (iI bh)), (5, .int (iI tag)), (4, .int (iI e1)), (3, .int (iI d)), (2, .int (iI bs)), (1, .int (iI k)), (0, .ref mo)]) hx hb d_M_check_230 hl (by decide) rfl (fun ls hl => ?_)
                                      have ebh2 : bh = alM cb mz (decide (numM cb 3 e1 0 < 10)) (bs + d) := by rw [hpl]; exact ebh
                                      have hbr := alM_b (cb := cb) (mz := mz) (b := decide (numM cb 3 e1 0 < 10)) (x := bs + d) (by omega) (by omega)
                                      rw [← ebh2] at hbr
                                      refine lv_iload hx hb d_M_check_232 (lv_at hl 0 rfl) ?_
                                      refine li_if_ge (tgt := 248) hx hb d_M_check_234 (by decide) (by omega) (fun c24 => ?_) (fun c24 => ?_)
                                      · have _q := c24
                                        have hal := alM_r (cb := cb) (mz := mz) (b := decide (numM cb 3 e1 0 < 10)) (x := bs + d) (by omega) (by omega) (by rw [← ebh2]; omega)
                                        rw [← ebh2] at hal
                                        refine lv_aload_n hx hb d_M_check_248 rfl (lv_at hl 6 rfl) ?_
                                        refine lv_iload hx hb d_M_check_249 (lv_at hl 2 rfl) ?_
                                        refine lv_iconst (v := iI 3) hx hb d_M_check_251 rfl ?_
                                        refine li_iadd hx hb d_M_check_252 ?_
                                        refine lv_iconst (v := iI 4) hx hb d_M_check_253 rfl ?_
                                        refine li_callr ((va_runV (As := [.int (iI (e1 + 3)), .int (iI 4)]) (rest := []) ⟨hx, hb, hml, hown, hts⟩ (c_M_number l dC dI kA mo ma mrf mz mls mfp mfm mtx mwd mak mli mlx mat mtk mtf mtt mfa mla mlp mdp msi mpf mpt mdn cb (e1 + 3) 4 (by omega)) (cw_M_90 hts rfl rfl ⟨Nat.le_of_ble_eq_true rfl, Nat.le_of_ble_eq_true rfl⟩) (li_preV (va_recv hK hP (ci := 10) (q0 := 0) rfl rfl) (hP.sub [0, 1] rfl) hK hN (hG.go hS hAN)) rfl rfl hl.1 rfl (lv_room (Nat.le_of_ble_eq_true rfl)) d_M_check_254 ⟨(by show 0 + 0 ≤ 0; omega), (by show 0 + 0 ≤ 0; omega)⟩).run) ?_
                                        refine W.eq (g2 := F0 m 257 ls [.int (iI (numM cb 4 (e1 + 3) 0))]) rfl ?_
                                        refine lv_iload hx hb d_M_check_257 (lv_at hl 0 rfl) ?_
                                        refine lv_iload_n hx hb d_M_check_259 rfl (lv_at hl 4 rfl) ?_
                                        refine li_isub hx hb d_M_check_260 ?_
                                        refine lv_iload_n hx hb d_M_check_261 rfl (lv_at hl 3 rfl) ?_
                                        refine li_isub hx hb d_M_check_262 ?_
                                        refine li_icmp_eq (tgt := 277) hx hb d_M_check_263 (by decide) (by first | omega | (have h8 := numM_4 hcb (x := e1 + 3); omega)) (by first | omega | (have h8 := numM_4 hcb (x := e1 + 3); omega)) (fun c25 => ?_) (fun c25 => ?_)
                                        · have _q := c25
                                          have h3 : numM cb 4 (e1 + 3) 0 = bh - bs - d := by assumption
                                          refine lv_iload hx hb d_M_check_277 (lv_at hl 0 rfl) ?_
                                          refine lv_iload_n hx hb d_M_check_279 rfl (lv_at hl 4 rfl) ?_
                                          refine li_isub hx hb d_M_check_280 ?_
                                          refine li_nm (fun d_n ed_n => ?_)
                                          refine lv_istore_n (lv' := [(3, .int (iI d_n)), (6, .int (iI bh)), (5, .int (iI tag)), (4, .int (iI e1)), (2, .int (iI bs)), (1, .int (iI k)), (0, .ref mo)]) hx hb d_M_check_281 rfl hl (by decide) rfl (fun ls hl => ?_)
                                          refine lv_iload hx hb d_M_check_282 (lv_at hl 3 rfl) ?_
                                          refine lv_bipush (v := iI 12) hx hb d_M_check_284 (by decide) ?_
                                          refine li_iadd hx hb d_M_check_286 ?_
                                          refine li_nm (fun e_n ee_n => ?_)
                                          refine lv_istore (lv' := [(4, .int (iI e_n)), (3, .int (iI d_n)), (6, .int (iI bh)), (5, .int (iI tag)), (2, .int (iI bs)), (1, .int (iI k)), (0, .ref mo)]) hx hb d_M_check_287 hl (by decide) rfl (fun ls hl => ?_)
                                          refine lv_goto (tgt := 135) hx hb d_M_check_289 (by decide) ?_
                                          exact ih_135 e_n d_n (by omega) (by omega) (by intro _; exact ⟨bh - 1, by omega, by omega, byM_cb hal.2.2 (by omega)⟩) (by rw [← hcf, show ((k - e1) / 12).toNat = ((k - (e1 + 12)) / 12).toNat + 1 by omega, ee_n, ed_n]; simp only [cfL]; rw [show cf1 cb mz bs e1 d = (0, bh - bs) from by (unfold cf1; rw [if_neg (by rw [ne_eq, Decidable.not_not, decide_eq_decide]; omega), if_neg (by omega), ← ebh2, if_neg (by omega), if_neg (by omega)])]; dsimp only; rw [if_neg (by omega)]) (by omega) _ _ hP hD hS _ (lv_sub hl [0, 1, 4, 5, 6] rfl)
                                        · have _q := c25
                                          have h3 : ¬ numM cb 4 (e1 + 3) 0 = bh - bs - d := by assumption
                                          refine lv_aload_n hx hb d_M_check_266 rfl (lv_at hl 6 rfl) ?_
                                          refine lv_bipush (v := iI (-6)) hx hb d_M_check_267 (by decide) ?_
                                          refine lv_iload hx hb d_M_check_269 (lv_at hl 2 rfl) ?_
                                          refine lv_iconst (v := iI 3) hx hb d_M_check_271 rfl ?_
                                          refine li_iadd hx hb d_M_check_272 ?_
                                          refine li_callw (wc := [(mo, .inr (10, [.int (iI mrf), .ref (ma 0), .int (iI mz), .ref (ma 1), .ref (ma 2), .int (iI mls), .int (iI mfp), .int (iI mfm), .ref (ma 3), .int (iI mtx), .ref (ma 4), .ref (ma 5), .int (iI mwd), .ref (ma 6), .ref (ma 7), .int (iI mak), .ref (ma 8), .ref (ma 9), .int (iI mli), .int (iI mlx), .ref (ma 10), .ref (ma 11), .int (iI mat), .int (iI mtk), .int (iI mtf), .int (iI mtt), .int (iI mfa), .int (iI mla), .int (iI mlp), .int (iI mdp), .ref (ma 12), .ref (ma 13), .int (iI msi), .int (iI (bI mdn)), .int (iI mpf), .int (iI mpt)]))]) (wr := [(ma 0, .inl (kA 0, 400, .inl (aI cb))), (ma 1, .inl (kA 0, 4120, .inl (aI ca))), (ma 2, .inl (kA 0, 10, .inl (aI cle)))]) (va_runV (As := [.int (iI (-6)), .int (iI (e1 + 3))]) (rest := []) ⟨hx, hb, hml, hown, hts⟩ (c_M_wrong l dC dI kA H.size mo ma mrf mz mls mfp mfm mtx mwd mak mli mlx mat mtk mtf mtt mfa mla mlp mdp msi mpf mpt mdn (-6) (e1 + 3) ) (cw_M_86 hts rfl rfl ⟨Nat.le_of_ble_eq_true rfl, Nat.le_of_ble_eq_true rfl⟩) (li_preV (va_recv hK hP (ci := 10) (q0 := 0) rfl rfl) ⟨rfl, hP.sub [0] rfl, (hD.sub [0] (by decide) rfl).weaken (fun _ _ _ h => hAN _ h), trivial⟩ hK hN (hG.go hS hAN)) rfl rfl hl.1 rfl (lv_room (Nat.le_of_ble_eq_true rfl)) d_M_check_273 ⟨(by show 0 + 0 ≤ 0; omega), (by show 0 + 0 ≤ 0; omega)⟩) hP hD hS hA [0] [1, 2, 3] rfl rfl (by decide) (by decide) (fun u26 H locs hu26 hP hD hS _hk => ?_)
                                          have hP : va_P (dC, dI) CL [(ma 0, .inl (kA 0, 400, .inl (aI cb))), (ma 1, .inl (kA 0, 4120, .inl (aI ca))), (ma 2, .inl (kA 0, 10, .inl (aI cle))), (mo, .inr (10, [.int (iI mrf), .ref (ma 0), .int (iI mz), .ref (ma 1), .ref (ma 2), .int (iI mls), .int (iI (e1 + 3)), .int (iI mfm), .ref (ma 3), .int (iI mtx), .ref (ma 4), .ref (ma 5), .int (iI mwd), .ref (ma 6), .ref (ma 7), .int (iI mak), .ref (ma 8), .ref (ma 9), .int (iI mli), .int (iI mlx), .ref (ma 10), .ref (ma 11), .int (iI mat), .int (iI mtk), .int (iI mtf), .int (iI mtt), .int (iI mfa), .int (iI mla), .int (iI mlp), .int (iI mdp), .ref (ma 12), .ref (ma 13), .int (iI msi), .int (iI (bI mdn)), .int (iI mpf), .int (iI mpt)]))] H := hP
                                          have hD : va_D A [(ma 0, .inl (kA 0, 400, .inl (aI cb))), (ma 1, .inl (kA 0, 4120, .inl (aI ca))), (ma 2, .inl (kA 0, 10, .inl (aI cle))), (mo, .inr (10, [.int (iI mrf), .ref (ma 0), .int (iI mz), .ref (ma 1), .ref (ma 2), .int (iI mls), .int (iI (e1 + 3)), .int (iI mfm), .ref (ma 3), .int (iI mtx), .ref (ma 4), .ref (ma 5), .int (iI mwd), .ref (ma 6), .ref (ma 7), .int (iI mak), .ref (ma 8), .ref (ma 9), .int (iI mli), .int (iI mlx), .ref (ma 10), .ref (ma 11), .int (iI mat), .int (iI mtk), .int (iI mtf), .int (iI mtt), .int (iI mfa), .int (iI mla), .int (iI mlp), .int (iI mdp), .ref (ma 12), .ref (ma 13), .int (iI msi), .int (iI (bI mdn)), .int (iI mpf), .int (iI mpt)]))] := hD
                                          exact fin ((e1 + 3), (-6)) _ _ _ _ _ (by rfl) (by show ((-6), (e1 + 3)) = ckM cb ca cle mz mfp ∧ -9 ≤ (-6) ∧ (-6) ≤ 0 ∧ ((-6) = 0 → ∃ q : Int, 0 ≤ q ∧ q ≤ 9 ∧ cle q.toNat = 0); refine ⟨by (rw [hck, ← hcf, show ((k - e1) / 12).toNat = ((k - (e1 + 12)) / 12).toNat + 1 by omega]; simp only [cfL]; rw [show cf1 cb mz bs e1 d = (-6, e1 + 3) from by (unfold cf1; rw [if_neg (by rw [ne_eq, Decidable.not_not, decide_eq_decide]; omega), if_neg (by omega), ← ebh2, if_neg (by omega), if_pos (by omega)])]; dsimp only; rw [if_pos (by omega)]; unfold ck4; dsimp only; rw [if_pos (by omega)]), by omega, by omega, fun h => by omega⟩) (by first | exact hP.sub [3, 0, 1, 2] rfl | (subst_vars; exact hP.sub [3, 0, 1, 2] rfl)) (by first | exact hD.sub [3, 0, 1, 2] (by decide) rfl | (subst_vars; exact hD.sub [3, 0, 1, 2] (by decide) rfl)) hS d_M_check_276
                                      · have _q := c24
                                        refine lv_aload_n hx hb d_M_check_237 rfl (lv_at hl 6 rfl) ?_
                                        refine lv_bipush (v := iI (-5)) hx hb d_M_check_238 (by decide) ?_
                                        refine lv_iconst (v := iI (-1)) hx hb d_M_check_240 rfl ?_
                                        refine lv_iload hx hb d_M_check_241 (lv_at hl 0 rfl) ?_
                                        refine li_isub hx hb d_M_check_243 ?_
                                        refine li_callw (wc := [(mo, .inr (10, [.int (iI mrf), .ref (ma 0), .int (iI mz), .ref (ma 1), .ref (ma 2), .int (iI mls), .int (iI mfp), .int (iI mfm), .ref (ma 3), .int (iI mtx), .ref (ma 4), .ref (ma 5), .int (iI mwd), .ref (ma 6), .ref (ma 7), .int (iI mak), .ref (ma 8), .ref (ma 9), .int (iI mli), .int (iI mlx), .ref (ma 10), .ref (ma 11), .int (iI mat), .int (iI mtk), .int (iI mtf), .int (iI mtt), .int (iI mfa), .int (iI mla), .int (iI mlp), .int (iI mdp), .ref (ma 12), .ref (ma 13), .int (iI msi), .int (iI (bI mdn)), .int (iI mpf), .int (iI mpt)]))]) (wr := [(ma 0, .inl (kA 0, 400, .inl (aI cb))), (ma 1, .inl (kA 0, 4120, .inl (aI ca))), (ma 2, .inl (kA 0, 10, .inl (aI cle)))]) (va_runV (As := [.int (iI (-5)), .int (iI ((-1) - bh))]) (rest := []) ⟨hx, hb, hml, hown, hts⟩ (c_M_wrong l dC dI kA H.size mo ma mrf mz mls mfp mfm mtx mwd mak mli mlx mat mtk mtf mtt mfa mla mlp mdp msi mpf mpt mdn (-5) ((-1) - bh) ) (cw_M_86 hts rfl rfl ⟨Nat.le_of_ble_eq_true rfl, Nat.le_of_ble_eq_true rfl⟩) (li_preV (va_recv hK hP (ci := 10) (q0 := 0) rfl rfl) ⟨rfl, hP.sub [0] rfl, (hD.sub [0] (by decide) rfl).weaken (fun _ _ _ h => hAN _ h), trivial⟩ hK hN (hG.go hS hAN)) rfl rfl hl.1 rfl (lv_room (Nat.le_of_ble_eq_true rfl)) d_M_check_244 ⟨(by show 0 + 0 ≤ 0; omega), (by show 0 + 0 ≤ 0; omega)⟩) hP hD hS hA [0] [1, 2, 3] rfl rfl (by decide) (by decide) (fun u27 H locs hu27 hP hD hS _hk => ?_)
                                        have hP : va_P (dC, dI) CL [(ma 0, .inl (kA 0, 400, .inl (aI cb))), (ma 1, .inl (kA 0, 4120, .inl (aI ca))), (ma 2, .inl (kA 0, 10, .inl (aI cle))), (mo, .inr (10, [.int (iI mrf), .ref (ma 0), .int (iI mz), .ref (ma 1), .ref (ma 2), .int (iI mls), .int (iI ((-1) - bh)), .int (iI mfm), .ref (ma 3), .int (iI mtx), .ref (ma 4), .ref (ma 5), .int (iI mwd), .ref (ma 6), .ref (ma 7), .int (iI mak), .ref (ma 8), .ref (ma 9), .int (iI mli), .int (iI mlx), .ref (ma 10), .ref (ma 11), .int (iI mat), .int (iI mtk), .int (iI mtf), .int (iI mtt), .int (iI mfa), .int (iI mla), .int (iI mlp), .int (iI mdp), .ref (ma 12), .ref (ma 13), .int (iI msi), .int (iI (bI mdn)), .int (iI mpf), .int (iI mpt)]))] H := hP
                                        have hD : va_D A [(ma 0, .inl (kA 0, 400, .inl (aI cb))), (ma 1, .inl (kA 0, 4120, .inl (aI ca))), (ma 2, .inl (kA 0, 10, .inl (aI cle))), (mo, .inr (10, [.int (iI mrf), .ref (ma 0), .int (iI mz), .ref (ma 1), .ref (ma 2), .int (iI mls), .int (iI ((-1) - bh)), .int (iI mfm), .ref (ma 3), .int (iI mtx), .ref (ma 4), .ref (ma 5), .int (iI mwd), .ref (ma 6), .ref (ma 7), .int (iI mak), .ref (ma 8), .ref (ma 9), .int (iI mli), .int (iI mlx), .ref (ma 10), .ref (ma 11), .int (iI mat), .int (iI mtk), .int (iI mtf), .int (iI mtt), .int (iI mfa), .int (iI mla), .int (iI mlp), .int (iI mdp), .ref (ma 12), .ref (ma 13), .int (iI msi), .int (iI (bI mdn)), .int (iI mpf), .int (iI mpt)]))] := hD
                                        exact fin (((-1) - bh), (-5)) _ _ _ _ _ (by rfl) (by show ((-5), ((-1) - bh)) = ckM cb ca cle mz mfp ∧ -9 ≤ (-5) ∧ (-5) ≤ 0 ∧ ((-5) = 0 → ∃ q : Int, 0 ≤ q ∧ q ≤ 9 ∧ cle q.toNat = 0); refine ⟨by (rw [hck, ← hcf, show ((k - e1) / 12).toNat = ((k - (e1 + 12)) / 12).toNat + 1 by omega]; simp only [cfL]; rw [show cf1 cb mz bs e1 d = (-5, -1 - bh) from by (unfold cf1; rw [if_neg (by rw [ne_eq, Decidable.not_not, decide_eq_decide]; omega), if_neg (by omega), ← ebh2, if_pos (by omega)])]; dsimp only; rw [if_pos (by omega)]; unfold ck4; dsimp only; rw [if_pos (by omega)]), by omega, by omega, fun h => by omega⟩) (by first | exact hP.sub [3, 0, 1, 2] rfl | (subst_vars; exact hP.sub [3, 0, 1, 2] rfl)) (by first | exact hD.sub [3, 0, 1, 2] (by decide) rfl | (subst_vars; exact hD.sub [3, 0, 1, 2] (by decide) rfl)) hS d_M_check_247
                                    · have _q := c23
                                      have hpl : decide (numM cb 3 e1 0 < 10) = true := decide_eq_true (by omega)
                                      refine lv_iconst (v := iI 1) hx hb d_M_check_222 rfl ?_
                                      refine lv_goto (tgt := 227) hx hb d_M_check_223 (by decide) ?_
                                      refine li_callr ((va_runV (As := [.int (iI (bs + d)), .int (iI 1)]) (rest := []) ⟨hx, hb, hml, hown, hts⟩ (c_M_along l dC dI kA mo ma mrf mz mls mfp mfm mtx mwd mak mli mlx mat mtk mtf mtt mfa mla mlp mdp msi mpf mpt mdn cb (bs + d) true (by exact hcb) (by exact hz) (by omega)) (cw_M_93 hts rfl rfl ⟨Nat.le_of_ble_eq_true rfl, Nat.le_of_ble_eq_true rfl⟩) (li_preV (va_recv hK hP (ci := 10) (q0 := 0) rfl rfl) (hP.sub [0, 1] rfl) hK hN (hG.go hS hAN)) rfl rfl hl.1 rfl (lv_room (Nat.le_of_ble_eq_true rfl)) d_M_check_227 ⟨(by show 0 + 0 ≤ 0; omega), (by show 0 + 0 ≤ 0; omega)⟩).run) ?_
                                      refine li_nm (fun bh ebh => ?_)
                                      refine lv_istore (lv' := [(6, .int (iI bh)), (5, .int (iI tag)), (4, .int (iI e1)), (3, .int (iI d)), (2, .int (iI bs)), (1, .int (iI k)), (0, .ref mo)]) hx hb d_M_check_230 hl (by decide) rfl (fun ls hl => ?_)
                                      have ebh2 : bh = alM cb mz (decide (numM cb 3 e1 0 < 10)) (bs + d) := by rw [hpl]; exact ebh
                                      have hbr := alM_b (cb := cb) (mz := mz) (b := decide (numM cb 3 e1 0 < 10)) (x := bs + d) (by omega) (by omega)
                                      rw [← ebh2] at hbr
                                      refine lv_iload hx hb d_M_check_232 (lv_at hl 0 rfl) ?_
                                      refine li_if_ge (tgt := 248) hx hb d_M_check_234 (by decide) (by omega) (fun c28 => ?_) (fun c28 => ?_)
                                      · have _q := c28
                                        have hal := alM_r (cb := cb) (mz := mz) (b := decide (numM cb 3 e1 0 < 10)) (x := bs + d) (by omega) (by omega) (by rw [← ebh2]; omega)
                                        rw [← ebh2] at hal
                                        refine lv_aload_n hx hb d_M_check_248 rfl (lv_at hl 6 rfl) ?_
                                        refine lv_iload hx hb d_M_check_249 (lv_at hl 2 rfl) ?_
                                        refine lv_iconst (v := iI 3) hx hb d_M_check_251 rfl ?_
                                        refine li_iadd hx hb d_M_check_252 ?_
                                        refine lv_iconst (v := iI 4) hx hb d_M_check_253 rfl ?_
                                        refine li_callr ((va_runV (As := [.int (iI (e1 + 3)), .int (iI 4)]) (rest := []) ⟨hx, hb, hml, hown, hts⟩ (c_M_number l dC dI kA mo ma mrf mz mls mfp mfm mtx mwd mak mli mlx mat mtk mtf mtt mfa mla mlp mdp msi mpf mpt mdn cb (e1 + 3) 4 (by omega)) (cw_M_90 hts rfl rfl ⟨Nat.le_of_ble_eq_true rfl, Nat.le_of_ble_eq_true rfl⟩) (li_preV (va_recv hK hP (ci := 10) (q0 := 0) rfl rfl) (hP.sub [0, 1] rfl) hK hN (hG.go hS hAN)) rfl rfl hl.1 rfl (lv_room (Nat.le_of_ble_eq_true rfl)) d_M_check_254 ⟨(by show 0 + 0 ≤ 0; omega), (by show 0 + 0 ≤ 0; omega)⟩).run) ?_
                                        refine W.eq (g2 := F0 m 257 ls [.int (iI (numM cb 4 (e1 + 3) 0))]) rfl ?_
                                        refine lv_iload hx hb d_M_check_257 (lv_at hl 0 rfl) ?_
                                        refine lv_iload_n hx hb d_M_check_259 rfl (lv_at hl 4 rfl) ?_
                                        refine li_isub hx hb d_M_check_260 ?_
                                        refine lv_iload_n hx hb d_M_check_261 rfl (lv_at hl 3 rfl) ?_
                                        refine li_isub hx hb d_M_check_262 ?_
                                        refine li_icmp_eq (tgt := 277) hx hb d_M_check_263 (by decide) (by first | omega | (have h8 := numM_4 hcb (x := e1 + 3); omega)) (by first | omega | (have h8 := numM_4 hcb (x := e1 + 3); omega)) (fun c29 => ?_) (fun c29 => ?_)
                                        · have _q := c29
                                          have h3 : numM cb 4 (e1 + 3) 0 = bh - bs - d := by assumption
                                          refine lv_iload hx hb d_M_check_277 (lv_at hl 0 rfl) ?_
                                          refine lv_iload_n hx hb d_M_check_279 rfl (lv_at hl 4 rfl) ?_
                                          refine li_isub hx hb d_M_check_280 ?_
                                          refine li_nm (fun d_n ed_n => ?_)
                                          refine lv_istore_n (lv' := [(3, .int (iI d_n)), (6, .int (iI bh)), (5, .int (iI tag)), (4, .int (iI e1)), (2, .int (iI bs)), (1, .int (iI k)), (0, .ref mo)]) hx hb d_M_check_281 rfl hl (by decide) rfl (fun ls hl => ?_)
                                          refine lv_iload hx hb d_M_check_282 (lv_at hl 3 rfl) ?_
                                          refine lv_bipush (v := iI 12) hx hb d_M_check_284 (by decide) ?_
                                          refine li_iadd hx hb d_M_check_286 ?_
                                          refine li_nm (fun e_n ee_n => ?_)
                                          refine lv_istore (lv' := [(4, .int (iI e_n)), (3, .int (iI d_n)), (6, .int (iI bh)), (5, .int (iI tag)), (2, .int (iI bs)), (1, .int (iI k)), (0, .ref mo)]) hx hb d_M_check_287 hl (by decide) rfl (fun ls hl => ?_)
                                          refine lv_goto (tgt := 135) hx hb d_M_check_289 (by decide) ?_
                                          exact ih_135 e_n d_n (by omega) (by omega) (by intro _; exact ⟨bh - 1, by omega, by omega, byM_cb hal.2.2 (by omega)⟩) (by rw [← hcf, show ((k - e1) / 12).toNat = ((k - (e1 + 12)) / 12).toNat + 1 by omega, ee_n, ed_n]; simp only [cfL]; rw [show cf1 cb mz bs e1 d = (0, bh - bs) from by (unfold cf1; rw [if_neg (by rw [ne_eq, Decidable.not_not, decide_eq_decide]; omega), if_neg (by omega), ← ebh2, if_neg (by omega), if_neg (by omega)])]; dsimp only; rw [if_neg (by omega)]) (by omega) _ _ hP hD hS _ (lv_sub hl [0, 1, 4, 5, 6] rfl)
                                        · have _q := c29
                                          have h3 : ¬ numM cb 4 (e1 + 3) 0 = bh - bs - d := by assumption
                                          refine lv_aload_n hx hb d_M_check_266 rfl (lv_at hl 6 rfl) ?_
                                          refine lv_bipush (v := iI (-6)) hx hb d_M_check_267 (by decide) ?_
                                          refine lv_iload hx hb d_M_check_269 (lv_at hl 2 rfl) ?_
                                          refine lv_iconst (v := iI 3) hx hb d_M_check_271 rfl ?_
                                          refine li_iadd hx hb d_M_check_272 ?_
                                          refine li_callw (wc := [(mo, .inr (10, [.int (iI mrf), .ref (ma 0), .int (iI mz), .ref (ma 1), .ref (ma 2), .int (iI mls), .int (iI mfp), .int (iI mfm), .ref (ma 3), .int (iI mtx), .ref (ma 4), .ref (ma 5), .int (iI mwd), .ref (ma 6), .ref (ma 7), .int (iI mak), .ref (ma 8), .ref (ma 9), .int (iI mli), .int (iI mlx), .ref (ma 10), .ref (ma 11), .int (iI mat), .int (iI mtk), .int (iI mtf), .int (iI mtt), .int (iI mfa), .int (iI mla), .int (iI mlp), .int (iI mdp), .ref (ma 12), .ref (ma 13), .int (iI msi), .int (iI (bI mdn)), .int (iI mpf), .int (iI mpt)]))]) (wr := [(ma 0, .inl (kA 0, 400, .inl (aI cb))), (ma 1, .inl (kA 0, 4120, .inl (aI ca))), (ma 2, .inl (kA 0, 10, .inl (aI cle)))]) (va_runV (As := [.int (iI (-6)), .int (iI (e1 + 3))]) (rest := []) ⟨hx, hb, hml, hown, hts⟩ (c_M_wrong l dC dI kA H.size mo ma mrf mz mls mfp mfm mtx mwd mak mli mlx mat mtk mtf mtt mfa mla mlp mdp msi mpf mpt mdn (-6) (e1 + 3) ) (cw_M_86 hts rfl rfl ⟨Nat.le_of_ble_eq_true rfl, Nat.le_of_ble_eq_true rfl⟩) (li_preV (va_recv hK hP (ci := 10) (q0 := 0) rfl rfl) ⟨rfl, hP.sub [0] rfl, (hD.sub [0] (by decide) rfl).weaken (fun _ _ _ h => hAN _ h), trivial⟩ hK hN (hG.go hS hAN)) rfl rfl hl.1 rfl (lv_room (Nat.le_of_ble_eq_true rfl)) d_M_check_273 ⟨(by show 0 + 0 ≤ 0; omega), (by show 0 + 0 ≤ 0; omega)⟩) hP hD hS hA [0] [1, 2, 3] rfl rfl (by decide) (by decide) (fun u30 H locs hu30 hP hD hS _hk => ?_)
                                          have hP : va_P (dC, dI) CL [(ma 0, .inl (kA 0, 400, .inl (aI cb))), (ma 1, .inl (kA 0, 4120, .inl (aI ca))), (ma 2, .inl (kA 0, 10, .inl (aI cle))), (mo, .inr (10, [.int (iI mrf), .ref (ma 0), .int (iI mz), .ref (ma 1), .ref (ma 2), .int (iI mls), .int (iI (e1 + 3)), .int (iI mfm), .ref (ma 3), .int (iI mtx), .ref (ma 4), .ref (ma 5), .int (iI mwd), .ref (ma 6), .ref (ma 7), .int (iI mak), .ref (ma 8), .ref (ma 9), .int (iI mli), .int (iI mlx), .ref (ma 10), .ref (ma 11), .int (iI mat), .int (iI mtk), .int (iI mtf), .int (iI mtt), .int (iI mfa), .int (iI mla), .int (iI mlp), .int (iI mdp), .ref (ma 12), .ref (ma 13), .int (iI msi), .int (iI (bI mdn)), .int (iI mpf), .int (iI mpt)]))] H := hP
                                          have hD : va_D A [(ma 0, .inl (kA 0, 400, .inl (aI cb))), (ma 1, .inl (kA 0, 4120, .inl (aI ca))), (ma 2, .inl (kA 0, 10, .inl (aI cle))), (mo, .inr (10, [.int (iI mrf), .ref (ma 0), .int (iI mz), .ref (ma 1), .ref (ma 2), .int (iI mls), .int (iI (e1 + 3)), .int (iI mfm), .ref (ma 3), .int (iI mtx), .ref (ma 4), .ref (ma 5), .int (iI mwd), .ref (ma 6), .ref (ma 7), .int (iI mak), .ref (ma 8), .ref (ma 9), .int (iI mli), .int (iI mlx), .ref (ma 10), .ref (ma 11), .int (iI mat), .int (iI mtk), .int (iI mtf), .int (iI mtt), .int (iI mfa), .int (iI mla), .int (iI mlp), .int (iI mdp), .ref (ma 12), .ref (ma 13), .int (iI msi), .int (iI (bI mdn)), .int (iI mpf), .int (iI mpt)]))] := hD
                                          exact fin ((e1 + 3), (-6)) _ _ _ _ _ (by rfl) (by show ((-6), (e1 + 3)) = ckM cb ca cle mz mfp ∧ -9 ≤ (-6) ∧ (-6) ≤ 0 ∧ ((-6) = 0 → ∃ q : Int, 0 ≤ q ∧ q ≤ 9 ∧ cle q.toNat = 0); refine ⟨by (rw [hck, ← hcf, show ((k - e1) / 12).toNat = ((k - (e1 + 12)) / 12).toNat + 1 by omega]; simp only [cfL]; rw [show cf1 cb mz bs e1 d = (-6, e1 + 3) from by (unfold cf1; rw [if_neg (by rw [ne_eq, Decidable.not_not, decide_eq_decide]; omega), if_neg (by omega), ← ebh2, if_neg (by omega), if_pos (by omega)])]; dsimp only; rw [if_pos (by omega)]; unfold ck4; dsimp only; rw [if_pos (by omega)]), by omega, by omega, fun h => by omega⟩) (by first | exact hP.sub [3, 0, 1, 2] rfl | (subst_vars; exact hP.sub [3, 0, 1, 2] rfl)) (by first | exact hD.sub [3, 0, 1, 2] (by decide) rfl | (subst_vars; exact hD.sub [3, 0, 1, 2] (by decide) rfl)) hS d_M_check_276
                                      · have _q := c28
                                        refine lv_aload_n hx hb d_M_check_237 rfl (lv_at hl 6 rfl) ?_
                                        refine lv_bipush (v := iI (-5)) hx hb d_M_check_238 (by decide) ?_
                                        refine lv_iconst (v := iI (-1)) hx hb d_M_check_240 rfl ?_
                                        refine lv_iload hx hb d_M_check_241 (lv_at hl 0 rfl) ?_
                                        refine li_isub hx hb d_M_check_243 ?_
                                        refine li_callw (wc := [(mo, .inr (10, [.int (iI mrf), .ref (ma 0), .int (iI mz), .ref (ma 1), .ref (ma 2), .int (iI mls), .int (iI mfp), .int (iI mfm), .ref (ma 3), .int (iI mtx), .ref (ma 4), .ref (ma 5), .int (iI mwd), .ref (ma 6), .ref (ma 7), .int (iI mak), .ref (ma 8), .ref (ma 9), .int (iI mli), .int (iI mlx), .ref (ma 10), .ref (ma 11), .int (iI mat), .int (iI mtk), .int (iI mtf), .int (iI mtt), .int (iI mfa), .int (iI mla), .int (iI mlp), .int (iI mdp), .ref (ma 12), .ref (ma 13), .int (iI msi), .int (iI (bI mdn)), .int (iI mpf), .int (iI mpt)]))]) (wr := [(ma 0, .inl (kA 0, 400, .inl (aI cb))), (ma 1, .inl (kA 0, 4120, .inl (aI ca))), (ma 2, .inl (kA 0, 10, .inl (aI cle)))]) (va_runV (As := [.int (iI (-5)), .int (iI ((-1) - bh))]) (rest := []) ⟨hx, hb, hml, hown, hts⟩ (c_M_wrong l dC dI kA H.size mo ma mrf mz mls mfp mfm mtx mwd mak mli mlx mat mtk mtf mtt mfa mla mlp mdp msi mpf mpt mdn (-5) ((-1) - bh) ) (cw_M_86 hts rfl rfl ⟨Nat.le_of_ble_eq_true rfl, Nat.le_of_ble_eq_true rfl⟩) (li_preV (va_recv hK hP (ci := 10) (q0 := 0) rfl rfl) ⟨rfl, hP.sub [0] rfl, (hD.sub [0] (by decide) rfl).weaken (fun _ _ _ h => hAN _ h), trivial⟩ hK hN (hG.go hS hAN)) rfl rfl hl.1 rfl (lv_room (Nat.le_of_ble_eq_true rfl)) d_M_check_244 ⟨(by show 0 + 0 ≤ 0; omega), (by show 0 + 0 ≤ 0; omega)⟩) hP hD hS hA [0] [1, 2, 3] rfl rfl (by decide) (by decide) (fun u31 H locs hu31 hP hD hS _hk => ?_)
                                        have hP : va_P (dC, dI) CL [(ma 0, .inl (kA 0, 400, .inl (aI cb))), (ma 1, .inl (kA 0, 4120, .inl (aI ca))), (ma 2, .inl (kA 0, 10, .inl (aI cle))), (mo, .inr (10, [.int (iI mrf), .ref (ma 0), .int (iI mz), .ref (ma 1), .ref (ma 2), .int (iI mls), .int (iI ((-1) - bh)), .int (iI mfm), .ref (ma 3), .int (iI mtx), .ref (ma 4), .ref (ma 5), .int (iI mwd), .ref (ma 6), .ref (ma 7), .int (iI mak), .ref (ma 8), .ref (ma 9), .int (iI mli), .int (iI mlx), .ref (ma 10), .ref (ma 11), .int (iI mat), .int (iI mtk), .int (iI mtf), .int (iI mtt), .int (iI mfa), .int (iI mla), .int (iI mlp), .int (iI mdp), .ref (ma 12), .ref (ma 13), .int (iI msi), .int (iI (bI mdn)), .int (iI mpf), .int (iI mpt)]))] H := hP
                                        have hD : va_D A [(ma 0, .inl (kA 0, 400, .inl (aI cb))), (ma 1, .inl (kA 0, 4120, .inl (aI ca))), (ma 2, .inl (kA 0, 10, .inl (aI cle))), (mo, .inr (10, [.int (iI mrf), .ref (ma 0), .int (iI mz), .ref (ma 1), .ref (ma 2), .int (iI mls), .int (iI ((-1) - bh)), .int (iI mfm), .ref (ma 3), .int (iI mtx), .ref (ma 4), .ref (ma 5), .int (iI mwd), .ref (ma 6), .ref (ma 7), .int (iI mak), .ref (ma 8), .ref (ma 9), .int (iI mli), .int (iI mlx), .ref (ma 10), .ref (ma 11), .int (iI mat), .int (iI mtk), .int (iI mtf), .int (iI mtt), .int (iI mfa), .int (iI mla), .int (iI mlp), .int (iI mdp), .ref (ma 12), .ref (ma 13), .int (iI msi), .int (iI (bI mdn)), .int (iI mpf), .int (iI mpt)]))] := hD
                                        exact fin (((-1) - bh), (-5)) _ _ _ _ _ (by rfl) (by show ((-5), ((-1) - bh)) = ckM cb ca cle mz mfp ∧ -9 ≤ (-5) ∧ (-5) ≤ 0 ∧ ((-5) = 0 → ∃ q : Int, 0 ≤ q ∧ q ≤ 9 ∧ cle q.toNat = 0); refine ⟨by (rw [hck, ← hcf, show ((k - e1) / 12).toNat = ((k - (e1 + 12)) / 12).toNat + 1 by omega]; simp only [cfL]; rw [show cf1 cb mz bs e1 d = (-5, -1 - bh) from by (unfold cf1; rw [if_neg (by rw [ne_eq, Decidable.not_not, decide_eq_decide]; omega), if_neg (by omega), ← ebh2, if_pos (by omega)])]; dsimp only; rw [if_pos (by omega)]; unfold ck4; dsimp only; rw [if_pos (by omega)]), by omega, by omega, fun h => by omega⟩) (by first | exact hP.sub [3, 0, 1, 2] rfl | (subst_vars; exact hP.sub [3, 0, 1, 2] rfl)) (by first | exact hD.sub [3, 0, 1, 2] (by decide) rfl | (subst_vars; exact hD.sub [3, 0, 1, 2] (by decide) rfl)) hS d_M_check_247
                                  · have _q := c22
                                    have h7 : ¬ numM cb 5 (e1 + 7) 0 = d := by assumption
                                    refine lv_aload_n hx hb d_M_check_199 rfl (lv_at hl 5 rfl) ?_
                                    refine lv_bipush (v := iI (-6)) hx hb d_M_check_200 (by decide) ?_
                                    refine lv_iload hx hb d_M_check_202 (lv_at hl 1 rfl) ?_
                                    refine lv_bipush (v := iI 7) hx hb d_M_check_204 (by decide) ?_
                                    refine li_iadd hx hb d_M_check_206 ?_
                                    refine li_callw (wc := [(mo, .inr (10, [.int (iI mrf), .ref (ma 0), .int (iI mz), .ref (ma 1), .ref (ma 2), .int (iI mls), .int (iI mfp), .int (iI mfm), .ref (ma 3), .int (iI mtx), .ref (ma 4), .ref (ma 5), .int (iI mwd), .ref (ma 6), .ref (ma 7), .int (iI mak), .ref (ma 8), .ref (ma 9), .int (iI mli), .int (iI mlx), .ref (ma 10), .ref (ma 11), .int (iI mat), .int (iI mtk), .int (iI mtf), .int (iI mtt), .int (iI mfa), .int (iI mla), .int (iI mlp), .int (iI mdp), .ref (ma 12), .ref (ma 13), .int (iI msi), .int (iI (bI mdn)), .int (iI mpf), .int (iI mpt)]))]) (wr := [(ma 0, .inl (kA 0, 400, .inl (aI cb))), (ma 1, .inl (kA 0, 4120, .inl (aI ca))), (ma 2, .inl (kA 0, 10, .inl (aI cle)))]) (va_runV (As := [.int (iI (-6)), .int (iI (e1 + 7))]) (rest := []) ⟨hx, hb, hml, hown, hts⟩ (c_M_wrong l dC dI kA H.size mo ma mrf mz mls mfp mfm mtx mwd mak mli mlx mat mtk mtf mtt mfa mla mlp mdp msi mpf mpt mdn (-6) (e1 + 7) ) (cw_M_86 hts rfl rfl ⟨Nat.le_of_ble_eq_true rfl, Nat.le_of_ble_eq_true rfl⟩) (li_preV (va_recv hK hP (ci := 10) (q0 := 0) rfl rfl) ⟨rfl, hP.sub [0] rfl, (hD.sub [0] (by decide) rfl).weaken (fun _ _ _ h => hAN _ h), trivial⟩ hK hN (hG.go hS hAN)) rfl rfl hl.1 rfl (lv_room (Nat.le_of_ble_eq_true rfl)) d_M_check_207 ⟨(by show 0 + 0 ≤ 0; omega), (by show 0 + 0 ≤ 0; omega)⟩) hP hD hS hA [0] [1, 2, 3] rfl rfl (by decide) (by decide) (fun u32 H locs hu32 hP hD hS _hk => ?_)
                                    have hP : va_P (dC, dI) CL [(ma 0, .inl (kA 0, 400, .inl (aI cb))), (ma 1, .inl (kA 0, 4120, .inl (aI ca))), (ma 2, .inl (kA 0, 10, .inl (aI cle))), (mo, .inr (10, [.int (iI mrf), .ref (ma 0), .int (iI mz), .ref (ma 1), .ref (ma 2), .int (iI mls), .int (iI (e1 + 7)), .int (iI mfm), .ref (ma 3), .int (iI mtx), .ref (ma 4), .ref (ma 5), .int (iI mwd), .ref (ma 6), .ref (ma 7), .int (iI mak), .ref (ma 8), .ref (ma 9), .int (iI mli), .int (iI mlx), .ref (ma 10), .ref (ma 11), .int (iI mat), .int (iI mtk), .int (iI mtf), .int (iI mtt), .int (iI mfa), .int (iI mla), .int (iI mlp), .int (iI mdp), .ref (ma 12), .ref (ma 13), .int (iI msi), .int (iI (bI mdn)), .int (iI mpf), .int (iI mpt)]))] H := hP
                                    have hD : va_D A [(ma 0, .inl (kA 0, 400, .inl (aI cb))), (ma 1, .inl (kA 0, 4120, .inl (aI ca))), (ma 2, .inl (kA 0, 10, .inl (aI cle))), (mo, .inr (10, [.int (iI mrf), .ref (ma 0), .int (iI mz), .ref (ma 1), .ref (ma 2), .int (iI mls), .int (iI (e1 + 7)), .int (iI mfm), .ref (ma 3), .int (iI mtx), .ref (ma 4), .ref (ma 5), .int (iI mwd), .ref (ma 6), .ref (ma 7), .int (iI mak), .ref (ma 8), .ref (ma 9), .int (iI mli), .int (iI mlx), .ref (ma 10), .ref (ma 11), .int (iI mat), .int (iI mtk), .int (iI mtf), .int (iI mtt), .int (iI mfa), .int (iI mla), .int (iI mlp), .int (iI mdp), .ref (ma 12), .ref (ma 13), .int (iI msi), .int (iI (bI mdn)), .int (iI mpf), .int (iI mpt)]))] := hD
                                    exact fin ((e1 + 7), (-6)) _ _ _ _ _ (by rfl) (by show ((-6), (e1 + 7)) = ckM cb ca cle mz mfp ∧ -9 ≤ (-6) ∧ (-6) ≤ 0 ∧ ((-6) = 0 → ∃ q : Int, 0 ≤ q ∧ q ≤ 9 ∧ cle q.toNat = 0); refine ⟨by (rw [hck, ← hcf, show ((k - e1) / 12).toNat = ((k - (e1 + 12)) / 12).toNat + 1 by omega]; simp only [cfL]; rw [show cf1 cb mz bs e1 d = (-6, e1 + 7) from by (unfold cf1; rw [if_neg (by rw [ne_eq, Decidable.not_not, decide_eq_decide]; omega), if_pos (by omega)])]; dsimp only; rw [if_pos (by omega)]; unfold ck4; dsimp only; rw [if_pos (by omega)]), by omega, by omega, fun h => by omega⟩) (by first | exact hP.sub [3, 0, 1, 2] rfl | (subst_vars; exact hP.sub [3, 0, 1, 2] rfl)) (by first | exact hD.sub [3, 0, 1, 2] (by decide) rfl | (subst_vars; exact hD.sub [3, 0, 1, 2] (by decide) rfl)) hS d_M_check_210
                                · have _q := c21
                                  exact absurd c21 (by omega)
                              · have _q := c20
                                refine lv_iconst (v := iI 1) hx hb d_M_check_168 rfl ?_
                                refine lv_goto (tgt := 173) hx hb d_M_check_169 (by decide) ?_
                                refine li_icmp_eq (tgt := 185) hx hb d_M_check_173 (by decide) (by omega) (by omega) (fun c33 => ?_) (fun c33 => ?_)
                                · have _q := c33
                                  exact absurd c33 (by omega)
                                · have _q := c33
                                  refine lv_aload_n hx hb d_M_check_176 rfl (lv_at hl 5 rfl) ?_
                                  refine lv_bipush (v := iI (-7)) hx hb d_M_check_177 (by decide) ?_
                                  refine lv_iload hx hb d_M_check_179 (lv_at hl 1 rfl) ?_
                                  refine li_callw (wc := [(mo, .inr (10, [.int (iI mrf), .ref (ma 0), .int (iI mz), .ref (ma 1), .ref (ma 2), .int (iI mls), .int (iI mfp), .int (iI mfm), .ref (ma 3), .int (iI mtx), .ref (ma 4), .ref (ma 5), .int (iI mwd), .ref (ma 6), .ref (ma 7), .int (iI mak), .ref (ma 8), .ref (ma 9), .int (iI mli), .int (iI mlx), .ref (ma 10), .ref (ma 11), .int (iI mat), .int (iI mtk), .int (iI mtf), .int (iI mtt), .int (iI mfa), .int (iI mla), .int (iI mlp), .int (iI mdp), .ref (ma 12), .ref (ma 13), .int (iI msi), .int (iI (bI mdn)), .int (iI mpf), .int (iI mpt)]))]) (wr := [(ma 0, .inl (kA 0, 400, .inl (aI cb))), (ma 1, .inl (kA 0, 4120, .inl (aI ca))), (ma 2, .inl (kA 0, 10, .inl (aI cle)))]) (va_runV (As := [.int (iI (-7)), .int (iI e1)]) (rest := []) ⟨hx, hb, hml, hown, hts⟩ (c_M_wrong l dC dI kA H.size mo ma mrf mz mls mfp mfm mtx mwd mak mli mlx mat mtk mtf mtt mfa mla mlp mdp msi mpf mpt mdn (-7) e1 ) (cw_M_86 hts rfl rfl ⟨Nat.le_of_ble_eq_true rfl, Nat.le_of_ble_eq_true rfl⟩) (li_preV (va_recv hK hP (ci := 10) (q0 := 0) rfl rfl) ⟨rfl, hP.sub [0] rfl, (hD.sub [0] (by decide) rfl).weaken (fun _ _ _ h => hAN _ h), trivial⟩ hK hN (hG.go hS hAN)) rfl rfl hl.1 rfl (lv_room (Nat.le_of_ble_eq_true rfl)) d_M_check_181 ⟨(by show 0 + 0 ≤ 0; omega), (by show 0 + 0 ≤ 0; omega)⟩) hP hD hS hA [0] [1, 2, 3] rfl rfl (by decide) (by decide) (fun u34 H locs hu34 hP hD hS _hk => ?_)
                                  have hP : va_P (dC, dI) CL [(ma 0, .inl (kA 0, 400, .inl (aI cb))), (ma 1, .inl (kA 0, 4120, .inl (aI ca))), (ma 2, .inl (kA 0, 10, .inl (aI cle))), (mo, .inr (10, [.int (iI mrf), .ref (ma 0), .int (iI mz), .ref (ma 1), .ref (ma 2), .int (iI mls), .int (iI e1), .int (iI mfm), .ref (ma 3), .int (iI mtx), .ref (ma 4), .ref (ma 5), .int (iI mwd), .ref (ma 6), .ref (ma 7), .int (iI mak), .ref (ma 8), .ref (ma 9), .int (iI mli), .int (iI mlx), .ref (ma 10), .ref (ma 11), .int (iI mat), .int (iI mtk), .int (iI mtf), .int (iI mtt), .int (iI mfa), .int (iI mla), .int (iI mlp), .int (iI mdp), .ref (ma 12), .ref (ma 13), .int (iI msi), .int (iI (bI mdn)), .int (iI mpf), .int (iI mpt)]))] H := hP
                                  have hD : va_D A [(ma 0, .inl (kA 0, 400, .inl (aI cb))), (ma 1, .inl (kA 0, 4120, .inl (aI ca))), (ma 2, .inl (kA 0, 10, .inl (aI cle))), (mo, .inr (10, [.int (iI mrf), .ref (ma 0), .int (iI mz), .ref (ma 1), .ref (ma 2), .int (iI mls), .int (iI e1), .int (iI mfm), .ref (ma 3), .int (iI mtx), .ref (ma 4), .ref (ma 5), .int (iI mwd), .ref (ma 6), .ref (ma 7), .int (iI mak), .ref (ma 8), .ref (ma 9), .int (iI mli), .int (iI mlx), .ref (ma 10), .ref (ma 11), .int (iI mat), .int (iI mtk), .int (iI mtf), .int (iI mtt), .int (iI mfa), .int (iI mla), .int (iI mlp), .int (iI mdp), .ref (ma 12), .ref (ma 13), .int (iI msi), .int (iI (bI mdn)), .int (iI mpf), .int (iI mpt)]))] := hD
                                  exact fin (e1, (-7)) _ _ _ _ _ (by rfl) (by show ((-7), e1) = ckM cb ca cle mz mfp ∧ -9 ≤ (-7) ∧ (-7) ≤ 0 ∧ ((-7) = 0 → ∃ q : Int, 0 ≤ q ∧ q ≤ 9 ∧ cle q.toNat = 0); refine ⟨by (rw [hck, ← hcf, show ((k - e1) / 12).toNat = ((k - (e1 + 12)) / 12).toNat + 1 by omega]; simp only [cfL]; rw [show cf1 cb mz bs e1 d = (-7, e1) from by (unfold cf1; rw [if_pos (by rw [ne_eq, decide_eq_decide]; omega)])]; dsimp only; rw [if_pos (by omega)]; unfold ck4; dsimp only; rw [if_pos (by omega)]), by omega, by omega, fun h => by omega⟩) (by first | exact hP.sub [3, 0, 1, 2] rfl | (subst_vars; exact hP.sub [3, 0, 1, 2] rfl)) (by first | exact hD.sub [3, 0, 1, 2] (by decide) rfl | (subst_vars; exact hD.sub [3, 0, 1, 2] (by decide) rfl)) hS d_M_check_184
                            · have _q := c19
                              refine lv_iconst (v := iI 1) hx hb d_M_check_157 rfl ?_
                              refine lv_goto (tgt := 162) hx hb d_M_check_158 (by decide) ?_
                              refine lv_iload hx hb d_M_check_162 (lv_at hl 0 rfl) ?_
                              refine lv_iconst (v := iI 1) hx hb d_M_check_164 rfl ?_
                              refine li_icmp_ne (tgt := 172) hx hb d_M_check_165 (by decide) (by first | omega | (have h8 := numM_3 hcb (x := e1); omega)) (by first | omega | (have h8 := numM_3 hcb (x := e1); omega)) (fun c35 => ?_) (fun c35 => ?_)
                              · have _q := c35
                                refine lv_iconst (v := iI 0) hx hb d_M_check_172 rfl ?_
                                refine li_icmp_eq (tgt := 185) hx hb d_M_check_173 (by decide) (by omega) (by omega) (fun c36 => ?_) (fun c36 => ?_)
                                · have _q := c36
                                  exact absurd c36 (by omega)
                                · have _q := c36
                                  refine lv_aload_n hx hb d_M_check_176 rfl (lv_at hl 5 rfl) ?_
                                  refine lv_bipush (v := iI (-7)) hx hb d_M_check_177 (by decide) ?_
                                  refine lv_iload hx hb d_M_check_179 (lv_at hl 1 rfl) ?_
                                  refine li_callw (wc := [(mo, .inr (10, [.int (iI mrf), .ref (ma 0), .int (iI mz), .ref (ma 1), .ref (ma 2), .int (iI mls), .int (iI mfp), .int (iI mfm), .ref (ma 3), .int (iI mtx), .ref (ma 4), .ref (ma 5), .int (iI mwd), .ref (ma 6), .ref (ma 7), .int (iI mak), .ref (ma 8), .ref (ma 9), .int (iI mli), .int (iI mlx), .ref (ma 10), .ref (ma 11), .int (iI mat), .int (iI mtk), .int (iI mtf), .int (iI mtt), .int (iI mfa), .int (iI mla), .int (iI mlp), .int (iI mdp), .ref (ma 12), .ref (ma 13), .int (iI msi), .int (iI (bI mdn)), .int (iI mpf), .int (iI mpt)]))]) (wr := [(ma 0, .inl (kA 0, 400, .inl (aI cb))), (ma 1, .inl (kA 0, 4120, .inl (aI ca))), (ma 2, .inl (kA 0, 10, .inl (aI cle)))]) (va_runV (As := [.int (iI (-7)), .int (iI e1)]) (rest := []) ⟨hx, hb, hml, hown, hts⟩ (c_M_wrong l dC dI kA H.size mo ma mrf mz mls mfp mfm mtx mwd mak mli mlx mat mtk mtf mtt mfa mla mlp mdp msi mpf mpt mdn (-7) e1 ) (cw_M_86 hts rfl rfl ⟨Nat.le_of_ble_eq_true rfl, Nat.le_of_ble_eq_true rfl⟩) (li_preV (va_recv hK hP (ci := 10) (q0 := 0) rfl rfl) ⟨rfl, hP.sub [0] rfl, (hD.sub [0] (by decide) rfl).weaken (fun _ _ _ h => hAN _ h), trivial⟩ hK hN (hG.go hS hAN)) rfl rfl hl.1 rfl (lv_room (Nat.le_of_ble_eq_true rfl)) d_M_check_181 ⟨(by show 0 + 0 ≤ 0; omega), (by show 0 + 0 ≤ 0; omega)⟩) hP hD hS hA [0] [1, 2, 3] rfl rfl (by decide) (by decide) (fun u37 H locs hu37 hP hD hS _hk => ?_)
                                  have hP : va_P (dC, dI) CL [(ma 0, .inl (kA 0, 400, .inl (aI cb))), (ma 1, .inl (kA 0, 4120, .inl (aI ca))), (ma 2, .inl (kA 0, 10, .inl (aI cle))), (mo, .inr (10, [.int (iI mrf), .ref (ma 0), .int (iI mz), .ref (ma 1), .ref (ma 2), .int (iI mls), .int (iI e1), .int (iI mfm), .ref (ma 3), .int (iI mtx), .ref (ma 4), .ref (ma 5), .int (iI mwd), .ref (ma 6), .ref (ma 7), .int (iI mak), .ref (ma 8), .ref (ma 9), .int (iI mli), .int (iI mlx), .ref (ma 10), .ref (ma 11), .int (iI mat), .int (iI mtk), .int (iI mtf), .int (iI mtt), .int (iI mfa), .int (iI mla), .int (iI mlp), .int (iI mdp), .ref (ma 12), .ref (ma 13), .int (iI msi), .int (iI (bI mdn)), .int (iI mpf), .int (iI mpt)]))] H := hP
                                  have hD : va_D A [(ma 0, .inl (kA 0, 400, .inl (aI cb))), (ma 1, .inl (kA 0, 4120, .inl (aI ca))), (ma 2, .inl (kA 0, 10, .inl (aI cle))), (mo, .inr (10, [.int (iI mrf), .ref (ma 0), .int (iI mz), .ref (ma 1), .ref (ma 2), .int (iI mls), .int (iI e1), .int (iI mfm), .ref (ma 3), .int (iI mtx), .ref (ma 4), .ref (ma 5), .int (iI mwd), .ref (ma 6), .ref (ma 7), .int (iI mak), .ref (ma 8), .ref (ma 9), .int (iI mli), .int (iI mlx), .ref (ma 10), .ref (ma 11), .int (iI mat), .int (iI mtk), .int (iI mtf), .int (iI mtt), .int (iI mfa), .int (iI mla), .int (iI mlp), .int (iI mdp), .ref (ma 12), .ref (ma 13), .int (iI msi), .int (iI (bI mdn)), .int (iI mpf), .int (iI mpt)]))] := hD
                                  exact fin (e1, (-7)) _ _ _ _ _ (by rfl) (by show ((-7), e1) = ckM cb ca cle mz mfp ∧ -9 ≤ (-7) ∧ (-7) ≤ 0 ∧ ((-7) = 0 → ∃ q : Int, 0 ≤ q ∧ q ≤ 9 ∧ cle q.toNat = 0); refine ⟨by (rw [hck, ← hcf, show ((k - e1) / 12).toNat = ((k - (e1 + 12)) / 12).toNat + 1 by omega]; simp only [cfL]; rw [show cf1 cb mz bs e1 d = (-7, e1) from by (unfold cf1; rw [if_pos (by rw [ne_eq, decide_eq_decide]; omega)])]; dsimp only; rw [if_pos (by omega)]; unfold ck4; dsimp only; rw [if_pos (by omega)]), by omega, by omega, fun h => by omega⟩) (by first | exact hP.sub [3, 0, 1, 2] rfl | (subst_vars; exact hP.sub [3, 0, 1, 2] rfl)) (by first | exact hD.sub [3, 0, 1, 2] (by decide) rfl | (subst_vars; exact hD.sub [3, 0, 1, 2] (by decide) rfl)) hS d_M_check_184
                              · have _q := c35
                                refine lv_iconst (v := iI 1) hx hb d_M_check_168 rfl ?_
                                refine lv_goto (tgt := 173) hx hb d_M_check_169 (by decide) ?_
                                refine li_icmp_eq (tgt := 185) hx hb d_M_check_173 (by decide) (by omega) (by omega) (fun c38 => ?_) (fun c38 => ?_)
                                · have _q := c38
                                  refine lv_aload_n hx hb d_M_check_185 rfl (lv_at hl 5 rfl) ?_
                                  refine lv_iload hx hb d_M_check_186 (lv_at hl 1 rfl) ?_
                                  refine lv_bipush (v := iI 7) hx hb d_M_check_188 (by decide) ?_
                                  refine li_iadd hx hb d_M_check_190 ?_
                                  refine lv_iconst (v := iI 5) hx hb d_M_check_191 rfl ?_
                                  refine li_callr ((va_runV (As := [.int (iI (e1 + 7)), .int (iI 5)]) (rest := []) ⟨hx, hb, hml, hown, hts⟩ (c_M_number l dC dI kA mo ma mrf mz mls mfp mfm mtx mwd mak mli mlx mat mtk mtf mtt mfa mla mlp mdp msi mpf mpt mdn cb (e1 + 7) 5 (by omega)) (cw_M_90 hts rfl rfl ⟨Nat.le_of_ble_eq_true rfl, Nat.le_of_ble_eq_true rfl⟩) (li_preV (va_recv hK hP (ci := 10) (q0 := 0) rfl rfl) (hP.sub [0, 1] rfl) hK hN (hG.go hS hAN)) rfl rfl hl.1 rfl (lv_room (Nat.le_of_ble_eq_true rfl)) d_M_check_192 ⟨(by show 0 + 0 ≤ 0; omega), (by show 0 + 0 ≤ 0; omega)⟩).run) ?_
                                  refine W.eq (g2 := F0 m 195 ls [.int (iI (numM cb 5 (e1 + 7) 0))]) rfl ?_
                                  refine lv_iload_n hx hb d_M_check_195 rfl (lv_at hl 2 rfl) ?_
                                  refine li_icmp_eq (tgt := 211) hx hb d_M_check_196 (by decide) (by first | omega | (have h8 := numM_5 hcb (x := e1 + 7); omega)) (by first | omega | (have h8 := numM_5 hcb (x := e1 + 7); omega)) (fun c39 => ?_) (fun c39 => ?_)
                                  · have _q := c39
                                    have h7 : numM cb 5 (e1 + 7) 0 = d := by assumption
                                    refine lv_aload_n hx hb d_M_check_211 rfl (lv_at hl 5 rfl) ?_
                                    refine lv_iload_n hx hb d_M_check_212 rfl (lv_at hl 3 rfl) ?_
                                    refine lv_iload_n hx hb d_M_check_213 rfl (lv_at hl 2 rfl) ?_
                                    refine li_iadd hx hb d_M_check_214 ?_
                                    refine lv_iload hx hb d_M_check_215 (lv_at hl 0 rfl) ?_
                                    refine lv_bipush (v := iI 10) hx hb d_M_check_217 (by decide) ?_
                                    refine li_icmp_ge (tgt := 226) hx hb d_M_check_219 (by decide) (by first | omega | (have h8 := numM_3 hcb (x := e1); omega)) (by first | omega | (have h8 := numM_3 hcb (x := e1); omega)) (fun c40 => ?_) (fun c40 => ?_)
                                    · have _q := c40
                                      have hpl : decide (numM cb 3 e1 0 < 10) = false := decide_eq_false (by omega)
                                      refine lv_iconst (v := iI 0) hx hb d_M_check_226 rfl ?_
                                      refine li_callr ((va_runV (As := [.int (iI (bs + d)), .int (iI 0)]) (rest := []) ⟨hx, hb, hml, hown, hts⟩ (c_M_along l dC dI kA mo ma mrf mz mls mfp mfm mtx mwd mak mli mlx mat mtk mtf mtt mfa mla mlp mdp msi mpf mpt mdn cb (bs + d) false (by exact hcb) (by exact hz) (by omega)) (cw_M_93 hts rfl rfl ⟨Nat.le_of_ble_eq_true rfl, Nat.le_of_ble_eq_true rfl⟩) (li_preV (va_recv hK hP (ci := 10) (q0 := 0) rfl rfl) (hP.sub [0, 1] rfl) hK hN (hG.go hS hAN)) rfl rfl hl.1 rfl (lv_room (Nat.le_of_ble_eq_true rfl)) d_M_check_227 ⟨(by show 0 + 0 ≤ 0; omega), (by show 0 + 0 ≤ 0; omega)⟩).run) ?_
                                      refine li_nm (fun bh ebh => ?_)
                                      refine lv_istore (lv' := [(6, .int (iI bh)), (5, .int (iI tag)), (4, .int (iI e1)), (3, .int (iI d)), (2, .int (iI bs)), (1, .int (iI k)), (0, .ref mo)]) hx hb d_M_check_230 hl (by decide) rfl (fun ls hl => ?_)
                                      have ebh2 : bh = alM cb mz (decide (numM cb 3 e1 0 < 10)) (bs + d) := by rw [hpl]; exact ebh
                                      have hbr := alM_b (cb := cb) (mz := mz) (b := decide (numM cb 3 e1 0 < 10)) (x := bs + d) (by omega) (by omega)
                                      rw [← ebh2] at hbr
                                      refine lv_iload hx hb d_M_check_232 (lv_at hl 0 rfl) ?_
                                      refine li_if_ge (tgt := 248) hx hb d_M_check_234 (by decide) (by omega) (fun c41 => ?_) (fun c41 => ?_)
                                      · have _q := c41
                                        have hal := alM_r (cb := cb) (mz := mz) (b := decide (numM cb 3 e1 0 < 10)) (x := bs + d) (by omega) (by omega) (by rw [← ebh2]; omega)
                                        rw [← ebh2] at hal
                                        refine lv_aload_n hx hb d_M_check_248 rfl (lv_at hl 6 rfl) ?_
                                        refine lv_iload hx hb d_M_check_249 (lv_at hl 2 rfl) ?_
                                        refine lv_iconst (v := iI 3) hx hb d_M_check_251 rfl ?_
                                        refine li_iadd hx hb d_M_check_252 ?_
                                        refine lv_iconst (v := iI 4) hx hb d_M_check_253 rfl ?_
                                        refine li_callr ((va_runV (As := [.int (iI (e1 + 3)), .int (iI 4)]) (rest := []) ⟨hx, hb, hml, hown, hts⟩ (c_M_number l dC dI kA mo ma mrf mz mls mfp mfm mtx mwd mak mli mlx mat mtk mtf mtt mfa mla mlp mdp msi mpf mpt mdn cb (e1 + 3) 4 (by omega)) (cw_M_90 hts rfl rfl ⟨Nat.le_of_ble_eq_true rfl, Nat.le_of_ble_eq_true rfl⟩) (li_preV (va_recv hK hP (ci := 10) (q0 := 0) rfl rfl) (hP.sub [0, 1] rfl) hK hN (hG.go hS hAN)) rfl rfl hl.1 rfl (lv_room (Nat.le_of_ble_eq_true rfl)) d_M_check_254 ⟨(by show 0 + 0 ≤ 0; omega), (by show 0 + 0 ≤ 0; omega)⟩).run) ?_
                                        refine W.eq (g2 := F0 m 257 ls [.int (iI (numM cb 4 (e1 + 3) 0))]) rfl ?_
                                        refine lv_iload hx hb d_M_check_257 (lv_at hl 0 rfl) ?_
                                        refine lv_iload_n hx hb d_M_check_259 rfl (lv_at hl 4 rfl) ?_
                                        refine li_isub hx hb d_M_check_260 ?_
                                        refine lv_iload_n hx hb d_M_check_261 rfl (lv_at hl 3 rfl) ?_
                                        refine li_isub hx hb d_M_check_262 ?_
                                        refine li_icmp_eq (tgt := 277) hx hb d_M_check_263 (by decide) (by first | omega | (have h8 := numM_4 hcb (x := e1 + 3); omega)) (by first | omega | (have h8 := numM_4 hcb (x := e1 + 3); omega)) (fun c42 => ?_) (fun c42 => ?_)
                                        · have _q := c42
                                          have h3 : numM cb 4 (e1 + 3) 0 = bh - bs - d := by assumption
                                          refine lv_iload hx hb d_M_check_277 (lv_at hl 0 rfl) ?_
                                          refine lv_iload_n hx hb d_M_check_279 rfl (lv_at hl 4 rfl) ?_
                                          refine li_isub hx hb d_M_check_280 ?_
                                          refine li_nm (fun d_n ed_n => ?_)
                                          refine lv_istore_n (lv' := [(3, .int (iI d_n)), (6, .int (iI bh)), (5, .int (iI tag)), (4, .int (iI e1)), (2, .int (iI bs)), (1, .int (iI k)), (0, .ref mo)]) hx hb d_M_check_281 rfl hl (by decide) rfl (fun ls hl => ?_)
                                          refine lv_iload hx hb d_M_check_282 (lv_at hl 3 rfl) ?_
                                          refine lv_bipush (v := iI 12) hx hb d_M_check_284 (by decide) ?_
                                          refine li_iadd hx hb d_M_check_286 ?_
                                          refine li_nm (fun e_n ee_n => ?_)
                                          refine lv_istore (lv' := [(4, .int (iI e_n)), (3, .int (iI d_n)), (6, .int (iI bh)), (5, .int (iI tag)), (2, .int (iI bs)), (1, .int (iI k)), (0, .ref mo)]) hx hb d_M_check_287 hl (by decide) rfl (fun ls hl => ?_)
                                          refine lv_goto (tgt := 135) hx hb d_M_check_289 (by decide) ?_
                                          exact ih_135 e_n d_n (by omega) (by omega) (by intro _; exact ⟨bh - 1, by omega, by omega, byM_cb hal.2.2 (by omega)⟩) (by rw [← hcf, show ((k - e1) / 12).toNat = ((k - (e1 + 12)) / 12).toNat + 1 by omega, ee_n, ed_n]; simp only [cfL]; rw [show cf1 cb mz bs e1 d = (0, bh - bs) from by (unfold cf1; rw [if_neg (by rw [ne_eq, Decidable.not_not, decide_eq_decide]; omega), if_neg (by omega), ← ebh2, if_neg (by omega), if_neg (by omega)])]; dsimp only; rw [if_neg (by omega)]) (by omega) _ _ hP hD hS _ (lv_sub hl [0, 1, 4, 5, 6] rfl)
                                        · have _q := c42
                                          have h3 : ¬ numM cb 4 (e1 + 3) 0 = bh - bs - d := by assumption
                                          refine lv_aload_n hx hb d_M_check_266 rfl (lv_at hl 6 rfl) ?_
                                          refine lv_bipush (v := iI (-6)) hx hb d_M_check_267 (by decide) ?_
                                          refine lv_iload hx hb d_M_check_269 (lv_at hl 2 rfl) ?_
                                          refine lv_iconst (v := iI 3) hx hb d_M_check_271 rfl ?_
                                          refine li_iadd hx hb d_M_check_272 ?_
                                          refine li_callw (wc := [(mo, .inr (10, [.int (iI mrf), .ref (ma 0), .int (iI mz), .ref (ma 1), .ref (ma 2), .int (iI mls), .int (iI mfp), .int (iI mfm), .ref (ma 3), .int (iI mtx), .ref (ma 4), .ref (ma 5), .int (iI mwd), .ref (ma 6), .ref (ma 7), .int (iI mak), .ref (ma 8), .ref (ma 9), .int (iI mli), .int (iI mlx), .ref (ma 10), .ref (ma 11), .int (iI mat), .int (iI mtk), .int (iI mtf), .int (iI mtt), .int (iI mfa), .int (iI mla), .int (iI mlp), .int (iI mdp), .ref (ma 12), .ref (ma 13), .int (iI msi), .int (iI (bI mdn)), .int (iI mpf), .int (iI mpt)]))]) (wr := [(ma 0, .inl (kA 0, 400, .inl (aI cb))), (ma 1, .inl (kA 0, 4120, .inl (aI ca))), (ma 2, .inl (kA 0, 10, .inl (aI cle)))]) (va_runV (As := [.int (iI (-6)), .int (iI (e1 + 3))]) (rest := []) ⟨hx, hb, hml, hown, hts⟩ (c_M_wrong l dC dI kA H.size mo ma mrf mz mls mfp mfm mtx mwd mak mli mlx mat mtk mtf mtt mfa mla mlp mdp msi mpf mpt mdn (-6) (e1 + 3) ) (cw_M_86 hts rfl rfl ⟨Nat.le_of_ble_eq_true rfl, Nat.le_of_ble_eq_true rfl⟩) (li_preV (va_recv hK hP (ci := 10) (q0 := 0) rfl rfl) ⟨rfl, hP.sub [0] rfl, (hD.sub [0] (by decide) rfl).weaken (fun _ _ _ h => hAN _ h), trivial⟩ hK hN (hG.go hS hAN)) rfl rfl hl.1 rfl (lv_room (Nat.le_of_ble_eq_true rfl)) d_M_check_273 ⟨(by show 0 + 0 ≤ 0; omega), (by show 0 + 0 ≤ 0; omega)⟩) hP hD hS hA [0] [1, 2, 3] rfl rfl (by decide) (by decide) (fun u43 H locs hu43 hP hD hS _hk => ?_)
                                          have hP : va_P (dC, dI) CL [(ma 0, .inl (kA 0, 400, .inl (aI cb))), (ma 1, .inl (kA 0, 4120, .inl (aI ca))), (ma 2, .inl (kA 0, 10, .inl (aI cle))), (mo, .inr (10, [.int (iI mrf), .ref (ma 0), .int (iI mz), .ref (ma 1), .ref (ma 2), .int (iI mls), .int (iI (e1 + 3)), .int (iI mfm), .ref (ma 3), .int (iI mtx), .ref (ma 4), .ref (ma 5), .int (iI mwd), .ref (ma 6), .ref (ma 7), .int (iI mak), .ref (ma 8), .ref (ma 9), .int (iI mli), .int (iI mlx), .ref (ma 10), .ref (ma 11), .int (iI mat), .int (iI mtk), .int (iI mtf), .int (iI mtt), .int (iI mfa), .int (iI mla), .int (iI mlp), .int (iI mdp), .ref (ma 12), .ref (ma 13), .int (iI msi), .int (iI (bI mdn)), .int (iI mpf), .int (iI mpt)]))] H := hP
                                          have hD : va_D A [(ma 0, .inl (kA 0, 400, .inl (aI cb))), (ma 1, .inl (kA 0, 4120, .inl (aI ca))), (ma 2, .inl (kA 0, 10, .inl (aI cle))), (mo, .inr (10, [.int (iI mrf), .ref (ma 0), .int (iI mz), .ref (ma 1), .ref (ma 2), .int (iI mls), .int (iI (e1 + 3)), .int (iI mfm), .ref (ma 3), .int (iI mtx), .ref (ma 4), .ref (ma 5), .int (iI mwd), .ref (ma 6), .ref (ma 7), .int (iI mak), .ref (ma 8), .ref (ma 9), .int (iI mli), .int (iI mlx), .ref (ma 10), .ref (ma 11), .int (iI mat), .int (iI mtk), .int (iI mtf), .int (iI mtt), .int (iI mfa), .int (iI mla), .int (iI mlp), .int (iI mdp), .ref (ma 12), .ref (ma 13), .int (iI msi), .int (iI (bI mdn)), .int (iI mpf), .int (iI mpt)]))] := hD
                                          exact fin ((e1 + 3), (-6)) _ _ _ _ _ (by rfl) (by show ((-6), (e1 + 3)) = ckM cb ca cle mz mfp ∧ -9 ≤ (-6) ∧ (-6) ≤ 0 ∧ ((-6) = 0 → ∃ q : Int, 0 ≤ q ∧ q ≤ 9 ∧ cle q.toNat = 0); refine ⟨by (rw [hck, ← hcf, show ((k - e1) / 12).toNat = ((k - (e1 + 12)) / 12).toNat + 1 by omega]; simp only [cfL]; rw [show cf1 cb mz bs e1 d = (-6, e1 + 3) from by (unfold cf1; rw [if_neg (by rw [ne_eq, Decidable.not_not, decide_eq_decide]; omega), if_neg (by omega), ← ebh2, if_neg (by omega), if_pos (by omega)])]; dsimp only; rw [if_pos (by omega)]; unfold ck4; dsimp only; rw [if_pos (by omega)]), by omega, by omega, fun h => by omega⟩) (by first | exact hP.sub [3, 0, 1, 2] rfl | (subst_vars; exact hP.sub [3, 0, 1, 2] rfl)) (by first | exact hD.sub [3, 0, 1, 2] (by decide) rfl | (subst_vars; exact hD.sub [3, 0, 1, 2] (by decide) rfl)) hS d_M_check_276
                                      · have _q := c41
                                        refine lv_aload_n hx hb d_M_check_237 rfl (lv_at hl 6 rfl) ?_
                                        refine lv_bipush (v := iI (-5)) hx hb d_M_check_238 (by decide) ?_
                                        refine lv_iconst (v := iI (-1)) hx hb d_M_check_240 rfl ?_
                                        refine lv_iload hx hb d_M_check_241 (lv_at hl 0 rfl) ?_
                                        refine li_isub hx hb d_M_check_243 ?_
                                        refine li_callw (wc := [(mo, .inr (10, [.int (iI mrf), .ref (ma 0), .int (iI mz), .ref (ma 1), .ref (ma 2), .int (iI mls), .int (iI mfp), .int (iI mfm), .ref (ma 3), .int (iI mtx), .ref (ma 4), .ref (ma 5), .int (iI mwd), .ref (ma 6), .ref (ma 7), .int (iI mak), .ref (ma 8), .ref (ma 9), .int (iI mli), .int (iI mlx), .ref (ma 10), .ref (ma 11), .int (iI mat), .int (iI mtk), .int (iI mtf), .int (iI mtt), .int (iI mfa), .int (iI mla), .int (iI mlp), .int (iI mdp), .ref (ma 12), .ref (ma 13), .int (iI msi), .int (iI (bI mdn)), .int (iI mpf), .int (iI mpt)]))]) (wr := [(ma 0, .inl (kA 0, 400, .inl (aI cb))), (ma 1, .inl (kA 0, 4120, .inl (aI ca))), (ma 2, .inl (kA 0, 10, .inl (aI cle)))]) (va_runV (As := [.int (iI (-5)), .int (iI ((-1) - bh))]) (rest := []) ⟨hx, hb, hml, hown, hts⟩ (c_M_wrong l dC dI kA H.size mo ma mrf mz mls mfp mfm mtx mwd mak mli mlx mat mtk mtf mtt mfa mla mlp mdp msi mpf mpt mdn (-5) ((-1) - bh) ) (cw_M_86 hts rfl rfl ⟨Nat.le_of_ble_eq_true rfl, Nat.le_of_ble_eq_true rfl⟩) (li_preV (va_recv hK hP (ci := 10) (q0 := 0) rfl rfl) ⟨rfl, hP.sub [0] rfl, (hD.sub [0] (by decide) rfl).weaken (fun _ _ _ h => hAN _ h), trivial⟩ hK hN (hG.go hS hAN)) rfl rfl hl.1 rfl (lv_room (Nat.le_of_ble_eq_true rfl)) d_M_check_244 ⟨(by show 0 + 0 ≤ 0; omega), (by show 0 + 0 ≤ 0; omega)⟩) hP hD hS hA [0] [1, 2, 3] rfl rfl (by decide) (by decide) (fun u44 H locs hu44 hP hD hS _hk => ?_)
                                        have hP : va_P (dC, dI) CL [(ma 0, .inl (kA 0, 400, .inl (aI cb))), (ma 1, .inl (kA 0, 4120, .inl (aI ca))), (ma 2, .inl (kA 0, 10, .inl (aI cle))), (mo, .inr (10, [.int (iI mrf), .ref (ma 0), .int (iI mz), .ref (ma 1), .ref (ma 2), .int (iI mls), .int (iI ((-1) - bh)), .int (iI mfm), .ref (ma 3), .int (iI mtx), .ref (ma 4), .ref (ma 5), .int (iI mwd), .ref (ma 6), .ref (ma 7), .int (iI mak), .ref (ma 8), .ref (ma 9), .int (iI mli), .int (iI mlx), .ref (ma 10), .ref (ma 11), .int (iI mat), .int (iI mtk), .int (iI mtf), .int (iI mtt), .int (iI mfa), .int (iI mla), .int (iI mlp), .int (iI mdp), .ref (ma 12), .ref (ma 13), .int (iI msi), .int (iI (bI mdn)), .int (iI mpf), .int (iI mpt)]))] H := hP
                                        have hD : va_D A [(ma 0, .inl (kA 0, 400, .inl (aI cb))), (ma 1, .inl (kA 0, 4120, .inl (aI ca))), (ma 2, .inl (kA 0, 10, .inl (aI cle))), (mo, .inr (10, [.int (iI mrf), .ref (ma 0), .int (iI mz), .ref (ma 1), .ref (ma 2), .int (iI mls), .int (iI ((-1) - bh)), .int (iI mfm), .ref (ma 3), .int (iI mtx), .ref (ma 4), .ref (ma 5), .int (iI mwd), .ref (ma 6), .ref (ma 7), .int (iI mak), .ref (ma 8), .ref (ma 9), .int (iI mli), .int (iI mlx), .ref (ma 10), .ref (ma 11), .int (iI mat), .int (iI mtk), .int (iI mtf), .int (iI mtt), .int (iI mfa), .int (iI mla), .int (iI mlp), .int (iI mdp), .ref (ma 12), .ref (ma 13), .int (iI msi), .int (iI (bI mdn)), .int (iI mpf), .int (iI mpt)]))] := hD
                                        exact fin (((-1) - bh), (-5)) _ _ _ _ _ (by rfl) (by show ((-5), ((-1) - bh)) = ckM cb ca cle mz mfp ∧ -9 ≤ (-5) ∧ (-5) ≤ 0 ∧ ((-5) = 0 → ∃ q : Int, 0 ≤ q ∧ q ≤ 9 ∧ cle q.toNat = 0); refine ⟨by (rw [hck, ← hcf, show ((k - e1) / 12).toNat = ((k - (e1 + 12)) / 12).toNat + 1 by omega]; simp only [cfL]; rw [show cf1 cb mz bs e1 d = (-5, -1 - bh) from by (unfold cf1; rw [if_neg (by rw [ne_eq, Decidable.not_not, decide_eq_decide]; omega), if_neg (by omega), ← ebh2, if_pos (by omega)])]; dsimp only; rw [if_pos (by omega)]; unfold ck4; dsimp only; rw [if_pos (by omega)]), by omega, by omega, fun h => by omega⟩) (by first | exact hP.sub [3, 0, 1, 2] rfl | (subst_vars; exact hP.sub [3, 0, 1, 2] rfl)) (by first | exact hD.sub [3, 0, 1, 2] (by decide) rfl | (subst_vars; exact hD.sub [3, 0, 1, 2] (by decide) rfl)) hS d_M_check_247
                                    · have _q := c40
                                      have hpl : decide (numM cb 3 e1 0 < 10) = true := decide_eq_true (by omega)
                                      refine lv_iconst (v := iI 1) hx hb d_M_check_222 rfl ?_
                                      refine lv_goto (tgt := 227) hx hb d_M_check_223 (by decide) ?_
                                      refine li_callr ((va_runV (As := [.int (iI (bs + d)), .int (iI 1)]) (rest := []) ⟨hx, hb, hml, hown, hts⟩ (c_M_along l dC dI kA mo ma mrf mz mls mfp mfm mtx mwd mak mli mlx mat mtk mtf mtt mfa mla mlp mdp msi mpf mpt mdn cb (bs + d) true (by exact hcb) (by exact hz) (by omega)) (cw_M_93 hts rfl rfl ⟨Nat.le_of_ble_eq_true rfl, Nat.le_of_ble_eq_true rfl⟩) (li_preV (va_recv hK hP (ci := 10) (q0 := 0) rfl rfl) (hP.sub [0, 1] rfl) hK hN (hG.go hS hAN)) rfl rfl hl.1 rfl (lv_room (Nat.le_of_ble_eq_true rfl)) d_M_check_227 ⟨(by show 0 + 0 ≤ 0; omega), (by show 0 + 0 ≤ 0; omega)⟩).run) ?_
                                      refine li_nm (fun bh ebh => ?_)
                                      refine lv_istore (lv' := [(6, .int (iI bh)), (5, .int (iI tag)), (4, .int (iI e1)), (3, .int (iI d)), (2, .int (iI bs)), (1, .int (iI k)), (0, .ref mo)]) hx hb d_M_check_230 hl (by decide) rfl (fun ls hl => ?_)
                                      have ebh2 : bh = alM cb mz (decide (numM cb 3 e1 0 < 10)) (bs + d) := by rw [hpl]; exact ebh
                                      have hbr := alM_b (cb := cb) (mz := mz) (b := decide (numM cb 3 e1 0 < 10)) (x := bs + d) (by omega) (by omega)
                                      rw [← ebh2] at hbr
                                      refine lv_iload hx hb d_M_check_232 (lv_at hl 0 rfl) ?_
                                      refine li_if_ge (tgt := 248) hx hb d_M_check_234 (by decide) (by omega) (fun c45 => ?_) (fun c45 => ?_)
                                      · have _q := c45
                                        have hal := alM_r (cb := cb) (mz := mz) (b := decide (numM cb 3 e1 0 < 10)) (x := bs + d) (by omega) (by omega) (by rw [← ebh2]; omega)
                                        rw [← ebh2] at hal
                                        refine lv_aload_n hx hb d_M_check_248 rfl (lv_at hl 6 rfl) ?_
                                        refine lv_iload hx hb d_M_check_249 (lv_at hl 2 rfl) ?_
                                        refine lv_iconst (v := iI 3) hx hb d_M_check_251 rfl ?_
                                        refine li_iadd hx hb d_M_check_252 ?_
                                        refine lv_iconst (v := iI 4) hx hb d_M_check_253 rfl ?_
                                        refine li_callr ((va_runV (As := [.int (iI (e1 + 3)), .int (iI 4)]) (rest := []) ⟨hx, hb, hml, hown, hts⟩ (c_M_number l dC dI kA mo ma mrf mz mls mfp mfm mtx mwd mak mli mlx mat mtk mtf mtt mfa mla mlp mdp msi mpf mpt mdn cb (e1 + 3) 4 (by omega)) (cw_M_90 hts rfl rfl ⟨Nat.le_of_ble_eq_true rfl, Nat.le_of_ble_eq_true rfl⟩) (li_preV (va_recv hK hP (ci := 10) (q0 := 0) rfl rfl) (hP.sub [0, 1] rfl) hK hN (hG.go hS hAN)) rfl rfl hl.1 rfl (lv_room (Nat.le_of_ble_eq_true rfl)) d_M_check_254 ⟨(by show 0 + 0 ≤ 0; omega), (by show 0 + 0 ≤ 0; omega)⟩).run) ?_
                                        refine W.eq (g2 := F0 m 257 ls [.int (iI (numM cb 4 (e1 + 3) 0))]) rfl ?_
                                        refine lv_iload hx hb d_M_check_257 (lv_at hl 0 rfl) ?_
                                        refine lv_iload_n hx hb d_M_check_259 rfl (lv_at hl 4 rfl) ?_
                                        refine li_isub hx hb d_M_check_260 ?_
                                        refine lv_iload_n hx hb d_M_check_261 rfl (lv_at hl 3 rfl) ?_
                                        refine li_isub hx hb d_M_check_262 ?_
                                        refine li_icmp_eq (tgt := 277) hx hb d_M_check_263 (by decide) (by first | omega | (have h8 := numM_4 hcb (x := e1 + 3); omega)) (by first | omega | (have h8 := numM_4 hcb (x := e1 + 3); omega)) (fun c46 => ?_) (fun c46 => ?_)
                                        · have _q := c46
                                          have h3 : numM cb 4 (e1 + 3) 0 = bh - bs - d := by assumption
                                          refine lv_iload hx hb d_M_check_277 (lv_at hl 0 rfl) ?_
                                          refine lv_iload_n hx hb d_M_check_279 rfl (lv_at hl 4 rfl) ?_
                                          refine li_isub hx hb d_M_check_280 ?_
                                          refine li_nm (fun d_n ed_n => ?_)
                                          refine lv_istore_n (lv' := [(3, .int (iI d_n)), (6, .int (iI bh)), (5, .int (iI tag)), (4, .int (iI e1)), (2, .int (iI bs)), (1, .int (iI k)), (0, .ref mo)]) hx hb d_M_check_281 rfl hl (by decide) rfl (fun ls hl => ?_)
                                          refine lv_iload hx hb d_M_check_282 (lv_at hl 3 rfl) ?_
                                          refine lv_bipush (v := iI 12) hx hb d_M_check_284 (by decide) ?_
                                          refine li_iadd hx hb d_M_check_286 ?_
                                          refine li_nm (fun e_n ee_n => ?_)
                                          refine lv_istore (lv' := [(4, .int (iI e_n)), (3, .int (iI d_n)), (6, .int (iI bh)), (5, .int (iI tag)), (2, .int (iI bs)), (1, .int (iI k)), (0, .ref mo)]) hx hb d_M_check_287 hl (by decide) rfl (fun ls hl => ?_)
                                          refine lv_goto (tgt := 135) hx hb d_M_check_289 (by decide) ?_
                                          exact ih_135 e_n d_n (by omega) (by omega) (by intro _; exact ⟨bh - 1, by omega, by omega, byM_cb hal.2.2 (by omega)⟩) (by rw [← hcf, show ((k - e1) / 12).toNat = ((k - (e1 + 12)) / 12).toNat + 1 by omega, ee_n, ed_n]; simp only [cfL]; rw [show cf1 cb mz bs e1 d = (0, bh - bs) from by (unfold cf1; rw [if_neg (by rw [ne_eq, Decidable.not_not, decide_eq_decide]; omega), if_neg (by omega), ← ebh2, if_neg (by omega), if_neg (by omega)])]; dsimp only; rw [if_neg (by omega)]) (by omega) _ _ hP hD hS _ (lv_sub hl [0, 1, 4, 5, 6] rfl)
                                        · have _q := c46
                                          have h3 : ¬ numM cb 4 (e1 + 3) 0 = bh - bs - d := by assumption
                                          refine lv_aload_n hx hb d_M_check_266 rfl (lv_at hl 6 rfl) ?_
                                          refine lv_bipush (v := iI (-6)) hx hb d_M_check_267 (by decide) ?_
                                          refine lv_iload hx hb d_M_check_269 (lv_at hl 2 rfl) ?_
                                          refine lv_iconst (v := iI 3) hx hb d_M_check_271 rfl ?_
                                          refine li_iadd hx hb d_M_check_272 ?_
                                          refine li_callw (wc := [(mo, .inr (10, [.int (iI mrf), .ref (ma 0), .int (iI mz), .ref (ma 1), .ref (ma 2), .int (iI mls), .int (iI mfp), .int (iI mfm), .ref (ma 3), .int (iI mtx), .ref (ma 4), .ref (ma 5), .int (iI mwd), .ref (ma 6), .ref (ma 7), .int (iI mak), .ref (ma 8), .ref (ma 9), .int (iI mli), .int (iI mlx), .ref (ma 10), .ref (ma 11), .int (iI mat), .int (iI mtk), .int (iI mtf), .int (iI mtt), .int (iI mfa), .int (iI mla), .int (iI mlp), .int (iI mdp), .ref (ma 12), .ref (ma 13), .int (iI msi), .int (iI (bI mdn)), .int (iI mpf), .int (iI mpt)]))]) (wr := [(ma 0, .inl (kA 0, 400, .inl (aI cb))), (ma 1, .inl (kA 0, 4120, .inl (aI ca))), (ma 2, .inl (kA 0, 10, .inl (aI cle)))]) (va_runV (As := [.int (iI (-6)), .int (iI (e1 + 3))]) (rest := []) ⟨hx, hb, hml, hown, hts⟩ (c_M_wrong l dC dI kA H.size mo ma mrf mz mls mfp mfm mtx mwd mak mli mlx mat mtk mtf mtt mfa mla mlp mdp msi mpf mpt mdn (-6) (e1 + 3) ) (cw_M_86 hts rfl rfl ⟨Nat.le_of_ble_eq_true rfl, Nat.le_of_ble_eq_true rfl⟩) (li_preV (va_recv hK hP (ci := 10) (q0 := 0) rfl rfl) ⟨rfl, hP.sub [0] rfl, (hD.sub [0] (by decide) rfl).weaken (fun _ _ _ h => hAN _ h), trivial⟩ hK hN (hG.go hS hAN)) rfl rfl hl.1 rfl (lv_room (Nat.le_of_ble_eq_true rfl)) d_M_check_273 ⟨(by show 0 + 0 ≤ 0; omega), (by show 0 + 0 ≤ 0; omega)⟩) hP hD hS hA [0] [1, 2, 3] rfl rfl (by decide) (by decide) (fun u47 H locs hu47 hP hD hS _hk => ?_)
                                          have hP : va_P (dC, dI) CL [(ma 0, .inl (kA 0, 400, .inl (aI cb))), (ma 1, .inl (kA 0, 4120, .inl (aI ca))), (ma 2, .inl (kA 0, 10, .inl (aI cle))), (mo, .inr (10, [.int (iI mrf), .ref (ma 0), .int (iI mz), .ref (ma 1), .ref (ma 2), .int (iI mls), .int (iI (e1 + 3)), .int (iI mfm), .ref (ma 3), .int (iI mtx), .ref (ma 4), .ref (ma 5), .int (iI mwd), .ref (ma 6), .ref (ma 7), .int (iI mak), .ref (ma 8), .ref (ma 9), .int (iI mli), .int (iI mlx), .ref (ma 10), .ref (ma 11), .int (iI mat), .int (iI mtk), .int (iI mtf), .int (iI mtt), .int (iI mfa), .int (iI mla), .int (iI mlp), .int (iI mdp), .ref (ma 12), .ref (ma 13), .int (iI msi), .int (iI (bI mdn)), .int (iI mpf), .int (iI mpt)]))] H := hP
                                          have hD : va_D A [(ma 0, .inl (kA 0, 400, .inl (aI cb))), (ma 1, .inl (kA 0, 4120, .inl (aI ca))), (ma 2, .inl (kA 0, 10, .inl (aI cle))), (mo, .inr (10, [.int (iI mrf), .ref (ma 0), .int (iI mz), .ref (ma 1), .ref (ma 2), .int (iI mls), .int (iI (e1 + 3)), .int (iI mfm), .ref (ma 3), .int (iI mtx), .ref (ma 4), .ref (ma 5), .int (iI mwd), .ref (ma 6), .ref (ma 7), .int (iI mak), .ref (ma 8), .ref (ma 9), .int (iI mli), .int (iI mlx), .ref (ma 10), .ref (ma 11), .int (iI mat), .int (iI mtk), .int (iI mtf), .int (iI mtt), .int (iI mfa), .int (iI mla), .int (iI mlp), .int (iI mdp), .ref (ma 12), .ref (ma 13), .int (iI msi), .int (iI (bI mdn)), .int (iI mpf), .int (iI mpt)]))] := hD
                                          exact fin ((e1 + 3), (-6)) _ _ _ _ _ (by rfl) (by show ((-6), (e1 + 3)) = ckM cb ca cle mz mfp ∧ -9 ≤ (-6) ∧ (-6) ≤ 0 ∧ ((-6) = 0 → ∃ q : Int, 0 ≤ q ∧ q ≤ 9 ∧ cle q.toNat = 0); refine ⟨by (rw [hck, ← hcf, show ((k - e1) / 12).toNat = ((k - (e1 + 12)) / 12).toNat + 1 by omega]; simp only [cfL]; rw [show cf1 cb mz bs e1 d = (-6, e1 + 3) from by (unfold cf1; rw [if_neg (by rw [ne_eq, Decidable.not_not, decide_eq_decide]; omega), if_neg (by omega), ← ebh2, if_neg (by omega), if_pos (by omega)])]; dsimp only; rw [if_pos (by omega)]; unfold ck4; dsimp only; rw [if_pos (by omega)]), by omega, by omega, fun h => by omega⟩) (by first | exact hP.sub [3, 0, 1, 2] rfl | (subst_vars; exact hP.sub [3, 0, 1, 2] rfl)) (by first | exact hD.sub [3, 0, 1, 2] (by decide) rfl | (subst_vars; exact hD.sub [3, 0, 1, 2] (by decide) rfl)) hS d_M_check_276
                                      · have _q := c45
                                        refine lv_aload_n hx hb d_M_check_237 rfl (lv_at hl 6 rfl) ?_
                                        refine lv_bipush (v := iI (-5)) hx hb d_M_check_238 (by decide) ?_
                                        refine lv_iconst (v := iI (-1)) hx hb d_M_check_240 rfl ?_
                                        refine lv_iload hx hb d_M_check_241 (lv_at hl 0 rfl) ?_
                                        refine li_isub hx hb d_M_check_243 ?_
                                        refine li_callw (wc := [(mo, .inr (10, [.int (iI mrf), .ref (ma 0), .int (iI mz), .ref (ma 1), .ref (ma 2), .int (iI mls), .int (iI mfp), .int (iI mfm), .ref (ma 3), .int (iI mtx), .ref (ma 4), .ref (ma 5), .int (iI mwd), .ref (ma 6), .ref (ma 7), .int (iI mak), .ref (ma 8), .ref (ma 9), .int (iI mli), .int (iI mlx), .ref (ma 10), .ref (ma 11), .int (iI mat), .int (iI mtk), .int (iI mtf), .int (iI mtt), .int (iI mfa), .int (iI mla), .int (iI mlp), .int (iI mdp), .ref (ma 12), .ref (ma 13), .int (iI msi), .int (iI (bI mdn)), .int (iI mpf), .int (iI mpt)]))]) (wr := [(ma 0, .inl (kA 0, 400, .inl (aI cb))), (ma 1, .inl (kA 0, 4120, .inl (aI ca))), (ma 2, .inl (kA 0, 10, .inl (aI cle)))]) (va_runV (As := [.int (iI (-5)), .int (iI ((-1) - bh))]) (rest := []) ⟨hx, hb, hml, hown, hts⟩ (c_M_wrong l dC dI kA H.size mo ma mrf mz mls mfp mfm mtx mwd mak mli mlx mat mtk mtf mtt mfa mla mlp mdp msi mpf mpt mdn (-5) ((-1) - bh) ) (cw_M_86 hts rfl rfl ⟨Nat.le_of_ble_eq_true rfl, Nat.le_of_ble_eq_true rfl⟩) (li_preV (va_recv hK hP (ci := 10) (q0 := 0) rfl rfl) ⟨rfl, hP.sub [0] rfl, (hD.sub [0] (by decide) rfl).weaken (fun _ _ _ h => hAN _ h), trivial⟩ hK hN (hG.go hS hAN)) rfl rfl hl.1 rfl (lv_room (Nat.le_of_ble_eq_true rfl)) d_M_check_244 ⟨(by show 0 + 0 ≤ 0; omega), (by show 0 + 0 ≤ 0; omega)⟩) hP hD hS hA [0] [1, 2, 3] rfl rfl (by decide) (by decide) (fun u48 H locs hu48 hP hD hS _hk => ?_)
                                        have hP : va_P (dC, dI) CL [(ma 0, .inl (kA 0, 400, .inl (aI cb))), (ma 1, .inl (kA 0, 4120, .inl (aI ca))), (ma 2, .inl (kA 0, 10, .inl (aI cle))), (mo, .inr (10, [.int (iI mrf), .ref (ma 0), .int (iI mz), .ref (ma 1), .ref (ma 2), .int (iI mls), .int (iI ((-1) - bh)), .int (iI mfm), .ref (ma 3), .int (iI mtx), .ref (ma 4), .ref (ma 5), .int (iI mwd), .ref (ma 6), .ref (ma 7), .int (iI mak), .ref (ma 8), .ref (ma 9), .int (iI mli), .int (iI mlx), .ref (ma 10), .ref (ma 11), .int (iI mat), .int (iI mtk), .int (iI mtf), .int (iI mtt), .int (iI mfa), .int (iI mla), .int (iI mlp), .int (iI mdp), .ref (ma 12), .ref (ma 13), .int (iI msi), .int (iI (bI mdn)), .int (iI mpf), .int (iI mpt)]))] H := hP
                                        have hD : va_D A [(ma 0, .inl (kA 0, 400, .inl (aI cb))), (ma 1, .inl (kA 0, 4120, .inl (aI ca))), (ma 2, .inl (kA 0, 10, .inl (aI cle))), (mo, .inr (10, [.int (iI mrf), .ref (ma 0), .int (iI mz), .ref (ma 1), .ref (ma 2), .int (iI mls), .int (iI ((-1) - bh)), .int (iI mfm), .ref (ma 3), .int (iI mtx), .ref (ma 4), .ref (ma 5), .int (iI mwd), .ref (ma 6), .ref (ma 7), .int (iI mak), .ref (ma 8), .ref (ma 9), .int (iI mli), .int (iI mlx), .ref (ma 10), .ref (ma 11), .int (iI mat), .int (iI mtk), .int (iI mtf), .int (iI mtt), .int (iI mfa), .int (iI mla), .int (iI mlp), .int (iI mdp), .ref (ma 12), .ref (ma 13), .int (iI msi), .int (iI (bI mdn)), .int (iI mpf), .int (iI mpt)]))] := hD
                                        exact fin (((-1) - bh), (-5)) _ _ _ _ _ (by rfl) (by show ((-5), ((-1) - bh)) = ckM cb ca cle mz mfp ∧ -9 ≤ (-5) ∧ (-5) ≤ 0 ∧ ((-5) = 0 → ∃ q : Int, 0 ≤ q ∧ q ≤ 9 ∧ cle q.toNat = 0); refine ⟨by (rw [hck, ← hcf, show ((k - e1) / 12).toNat = ((k - (e1 + 12)) / 12).toNat + 1 by omega]; simp only [cfL]; rw [show cf1 cb mz bs e1 d = (-5, -1 - bh) from by (unfold cf1; rw [if_neg (by rw [ne_eq, Decidable.not_not, decide_eq_decide]; omega), if_neg (by omega), ← ebh2, if_pos (by omega)])]; dsimp only; rw [if_pos (by omega)]; unfold ck4; dsimp only; rw [if_pos (by omega)]), by omega, by omega, fun h => by omega⟩) (by first | exact hP.sub [3, 0, 1, 2] rfl | (subst_vars; exact hP.sub [3, 0, 1, 2] rfl)) (by first | exact hD.sub [3, 0, 1, 2] (by decide) rfl | (subst_vars; exact hD.sub [3, 0, 1, 2] (by decide) rfl)) hS d_M_check_247
                                  · have _q := c39
                                    have h7 : ¬ numM cb 5 (e1 + 7) 0 = d := by assumption
                                    refine lv_aload_n hx hb d_M_check_199 rfl (lv_at hl 5 rfl) ?_
                                    refine lv_bipush (v := iI (-6)) hx hb d_M_check_200 (by decide) ?_
                                    refine lv_iload hx hb d_M_check_202 (lv_at hl 1 rfl) ?_
                                    refine lv_bipush (v := iI 7) hx hb d_M_check_204 (by decide) ?_
                                    refine li_iadd hx hb d_M_check_206 ?_
                                    refine li_callw (wc := [(mo, .inr (10, [.int (iI mrf), .ref (ma 0), .int (iI mz), .ref (ma 1), .ref (ma 2), .int (iI mls), .int (iI mfp), .int (iI mfm), .ref (ma 3), .int (iI mtx), .ref (ma 4), .ref (ma 5), .int (iI mwd), .ref (ma 6), .ref (ma 7), .int (iI mak), .ref (ma 8), .ref (ma 9), .int (iI mli), .int (iI mlx), .ref (ma 10), .ref (ma 11), .int (iI mat), .int (iI mtk), .int (iI mtf), .int (iI mtt), .int (iI mfa), .int (iI mla), .int (iI mlp), .int (iI mdp), .ref (ma 12), .ref (ma 13), .int (iI msi), .int (iI (bI mdn)), .int (iI mpf), .int (iI mpt)]))]) (wr := [(ma 0, .inl (kA 0, 400, .inl (aI cb))), (ma 1, .inl (kA 0, 4120, .inl (aI ca))), (ma 2, .inl (kA 0, 10, .inl (aI cle)))]) (va_runV (As := [.int (iI (-6)), .int (iI (e1 + 7))]) (rest := []) ⟨hx, hb, hml, hown, hts⟩ (c_M_wrong l dC dI kA H.size mo ma mrf mz mls mfp mfm mtx mwd mak mli mlx mat mtk mtf mtt mfa mla mlp mdp msi mpf mpt mdn (-6) (e1 + 7) ) (cw_M_86 hts rfl rfl ⟨Nat.le_of_ble_eq_true rfl, Nat.le_of_ble_eq_true rfl⟩) (li_preV (va_recv hK hP (ci := 10) (q0 := 0) rfl rfl) ⟨rfl, hP.sub [0] rfl, (hD.sub [0] (by decide) rfl).weaken (fun _ _ _ h => hAN _ h), trivial⟩ hK hN (hG.go hS hAN)) rfl rfl hl.1 rfl (lv_room (Nat.le_of_ble_eq_true rfl)) d_M_check_207 ⟨(by show 0 + 0 ≤ 0; omega), (by show 0 + 0 ≤ 0; omega)⟩) hP hD hS hA [0] [1, 2, 3] rfl rfl (by decide) (by decide) (fun u49 H locs hu49 hP hD hS _hk => ?_)
                                    have hP : va_P (dC, dI) CL [(ma 0, .inl (kA 0, 400, .inl (aI cb))), (ma 1, .inl (kA 0, 4120, .inl (aI ca))), (ma 2, .inl (kA 0, 10, .inl (aI cle))), (mo, .inr (10, [.int (iI mrf), .ref (ma 0), .int (iI mz), .ref (ma 1), .ref (ma 2), .int (iI mls), .int (iI (e1 + 7)), .int (iI mfm), .ref (ma 3), .int (iI mtx), .ref (ma 4), .ref (ma 5), .int (iI mwd), .ref (ma 6), .ref (ma 7), .int (iI mak), .ref (ma 8), .ref (ma 9), .int (iI mli), .int (iI mlx), .ref (ma 10), .ref (ma 11), .int (iI mat), .int (iI mtk), .int (iI mtf), .int (iI mtt), .int (iI mfa), .int (iI mla), .int (iI mlp), .int (iI mdp), .ref (ma 12), .ref (ma 13), .int (iI msi), .int (iI (bI mdn)), .int (iI mpf), .int (iI mpt)]))] H := hP
                                    have hD : va_D A [(ma 0, .inl (kA 0, 400, .inl (aI cb))), (ma 1, .inl (kA 0, 4120, .inl (aI ca))), (ma 2, .inl (kA 0, 10, .inl (aI cle))), (mo, .inr (10, [.int (iI mrf), .ref (ma 0), .int (iI mz), .ref (ma 1), .ref (ma 2), .int (iI mls), .int (iI (e1 + 7)), .int (iI mfm), .ref (ma 3), .int (iI mtx), .ref (ma 4), .ref (ma 5), .int (iI mwd), .ref (ma 6), .ref (ma 7), .int (iI mak), .ref (ma 8), .ref (ma 9), .int (iI mli), .int (iI mlx), .ref (ma 10), .ref (ma 11), .int (iI mat), .int (iI mtk), .int (iI mtf), .int (iI mtt), .int (iI mfa), .int (iI mla), .int (iI mlp), .int (iI mdp), .ref (ma 12), .ref (ma 13), .int (iI msi), .int (iI (bI mdn)), .int (iI mpf), .int (iI mpt)]))] := hD
                                    exact fin ((e1 + 7), (-6)) _ _ _ _ _ (by rfl) (by show ((-6), (e1 + 7)) = ckM cb ca cle mz mfp ∧ -9 ≤ (-6) ∧ (-6) ≤ 0 ∧ ((-6) = 0 → ∃ q : Int, 0 ≤ q ∧ q ≤ 9 ∧ cle q.toNat = 0); refine ⟨by (rw [hck, ← hcf, show ((k - e1) / 12).toNat = ((k - (e1 + 12)) / 12).toNat + 1 by omega]; simp only [cfL]; rw [show cf1 cb mz bs e1 d = (-6, e1 + 7) from by (unfold cf1; rw [if_neg (by rw [ne_eq, Decidable.not_not, decide_eq_decide]; omega), if_pos (by omega)])]; dsimp only; rw [if_pos (by omega)]; unfold ck4; dsimp only; rw [if_pos (by omega)]), by omega, by omega, fun h => by omega⟩) (by first | exact hP.sub [3, 0, 1, 2] rfl | (subst_vars; exact hP.sub [3, 0, 1, 2] rfl)) (by first | exact hD.sub [3, 0, 1, 2] (by decide) rfl | (subst_vars; exact hD.sub [3, 0, 1, 2] (by decide) rfl)) hS d_M_check_210
                                · have _q := c38
                                  exact absurd c38 (by omega)
                      exact K_135 ((k - 24).toNat + 1) 24 0 (by omega) (by omega) (by intro h5; exfalso; omega) (by rfl) (Nat.lt_succ_self _) _ _ hP hD hS _ (lv_sub hl [0, 1, 2, 3, 4] rfl)
                    · have _q := c10
                      have h12 : ¬ numM cb 5 12 0 = bs := by assumption
                      refine lv_aload_n hx hb d_M_check_120 rfl (lv_at hl 2 rfl) ?_
                      refine lv_bipush (v := iI (-6)) hx hb d_M_check_121 (by decide) ?_
                      refine lv_bipush (v := iI 12) hx hb d_M_check_123 (by decide) ?_
                      refine li_callw (wc := [(mo, .inr (10, [.int (iI mrf), .ref (ma 0), .int (iI mz), .ref (ma 1), .ref (ma 2), .int (iI mls), .int (iI mfp), .int (iI mfm), .ref (ma 3), .int (iI mtx), .ref (ma 4), .ref (ma 5), .int (iI mwd), .ref (ma 6), .ref (ma 7), .int (iI mak), .ref (ma 8), .ref (ma 9), .int (iI mli), .int (iI mlx), .ref (ma 10), .ref (ma 11), .int (iI mat), .int (iI mtk), .int (iI mtf), .int (iI mtt), .int (iI mfa), .int (iI mla), .int (iI mlp), .int (iI mdp), .ref (ma 12), .ref (ma 13), .int (iI msi), .int (iI (bI mdn)), .int (iI mpf), .int (iI mpt)]))]) (wr := [(ma 0, .inl (kA 0, 400, .inl (aI cb))), (ma 1, .inl (kA 0, 4120, .inl (aI ca))), (ma 2, .inl (kA 0, 10, .inl (aI cle)))]) (va_runV (As := [.int (iI (-6)), .int (iI 12)]) (rest := []) ⟨hx, hb, hml, hown, hts⟩ (c_M_wrong l dC dI kA H.size mo ma mrf mz mls mfp mfm mtx mwd mak mli mlx mat mtk mtf mtt mfa mla mlp mdp msi mpf mpt mdn (-6) 12 ) (cw_M_86 hts rfl rfl ⟨Nat.le_of_ble_eq_true rfl, Nat.le_of_ble_eq_true rfl⟩) (li_preV (va_recv hK hP (ci := 10) (q0 := 0) rfl rfl) ⟨rfl, hP.sub [0] rfl, (hD.sub [0] (by decide) rfl).weaken (fun _ _ _ h => hAN _ h), trivial⟩ hK hN (hG.go hS hAN)) rfl rfl hl.1 rfl (lv_room (Nat.le_of_ble_eq_true rfl)) d_M_check_125 ⟨(by show 0 + 0 ≤ 0; omega), (by show 0 + 0 ≤ 0; omega)⟩) hP hD hS hA [0] [1, 2, 3] rfl rfl (by decide) (by decide) (fun u50 H locs hu50 hP hD hS _hk => ?_)
                      have hP : va_P (dC, dI) CL [(ma 0, .inl (kA 0, 400, .inl (aI cb))), (ma 1, .inl (kA 0, 4120, .inl (aI ca))), (ma 2, .inl (kA 0, 10, .inl (aI cle))), (mo, .inr (10, [.int (iI mrf), .ref (ma 0), .int (iI mz), .ref (ma 1), .ref (ma 2), .int (iI mls), .int (iI 12), .int (iI mfm), .ref (ma 3), .int (iI mtx), .ref (ma 4), .ref (ma 5), .int (iI mwd), .ref (ma 6), .ref (ma 7), .int (iI mak), .ref (ma 8), .ref (ma 9), .int (iI mli), .int (iI mlx), .ref (ma 10), .ref (ma 11), .int (iI mat), .int (iI mtk), .int (iI mtf), .int (iI mtt), .int (iI mfa), .int (iI mla), .int (iI mlp), .int (iI mdp), .ref (ma 12), .ref (ma 13), .int (iI msi), .int (iI (bI mdn)), .int (iI mpf), .int (iI mpt)]))] H := hP
                      have hD : va_D A [(ma 0, .inl (kA 0, 400, .inl (aI cb))), (ma 1, .inl (kA 0, 4120, .inl (aI ca))), (ma 2, .inl (kA 0, 10, .inl (aI cle))), (mo, .inr (10, [.int (iI mrf), .ref (ma 0), .int (iI mz), .ref (ma 1), .ref (ma 2), .int (iI mls), .int (iI 12), .int (iI mfm), .ref (ma 3), .int (iI mtx), .ref (ma 4), .ref (ma 5), .int (iI mwd), .ref (ma 6), .ref (ma 7), .int (iI mak), .ref (ma 8), .ref (ma 9), .int (iI mli), .int (iI mlx), .ref (ma 10), .ref (ma 11), .int (iI mat), .int (iI mtk), .int (iI mtf), .int (iI mtt), .int (iI mfa), .int (iI mla), .int (iI mlp), .int (iI mdp), .ref (ma 12), .ref (ma 13), .int (iI msi), .int (iI (bI mdn)), .int (iI mpf), .int (iI mpt)]))] := hD
                      exact fin (12, (-6)) _ _ _ _ _ (by rfl) (by show ((-6), 12) = ckM cb ca cle mz mfp ∧ -9 ≤ (-6) ∧ (-6) ≤ 0 ∧ ((-6) = 0 → ∃ q : Int, 0 ≤ q ∧ q ≤ 9 ∧ cle q.toNat = 0); refine ⟨by (rw [hck0, ← hdi]; unfold ck2; dsimp only; rw [if_neg (by decide), if_pos (by omega)]), by omega, by omega, fun h => by omega⟩) (by first | exact hP.sub [3, 0, 1, 2] rfl | (subst_vars; exact hP.sub [3, 0, 1, 2] rfl)) (by first | exact hD.sub [3, 0, 1, 2] (by decide) rfl | (subst_vars; exact hD.sub [3, 0, 1, 2] (by decide) rfl)) hS d_M_check_128
                  · have _q := c9
                    rw [if_neg (by omega)] at hdi
                    refine lv_aload_n hx hb d_M_check_80 rfl (lv_at hl 1 rfl) ?_
                    refine lv_iload_n hx hb d_M_check_81 rfl (lv_at hl 0 rfl) ?_
                    refine li_callr ((va_runV (As := [.int (iI k)]) (rest := []) ⟨hx, hb, hml, hown, hts⟩ (c_M_byteAt l dC dI kA mo ma mrf mz mls mfp mfm mtx mwd mak mli mlx mat mtk mtf mtt mfa mla mlp mdp msi mpf mpt mdn cb k (by exact hcb) (by exact hz) (by omega)) (cw_M_73 hts rfl rfl ⟨Nat.le_of_ble_eq_true rfl, Nat.le_of_ble_eq_true rfl⟩) (li_preV (va_recv hK hP (ci := 10) (q0 := 0) rfl rfl) (hP.sub [0, 1] rfl) hK hN (hG.go hS hAN)) rfl rfl hl.1 rfl (lv_room (Nat.le_of_ble_eq_true rfl)) d_M_check_82 ⟨(by show 0 + 0 ≤ 0; omega), (by show 0 + 0 ≤ 0; omega)⟩).run) ?_
                    refine li_callr ((va_runS (As := [.int (iI (byM cb mz k))]) (rest := []) ⟨hx, hb, hml, hown, hts⟩ (c_M_isDigit l dC dI kA (byM cb mz k) (by omega)) (cw_M_77 hts rfl rfl ⟨Nat.le_of_ble_eq_true rfl, Nat.le_of_ble_eq_true rfl⟩) (li_preS va_Pnil hK hN (hG.go hS hAN)) rfl rfl hl.1 rfl (lv_room (Nat.le_of_ble_eq_true rfl)) d_M_check_85 ⟨(by show 0 + 0 ≤ 0; omega), (by show 0 + 0 ≤ 0; omega)⟩).run) ?_
                    refine li_bnz (tgt := 99) hx hb d_M_check_88 (by decide) (fun c51 => ?_) (fun c51 => ?_)
                    · have _q := c51
                      rw [if_pos (by assumption)] at hdi
                      have hkz := dig_lt (cb := cb) (mz := mz) (k := k) (by assumption)
                      obtain ⟨k_n, ek_n⟩ : ∃ y_9 : Int, y_9 = k + 1 := ⟨_, rfl⟩
                      refine lv_iinc (v := iI k_n) (lv' := [(1, .int (iI k_n)), (0, .ref mo)]) hx hb d_M_check_99 hl (k := 0) rfl (by rw [ek_n]; exact iI_add _ _) (by decide) rfl (fun ls hl => ?_)
                      refine lv_goto (tgt := 54) hx hb d_M_check_102 (by decide) ?_
                      exact ih_54 k_n g (by omega) (by omega) (by rw [ek_n]; exact hdi) (by omega) _ _ hP hD hS _ (lv_sub hl [0, 1] rfl)
                    · have _q := c51
                      rw [if_neg (nbt (by assumption))] at hdi
                      refine lv_aload_n hx hb d_M_check_91 rfl (lv_at hl 1 rfl) ?_
                      refine lv_bipush (v := iI (-5)) hx hb d_M_check_92 (by decide) ?_
                      refine lv_iload_n hx hb d_M_check_94 rfl (lv_at hl 0 rfl) ?_
                      refine li_callw (wc := [(mo, .inr (10, [.int (iI mrf), .ref (ma 0), .int (iI mz), .ref (ma 1), .ref (ma 2), .int (iI mls), .int (iI mfp), .int (iI mfm), .ref (ma 3), .int (iI mtx), .ref (ma 4), .ref (ma 5), .int (iI mwd), .ref (ma 6), .ref (ma 7), .int (iI mak), .ref (ma 8), .ref (ma 9), .int (iI mli), .int (iI mlx), .ref (ma 10), .ref (ma 11), .int (iI mat), .int (iI mtk), .int (iI mtf), .int (iI mtt), .int (iI mfa), .int (iI mla), .int (iI mlp), .int (iI mdp), .ref (ma 12), .ref (ma 13), .int (iI msi), .int (iI (bI mdn)), .int (iI mpf), .int (iI mpt)]))]) (wr := [(ma 0, .inl (kA 0, 400, .inl (aI cb))), (ma 1, .inl (kA 0, 4120, .inl (aI ca))), (ma 2, .inl (kA 0, 10, .inl (aI cle)))]) (va_runV (As := [.int (iI (-5)), .int (iI k)]) (rest := []) ⟨hx, hb, hml, hown, hts⟩ (c_M_wrong l dC dI kA H.size mo ma mrf mz mls mfp mfm mtx mwd mak mli mlx mat mtk mtf mtt mfa mla mlp mdp msi mpf mpt mdn (-5) k ) (cw_M_86 hts rfl rfl ⟨Nat.le_of_ble_eq_true rfl, Nat.le_of_ble_eq_true rfl⟩) (li_preV (va_recv hK hP (ci := 10) (q0 := 0) rfl rfl) ⟨rfl, hP.sub [0] rfl, (hD.sub [0] (by decide) rfl).weaken (fun _ _ _ h => hAN _ h), trivial⟩ hK hN (hG.go hS hAN)) rfl rfl hl.1 rfl (lv_room (Nat.le_of_ble_eq_true rfl)) d_M_check_95 ⟨(by show 0 + 0 ≤ 0; omega), (by show 0 + 0 ≤ 0; omega)⟩) hP hD hS hA [0] [1, 2, 3] rfl rfl (by decide) (by decide) (fun u52 H locs hu52 hP hD hS _hk => ?_)
                      have hP : va_P (dC, dI) CL [(ma 0, .inl (kA 0, 400, .inl (aI cb))), (ma 1, .inl (kA 0, 4120, .inl (aI ca))), (ma 2, .inl (kA 0, 10, .inl (aI cle))), (mo, .inr (10, [.int (iI mrf), .ref (ma 0), .int (iI mz), .ref (ma 1), .ref (ma 2), .int (iI mls), .int (iI k), .int (iI mfm), .ref (ma 3), .int (iI mtx), .ref (ma 4), .ref (ma 5), .int (iI mwd), .ref (ma 6), .ref (ma 7), .int (iI mak), .ref (ma 8), .ref (ma 9), .int (iI mli), .int (iI mlx), .ref (ma 10), .ref (ma 11), .int (iI mat), .int (iI mtk), .int (iI mtf), .int (iI mtt), .int (iI mfa), .int (iI mla), .int (iI mlp), .int (iI mdp), .ref (ma 12), .ref (ma 13), .int (iI msi), .int (iI (bI mdn)), .int (iI mpf), .int (iI mpt)]))] H := hP
                      have hD : va_D A [(ma 0, .inl (kA 0, 400, .inl (aI cb))), (ma 1, .inl (kA 0, 4120, .inl (aI ca))), (ma 2, .inl (kA 0, 10, .inl (aI cle))), (mo, .inr (10, [.int (iI mrf), .ref (ma 0), .int (iI mz), .ref (ma 1), .ref (ma 2), .int (iI mls), .int (iI k), .int (iI mfm), .ref (ma 3), .int (iI mtx), .ref (ma 4), .ref (ma 5), .int (iI mwd), .ref (ma 6), .ref (ma 7), .int (iI mak), .ref (ma 8), .ref (ma 9), .int (iI mli), .int (iI mlx), .ref (ma 10), .ref (ma 11), .int (iI mat), .int (iI mtk), .int (iI mtf), .int (iI mtt), .int (iI mfa), .int (iI mla), .int (iI mlp), .int (iI mdp), .ref (ma 12), .ref (ma 13), .int (iI msi), .int (iI (bI mdn)), .int (iI mpf), .int (iI mpt)]))] := hD
                      exact fin (k, (-5)) _ _ _ _ _ (by rfl) (by show ((-5), k) = ckM cb ca cle mz mfp ∧ -9 ≤ (-5) ∧ (-5) ≤ 0 ∧ ((-5) = 0 → ∃ q : Int, 0 ≤ q ∧ q ≤ 9 ∧ cle q.toNat = 0); refine ⟨by (rw [hck0, ← hdi]; unfold ck2; dsimp only; rw [if_pos rfl]), by omega, by omega, fun h => by omega⟩) (by first | exact hP.sub [3, 0, 1, 2] rfl | (subst_vars; exact hP.sub [3, 0, 1, 2] rfl)) (by first | exact hD.sub [3, 0, 1, 2] (by decide) rfl | (subst_vars; exact hD.sub [3, 0, 1, 2] (by decide) rfl)) hS d_M_check_98
          exact K_54 ((mz - 24).toNat + 1) 24 1000 (by omega) (by omega) (by rfl) (Nat.lt_succ_self _) _ _ hP hD hS _ (lv_sub hl [0, 1] rfl)
        · have _q := c2
          have h5z : ¬ numM cb 5 0 0 = mz := by assumption
          refine lv_aload_n hx hb d_M_check_43 rfl (lv_at hl 1 rfl) ?_
          refine lv_bipush (v := iI (-6)) hx hb d_M_check_44 (by decide) ?_
          refine lv_iconst (v := iI 0) hx hb d_M_check_46 rfl ?_
          refine li_callw (wc := [(mo, .inr (10, [.int (iI mrf), .ref (ma 0), .int (iI mz), .ref (ma 1), .ref (ma 2), .int (iI mls), .int (iI mfp), .int (iI mfm), .ref (ma 3), .int (iI mtx), .ref (ma 4), .ref (ma 5), .int (iI mwd), .ref (ma 6), .ref (ma 7), .int (iI mak), .ref (ma 8), .ref (ma 9), .int (iI mli), .int (iI mlx), .ref (ma 10), .ref (ma 11), .int (iI mat), .int (iI mtk), .int (iI mtf), .int (iI mtt), .int (iI mfa), .int (iI mla), .int (iI mlp), .int (iI mdp), .ref (ma 12), .ref (ma 13), .int (iI msi), .int (iI (bI mdn)), .int (iI mpf), .int (iI mpt)]))]) (wr := [(ma 0, .inl (kA 0, 400, .inl (aI cb))), (ma 1, .inl (kA 0, 4120, .inl (aI ca))), (ma 2, .inl (kA 0, 10, .inl (aI cle)))]) (va_runV (As := [.int (iI (-6)), .int (iI 0)]) (rest := []) ⟨hx, hb, hml, hown, hts⟩ (c_M_wrong l dC dI kA H.size mo ma mrf mz mls mfp mfm mtx mwd mak mli mlx mat mtk mtf mtt mfa mla mlp mdp msi mpf mpt mdn (-6) 0 ) (cw_M_86 hts rfl rfl ⟨Nat.le_of_ble_eq_true rfl, Nat.le_of_ble_eq_true rfl⟩) (li_preV (va_recv hK hP (ci := 10) (q0 := 0) rfl rfl) ⟨rfl, hP.sub [0] rfl, (hD.sub [0] (by decide) rfl).weaken (fun _ _ _ h => hAN _ h), trivial⟩ hK hN (hG.go hS hAN)) rfl rfl hl.1 rfl (lv_room (Nat.le_of_ble_eq_true rfl)) d_M_check_47 ⟨(by show 0 + 0 ≤ 0; omega), (by show 0 + 0 ≤ 0; omega)⟩) hP hD hS hA [0] [1, 2, 3] rfl rfl (by decide) (by decide) (fun u53 H locs hu53 hP hD hS _hk => ?_)
          have hP : va_P (dC, dI) CL [(ma 0, .inl (kA 0, 400, .inl (aI cb))), (ma 1, .inl (kA 0, 4120, .inl (aI ca))), (ma 2, .inl (kA 0, 10, .inl (aI cle))), (mo, .inr (10, [.int (iI mrf), .ref (ma 0), .int (iI mz), .ref (ma 1), .ref (ma 2), .int (iI mls), .int (iI 0), .int (iI mfm), .ref (ma 3), .int (iI mtx), .ref (ma 4), .ref (ma 5), .int (iI mwd), .ref (ma 6), .ref (ma 7), .int (iI mak), .ref (ma 8), .ref (ma 9), .int (iI mli), .int (iI mlx), .ref (ma 10), .ref (ma 11), .int (iI mat), .int (iI mtk), .int (iI mtf), .int (iI mtt), .int (iI mfa), .int (iI mla), .int (iI mlp), .int (iI mdp), .ref (ma 12), .ref (ma 13), .int (iI msi), .int (iI (bI mdn)), .int (iI mpf), .int (iI mpt)]))] H := hP
          have hD : va_D A [(ma 0, .inl (kA 0, 400, .inl (aI cb))), (ma 1, .inl (kA 0, 4120, .inl (aI ca))), (ma 2, .inl (kA 0, 10, .inl (aI cle))), (mo, .inr (10, [.int (iI mrf), .ref (ma 0), .int (iI mz), .ref (ma 1), .ref (ma 2), .int (iI mls), .int (iI 0), .int (iI mfm), .ref (ma 3), .int (iI mtx), .ref (ma 4), .ref (ma 5), .int (iI mwd), .ref (ma 6), .ref (ma 7), .int (iI mak), .ref (ma 8), .ref (ma 9), .int (iI mli), .int (iI mlx), .ref (ma 10), .ref (ma 11), .int (iI mat), .int (iI mtk), .int (iI mtf), .int (iI mtt), .int (iI mfa), .int (iI mla), .int (iI mlp), .int (iI mdp), .ref (ma 12), .ref (ma 13), .int (iI msi), .int (iI (bI mdn)), .int (iI mpf), .int (iI mpt)]))] := hD
          exact fin (0, (-6)) _ _ _ _ _ (by rfl) (by show ((-6), 0) = ckM cb ca cle mz mfp ∧ -9 ≤ (-6) ∧ (-6) ≤ 0 ∧ ((-6) = 0 → ∃ q : Int, 0 ≤ q ∧ q ≤ 9 ∧ cle q.toNat = 0); refine ⟨by (unfold ckM; rw [if_neg (by omega), if_pos (by omega)]), by omega, by omega, fun h => by omega⟩) (by first | exact hP.sub [3, 0, 1, 2] rfl | (subst_vars; exact hP.sub [3, 0, 1, 2] rfl)) (by first | exact hD.sub [3, 0, 1, 2] (by decide) rfl | (subst_vars; exact hD.sub [3, 0, 1, 2] (by decide) rfl)) hS d_M_check_50
      · have _q := c1
        rw [show (24 - x).toNat = (24 - (x + 1)).toNat + 1 by omega] at hres
        simp only [leL] at hres
        refine lv_aload_n hx hb d_M_check_8 rfl (lv_at hl 1 rfl) ?_
        refine lv_iload_n hx hb d_M_check_9 rfl (lv_at hl 0 rfl) ?_
        refine li_callr ((va_runV (As := [.int (iI x)]) (rest := []) ⟨hx, hb, hml, hown, hts⟩ (c_M_isLeader l dC dI kA mo ma mrf mz mls mfp mfm mtx mwd mak mli mlx mat mtk mtf mtt mfa mla mlp mdp msi mpf mpt mdn cb x (by exact hcb) (by exact hz) (by omega)) (cw_M_83 hts rfl rfl ⟨Nat.le_of_ble_eq_true rfl, Nat.le_of_ble_eq_true rfl⟩) (li_preV (va_recv hK hP (ci := 10) (q0 := 0) rfl rfl) (hP.sub [0, 1] rfl) hK hN (hG.go hS hAN)) rfl rfl hl.1 rfl (lv_room (Nat.le_of_ble_eq_true rfl)) d_M_check_10 ⟨(by show 0 + 0 ≤ 0; omega), (by show 0 + 0 ≤ 0; omega)⟩).run) ?_
        refine li_bnz (tgt := 24) hx hb d_M_check_13 (by decide) (fun c54 => ?_) (fun c54 => ?_)
        · have _q := c54
          rw [if_pos (by assumption)] at hres
          obtain ⟨x_n, ex_n⟩ : ∃ y_9 : Int, y_9 = x + 1 := ⟨_, rfl⟩
          refine lv_iinc (v := iI x_n) (lv' := [(1, .int (iI x_n)), (0, .ref mo)]) hx hb d_M_check_24 hl (k := 0) rfl (by rw [ex_n]; exact iI_add _ _) (by decide) rfl (fun ls hl => ?_)
          refine lv_goto (tgt := 2) hx hb d_M_check_27 (by decide) ?_
          exact ih_2 x_n (by omega) (by rw [ex_n]; exact hres) (by omega) _ _ hP hD hS _ (lv_sub hl [0, 1] rfl)
        · have _q := c54
          rw [if_neg (nbt (by assumption))] at hres
          refine lv_aload_n hx hb d_M_check_16 rfl (lv_at hl 1 rfl) ?_
          refine lv_bipush (v := iI (-5)) hx hb d_M_check_17 (by decide) ?_
          refine lv_iload_n hx hb d_M_check_19 rfl (lv_at hl 0 rfl) ?_
          refine li_callw (wc := [(mo, .inr (10, [.int (iI mrf), .ref (ma 0), .int (iI mz), .ref (ma 1), .ref (ma 2), .int (iI mls), .int (iI mfp), .int (iI mfm), .ref (ma 3), .int (iI mtx), .ref (ma 4), .ref (ma 5), .int (iI mwd), .ref (ma 6), .ref (ma 7), .int (iI mak), .ref (ma 8), .ref (ma 9), .int (iI mli), .int (iI mlx), .ref (ma 10), .ref (ma 11), .int (iI mat), .int (iI mtk), .int (iI mtf), .int (iI mtt), .int (iI mfa), .int (iI mla), .int (iI mlp), .int (iI mdp), .ref (ma 12), .ref (ma 13), .int (iI msi), .int (iI (bI mdn)), .int (iI mpf), .int (iI mpt)]))]) (wr := [(ma 0, .inl (kA 0, 400, .inl (aI cb))), (ma 1, .inl (kA 0, 4120, .inl (aI ca))), (ma 2, .inl (kA 0, 10, .inl (aI cle)))]) (va_runV (As := [.int (iI (-5)), .int (iI x)]) (rest := []) ⟨hx, hb, hml, hown, hts⟩ (c_M_wrong l dC dI kA H.size mo ma mrf mz mls mfp mfm mtx mwd mak mli mlx mat mtk mtf mtt mfa mla mlp mdp msi mpf mpt mdn (-5) x ) (cw_M_86 hts rfl rfl ⟨Nat.le_of_ble_eq_true rfl, Nat.le_of_ble_eq_true rfl⟩) (li_preV (va_recv hK hP (ci := 10) (q0 := 0) rfl rfl) ⟨rfl, hP.sub [0] rfl, (hD.sub [0] (by decide) rfl).weaken (fun _ _ _ h => hAN _ h), trivial⟩ hK hN (hG.go hS hAN)) rfl rfl hl.1 rfl (lv_room (Nat.le_of_ble_eq_true rfl)) d_M_check_20 ⟨(by show 0 + 0 ≤ 0; omega), (by show 0 + 0 ≤ 0; omega)⟩) hP hD hS hA [0] [1, 2, 3] rfl rfl (by decide) (by decide) (fun u55 H locs hu55 hP hD hS _hk => ?_)
          have hP : va_P (dC, dI) CL [(ma 0, .inl (kA 0, 400, .inl (aI cb))), (ma 1, .inl (kA 0, 4120, .inl (aI ca))), (ma 2, .inl (kA 0, 10, .inl (aI cle))), (mo, .inr (10, [.int (iI mrf), .ref (ma 0), .int (iI mz), .ref (ma 1), .ref (ma 2), .int (iI mls), .int (iI x), .int (iI mfm), .ref (ma 3), .int (iI mtx), .ref (ma 4), .ref (ma 5), .int (iI mwd), .ref (ma 6), .ref (ma 7), .int (iI mak), .ref (ma 8), .ref (ma 9), .int (iI mli), .int (iI mlx), .ref (ma 10), .ref (ma 11), .int (iI mat), .int (iI mtk), .int (iI mtf), .int (iI mtt), .int (iI mfa), .int (iI mla), .int (iI mlp), .int (iI mdp), .ref (ma 12), .ref (ma 13), .int (iI msi), .int (iI (bI mdn)), .int (iI mpf), .int (iI mpt)]))] H := hP
          have hD : va_D A [(ma 0, .inl (kA 0, 400, .inl (aI cb))), (ma 1, .inl (kA 0, 4120, .inl (aI ca))), (ma 2, .inl (kA 0, 10, .inl (aI cle))), (mo, .inr (10, [.int (iI mrf), .ref (ma 0), .int (iI mz), .ref (ma 1), .ref (ma 2), .int (iI mls), .int (iI x), .int (iI mfm), .ref (ma 3), .int (iI mtx), .ref (ma 4), .ref (ma 5), .int (iI mwd), .ref (ma 6), .ref (ma 7), .int (iI mak), .ref (ma 8), .ref (ma 9), .int (iI mli), .int (iI mlx), .ref (ma 10), .ref (ma 11), .int (iI mat), .int (iI mtk), .int (iI mtf), .int (iI mtt), .int (iI mfa), .int (iI mla), .int (iI mlp), .int (iI mdp), .ref (ma 12), .ref (ma 13), .int (iI msi), .int (iI (bI mdn)), .int (iI mpf), .int (iI mpt)]))] := hD
          exact fin (x, (-5)) _ _ _ _ _ (by rfl) (by show ((-5), x) = ckM cb ca cle mz mfp ∧ -9 ≤ (-5) ∧ (-5) ≤ 0 ∧ ((-5) = 0 → ∃ q : Int, 0 ≤ q ∧ q ≤ 9 ∧ cle q.toNat = 0); refine ⟨by (unfold ckM; rw [if_pos (by omega), ← hres]), by omega, by omega, fun h => by omega⟩) (by first | exact hP.sub [3, 0, 1, 2] rfl | (subst_vars; exact hP.sub [3, 0, 1, 2] rfl)) (by first | exact hD.sub [3, 0, 1, 2] (by decide) rfl | (subst_vars; exact hD.sub [3, 0, 1, 2] (by decide) rfl)) hS d_M_check_23
  exact K_2 ((24 - (0 : Int)).toNat + 1) 0 (by omega) (by rfl) (Nat.lt_succ_self _) _ _ hP hD hS _ (lv_sub hl [0, 1] rfl)

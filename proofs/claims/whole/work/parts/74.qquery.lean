abbrev YU : Type := Int × Int × YT
abbrev YZ : Type := Bool × Int × Bool × YU
def tsY (kd : Int) (u : YT) : YT := (u.1 + 1, u.2.1 + 1, u.2.2.1, va_up u.2.2.2.1 u.2.1.toNat kd, u.2.2.2.2)
def reY (lc : Nat → Int) (kn : Int) (gk gs ge : Nat → Int) (kz : Int) (si : Int) (dn : Bool) (w : YU) : YZ := ((reE lc kn gk gs ge kz w.2.2.1 si dn w.1 w.2.1).1, (reE lc kn gk gs ge kz w.2.2.1 si dn w.1 w.2.1).2.2.1, (reE lc kn gk gs ge kz w.2.2.1 si dn w.1 w.2.1).2.2.2.1, (reE lc kn gk gs ge kz w.2.2.1 si dn w.1 w.2.1).2.2.2.2.1, (reE lc kn gk gs ge kz w.2.2.1 si dn w.1 w.2.1).2.2.2.2.2, (reE lc kn gk gs ge kz w.2.2.1 si dn w.1 w.2.1).2.1, w.2.2.2)
def rqL (lc : Nat → Int) (kn : Int) (gk gs ge : Nat → Int) (kz : Int) (si : Int) (dn : Bool) : Nat → Int → Bool → YU → YZ
  | 0, _, _, w => (false, si, dn, w)
  | k + 1, o, b, w =>
    if b = true then
      (if kdF gk kz w.2.2.1 = 9 ∧ o < 6 then rqL lc kn gk gs ge kz si dn k (o + 1) b (w.1, w.2.1, tsY (kdF gk kz w.2.2.1) w.2.2)
       else if (rcY lc kn gk gs ge kz w.1 w.2.1 w.2.2).1 = true then rqL lc kn gk gs ge kz si dn k o false (rcY lc kn gk gs ge kz w.1 w.2.1 w.2.2).2
       else (false, si, dn, (rcY lc kn gk gs ge kz w.1 w.2.1 w.2.2).2))
    else if kdF gk kz w.2.2.1 = 10 ∧ 0 < o then rqL lc kn gk gs ge kz si dn k (o - 1) b (w.1, w.2.1, tsY (kdF gk kz w.2.2.1) w.2.2)
    else if jnF (kdF gk kz w.2.2.1) = true then rqL lc kn gk gs ge kz si dn k o true (w.1, w.2.1, tsY (kdF gk kz w.2.2.1) w.2.2)
    else if o = 0 then reY lc kn gk gs ge kz si dn w
    else (false, si, dn, w)
def rqM (lc : Nat → Int) (kn : Int) (gk gs ge : Nat → Int) (kz : Int) (si : Int) (dn : Bool) (w : YU) : YZ := rqL lc kn gk gs ge kz si dn (kz + 1).toNat 0 true w
theorem rtM_q {kn : Int} {gk gs ge : Nat → Int} {kz ix rl : Int} {u : YT} {v : Bool} {n z c : Int} {s : Nat → Int} {g : Nat → CEt} (h : (v, n, z, c, s, g) = rtM kn gk gs ge kz ix rl u) : (v = false ∧ (n = kz ∨ n = u.1)) ∨ (v = true ∧ n = u.1 + 1 ∧ u.1 < kz ∧ z = u.2.1 + 1 ∧ u.2.2.1 ≤ c ∧ c ≤ u.2.2.1 + 1 ∧ s = va_up u.2.2.2.1 u.2.1.toNat 0) := by
  have hlt : kdF gk kz u.1 ≠ 6 → u.1 < kz := by intro h8; unfold kdF at h8; split at h8 <;> omega
  unfold rtM at h
  by_cases h1 : kdF gk kz u.1 = 3
  · rw [if_pos h1] at h
    have e1 := congrArg Prod.fst h
    have e2 := congrArg (fun q => q.2.1) h
    exact Or.inl ⟨e1, Or.inl e2⟩
  · rw [if_neg h1] at h
    by_cases h2 : kdF gk kz u.1 = 1
    · rw [if_pos h2] at h
      simp only [Prod.mk.injEq] at h
      obtain ⟨e1, e2, e3, e4, e5, _⟩ := h
      refine Or.inr ⟨e1, e2, hlt (by omega), e3, ?_, ?_, e5⟩ <;> (rw [e4]; split <;> omega)
    · rw [if_neg h2] at h
      by_cases h3 : kdF gk kz u.1 = 2
      · rw [if_pos h3] at h
        simp only [Prod.mk.injEq] at h
        obtain ⟨e1, e2, e3, e4, e5, _⟩ := h
        refine Or.inr ⟨e1, e2, hlt (by omega), e3, ?_, ?_, e5⟩ <;> (rw [e4]; split <;> omega)
      · rw [if_neg h3] at h
        have e1 := congrArg Prod.fst h
        have e2 := congrArg (fun q => q.2.1) h
        exact Or.inl ⟨e1, Or.inr e2⟩
theorem rcN_r (ix rl : Int) (f : Int × Int) (b : Int) : (rcN ix rl f b).1 = f.1 ∨ (rcN ix rl f b).1 = -4 := by
  unfold rcN; split
  · exact ynS_r ..
  · exact Or.inl rfl
theorem rcY_r {lc : Nat → Int} {kn : Int} {gk gs ge : Nat → Int} {kz ft fp : Int} {u : YT} {v : Bool} {t p n z c : Int} {s : Nat → Int} {g : Nat → CEt} (h : (v, t, p, n, z, c, s, g) = rcY lc kn gk gs ge kz ft fp u) : (t = ft ∨ t = -3 ∨ t = -4) ∧ ((v = false ∧ (n = kz ∨ n = u.1 ∨ n = u.1 + 2)) ∨ (v = true ∧ (n = u.1 + 1 ∨ n = u.1 + 3) ∧ z = u.2.1 + 1 ∧ u.2.2.1 ≤ c ∧ c ≤ u.2.2.1 + 1 ∧ n ≤ kz ∧ s = va_up u.2.2.2.1 u.2.1.toNat 0)) := by
  unfold rcY at h
  split at h
  · have e1 := congrArg (fun q => q.1) h
    have e2 := congrArg (fun q => q.2.1) h
    have e3 := congrArg (fun q => q.2.2.2) h
    dsimp only at e1 e2 e3
    have hr := rtM_q (show (v, n, z, c, s, g) = rtM kn gk gs ge kz 0 2 u by rw [show rtM kn gk gs ge kz 0 2 u = ((rtM kn gk gs ge kz 0 2 u).1, (rtM kn gk gs ge kz 0 2 u).2) from rfl, ← e1, ← e3])
    refine ⟨Or.inl e2, ?_⟩
    rcases hr with hr | hr
    · exact Or.inl ⟨hr.1, by omega⟩
    · exact Or.inr ⟨hr.1, Or.inl hr.2.1, hr.2.2.2.1, hr.2.2.2.2.1, hr.2.2.2.2.2.1, by omega, hr.2.2.2.2.2.2⟩
  · obtain ⟨ix, eix⟩ : ∃ ix, ix = ixA lc kn gs ge kz u.1 := ⟨_, rfl⟩
    obtain ⟨rl, erl⟩ : ∃ rl, rl = rlA lc kn gk gs ge kz (u.1 + 1) := ⟨_, rfl⟩
    rw [← eix, ← erl] at h
    have e1 := congrArg (fun q => q.1) h
    have e2 := congrArg (fun q => q.2.1) h
    have e3 := congrArg (fun q => q.2.2.2) h
    dsimp only at e1 e2 e3
    have hr := rtM_q (show (v, n, z, c, s, g) = rtM kn gk gs ge kz ix rl (u.1 + 1 + 1, u.2) by rw [show rtM kn gk gs ge kz ix rl (u.1 + 1 + 1, u.2) = ((rtM kn gk gs ge kz ix rl (u.1 + 1 + 1, u.2)).1, (rtM kn gk gs ge kz ix rl (u.1 + 1 + 1, u.2)).2) from rfl, ← e1, ← e3])
    dsimp only at hr
    refine ⟨?_, ?_⟩
    · have h1 := rcN_r ix rl (rdX lc kn gs ge kz u.1 ft fp) (seF gs kz kn (u.1 + 1))
      have h2 := rdX_r (lc := lc) (kn := kn) (gs := gs) (ge := ge) (kz := kz) (x := u.1) (ft := ft) (fp := fp)
      rw [← e2] at h1
      omega
    · rcases hr with hr | hr
      · exact Or.inl ⟨hr.1, by omega⟩
      · exact Or.inr ⟨hr.1, Or.inr (by omega), hr.2.2.2.1, hr.2.2.2.2.1, hr.2.2.2.2.2.1, by omega, hr.2.2.2.2.2.2⟩
theorem reE_r {lc : Nat → Int} {kn : Int} {gk gs ge : Nat → Int} {kz x si : Int} {dn : Bool} {ft fp : Int} {v : Bool} {n s : Int} {d : Bool} {t p : Int} (h : (v, n, s, d, t, p) = reE lc kn gk gs ge kz x si dn ft fp) : x ≤ n ∧ n ≤ x + 4 := by
  unfold reE at h
  (repeat' split at h) <;> (have e := congrArg (fun q => q.2.1) h; dsimp only at e; omega)

theorem d_Y_readsQuery_0 : decode b_Y_readsQuery 0 = .ok (.iconst 0, 1) := by decide +kernel
theorem d_Y_readsQuery_1 : decode b_Y_readsQuery 1 = .ok (.istore_n 1, 1) := by decide +kernel
theorem d_Y_readsQuery_2 : decode b_Y_readsQuery 2 = .ok (.iconst 1, 1) := by decide +kernel
theorem d_Y_readsQuery_3 : decode b_Y_readsQuery 3 = .ok (.istore_n 2, 1) := by decide +kernel
theorem d_Y_readsQuery_4 : decode b_Y_readsQuery 4 = .ok (.iconst 0, 1) := by decide +kernel
theorem d_Y_readsQuery_5 : decode b_Y_readsQuery 5 = .ok (.istore_n 3, 1) := by decide +kernel
theorem d_Y_readsQuery_6 : decode b_Y_readsQuery 6 = .ok (.iload_n 3, 1) := by decide +kernel
theorem d_Y_readsQuery_7 : decode b_Y_readsQuery 7 = .ok (.aload_n 0, 1) := by decide +kernel
theorem d_Y_readsQuery_8 : decode b_Y_readsQuery 8 = .ok (.getfield 12, 3) := by decide +kernel
theorem d_Y_readsQuery_11 : decode b_Y_readsQuery 11 = .ok (.getfield 70, 3) := by decide +kernel
theorem d_Y_readsQuery_14 : decode b_Y_readsQuery 14 = .ok (.if_icmp .gt 128, 3) := by decide +kernel
theorem d_Y_readsQuery_17 : decode b_Y_readsQuery 17 = .ok (.aload_n 0, 1) := by decide +kernel
theorem d_Y_readsQuery_18 : decode b_Y_readsQuery 18 = .ok (.getfield 12, 3) := by decide +kernel
theorem d_Y_readsQuery_21 : decode b_Y_readsQuery 21 = .ok (.aload_n 0, 1) := by decide +kernel
theorem d_Y_readsQuery_22 : decode b_Y_readsQuery 22 = .ok (.getfield 39, 3) := by decide +kernel
theorem d_Y_readsQuery_25 : decode b_Y_readsQuery 25 = .ok (.invokevirtual 73, 3) := by decide +kernel
theorem d_Y_readsQuery_28 : decode b_Y_readsQuery 28 = .ok (.istore 4, 2) := by decide +kernel
theorem d_Y_readsQuery_30 : decode b_Y_readsQuery 30 = .ok (.iload_n 2, 1) := by decide +kernel
theorem d_Y_readsQuery_31 : decode b_Y_readsQuery 31 = .ok (.ifCond .eq 28, 3) := by decide +kernel
theorem d_Y_readsQuery_34 : decode b_Y_readsQuery 34 = .ok (.iload 4, 2) := by decide +kernel
theorem d_Y_readsQuery_36 : decode b_Y_readsQuery 36 = .ok (.bipush 9, 2) := by decide +kernel
theorem d_Y_readsQuery_38 : decode b_Y_readsQuery 38 = .ok (.if_icmp .ne 21, 3) := by decide +kernel
theorem d_Y_readsQuery_41 : decode b_Y_readsQuery 41 = .ok (.iload_n 1, 1) := by decide +kernel
theorem d_Y_readsQuery_42 : decode b_Y_readsQuery 42 = .ok (.bipush 6, 2) := by decide +kernel
theorem d_Y_readsQuery_44 : decode b_Y_readsQuery 44 = .ok (.if_icmp .ge 15, 3) := by decide +kernel
theorem d_Y_readsQuery_47 : decode b_Y_readsQuery 47 = .ok (.iinc 1 1, 3) := by decide +kernel
theorem d_Y_readsQuery_50 : decode b_Y_readsQuery 50 = .ok (.aload_n 0, 1) := by decide +kernel
theorem d_Y_readsQuery_51 : decode b_Y_readsQuery 51 = .ok (.iload 4, 2) := by decide +kernel
theorem d_Y_readsQuery_53 : decode b_Y_readsQuery 53 = .ok (.invokevirtual 76, 3) := by decide +kernel
theorem d_Y_readsQuery_56 : decode b_Y_readsQuery 56 = .ok (.goto 80, 3) := by decide +kernel
theorem d_Y_readsQuery_59 : decode b_Y_readsQuery 59 = .ok (.iload_n 2, 1) := by decide +kernel
theorem d_Y_readsQuery_60 : decode b_Y_readsQuery 60 = .ok (.ifCond .eq 17, 3) := by decide +kernel
theorem d_Y_readsQuery_63 : decode b_Y_readsQuery 63 = .ok (.aload_n 0, 1) := by decide +kernel
theorem d_Y_readsQuery_64 : decode b_Y_readsQuery 64 = .ok (.invokevirtual 80, 3) := by decide +kernel
theorem d_Y_readsQuery_67 : decode b_Y_readsQuery 67 = .ok (.ifCond .ne 5, 3) := by decide +kernel
theorem d_Y_readsQuery_70 : decode b_Y_readsQuery 70 = .ok (.iconst 0, 1) := by decide +kernel
theorem d_Y_readsQuery_71 : decode b_Y_readsQuery 71 = .ok (.ireturn, 1) := by decide +kernel
theorem d_Y_readsQuery_72 : decode b_Y_readsQuery 72 = .ok (.iconst 0, 1) := by decide +kernel
theorem d_Y_readsQuery_73 : decode b_Y_readsQuery 73 = .ok (.istore_n 2, 1) := by decide +kernel
theorem d_Y_readsQuery_74 : decode b_Y_readsQuery 74 = .ok (.goto 62, 3) := by decide +kernel
theorem d_Y_readsQuery_77 : decode b_Y_readsQuery 77 = .ok (.iload 4, 2) := by decide +kernel
theorem d_Y_readsQuery_79 : decode b_Y_readsQuery 79 = .ok (.bipush 10, 2) := by decide +kernel
theorem d_Y_readsQuery_81 : decode b_Y_readsQuery 81 = .ok (.if_icmp .ne 19, 3) := by decide +kernel
theorem d_Y_readsQuery_84 : decode b_Y_readsQuery 84 = .ok (.iload_n 1, 1) := by decide +kernel
theorem d_Y_readsQuery_85 : decode b_Y_readsQuery 85 = .ok (.ifCond .le 15, 3) := by decide +kernel
theorem d_Y_readsQuery_88 : decode b_Y_readsQuery 88 = .ok (.iinc 1 (-1), 3) := by decide +kernel
theorem d_Y_readsQuery_91 : decode b_Y_readsQuery 91 = .ok (.aload_n 0, 1) := by decide +kernel
theorem d_Y_readsQuery_92 : decode b_Y_readsQuery 92 = .ok (.iload 4, 2) := by decide +kernel
theorem d_Y_readsQuery_94 : decode b_Y_readsQuery 94 = .ok (.invokevirtual 76, 3) := by decide +kernel
theorem d_Y_readsQuery_97 : decode b_Y_readsQuery 97 = .ok (.goto 39, 3) := by decide +kernel
theorem d_Y_readsQuery_100 : decode b_Y_readsQuery 100 = .ok (.iload 4, 2) := by decide +kernel
theorem d_Y_readsQuery_102 : decode b_Y_readsQuery 102 = .ok (.invokestatic 83, 3) := by decide +kernel
theorem d_Y_readsQuery_105 : decode b_Y_readsQuery 105 = .ok (.ifCond .eq 14, 3) := by decide +kernel
theorem d_Y_readsQuery_108 : decode b_Y_readsQuery 108 = .ok (.iconst 1, 1) := by decide +kernel
theorem d_Y_readsQuery_109 : decode b_Y_readsQuery 109 = .ok (.istore_n 2, 1) := by decide +kernel
theorem d_Y_readsQuery_110 : decode b_Y_readsQuery 110 = .ok (.aload_n 0, 1) := by decide +kernel
theorem d_Y_readsQuery_111 : decode b_Y_readsQuery 111 = .ok (.iload 4, 2) := by decide +kernel
theorem d_Y_readsQuery_113 : decode b_Y_readsQuery 113 = .ok (.invokevirtual 76, 3) := by decide +kernel
theorem d_Y_readsQuery_116 : decode b_Y_readsQuery 116 = .ok (.goto 20, 3) := by decide +kernel
theorem d_Y_readsQuery_119 : decode b_Y_readsQuery 119 = .ok (.iload_n 1, 1) := by decide +kernel
theorem d_Y_readsQuery_120 : decode b_Y_readsQuery 120 = .ok (.ifCond .ne 14, 3) := by decide +kernel
theorem d_Y_readsQuery_123 : decode b_Y_readsQuery 123 = .ok (.aload_n 0, 1) := by decide +kernel
theorem d_Y_readsQuery_124 : decode b_Y_readsQuery 124 = .ok (.invokevirtual 87, 3) := by decide +kernel
theorem d_Y_readsQuery_127 : decode b_Y_readsQuery 127 = .ok (.ifCond .eq 7, 3) := by decide +kernel
theorem d_Y_readsQuery_130 : decode b_Y_readsQuery 130 = .ok (.iconst 1, 1) := by decide +kernel
theorem d_Y_readsQuery_131 : decode b_Y_readsQuery 131 = .ok (.goto 4, 3) := by decide +kernel
theorem d_Y_readsQuery_134 : decode b_Y_readsQuery 134 = .ok (.iconst 0, 1) := by decide +kernel
theorem d_Y_readsQuery_135 : decode b_Y_readsQuery 135 = .ok (.ireturn, 1) := by decide +kernel
theorem d_Y_readsQuery_136 : decode b_Y_readsQuery 136 = .ok (.iinc 3 1, 3) := by decide +kernel
theorem d_Y_readsQuery_139 : decode b_Y_readsQuery 139 = .ok (.goto (-133), 3) := by decide +kernel
theorem d_Y_readsQuery_142 : decode b_Y_readsQuery 142 = .ok (.iconst 0, 1) := by decide +kernel
theorem d_Y_readsQuery_143 : decode b_Y_readsQuery 143 = .ok (.ireturn, 1) := by decide +kernel
set_option maxHeartbeats 4000000 in
set_option maxRecDepth 100000 in
theorem c_Y_readsQuery (l : Launch) (dC : Nat → ClassId) (dI : Nat → Nat → Nat) (kA : Nat → ClassId) (sz : Nat) (yo : Nat) (ya : Nat → Nat) (yn : Int) (ysc : Int) (ycc : Int) (ysi : Int) (yft : Int) (yfp : Int) (ydn : Bool) (la : Nat) (nl : Nat) (lc : Nat → Int) (kn : Int) (ga : Nat) (gb : Nat) (gc : Nat) (kz : Int) (gk : Nat → Int) (gs : Nat → Int) (ge : Nat → Int) (ys : Nat → Int) (cl : Nat → Nat) (g : Nat → CEt) (hKR : KR nl lc kn kz gk gs ge) (hyn : yn = 0 ∧ ysc = 0 ∧ ycc = 0) (hft : -2147483648 ≤ yft ∧ yft < 2147483648) : Met l y_Y_readsQuery (wsy y_Y_readsQuery b_Y_readsQuery 5 (some .boolean)) (rmd 8 0 0) (li_Pr (dC, dI) CL (TY kA) [.ref yo] (fun h => h.size = sz ∧ va_P (dC, dI) CL ([(yo, .inr (6, [.ref (ya 0), .int (iI yn), .ref (ya 1), .int (iI ysc), .ref (ya 2), .int (iI ycc), .int (iI ysi), .int (iI (bI ydn)), .int (iI yft), .int (iI yfp), .ref (ya 3), .ref (ya 4)])), (ya 0, .inr (8, [.ref la, .int (iI kn), .ref ga, .ref gb, .ref gc, .int (iI kz)])), (ga, .inl (kA 0, 100, .inl (aI gk))), (gb, .inl (kA 0, 100, .inl (aI gs))), (gc, .inl (kA 0, 100, .inl (aI ge))), (ya 1, .inl (kA 0, 100, .inl (aI ys))), (ya 2, .inl (kA 6, 50, .inr (.inr (.inr (.inr (fun k => some (cl k)))))))] ++ clW cl g) h ∧ va_D (fun q => dI 100 0 ≤ q) ([(yo, .inr (6, [.ref (ya 0), .int (iI yn), .ref (ya 1), .int (iI ysc), .ref (ya 2), .int (iI ycc), .int (iI ysi), .int (iI (bI ydn)), .int (iI yft), .int (iI yfp), .ref (ya 3), .ref (ya 4)])), (ya 0, .inr (8, [.ref la, .int (iI kn), .ref ga, .ref gb, .ref gc, .int (iI kz)])), (ga, .inl (kA 0, 100, .inl (aI gk))), (gb, .inl (kA 0, 100, .inl (aI gs))), (gc, .inl (kA 0, 100, .inl (aI ge))), (ya 1, .inl (kA 0, 100, .inl (aI ys))), (ya 2, .inl (kA 6, 50, .inr (.inr (.inr (.inr (fun k => some (cl k)))))))] ++ clW cl g) ∧ (fun h => va_P (dC, dI) CL [(la, .inl (kA 1, nl, .inl (aI lc)))] h ∧ Dsj [(la, .inl (kA 1, nl, .inl (aI lc)))] ([(yo, .inr (6, [.ref (ya 0), .int (iI yn), .ref (ya 1), .int (iI ysc), .ref (ya 2), .int (iI ycc), .int (iI ysi), .int (iI (bI ydn)), .int (iI yft), .int (iI yfp), .ref (ya 3), .ref (ya 4)])), (ya 0, .inr (8, [.ref la, .int (iI kn), .ref ga, .ref gb, .ref gc, .int (iI kz)])), (ga, .inl (kA 0, 100, .inl (aI gk))), (gb, .inl (kA 0, 100, .inl (aI gs))), (gc, .inl (kA 0, 100, .inl (aI ge))), (ya 1, .inl (kA 0, 100, .inl (aI ys))), (ya 2, .inl (kA 6, 50, .inr (.inr (.inr (.inr (fun k => some (cl k)))))))] ++ clW cl g)) h)) (li_Qw (S := (Bool) × (Int) × (Bool) × (Int) × (Int) × (Int) × (Int) × (Int) × (Nat → Int) × (Nat → CEt)) (dC, dI) CL (fun u => (u.1, u.2.1, u.2.2.1, u.2.2.2.1, u.2.2.2.2.1, u.2.2.2.2.2.1, u.2.2.2.2.2.2.1, u.2.2.2.2.2.2.2.1, u.2.2.2.2.2.2.2.2.1, u.2.2.2.2.2.2.2.2.2) = (rqM lc kn gk gs ge kz ysi ydn (yft, yfp, yn, ysc, ycc, ys, g)) ∧ 0 ≤ u.2.2.2.2.2.1 ∧ u.2.2.2.2.2.1 ≤ 1000) (fun u => some (.int (iI (bI u.1)))) (fun u => ([(yo, .inr (6, [.ref (ya 0), .int (iI u.2.2.2.2.2.1), .ref (ya 1), .int (iI u.2.2.2.2.2.2.1), .ref (ya 2), .int (iI u.2.2.2.2.2.2.2.1), .int (iI u.2.1), .int (iI (bI u.2.2.1)), .int (iI u.2.2.2.1), .int (iI u.2.2.2.2.1), .ref (ya 3), .ref (ya 4)])), (ya 0, .inr (8, [.ref la, .int (iI kn), .ref ga, .ref gb, .ref gc, .int (iI kz)])), (ga, .inl (kA 0, 100, .inl (aI gk))), (gb, .inl (kA 0, 100, .inl (aI gs))), (gc, .inl (kA 0, 100, .inl (aI ge))), (ya 1, .inl (kA 0, 100, .inl (aI u.2.2.2.2.2.2.2.2.1))), (ya 2, .inl (kA 6, 50, .inr (.inr (.inr (.inr (fun k => some (cl k)))))))] ++ clW cl u.2.2.2.2.2.2.2.2.2)) (va_A ([(yo, .inr (6, [.ref (ya 0), .int (iI yn), .ref (ya 1), .int (iI ysc), .ref (ya 2), .int (iI ycc), .int (iI ysi), .int (iI (bI ydn)), .int (iI yft), .int (iI yfp), .ref (ya 3), .ref (ya 4)])), (ya 0, .inr (8, [.ref la, .int (iI kn), .ref ga, .ref gb, .ref gc, .int (iI kz)])), (ga, .inl (kA 0, 100, .inl (aI gk))), (gb, .inl (kA 0, 100, .inl (aI gs))), (gc, .inl (kA 0, 100, .inl (aI ge))), (ya 1, .inl (kA 0, 100, .inl (aI ys))), (ya 2, .inl (kA 6, 50, .inr (.inr (.inr (.inr (fun k => some (cl k)))))))] ++ clW cl g) sz)) 0 0 (va_A ([(yo, .inr (6, [.ref (ya 0), .int (iI yn), .ref (ya 1), .int (iI ysc), .ref (ya 2), .int (iI ycc), .int (iI ysi), .int (iI (bI ydn)), .int (iI yft), .int (iI yfp), .ref (ya 3), .ref (ya 4)])), (ya 0, .inr (8, [.ref la, .int (iI kn), .ref ga, .ref gb, .ref gc, .int (iI kz)])), (ga, .inl (kA 0, 100, .inl (aI gk))), (gb, .inl (kA 0, 100, .inl (aI gs))), (gc, .inl (kA 0, 100, .inl (aI ge))), (ya 1, .inl (kA 0, 100, .inl (aI ys))), (ya 2, .inl (kA 6, 50, .inr (.inr (.inr (.inr (fun k => some (cl k)))))))] ++ clW cl g) sz) := by
  refine li_mwi (r := fun (u : (Bool) × (Int) × (Bool) × (Int) × (Int) × (Int) × (Int) × (Int) × (Nat → Int) × (Nat → CEt)) => bI u.1) (by decide) (Nat.le_of_ble_eq_true rfl) (fun u _ => by exact li_narZ2 _) ?_
  intro p e s m args below meth c Q A C hP hD hBx hK hN hG hA hAi hAN fin ls hl
  obtain ⟨hx, hb, hr, hml, hown, hts, hlocks, hin⟩ := C
  have hown : s.vm.findClass R_Y = some m.cls := hown
  obtain ⟨hRo, hDj⟩ := hBx
  have hRo : va_P (dC, dI) CL [(la, .inl (kA 1, nl, .inl (aI lc)))] s.heap := hRo
  have hRoN := li_roN (A := A) hRo hDj hAi
  have hl : lv_has ls 5 [(0, .ref yo)] := hl
  obtain ⟨hnl, hkn, hkz, hlc, hgk, hgs, hge⟩ := id hKR
  suffices h9 : ∀ (H : Heap) (locs : List Loc), H = s.heap → locs = [] → W p l e (rmd 8 0 0) s m args below meth c H locs 0 0 Q (F0 m 0 ls []) from h9 _ _ rfl rfl
  intro H locs eH eL
  have hP : va_P (dC, dI) CL ([(yo, .inr (6, [.ref (ya 0), .int (iI yn), .ref (ya 1), .int (iI ysc), .ref (ya 2), .int (iI ycc), .int (iI ysi), .int (iI (bI ydn)), .int (iI yft), .int (iI yfp), .ref (ya 3), .ref (ya 4)])), (ya 0, .inr (8, [.ref la, .int (iI kn), .ref ga, .ref gb, .ref gc, .int (iI kz)])), (ga, .inl (kA 0, 100, .inl (aI gk))), (gb, .inl (kA 0, 100, .inl (aI gs))), (gc, .inl (kA 0, 100, .inl (aI ge))), (ya 1, .inl (kA 0, 100, .inl (aI ys))), (ya 2, .inl (kA 6, 50, .inr (.inr (.inr (.inr (fun k => some (cl k)))))))] ++ clW cl g) H := by rw [eH]; exact hP
  have hS : va_S A s.heap H locs := by rw [eH, eL]; exact va_S.rf
  refine lv_iconst (v := iI 0) hx hb d_Y_readsQuery_0 rfl ?_
  refine lv_istore_n (lv' := [(1, .int (iI 0)), (0, .ref yo)]) hx hb d_Y_readsQuery_1 rfl hl (by decide) rfl (fun ls hl => ?_)
  refine lv_iconst (v := iI 1) hx hb d_Y_readsQuery_2 rfl ?_
  refine lv_istore_n (lv' := [(2, .int (iI 1)), (1, .int (iI 0)), (0, .ref yo)]) hx hb d_Y_readsQuery_3 rfl hl (by decide) rfl (fun ls hl => ?_)
  refine lv_iconst (v := iI 0) hx hb d_Y_readsQuery_4 rfl ?_
  refine lv_istore_n (lv' := [(3, .int (iI 0)), (2, .int (iI 1)), (1, .int (iI 0)), (0, .ref yo)]) hx hb d_Y_readsQuery_5 rfl hl (by decide) rfl (fun ls hl => ?_)
  have K_6 : ∀ (nn_6 : Nat) (o : Int) (b : Bool) (tn : Int) (ft2 : Int) (fp2 : Int) (n2 : Int) (z2 : Int) (cc2 : Int) (ys2 : Nat → Int) (g2 : Nat → CEt), (0 ≤ o ∧ o ≤ 6 ∧ 0 ≤ tn ∧ tn ≤ kz + 1 ∧ 0 ≤ n2 ∧ n2 ≤ 3 * tn ∧ 0 ≤ z2 ∧ z2 ≤ n2 ∧ 0 ≤ cc2 ∧ cc2 ≤ tn ∧ -2147483648 ≤ ft2 ∧ ft2 < 2147483648) → (rqL lc kn gk gs ge kz ysi ydn (kz + 1 - tn).toNat o b (ft2, fp2, n2, z2, cc2, ys2, g2) = (rqM lc kn gk gs ge kz ysi ydn (yft, yfp, yn, ysc, ycc, ys, g))) → ((kz + 1 - tn).toNat < nn_6) → ∀ (H : Heap) (locs : List Loc), va_P (dC, dI) CL ([(yo, .inr (6, [.ref (ya 0), .int (iI n2), .ref (ya 1), .int (iI z2), .ref (ya 2), .int (iI cc2), .int (iI ysi), .int (iI (bI ydn)), .int (iI ft2), .int (iI fp2), .ref (ya 3), .ref (ya 4)])), (ya 0, .inr (8, [.ref la, .int (iI kn), .ref ga, .ref gb, .ref gc, .int (iI kz)])), (ga, .inl (kA 0, 100, .inl (aI gk))), (gb, .inl (kA 0, 100, .inl (aI gs))), (gc, .inl (kA 0, 100, .inl (aI ge))), (ya 1, .inl (kA 0, 100, .inl (aI ys2))), (ya 2, .inl (kA 6, 50, .inr (.inr (.inr (.inr (fun k => some (cl k)))))))] ++ clW cl g2) H → va_D A ([(yo, .inr (6, [.ref (ya 0), .int (iI n2), .ref (ya 1), .int (iI z2), .ref (ya 2), .int (iI cc2), .int (iI ysi), .int (iI (bI ydn)), .int (iI ft2), .int (iI fp2), .ref (ya 3), .ref (ya 4)])), (ya 0, .inr (8, [.ref la, .int (iI kn), .ref ga, .ref gb, .ref gc, .int (iI kz)])), (ga, .inl (kA 0, 100, .inl (aI gk))), (gb, .inl (kA 0, 100, .inl (aI gs))), (gc, .inl (kA 0, 100, .inl (aI ge))), (ya 1, .inl (kA 0, 100, .inl (aI ys2))), (ya 2, .inl (kA 6, 50, .inr (.inr (.inr (.inr (fun k => some (cl k)))))))] ++ clW cl g2) → va_S A s.heap H locs → ∀ ls : Array Slot, lv_has ls 5 [(3, .int (iI tn)), (2, .int (iI (bI b))), (1, .int (iI o)), (0, .ref yo)] → W p l e (rmd 8 0 0) s m args below meth c H locs 0 0 Q (F0 m 6 ls []) := by
    intro nn_6
    induction nn_6 with
    | zero => intro o b tn ft2 fp2 n2 z2 cc2 ys2 g2 ho hres hm; exact absurd hm (Nat.not_lt_zero _)
    | succ nn_6 ih_6 =>
      intro o b tn ft2 fp2 n2 z2 cc2 ys2 g2 ho hres hm_6 H locs hP hD hS ls hl
      refine lv_iload_n hx hb d_Y_readsQuery_6 rfl (lv_at hl 0 rfl) ?_
      refine lv_aload_n hx hb d_Y_readsQuery_7 rfl (lv_at hl 3 rfl) ?_
      refine gf_Y_12 hx hb hts hown hK hP 0 rfl rfl d_Y_readsQuery_8 ?_
      refine gf_Y_70 hx hb hts hN hown hK hP 1 rfl rfl d_Y_readsQuery_11 ?_
      refine li_icmp_gt (tgt := 142) hx hb d_Y_readsQuery_14 (by decide) (by first | omega | exact kd_w (kdF_r hgk)) (by first | omega | exact kd_w (kdF_r hgk)) (fun c1 => ?_) (fun c1 => ?_)
      · have _q := c1
        rw [show (kz + 1 - tn).toNat = 0 by omega] at hres
        simp only [rqL] at hres
        refine lv_iconst (v := iI 0) hx hb d_Y_readsQuery_142 rfl ?_
        exact fin (false, ysi, ydn, ft2, fp2, n2, z2, cc2, ys2, g2) _ _ _ _ _ (by rfl) (by show (false, ysi, ydn, ft2, fp2, n2, z2, cc2, ys2, g2) = (rqM lc kn gk gs ge kz ysi ydn (yft, yfp, yn, ysc, ycc, ys, g)) ∧ 0 ≤ n2 ∧ n2 ≤ 1000; exact ⟨hres, by omega⟩) (by first | exact hP | (subst_vars; exact hP)) (by first | exact hD | (subst_vars; exact hD)) hS d_Y_readsQuery_143
      · have _q := c1
        rw [show (kz + 1 - tn).toNat = (kz + 1 - (tn + 1)).toNat + 1 by omega] at hres
        simp only [rqL] at hres
        refine lv_aload_n hx hb d_Y_readsQuery_17 rfl (lv_at hl 3 rfl) ?_
        refine gf_Y_12 hx hb hts hown hK hP 0 rfl rfl d_Y_readsQuery_18 ?_
        refine lv_aload_n hx hb d_Y_readsQuery_21 rfl (lv_at hl 3 rfl) ?_
        refine gf_Y_39 hx hb hts hown hK hP 0 rfl rfl d_Y_readsQuery_22 ?_
        refine li_callr ((va_runV (As := [.int (iI n2)]) (rest := []) ⟨hx, hb, hml, hown, hts⟩ (c_K_kindAt l dC dI kA (ya 0) la nl lc kn ga gb gc kz gk gs ge n2 (by exact hKR) (by omega)) (cw_Y_73 hts rfl rfl ⟨Nat.le_of_ble_eq_true rfl, Nat.le_of_ble_eq_true rfl⟩) (li_preV (va_recv hK hP (ci := 8) (q0 := 1) rfl rfl) (va_P.app (hP.sub [1] rfl) (va_P.app (hP.sub [2] rfl) (va_P.app (hP.sub [3] rfl) (va_P.app (hP.sub [4] rfl) ((li_ro hRo hRoN hS).sub [0] rfl))))) hK hN (hG.go hS hAN)) rfl rfl hl.1 rfl (lv_room (Nat.le_of_ble_eq_true rfl)) d_Y_readsQuery_25 ⟨(by show 0 + 0 ≤ 0; omega), (by show 0 + 0 ≤ 0; omega)⟩).run) ?_
        refine li_nm (fun kd ekd => ?_)
        refine lv_istore (lv' := [(4, .int (iI kd)), (3, .int (iI tn)), (2, .int (iI (bI b))), (1, .int (iI o)), (0, .ref yo)]) hx hb d_Y_readsQuery_28 hl (by decide) rfl (fun ls hl => ?_)
        have hkd := kdF_r (kz := kz) (x := n2) hgk
        rw [show kdF gk kz n2 = kd from ekd.symm] at hkd hres
        have hlt9 : kd ≠ 6 → n2 < kz := by (intro h8; rw [ekd] at h8; unfold kdF at h8; split at h8 <;> omega)
        refine lv_iload_n hx hb d_Y_readsQuery_30 rfl (lv_at hl 2 rfl) ?_
        refine li_bz (tgt := 59) hx hb d_Y_readsQuery_31 (by decide) (fun c2 => ?_) (fun c2 => ?_)
        · have _q := c2
          have hb9 : ¬ b = true := by (intro h9; have h8 : b = false := (by assumption); rw [h8] at h9; exact Bool.noConfusion h9)
          refine lv_iload_n hx hb d_Y_readsQuery_59 rfl (lv_at hl 2 rfl) ?_
          refine li_bz (tgt := 77) hx hb d_Y_readsQuery_60 (by decide) (fun c3 => ?_) (fun c3 => ?_)
          · have _q := c3
            refine lv_iload hx hb d_Y_readsQuery_77 (lv_at hl 0 rfl) ?_
            refine lv_bipush (v := iI 10) hx hb d_Y_readsQuery_79 (by decide) ?_
            refine li_icmp_ne (tgt := 100) hx hb d_Y_readsQuery_81 (by decide) (by first | omega | exact kd_w (kdF_r hgk)) (by first | omega | exact kd_w (kdF_r hgk)) (fun c4 => ?_) (fun c4 => ?_)
            · have _q := c4
              refine lv_iload hx hb d_Y_readsQuery_100 (lv_at hl 0 rfl) ?_
              refine li_callr ((va_runS (As := [.int (iI kd)]) (rest := []) ⟨hx, hb, hml, hown, hts⟩ (c_Y_isJoin l dC dI kA kd (by omega)) (cw_Y_83 hts rfl rfl ⟨Nat.le_of_ble_eq_true rfl, Nat.le_of_ble_eq_true rfl⟩) (li_preS va_Pnil hK hN (hG.go hS hAN)) rfl rfl hl.1 rfl (lv_room (Nat.le_of_ble_eq_true rfl)) d_Y_readsQuery_102 ⟨(by show 0 + 0 ≤ 0; omega), (by show 0 + 0 ≤ 0; omega)⟩).run) ?_
              refine li_bz (tgt := 119) hx hb d_Y_readsQuery_105 (by decide) (fun c5 => ?_) (fun c5 => ?_)
              · have _q := c5
                have hj9 : ¬ jnF kd = true := by (intro h9; have h8 : jnF kd = false := (by assumption); rw [h8] at h9; exact Bool.noConfusion h9)
                refine lv_iload_n hx hb d_Y_readsQuery_119 rfl (lv_at hl 3 rfl) ?_
                refine li_if_ne (tgt := 134) hx hb d_Y_readsQuery_120 (by decide) (by first | omega | exact kd_w (kdF_r hgk)) (fun c6 => ?_) (fun c6 => ?_)
                · have _q := c6
                  refine lv_iconst (v := iI 0) hx hb d_Y_readsQuery_134 rfl ?_
                  exact fin (false, ysi, ydn, ft2, fp2, n2, z2, cc2, ys2, g2) _ _ _ _ _ (by rfl) (by show (false, ysi, ydn, ft2, fp2, n2, z2, cc2, ys2, g2) = (rqM lc kn gk gs ge kz ysi ydn (yft, yfp, yn, ysc, ycc, ys, g)) ∧ 0 ≤ n2 ∧ n2 ≤ 1000; rw [if_neg hb9, if_neg (show ¬ (kd = 10 ∧ 0 < o) by omega), if_neg hj9] at hres; first | (rw [if_neg (show ¬ o = 0 by omega)] at hres; exact ⟨hres, by omega⟩) | (rw [if_pos (show o = 0 by omega)] at hres; unfold reY at hres; dsimp only at hres; rw [← hp124] at hres; dsimp only at hres; rw [hv9] at hres; have hrr := reE_r hp124; exact ⟨hres, by omega⟩)) (by first | exact hP | (subst_vars; exact hP)) (by first | exact hD | (subst_vars; exact hD)) hS d_Y_readsQuery_135
                · have _q := c6
                  refine lv_aload_n hx hb d_Y_readsQuery_123 rfl (lv_at hl 4 rfl) ?_
                  refine li_callQ (X := [(yo, .inr (6, [.ref (ya 0), .int (iI n2), .ref (ya 1), .int (iI z2), .ref (ya 2), .int (iI cc2), .int (iI ysi), .int (iI (bI ydn)), .int (iI ft2), .int (iI fp2), .ref (ya 3), .ref (ya 4)])), (ya 0, .inr (8, [.ref la, .int (iI kn), .ref ga, .ref gb, .ref gc, .int (iI kz)])), (ga, .inl (kA 0, 100, .inl (aI gk))), (gb, .inl (kA 0, 100, .inl (aI gs))), (gc, .inl (kA 0, 100, .inl (aI ge))), (ya 1, .inl (kA 0, 100, .inl (aI ys2))), (ya 2, .inl (kA 6, 50, .inr (.inr (.inr (.inr (fun k => some (cl k)))))))]) (cx := [(yo, .inr (6, [.ref (ya 0), .int (iI n2), .ref (ya 1), .int (iI z2), .ref (ya 2), .int (iI cc2), .int (iI ysi), .int (iI (bI ydn)), .int (iI ft2), .int (iI fp2), .ref (ya 3), .ref (ya 4)])), (ya 0, .inr (8, [.ref la, .int (iI kn), .ref ga, .ref gb, .ref gc, .int (iI kz)])), (ga, .inl (kA 0, 100, .inl (aI gk))), (gb, .inl (kA 0, 100, .inl (aI gs))), (gc, .inl (kA 0, 100, .inl (aI ge)))]) (wr := [(ya 1, .inl (kA 0, 100, .inl (aI ys2))), (ya 2, .inl (kA 6, 50, .inr (.inr (.inr (.inr (fun k => some (cl k)))))))]) (pl := clW cl g2) (va_runV (As := []) (rest := []) ⟨hx, hb, hml, hown, hts⟩ (c_Y_readsEnd l dC dI kA H.size yo ya n2 z2 cc2 ysi ft2 fp2 ydn la nl lc kn ga gb gc kz gk gs ge (by exact hKR) (by omega) (by omega)) (cw_Y_87 hts rfl rfl ⟨Nat.le_of_ble_eq_true rfl, Nat.le_of_ble_eq_true rfl⟩) (li_preV (va_recv hK hP (ci := 6) (q0 := 0) rfl rfl) ⟨rfl, hP.sub [0, 1, 2, 3, 4] rfl, (hD.sub [0, 1, 2, 3, 4] (by decide) rfl).weaken (fun _ _ _ h => hAN _ h), ((li_ro hRo hRoN hS).sub [0] rfl), (dj_cons (dj_r (hRoN 0 _ rfl) hD [0, 1, 2, 3, 4] rfl) dj_nil)⟩ hK hN (hG.go hS hAN)) rfl rfl hl.1 rfl (lv_room (Nat.le_of_ble_eq_true rfl)) d_Y_readsQuery_124 ⟨(by show 0 + 0 ≤ 0; omega), (by show 0 + 0 ≤ 0; omega)⟩) hP hD hS hA [0, 1, 2, 3, 4] [5, 6] rfl rfl (by decide) (by decide) (fun u7 H locs hu7 hP hD hS => ?_)
                  obtain ⟨v_x, n_x, s_x, d_x, t_x, p_x⟩ := u7
                  have hP : va_P (dC, dI) CL ([(ya 1, .inl (kA 0, 100, .inl (aI ys2))), (ya 2, .inl (kA 6, 50, .inr (.inr (.inr (.inr (fun k => some (cl k))))))), (yo, .inr (6, [.ref (ya 0), .int (iI n_x), .ref (ya 1), .int (iI z2), .ref (ya 2), .int (iI cc2), .int (iI s_x), .int (iI (bI d_x)), .int (iI t_x), .int (iI p_x), .ref (ya 3), .ref (ya 4)])), (ya 0, .inr (8, [.ref la, .int (iI kn), .ref ga, .ref gb, .ref gc, .int (iI kz)])), (ga, .inl (kA 0, 100, .inl (aI gk))), (gb, .inl (kA 0, 100, .inl (aI gs))), (gc, .inl (kA 0, 100, .inl (aI ge)))] ++ clW cl g2) H := hP
                  have hD : va_D A ([(ya 1, .inl (kA 0, 100, .inl (aI ys2))), (ya 2, .inl (kA 6, 50, .inr (.inr (.inr (.inr (fun k => some (cl k))))))), (yo, .inr (6, [.ref (ya 0), .int (iI n_x), .ref (ya 1), .int (iI z2), .ref (ya 2), .int (iI cc2), .int (iI s_x), .int (iI (bI d_x)), .int (iI t_x), .int (iI p_x), .ref (ya 3), .ref (ya 4)])), (ya 0, .inr (8, [.ref la, .int (iI kn), .ref ga, .ref gb, .ref gc, .int (iI kz)])), (ga, .inl (kA 0, 100, .inl (aI gk))), (gb, .inl (kA 0, 100, .inl (aI gs))), (gc, .inl (kA 0, 100, .inl (aI ge)))] ++ clW cl g2) := hD
                  have hp124 : (v_x, n_x, s_x, d_x, t_x, p_x) = reE lc kn gk gs ge kz n2 ysi ydn ft2 fp2 := hu7
                  refine W.eq (g2 := F0 m 127 ls [.int (iI (bI v_x))]) rfl ?_
                  refine li_bz (tgt := 134) hx hb d_Y_readsQuery_127 (by decide) (fun c8 => ?_) (fun c8 => ?_)
                  · have _q := c8
                    have hv9 : v_x = false := by assumption
                    refine lv_iconst (v := iI 0) hx hb d_Y_readsQuery_134 rfl ?_
                    exact fin (false, s_x, d_x, t_x, p_x, n_x, z2, cc2, ys2, g2) _ _ _ _ _ (by rfl) (by show (false, s_x, d_x, t_x, p_x, n_x, z2, cc2, ys2, g2) = (rqM lc kn gk gs ge kz ysi ydn (yft, yfp, yn, ysc, ycc, ys, g)) ∧ 0 ≤ n_x ∧ n_x ≤ 1000; rw [if_neg hb9, if_neg (show ¬ (kd = 10 ∧ 0 < o) by omega), if_neg hj9] at hres; first | (rw [if_neg (show ¬ o = 0 by omega)] at hres; exact ⟨hres, by omega⟩) | (rw [if_pos (show o = 0 by omega)] at hres; unfold reY at hres; dsimp only at hres; rw [← hp124] at hres; dsimp only at hres; rw [hv9] at hres; have hrr := reE_r hp124; exact ⟨hres, by omega⟩)) (by first | exact li_sbP hP [2, 3, 4, 5, 6, 0, 1] rfl | (subst_vars; exact li_sbP hP [2, 3, 4, 5, 6, 0, 1] rfl)) (by first | exact li_sbD hD [2, 3, 4, 5, 6, 0, 1] (by decide) rfl | (subst_vars; exact li_sbD hD [2, 3, 4, 5, 6, 0, 1] (by decide) rfl)) hS d_Y_readsQuery_135
                  · have _q := c8
                    have hv9 : v_x = true := by assumption
                    refine lv_iconst (v := iI 1) hx hb d_Y_readsQuery_130 rfl ?_
                    refine lv_goto (tgt := 135) hx hb d_Y_readsQuery_131 (by decide) ?_
                    exact fin (true, s_x, d_x, t_x, p_x, n_x, z2, cc2, ys2, g2) _ _ _ _ _ (by rfl) (by show (true, s_x, d_x, t_x, p_x, n_x, z2, cc2, ys2, g2) = (rqM lc kn gk gs ge kz ysi ydn (yft, yfp, yn, ysc, ycc, ys, g)) ∧ 0 ≤ n_x ∧ n_x ≤ 1000; rw [if_neg hb9, if_neg (show ¬ (kd = 10 ∧ 0 < o) by omega), if_neg hj9] at hres; first | (rw [if_neg (show ¬ o = 0 by omega)] at hres; exact ⟨hres, by omega⟩) | (rw [if_pos (show o = 0 by omega)] at hres; unfold reY at hres; dsimp only at hres; rw [← hp124] at hres; dsimp only at hres; rw [hv9] at hres; have hrr := reE_r hp124; exact ⟨hres, by omega⟩)) (by first | exact li_sbP hP [2, 3, 4, 5, 6, 0, 1] rfl | (subst_vars; exact li_sbP hP [2, 3, 4, 5, 6, 0, 1] rfl)) (by first | exact li_sbD hD [2, 3, 4, 5, 6, 0, 1] (by decide) rfl | (subst_vars; exact li_sbD hD [2, 3, 4, 5, 6, 0, 1] (by decide) rfl)) hS d_Y_readsQuery_135
              · have _q := c5
                have hj9 : jnF kd = true := by assumption
                have hj8 : kd = 11 ∨ kd = 12 ∨ kd = 13 := of_decide_eq_true hj9
                refine lv_iconst (v := iI 1) hx hb d_Y_readsQuery_108 rfl ?_
                refine lv_istore_n (lv' := [(2, .int (iI 1)), (4, .int (iI kd)), (3, .int (iI tn)), (1, .int (iI o)), (0, .ref yo)]) hx hb d_Y_readsQuery_109 rfl hl (by decide) rfl (fun ls hl => ?_)
                refine lv_aload_n hx hb d_Y_readsQuery_110 rfl (lv_at hl 4 rfl) ?_
                refine lv_iload hx hb d_Y_readsQuery_111 (lv_at hl 1 rfl) ?_
                refine li_callQ (X := [(yo, .inr (6, [.ref (ya 0), .int (iI n2), .ref (ya 1), .int (iI z2), .ref (ya 2), .int (iI cc2), .int (iI ysi), .int (iI (bI ydn)), .int (iI ft2), .int (iI fp2), .ref (ya 3), .ref (ya 4)])), (ya 0, .inr (8, [.ref la, .int (iI kn), .ref ga, .ref gb, .ref gc, .int (iI kz)])), (ga, .inl (kA 0, 100, .inl (aI gk))), (gb, .inl (kA 0, 100, .inl (aI gs))), (gc, .inl (kA 0, 100, .inl (aI ge))), (ya 1, .inl (kA 0, 100, .inl (aI ys2))), (ya 2, .inl (kA 6, 50, .inr (.inr (.inr (.inr (fun k => some (cl k)))))))]) (cx := [(yo, .inr (6, [.ref (ya 0), .int (iI n2), .ref (ya 1), .int (iI z2), .ref (ya 2), .int (iI cc2), .int (iI ysi), .int (iI (bI ydn)), .int (iI ft2), .int (iI fp2), .ref (ya 3), .ref (ya 4)])), (ya 1, .inl (kA 0, 100, .inl (aI ys2)))]) (wr := [(ya 0, .inr (8, [.ref la, .int (iI kn), .ref ga, .ref gb, .ref gc, .int (iI kz)])), (ga, .inl (kA 0, 100, .inl (aI gk))), (gb, .inl (kA 0, 100, .inl (aI gs))), (gc, .inl (kA 0, 100, .inl (aI ge))), (ya 2, .inl (kA 6, 50, .inr (.inr (.inr (.inr (fun k => some (cl k)))))))]) (pl := clW cl g2) (va_runV (As := [.int (iI kd)]) (rest := []) ⟨hx, hb, hml, hown, hts⟩ (c_Y_takeStep l dC dI kA H.size yo ya n2 z2 cc2 ysi ft2 fp2 ydn ys2 kd (by omega) (by omega)) (cw_Y_76 hts rfl rfl ⟨Nat.le_of_ble_eq_true rfl, Nat.le_of_ble_eq_true rfl⟩) (li_preV (va_recv hK hP (ci := 6) (q0 := 0) rfl rfl) ⟨rfl, hP.sub [0, 5] rfl, (hD.sub [0, 5] (by decide) rfl).weaken (fun _ _ _ h => hAN _ h), trivial⟩ hK hN (hG.go hS hAN)) rfl rfl hl.1 rfl (lv_room (Nat.le_of_ble_eq_true rfl)) d_Y_readsQuery_113 ⟨(by show 0 + 0 ≤ 0; omega), (by show 0 + 0 ≤ 0; omega)⟩) hP hD hS hA [0, 5] [1, 2, 3, 4, 6] rfl rfl (by decide) (by decide) (fun u9 H locs hu9 hP hD hS => ?_)
                obtain ⟨n_x, z_x⟩ := u9
                have hP : va_P (dC, dI) CL ([(ya 0, .inr (8, [.ref la, .int (iI kn), .ref ga, .ref gb, .ref gc, .int (iI kz)])), (ga, .inl (kA 0, 100, .inl (aI gk))), (gb, .inl (kA 0, 100, .inl (aI gs))), (gc, .inl (kA 0, 100, .inl (aI ge))), (ya 2, .inl (kA 6, 50, .inr (.inr (.inr (.inr (fun k => some (cl k))))))), (yo, .inr (6, [.ref (ya 0), .int (iI n_x), .ref (ya 1), .int (iI z_x), .ref (ya 2), .int (iI cc2), .int (iI ysi), .int (iI (bI ydn)), .int (iI ft2), .int (iI fp2), .ref (ya 3), .ref (ya 4)])), (ya 1, .inl (kA 0, 100, .inl (aI (va_up ys2 z2.toNat kd))))] ++ clW cl g2) H := hP
                have hD : va_D A ([(ya 0, .inr (8, [.ref la, .int (iI kn), .ref ga, .ref gb, .ref gc, .int (iI kz)])), (ga, .inl (kA 0, 100, .inl (aI gk))), (gb, .inl (kA 0, 100, .inl (aI gs))), (gc, .inl (kA 0, 100, .inl (aI ge))), (ya 2, .inl (kA 6, 50, .inr (.inr (.inr (.inr (fun k => some (cl k))))))), (yo, .inr (6, [.ref (ya 0), .int (iI n_x), .ref (ya 1), .int (iI z_x), .ref (ya 2), .int (iI cc2), .int (iI ysi), .int (iI (bI ydn)), .int (iI ft2), .int (iI fp2), .ref (ya 3), .ref (ya 4)])), (ya 1, .inl (kA 0, 100, .inl (aI (va_up ys2 z2.toNat kd))))] ++ clW cl g2) := hD
                have hp113 : n_x = n2 + 1 ∧ z_x = z2 + 1 := hu9
                obtain ⟨hn9, hz9⟩ := hp113
                refine lv_goto (tgt := 136) hx hb d_Y_readsQuery_116 (by decide) ?_
                obtain ⟨t_n, et_n⟩ : ∃ y_9 : Int, y_9 = tn + 1 := ⟨_, rfl⟩
                refine lv_iinc (v := iI t_n) (lv' := [(3, .int (iI t_n)), (2, .int (iI 1)), (4, .int (iI kd)), (1, .int (iI o)), (0, .ref yo)]) hx hb d_Y_readsQuery_136 hl (k := 2) rfl (by rw [et_n]; exact iI_add _ _) (by decide) rfl (fun ls hl => ?_)
                refine lv_goto (tgt := 6) hx hb d_Y_readsQuery_139 (by decide) ?_
                exact ih_6 o true t_n ft2 fp2 n_x z_x cc2 (va_up ys2 z2.toNat kd) g2 (by omega) (by first | (unfold rqM; rw [show kz + 1 - 0 = kz + 1 by omega]; done) | (rw [if_pos hb9, if_pos (show kd = 9 ∧ o < 6 by omega)] at hres; rw [et_n, eo_n, hn9, hz9]; exact hres) | (rw [if_pos hb9, if_neg (show ¬ (kd = 9 ∧ o < 6) by omega), ← hp64] at hres; dsimp only at hres; rw [if_pos hrc3] at hres; rw [et_n]; exact hres) | (rw [if_neg hb9, if_pos (show kd = 10 ∧ 0 < o by omega)] at hres; rw [et_n, eo_n, hn9, hz9]; exact hres) | (rw [if_neg hb9, if_neg (show ¬ (kd = 10 ∧ 0 < o) by omega), if_pos hj9] at hres; rw [et_n, hn9, hz9]; exact hres)) (by omega) _ _ (li_sbP hP [5, 0, 1, 2, 3, 6, 4] rfl) (li_sbD hD [5, 0, 1, 2, 3, 6, 4] (by decide) rfl) hS _ (lv_sub hl [0, 1, 3, 4] rfl)
            · have _q := c4
              refine lv_iload_n hx hb d_Y_readsQuery_84 rfl (lv_at hl 3 rfl) ?_
              refine li_if_le (tgt := 100) hx hb d_Y_readsQuery_85 (by decide) (by first | omega | exact kd_w (kdF_r hgk)) (fun c10 => ?_) (fun c10 => ?_)
              · have _q := c10
                refine lv_iload hx hb d_Y_readsQuery_100 (lv_at hl 0 rfl) ?_
                refine li_callr ((va_runS (As := [.int (iI kd)]) (rest := []) ⟨hx, hb, hml, hown, hts⟩ (c_Y_isJoin l dC dI kA kd (by omega)) (cw_Y_83 hts rfl rfl ⟨Nat.le_of_ble_eq_true rfl, Nat.le_of_ble_eq_true rfl⟩) (li_preS va_Pnil hK hN (hG.go hS hAN)) rfl rfl hl.1 rfl (lv_room (Nat.le_of_ble_eq_true rfl)) d_Y_readsQuery_102 ⟨(by show 0 + 0 ≤ 0; omega), (by show 0 + 0 ≤ 0; omega)⟩).run) ?_
                refine li_bz (tgt := 119) hx hb d_Y_readsQuery_105 (by decide) (fun c11 => ?_) (fun c11 => ?_)
                · have _q := c11
                  have hj9 : ¬ jnF kd = true := by (intro h9; have h8 : jnF kd = false := (by assumption); rw [h8] at h9; exact Bool.noConfusion h9)
                  refine lv_iload_n hx hb d_Y_readsQuery_119 rfl (lv_at hl 3 rfl) ?_
                  refine li_if_ne (tgt := 134) hx hb d_Y_readsQuery_120 (by decide) (by first | omega | exact kd_w (kdF_r hgk)) (fun c12 => ?_) (fun c12 => ?_)
                  · have _q := c12
                    refine lv_iconst (v := iI 0) hx hb d_Y_readsQuery_134 rfl ?_
                    exact fin (false, ysi, ydn, ft2, fp2, n2, z2, cc2, ys2, g2) _ _ _ _ _ (by rfl) (by show (false, ysi, ydn, ft2, fp2, n2, z2, cc2, ys2, g2) = (rqM lc kn gk gs ge kz ysi ydn (yft, yfp, yn, ysc, ycc, ys, g)) ∧ 0 ≤ n2 ∧ n2 ≤ 1000; rw [if_neg hb9, if_neg (show ¬ (kd = 10 ∧ 0 < o) by omega), if_neg hj9] at hres; first | (rw [if_neg (show ¬ o = 0 by omega)] at hres; exact ⟨hres, by omega⟩) | (rw [if_pos (show o = 0 by omega)] at hres; unfold reY at hres; dsimp only at hres; rw [← hp124] at hres; dsimp only at hres; rw [hv9] at hres; have hrr := reE_r hp124; exact ⟨hres, by omega⟩)) (by first | exact hP | (subst_vars; exact hP)) (by first | exact hD | (subst_vars; exact hD)) hS d_Y_readsQuery_135
                  · have _q := c12
                    refine lv_aload_n hx hb d_Y_readsQuery_123 rfl (lv_at hl 4 rfl) ?_
                    refine li_callQ (X := [(yo, .inr (6, [.ref (ya 0), .int (iI n2), .ref (ya 1), .int (iI z2), .ref (ya 2), .int (iI cc2), .int (iI ysi), .int (iI (bI ydn)), .int (iI ft2), .int (iI fp2), .ref (ya 3), .ref (ya 4)])), (ya 0, .inr (8, [.ref la, .int (iI kn), .ref ga, .ref gb, .ref gc, .int (iI kz)])), (ga, .inl (kA 0, 100, .inl (aI gk))), (gb, .inl (kA 0, 100, .inl (aI gs))), (gc, .inl (kA 0, 100, .inl (aI ge))), (ya 1, .inl (kA 0, 100, .inl (aI ys2))), (ya 2, .inl (kA 6, 50, .inr (.inr (.inr (.inr (fun k => some (cl k)))))))]) (cx := [(yo, .inr (6, [.ref (ya 0), .int (iI n2), .ref (ya 1), .int (iI z2), .ref (ya 2), .int (iI cc2), .int (iI ysi), .int (iI (bI ydn)), .int (iI ft2), .int (iI fp2), .ref (ya 3), .ref (ya 4)])), (ya 0, .inr (8, [.ref la, .int (iI kn), .ref ga, .ref gb, .ref gc, .int (iI kz)])), (ga, .inl (kA 0, 100, .inl (aI gk))), (gb, .inl (kA 0, 100, .inl (aI gs))), (gc, .inl (kA 0, 100, .inl (aI ge)))]) (wr := [(ya 1, .inl (kA 0, 100, .inl (aI ys2))), (ya 2, .inl (kA 6, 50, .inr (.inr (.inr (.inr (fun k => some (cl k)))))))]) (pl := clW cl g2) (va_runV (As := []) (rest := []) ⟨hx, hb, hml, hown, hts⟩ (c_Y_readsEnd l dC dI kA H.size yo ya n2 z2 cc2 ysi ft2 fp2 ydn la nl lc kn ga gb gc kz gk gs ge (by exact hKR) (by omega) (by omega)) (cw_Y_87 hts rfl rfl ⟨Nat.le_of_ble_eq_true rfl, Nat.le_of_ble_eq_true rfl⟩) (li_preV (va_recv hK hP (ci := 6) (q0 := 0) rfl rfl) ⟨rfl, hP.sub [0, 1, 2, 3, 4] rfl, (hD.sub [0, 1, 2, 3, 4] (by decide) rfl).weaken (fun _ _ _ h => hAN _ h), ((li_ro hRo hRoN hS).sub [0] rfl), (dj_cons (dj_r (hRoN 0 _ rfl) hD [0, 1, 2, 3, 4] rfl) dj_nil)⟩ hK hN (hG.go hS hAN)) rfl rfl hl.1 rfl (lv_room (Nat.le_of_ble_eq_true rfl)) d_Y_readsQuery_124 ⟨(by show 0 + 0 ≤ 0; omega), (by show 0 + 0 ≤ 0; omega)⟩) hP hD hS hA [0, 1, 2, 3, 4] [5, 6] rfl rfl (by decide) (by decide) (fun u13 H locs hu13 hP hD hS => ?_)
                    obtain ⟨v_x, n_x, s_x, d_x, t_x, p_x⟩ := u13
                    have hP : va_P (dC, dI) CL ([(ya 1, .inl (kA 0, 100, .inl (aI ys2))), (ya 2, .inl (kA 6, 50, .inr (.inr (.inr (.inr (fun k => some (cl k))))))), (yo, .inr (6, [.ref (ya 0), .int (iI n_x), .ref (ya 1), .int (iI z2), .ref (ya 2), .int (iI cc2), .int (iI s_x), .int (iI (bI d_x)), .int (iI t_x), .int (iI p_x), .ref (ya 3), .ref (ya 4)])), (ya 0, .inr (8, [.ref la, .int (iI kn), .ref ga, .ref gb, .ref gc, .int (iI kz)])), (ga, .inl (kA 0, 100, .inl (aI gk))), (gb, .inl (kA 0, 100, .inl (aI gs))), (gc, .inl (kA 0, 100, .inl (aI ge)))] ++ clW cl g2) H := hP
                    have hD : va_D A ([(ya 1, .inl (kA 0, 100, .inl (aI ys2))), (ya 2, .inl (kA 6, 50, .inr (.inr (.inr (.inr (fun k => some (cl k))))))), (yo, .inr (6, [.ref (ya 0), .int (iI n_x), .ref (ya 1), .int (iI z2), .ref (ya 2), .int (iI cc2), .int (iI s_x), .int (iI (bI d_x)), .int (iI t_x), .int (iI p_x), .ref (ya 3), .ref (ya 4)])), (ya 0, .inr (8, [.ref la, .int (iI kn), .ref ga, .ref gb, .ref gc, .int (iI kz)])), (ga, .inl (kA 0, 100, .inl (aI gk))), (gb, .inl (kA 0, 100, .inl (aI gs))), (gc, .inl (kA 0, 100, .inl (aI ge)))] ++ clW cl g2) := hD
                    have hp124 : (v_x, n_x, s_x, d_x, t_x, p_x) = reE lc kn gk gs ge kz n2 ysi ydn ft2 fp2 := hu13
                    refine W.eq (g2 := F0 m 127 ls [.int (iI (bI v_x))]) rfl ?_
                    refine li_bz (tgt := 134) hx hb d_Y_readsQuery_127 (by decide) (fun c14 => ?_) (fun c14 => ?_)
                    · have _q := c14
                      have hv9 : v_x = false := by assumption
                      refine lv_iconst (v := iI 0) hx hb d_Y_readsQuery_134 rfl ?_
                      exact fin (false, s_x, d_x, t_x, p_x, n_x, z2, cc2, ys2, g2) _ _ _ _ _ (by rfl) (by show (false, s_x, d_x, t_x, p_x, n_x, z2, cc2, ys2, g2) = (rqM lc kn gk gs ge kz ysi ydn (yft, yfp, yn, ysc, ycc, ys, g)) ∧ 0 ≤ n_x ∧ n_x ≤ 1000; rw [if_neg hb9, if_neg (show ¬ (kd = 10 ∧ 0 < o) by omega), if_neg hj9] at hres; first | (rw [if_neg (show ¬ o = 0 by omega)] at hres; exact ⟨hres, by omega⟩) | (rw [if_pos (show o = 0 by omega)] at hres; unfold reY at hres; dsimp only at hres; rw [← hp124] at hres; dsimp only at hres; rw [hv9] at hres; have hrr := reE_r hp124; exact ⟨hres, by omega⟩)) (by first | exact li_sbP hP [2, 3, 4, 5, 6, 0, 1] rfl | (subst_vars; exact li_sbP hP [2, 3, 4, 5, 6, 0, 1] rfl)) (by first | exact li_sbD hD [2, 3, 4, 5, 6, 0, 1] (by decide) rfl | (subst_vars; exact li_sbD hD [2, 3, 4, 5, 6, 0, 1] (by decide) rfl)) hS d_Y_readsQuery_135
                    · have _q := c14
                      have hv9 : v_x = true := by assumption
                      refine lv_iconst (v := iI 1) hx hb d_Y_readsQuery_130 rfl ?_
                      refine lv_goto (tgt := 135) hx hb d_Y_readsQuery_131 (by decide) ?_
                      exact fin (true, s_x, d_x, t_x, p_x, n_x, z2, cc2, ys2, g2) _ _ _ _ _ (by rfl) (by show (true, s_x, d_x, t_x, p_x, n_x, z2, cc2, ys2, g2) = (rqM lc kn gk gs ge kz ysi ydn (yft, yfp, yn, ysc, ycc, ys, g)) ∧ 0 ≤ n_x ∧ n_x ≤ 1000; rw [if_neg hb9, if_neg (show ¬ (kd = 10 ∧ 0 < o) by omega), if_neg hj9] at hres; first | (rw [if_neg (show ¬ o = 0 by omega)] at hres; exact ⟨hres, by omega⟩) | (rw [if_pos (show o = 0 by omega)] at hres; unfold reY at hres; dsimp only at hres; rw [← hp124] at hres; dsimp only at hres; rw [hv9] at hres; have hrr := reE_r hp124; exact ⟨hres, by omega⟩)) (by first | exact li_sbP hP [2, 3, 4, 5, 6, 0, 1] rfl | (subst_vars; exact li_sbP hP [2, 3, 4, 5, 6, 0, 1] rfl)) (by first | exact li_sbD hD [2, 3, 4, 5, 6, 0, 1] (by decide) rfl | (subst_vars; exact li_sbD hD [2, 3, 4, 5, 6, 0, 1] (by decide) rfl)) hS d_Y_readsQuery_135
                · have _q := c11
                  have hj9 : jnF kd = true := by assumption
                  have hj8 : kd = 11 ∨ kd = 12 ∨ kd = 13 := of_decide_eq_true hj9
                  refine lv_iconst (v := iI 1) hx hb d_Y_readsQuery_108 rfl ?_
                  refine lv_istore_n (lv' := [(2, .int (iI 1)), (4, .int (iI kd)), (3, .int (iI tn)), (1, .int (iI o)), (0, .ref yo)]) hx hb d_Y_readsQuery_109 rfl hl (by decide) rfl (fun ls hl => ?_)
                  refine lv_aload_n hx hb d_Y_readsQuery_110 rfl (lv_at hl 4 rfl) ?_
                  refine lv_iload hx hb d_Y_readsQuery_111 (lv_at hl 1 rfl) ?_
                  refine li_callQ (X := [(yo, .inr (6, [.ref (ya 0), .int (iI n2), .ref (ya 1), .int (iI z2), .ref (ya 2), .int (iI cc2), .int (iI ysi), .int (iI (bI ydn)), .int (iI ft2), .int (iI fp2), .ref (ya 3), .ref (ya 4)])), (ya 0, .inr (8, [.ref la, .int (iI kn), .ref ga, .ref gb, .ref gc, .int (iI kz)])), (ga, .inl (kA 0, 100, .inl (aI gk))), (gb, .inl (kA 0, 100, .inl (aI gs))), (gc, .inl (kA 0, 100, .inl (aI ge))), (ya 1, .inl (kA 0, 100, .inl (aI ys2))), (ya 2, .inl (kA 6, 50, .inr (.inr (.inr (.inr (fun k => some (cl k)))))))]) (cx := [(yo, .inr (6, [.ref (ya 0), .int (iI n2), .ref (ya 1), .int (iI z2), .ref (ya 2), .int (iI cc2), .int (iI ysi), .int (iI (bI ydn)), .int (iI ft2), .int (iI fp2), .ref (ya 3), .ref (ya 4)])), (ya 1, .inl (kA 0, 100, .inl (aI ys2)))]) (wr := [(ya 0, .inr (8, [.ref la, .int (iI kn), .ref ga, .ref gb, .ref gc, .int (iI kz)])), (ga, .inl (kA 0, 100, .inl (aI gk))), (gb, .inl (kA 0, 100, .inl (aI gs))), (gc, .inl (kA 0, 100, .inl (aI ge))), (ya 2, .inl (kA 6, 50, .inr (.inr (.inr (.inr (fun k => some (cl k)))))))]) (pl := clW cl g2) (va_runV (As := [.int (iI kd)]) (rest := []) ⟨hx, hb, hml, hown, hts⟩ (c_Y_takeStep l dC dI kA H.size yo ya n2 z2 cc2 ysi ft2 fp2 ydn ys2 kd (by omega) (by omega)) (cw_Y_76 hts rfl rfl ⟨Nat.le_of_ble_eq_true rfl, Nat.le_of_ble_eq_true rfl⟩) (li_preV (va_recv hK hP (ci := 6) (q0 := 0) rfl rfl) ⟨rfl, hP.sub [0, 5] rfl, (hD.sub [0, 5] (by decide) rfl).weaken (fun _ _ _ h => hAN _ h), trivial⟩ hK hN (hG.go hS hAN)) rfl rfl hl.1 rfl (lv_room (Nat.le_of_ble_eq_true rfl)) d_Y_readsQuery_113 ⟨(by show 0 + 0 ≤ 0; omega), (by show 0 + 0 ≤ 0; omega)⟩) hP hD hS hA [0, 5] [1, 2, 3, 4, 6] rfl rfl (by decide) (by decide) (fun u15 H locs hu15 hP hD hS => ?_)
                  obtain ⟨n_x, z_x⟩ := u15
                  have hP : va_P (dC, dI) CL ([(ya 0, .inr (8, [.ref la, .int (iI kn), .ref ga, .ref gb, .ref gc, .int (iI kz)])), (ga, .inl (kA 0, 100, .inl (aI gk))), (gb, .inl (kA 0, 100, .inl (aI gs))), (gc, .inl (kA 0, 100, .inl (aI ge))), (ya 2, .inl (kA 6, 50, .inr (.inr (.inr (.inr (fun k => some (cl k))))))), (yo, .inr (6, [.ref (ya 0), .int (iI n_x), .ref (ya 1), .int (iI z_x), .ref (ya 2), .int (iI cc2), .int (iI ysi), .int (iI (bI ydn)), .int (iI ft2), .int (iI fp2), .ref (ya 3), .ref (ya 4)])), (ya 1, .inl (kA 0, 100, .inl (aI (va_up ys2 z2.toNat kd))))] ++ clW cl g2) H := hP
                  have hD : va_D A ([(ya 0, .inr (8, [.ref la, .int (iI kn), .ref ga, .ref gb, .ref gc, .int (iI kz)])), (ga, .inl (kA 0, 100, .inl (aI gk))), (gb, .inl (kA 0, 100, .inl (aI gs))), (gc, .inl (kA 0, 100, .inl (aI ge))), (ya 2, .inl (kA 6, 50, .inr (.inr (.inr (.inr (fun k => some (cl k))))))), (yo, .inr (6, [.ref (ya 0), .int (iI n_x), .ref (ya 1), .int (iI z_x), .ref (ya 2), .int (iI cc2), .int (iI ysi), .int (iI (bI ydn)), .int (iI ft2), .int (iI fp2), .ref (ya 3), .ref (ya 4)])), (ya 1, .inl (kA 0, 100, .inl (aI (va_up ys2 z2.toNat kd))))] ++ clW cl g2) := hD
                  have hp113 : n_x = n2 + 1 ∧ z_x = z2 + 1 := hu15
                  obtain ⟨hn9, hz9⟩ := hp113
                  refine lv_goto (tgt := 136) hx hb d_Y_readsQuery_116 (by decide) ?_
                  obtain ⟨t_n, et_n⟩ : ∃ y_9 : Int, y_9 = tn + 1 := ⟨_, rfl⟩
                  refine lv_iinc (v := iI t_n) (lv' := [(3, .int (iI t_n)), (2, .int (iI 1)), (4, .int (iI kd)), (1, .int (iI o)), (0, .ref yo)]) hx hb d_Y_readsQuery_136 hl (k := 2) rfl (by rw [et_n]; exact iI_add _ _) (by decide) rfl (fun ls hl => ?_)
                  refine lv_goto (tgt := 6) hx hb d_Y_readsQuery_139 (by decide) ?_
                  exact ih_6 o true t_n ft2 fp2 n_x z_x cc2 (va_up ys2 z2.toNat kd) g2 (by omega) (by first | (unfold rqM; rw [show kz + 1 - 0 = kz + 1 by omega]; done) | (rw [if_pos hb9, if_pos (show kd = 9 ∧ o < 6 by omega)] at hres; rw [et_n, eo_n, hn9, hz9]; exact hres) | (rw [if_pos hb9, if_neg (show ¬ (kd = 9 ∧ o < 6) by omega), ← hp64] at hres; dsimp only at hres; rw [if_pos hrc3] at hres; rw [et_n]; exact hres) | (rw [if_neg hb9, if_pos (show kd = 10 ∧ 0 < o by omega)] at hres; rw [et_n, eo_n, hn9, hz9]; exact hres) | (rw [if_neg hb9, if_neg (show ¬ (kd = 10 ∧ 0 < o) by omega), if_pos hj9] at hres; rw [et_n, hn9, hz9]; exact hres)) (by omega) _ _ (li_sbP hP [5, 0, 1, 2, 3, 6, 4] rfl) (li_sbD hD [5, 0, 1, 2, 3, 6, 4] (by decide) rfl) hS _ (lv_sub hl [0, 1, 3, 4] rfl)
              · have _q := c10
                obtain ⟨o_n, eo_n⟩ : ∃ y_9 : Int, y_9 = o + (-1) := ⟨_, rfl⟩
                refine lv_iinc (v := iI o_n) (lv' := [(1, .int (iI o_n)), (4, .int (iI kd)), (3, .int (iI tn)), (2, .int (iI (bI b))), (0, .ref yo)]) hx hb d_Y_readsQuery_88 hl (k := 3) rfl (by rw [eo_n]; exact iI_add _ _) (by decide) rfl (fun ls hl => ?_)
                refine lv_aload_n hx hb d_Y_readsQuery_91 rfl (lv_at hl 4 rfl) ?_
                refine lv_iload hx hb d_Y_readsQuery_92 (lv_at hl 1 rfl) ?_
                refine li_callQ (X := [(yo, .inr (6, [.ref (ya 0), .int (iI n2), .ref (ya 1), .int (iI z2), .ref (ya 2), .int (iI cc2), .int (iI ysi), .int (iI (bI ydn)), .int (iI ft2), .int (iI fp2), .ref (ya 3), .ref (ya 4)])), (ya 0, .inr (8, [.ref la, .int (iI kn), .ref ga, .ref gb, .ref gc, .int (iI kz)])), (ga, .inl (kA 0, 100, .inl (aI gk))), (gb, .inl (kA 0, 100, .inl (aI gs))), (gc, .inl (kA 0, 100, .inl (aI ge))), (ya 1, .inl (kA 0, 100, .inl (aI ys2))), (ya 2, .inl (kA 6, 50, .inr (.inr (.inr (.inr (fun k => some (cl k)))))))]) (cx := [(yo, .inr (6, [.ref (ya 0), .int (iI n2), .ref (ya 1), .int (iI z2), .ref (ya 2), .int (iI cc2), .int (iI ysi), .int (iI (bI ydn)), .int (iI ft2), .int (iI fp2), .ref (ya 3), .ref (ya 4)])), (ya 1, .inl (kA 0, 100, .inl (aI ys2)))]) (wr := [(ya 0, .inr (8, [.ref la, .int (iI kn), .ref ga, .ref gb, .ref gc, .int (iI kz)])), (ga, .inl (kA 0, 100, .inl (aI gk))), (gb, .inl (kA 0, 100, .inl (aI gs))), (gc, .inl (kA 0, 100, .inl (aI ge))), (ya 2, .inl (kA 6, 50, .inr (.inr (.inr (.inr (fun k => some (cl k)))))))]) (pl := clW cl g2) (va_runV (As := [.int (iI kd)]) (rest := []) ⟨hx, hb, hml, hown, hts⟩ (c_Y_takeStep l dC dI kA H.size yo ya n2 z2 cc2 ysi ft2 fp2 ydn ys2 kd (by omega) (by omega)) (cw_Y_76 hts rfl rfl ⟨Nat.le_of_ble_eq_true rfl, Nat.le_of_ble_eq_true rfl⟩) (li_preV (va_recv hK hP (ci := 6) (q0 := 0) rfl rfl) ⟨rfl, hP.sub [0, 5] rfl, (hD.sub [0, 5] (by decide) rfl).weaken (fun _ _ _ h => hAN _ h), trivial⟩ hK hN (hG.go hS hAN)) rfl rfl hl.1 rfl (lv_room (Nat.le_of_ble_eq_true rfl)) d_Y_readsQuery_94 ⟨(by show 0 + 0 ≤ 0; omega), (by show 0 + 0 ≤ 0; omega)⟩) hP hD hS hA [0, 5] [1, 2, 3, 4, 6] rfl rfl (by decide) (by decide) (fun u16 H locs hu16 hP hD hS => ?_)
                obtain ⟨n_x, z_x⟩ := u16
                have hP : va_P (dC, dI) CL ([(ya 0, .inr (8, [.ref la, .int (iI kn), .ref ga, .ref gb, .ref gc, .int (iI kz)])), (ga, .inl (kA 0, 100, .inl (aI gk))), (gb, .inl (kA 0, 100, .inl (aI gs))), (gc, .inl (kA 0, 100, .inl (aI ge))), (ya 2, .inl (kA 6, 50, .inr (.inr (.inr (.inr (fun k => some (cl k))))))), (yo, .inr (6, [.ref (ya 0), .int (iI n_x), .ref (ya 1), .int (iI z_x), .ref (ya 2), .int (iI cc2), .int (iI ysi), .int (iI (bI ydn)), .int (iI ft2), .int (iI fp2), .ref (ya 3), .ref (ya 4)])), (ya 1, .inl (kA 0, 100, .inl (aI (va_up ys2 z2.toNat kd))))] ++ clW cl g2) H := hP
                have hD : va_D A ([(ya 0, .inr (8, [.ref la, .int (iI kn), .ref ga, .ref gb, .ref gc, .int (iI kz)])), (ga, .inl (kA 0, 100, .inl (aI gk))), (gb, .inl (kA 0, 100, .inl (aI gs))), (gc, .inl (kA 0, 100, .inl (aI ge))), (ya 2, .inl (kA 6, 50, .inr (.inr (.inr (.inr (fun k => some (cl k))))))), (yo, .inr (6, [.ref (ya 0), .int (iI n_x), .ref (ya 1), .int (iI z_x), .ref (ya 2), .int (iI cc2), .int (iI ysi), .int (iI (bI ydn)), .int (iI ft2), .int (iI fp2), .ref (ya 3), .ref (ya 4)])), (ya 1, .inl (kA 0, 100, .inl (aI (va_up ys2 z2.toNat kd))))] ++ clW cl g2) := hD
                have hp94 : n_x = n2 + 1 ∧ z_x = z2 + 1 := hu16
                obtain ⟨hn9, hz9⟩ := hp94
                refine lv_goto (tgt := 136) hx hb d_Y_readsQuery_97 (by decide) ?_
                obtain ⟨t_n, et_n⟩ : ∃ y_9 : Int, y_9 = tn + 1 := ⟨_, rfl⟩
                refine lv_iinc (v := iI t_n) (lv' := [(3, .int (iI t_n)), (1, .int (iI o_n)), (4, .int (iI kd)), (2, .int (iI (bI b))), (0, .ref yo)]) hx hb d_Y_readsQuery_136 hl (k := 2) rfl (by rw [et_n]; exact iI_add _ _) (by decide) rfl (fun ls hl => ?_)
                refine lv_goto (tgt := 6) hx hb d_Y_readsQuery_139 (by decide) ?_
                exact ih_6 o_n b t_n ft2 fp2 n_x z_x cc2 (va_up ys2 z2.toNat kd) g2 (by omega) (by first | (unfold rqM; rw [show kz + 1 - 0 = kz + 1 by omega]; done) | (rw [if_pos hb9, if_pos (show kd = 9 ∧ o < 6 by omega)] at hres; rw [et_n, eo_n, hn9, hz9]; exact hres) | (rw [if_pos hb9, if_neg (show ¬ (kd = 9 ∧ o < 6) by omega), ← hp64] at hres; dsimp only at hres; rw [if_pos hrc3] at hres; rw [et_n]; exact hres) | (rw [if_neg hb9, if_pos (show kd = 10 ∧ 0 < o by omega)] at hres; rw [et_n, eo_n, hn9, hz9]; exact hres) | (rw [if_neg hb9, if_neg (show ¬ (kd = 10 ∧ 0 < o) by omega), if_pos hj9] at hres; rw [et_n, hn9, hz9]; exact hres)) (by omega) _ _ (li_sbP hP [5, 0, 1, 2, 3, 6, 4] rfl) (li_sbD hD [5, 0, 1, 2, 3, 6, 4] (by decide) rfl) hS _ (lv_sub hl [0, 3, 1, 4] rfl)
          · have _q := c3
            exact absurd c3 (by rw [c2]; decide)
        · have _q := c2
          have hb9 : b = true := by assumption
          refine lv_iload hx hb d_Y_readsQuery_34 (lv_at hl 0 rfl) ?_
          refine lv_bipush (v := iI 9) hx hb d_Y_readsQuery_36 (by decide) ?_
          refine li_icmp_ne (tgt := 59) hx hb d_Y_readsQuery_38 (by decide) (by first | omega | exact kd_w (kdF_r hgk)) (by first | omega | exact kd_w (kdF_r hgk)) (fun c17 => ?_) (fun c17 => ?_)
          · have _q := c17
            refine lv_iload_n hx hb d_Y_readsQuery_59 rfl (lv_at hl 2 rfl) ?_
            refine li_bz (tgt := 77) hx hb d_Y_readsQuery_60 (by decide) (fun c18 => ?_) (fun c18 => ?_)
            · have _q := c18
              exact absurd c18 (by rw [c2]; decide)
            · have _q := c18
              refine lv_aload_n hx hb d_Y_readsQuery_63 rfl (lv_at hl 4 rfl) ?_
              refine li_callP (X := [(yo, .inr (6, [.ref (ya 0), .int (iI n2), .ref (ya 1), .int (iI z2), .ref (ya 2), .int (iI cc2), .int (iI ysi), .int (iI (bI ydn)), .int (iI ft2), .int (iI fp2), .ref (ya 3), .ref (ya 4)])), (ya 0, .inr (8, [.ref la, .int (iI kn), .ref ga, .ref gb, .ref gc, .int (iI kz)])), (ga, .inl (kA 0, 100, .inl (aI gk))), (gb, .inl (kA 0, 100, .inl (aI gs))), (gc, .inl (kA 0, 100, .inl (aI ge))), (ya 1, .inl (kA 0, 100, .inl (aI ys2))), (ya 2, .inl (kA 6, 50, .inr (.inr (.inr (.inr (fun k => some (cl k)))))))]) (cx := [(yo, .inr (6, [.ref (ya 0), .int (iI n2), .ref (ya 1), .int (iI z2), .ref (ya 2), .int (iI cc2), .int (iI ysi), .int (iI (bI ydn)), .int (iI ft2), .int (iI fp2), .ref (ya 3), .ref (ya 4)])), (ya 0, .inr (8, [.ref la, .int (iI kn), .ref ga, .ref gb, .ref gc, .int (iI kz)])), (ga, .inl (kA 0, 100, .inl (aI gk))), (gb, .inl (kA 0, 100, .inl (aI gs))), (gc, .inl (kA 0, 100, .inl (aI ge))), (ya 1, .inl (kA 0, 100, .inl (aI ys2))), (ya 2, .inl (kA 6, 50, .inr (.inr (.inr (.inr (fun k => some (cl k)))))))]) (wr := []) (pl := clW cl g2) (va_runV (As := []) (rest := []) ⟨hx, hb, hml, hown, hts⟩ (c_Y_readsClause l dC dI kA H.size yo ya n2 z2 cc2 ysi ft2 fp2 ydn la nl lc kn ga gb gc kz gk gs ge ys2 cl g2 (by exact hKR) (by omega) (by omega) (by omega) (by omega)) (cw_Y_80 hts rfl rfl ⟨Nat.le_of_ble_eq_true rfl, Nat.le_of_ble_eq_true rfl⟩) (li_preV (va_recv hK hP (ci := 6) (q0 := 0) rfl rfl) ⟨rfl, li_sbP hP [0, 1, 2, 3, 4, 5, 6] rfl, (li_sbD hD [0, 1, 2, 3, 4, 5, 6] (by decide) rfl).weaken (fun _ _ _ h => hAN _ h), ((li_ro hRo hRoN hS).sub [0] rfl), (dj_cons (dj_rP (hRoN 0 _ rfl) hD [0, 1, 2, 3, 4, 5, 6] rfl) dj_nil)⟩ hK hN (hG.go hS hAN)) rfl rfl hl.1 rfl (lv_room (Nat.le_of_ble_eq_true rfl)) d_Y_readsQuery_64 ⟨(by show 0 + 0 ≤ 0; omega), (by show 0 + 0 ≤ 0; omega)⟩) hP hD hS hA [0, 1, 2, 3, 4, 5, 6] [] rfl rfl (by decide) (by decide) (fun u19 H locs hu19 hP hD hS => ?_)
              obtain ⟨v_x, t_x, p_x, n_x, z_x, c_x, s_x, g_x⟩ := u19
              have hP : va_P (dC, dI) CL ([(yo, .inr (6, [.ref (ya 0), .int (iI n_x), .ref (ya 1), .int (iI z_x), .ref (ya 2), .int (iI c_x), .int (iI ysi), .int (iI (bI ydn)), .int (iI t_x), .int (iI p_x), .ref (ya 3), .ref (ya 4)])), (ya 0, .inr (8, [.ref la, .int (iI kn), .ref ga, .ref gb, .ref gc, .int (iI kz)])), (ga, .inl (kA 0, 100, .inl (aI gk))), (gb, .inl (kA 0, 100, .inl (aI gs))), (gc, .inl (kA 0, 100, .inl (aI ge))), (ya 1, .inl (kA 0, 100, .inl (aI s_x))), (ya 2, .inl (kA 6, 50, .inr (.inr (.inr (.inr (fun k => some (cl k)))))))] ++ clW cl g_x) H := hP
              have hD : va_D A ([(yo, .inr (6, [.ref (ya 0), .int (iI n_x), .ref (ya 1), .int (iI z_x), .ref (ya 2), .int (iI c_x), .int (iI ysi), .int (iI (bI ydn)), .int (iI t_x), .int (iI p_x), .ref (ya 3), .ref (ya 4)])), (ya 0, .inr (8, [.ref la, .int (iI kn), .ref ga, .ref gb, .ref gc, .int (iI kz)])), (ga, .inl (kA 0, 100, .inl (aI gk))), (gb, .inl (kA 0, 100, .inl (aI gs))), (gc, .inl (kA 0, 100, .inl (aI ge))), (ya 1, .inl (kA 0, 100, .inl (aI s_x))), (ya 2, .inl (kA 6, 50, .inr (.inr (.inr (.inr (fun k => some (cl k)))))))] ++ clW cl g_x) := hD
              have hp64 : (v_x, t_x, p_x, n_x, z_x, c_x, s_x, g_x) = rcY lc kn gk gs ge kz ft2 fp2 (n2, z2, cc2, ys2, g2) := hu19
              have hrc := rcY_r hp64
              dsimp only at hrc
              refine W.eq (g2 := F0 m 67 ls [.int (iI (bI v_x))]) rfl ?_
              refine li_bnz (tgt := 72) hx hb d_Y_readsQuery_67 (by decide) (fun c20 => ?_) (fun c20 => ?_)
              · have _q := c20
                have hrc3 : v_x = true := by assumption
                have hrc2 := hrc.2.resolve_left (fun h9 => by (rw [h9.1] at hrc3; exact Bool.noConfusion hrc3))
                have hrc1 := hrc.1
                refine lv_iconst (v := iI 0) hx hb d_Y_readsQuery_72 rfl ?_
                refine lv_istore_n (lv' := [(2, .int (iI 0)), (4, .int (iI kd)), (3, .int (iI tn)), (1, .int (iI o)), (0, .ref yo)]) hx hb d_Y_readsQuery_73 rfl hl (by decide) rfl (fun ls hl => ?_)
                refine lv_goto (tgt := 136) hx hb d_Y_readsQuery_74 (by decide) ?_
                obtain ⟨t_n, et_n⟩ : ∃ y_9 : Int, y_9 = tn + 1 := ⟨_, rfl⟩
                refine lv_iinc (v := iI t_n) (lv' := [(3, .int (iI t_n)), (2, .int (iI 0)), (4, .int (iI kd)), (1, .int (iI o)), (0, .ref yo)]) hx hb d_Y_readsQuery_136 hl (k := 2) rfl (by rw [et_n]; exact iI_add _ _) (by decide) rfl (fun ls hl => ?_)
                refine lv_goto (tgt := 6) hx hb d_Y_readsQuery_139 (by decide) ?_
                exact ih_6 o false t_n t_x p_x n_x z_x c_x s_x g_x (by omega) (by first | (unfold rqM; rw [show kz + 1 - 0 = kz + 1 by omega]; done) | (rw [if_pos hb9, if_pos (show kd = 9 ∧ o < 6 by omega)] at hres; rw [et_n, eo_n, hn9, hz9]; exact hres) | (rw [if_pos hb9, if_neg (show ¬ (kd = 9 ∧ o < 6) by omega), ← hp64] at hres; dsimp only at hres; rw [if_pos hrc3] at hres; rw [et_n]; exact hres) | (rw [if_neg hb9, if_pos (show kd = 10 ∧ 0 < o by omega)] at hres; rw [et_n, eo_n, hn9, hz9]; exact hres) | (rw [if_neg hb9, if_neg (show ¬ (kd = 10 ∧ 0 < o) by omega), if_pos hj9] at hres; rw [et_n, hn9, hz9]; exact hres)) (by omega) _ _ hP hD hS _ (lv_sub hl [0, 1, 3, 4] rfl)
              · have _q := c20
                have hrc3 : v_x = false := by assumption
                have hrc2 := hrc.2.resolve_right (fun h9 => by (rw [h9.1] at hrc3; exact Bool.noConfusion hrc3))
                refine lv_iconst (v := iI 0) hx hb d_Y_readsQuery_70 rfl ?_
                exact fin (false, ysi, ydn, t_x, p_x, n_x, z_x, c_x, s_x, g_x) _ _ _ _ _ (by rfl) (by show (false, ysi, ydn, t_x, p_x, n_x, z_x, c_x, s_x, g_x) = (rqM lc kn gk gs ge kz ysi ydn (yft, yfp, yn, ysc, ycc, ys, g)) ∧ 0 ≤ n_x ∧ n_x ≤ 1000; rw [if_pos hb9, if_neg (show ¬ (kd = 9 ∧ o < 6) by omega), ← hp64] at hres; dsimp only at hres; rw [if_neg (by rw [hrc3]; decide)] at hres; exact ⟨hres, by omega⟩) (by first | exact hP | (subst_vars; exact hP)) (by first | exact hD | (subst_vars; exact hD)) hS d_Y_readsQuery_71
          · have _q := c17
            refine lv_iload_n hx hb d_Y_readsQuery_41 rfl (lv_at hl 3 rfl) ?_
            refine lv_bipush (v := iI 6) hx hb d_Y_readsQuery_42 (by decide) ?_
            refine li_icmp_ge (tgt := 59) hx hb d_Y_readsQuery_44 (by decide) (by first | omega | exact kd_w (kdF_r hgk)) (by first | omega | exact kd_w (kdF_r hgk)) (fun c21 => ?_) (fun c21 => ?_)
            · have _q := c21
              refine lv_iload_n hx hb d_Y_readsQuery_59 rfl (lv_at hl 2 rfl) ?_
              refine li_bz (tgt := 77) hx hb d_Y_readsQuery_60 (by decide) (fun c22 => ?_) (fun c22 => ?_)
              · have _q := c22
                exact absurd c22 (by rw [c2]; decide)
              · have _q := c22
                refine lv_aload_n hx hb d_Y_readsQuery_63 rfl (lv_at hl 4 rfl) ?_
                refine li_callP (X := [(yo, .inr (6, [.ref (ya 0), .int (iI n2), .ref (ya 1), .int (iI z2), .ref (ya 2), .int (iI cc2), .int (iI ysi), .int (iI (bI ydn)), .int (iI ft2), .int (iI fp2), .ref (ya 3), .ref (ya 4)])), (ya 0, .inr (8, [.ref la, .int (iI kn), .ref ga, .ref gb, .ref gc, .int (iI kz)])), (ga, .inl (kA 0, 100, .inl (aI gk))), (gb, .inl (kA 0, 100, .inl (aI gs))), (gc, .inl (kA 0, 100, .inl (aI ge))), (ya 1, .inl (kA 0, 100, .inl (aI ys2))), (ya 2, .inl (kA 6, 50, .inr (.inr (.inr (.inr (fun k => some (cl k)))))))]) (cx := [(yo, .inr (6, [.ref (ya 0), .int (iI n2), .ref (ya 1), .int (iI z2), .ref (ya 2), .int (iI cc2), .int (iI ysi), .int (iI (bI ydn)), .int (iI ft2), .int (iI fp2), .ref (ya 3), .ref (ya 4)])), (ya 0, .inr (8, [.ref la, .int (iI kn), .ref ga, .ref gb, .ref gc, .int (iI kz)])), (ga, .inl (kA 0, 100, .inl (aI gk))), (gb, .inl (kA 0, 100, .inl (aI gs))), (gc, .inl (kA 0, 100, .inl (aI ge))), (ya 1, .inl (kA 0, 100, .inl (aI ys2))), (ya 2, .inl (kA 6, 50, .inr (.inr (.inr (.inr (fun k => some (cl k)))))))]) (wr := []) (pl := clW cl g2) (va_runV (As := []) (rest := []) ⟨hx, hb, hml, hown, hts⟩ (c_Y_readsClause l dC dI kA H.size yo ya n2 z2 cc2 ysi ft2 fp2 ydn la nl lc kn ga gb gc kz gk gs ge ys2 cl g2 (by exact hKR) (by omega) (by omega) (by omega) (by omega)) (cw_Y_80 hts rfl rfl ⟨Nat.le_of_ble_eq_true rfl, Nat.le_of_ble_eq_true rfl⟩) (li_preV (va_recv hK hP (ci := 6) (q0 := 0) rfl rfl) ⟨rfl, li_sbP hP [0, 1, 2, 3, 4, 5, 6] rfl, (li_sbD hD [0, 1, 2, 3, 4, 5, 6] (by decide) rfl).weaken (fun _ _ _ h => hAN _ h), ((li_ro hRo hRoN hS).sub [0] rfl), (dj_cons (dj_rP (hRoN 0 _ rfl) hD [0, 1, 2, 3, 4, 5, 6] rfl) dj_nil)⟩ hK hN (hG.go hS hAN)) rfl rfl hl.1 rfl (lv_room (Nat.le_of_ble_eq_true rfl)) d_Y_readsQuery_64 ⟨(by show 0 + 0 ≤ 0; omega), (by show 0 + 0 ≤ 0; omega)⟩) hP hD hS hA [0, 1, 2, 3, 4, 5, 6] [] rfl rfl (by decide) (by decide) (fun u23 H locs hu23 hP hD hS => ?_)
                obtain ⟨v_x, t_x, p_x, n_x, z_x, c_x, s_x, g_x⟩ := u23
                have hP : va_P (dC, dI) CL ([(yo, .inr (6, [.ref (ya 0), .int (iI n_x), .ref (ya 1), .int (iI z_x), .ref (ya 2), .int (iI c_x), .int (iI ysi), .int (iI (bI ydn)), .int (iI t_x), .int (iI p_x), .ref (ya 3), .ref (ya 4)])), (ya 0, .inr (8, [.ref la, .int (iI kn), .ref ga, .ref gb, .ref gc, .int (iI kz)])), (ga, .inl (kA 0, 100, .inl (aI gk))), (gb, .inl (kA 0, 100, .inl (aI gs))), (gc, .inl (kA 0, 100, .inl (aI ge))), (ya 1, .inl (kA 0, 100, .inl (aI s_x))), (ya 2, .inl (kA 6, 50, .inr (.inr (.inr (.inr (fun k => some (cl k)))))))] ++ clW cl g_x) H := hP
                have hD : va_D A ([(yo, .inr (6, [.ref (ya 0), .int (iI n_x), .ref (ya 1), .int (iI z_x), .ref (ya 2), .int (iI c_x), .int (iI ysi), .int (iI (bI ydn)), .int (iI t_x), .int (iI p_x), .ref (ya 3), .ref (ya 4)])), (ya 0, .inr (8, [.ref la, .int (iI kn), .ref ga, .ref gb, .ref gc, .int (iI kz)])), (ga, .inl (kA 0, 100, .inl (aI gk))), (gb, .inl (kA 0, 100, .inl (aI gs))), (gc, .inl (kA 0, 100, .inl (aI ge))), (ya 1, .inl (kA 0, 100, .inl (aI s_x))), (ya 2, .inl (kA 6, 50, .inr (.inr (.inr (.inr (fun k => some (cl k)))))))] ++ clW cl g_x) := hD
                have hp64 : (v_x, t_x, p_x, n_x, z_x, c_x, s_x, g_x) = rcY lc kn gk gs ge kz ft2 fp2 (n2, z2, cc2, ys2, g2) := hu23
                have hrc := rcY_r hp64
                dsimp only at hrc
                refine W.eq (g2 := F0 m 67 ls [.int (iI (bI v_x))]) rfl ?_
                refine li_bnz (tgt := 72) hx hb d_Y_readsQuery_67 (by decide) (fun c24 => ?_) (fun c24 => ?_)
                · have _q := c24
                  have hrc3 : v_x = true := by assumption
                  have hrc2 := hrc.2.resolve_left (fun h9 => by (rw [h9.1] at hrc3; exact Bool.noConfusion hrc3))
                  have hrc1 := hrc.1
                  refine lv_iconst (v := iI 0) hx hb d_Y_readsQuery_72 rfl ?_
                  refine lv_istore_n (lv' := [(2, .int (iI 0)), (4, .int (iI kd)), (3, .int (iI tn)), (1, .int (iI o)), (0, .ref yo)]) hx hb d_Y_readsQuery_73 rfl hl (by decide) rfl (fun ls hl => ?_)
                  refine lv_goto (tgt := 136) hx hb d_Y_readsQuery_74 (by decide) ?_
                  obtain ⟨t_n, et_n⟩ : ∃ y_9 : Int, y_9 = tn + 1 := ⟨_, rfl⟩
                  refine lv_iinc (v := iI t_n) (lv' := [(3, .int (iI t_n)), (2, .int (iI 0)), (4, .int (iI kd)), (1, .int (iI o)), (0, .ref yo)]) hx hb d_Y_readsQuery_136 hl (k := 2) rfl (by rw [et_n]; exact iI_add _ _) (by decide) rfl (fun ls hl => ?_)
                  refine lv_goto (tgt := 6) hx hb d_Y_readsQuery_139 (by decide) ?_
                  exact ih_6 o false t_n t_x p_x n_x z_x c_x s_x g_x (by omega) (by first | (unfold rqM; rw [show kz + 1 - 0 = kz + 1 by omega]; done) | (rw [if_pos hb9, if_pos (show kd = 9 ∧ o < 6 by omega)] at hres; rw [et_n, eo_n, hn9, hz9]; exact hres) | (rw [if_pos hb9, if_neg (show ¬ (kd = 9 ∧ o < 6) by omega), ← hp64] at hres; dsimp only at hres; rw [if_pos hrc3] at hres; rw [et_n]; exact hres) | (rw [if_neg hb9, if_pos (show kd = 10 ∧ 0 < o by omega)] at hres; rw [et_n, eo_n, hn9, hz9]; exact hres) | (rw [if_neg hb9, if_neg (show ¬ (kd = 10 ∧ 0 < o) by omega), if_pos hj9] at hres; rw [et_n, hn9, hz9]; exact hres)) (by omega) _ _ hP hD hS _ (lv_sub hl [0, 1, 3, 4] rfl)
                · have _q := c24
                  have hrc3 : v_x = false := by assumption
                  have hrc2 := hrc.2.resolve_right (fun h9 => by (rw [h9.1] at hrc3; exact Bool.noConfusion hrc3))
                  refine lv_iconst (v := iI 0) hx hb d_Y_readsQuery_70 rfl ?_
                  exact fin (false, ysi, ydn, t_x, p_x, n_x, z_x, c_x, s_x, g_x) _ _ _ _ _ (by rfl) (by show (false, ysi, ydn, t_x, p_x, n_x, z_x, c_x, s_x, g_x) = (rqM lc kn gk gs ge kz ysi ydn (yft, yfp, yn, ysc, ycc, ys, g)) ∧ 0 ≤ n_x ∧ n_x ≤ 1000; rw [if_pos hb9, if_neg (show ¬ (kd = 9 ∧ o < 6) by omega), ← hp64] at hres; dsimp only at hres; rw [if_neg (by rw [hrc3]; decide)] at hres; exact ⟨hres, by omega⟩) (by first | exact hP | (subst_vars; exact hP)) (by first | exact hD | (subst_vars; exact hD)) hS d_Y_readsQuery_71
            · have _q := c21
              obtain ⟨o_n, eo_n⟩ : ∃ y_9 : Int, y_9 = o + 1 := ⟨_, rfl⟩
              refine lv_iinc (v := iI o_n) (lv' := [(1, .int (iI o_n)), (4, .int (iI kd)), (3, .int (iI tn)), (2, .int (iI (bI b))), (0, .ref yo)]) hx hb d_Y_readsQuery_47 hl (k := 3) rfl (by rw [eo_n]; exact iI_add _ _) (by decide) rfl (fun ls hl => ?_)
              refine lv_aload_n hx hb d_Y_readsQuery_50 rfl (lv_at hl 4 rfl) ?_
              refine lv_iload hx hb d_Y_readsQuery_51 (lv_at hl 1 rfl) ?_
              refine li_callQ (X := [(yo, .inr (6, [.ref (ya 0), .int (iI n2), .ref (ya 1), .int (iI z2), .ref (ya 2), .int (iI cc2), .int (iI ysi), .int (iI (bI ydn)), .int (iI ft2), .int (iI fp2), .ref (ya 3), .ref (ya 4)])), (ya 0, .inr (8, [.ref la, .int (iI kn), .ref ga, .ref gb, .ref gc, .int (iI kz)])), (ga, .inl (kA 0, 100, .inl (aI gk))), (gb, .inl (kA 0, 100, .inl (aI gs))), (gc, .inl (kA 0, 100, .inl (aI ge))), (ya 1, .inl (kA 0, 100, .inl (aI ys2))), (ya 2, .inl (kA 6, 50, .inr (.inr (.inr (.inr (fun k => some (cl k)))))))]) (cx := [(yo, .inr (6, [.ref (ya 0), .int (iI n2), .ref (ya 1), .int (iI z2), .ref (ya 2), .int (iI cc2), .int (iI ysi), .int (iI (bI ydn)), .int (iI ft2), .int (iI fp2), .ref (ya 3), .ref (ya 4)])), (ya 1, .inl (kA 0, 100, .inl (aI ys2)))]) (wr := [(ya 0, .inr (8, [.ref la, .int (iI kn), .ref ga, .ref gb, .ref gc, .int (iI kz)])), (ga, .inl (kA 0, 100, .inl (aI gk))), (gb, .inl (kA 0, 100, .inl (aI gs))), (gc, .inl (kA 0, 100, .inl (aI ge))), (ya 2, .inl (kA 6, 50, .inr (.inr (.inr (.inr (fun k => some (cl k)))))))]) (pl := clW cl g2) (va_runV (As := [.int (iI kd)]) (rest := []) ⟨hx, hb, hml, hown, hts⟩ (c_Y_takeStep l dC dI kA H.size yo ya n2 z2 cc2 ysi ft2 fp2 ydn ys2 kd (by omega) (by omega)) (cw_Y_76 hts rfl rfl ⟨Nat.le_of_ble_eq_true rfl, Nat.le_of_ble_eq_true rfl⟩) (li_preV (va_recv hK hP (ci := 6) (q0 := 0) rfl rfl) ⟨rfl, hP.sub [0, 5] rfl, (hD.sub [0, 5] (by decide) rfl).weaken (fun _ _ _ h => hAN _ h), trivial⟩ hK hN (hG.go hS hAN)) rfl rfl hl.1 rfl (lv_room (Nat.le_of_ble_eq_true rfl)) d_Y_readsQuery_53 ⟨(by show 0 + 0 ≤ 0; omega), (by show 0 + 0 ≤ 0; omega)⟩) hP hD hS hA [0, 5] [1, 2, 3, 4, 6] rfl rfl (by decide) (by decide) (fun u25 H locs hu25 hP hD hS => ?_)
              obtain ⟨n_x, z_x⟩ := u25
              have hP : va_P (dC, dI) CL ([(ya 0, .inr (8, [.ref la, .int (iI kn), .ref ga, .ref gb, .ref gc, .int (iI kz)])), (ga, .inl (kA 0, 100, .inl (aI gk))), (gb, .inl (kA 0, 100, .inl (aI gs))), (gc, .inl (kA 0, 100, .inl (aI ge))), (ya 2, .inl (kA 6, 50, .inr (.inr (.inr (.inr (fun k => some (cl k))))))), (yo, .inr (6, [.ref (ya 0), .int (iI n_x), .ref (ya 1), .int (iI z_x), .ref (ya 2), .int (iI cc2), .int (iI ysi), .int (iI (bI ydn)), .int (iI ft2), .int (iI fp2), .ref (ya 3), .ref (ya 4)])), (ya 1, .inl (kA 0, 100, .inl (aI (va_up ys2 z2.toNat kd))))] ++ clW cl g2) H := hP
              have hD : va_D A ([(ya 0, .inr (8, [.ref la, .int (iI kn), .ref ga, .ref gb, .ref gc, .int (iI kz)])), (ga, .inl (kA 0, 100, .inl (aI gk))), (gb, .inl (kA 0, 100, .inl (aI gs))), (gc, .inl (kA 0, 100, .inl (aI ge))), (ya 2, .inl (kA 6, 50, .inr (.inr (.inr (.inr (fun k => some (cl k))))))), (yo, .inr (6, [.ref (ya 0), .int (iI n_x), .ref (ya 1), .int (iI z_x), .ref (ya 2), .int (iI cc2), .int (iI ysi), .int (iI (bI ydn)), .int (iI ft2), .int (iI fp2), .ref (ya 3), .ref (ya 4)])), (ya 1, .inl (kA 0, 100, .inl (aI (va_up ys2 z2.toNat kd))))] ++ clW cl g2) := hD
              have hp53 : n_x = n2 + 1 ∧ z_x = z2 + 1 := hu25
              obtain ⟨hn9, hz9⟩ := hp53
              refine lv_goto (tgt := 136) hx hb d_Y_readsQuery_56 (by decide) ?_
              obtain ⟨t_n, et_n⟩ : ∃ y_9 : Int, y_9 = tn + 1 := ⟨_, rfl⟩
              refine lv_iinc (v := iI t_n) (lv' := [(3, .int (iI t_n)), (1, .int (iI o_n)), (4, .int (iI kd)), (2, .int (iI (bI b))), (0, .ref yo)]) hx hb d_Y_readsQuery_136 hl (k := 2) rfl (by rw [et_n]; exact iI_add _ _) (by decide) rfl (fun ls hl => ?_)
              refine lv_goto (tgt := 6) hx hb d_Y_readsQuery_139 (by decide) ?_
              exact ih_6 o_n b t_n ft2 fp2 n_x z_x cc2 (va_up ys2 z2.toNat kd) g2 (by omega) (by first | (unfold rqM; rw [show kz + 1 - 0 = kz + 1 by omega]; done) | (rw [if_pos hb9, if_pos (show kd = 9 ∧ o < 6 by omega)] at hres; rw [et_n, eo_n, hn9, hz9]; exact hres) | (rw [if_pos hb9, if_neg (show ¬ (kd = 9 ∧ o < 6) by omega), ← hp64] at hres; dsimp only at hres; rw [if_pos hrc3] at hres; rw [et_n]; exact hres) | (rw [if_neg hb9, if_pos (show kd = 10 ∧ 0 < o by omega)] at hres; rw [et_n, eo_n, hn9, hz9]; exact hres) | (rw [if_neg hb9, if_neg (show ¬ (kd = 10 ∧ 0 < o) by omega), if_pos hj9] at hres; rw [et_n, hn9, hz9]; exact hres)) (by omega) _ _ (li_sbP hP [5, 0, 1, 2, 3, 6, 4] rfl) (li_sbD hD [5, 0, 1, 2, 3, 6, 4] (by decide) rfl) hS _ (lv_sub hl [0, 3, 1, 4] rfl)
  exact K_6 ((kz + 1 - 0).toNat + 1) 0 true 0 yft yfp yn ysc ycc ys g (by omega) (by first | (unfold rqM; rw [show kz + 1 - 0 = kz + 1 by omega]; done) | (rw [if_pos hb9, if_pos (show kd = 9 ∧ o < 6 by omega)] at hres; rw [et_n, eo_n, hn9, hz9]; exact hres) | (rw [if_pos hb9, if_neg (show ¬ (kd = 9 ∧ o < 6) by omega), ← hp64] at hres; dsimp only at hres; rw [if_pos hrc3] at hres; rw [et_n]; exact hres) | (rw [if_neg hb9, if_pos (show kd = 10 ∧ 0 < o by omega)] at hres; rw [et_n, eo_n, hn9, hz9]; exact hres) | (rw [if_neg hb9, if_neg (show ¬ (kd = 10 ∧ 0 < o) by omega), if_pos hj9] at hres; rw [et_n, hn9, hz9]; exact hres)) (Nat.lt_succ_self _) _ _ hP hD hS _ (lv_sub hl [0, 1, 2, 3] rfl)

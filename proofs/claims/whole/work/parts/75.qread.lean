def rdQ (lc : Nat → Int) (kn : Int) (tk : St6) (fp : Int) (ys : Nat → Int) (g : Nat → CEt) : YZ := rqM lc kn tk.2.1 tk.2.2.1 tk.2.2.2 tk.1 (-1) false (0, fp, 0, 0, 0, ys, g)
def rdM (lc : Nat → Int) (kn : Int) (tk : St6) (fp : Int) (ys : Nat → Int) (g : Nat → CEt) : YZ := if (rdQ lc kn tk fp ys g).1 = true then rdQ lc kn tk fp ys g else (false, (rdQ lc kn tk fp ys g).2.1, (rdQ lc kn tk fp ys g).2.2.1, -2, seF tk.2.2.1 tk.1 kn (rdQ lc kn tk fp ys g).2.2.2.2.2.1, (rdQ lc kn tk fp ys g).2.2.2.2.2)
abbrev JA : Type := Int × Int × (Nat → Int) × (Nat → Int)
def jaS (g : Nat → CEt) (k : Int) (u : JA) : JA :=
  if k = 9 then (u.1 + 1, u.2.1, va_up u.2.2.1 (u.1 + 1).toNat 0, va_up u.2.2.2 (u.1 + 1).toNat 12)
  else if k = 10 then (u.1 - 1, u.2.1, va_up u.2.2.1 (u.1 - 1).toNat (jnC (u.2.2.2 (u.1 - 1).toNat) (u.2.2.1 (u.1 - 1).toNat) (u.2.2.1 (u.1 - 1 + 1).toNat)), u.2.2.2)
  else if k = 0 then (u.1, u.2.1 + 1, va_up u.2.2.1 u.1.toNat (jnC (u.2.2.2 u.1.toNat) (u.2.2.1 u.1.toNat) (if u.2.1 < 50 then (g u.2.1.toNat).2.2.2.2 else 0)), u.2.2.2)
  else (u.1, u.2.1, va_up u.2.2.1 u.1.toNat (u.2.2.1 u.1.toNat), va_up u.2.2.2 u.1.toNat k)
def jaL (ys : Nat → Int) (g : Nat → CEt) : Nat → Int → JA → JA
  | 0, _, u => u
  | k + 1, s, u => jaL ys g k (s + 1) (jaS g (ys s.toNat) u)
def jaM (ys : Nat → Int) (g : Nat → CEt) (z : Int) (yr yj : Nat → Int) : JA := jaL ys g z.toNat 0 (0, 0, va_up yr 0 0, va_up yj 0 12)
def opN (ys : Nat → Int) : Nat → Int
  | 0 => 0
  | k + 1 => if ys k = 9 then opN ys k + 1 else if ys k = 10 then opN ys k - 1 else opN ys k
def JOK (ys : Nat → Int) (z : Int) : Prop := (0 ≤ z ∧ z ≤ 100) ∧ (∀ k : Nat, (k : Int) ≤ z → 0 ≤ opN ys k ∧ opN ys k ≤ 6) ∧ ∀ k : Nat, (k : Int) < z → 0 ≤ ys k ∧ ys k ≤ 20
theorem jaS_j {g : Nat → CEt} {k : Int} {u : JA} (hk : 0 ≤ k ∧ k ≤ 20) (h : ∀ j, 0 ≤ u.2.2.2 j ∧ u.2.2.2 j ≤ 20) : ∀ j, 0 ≤ (jaS g k u).2.2.2 j ∧ (jaS g k u).2.2.2 j ≤ 20 := by
  unfold jaS
  split
  · exact up_r h (by omega)
  · split
    · exact h
    · split
      · exact h
      · exact up_r h hk
theorem jaS_o {g : Nat → CEt} {k : Int} {u : JA} : (jaS g k u).1 = (if k = 9 then u.1 + 1 else if k = 10 then u.1 - 1 else u.1) ∧ u.2.1 ≤ (jaS g k u).2.1 ∧ (jaS g k u).2.1 ≤ u.2.1 + 1 := by
  unfold jaS
  (repeat' split) <;> (refine ⟨?_, ?_, ?_⟩ <;> first | rfl | (dsimp only; omega))

theorem d_Y_read_0 : decode b_Y_read 0 = .ok (.aload_n 0, 1) := by decide +kernel
theorem d_Y_read_1 : decode b_Y_read 1 = .ok (.getfield 12, 3) := by decide +kernel
theorem d_Y_read_4 : decode b_Y_read 4 = .ok (.aload_n 1, 1) := by decide +kernel
theorem d_Y_read_5 : decode b_Y_read 5 = .ok (.iload_n 2, 1) := by decide +kernel
theorem d_Y_read_6 : decode b_Y_read 6 = .ok (.invokevirtual 35, 3) := by decide +kernel
theorem d_Y_read_9 : decode b_Y_read 9 = .ok (.aload_n 0, 1) := by decide +kernel
theorem d_Y_read_10 : decode b_Y_read 10 = .ok (.iconst 0, 1) := by decide +kernel
theorem d_Y_read_11 : decode b_Y_read 11 = .ok (.putfield 39, 3) := by decide +kernel
theorem d_Y_read_14 : decode b_Y_read 14 = .ok (.aload_n 0, 1) := by decide +kernel
theorem d_Y_read_15 : decode b_Y_read 15 = .ok (.iconst 0, 1) := by decide +kernel
theorem d_Y_read_16 : decode b_Y_read 16 = .ok (.putfield 43, 3) := by decide +kernel
theorem d_Y_read_19 : decode b_Y_read 19 = .ok (.aload_n 0, 1) := by decide +kernel
theorem d_Y_read_20 : decode b_Y_read 20 = .ok (.iconst 0, 1) := by decide +kernel
theorem d_Y_read_21 : decode b_Y_read 21 = .ok (.putfield 46, 3) := by decide +kernel
theorem d_Y_read_24 : decode b_Y_read 24 = .ok (.aload_n 0, 1) := by decide +kernel
theorem d_Y_read_25 : decode b_Y_read 25 = .ok (.iconst (-1), 1) := by decide +kernel
theorem d_Y_read_26 : decode b_Y_read 26 = .ok (.putfield 49, 3) := by decide +kernel
theorem d_Y_read_29 : decode b_Y_read 29 = .ok (.aload_n 0, 1) := by decide +kernel
theorem d_Y_read_30 : decode b_Y_read 30 = .ok (.iconst 0, 1) := by decide +kernel
theorem d_Y_read_31 : decode b_Y_read 31 = .ok (.putfield 52, 3) := by decide +kernel
theorem d_Y_read_34 : decode b_Y_read 34 = .ok (.aload_n 0, 1) := by decide +kernel
theorem d_Y_read_35 : decode b_Y_read 35 = .ok (.iconst 0, 1) := by decide +kernel
theorem d_Y_read_36 : decode b_Y_read 36 = .ok (.putfield 56, 3) := by decide +kernel
theorem d_Y_read_39 : decode b_Y_read 39 = .ok (.aload_n 0, 1) := by decide +kernel
theorem d_Y_read_40 : decode b_Y_read 40 = .ok (.invokevirtual 59, 3) := by decide +kernel
theorem d_Y_read_43 : decode b_Y_read 43 = .ok (.ifCond .ne 24, 3) := by decide +kernel
theorem d_Y_read_46 : decode b_Y_read 46 = .ok (.aload_n 0, 1) := by decide +kernel
theorem d_Y_read_47 : decode b_Y_read 47 = .ok (.bipush (-2), 2) := by decide +kernel
theorem d_Y_read_49 : decode b_Y_read 49 = .ok (.putfield 56, 3) := by decide +kernel
theorem d_Y_read_52 : decode b_Y_read 52 = .ok (.aload_n 0, 1) := by decide +kernel
theorem d_Y_read_53 : decode b_Y_read 53 = .ok (.aload_n 0, 1) := by decide +kernel
theorem d_Y_read_54 : decode b_Y_read 54 = .ok (.getfield 12, 3) := by decide +kernel
theorem d_Y_read_57 : decode b_Y_read 57 = .ok (.aload_n 0, 1) := by decide +kernel
theorem d_Y_read_58 : decode b_Y_read 58 = .ok (.getfield 39, 3) := by decide +kernel
theorem d_Y_read_61 : decode b_Y_read 61 = .ok (.invokevirtual 63, 3) := by decide +kernel
theorem d_Y_read_64 : decode b_Y_read 64 = .ok (.putfield 67, 3) := by decide +kernel
theorem d_Y_read_67 : decode b_Y_read 67 = .ok (.aload_n 0, 1) := by decide +kernel
theorem d_Y_read_68 : decode b_Y_read 68 = .ok (.getfield 56, 3) := by decide +kernel
theorem d_Y_read_71 : decode b_Y_read 71 = .ok (.ireturn, 1) := by decide +kernel
set_option maxHeartbeats 4000000 in
set_option maxRecDepth 100000 in
theorem c_Y_read (l : Launch) (dC : Nat → ClassId) (dI : Nat → Nat → Nat) (kA : Nat → ClassId) (sz : Nat) (yo : Nat) (ya : Nat → Nat) (yn : Int) (ysc : Int) (ycc : Int) (ysi : Int) (yft : Int) (yfp : Int) (ydn : Bool) (la : Nat) (nl : Nat) (lc : Nat → Int) (kn : Int) (ga : Nat) (gb : Nat) (gc : Nat) (kz : Int) (gk : Nat → Int) (gs : Nat → Int) (ge : Nat → Int) (b0 : Nat) (n0 : Int) (ys : Nat → Int) (cl : Nat → Nat) (g : Nat → CEt) (hKR : KR nl lc kn kz gk gs ge) : Met l y_Y_read (wsy y_Y_read b_Y_read 3 (some .int)) (rmd 9 0 0) (li_Pr (dC, dI) CL (TY kA) [.ref yo, .ref la, .int (iI kn)] (fun h => h.size = sz ∧ va_P (dC, dI) CL ([(yo, .inr (6, [.ref (ya 0), .int (iI yn), .ref (ya 1), .int (iI ysc), .ref (ya 2), .int (iI ycc), .int (iI ysi), .int (iI (bI ydn)), .int (iI yft), .int (iI yfp), .ref (ya 3), .ref (ya 4)])), (ya 0, .inr (8, [.ref b0, .int (iI n0), .ref ga, .ref gb, .ref gc, .int (iI kz)])), (ga, .inl (kA 0, 100, .inl (aI gk))), (gb, .inl (kA 0, 100, .inl (aI gs))), (gc, .inl (kA 0, 100, .inl (aI ge))), (ya 1, .inl (kA 0, 100, .inl (aI ys))), (ya 2, .inl (kA 6, 50, .inr (.inr (.inr (.inr (fun k => some (cl k)))))))] ++ clW cl g) h ∧ va_D (fun q => dI 100 0 ≤ q) ([(yo, .inr (6, [.ref (ya 0), .int (iI yn), .ref (ya 1), .int (iI ysc), .ref (ya 2), .int (iI ycc), .int (iI ysi), .int (iI (bI ydn)), .int (iI yft), .int (iI yfp), .ref (ya 3), .ref (ya 4)])), (ya 0, .inr (8, [.ref b0, .int (iI n0), .ref ga, .ref gb, .ref gc, .int (iI kz)])), (ga, .inl (kA 0, 100, .inl (aI gk))), (gb, .inl (kA 0, 100, .inl (aI gs))), (gc, .inl (kA 0, 100, .inl (aI ge))), (ya 1, .inl (kA 0, 100, .inl (aI ys))), (ya 2, .inl (kA 6, 50, .inr (.inr (.inr (.inr (fun k => some (cl k)))))))] ++ clW cl g) ∧ (fun h => va_P (dC, dI) CL [(la, .inl (kA 1, nl, .inl (aI lc)))] h ∧ Dsj [(la, .inl (kA 1, nl, .inl (aI lc)))] ([(yo, .inr (6, [.ref (ya 0), .int (iI yn), .ref (ya 1), .int (iI ysc), .ref (ya 2), .int (iI ycc), .int (iI ysi), .int (iI (bI ydn)), .int (iI yft), .int (iI yfp), .ref (ya 3), .ref (ya 4)])), (ya 0, .inr (8, [.ref b0, .int (iI n0), .ref ga, .ref gb, .ref gc, .int (iI kz)])), (ga, .inl (kA 0, 100, .inl (aI gk))), (gb, .inl (kA 0, 100, .inl (aI gs))), (gc, .inl (kA 0, 100, .inl (aI ge))), (ya 1, .inl (kA 0, 100, .inl (aI ys))), (ya 2, .inl (kA 6, 50, .inr (.inr (.inr (.inr (fun k => some (cl k)))))))] ++ clW cl g)) h)) (li_Qw (S := (Int) × (Bool) × (Int) × (Int) × (Int) × (Int) × (Int) × (Nat → Int) × (Nat → CEt)) (dC, dI) CL (fun u => (u.1, u.2.1, u.2.2.1, u.2.2.2.1, u.2.2.2.2.1, u.2.2.2.2.2.1, u.2.2.2.2.2.2.1, u.2.2.2.2.2.2.2.1, u.2.2.2.2.2.2.2.2) = (rdM lc kn (tkF lc kn gk gs ge) yfp ys g).2 ∧ KR nl lc kn (tkF lc kn gk gs ge).1 (tkF lc kn gk gs ge).2.1 (tkF lc kn gk gs ge).2.2.1 (tkF lc kn gk gs ge).2.2.2) (fun u => some (.int (iI (u.2.2.1)))) (fun u => ([(yo, .inr (6, [.ref (ya 0), .int (iI u.2.2.2.2.1), .ref (ya 1), .int (iI u.2.2.2.2.2.1), .ref (ya 2), .int (iI u.2.2.2.2.2.2.1), .int (iI u.1), .int (iI (bI u.2.1)), .int (iI u.2.2.1), .int (iI u.2.2.2.1), .ref (ya 3), .ref (ya 4)])), (ya 0, .inr (8, [.ref la, .int (iI kn), .ref ga, .ref gb, .ref gc, .int (iI ((tkF lc kn gk gs ge).1))])), (ga, .inl (kA 0, 100, .inl (aI ((tkF lc kn gk gs ge).2.1)))), (gb, .inl (kA 0, 100, .inl (aI ((tkF lc kn gk gs ge).2.2.1)))), (gc, .inl (kA 0, 100, .inl (aI ((tkF lc kn gk gs ge).2.2.2)))), (ya 1, .inl (kA 0, 100, .inl (aI u.2.2.2.2.2.2.2.1))), (ya 2, .inl (kA 6, 50, .inr (.inr (.inr (.inr (fun k => some (cl k)))))))] ++ clW cl u.2.2.2.2.2.2.2.2)) (va_A ([(yo, .inr (6, [.ref (ya 0), .int (iI yn), .ref (ya 1), .int (iI ysc), .ref (ya 2), .int (iI ycc), .int (iI ysi), .int (iI (bI ydn)), .int (iI yft), .int (iI yfp), .ref (ya 3), .ref (ya 4)])), (ya 0, .inr (8, [.ref b0, .int (iI n0), .ref ga, .ref gb, .ref gc, .int (iI kz)])), (ga, .inl (kA 0, 100, .inl (aI gk))), (gb, .inl (kA 0, 100, .inl (aI gs))), (gc, .inl (kA 0, 100, .inl (aI ge))), (ya 1, .inl (kA 0, 100, .inl (aI ys))), (ya 2, .inl (kA 6, 50, .inr (.inr (.inr (.inr (fun k => some (cl k)))))))] ++ clW cl g) sz)) 0 0 (va_A ([(yo, .inr (6, [.ref (ya 0), .int (iI yn), .ref (ya 1), .int (iI ysc), .ref (ya 2), .int (iI ycc), .int (iI ysi), .int (iI (bI ydn)), .int (iI yft), .int (iI yfp), .ref (ya 3), .ref (ya 4)])), (ya 0, .inr (8, [.ref b0, .int (iI n0), .ref ga, .ref gb, .ref gc, .int (iI kz)])), (ga, .inl (kA 0, 100, .inl (aI gk))), (gb, .inl (kA 0, 100, .inl (aI gs))), (gc, .inl (kA 0, 100, .inl (aI ge))), (ya 1, .inl (kA 0, 100, .inl (aI ys))), (ya 2, .inl (kA 6, 50, .inr (.inr (.inr (.inr (fun k => some (cl k)))))))] ++ clW cl g) sz) := by
  refine li_mwi (r := fun (u : (Int) × (Bool) × (Int) × (Int) × (Int) × (Int) × (Int) × (Nat → Int) × (Nat → CEt)) => u.2.2.1) (by decide) (Nat.le_of_ble_eq_true rfl) (fun u _ => by rfl) ?_
  intro p e s m args below meth c Q A C hP hD hBx hK hN hG hA hAi hAN fin ls hl
  obtain ⟨hx, hb, hr, hml, hown, hts, hlocks, hin⟩ := C
  have hown : s.vm.findClass R_Y = some m.cls := hown
  obtain ⟨hRo, hDj⟩ := hBx
  have hRo : va_P (dC, dI) CL [(la, .inl (kA 1, nl, .inl (aI lc)))] s.heap := hRo
  have hRoN := li_roN (A := A) hRo hDj hAi
  have hl : lv_has ls 3 [(0, .ref yo), (1, .ref la), (2, .int (iI kn))] := hl
  obtain ⟨hnl, hkn, hkz, hlc, hgk, hgs, hge⟩ := id hKR
  suffices h9 : ∀ (H : Heap) (locs : List Loc), H = s.heap → locs = [] → W p l e (rmd 9 0 0) s m args below meth c H locs 0 0 Q (F0 m 0 ls []) from h9 _ _ rfl rfl
  intro H locs eH eL
  have hP : va_P (dC, dI) CL ([(yo, .inr (6, [.ref (ya 0), .int (iI yn), .ref (ya 1), .int (iI ysc), .ref (ya 2), .int (iI ycc), .int (iI ysi), .int (iI (bI ydn)), .int (iI yft), .int (iI yfp), .ref (ya 3), .ref (ya 4)])), (ya 0, .inr (8, [.ref b0, .int (iI n0), .ref ga, .ref gb, .ref gc, .int (iI kz)])), (ga, .inl (kA 0, 100, .inl (aI gk))), (gb, .inl (kA 0, 100, .inl (aI gs))), (gc, .inl (kA 0, 100, .inl (aI ge))), (ya 1, .inl (kA 0, 100, .inl (aI ys))), (ya 2, .inl (kA 6, 50, .inr (.inr (.inr (.inr (fun k => some (cl k)))))))] ++ clW cl g) H := by rw [eH]; exact hP
  have hS : va_S A s.heap H locs := by rw [eH, eL]; exact va_S.rf
  refine lv_aload_n hx hb d_Y_read_0 rfl (lv_at hl 0 rfl) ?_
  refine gf_Y_12 hx hb hts hown hK hP 0 rfl rfl d_Y_read_1 ?_
  refine lv_aload_n hx hb d_Y_read_4 rfl (lv_at hl 1 rfl) ?_
  refine lv_iload_n hx hb d_Y_read_5 rfl (lv_at hl 2 rfl) ?_
  refine li_callQ (X := [(yo, .inr (6, [.ref (ya 0), .int (iI yn), .ref (ya 1), .int (iI ysc), .ref (ya 2), .int (iI ycc), .int (iI ysi), .int (iI (bI ydn)), .int (iI yft), .int (iI yfp), .ref (ya 3), .ref (ya 4)])), (ya 0, .inr (8, [.ref b0, .int (iI n0), .ref ga, .ref gb, .ref gc, .int (iI kz)])), (ga, .inl (kA 0, 100, .inl (aI gk))), (gb, .inl (kA 0, 100, .inl (aI gs))), (gc, .inl (kA 0, 100, .inl (aI ge))), (ya 1, .inl (kA 0, 100, .inl (aI ys))), (ya 2, .inl (kA 6, 50, .inr (.inr (.inr (.inr (fun k => some (cl k)))))))]) (cx := [(ya 0, .inr (8, [.ref b0, .int (iI n0), .ref ga, .ref gb, .ref gc, .int (iI kz)])), (ga, .inl (kA 0, 100, .inl (aI gk))), (gb, .inl (kA 0, 100, .inl (aI gs))), (gc, .inl (kA 0, 100, .inl (aI ge)))]) (wr := [(yo, .inr (6, [.ref (ya 0), .int (iI yn), .ref (ya 1), .int (iI ysc), .ref (ya 2), .int (iI ycc), .int (iI ysi), .int (iI (bI ydn)), .int (iI yft), .int (iI yfp), .ref (ya 3), .ref (ya 4)])), (ya 1, .inl (kA 0, 100, .inl (aI ys))), (ya 2, .inl (kA 6, 50, .inr (.inr (.inr (.inr (fun k => some (cl k)))))))]) (pl := clW cl g) (va_runV (As := [.ref la, .int (iI kn)]) (rest := []) ⟨hx, hb, hml, hown, hts⟩ (c_K_read l dC dI kA H.size (ya 0) la nl lc kn ga gb gc kz gk gs ge b0 n0 (by first | exact hp6 | exact hKR)) (cw_Y_35 hts rfl rfl ⟨Nat.le_of_ble_eq_true rfl, Nat.le_of_ble_eq_true rfl⟩) (li_preV (va_recv hK hP (ci := 8) (q0 := 1) rfl rfl) ⟨rfl, hP.sub [1, 2, 3, 4] rfl, (hD.sub [1, 2, 3, 4] (by decide) rfl).weaken (fun _ _ _ h => hAN _ h), ((li_ro hRo hRoN hS).sub [0] rfl), (dj_cons (dj_r (hRoN 0 _ rfl) hD [1, 2, 3, 4] rfl) dj_nil)⟩ hK hN (hG.go hS hAN)) rfl rfl hl.1 rfl (lv_room (Nat.le_of_ble_eq_true rfl)) d_Y_read_6 ⟨(by show 0 + 0 ≤ 0; omega), (by show 0 + 0 ≤ 0; omega)⟩) hP hD hS hA [1, 2, 3, 4] [0, 5, 6] rfl rfl (by decide) (by decide) (fun u1 H locs hu1 hP hD hS => ?_)
  have hP : va_P (dC, dI) CL ([(yo, .inr (6, [.ref (ya 0), .int (iI yn), .ref (ya 1), .int (iI ysc), .ref (ya 2), .int (iI ycc), .int (iI ysi), .int (iI (bI ydn)), .int (iI yft), .int (iI yfp), .ref (ya 3), .ref (ya 4)])), (ya 1, .inl (kA 0, 100, .inl (aI ys))), (ya 2, .inl (kA 6, 50, .inr (.inr (.inr (.inr (fun k => some (cl k))))))), ((ya 0), .inr (8, [.ref la, .int (iI kn), .ref ga, .ref gb, .ref gc, .int (iI ((tkF lc kn gk gs ge).1))])), (ga, .inl (kA 0, 100, .inl (aI ((tkF lc kn gk gs ge).2.1)))), (gb, .inl (kA 0, 100, .inl (aI ((tkF lc kn gk gs ge).2.2.1)))), (gc, .inl (kA 0, 100, .inl (aI ((tkF lc kn gk gs ge).2.2.2))))] ++ clW cl g) H := hP
  have hD : va_D A ([(yo, .inr (6, [.ref (ya 0), .int (iI yn), .ref (ya 1), .int (iI ysc), .ref (ya 2), .int (iI ycc), .int (iI ysi), .int (iI (bI ydn)), .int (iI yft), .int (iI yfp), .ref (ya 3), .ref (ya 4)])), (ya 1, .inl (kA 0, 100, .inl (aI ys))), (ya 2, .inl (kA 6, 50, .inr (.inr (.inr (.inr (fun k => some (cl k))))))), ((ya 0), .inr (8, [.ref la, .int (iI kn), .ref ga, .ref gb, .ref gc, .int (iI ((tkF lc kn gk gs ge).1))])), (ga, .inl (kA 0, 100, .inl (aI ((tkF lc kn gk gs ge).2.1)))), (gb, .inl (kA 0, 100, .inl (aI ((tkF lc kn gk gs ge).2.2.1)))), (gc, .inl (kA 0, 100, .inl (aI ((tkF lc kn gk gs ge).2.2.2))))] ++ clW cl g) := hD
  have hp6 : KR nl lc kn (tkF lc kn gk gs ge).1 (tkF lc kn gk gs ge).2.1 (tkF lc kn gk gs ge).2.2.1 (tkF lc kn gk gs ge).2.2.2 := hu1
  refine lv_aload_n hx hb d_Y_read_9 rfl (lv_at hl 0 rfl) ?_
  refine lv_iconst (v := iI 0) hx hb d_Y_read_10 rfl ?_
  refine pf_Y_39 hx hb hts hown hK hP hD hS 0 rfl (Nat.le_of_ble_eq_true rfl) d_Y_read_11 (fun H locs hP hD hS => ?_)
  have hP : va_P (dC, dI) CL ([(yo, .inr (6, [.ref (ya 0), .int (iI 0), .ref (ya 1), .int (iI ysc), .ref (ya 2), .int (iI ycc), .int (iI ysi), .int (iI (bI ydn)), .int (iI yft), .int (iI yfp), .ref (ya 3), .ref (ya 4)])), (ya 1, .inl (kA 0, 100, .inl (aI ys))), (ya 2, .inl (kA 6, 50, .inr (.inr (.inr (.inr (fun k => some (cl k))))))), ((ya 0), .inr (8, [.ref la, .int (iI kn), .ref ga, .ref gb, .ref gc, .int (iI ((tkF lc kn gk gs ge).1))])), (ga, .inl (kA 0, 100, .inl (aI ((tkF lc kn gk gs ge).2.1)))), (gb, .inl (kA 0, 100, .inl (aI ((tkF lc kn gk gs ge).2.2.1)))), (gc, .inl (kA 0, 100, .inl (aI ((tkF lc kn gk gs ge).2.2.2))))] ++ clW cl g) H := hP
  have hD : va_D A ([(yo, .inr (6, [.ref (ya 0), .int (iI 0), .ref (ya 1), .int (iI ysc), .ref (ya 2), .int (iI ycc), .int (iI ysi), .int (iI (bI ydn)), .int (iI yft), .int (iI yfp), .ref (ya 3), .ref (ya 4)])), (ya 1, .inl (kA 0, 100, .inl (aI ys))), (ya 2, .inl (kA 6, 50, .inr (.inr (.inr (.inr (fun k => some (cl k))))))), ((ya 0), .inr (8, [.ref la, .int (iI kn), .ref ga, .ref gb, .ref gc, .int (iI ((tkF lc kn gk gs ge).1))])), (ga, .inl (kA 0, 100, .inl (aI ((tkF lc kn gk gs ge).2.1)))), (gb, .inl (kA 0, 100, .inl (aI ((tkF lc kn gk gs ge).2.2.1)))), (gc, .inl (kA 0, 100, .inl (aI ((tkF lc kn gk gs ge).2.2.2))))] ++ clW cl g) := hD
  refine lv_aload_n hx hb d_Y_read_14 rfl (lv_at hl 0 rfl) ?_
  refine lv_iconst (v := iI 0) hx hb d_Y_read_15 rfl ?_
  refine pf_Y_43 hx hb hts hown hK hP hD hS 0 rfl (Nat.le_of_ble_eq_true rfl) d_Y_read_16 (fun H locs hP hD hS => ?_)
  have hP : va_P (dC, dI) CL ([(yo, .inr (6, [.ref (ya 0), .int (iI 0), .ref (ya 1), .int (iI 0), .ref (ya 2), .int (iI ycc), .int (iI ysi), .int (iI (bI ydn)), .int (iI yft), .int (iI yfp), .ref (ya 3), .ref (ya 4)])), (ya 1, .inl (kA 0, 100, .inl (aI ys))), (ya 2, .inl (kA 6, 50, .inr (.inr (.inr (.inr (fun k => some (cl k))))))), ((ya 0), .inr (8, [.ref la, .int (iI kn), .ref ga, .ref gb, .ref gc, .int (iI ((tkF lc kn gk gs ge).1))])), (ga, .inl (kA 0, 100, .inl (aI ((tkF lc kn gk gs ge).2.1)))), (gb, .inl (kA 0, 100, .inl (aI ((tkF lc kn gk gs ge).2.2.1)))), (gc, .inl (kA 0, 100, .inl (aI ((tkF lc kn gk gs ge).2.2.2))))] ++ clW cl g) H := hP
  have hD : va_D A ([(yo, .inr (6, [.ref (ya 0), .int (iI 0), .ref (ya 1), .int (iI 0), .ref (ya 2), .int (iI ycc), .int (iI ysi), .int (iI (bI ydn)), .int (iI yft), .int (iI yfp), .ref (ya 3), .ref (ya 4)])), (ya 1, .inl (kA 0, 100, .inl (aI ys))), (ya 2, .inl (kA 6, 50, .inr (.inr (.inr (.inr (fun k => some (cl k))))))), ((ya 0), .inr (8, [.ref la, .int (iI kn), .ref ga, .ref gb, .ref gc, .int (iI ((tkF lc kn gk gs ge).1))])), (ga, .inl (kA 0, 100, .inl (aI ((tkF lc kn gk gs ge).2.1)))), (gb, .inl (kA 0, 100, .inl (aI ((tkF lc kn gk gs ge).2.2.1)))), (gc, .inl (kA 0, 100, .inl (aI ((tkF lc kn gk gs ge).2.2.2))))] ++ clW cl g) := hD
  refine lv_aload_n hx hb d_Y_read_19 rfl (lv_at hl 0 rfl) ?_
  refine lv_iconst (v := iI 0) hx hb d_Y_read_20 rfl ?_
  refine pf_Y_46 hx hb hts hown hK hP hD hS 0 rfl (Nat.le_of_ble_eq_true rfl) d_Y_read_21 (fun H locs hP hD hS => ?_)
  have hP : va_P (dC, dI) CL ([(yo, .inr (6, [.ref (ya 0), .int (iI 0), .ref (ya 1), .int (iI 0), .ref (ya 2), .int (iI 0), .int (iI ysi), .int (iI (bI ydn)), .int (iI yft), .int (iI yfp), .ref (ya 3), .ref (ya 4)])), (ya 1, .inl (kA 0, 100, .inl (aI ys))), (ya 2, .inl (kA 6, 50, .inr (.inr (.inr (.inr (fun k => some (cl k))))))), ((ya 0), .inr (8, [.ref la, .int (iI kn), .ref ga, .ref gb, .ref gc, .int (iI ((tkF lc kn gk gs ge).1))])), (ga, .inl (kA 0, 100, .inl (aI ((tkF lc kn gk gs ge).2.1)))), (gb, .inl (kA 0, 100, .inl (aI ((tkF lc kn gk gs ge).2.2.1)))), (gc, .inl (kA 0, 100, .inl (aI ((tkF lc kn gk gs ge).2.2.2))))] ++ clW cl g) H := hP
  have hD : va_D A ([(yo, .inr (6, [.ref (ya 0), .int (iI 0), .ref (ya 1), .int (iI 0), .ref (ya 2), .int (iI 0), .int (iI ysi), .int (iI (bI ydn)), .int (iI yft), .int (iI yfp), .ref (ya 3), .ref (ya 4)])), (ya 1, .inl (kA 0, 100, .inl (aI ys))), (ya 2, .inl (kA 6, 50, .inr (.inr (.inr (.inr (fun k => some (cl k))))))), ((ya 0), .inr (8, [.ref la, .int (iI kn), .ref ga, .ref gb, .ref gc, .int (iI ((tkF lc kn gk gs ge).1))])), (ga, .inl (kA 0, 100, .inl (aI ((tkF lc kn gk gs ge).2.1)))), (gb, .inl (kA 0, 100, .inl (aI ((tkF lc kn gk gs ge).2.2.1)))), (gc, .inl (kA 0, 100, .inl (aI ((tkF lc kn gk gs ge).2.2.2))))] ++ clW cl g) := hD
  refine lv_aload_n hx hb d_Y_read_24 rfl (lv_at hl 0 rfl) ?_
  refine lv_iconst (v := iI (-1)) hx hb d_Y_read_25 rfl ?_
  refine pf_Y_49 hx hb hts hown hK hP hD hS 0 rfl (Nat.le_of_ble_eq_true rfl) d_Y_read_26 (fun H locs hP hD hS => ?_)
  have hP : va_P (dC, dI) CL ([(yo, .inr (6, [.ref (ya 0), .int (iI 0), .ref (ya 1), .int (iI 0), .ref (ya 2), .int (iI 0), .int (iI (-1)), .int (iI (bI ydn)), .int (iI yft), .int (iI yfp), .ref (ya 3), .ref (ya 4)])), (ya 1, .inl (kA 0, 100, .inl (aI ys))), (ya 2, .inl (kA 6, 50, .inr (.inr (.inr (.inr (fun k => some (cl k))))))), ((ya 0), .inr (8, [.ref la, .int (iI kn), .ref ga, .ref gb, .ref gc, .int (iI ((tkF lc kn gk gs ge).1))])), (ga, .inl (kA 0, 100, .inl (aI ((tkF lc kn gk gs ge).2.1)))), (gb, .inl (kA 0, 100, .inl (aI ((tkF lc kn gk gs ge).2.2.1)))), (gc, .inl (kA 0, 100, .inl (aI ((tkF lc kn gk gs ge).2.2.2))))] ++ clW cl g) H := hP
  have hD : va_D A ([(yo, .inr (6, [.ref (ya 0), .int (iI 0), .ref (ya 1), .int (iI 0), .ref (ya 2), .int (iI 0), .int (iI (-1)), .int (iI (bI ydn)), .int (iI yft), .int (iI yfp), .ref (ya 3), .ref (ya 4)])), (ya 1, .inl (kA 0, 100, .inl (aI ys))), (ya 2, .inl (kA 6, 50, .inr (.inr (.inr (.inr (fun k => some (cl k))))))), ((ya 0), .inr (8, [.ref la, .int (iI kn), .ref ga, .ref gb, .ref gc, .int (iI ((tkF lc kn gk gs ge).1))])), (ga, .inl (kA 0, 100, .inl (aI ((tkF lc kn gk gs ge).2.1)))), (gb, .inl (kA 0, 100, .inl (aI ((tkF lc kn gk gs ge).2.2.1)))), (gc, .inl (kA 0, 100, .inl (aI ((tkF lc kn gk gs ge).2.2.2))))] ++ clW cl g) := hD
  refine lv_aload_n hx hb d_Y_read_29 rfl (lv_at hl 0 rfl) ?_
  refine lv_iconst (v := iI 0) hx hb d_Y_read_30 rfl ?_
  refine W.eq (g2 := F0 m 31 ls [.int (iI (bI false)), .ref yo]) rfl ?_
  refine pf_Y_52 hx hb hts hown hK hP hD hS 0 rfl (Nat.le_of_ble_eq_true rfl) d_Y_read_31 (fun H locs hP hD hS => ?_)
  have hP : va_P (dC, dI) CL ([(yo, .inr (6, [.ref (ya 0), .int (iI 0), .ref (ya 1), .int (iI 0), .ref (ya 2), .int (iI 0), .int (iI (-1)), .int (iI (bI false)), .int (iI yft), .int (iI yfp), .ref (ya 3), .ref (ya 4)])), (ya 1, .inl (kA 0, 100, .inl (aI ys))), (ya 2, .inl (kA 6, 50, .inr (.inr (.inr (.inr (fun k => some (cl k))))))), ((ya 0), .inr (8, [.ref la, .int (iI kn), .ref ga, .ref gb, .ref gc, .int (iI ((tkF lc kn gk gs ge).1))])), (ga, .inl (kA 0, 100, .inl (aI ((tkF lc kn gk gs ge).2.1)))), (gb, .inl (kA 0, 100, .inl (aI ((tkF lc kn gk gs ge).2.2.1)))), (gc, .inl (kA 0, 100, .inl (aI ((tkF lc kn gk gs ge).2.2.2))))] ++ clW cl g) H := hP
  have hD : va_D A ([(yo, .inr (6, [.ref (ya 0), .int (iI 0), .ref (ya 1), .int (iI 0), .ref (ya 2), .int (iI 0), .int (iI (-1)), .int (iI (bI false)), .int (iI yft), .int (iI yfp), .ref (ya 3), .ref (ya 4)])), (ya 1, .inl (kA 0, 100, .inl (aI ys))), (ya 2, .inl (kA 6, 50, .inr (.inr (.inr (.inr (fun k => some (cl k))))))), ((ya 0), .inr (8, [.ref la, .int (iI kn), .ref ga, .ref gb, .ref gc, .int (iI ((tkF lc kn gk gs ge).1))])), (ga, .inl (kA 0, 100, .inl (aI ((tkF lc kn gk gs ge).2.1)))), (gb, .inl (kA 0, 100, .inl (aI ((tkF lc kn gk gs ge).2.2.1)))), (gc, .inl (kA 0, 100, .inl (aI ((tkF lc kn gk gs ge).2.2.2))))] ++ clW cl g) := hD
  refine lv_aload_n hx hb d_Y_read_34 rfl (lv_at hl 0 rfl) ?_
  refine lv_iconst (v := iI 0) hx hb d_Y_read_35 rfl ?_
  refine pf_Y_56 hx hb hts hown hK hP hD hS 0 rfl (Nat.le_of_ble_eq_true rfl) d_Y_read_36 (fun H locs hP hD hS => ?_)
  have hP : va_P (dC, dI) CL ([(yo, .inr (6, [.ref (ya 0), .int (iI 0), .ref (ya 1), .int (iI 0), .ref (ya 2), .int (iI 0), .int (iI (-1)), .int (iI (bI false)), .int (iI 0), .int (iI yfp), .ref (ya 3), .ref (ya 4)])), (ya 1, .inl (kA 0, 100, .inl (aI ys))), (ya 2, .inl (kA 6, 50, .inr (.inr (.inr (.inr (fun k => some (cl k))))))), ((ya 0), .inr (8, [.ref la, .int (iI kn), .ref ga, .ref gb, .ref gc, .int (iI ((tkF lc kn gk gs ge).1))])), (ga, .inl (kA 0, 100, .inl (aI ((tkF lc kn gk gs ge).2.1)))), (gb, .inl (kA 0, 100, .inl (aI ((tkF lc kn gk gs ge).2.2.1)))), (gc, .inl (kA 0, 100, .inl (aI ((tkF lc kn gk gs ge).2.2.2))))] ++ clW cl g) H := hP
  have hD : va_D A ([(yo, .inr (6, [.ref (ya 0), .int (iI 0), .ref (ya 1), .int (iI 0), .ref (ya 2), .int (iI 0), .int (iI (-1)), .int (iI (bI false)), .int (iI 0), .int (iI yfp), .ref (ya 3), .ref (ya 4)])), (ya 1, .inl (kA 0, 100, .inl (aI ys))), (ya 2, .inl (kA 6, 50, .inr (.inr (.inr (.inr (fun k => some (cl k))))))), ((ya 0), .inr (8, [.ref la, .int (iI kn), .ref ga, .ref gb, .ref gc, .int (iI ((tkF lc kn gk gs ge).1))])), (ga, .inl (kA 0, 100, .inl (aI ((tkF lc kn gk gs ge).2.1)))), (gb, .inl (kA 0, 100, .inl (aI ((tkF lc kn gk gs ge).2.2.1)))), (gc, .inl (kA 0, 100, .inl (aI ((tkF lc kn gk gs ge).2.2.2))))] ++ clW cl g) := hD
  refine lv_aload_n hx hb d_Y_read_39 rfl (lv_at hl 0 rfl) ?_
  refine li_callP (X := [(yo, .inr (6, [.ref (ya 0), .int (iI 0), .ref (ya 1), .int (iI 0), .ref (ya 2), .int (iI 0), .int (iI (-1)), .int (iI (bI false)), .int (iI 0), .int (iI yfp), .ref (ya 3), .ref (ya 4)])), (ya 1, .inl (kA 0, 100, .inl (aI ys))), (ya 2, .inl (kA 6, 50, .inr (.inr (.inr (.inr (fun k => some (cl k))))))), ((ya 0), .inr (8, [.ref la, .int (iI kn), .ref ga, .ref gb, .ref gc, .int (iI ((tkF lc kn gk gs ge).1))])), (ga, .inl (kA 0, 100, .inl (aI ((tkF lc kn gk gs ge).2.1)))), (gb, .inl (kA 0, 100, .inl (aI ((tkF lc kn gk gs ge).2.2.1)))), (gc, .inl (kA 0, 100, .inl (aI ((tkF lc kn gk gs ge).2.2.2))))]) (cx := [(yo, .inr (6, [.ref (ya 0), .int (iI 0), .ref (ya 1), .int (iI 0), .ref (ya 2), .int (iI 0), .int (iI (-1)), .int (iI (bI false)), .int (iI 0), .int (iI yfp), .ref (ya 3), .ref (ya 4)])), ((ya 0), .inr (8, [.ref la, .int (iI kn), .ref ga, .ref gb, .ref gc, .int (iI ((tkF lc kn gk gs ge).1))])), (ga, .inl (kA 0, 100, .inl (aI ((tkF lc kn gk gs ge).2.1)))), (gb, .inl (kA 0, 100, .inl (aI ((tkF lc kn gk gs ge).2.2.1)))), (gc, .inl (kA 0, 100, .inl (aI ((tkF lc kn gk gs ge).2.2.2)))), (ya 1, .inl (kA 0, 100, .inl (aI ys))), (ya 2, .inl (kA 6, 50, .inr (.inr (.inr (.inr (fun k => some (cl k)))))))]) (wr := []) (pl := clW cl g) (va_runV (As := []) (rest := []) ⟨hx, hb, hml, hown, hts⟩ (c_Y_readsQuery l dC dI kA H.size yo ya 0 0 0 (-1) 0 yfp false la nl lc kn ga gb gc ((tkF lc kn gk gs ge).1) ((tkF lc kn gk gs ge).2.1) ((tkF lc kn gk gs ge).2.2.1) ((tkF lc kn gk gs ge).2.2.2) ys cl g (by first | exact hp6 | exact hKR) (by first | omega | exact ⟨rfl, rfl, rfl⟩) (by omega)) (cw_Y_59 hts rfl rfl ⟨Nat.le_of_ble_eq_true rfl, Nat.le_of_ble_eq_true rfl⟩) (li_preV (va_recv hK hP (ci := 6) (q0 := 0) rfl rfl) ⟨rfl, li_sbP hP [0, 3, 4, 5, 6, 1, 2] rfl, (li_sbD hD [0, 3, 4, 5, 6, 1, 2] (by decide) rfl).weaken (fun _ _ _ h => hAN _ h), ((li_ro hRo hRoN hS).sub [0] rfl), (dj_cons (dj_rP (hRoN 0 _ rfl) hD [0, 3, 4, 5, 6, 1, 2] rfl) dj_nil)⟩ hK hN (hG.go hS hAN)) rfl rfl hl.1 rfl (lv_room (Nat.le_of_ble_eq_true rfl)) d_Y_read_40 ⟨(by show 0 + 0 ≤ 0; omega), (by show 0 + 0 ≤ 0; omega)⟩) hP hD hS hA [0, 3, 4, 5, 6, 1, 2] [] rfl rfl (by decide) (by decide) (fun u2 H locs hu2 hP hD hS => ?_)
  obtain ⟨v_q, s_q, d_q, t_q, p_q, n_q, z_q, c_q, r_q, g_q⟩ := u2
  have hP : va_P (dC, dI) CL ([(yo, .inr (6, [.ref (ya 0), .int (iI n_q), .ref (ya 1), .int (iI z_q), .ref (ya 2), .int (iI c_q), .int (iI s_q), .int (iI (bI d_q)), .int (iI t_q), .int (iI p_q), .ref (ya 3), .ref (ya 4)])), (ya 0, .inr (8, [.ref la, .int (iI kn), .ref ga, .ref gb, .ref gc, .int (iI ((tkF lc kn gk gs ge).1))])), (ga, .inl (kA 0, 100, .inl (aI ((tkF lc kn gk gs ge).2.1)))), (gb, .inl (kA 0, 100, .inl (aI ((tkF lc kn gk gs ge).2.2.1)))), (gc, .inl (kA 0, 100, .inl (aI ((tkF lc kn gk gs ge).2.2.2)))), (ya 1, .inl (kA 0, 100, .inl (aI r_q))), (ya 2, .inl (kA 6, 50, .inr (.inr (.inr (.inr (fun k => some (cl k)))))))] ++ clW cl g_q) H := hP
  have hD : va_D A ([(yo, .inr (6, [.ref (ya 0), .int (iI n_q), .ref (ya 1), .int (iI z_q), .ref (ya 2), .int (iI c_q), .int (iI s_q), .int (iI (bI d_q)), .int (iI t_q), .int (iI p_q), .ref (ya 3), .ref (ya 4)])), (ya 0, .inr (8, [.ref la, .int (iI kn), .ref ga, .ref gb, .ref gc, .int (iI ((tkF lc kn gk gs ge).1))])), (ga, .inl (kA 0, 100, .inl (aI ((tkF lc kn gk gs ge).2.1)))), (gb, .inl (kA 0, 100, .inl (aI ((tkF lc kn gk gs ge).2.2.1)))), (gc, .inl (kA 0, 100, .inl (aI ((tkF lc kn gk gs ge).2.2.2)))), (ya 1, .inl (kA 0, 100, .inl (aI r_q))), (ya 2, .inl (kA 6, 50, .inr (.inr (.inr (.inr (fun k => some (cl k)))))))] ++ clW cl g_q) := hD
  have hp40 : (v_q, s_q, d_q, t_q, p_q, n_q, z_q, c_q, r_q, g_q) = (rqM lc kn ((tkF lc kn gk gs ge).2.1) ((tkF lc kn gk gs ge).2.2.1) ((tkF lc kn gk gs ge).2.2.2) ((tkF lc kn gk gs ge).1) (-1) false (0, yfp, 0, 0, 0, ys, g)) ∧ 0 ≤ n_q ∧ n_q ≤ 1000 := hu2
  obtain ⟨hq40, hn40⟩ := hp40
  have hq41 : rdQ lc kn (tkF lc kn gk gs ge) yfp ys g = (v_q, s_q, d_q, t_q, p_q, n_q, z_q, c_q, r_q, g_q) := hq40.symm
  refine W.eq (g2 := F0 m 43 ls [.int (iI (bI v_q))]) rfl ?_
  refine li_bnz (tgt := 67) hx hb d_Y_read_43 (by decide) (fun c3 => ?_) (fun c3 => ?_)
  · have _q := c3
    have hv9 : v_q = true := by assumption
    refine lv_aload_n hx hb d_Y_read_67 rfl (lv_at hl 0 rfl) ?_
    refine gf_Y_56 hx hb hts hown hK hP 0 rfl rfl d_Y_read_68 ?_
    exact fin (s_q, d_q, t_q, p_q, n_q, z_q, c_q, r_q, g_q) _ _ _ _ _ (by rfl) (by show (s_q, d_q, t_q, p_q, n_q, z_q, c_q, r_q, g_q) = (rdM lc kn (tkF lc kn gk gs ge) yfp ys g).2 ∧ KR nl lc kn (tkF lc kn gk gs ge).1 (tkF lc kn gk gs ge).2.1 (tkF lc kn gk gs ge).2.2.1 (tkF lc kn gk gs ge).2.2.2; refine ⟨?_, hp6⟩; unfold rdM; rw [hq41]; dsimp only; first | (rw [if_pos hv9]; rw [hv9]; done) | (rw [if_pos hv9]; done) | (rw [if_neg (by rw [hv9]; decide), ← ep_w]; done) | (rw [if_neg (by rw [hv9]; decide)]; rfl)) (by first | exact hP | (subst_vars; exact hP)) (by first | exact hD | (subst_vars; exact hD)) hS d_Y_read_71
  · have _q := c3
    have hv9 : v_q = false := by assumption
    refine lv_aload_n hx hb d_Y_read_46 rfl (lv_at hl 0 rfl) ?_
    refine lv_bipush (v := iI (-2)) hx hb d_Y_read_47 (by decide) ?_
    refine pf_Y_56 hx hb hts hown hK hP hD hS 0 rfl (Nat.le_of_ble_eq_true rfl) d_Y_read_49 (fun H locs hP hD hS => ?_)
    have hP : va_P (dC, dI) CL ([(yo, .inr (6, [.ref (ya 0), .int (iI n_q), .ref (ya 1), .int (iI z_q), .ref (ya 2), .int (iI c_q), .int (iI s_q), .int (iI (bI d_q)), .int (iI (-2)), .int (iI p_q), .ref (ya 3), .ref (ya 4)])), (ya 0, .inr (8, [.ref la, .int (iI kn), .ref ga, .ref gb, .ref gc, .int (iI ((tkF lc kn gk gs ge).1))])), (ga, .inl (kA 0, 100, .inl (aI ((tkF lc kn gk gs ge).2.1)))), (gb, .inl (kA 0, 100, .inl (aI ((tkF lc kn gk gs ge).2.2.1)))), (gc, .inl (kA 0, 100, .inl (aI ((tkF lc kn gk gs ge).2.2.2)))), (ya 1, .inl (kA 0, 100, .inl (aI r_q))), (ya 2, .inl (kA 6, 50, .inr (.inr (.inr (.inr (fun k => some (cl k)))))))] ++ clW cl g_q) H := hP
    have hD : va_D A ([(yo, .inr (6, [.ref (ya 0), .int (iI n_q), .ref (ya 1), .int (iI z_q), .ref (ya 2), .int (iI c_q), .int (iI s_q), .int (iI (bI d_q)), .int (iI (-2)), .int (iI p_q), .ref (ya 3), .ref (ya 4)])), (ya 0, .inr (8, [.ref la, .int (iI kn), .ref ga, .ref gb, .ref gc, .int (iI ((tkF lc kn gk gs ge).1))])), (ga, .inl (kA 0, 100, .inl (aI ((tkF lc kn gk gs ge).2.1)))), (gb, .inl (kA 0, 100, .inl (aI ((tkF lc kn gk gs ge).2.2.1)))), (gc, .inl (kA 0, 100, .inl (aI ((tkF lc kn gk gs ge).2.2.2)))), (ya 1, .inl (kA 0, 100, .inl (aI r_q))), (ya 2, .inl (kA 6, 50, .inr (.inr (.inr (.inr (fun k => some (cl k)))))))] ++ clW cl g_q) := hD
    refine lv_aload_n hx hb d_Y_read_52 rfl (lv_at hl 0 rfl) ?_
    refine lv_aload_n hx hb d_Y_read_53 rfl (lv_at hl 0 rfl) ?_
    refine gf_Y_12 hx hb hts hown hK hP 0 rfl rfl d_Y_read_54 ?_
    refine lv_aload_n hx hb d_Y_read_57 rfl (lv_at hl 0 rfl) ?_
    refine gf_Y_39 hx hb hts hown hK hP 0 rfl rfl d_Y_read_58 ?_
    refine li_callr ((va_runV (As := [.int (iI n_q)]) (rest := [.ref yo]) ⟨hx, hb, hml, hown, hts⟩ (c_K_startAt l dC dI kA (ya 0) la nl lc kn ga gb gc ((tkF lc kn gk gs ge).1) ((tkF lc kn gk gs ge).2.1) ((tkF lc kn gk gs ge).2.2.1) ((tkF lc kn gk gs ge).2.2.2) n_q (by first | exact hp6 | exact hKR) (by omega)) (cw_Y_63 hts rfl rfl ⟨Nat.le_of_ble_eq_true rfl, Nat.le_of_ble_eq_true rfl⟩) (li_preV (va_recv hK hP (ci := 8) (q0 := 1) rfl rfl) (va_P.app (hP.sub [1] rfl) (va_P.app (hP.sub [2] rfl) (va_P.app (hP.sub [3] rfl) (va_P.app (hP.sub [4] rfl) ((li_ro hRo hRoN hS).sub [0] rfl))))) hK hN (hG.go hS hAN)) rfl rfl hl.1 rfl (lv_room (Nat.le_of_ble_eq_true rfl)) d_Y_read_61 ⟨(by show 0 + 0 ≤ 0; omega), (by show 0 + 0 ≤ 0; omega)⟩).run) ?_
    refine li_nm (fun p_w ep_w => ?_)
    refine pf_Y_67 hx hb hts hown hK hP hD hS 0 rfl (Nat.le_of_ble_eq_true rfl) d_Y_read_64 (fun H locs hP hD hS => ?_)
    have hP : va_P (dC, dI) CL ([(yo, .inr (6, [.ref (ya 0), .int (iI n_q), .ref (ya 1), .int (iI z_q), .ref (ya 2), .int (iI c_q), .int (iI s_q), .int (iI (bI d_q)), .int (iI (-2)), .int (iI p_w), .ref (ya 3), .ref (ya 4)])), (ya 0, .inr (8, [.ref la, .int (iI kn), .ref ga, .ref gb, .ref gc, .int (iI ((tkF lc kn gk gs ge).1))])), (ga, .inl (kA 0, 100, .inl (aI ((tkF lc kn gk gs ge).2.1)))), (gb, .inl (kA 0, 100, .inl (aI ((tkF lc kn gk gs ge).2.2.1)))), (gc, .inl (kA 0, 100, .inl (aI ((tkF lc kn gk gs ge).2.2.2)))), (ya 1, .inl (kA 0, 100, .inl (aI r_q))), (ya 2, .inl (kA 6, 50, .inr (.inr (.inr (.inr (fun k => some (cl k)))))))] ++ clW cl g_q) H := hP
    have hD : va_D A ([(yo, .inr (6, [.ref (ya 0), .int (iI n_q), .ref (ya 1), .int (iI z_q), .ref (ya 2), .int (iI c_q), .int (iI s_q), .int (iI (bI d_q)), .int (iI (-2)), .int (iI p_w), .ref (ya 3), .ref (ya 4)])), (ya 0, .inr (8, [.ref la, .int (iI kn), .ref ga, .ref gb, .ref gc, .int (iI ((tkF lc kn gk gs ge).1))])), (ga, .inl (kA 0, 100, .inl (aI ((tkF lc kn gk gs ge).2.1)))), (gb, .inl (kA 0, 100, .inl (aI ((tkF lc kn gk gs ge).2.2.1)))), (gc, .inl (kA 0, 100, .inl (aI ((tkF lc kn gk gs ge).2.2.2)))), (ya 1, .inl (kA 0, 100, .inl (aI r_q))), (ya 2, .inl (kA 6, 50, .inr (.inr (.inr (.inr (fun k => some (cl k)))))))] ++ clW cl g_q) := hD
    refine lv_aload_n hx hb d_Y_read_67 rfl (lv_at hl 0 rfl) ?_
    refine gf_Y_56 hx hb hts hown hK hP 0 rfl rfl d_Y_read_68 ?_
    exact fin (s_q, d_q, (-2), p_w, n_q, z_q, c_q, r_q, g_q) _ _ _ _ _ (by rfl) (by show (s_q, d_q, (-2), p_w, n_q, z_q, c_q, r_q, g_q) = (rdM lc kn (tkF lc kn gk gs ge) yfp ys g).2 ∧ KR nl lc kn (tkF lc kn gk gs ge).1 (tkF lc kn gk gs ge).2.1 (tkF lc kn gk gs ge).2.2.1 (tkF lc kn gk gs ge).2.2.2; refine ⟨?_, hp6⟩; unfold rdM; rw [hq41]; dsimp only; first | (rw [if_pos hv9]; rw [hv9]; done) | (rw [if_pos hv9]; done) | (rw [if_neg (by rw [hv9]; decide), ← ep_w]; done) | (rw [if_neg (by rw [hv9]; decide)]; rfl)) (by first | exact hP | (subst_vars; exact hP)) (by first | exact hD | (subst_vars; exact hD)) hS d_Y_read_71
theorem d_Y_joinedAnswer_0 : decode b_Y_joinedAnswer 0 = .ok (.iconst 0, 1) := by decide +kernel
theorem d_Y_joinedAnswer_1 : decode b_Y_joinedAnswer 1 = .ok (.istore_n 1, 1) := by decide +kernel
theorem d_Y_joinedAnswer_2 : decode b_Y_joinedAnswer 2 = .ok (.iconst 0, 1) := by decide +kernel
theorem d_Y_joinedAnswer_3 : decode b_Y_joinedAnswer 3 = .ok (.istore_n 2, 1) := by decide +kernel
theorem d_Y_joinedAnswer_4 : decode b_Y_joinedAnswer 4 = .ok (.aload_n 0, 1) := by decide +kernel
theorem d_Y_joinedAnswer_5 : decode b_Y_joinedAnswer 5 = .ok (.iload_n 1, 1) := by decide +kernel
theorem d_Y_joinedAnswer_6 : decode b_Y_joinedAnswer 6 = .ok (.iconst 0, 1) := by decide +kernel
theorem d_Y_joinedAnswer_7 : decode b_Y_joinedAnswer 7 = .ok (.bipush 12, 2) := by decide +kernel
theorem d_Y_joinedAnswer_9 : decode b_Y_joinedAnswer 9 = .ok (.invokevirtual 122, 3) := by decide +kernel
theorem d_Y_joinedAnswer_12 : decode b_Y_joinedAnswer 12 = .ok (.iconst 0, 1) := by decide +kernel
theorem d_Y_joinedAnswer_13 : decode b_Y_joinedAnswer 13 = .ok (.istore_n 3, 1) := by decide +kernel
theorem d_Y_joinedAnswer_14 : decode b_Y_joinedAnswer 14 = .ok (.iload_n 3, 1) := by decide +kernel
theorem d_Y_joinedAnswer_15 : decode b_Y_joinedAnswer 15 = .ok (.aload_n 0, 1) := by decide +kernel
theorem d_Y_joinedAnswer_16 : decode b_Y_joinedAnswer 16 = .ok (.getfield 43, 3) := by decide +kernel
theorem d_Y_joinedAnswer_19 : decode b_Y_joinedAnswer 19 = .ok (.if_icmp .ge 122, 3) := by decide +kernel
theorem d_Y_joinedAnswer_22 : decode b_Y_joinedAnswer 22 = .ok (.iload_n 3, 1) := by decide +kernel
theorem d_Y_joinedAnswer_23 : decode b_Y_joinedAnswer 23 = .ok (.aload_n 0, 1) := by decide +kernel
theorem d_Y_joinedAnswer_24 : decode b_Y_joinedAnswer 24 = .ok (.getfield 18, 3) := by decide +kernel
theorem d_Y_joinedAnswer_27 : decode b_Y_joinedAnswer 27 = .ok (.arraylength, 1) := by decide +kernel
theorem d_Y_joinedAnswer_28 : decode b_Y_joinedAnswer 28 = .ok (.if_icmp .ge 113, 3) := by decide +kernel
theorem d_Y_joinedAnswer_31 : decode b_Y_joinedAnswer 31 = .ok (.aload_n 0, 1) := by decide +kernel
theorem d_Y_joinedAnswer_32 : decode b_Y_joinedAnswer 32 = .ok (.getfield 18, 3) := by decide +kernel
theorem d_Y_joinedAnswer_35 : decode b_Y_joinedAnswer 35 = .ok (.iload_n 3, 1) := by decide +kernel
theorem d_Y_joinedAnswer_36 : decode b_Y_joinedAnswer 36 = .ok (.iaload, 1) := by decide +kernel
theorem d_Y_joinedAnswer_37 : decode b_Y_joinedAnswer 37 = .ok (.istore 4, 2) := by decide +kernel
theorem d_Y_joinedAnswer_39 : decode b_Y_joinedAnswer 39 = .ok (.iload 4, 2) := by decide +kernel
theorem d_Y_joinedAnswer_41 : decode b_Y_joinedAnswer 41 = .ok (.bipush 9, 2) := by decide +kernel
theorem d_Y_joinedAnswer_43 : decode b_Y_joinedAnswer 43 = .ok (.if_icmp .ne 17, 3) := by decide +kernel
theorem d_Y_joinedAnswer_46 : decode b_Y_joinedAnswer 46 = .ok (.iinc 1 1, 3) := by decide +kernel
theorem d_Y_joinedAnswer_49 : decode b_Y_joinedAnswer 49 = .ok (.aload_n 0, 1) := by decide +kernel
theorem d_Y_joinedAnswer_50 : decode b_Y_joinedAnswer 50 = .ok (.iload_n 1, 1) := by decide +kernel
theorem d_Y_joinedAnswer_51 : decode b_Y_joinedAnswer 51 = .ok (.iconst 0, 1) := by decide +kernel
theorem d_Y_joinedAnswer_52 : decode b_Y_joinedAnswer 52 = .ok (.bipush 12, 2) := by decide +kernel
theorem d_Y_joinedAnswer_54 : decode b_Y_joinedAnswer 54 = .ok (.invokevirtual 122, 3) := by decide +kernel
theorem d_Y_joinedAnswer_57 : decode b_Y_joinedAnswer 57 = .ok (.goto 78, 3) := by decide +kernel
theorem d_Y_joinedAnswer_60 : decode b_Y_joinedAnswer 60 = .ok (.iload 4, 2) := by decide +kernel
theorem d_Y_joinedAnswer_62 : decode b_Y_joinedAnswer 62 = .ok (.bipush 10, 2) := by decide +kernel
theorem d_Y_joinedAnswer_64 : decode b_Y_joinedAnswer 64 = .ok (.if_icmp .ne 21, 3) := by decide +kernel
theorem d_Y_joinedAnswer_67 : decode b_Y_joinedAnswer 67 = .ok (.iinc 1 (-1), 3) := by decide +kernel
theorem d_Y_joinedAnswer_70 : decode b_Y_joinedAnswer 70 = .ok (.aload_n 0, 1) := by decide +kernel
theorem d_Y_joinedAnswer_71 : decode b_Y_joinedAnswer 71 = .ok (.iload_n 1, 1) := by decide +kernel
theorem d_Y_joinedAnswer_72 : decode b_Y_joinedAnswer 72 = .ok (.aload_n 0, 1) := by decide +kernel
theorem d_Y_joinedAnswer_73 : decode b_Y_joinedAnswer 73 = .ok (.iload_n 1, 1) := by decide +kernel
theorem d_Y_joinedAnswer_74 : decode b_Y_joinedAnswer 74 = .ok (.iconst 1, 1) := by decide +kernel
theorem d_Y_joinedAnswer_75 : decode b_Y_joinedAnswer 75 = .ok (.iadd, 1) := by decide +kernel
theorem d_Y_joinedAnswer_76 : decode b_Y_joinedAnswer 76 = .ok (.invokevirtual 126, 3) := by decide +kernel
theorem d_Y_joinedAnswer_79 : decode b_Y_joinedAnswer 79 = .ok (.invokevirtual 129, 3) := by decide +kernel
theorem d_Y_joinedAnswer_82 : decode b_Y_joinedAnswer 82 = .ok (.goto 53, 3) := by decide +kernel
theorem d_Y_joinedAnswer_85 : decode b_Y_joinedAnswer 85 = .ok (.iload 4, 2) := by decide +kernel
theorem d_Y_joinedAnswer_87 : decode b_Y_joinedAnswer 87 = .ok (.ifCond .ne 36, 3) := by decide +kernel
theorem d_Y_joinedAnswer_90 : decode b_Y_joinedAnswer 90 = .ok (.aload_n 0, 1) := by decide +kernel
theorem d_Y_joinedAnswer_91 : decode b_Y_joinedAnswer 91 = .ok (.iload_n 1, 1) := by decide +kernel
theorem d_Y_joinedAnswer_92 : decode b_Y_joinedAnswer 92 = .ok (.iload_n 2, 1) := by decide +kernel
theorem d_Y_joinedAnswer_93 : decode b_Y_joinedAnswer 93 = .ok (.aload_n 0, 1) := by decide +kernel
theorem d_Y_joinedAnswer_94 : decode b_Y_joinedAnswer 94 = .ok (.getfield 24, 3) := by decide +kernel
theorem d_Y_joinedAnswer_97 : decode b_Y_joinedAnswer 97 = .ok (.arraylength, 1) := by decide +kernel
theorem d_Y_joinedAnswer_98 : decode b_Y_joinedAnswer 98 = .ok (.if_icmp .ge 15, 3) := by decide +kernel
theorem d_Y_joinedAnswer_101 : decode b_Y_joinedAnswer 101 = .ok (.aload_n 0, 1) := by decide +kernel
theorem d_Y_joinedAnswer_102 : decode b_Y_joinedAnswer 102 = .ok (.getfield 24, 3) := by decide +kernel
theorem d_Y_joinedAnswer_105 : decode b_Y_joinedAnswer 105 = .ok (.iload_n 2, 1) := by decide +kernel
theorem d_Y_joinedAnswer_106 : decode b_Y_joinedAnswer 106 = .ok (.aaload, 1) := by decide +kernel
theorem d_Y_joinedAnswer_107 : decode b_Y_joinedAnswer 107 = .ok (.getfield 133, 3) := by decide +kernel
theorem d_Y_joinedAnswer_110 : decode b_Y_joinedAnswer 110 = .ok (.goto 4, 3) := by decide +kernel
theorem d_Y_joinedAnswer_113 : decode b_Y_joinedAnswer 113 = .ok (.iconst 0, 1) := by decide +kernel
theorem d_Y_joinedAnswer_114 : decode b_Y_joinedAnswer 114 = .ok (.invokevirtual 129, 3) := by decide +kernel
theorem d_Y_joinedAnswer_117 : decode b_Y_joinedAnswer 117 = .ok (.iinc 2 1, 3) := by decide +kernel
theorem d_Y_joinedAnswer_120 : decode b_Y_joinedAnswer 120 = .ok (.goto 15, 3) := by decide +kernel
theorem d_Y_joinedAnswer_123 : decode b_Y_joinedAnswer 123 = .ok (.aload_n 0, 1) := by decide +kernel
theorem d_Y_joinedAnswer_124 : decode b_Y_joinedAnswer 124 = .ok (.iload_n 1, 1) := by decide +kernel
theorem d_Y_joinedAnswer_125 : decode b_Y_joinedAnswer 125 = .ok (.aload_n 0, 1) := by decide +kernel
theorem d_Y_joinedAnswer_126 : decode b_Y_joinedAnswer 126 = .ok (.iload_n 1, 1) := by decide +kernel
theorem d_Y_joinedAnswer_127 : decode b_Y_joinedAnswer 127 = .ok (.invokevirtual 126, 3) := by decide +kernel
theorem d_Y_joinedAnswer_130 : decode b_Y_joinedAnswer 130 = .ok (.iload 4, 2) := by decide +kernel
theorem d_Y_joinedAnswer_132 : decode b_Y_joinedAnswer 132 = .ok (.invokevirtual 122, 3) := by decide +kernel
theorem d_Y_joinedAnswer_135 : decode b_Y_joinedAnswer 135 = .ok (.iinc 3 1, 3) := by decide +kernel
theorem d_Y_joinedAnswer_138 : decode b_Y_joinedAnswer 138 = .ok (.goto (-124), 3) := by decide +kernel
theorem d_Y_joinedAnswer_141 : decode b_Y_joinedAnswer 141 = .ok (.aload_n 0, 1) := by decide +kernel
theorem d_Y_joinedAnswer_142 : decode b_Y_joinedAnswer 142 = .ok (.iconst 0, 1) := by decide +kernel
theorem d_Y_joinedAnswer_143 : decode b_Y_joinedAnswer 143 = .ok (.invokevirtual 126, 3) := by decide +kernel
theorem d_Y_joinedAnswer_146 : decode b_Y_joinedAnswer 146 = .ok (.ireturn, 1) := by decide +kernel
set_option maxHeartbeats 4000000 in
set_option maxRecDepth 100000 in
theorem c_Y_joinedAnswer (l : Launch) (dC : Nat → ClassId) (dI : Nat → Nat → Nat) (kA : Nat → ClassId) (sz : Nat) (yo : Nat) (ya : Nat → Nat) (yn : Int) (ysc : Int) (ycc : Int) (ysi : Int) (yft : Int) (yfp : Int) (ydn : Bool) (ys : Nat → Int) (yr : Nat → Int) (yj : Nat → Int) (cl : Nat → Nat) (g : Nat → CEt) (hJ : JOK ys ysc) (hyj : ∀ j, 0 ≤ yj j ∧ yj j ≤ 20) : Met l y_Y_joinedAnswer (wsy y_Y_joinedAnswer b_Y_joinedAnswer 5 (some .int)) (rmd 1 0 0) (li_Pr (dC, dI) CL (TY kA) [.ref yo] (fun h => h.size = sz ∧ va_P (dC, dI) CL ([(yo, .inr (6, [.ref (ya 0), .int (iI yn), .ref (ya 1), .int (iI ysc), .ref (ya 2), .int (iI ycc), .int (iI ysi), .int (iI (bI ydn)), .int (iI yft), .int (iI yfp), .ref (ya 3), .ref (ya 4)])), (ya 1, .inl (kA 0, 100, .inl (aI ys))), (ya 2, .inl (kA 6, 50, .inr (.inr (.inr (.inr (fun k => some (cl k))))))), (ya 3, .inl (kA 0, 7, .inl (aI yr))), (ya 4, .inl (kA 0, 7, .inl (aI yj)))] ++ clW cl g) h ∧ va_D (fun q => dI 100 0 ≤ q) ([(yo, .inr (6, [.ref (ya 0), .int (iI yn), .ref (ya 1), .int (iI ysc), .ref (ya 2), .int (iI ycc), .int (iI ysi), .int (iI (bI ydn)), .int (iI yft), .int (iI yfp), .ref (ya 3), .ref (ya 4)])), (ya 1, .inl (kA 0, 100, .inl (aI ys))), (ya 2, .inl (kA 6, 50, .inr (.inr (.inr (.inr (fun k => some (cl k))))))), (ya 3, .inl (kA 0, 7, .inl (aI yr))), (ya 4, .inl (kA 0, 7, .inl (aI yj)))] ++ clW cl g) ∧ (fun _ => True) h)) (li_Qw (S := (Nat → Int) × (Nat → Int)) (dC, dI) CL (fun u => u.1 = (jaM ys g ysc yr yj).2.2.1 ∧ u.2 = (jaM ys g ysc yr yj).2.2.2 ∧ ∀ j, 0 ≤ u.2 j ∧ u.2 j ≤ 20) (fun u => some (.int (iI (u.1 0)))) (fun u => ([(yo, .inr (6, [.ref (ya 0), .int (iI yn), .ref (ya 1), .int (iI ysc), .ref (ya 2), .int (iI ycc), .int (iI ysi), .int (iI (bI ydn)), .int (iI yft), .int (iI yfp), .ref (ya 3), .ref (ya 4)])), (ya 1, .inl (kA 0, 100, .inl (aI ys))), (ya 2, .inl (kA 6, 50, .inr (.inr (.inr (.inr (fun k => some (cl k))))))), (ya 3, .inl (kA 0, 7, .inl (aI u.1))), (ya 4, .inl (kA 0, 7, .inl (aI u.2)))] ++ clW cl g)) (va_A ([(yo, .inr (6, [.ref (ya 0), .int (iI yn), .ref (ya 1), .int (iI ysc), .ref (ya 2), .int (iI ycc), .int (iI ysi), .int (iI (bI ydn)), .int (iI yft), .int (iI yfp), .ref (ya 3), .ref (ya 4)])), (ya 1, .inl (kA 0, 100, .inl (aI ys))), (ya 2, .inl (kA 6, 50, .inr (.inr (.inr (.inr (fun k => some (cl k))))))), (ya 3, .inl (kA 0, 7, .inl (aI yr))), (ya 4, .inl (kA 0, 7, .inl (aI yj)))] ++ clW cl g) sz)) 0 0 (va_A ([(yo, .inr (6, [.ref (ya 0), .int (iI yn), .ref (ya 1), .int (iI ysc), .ref (ya 2), .int (iI ycc), .int (iI ysi), .int (iI (bI ydn)), .int (iI yft), .int (iI yfp), .ref (ya 3), .ref (ya 4)])), (ya 1, .inl (kA 0, 100, .inl (aI ys))), (ya 2, .inl (kA 6, 50, .inr (.inr (.inr (.inr (fun k => some (cl k))))))), (ya 3, .inl (kA 0, 7, .inl (aI yr))), (ya 4, .inl (kA 0, 7, .inl (aI yj)))] ++ clW cl g) sz) := by
  refine li_mwi (r := fun (u : (Nat → Int) × (Nat → Int)) => u.1 0) (by decide) (Nat.le_of_ble_eq_true rfl) (fun u _ => by rfl) ?_
  intro p e s m args below meth c Q A C hP hD hBx hK hN hG hA hAi hAN fin ls hl
  obtain ⟨hx, hb, hr, hml, hown, hts, hlocks, hin⟩ := C
  have hown : s.vm.findClass R_Y = some m.cls := hown
  have hl : lv_has ls 5 [(0, .ref yo)] := hl
  obtain ⟨hz0, hop, hsv⟩ := id hJ
  suffices h9 : ∀ (H : Heap) (locs : List Loc), H = s.heap → locs = [] → W p l e (rmd 1 0 0) s m args below meth c H locs 0 0 Q (F0 m 0 ls []) from h9 _ _ rfl rfl
  intro H locs eH eL
  have hP : va_P (dC, dI) CL ([(yo, .inr (6, [.ref (ya 0), .int (iI yn), .ref (ya 1), .int (iI ysc), .ref (ya 2), .int (iI ycc), .int (iI ysi), .int (iI (bI ydn)), .int (iI yft), .int (iI yfp), .ref (ya 3), .ref (ya 4)])), (ya 1, .inl (kA 0, 100, .inl (aI ys))), (ya 2, .inl (kA 6, 50, .inr (.inr (.inr (.inr (fun k => some (cl k))))))), (ya 3, .inl (kA 0, 7, .inl (aI yr))), (ya 4, .inl (kA 0, 7, .inl (aI yj)))] ++ clW cl g) H := by rw [eH]; exact hP
  have hS : va_S A s.heap H locs := by rw [eH, eL]; exact va_S.rf
  refine lv_iconst (v := iI 0) hx hb d_Y_joinedAnswer_0 rfl ?_
  refine lv_istore_n (lv' := [(1, .int (iI 0)), (0, .ref yo)]) hx hb d_Y_joinedAnswer_1 rfl hl (by decide) rfl (fun ls hl => ?_)
  refine lv_iconst (v := iI 0) hx hb d_Y_joinedAnswer_2 rfl ?_
  refine lv_istore_n (lv' := [(2, .int (iI 0)), (1, .int (iI 0)), (0, .ref yo)]) hx hb d_Y_joinedAnswer_3 rfl hl (by decide) rfl (fun ls hl => ?_)
  refine lv_aload_n hx hb d_Y_joinedAnswer_4 rfl (lv_at hl 2 rfl) ?_
  refine lv_iload_n hx hb d_Y_joinedAnswer_5 rfl (lv_at hl 1 rfl) ?_
  refine lv_iconst (v := iI 0) hx hb d_Y_joinedAnswer_6 rfl ?_
  refine lv_bipush (v := iI 12) hx hb d_Y_joinedAnswer_7 (by decide) ?_
  refine li_callQ (X := [(yo, .inr (6, [.ref (ya 0), .int (iI yn), .ref (ya 1), .int (iI ysc), .ref (ya 2), .int (iI ycc), .int (iI ysi), .int (iI (bI ydn)), .int (iI yft), .int (iI yfp), .ref (ya 3), .ref (ya 4)])), (ya 1, .inl (kA 0, 100, .inl (aI ys))), (ya 2, .inl (kA 6, 50, .inr (.inr (.inr (.inr (fun k => some (cl k))))))), (ya 3, .inl (kA 0, 7, .inl (aI yr))), (ya 4, .inl (kA 0, 7, .inl (aI yj)))]) (cx := [(yo, .inr (6, [.ref (ya 0), .int (iI yn), .ref (ya 1), .int (iI ysc), .ref (ya 2), .int (iI ycc), .int (iI ysi), .int (iI (bI ydn)), .int (iI yft), .int (iI yfp), .ref (ya 3), .ref (ya 4)])), (ya 3, .inl (kA 0, 7, .inl (aI yr))), (ya 4, .inl (kA 0, 7, .inl (aI yj)))]) (wr := [(ya 1, .inl (kA 0, 100, .inl (aI ys))), (ya 2, .inl (kA 6, 50, .inr (.inr (.inr (.inr (fun k => some (cl k)))))))]) (pl := clW cl g) (va_runV (As := [.int (iI 0), .int (iI 0), .int (iI 12)]) (rest := []) ⟨hx, hb, hml, hown, hts⟩ (c_Y_hold l dC dI kA H.size yo ya yn ysc ycc ysi yft yfp ydn yr yj 0 0 12 (by omega)) (cw_Y_122 hts rfl rfl ⟨Nat.le_of_ble_eq_true rfl, Nat.le_of_ble_eq_true rfl⟩) (li_preV (va_recv hK hP (ci := 6) (q0 := 0) rfl rfl) ⟨rfl, hP.sub [0, 3, 4] rfl, (hD.sub [0, 3, 4] (by decide) rfl).weaken (fun _ _ _ h => hAN _ h), trivial⟩ hK hN (hG.go hS hAN)) rfl rfl hl.1 rfl (lv_room (Nat.le_of_ble_eq_true rfl)) d_Y_joinedAnswer_9 ⟨(by show 0 + 0 ≤ 0; omega), (by show 0 + 0 ≤ 0; omega)⟩) hP hD hS hA [0, 3, 4] [1, 2] rfl rfl (by decide) (by decide) (fun u1 H locs hu1 hP hD hS => ?_)
  have hP : va_P (dC, dI) CL ([(ya 1, .inl (kA 0, 100, .inl (aI ys))), (ya 2, .inl (kA 6, 50, .inr (.inr (.inr (.inr (fun k => some (cl k))))))), (yo, .inr (6, [.ref (ya 0), .int (iI yn), .ref (ya 1), .int (iI ysc), .ref (ya 2), .int (iI ycc), .int (iI ysi), .int (iI (bI ydn)), .int (iI yft), .int (iI yfp), .ref (ya 3), .ref (ya 4)])), (ya 3, .inl (kA 0, 7, .inl (aI (va_up yr (0 : Int).toNat 0)))), (ya 4, .inl (kA 0, 7, .inl (aI (va_up yj (0 : Int).toNat 12))))] ++ clW cl g) H := hP
  have hD : va_D A ([(ya 1, .inl (kA 0, 100, .inl (aI ys))), (ya 2, .inl (kA 6, 50, .inr (.inr (.inr (.inr (fun k => some (cl k))))))), (yo, .inr (6, [.ref (ya 0), .int (iI yn), .ref (ya 1), .int (iI ysc), .ref (ya 2), .int (iI ycc), .int (iI ysi), .int (iI (bI ydn)), .int (iI yft), .int (iI yfp), .ref (ya 3), .ref (ya 4)])), (ya 3, .inl (kA 0, 7, .inl (aI (va_up yr (0 : Int).toNat 0)))), (ya 4, .inl (kA 0, 7, .inl (aI (va_up yj (0 : Int).toNat 12))))] ++ clW cl g) := hD
  refine lv_iconst (v := iI 0) hx hb d_Y_joinedAnswer_12 rfl ?_
  refine lv_istore_n (lv' := [(3, .int (iI 0)), (2, .int (iI 0)), (1, .int (iI 0)), (0, .ref yo)]) hx hb d_Y_joinedAnswer_13 rfl hl (by decide) rfl (fun ls hl => ?_)
  have K_14 : ∀ (nn_14 : Nat) (o : Int) (nx : Int) (sn : Int) (vr : Nat → Int) (vj : Nat → Int), (0 ≤ sn ∧ sn ≤ ysc ∧ 0 ≤ nx ∧ nx ≤ sn) → (o = opN ys sn.toNat) → (∀ j, 0 ≤ vj j ∧ vj j ≤ 20) → (jaL ys g (ysc - sn).toNat sn (o, nx, vr, vj) = jaM ys g ysc yr yj) → ((ysc - sn).toNat < nn_14) → ∀ (H : Heap) (locs : List Loc), va_P (dC, dI) CL ([(yo, .inr (6, [.ref (ya 0), .int (iI yn), .ref (ya 1), .int (iI ysc), .ref (ya 2), .int (iI ycc), .int (iI ysi), .int (iI (bI ydn)), .int (iI yft), .int (iI yfp), .ref (ya 3), .ref (ya 4)])), (ya 1, .inl (kA 0, 100, .inl (aI ys))), (ya 2, .inl (kA 6, 50, .inr (.inr (.inr (.inr (fun k => some (cl k))))))), (ya 3, .inl (kA 0, 7, .inl (aI vr))), (ya 4, .inl (kA 0, 7, .inl (aI vj)))] ++ clW cl g) H → va_D A ([(yo, .inr (6, [.ref (ya 0), .int (iI yn), .ref (ya 1), .int (iI ysc), .ref (ya 2), .int (iI ycc), .int (iI ysi), .int (iI (bI ydn)), .int (iI yft), .int (iI yfp), .ref (ya 3), .ref (ya 4)])), (ya 1, .inl (kA 0, 100, .inl (aI ys))), (ya 2, .inl (kA 6, 50, .inr (.inr (.inr (.inr (fun k => some (cl k))))))), (ya 3, .inl (kA 0, 7, .inl (aI vr))), (ya 4, .inl (kA 0, 7, .inl (aI vj)))] ++ clW cl g) → va_S A s.heap H locs → ∀ ls : Array Slot, lv_has ls 5 [(3, .int (iI sn)), (2, .int (iI nx)), (1, .int (iI o)), (0, .ref yo)] → W p l e (rmd 1 0 0) s m args below meth c H locs 0 0 Q (F0 m 14 ls []) := by
    intro nn_14
    induction nn_14 with
    | zero => intro o nx sn vr vj hs ho hvj hres hm; exact absurd hm (Nat.not_lt_zero _)
    | succ nn_14 ih_14 =>
      intro o nx sn vr vj hs ho hvj hres hm_14 H locs hP hD hS ls hl
      have ho6 := hop sn.toNat (by omega)
      refine lv_iload_n hx hb d_Y_joinedAnswer_14 rfl (lv_at hl 0 rfl) ?_
      refine lv_aload_n hx hb d_Y_joinedAnswer_15 rfl (lv_at hl 3 rfl) ?_
      refine gf_Y_43 hx hb hts hown hK hP 0 rfl rfl d_Y_joinedAnswer_16 ?_
      refine li_icmp_ge (tgt := 141) hx hb d_Y_joinedAnswer_19 (by decide) (by omega) (by omega) (fun c2 => ?_) (fun c2 => ?_)
      · have _q := c2
        rw [show (ysc - sn).toNat = 0 by omega] at hres
        simp only [jaL] at hres
        refine lv_aload_n hx hb d_Y_joinedAnswer_141 rfl (lv_at hl 3 rfl) ?_
        refine lv_iconst (v := iI 0) hx hb d_Y_joinedAnswer_142 rfl ?_
        refine li_callr ((va_runV (As := [.int (iI 0)]) (rest := []) ⟨hx, hb, hml, hown, hts⟩ (c_Y_heldAt l dC dI kA yo ya yn ysc ycc ysi yft yfp ydn vr 0 (by omega)) (cw_Y_126 hts rfl rfl ⟨Nat.le_of_ble_eq_true rfl, Nat.le_of_ble_eq_true rfl⟩) (li_preV (va_recv hK hP (ci := 6) (q0 := 0) rfl rfl) (hP.sub [0, 3] rfl) hK hN (hG.go hS hAN)) rfl rfl hl.1 rfl (lv_room (Nat.le_of_ble_eq_true rfl)) d_Y_joinedAnswer_143 ⟨(by show 0 + 0 ≤ 0; omega), (by show 0 + 0 ≤ 0; omega)⟩).run) ?_
        exact fin (vr, vj) _ _ _ _ _ (by rfl) (by show vr = (jaM ys g ysc yr yj).2.2.1 ∧ vj = (jaM ys g ysc yr yj).2.2.2 ∧ ∀ j, 0 ≤ vj j ∧ vj j ≤ 20; rw [← hres]; exact ⟨rfl, rfl, hvj⟩) (by first | exact hP | (subst_vars; exact hP)) (by first | exact hD | (subst_vars; exact hD)) hS d_Y_joinedAnswer_146
      · have _q := c2
        refine lv_iload_n hx hb d_Y_joinedAnswer_22 rfl (lv_at hl 0 rfl) ?_
        refine lv_aload_n hx hb d_Y_joinedAnswer_23 rfl (lv_at hl 3 rfl) ?_
        refine gf_Y_18 hx hb hts hown hK hP 0 rfl rfl d_Y_joinedAnswer_24 ?_
        refine li_alen hx hb hK hP 1 0 rfl rfl d_Y_joinedAnswer_27 ?_
        refine li_icmp_ge (tgt := 141) hx hb d_Y_joinedAnswer_28 (by decide) (by omega) (by omega) (fun c3 => ?_) (fun c3 => ?_)
        · have _q := c3
          rw [show (ysc - sn).toNat = 0 by omega] at hres
          simp only [jaL] at hres
          refine lv_aload_n hx hb d_Y_joinedAnswer_141 rfl (lv_at hl 3 rfl) ?_
          refine lv_iconst (v := iI 0) hx hb d_Y_joinedAnswer_142 rfl ?_
          refine li_callr ((va_runV (As := [.int (iI 0)]) (rest := []) ⟨hx, hb, hml, hown, hts⟩ (c_Y_heldAt l dC dI kA yo ya yn ysc ycc ysi yft yfp ydn vr 0 (by omega)) (cw_Y_126 hts rfl rfl ⟨Nat.le_of_ble_eq_true rfl, Nat.le_of_ble_eq_true rfl⟩) (li_preV (va_recv hK hP (ci := 6) (q0 := 0) rfl rfl) (hP.sub [0, 3] rfl) hK hN (hG.go hS hAN)) rfl rfl hl.1 rfl (lv_room (Nat.le_of_ble_eq_true rfl)) d_Y_joinedAnswer_143 ⟨(by show 0 + 0 ≤ 0; omega), (by show 0 + 0 ≤ 0; omega)⟩).run) ?_
          exact fin (vr, vj) _ _ _ _ _ (by rfl) (by show vr = (jaM ys g ysc yr yj).2.2.1 ∧ vj = (jaM ys g ysc yr yj).2.2.2 ∧ ∀ j, 0 ≤ vj j ∧ vj j ≤ 20; rw [← hres]; exact ⟨rfl, rfl, hvj⟩) (by first | exact hP | (subst_vars; exact hP)) (by first | exact hD | (subst_vars; exact hD)) hS d_Y_joinedAnswer_146
        · have _q := c3
          refine lv_aload_n hx hb d_Y_joinedAnswer_31 rfl (lv_at hl 3 rfl) ?_
          refine gf_Y_18 hx hb hts hown hK hP 0 rfl rfl d_Y_joinedAnswer_32 ?_
          refine lv_iload_n hx hb d_Y_joinedAnswer_35 rfl (lv_at hl 0 rfl) ?_
          refine li_iald hx hb hK hP 1 0 rfl rfl (by omega) (by omega) (by omega) d_Y_joinedAnswer_36 ?_
          have f4 := hsv sn.toNat
          refine li_nm (fun kd ekd => ?_)
          refine lv_istore (lv' := [(4, .int (iI kd)), (3, .int (iI sn)), (2, .int (iI nx)), (1, .int (iI o)), (0, .ref yo)]) hx hb d_Y_joinedAnswer_37 hl (by decide) rfl (fun ls hl => ?_)
          have hkd := hsv sn.toNat (by omega)
          rw [← ekd] at hkd
          have hop1 := hop (sn + 1).toNat (by omega)
          have eop : opN ys (sn + 1).toNat = if kd = 9 then opN ys sn.toNat + 1 else if kd = 10 then opN ys sn.toNat - 1 else opN ys sn.toNat := by (rw [show (sn + 1).toNat = sn.toNat + 1 by omega]; simp only [opN]; rw [← ekd])
          have hvj2 := jaS_j (g := g) (k := kd) (u := (o, nx, vr, vj)) hkd hvj
          rw [show (ysc - sn).toNat = (ysc - (sn + 1)).toNat + 1 by omega] at hres
          simp only [jaL] at hres
          rw [← ekd] at hres
          refine lv_iload hx hb d_Y_joinedAnswer_39 (lv_at hl 0 rfl) ?_
          refine lv_bipush (v := iI 9) hx hb d_Y_joinedAnswer_41 (by decide) ?_
          refine li_icmp_ne (tgt := 60) hx hb d_Y_joinedAnswer_43 (by decide) (by omega) (by omega) (fun c5 => ?_) (fun c5 => ?_)
          · have _q := c5
            refine lv_iload hx hb d_Y_joinedAnswer_60 (lv_at hl 0 rfl) ?_
            refine lv_bipush (v := iI 10) hx hb d_Y_joinedAnswer_62 (by decide) ?_
            refine li_icmp_ne (tgt := 85) hx hb d_Y_joinedAnswer_64 (by decide) (by omega) (by omega) (fun c6 => ?_) (fun c6 => ?_)
            · have _q := c6
              refine lv_iload hx hb d_Y_joinedAnswer_85 (lv_at hl 0 rfl) ?_
              refine li_if_ne (tgt := 123) hx hb d_Y_joinedAnswer_87 (by decide) (by omega) (fun c7 => ?_) (fun c7 => ?_)
              · have _q := c7
                have hk9 : ¬ kd = 9 := by omega
                have hk10 : ¬ kd = 10 := by omega
                have hk0 : ¬ kd = 0 := by omega
                rw [if_neg hk9, if_neg hk10] at eop
                unfold jaS at hres hvj2
                rw [if_neg hk9, if_neg hk10, if_neg hk0] at hres hvj2
                dsimp only at hres hvj2
                refine lv_aload_n hx hb d_Y_joinedAnswer_123 rfl (lv_at hl 4 rfl) ?_
                refine lv_iload_n hx hb d_Y_joinedAnswer_124 rfl (lv_at hl 3 rfl) ?_
                refine lv_aload_n hx hb d_Y_joinedAnswer_125 rfl (lv_at hl 4 rfl) ?_
                refine lv_iload_n hx hb d_Y_joinedAnswer_126 rfl (lv_at hl 3 rfl) ?_
                refine li_callr ((va_runV (As := [.int (iI o)]) (rest := [.int (iI o), .ref yo]) ⟨hx, hb, hml, hown, hts⟩ (c_Y_heldAt l dC dI kA yo ya yn ysc ycc ysi yft yfp ydn vr o (by omega)) (cw_Y_126 hts rfl rfl ⟨Nat.le_of_ble_eq_true rfl, Nat.le_of_ble_eq_true rfl⟩) (li_preV (va_recv hK hP (ci := 6) (q0 := 0) rfl rfl) (hP.sub [0, 3] rfl) hK hN (hG.go hS hAN)) rfl rfl hl.1 rfl (lv_room (Nat.le_of_ble_eq_true rfl)) d_Y_joinedAnswer_127 ⟨(by show 0 + 0 ≤ 0; omega), (by show 0 + 0 ≤ 0; omega)⟩).run) ?_
                refine lv_iload hx hb d_Y_joinedAnswer_130 (lv_at hl 0 rfl) ?_
                refine li_callQ (X := [(yo, .inr (6, [.ref (ya 0), .int (iI yn), .ref (ya 1), .int (iI ysc), .ref (ya 2), .int (iI ycc), .int (iI ysi), .int (iI (bI ydn)), .int (iI yft), .int (iI yfp), .ref (ya 3), .ref (ya 4)])), (ya 1, .inl (kA 0, 100, .inl (aI ys))), (ya 2, .inl (kA 6, 50, .inr (.inr (.inr (.inr (fun k => some (cl k))))))), (ya 3, .inl (kA 0, 7, .inl (aI vr))), (ya 4, .inl (kA 0, 7, .inl (aI vj)))]) (cx := [(yo, .inr (6, [.ref (ya 0), .int (iI yn), .ref (ya 1), .int (iI ysc), .ref (ya 2), .int (iI ycc), .int (iI ysi), .int (iI (bI ydn)), .int (iI yft), .int (iI yfp), .ref (ya 3), .ref (ya 4)])), (ya 3, .inl (kA 0, 7, .inl (aI vr))), (ya 4, .inl (kA 0, 7, .inl (aI vj)))]) (wr := [(ya 1, .inl (kA 0, 100, .inl (aI ys))), (ya 2, .inl (kA 6, 50, .inr (.inr (.inr (.inr (fun k => some (cl k)))))))]) (pl := clW cl g) (va_runV (As := [.int (iI o), .int (iI (vr o.toNat)), .int (iI kd)]) (rest := []) ⟨hx, hb, hml, hown, hts⟩ (c_Y_hold l dC dI kA H.size yo ya yn ysc ycc ysi yft yfp ydn vr vj o (vr o.toNat) kd (by omega)) (cw_Y_122 hts rfl rfl ⟨Nat.le_of_ble_eq_true rfl, Nat.le_of_ble_eq_true rfl⟩) (li_preV (va_recv hK hP (ci := 6) (q0 := 0) rfl rfl) ⟨rfl, hP.sub [0, 3, 4] rfl, (hD.sub [0, 3, 4] (by decide) rfl).weaken (fun _ _ _ h => hAN _ h), trivial⟩ hK hN (hG.go hS hAN)) rfl rfl hl.1 rfl (lv_room (Nat.le_of_ble_eq_true rfl)) d_Y_joinedAnswer_132 ⟨(by show 0 + 0 ≤ 0; omega), (by show 0 + 0 ≤ 0; omega)⟩) hP hD hS hA [0, 3, 4] [1, 2] rfl rfl (by decide) (by decide) (fun u8 H locs hu8 hP hD hS => ?_)
                have hP : va_P (dC, dI) CL ([(ya 1, .inl (kA 0, 100, .inl (aI ys))), (ya 2, .inl (kA 6, 50, .inr (.inr (.inr (.inr (fun k => some (cl k))))))), (yo, .inr (6, [.ref (ya 0), .int (iI yn), .ref (ya 1), .int (iI ysc), .ref (ya 2), .int (iI ycc), .int (iI ysi), .int (iI (bI ydn)), .int (iI yft), .int (iI yfp), .ref (ya 3), .ref (ya 4)])), (ya 3, .inl (kA 0, 7, .inl (aI (va_up vr o.toNat (vr o.toNat))))), (ya 4, .inl (kA 0, 7, .inl (aI (va_up vj o.toNat kd))))] ++ clW cl g) H := hP
                have hD : va_D A ([(ya 1, .inl (kA 0, 100, .inl (aI ys))), (ya 2, .inl (kA 6, 50, .inr (.inr (.inr (.inr (fun k => some (cl k))))))), (yo, .inr (6, [.ref (ya 0), .int (iI yn), .ref (ya 1), .int (iI ysc), .ref (ya 2), .int (iI ycc), .int (iI ysi), .int (iI (bI ydn)), .int (iI yft), .int (iI yfp), .ref (ya 3), .ref (ya 4)])), (ya 3, .inl (kA 0, 7, .inl (aI (va_up vr o.toNat (vr o.toNat))))), (ya 4, .inl (kA 0, 7, .inl (aI (va_up vj o.toNat kd))))] ++ clW cl g) := hD
                obtain ⟨s_n, es_n⟩ : ∃ y_9 : Int, y_9 = sn + 1 := ⟨_, rfl⟩
                refine lv_iinc (v := iI s_n) (lv' := [(3, .int (iI s_n)), (4, .int (iI kd)), (2, .int (iI nx)), (1, .int (iI o)), (0, .ref yo)]) hx hb d_Y_joinedAnswer_135 hl (k := 1) rfl (by rw [es_n]; exact iI_add _ _) (by decide) rfl (fun ls hl => ?_)
                refine lv_goto (tgt := 14) hx hb d_Y_joinedAnswer_138 (by decide) ?_
                exact ih_14 o nx s_n (va_up vr o.toNat (vr o.toNat)) (va_up vj o.toNat kd) (by omega) (by first | rfl | (subst_vars; omega) | omega) (by first | exact up_r hyj (by omega) | exact hvj2 | (rw [eo_n]; exact hvj2) | (subst_vars; exact hvj2)) (by first | (unfold jaM; rw [show ysc - 0 = ysc by omega]; rfl) | (rw [es_n, eo_n]; exact hres) | (rw [es_n, ex_n]; exact hres) | (rw [es_n]; exact hres)) (by omega) _ _ (li_sbP hP [2, 0, 1, 3, 4] rfl) (li_sbD hD [2, 0, 1, 3, 4] (by decide) rfl) hS _ (lv_sub hl [0, 2, 3, 4] rfl)
              · have _q := c7
                have hk9 : ¬ kd = 9 := by omega
                have hk10 : ¬ kd = 10 := by omega
                have hk0 : kd = 0 := by omega
                rw [if_neg hk9, if_neg hk10] at eop
                unfold jaS at hres hvj2
                rw [if_neg hk9, if_neg hk10, if_pos hk0] at hres hvj2
                dsimp only at hres hvj2
                refine lv_aload_n hx hb d_Y_joinedAnswer_90 rfl (lv_at hl 4 rfl) ?_
                refine lv_iload_n hx hb d_Y_joinedAnswer_91 rfl (lv_at hl 3 rfl) ?_
                refine lv_iload_n hx hb d_Y_joinedAnswer_92 rfl (lv_at hl 2 rfl) ?_
                refine lv_aload_n hx hb d_Y_joinedAnswer_93 rfl (lv_at hl 4 rfl) ?_
                refine gf_Y_24 hx hb hts hown hK hP 0 rfl rfl d_Y_joinedAnswer_94 ?_
                refine li_alen hx hb hK hP 2 6 rfl rfl d_Y_joinedAnswer_97 ?_
                refine li_icmp_ge (tgt := 113) hx hb d_Y_joinedAnswer_98 (by decide) (by omega) (by omega) (fun c9 => ?_) (fun c9 => ?_)
                · have _q := c9
                  rw [if_neg (show ¬ nx < 50 by omega)] at hres
                  refine lv_iconst (v := iI 0) hx hb d_Y_joinedAnswer_113 rfl ?_
                  refine li_callQ (X := [(yo, .inr (6, [.ref (ya 0), .int (iI yn), .ref (ya 1), .int (iI ysc), .ref (ya 2), .int (iI ycc), .int (iI ysi), .int (iI (bI ydn)), .int (iI yft), .int (iI yfp), .ref (ya 3), .ref (ya 4)])), (ya 1, .inl (kA 0, 100, .inl (aI ys))), (ya 2, .inl (kA 6, 50, .inr (.inr (.inr (.inr (fun k => some (cl k))))))), (ya 3, .inl (kA 0, 7, .inl (aI vr))), (ya 4, .inl (kA 0, 7, .inl (aI vj)))]) (cx := [(yo, .inr (6, [.ref (ya 0), .int (iI yn), .ref (ya 1), .int (iI ysc), .ref (ya 2), .int (iI ycc), .int (iI ysi), .int (iI (bI ydn)), .int (iI yft), .int (iI yfp), .ref (ya 3), .ref (ya 4)])), (ya 3, .inl (kA 0, 7, .inl (aI vr))), (ya 4, .inl (kA 0, 7, .inl (aI vj)))]) (wr := [(ya 1, .inl (kA 0, 100, .inl (aI ys))), (ya 2, .inl (kA 6, 50, .inr (.inr (.inr (.inr (fun k => some (cl k)))))))]) (pl := clW cl g) (va_runV (As := [.int (iI o), .int (iI 0)]) (rest := []) ⟨hx, hb, hml, hown, hts⟩ (c_Y_join l dC dI kA H.size yo ya yn ysc ycc ysi yft yfp ydn vr vj o 0 (by omega) (by exact hvj)) (cw_Y_129 hts rfl rfl ⟨Nat.le_of_ble_eq_true rfl, Nat.le_of_ble_eq_true rfl⟩) (li_preV (va_recv hK hP (ci := 6) (q0 := 0) rfl rfl) ⟨rfl, hP.sub [0, 3, 4] rfl, (hD.sub [0, 3, 4] (by decide) rfl).weaken (fun _ _ _ h => hAN _ h), trivial⟩ hK hN (hG.go hS hAN)) rfl rfl hl.1 rfl (lv_room (Nat.le_of_ble_eq_true rfl)) d_Y_joinedAnswer_114 ⟨(by show 0 + 0 ≤ 0; omega), (by show 0 + 0 ≤ 0; omega)⟩) hP hD hS hA [0, 3, 4] [1, 2] rfl rfl (by decide) (by decide) (fun u10 H locs hu10 hP hD hS => ?_)
                  have hP : va_P (dC, dI) CL ([(ya 1, .inl (kA 0, 100, .inl (aI ys))), (ya 2, .inl (kA 6, 50, .inr (.inr (.inr (.inr (fun k => some (cl k))))))), (yo, .inr (6, [.ref (ya 0), .int (iI yn), .ref (ya 1), .int (iI ysc), .ref (ya 2), .int (iI ycc), .int (iI ysi), .int (iI (bI ydn)), .int (iI yft), .int (iI yfp), .ref (ya 3), .ref (ya 4)])), (ya 3, .inl (kA 0, 7, .inl (aI (va_up vr o.toNat (jnC (vj o.toNat) (vr o.toNat) 0))))), (ya 4, .inl (kA 0, 7, .inl (aI vj)))] ++ clW cl g) H := hP
                  have hD : va_D A ([(ya 1, .inl (kA 0, 100, .inl (aI ys))), (ya 2, .inl (kA 6, 50, .inr (.inr (.inr (.inr (fun k => some (cl k))))))), (yo, .inr (6, [.ref (ya 0), .int (iI yn), .ref (ya 1), .int (iI ysc), .ref (ya 2), .int (iI ycc), .int (iI ysi), .int (iI (bI ydn)), .int (iI yft), .int (iI yfp), .ref (ya 3), .ref (ya 4)])), (ya 3, .inl (kA 0, 7, .inl (aI (va_up vr o.toNat (jnC (vj o.toNat) (vr o.toNat) 0))))), (ya 4, .inl (kA 0, 7, .inl (aI vj)))] ++ clW cl g) := hD
                  obtain ⟨x_n, ex_n⟩ : ∃ y_9 : Int, y_9 = nx + 1 := ⟨_, rfl⟩
                  refine lv_iinc (v := iI x_n) (lv' := [(2, .int (iI x_n)), (4, .int (iI kd)), (3, .int (iI sn)), (1, .int (iI o)), (0, .ref yo)]) hx hb d_Y_joinedAnswer_117 hl (k := 2) rfl (by rw [ex_n]; exact iI_add _ _) (by decide) rfl (fun ls hl => ?_)
                  refine lv_goto (tgt := 135) hx hb d_Y_joinedAnswer_120 (by decide) ?_
                  obtain ⟨s_n, es_n⟩ : ∃ y_9 : Int, y_9 = sn + 1 := ⟨_, rfl⟩
                  refine lv_iinc (v := iI s_n) (lv' := [(3, .int (iI s_n)), (2, .int (iI x_n)), (4, .int (iI kd)), (1, .int (iI o)), (0, .ref yo)]) hx hb d_Y_joinedAnswer_135 hl (k := 2) rfl (by rw [es_n]; exact iI_add _ _) (by decide) rfl (fun ls hl => ?_)
                  refine lv_goto (tgt := 14) hx hb d_Y_joinedAnswer_138 (by decide) ?_
                  exact ih_14 o x_n s_n (va_up vr o.toNat (jnC (vj o.toNat) (vr o.toNat) 0)) vj (by omega) (by first | rfl | (subst_vars; omega) | omega) (by first | exact up_r hyj (by omega) | exact hvj2 | (rw [eo_n]; exact hvj2) | (subst_vars; exact hvj2)) (by first | (unfold jaM; rw [show ysc - 0 = ysc by omega]; rfl) | (rw [es_n, eo_n]; exact hres) | (rw [es_n, ex_n]; exact hres) | (rw [es_n]; exact hres)) (by omega) _ _ (li_sbP hP [2, 0, 1, 3, 4] rfl) (li_sbD hD [2, 0, 1, 3, 4] (by decide) rfl) hS _ (lv_sub hl [0, 1, 3, 4] rfl)
                · have _q := c9
                  rw [if_pos (show nx < 50 by omega)] at hres
                  refine lv_aload_n hx hb d_Y_joinedAnswer_101 rfl (lv_at hl 4 rfl) ?_
                  refine gf_Y_24 hx hb hts hown hK hP 0 rfl rfl d_Y_joinedAnswer_102 ?_
                  refine lv_iload_n hx hb d_Y_joinedAnswer_105 rfl (lv_at hl 2 rfl) ?_
                  refine li_ald hx hb hK hP 2 6 rfl rfl (by omega) (by omega) (by omega) d_Y_joinedAnswer_106 ?_
                  refine li_rfS (a := cl nx.toNat) (by rfl) ?_
                  refine gf_Y_133 hx hb hts hN hown hK hP _ (clW_get (X := [(yo, .inr (6, [.ref (ya 0), .int (iI yn), .ref (ya 1), .int (iI ysc), .ref (ya 2), .int (iI ycc), .int (iI ysi), .int (iI (bI ydn)), .int (iI yft), .int (iI yfp), .ref (ya 3), .ref (ya 4)])), (ya 1, .inl (kA 0, 100, .inl (aI ys))), (ya 2, .inl (kA 6, 50, .inr (.inr (.inr (.inr (fun k => some (cl k))))))), (ya 3, .inl (kA 0, 7, .inl (aI vr))), (ya 4, .inl (kA 0, 7, .inl (aI vj)))]) (k := (nx.toNat)) (by omega)) rfl d_Y_joinedAnswer_107 ?_
                  refine lv_goto (tgt := 114) hx hb d_Y_joinedAnswer_110 (by decide) ?_
                  refine li_callQ (X := [(yo, .inr (6, [.ref (ya 0), .int (iI yn), .ref (ya 1), .int (iI ysc), .ref (ya 2), .int (iI ycc), .int (iI ysi), .int (iI (bI ydn)), .int (iI yft), .int (iI yfp), .ref (ya 3), .ref (ya 4)])), (ya 1, .inl (kA 0, 100, .inl (aI ys))), (ya 2, .inl (kA 6, 50, .inr (.inr (.inr (.inr (fun k => some (cl k))))))), (ya 3, .inl (kA 0, 7, .inl (aI vr))), (ya 4, .inl (kA 0, 7, .inl (aI vj)))]) (cx := [(yo, .inr (6, [.ref (ya 0), .int (iI yn), .ref (ya 1), .int (iI ysc), .ref (ya 2), .int (iI ycc), .int (iI ysi), .int (iI (bI ydn)), .int (iI yft), .int (iI yfp), .ref (ya 3), .ref (ya 4)])), (ya 3, .inl (kA 0, 7, .inl (aI vr))), (ya 4, .inl (kA 0, 7, .inl (aI vj)))]) (wr := [(ya 1, .inl (kA 0, 100, .inl (aI ys))), (ya 2, .inl (kA 6, 50, .inr (.inr (.inr (.inr (fun k => some (cl k)))))))]) (pl := clW cl g) (va_runV (As := [.int (iI o), .int (iI ((g nx.toNat).2.2.2.2))]) (rest := []) ⟨hx, hb, hml, hown, hts⟩ (c_Y_join l dC dI kA H.size yo ya yn ysc ycc ysi yft yfp ydn vr vj o ((g nx.toNat).2.2.2.2) (by omega) (by exact hvj)) (cw_Y_129 hts rfl rfl ⟨Nat.le_of_ble_eq_true rfl, Nat.le_of_ble_eq_true rfl⟩) (li_preV (va_recv hK hP (ci := 6) (q0 := 0) rfl rfl) ⟨rfl, hP.sub [0, 3, 4] rfl, (hD.sub [0, 3, 4] (by decide) rfl).weaken (fun _ _ _ h => hAN _ h), trivial⟩ hK hN (hG.go hS hAN)) rfl rfl hl.1 rfl (lv_room (Nat.le_of_ble_eq_true rfl)) d_Y_joinedAnswer_114 ⟨(by show 0 + 0 ≤ 0; omega), (by show 0 + 0 ≤ 0; omega)⟩) hP hD hS hA [0, 3, 4] [1, 2] rfl rfl (by decide) (by decide) (fun u11 H locs hu11 hP hD hS => ?_)
                  have hP : va_P (dC, dI) CL ([(ya 1, .inl (kA 0, 100, .inl (aI ys))), (ya 2, .inl (kA 6, 50, .inr (.inr (.inr (.inr (fun k => some (cl k))))))), (yo, .inr (6, [.ref (ya 0), .int (iI yn), .ref (ya 1), .int (iI ysc), .ref (ya 2), .int (iI ycc), .int (iI ysi), .int (iI (bI ydn)), .int (iI yft), .int (iI yfp), .ref (ya 3), .ref (ya 4)])), (ya 3, .inl (kA 0, 7, .inl (aI (va_up vr o.toNat (jnC (vj o.toNat) (vr o.toNat) ((g nx.toNat).2.2.2.2)))))), (ya 4, .inl (kA 0, 7, .inl (aI vj)))] ++ clW cl g) H := hP
                  have hD : va_D A ([(ya 1, .inl (kA 0, 100, .inl (aI ys))), (ya 2, .inl (kA 6, 50, .inr (.inr (.inr (.inr (fun k => some (cl k))))))), (yo, .inr (6, [.ref (ya 0), .int (iI yn), .ref (ya 1), .int (iI ysc), .ref (ya 2), .int (iI ycc), .int (iI ysi), .int (iI (bI ydn)), .int (iI yft), .int (iI yfp), .ref (ya 3), .ref (ya 4)])), (ya 3, .inl (kA 0, 7, .inl (aI (va_up vr o.toNat (jnC (vj o.toNat) (vr o.toNat) ((g nx.toNat).2.2.2.2)))))), (ya 4, .inl (kA 0, 7, .inl (aI vj)))] ++ clW cl g) := hD
                  obtain ⟨x_n, ex_n⟩ : ∃ y_9 : Int, y_9 = nx + 1 := ⟨_, rfl⟩
                  refine lv_iinc (v := iI x_n) (lv' := [(2, .int (iI x_n)), (4, .int (iI kd)), (3, .int (iI sn)), (1, .int (iI o)), (0, .ref yo)]) hx hb d_Y_joinedAnswer_117 hl (k := 2) rfl (by rw [ex_n]; exact iI_add _ _) (by decide) rfl (fun ls hl => ?_)
                  refine lv_goto (tgt := 135) hx hb d_Y_joinedAnswer_120 (by decide) ?_
                  obtain ⟨s_n, es_n⟩ : ∃ y_9 : Int, y_9 = sn + 1 := ⟨_, rfl⟩
                  refine lv_iinc (v := iI s_n) (lv' := [(3, .int (iI s_n)), (2, .int (iI x_n)), (4, .int (iI kd)), (1, .int (iI o)), (0, .ref yo)]) hx hb d_Y_joinedAnswer_135 hl (k := 2) rfl (by rw [es_n]; exact iI_add _ _) (by decide) rfl (fun ls hl => ?_)
                  refine lv_goto (tgt := 14) hx hb d_Y_joinedAnswer_138 (by decide) ?_
                  exact ih_14 o x_n s_n (va_up vr o.toNat (jnC (vj o.toNat) (vr o.toNat) ((g nx.toNat).2.2.2.2))) vj (by omega) (by first | rfl | (subst_vars; omega) | omega) (by first | exact up_r hyj (by omega) | exact hvj2 | (rw [eo_n]; exact hvj2) | (subst_vars; exact hvj2)) (by first | (unfold jaM; rw [show ysc - 0 = ysc by omega]; rfl) | (rw [es_n, eo_n]; exact hres) | (rw [es_n, ex_n]; exact hres) | (rw [es_n]; exact hres)) (by omega) _ _ (li_sbP hP [2, 0, 1, 3, 4] rfl) (li_sbD hD [2, 0, 1, 3, 4] (by decide) rfl) hS _ (lv_sub hl [0, 1, 3, 4] rfl)
            · have _q := c6
              have hk9 : ¬ kd = 9 := by omega
              have hk10 : kd = 10 := by omega
              rw [if_neg hk9, if_pos hk10] at eop
              unfold jaS at hres hvj2
              rw [if_neg hk9, if_pos hk10] at hres hvj2
              dsimp only at hres hvj2
              obtain ⟨o_n, eo_n⟩ : ∃ y_9 : Int, y_9 = o + (-1) := ⟨_, rfl⟩
              refine lv_iinc (v := iI o_n) (lv' := [(1, .int (iI o_n)), (4, .int (iI kd)), (3, .int (iI sn)), (2, .int (iI nx)), (0, .ref yo)]) hx hb d_Y_joinedAnswer_67 hl (k := 3) rfl (by rw [eo_n]; exact iI_add _ _) (by decide) rfl (fun ls hl => ?_)
              refine lv_aload_n hx hb d_Y_joinedAnswer_70 rfl (lv_at hl 4 rfl) ?_
              refine lv_iload_n hx hb d_Y_joinedAnswer_71 rfl (lv_at hl 0 rfl) ?_
              refine lv_aload_n hx hb d_Y_joinedAnswer_72 rfl (lv_at hl 4 rfl) ?_
              refine lv_iload_n hx hb d_Y_joinedAnswer_73 rfl (lv_at hl 0 rfl) ?_
              refine lv_iconst (v := iI 1) hx hb d_Y_joinedAnswer_74 rfl ?_
              refine li_iadd hx hb d_Y_joinedAnswer_75 ?_
              refine li_callr ((va_runV (As := [.int (iI (o_n + 1))]) (rest := [.int (iI o_n), .ref yo]) ⟨hx, hb, hml, hown, hts⟩ (c_Y_heldAt l dC dI kA yo ya yn ysc ycc ysi yft yfp ydn vr (o_n + 1) (by omega)) (cw_Y_126 hts rfl rfl ⟨Nat.le_of_ble_eq_true rfl, Nat.le_of_ble_eq_true rfl⟩) (li_preV (va_recv hK hP (ci := 6) (q0 := 0) rfl rfl) (hP.sub [0, 3] rfl) hK hN (hG.go hS hAN)) rfl rfl hl.1 rfl (lv_room (Nat.le_of_ble_eq_true rfl)) d_Y_joinedAnswer_76 ⟨(by show 0 + 0 ≤ 0; omega), (by show 0 + 0 ≤ 0; omega)⟩).run) ?_
              refine li_callQ (X := [(yo, .inr (6, [.ref (ya 0), .int (iI yn), .ref (ya 1), .int (iI ysc), .ref (ya 2), .int (iI ycc), .int (iI ysi), .int (iI (bI ydn)), .int (iI yft), .int (iI yfp), .ref (ya 3), .ref (ya 4)])), (ya 1, .inl (kA 0, 100, .inl (aI ys))), (ya 2, .inl (kA 6, 50, .inr (.inr (.inr (.inr (fun k => some (cl k))))))), (ya 3, .inl (kA 0, 7, .inl (aI vr))), (ya 4, .inl (kA 0, 7, .inl (aI vj)))]) (cx := [(yo, .inr (6, [.ref (ya 0), .int (iI yn), .ref (ya 1), .int (iI ysc), .ref (ya 2), .int (iI ycc), .int (iI ysi), .int (iI (bI ydn)), .int (iI yft), .int (iI yfp), .ref (ya 3), .ref (ya 4)])), (ya 3, .inl (kA 0, 7, .inl (aI vr))), (ya 4, .inl (kA 0, 7, .inl (aI vj)))]) (wr := [(ya 1, .inl (kA 0, 100, .inl (aI ys))), (ya 2, .inl (kA 6, 50, .inr (.inr (.inr (.inr (fun k => some (cl k)))))))]) (pl := clW cl g) (va_runV (As := [.int (iI o_n), .int (iI (vr (o_n + 1).toNat))]) (rest := []) ⟨hx, hb, hml, hown, hts⟩ (c_Y_join l dC dI kA H.size yo ya yn ysc ycc ysi yft yfp ydn vr vj o_n (vr (o_n + 1).toNat) (by omega) (by exact hvj)) (cw_Y_129 hts rfl rfl ⟨Nat.le_of_ble_eq_true rfl, Nat.le_of_ble_eq_true rfl⟩) (li_preV (va_recv hK hP (ci := 6) (q0 := 0) rfl rfl) ⟨rfl, hP.sub [0, 3, 4] rfl, (hD.sub [0, 3, 4] (by decide) rfl).weaken (fun _ _ _ h => hAN _ h), trivial⟩ hK hN (hG.go hS hAN)) rfl rfl hl.1 rfl (lv_room (Nat.le_of_ble_eq_true rfl)) d_Y_joinedAnswer_79 ⟨(by show 0 + 0 ≤ 0; omega), (by show 0 + 0 ≤ 0; omega)⟩) hP hD hS hA [0, 3, 4] [1, 2] rfl rfl (by decide) (by decide) (fun u12 H locs hu12 hP hD hS => ?_)
              have hP : va_P (dC, dI) CL ([(ya 1, .inl (kA 0, 100, .inl (aI ys))), (ya 2, .inl (kA 6, 50, .inr (.inr (.inr (.inr (fun k => some (cl k))))))), (yo, .inr (6, [.ref (ya 0), .int (iI yn), .ref (ya 1), .int (iI ysc), .ref (ya 2), .int (iI ycc), .int (iI ysi), .int (iI (bI ydn)), .int (iI yft), .int (iI yfp), .ref (ya 3), .ref (ya 4)])), (ya 3, .inl (kA 0, 7, .inl (aI (va_up vr o_n.toNat (jnC (vj o_n.toNat) (vr o_n.toNat) (vr (o_n + 1).toNat)))))), (ya 4, .inl (kA 0, 7, .inl (aI vj)))] ++ clW cl g) H := hP
              have hD : va_D A ([(ya 1, .inl (kA 0, 100, .inl (aI ys))), (ya 2, .inl (kA 6, 50, .inr (.inr (.inr (.inr (fun k => some (cl k))))))), (yo, .inr (6, [.ref (ya 0), .int (iI yn), .ref (ya 1), .int (iI ysc), .ref (ya 2), .int (iI ycc), .int (iI ysi), .int (iI (bI ydn)), .int (iI yft), .int (iI yfp), .ref (ya 3), .ref (ya 4)])), (ya 3, .inl (kA 0, 7, .inl (aI (va_up vr o_n.toNat (jnC (vj o_n.toNat) (vr o_n.toNat) (vr (o_n + 1).toNat)))))), (ya 4, .inl (kA 0, 7, .inl (aI vj)))] ++ clW cl g) := hD
              refine lv_goto (tgt := 135) hx hb d_Y_joinedAnswer_82 (by decide) ?_
              obtain ⟨s_n, es_n⟩ : ∃ y_9 : Int, y_9 = sn + 1 := ⟨_, rfl⟩
              refine lv_iinc (v := iI s_n) (lv' := [(3, .int (iI s_n)), (1, .int (iI o_n)), (4, .int (iI kd)), (2, .int (iI nx)), (0, .ref yo)]) hx hb d_Y_joinedAnswer_135 hl (k := 2) rfl (by rw [es_n]; exact iI_add _ _) (by decide) rfl (fun ls hl => ?_)
              refine lv_goto (tgt := 14) hx hb d_Y_joinedAnswer_138 (by decide) ?_
              exact ih_14 o_n nx s_n (va_up vr o_n.toNat (jnC (vj o_n.toNat) (vr o_n.toNat) (vr (o_n + 1).toNat))) vj (by omega) (by first | rfl | (subst_vars; omega) | omega) (by first | exact up_r hyj (by omega) | exact hvj2 | (rw [eo_n]; exact hvj2) | (subst_vars; exact hvj2)) (by first | (unfold jaM; rw [show ysc - 0 = ysc by omega]; rfl) | (rw [es_n, eo_n]; exact hres) | (rw [es_n, ex_n]; exact hres) | (rw [es_n]; exact hres)) (by omega) _ _ (li_sbP hP [2, 0, 1, 3, 4] rfl) (li_sbD hD [2, 0, 1, 3, 4] (by decide) rfl) hS _ (lv_sub hl [0, 3, 1, 4] rfl)
          · have _q := c5
            have hk9 : kd = 9 := by omega
            rw [if_pos hk9] at eop
            unfold jaS at hres hvj2
            rw [if_pos hk9] at hres hvj2
            dsimp only at hres hvj2
            obtain ⟨o_n, eo_n⟩ : ∃ y_9 : Int, y_9 = o + 1 := ⟨_, rfl⟩
            refine lv_iinc (v := iI o_n) (lv' := [(1, .int (iI o_n)), (4, .int (iI kd)), (3, .int (iI sn)), (2, .int (iI nx)), (0, .ref yo)]) hx hb d_Y_joinedAnswer_46 hl (k := 3) rfl (by rw [eo_n]; exact iI_add _ _) (by decide) rfl (fun ls hl => ?_)
            refine lv_aload_n hx hb d_Y_joinedAnswer_49 rfl (lv_at hl 4 rfl) ?_
            refine lv_iload_n hx hb d_Y_joinedAnswer_50 rfl (lv_at hl 0 rfl) ?_
            refine lv_iconst (v := iI 0) hx hb d_Y_joinedAnswer_51 rfl ?_
            refine lv_bipush (v := iI 12) hx hb d_Y_joinedAnswer_52 (by decide) ?_
            refine li_callQ (X := [(yo, .inr (6, [.ref (ya 0), .int (iI yn), .ref (ya 1), .int (iI ysc), .ref (ya 2), .int (iI ycc), .int (iI ysi), .int (iI (bI ydn)), .int (iI yft), .int (iI yfp), .ref (ya 3), .ref (ya 4)])), (ya 1, .inl (kA 0, 100, .inl (aI ys))), (ya 2, .inl (kA 6, 50, .inr (.inr (.inr (.inr (fun k => some (cl k))))))), (ya 3, .inl (kA 0, 7, .inl (aI vr))), (ya 4, .inl (kA 0, 7, .inl (aI vj)))]) (cx := [(yo, .inr (6, [.ref (ya 0), .int (iI yn), .ref (ya 1), .int (iI ysc), .ref (ya 2), .int (iI ycc), .int (iI ysi), .int (iI (bI ydn)), .int (iI yft), .int (iI yfp), .ref (ya 3), .ref (ya 4)])), (ya 3, .inl (kA 0, 7, .inl (aI vr))), (ya 4, .inl (kA 0, 7, .inl (aI vj)))]) (wr := [(ya 1, .inl (kA 0, 100, .inl (aI ys))), (ya 2, .inl (kA 6, 50, .inr (.inr (.inr (.inr (fun k => some (cl k)))))))]) (pl := clW cl g) (va_runV (As := [.int (iI o_n), .int (iI 0), .int (iI 12)]) (rest := []) ⟨hx, hb, hml, hown, hts⟩ (c_Y_hold l dC dI kA H.size yo ya yn ysc ycc ysi yft yfp ydn vr vj o_n 0 12 (by omega)) (cw_Y_122 hts rfl rfl ⟨Nat.le_of_ble_eq_true rfl, Nat.le_of_ble_eq_true rfl⟩) (li_preV (va_recv hK hP (ci := 6) (q0 := 0) rfl rfl) ⟨rfl, hP.sub [0, 3, 4] rfl, (hD.sub [0, 3, 4] (by decide) rfl).weaken (fun _ _ _ h => hAN _ h), trivial⟩ hK hN (hG.go hS hAN)) rfl rfl hl.1 rfl (lv_room (Nat.le_of_ble_eq_true rfl)) d_Y_joinedAnswer_54 ⟨(by show 0 + 0 ≤ 0; omega), (by show 0 + 0 ≤ 0; omega)⟩) hP hD hS hA [0, 3, 4] [1, 2] rfl rfl (by decide) (by decide) (fun u13 H locs hu13 hP hD hS => ?_)
            have hP : va_P (dC, dI) CL ([(ya 1, .inl (kA 0, 100, .inl (aI ys))), (ya 2, .inl (kA 6, 50, .inr (.inr (.inr (.inr (fun k => some (cl k))))))), (yo, .inr (6, [.ref (ya 0), .int (iI yn), .ref (ya 1), .int (iI ysc), .ref (ya 2), .int (iI ycc), .int (iI ysi), .int (iI (bI ydn)), .int (iI yft), .int (iI yfp), .ref (ya 3), .ref (ya 4)])), (ya 3, .inl (kA 0, 7, .inl (aI (va_up vr o_n.toNat 0)))), (ya 4, .inl (kA 0, 7, .inl (aI (va_up vj o_n.toNat 12))))] ++ clW cl g) H := hP
            have hD : va_D A ([(ya 1, .inl (kA 0, 100, .inl (aI ys))), (ya 2, .inl (kA 6, 50, .inr (.inr (.inr (.inr (fun k => some (cl k))))))), (yo, .inr (6, [.ref (ya 0), .int (iI yn), .ref (ya 1), .int (iI ysc), .ref (ya 2), .int (iI ycc), .int (iI ysi), .int (iI (bI ydn)), .int (iI yft), .int (iI yfp), .ref (ya 3), .ref (ya 4)])), (ya 3, .inl (kA 0, 7, .inl (aI (va_up vr o_n.toNat 0)))), (ya 4, .inl (kA 0, 7, .inl (aI (va_up vj o_n.toNat 12))))] ++ clW cl g) := hD
            refine lv_goto (tgt := 135) hx hb d_Y_joinedAnswer_57 (by decide) ?_
            obtain ⟨s_n, es_n⟩ : ∃ y_9 : Int, y_9 = sn + 1 := ⟨_, rfl⟩
            refine lv_iinc (v := iI s_n) (lv' := [(3, .int (iI s_n)), (1, .int (iI o_n)), (4, .int (iI kd)), (2, .int (iI nx)), (0, .ref yo)]) hx hb d_Y_joinedAnswer_135 hl (k := 2) rfl (by rw [es_n]; exact iI_add _ _) (by decide) rfl (fun ls hl => ?_)
            refine lv_goto (tgt := 14) hx hb d_Y_joinedAnswer_138 (by decide) ?_
            exact ih_14 o_n nx s_n (va_up vr o_n.toNat 0) (va_up vj o_n.toNat 12) (by omega) (by first | rfl | (subst_vars; omega) | omega) (by first | exact up_r hyj (by omega) | exact hvj2 | (rw [eo_n]; exact hvj2) | (subst_vars; exact hvj2)) (by first | (unfold jaM; rw [show ysc - 0 = ysc by omega]; rfl) | (rw [es_n, eo_n]; exact hres) | (rw [es_n, ex_n]; exact hres) | (rw [es_n]; exact hres)) (by omega) _ _ (li_sbP hP [2, 0, 1, 3, 4] rfl) (li_sbD hD [2, 0, 1, 3, 4] (by decide) rfl) hS _ (lv_sub hl [0, 3, 1, 4] rfl)
  exact K_14 ((ysc - 0).toNat + 1) 0 0 0 (va_up yr (0 : Int).toNat 0) (va_up yj (0 : Int).toNat 12) (by omega) (by first | rfl | (subst_vars; omega) | omega) (by first | exact up_r hyj (by omega) | exact hvj2 | (rw [eo_n]; exact hvj2) | (subst_vars; exact hvj2)) (by first | (unfold jaM; rw [show ysc - 0 = ysc by omega]; rfl) | (rw [es_n, eo_n]; exact hres) | (rw [es_n, ex_n]; exact hres) | (rw [es_n]; exact hres)) (Nat.lt_succ_self _) _ _ (li_sbP hP [2, 0, 1, 3, 4] rfl) (li_sbD hD [2, 0, 1, 3, 4] (by decide) rfl) hS _ (lv_sub hl [0, 1, 2, 3] rfl)

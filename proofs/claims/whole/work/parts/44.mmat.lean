theorem fouL_r {f : Nat → Int} : ∀ (k : Nat) (z r : Int), 0 ≤ r → r ≤ 3 → fouL f k z r = -1 ∨ (z - r ≤ fouL f k z r ∧ fouL f k z r + 4 ≤ z + k) := by
  intro k
  induction k with
  | zero => intro z r _ _; exact Or.inl rfl
  | succ k ih =>
    intro z r h0 h1
    simp only [fouL]
    split
    · rename_i h
      unfold fouS at h
      split at h
      · exact Or.inr (by omega)
      · omega
    · rename_i h
      have h2 : 0 ≤ fouS f z r ∧ fouS f z r ≤ 3 ∧ fouS f z r ≤ r + 1 := by
        by_cases hd : isDig (f z.toNat) = true
        · rw [fouS_t hd] at h ⊢; omega
        · rw [fouS_f (by simpa using hd)] at h ⊢; omega
      rcases ih (z + 1) (fouS f z r) (by omega) (by omega) with h3 | h3
      · exact Or.inl h3
      · exact Or.inr (by omega)
theorem fouM_r9 {f : Nat → Int} {x y : Int} (h : x ≤ y) : fouM f x y = -1 ∨ (x ≤ fouM f x y ∧ fouM f x y + 4 ≤ y) := by
  rcases fouL_r (f := f) (y - x).toNat x 0 (by omega) (by omega) with h1 | h1
  · exact Or.inl h1
  · refine Or.inr ?_
    unfold fouM; omega
def dtN (ca : Nat → Int) : List (Int × Int) → Int
  | [] => -1
  | q :: t => if 0 ≤ fouM ca q.1 q.2 then numM ca 4 (fouM ca q.1 q.2) 0 else dtN ca t
def dtM (ca : Nat → Int) (r : Int) : Int := dtN ca (gaT ca r 4)
def stL (f : Nat → Int) (pT : Int) : Nat → Int → Bool
  | 0, i => decide (i = pT)
  | n + 1, i => if i < pT ∧ f i.toNat = 42 then stL f pT n (i + 1) else decide (i = pT)
def stE (f : Nat → Int) (pT i : Int) : Bool := stL f pT (pT - i).toNat i
/-- the reference's matching: fuel, place in the pattern, in the word, the last star, where it began to stand -/
def mtL (f : Nat → Int) (pT wT : Int) : Nat → Int → Int → Int → Int → Bool
  | 0, _, _, _, _ => false
  | n + 1, i, k, sr, mq => if wT ≤ k then stE f pT i else if i < pT ∧ f i.toNat = 42 then mtL f pT wT n (i + 1) k i k else if i < pT ∧ (f i.toNat = 63 ∨ sml (f i.toNat) = sml (f k.toNat)) then mtL f pT wT n (i + 1) (k + 1) sr mq else if 0 ≤ sr then mtL f pT wT n (sr + 1) (mq + 1) sr (mq + 1) else false
def mtM (f : Nat → Int) (x xe y ye : Int) : Bool := mtL f xe ye 10000000000000 x y (-1) 0
def mtA (f : Nat → Int) (a w : Int × Int) : Bool := mtM f a.1 a.2 w.1 w.2
def prM (ca : Nat → Int) : List (Int × Int) → List (Int × Int) → Bool
  | [], _ => true
  | _ :: _, [] => false
  | a :: as, w :: ws => mtA ca a w && prM ca as ws
theorem prM_short {ca : Nat → Int} : ∀ (as ws : List (Int × Int)), ws.length < as.length → prM ca as ws = false := by
  intro as
  induction as with
  | nil => intro ws h; simp at h
  | cons a as ih =>
    intro ws h
    cases ws with
    | nil => rfl
    | cons w ws => simp only [prM]; rw [ih ws (by simp at h; omega)]; simp
def adL (ca : Nat → Int) (as : List (Int × Int)) : List (Int × Int) → Bool
  | [] => prM ca as []
  | w :: ws => prM ca as (w :: ws) || adL ca as ws
theorem adL_short {ca : Nat → Int} (as : List (Int × Int)) : ∀ ws : List (Int × Int), ws.length < as.length → adL ca as ws = false := by
  intro ws
  induction ws with
  | nil => intro h; exact prM_short _ _ h
  | cons w ws ih => intro h; simp only [adL]; rw [prM_short _ _ h, ih (by simp at h; omega)]; rfl
def thT (ca : Nat → Int) (a t : Int × Int) : Bool := (spW ca false t.1 t.2).any (mtA ca a)
def thM (ca : Nat → Int) (ts : List (Int × Int)) (a : Int × Int) : Bool := ts.any (thT ca a)

theorem d_M_dateOf_0 : decode b_M_dateOf 0 = .ok (.aload_n 0, 1) := by decide +kernel
theorem d_M_dateOf_1 : decode b_M_dateOf 1 = .ok (.iload_n 1, 1) := by decide +kernel
theorem d_M_dateOf_2 : decode b_M_dateOf 2 = .ok (.iconst 4, 1) := by decide +kernel
theorem d_M_dateOf_3 : decode b_M_dateOf 3 = .ok (.invokevirtual 130, 3) := by decide +kernel
theorem d_M_dateOf_6 : decode b_M_dateOf 6 = .ok (.iconst 0, 1) := by decide +kernel
theorem d_M_dateOf_7 : decode b_M_dateOf 7 = .ok (.istore_n 2, 1) := by decide +kernel
theorem d_M_dateOf_8 : decode b_M_dateOf 8 = .ok (.iload_n 2, 1) := by decide +kernel
theorem d_M_dateOf_9 : decode b_M_dateOf 9 = .ok (.aload_n 0, 1) := by decide +kernel
theorem d_M_dateOf_10 : decode b_M_dateOf 10 = .ok (.getfield 113, 3) := by decide +kernel
theorem d_M_dateOf_13 : decode b_M_dateOf 13 = .ok (.if_icmp .ge 37, 3) := by decide +kernel
theorem d_M_dateOf_16 : decode b_M_dateOf 16 = .ok (.aload_n 0, 1) := by decide +kernel
theorem d_M_dateOf_17 : decode b_M_dateOf 17 = .ok (.aload_n 0, 1) := by decide +kernel
theorem d_M_dateOf_18 : decode b_M_dateOf 18 = .ok (.getfield 26, 3) := by decide +kernel
theorem d_M_dateOf_21 : decode b_M_dateOf 21 = .ok (.iload_n 2, 1) := by decide +kernel
theorem d_M_dateOf_22 : decode b_M_dateOf 22 = .ok (.iaload, 1) := by decide +kernel
theorem d_M_dateOf_23 : decode b_M_dateOf 23 = .ok (.aload_n 0, 1) := by decide +kernel
theorem d_M_dateOf_24 : decode b_M_dateOf 24 = .ok (.getfield 29, 3) := by decide +kernel
theorem d_M_dateOf_27 : decode b_M_dateOf 27 = .ok (.iload_n 2, 1) := by decide +kernel
theorem d_M_dateOf_28 : decode b_M_dateOf 28 = .ok (.iaload, 1) := by decide +kernel
theorem d_M_dateOf_29 : decode b_M_dateOf 29 = .ok (.invokevirtual 133, 3) := by decide +kernel
theorem d_M_dateOf_32 : decode b_M_dateOf 32 = .ok (.istore_n 3, 1) := by decide +kernel
theorem d_M_dateOf_33 : decode b_M_dateOf 33 = .ok (.iload_n 3, 1) := by decide +kernel
theorem d_M_dateOf_34 : decode b_M_dateOf 34 = .ok (.ifCond .lt 10, 3) := by decide +kernel
theorem d_M_dateOf_37 : decode b_M_dateOf 37 = .ok (.aload_n 0, 1) := by decide +kernel
theorem d_M_dateOf_38 : decode b_M_dateOf 38 = .ok (.iload_n 3, 1) := by decide +kernel
theorem d_M_dateOf_39 : decode b_M_dateOf 39 = .ok (.iconst 4, 1) := by decide +kernel
theorem d_M_dateOf_40 : decode b_M_dateOf 40 = .ok (.invokevirtual 110, 3) := by decide +kernel
theorem d_M_dateOf_43 : decode b_M_dateOf 43 = .ok (.ireturn, 1) := by decide +kernel
theorem d_M_dateOf_44 : decode b_M_dateOf 44 = .ok (.iinc 2 1, 3) := by decide +kernel
theorem d_M_dateOf_47 : decode b_M_dateOf 47 = .ok (.goto (-39), 3) := by decide +kernel
theorem d_M_dateOf_50 : decode b_M_dateOf 50 = .ok (.iconst (-1), 1) := by decide +kernel
theorem d_M_dateOf_51 : decode b_M_dateOf 51 = .ok (.ireturn, 1) := by decide +kernel
set_option maxHeartbeats 4000000 in
set_option maxRecDepth 100000 in
theorem c_M_dateOf (l : Launch) (dC : Nat → ClassId) (dI : Nat → Nat → Nat) (kA : Nat → ClassId) (sz : Nat) (mo : Nat) (ma : Nat → Nat) (mrf : Int) (mz : Int) (mls : Int) (mfp : Int) (mfm : Int) (mtx : Int) (mwd : Int) (mak : Int) (mli : Int) (mlx : Int) (mat : Int) (mtk : Int) (mtf : Int) (mtt : Int) (mfa : Int) (mla : Int) (mlp : Int) (mdp : Int) (msi : Int) (mpf : Int) (mpt : Int) (mdn : Bool) (ca : Nat → Int) (ctf : Nat → Int) (ctt : Nat → Int) (r : Int) (rn : Nat) (hca : C2 ca) (hr0 : 0 ≤ r ∧ r ≤ 9) (hRA : RecA (octM ca r) rn) : Met l y_M_dateOf (wsy y_M_dateOf b_M_dateOf 4 (some .int)) (rmd 4 0 0) (li_Pr (dC, dI) CL (TY kA) [.ref mo, .int (iI r)] (fun h => h.size = sz ∧ va_P (dC, dI) CL [(mo, .inr (10, [.int (iI mrf), .ref (ma 0), .int (iI mz), .ref (ma 1), .ref (ma 2), .int (iI mls), .int (iI mfp), .int (iI mfm), .ref (ma 3), .int (iI mtx), .ref (ma 4), .ref (ma 5), .int (iI mwd), .ref (ma 6), .ref (ma 7), .int (iI mak), .ref (ma 8), .ref (ma 9), .int (iI mli), .int (iI mlx), .ref (ma 10), .ref (ma 11), .int (iI mat), .int (iI mtk), .int (iI mtf), .int (iI mtt), .int (iI mfa), .int (iI mla), .int (iI mlp), .int (iI mdp), .ref (ma 12), .ref (ma 13), .int (iI msi), .int (iI (bI mdn)), .int (iI mpf), .int (iI mpt)])), (ma 1, .inl (kA 0, 4120, .inl (aI ca))), (ma 4, .inl (kA 0, 400, .inl (aI ctf))), (ma 5, .inl (kA 0, 400, .inl (aI ctt)))] h ∧ va_D (fun q => dI 100 0 ≤ q) [(mo, .inr (10, [.int (iI mrf), .ref (ma 0), .int (iI mz), .ref (ma 1), .ref (ma 2), .int (iI mls), .int (iI mfp), .int (iI mfm), .ref (ma 3), .int (iI mtx), .ref (ma 4), .ref (ma 5), .int (iI mwd), .ref (ma 6), .ref (ma 7), .int (iI mak), .ref (ma 8), .ref (ma 9), .int (iI mli), .int (iI mlx), .ref (ma 10), .ref (ma 11), .int (iI mat), .int (iI mtk), .int (iI mtf), .int (iI mtt), .int (iI mfa), .int (iI mla), .int (iI mlp), .int (iI mdp), .ref (ma 12), .ref (ma 13), .int (iI msi), .int (iI (bI mdn)), .int (iI mpf), .int (iI mpt)])), (ma 1, .inl (kA 0, 4120, .inl (aI ca))), (ma 4, .inl (kA 0, 400, .inl (aI ctf))), (ma 5, .inl (kA 0, 400, .inl (aI ctt)))] ∧ (fun _ => True) h)) (li_Qw (S := (Int) × (Nat → Int) × (Nat → Int)) (dC, dI) CL (fun _ => True) (fun u => some (.int (iI (dtM ca r)))) (fun u => [(mo, .inr (10, [.int (iI mrf), .ref (ma 0), .int (iI mz), .ref (ma 1), .ref (ma 2), .int (iI mls), .int (iI mfp), .int (iI mfm), .ref (ma 3), .int (iI u.1), .ref (ma 4), .ref (ma 5), .int (iI mwd), .ref (ma 6), .ref (ma 7), .int (iI mak), .ref (ma 8), .ref (ma 9), .int (iI mli), .int (iI mlx), .ref (ma 10), .ref (ma 11), .int (iI mat), .int (iI mtk), .int (iI mtf), .int (iI mtt), .int (iI mfa), .int (iI mla), .int (iI mlp), .int (iI mdp), .ref (ma 12), .ref (ma 13), .int (iI msi), .int (iI (bI mdn)), .int (iI mpf), .int (iI mpt)])), (ma 1, .inl (kA 0, 4120, .inl (aI ca))), (ma 4, .inl (kA 0, 400, .inl (aI u.2.1))), (ma 5, .inl (kA 0, 400, .inl (aI u.2.2)))]) (va_A [(mo, .inr (10, [.int (iI mrf), .ref (ma 0), .int (iI mz), .ref (ma 1), .ref (ma 2), .int (iI mls), .int (iI mfp), .int (iI mfm), .ref (ma 3), .int (iI mtx), .ref (ma 4), .ref (ma 5), .int (iI mwd), .ref (ma 6), .ref (ma 7), .int (iI mak), .ref (ma 8), .ref (ma 9), .int (iI mli), .int (iI mlx), .ref (ma 10), .ref (ma 11), .int (iI mat), .int (iI mtk), .int (iI mtf), .int (iI mtt), .int (iI mfa), .int (iI mla), .int (iI mlp), .int (iI mdp), .ref (ma 12), .ref (ma 13), .int (iI msi), .int (iI (bI mdn)), .int (iI mpf), .int (iI mpt)])), (ma 1, .inl (kA 0, 4120, .inl (aI ca))), (ma 4, .inl (kA 0, 400, .inl (aI ctf))), (ma 5, .inl (kA 0, 400, .inl (aI ctt)))] sz)) 0 0 (va_A [(mo, .inr (10, [.int (iI mrf), .ref (ma 0), .int (iI mz), .ref (ma 1), .ref (ma 2), .int (iI mls), .int (iI mfp), .int (iI mfm), .ref (ma 3), .int (iI mtx), .ref (ma 4), .ref (ma 5), .int (iI mwd), .ref (ma 6), .ref (ma 7), .int (iI mak), .ref (ma 8), .ref (ma 9), .int (iI mli), .int (iI mlx), .ref (ma 10), .ref (ma 11), .int (iI mat), .int (iI mtk), .int (iI mtf), .int (iI mtt), .int (iI mfa), .int (iI mla), .int (iI mlp), .int (iI mdp), .ref (ma 12), .ref (ma 13), .int (iI msi), .int (iI (bI mdn)), .int (iI mpf), .int (iI mpt)])), (ma 1, .inl (kA 0, 4120, .inl (aI ca))), (ma 4, .inl (kA 0, 400, .inl (aI ctf))), (ma 5, .inl (kA 0, 400, .inl (aI ctt)))] sz) := by
  refine li_mwi (r := fun u => dtM ca r) (by decide) (Nat.le_of_ble_eq_true rfl) (fun u _ => by rfl) ?_
  intro p e s m args below meth c Q A C hP hD hBx hK hN hG hA hAi hAN fin ls hl
  obtain ⟨hx, hb, hr, hml, hown, hts, hlocks, hin⟩ := C
  have hown : s.vm.findClass R_M = some m.cls := hown
  have hl : lv_has ls 4 [(0, .ref mo), (1, .int (iI r))] := hl
  suffices h9 : ∀ (H : Heap) (locs : List Loc), H = s.heap → locs = [] → W p l e (rmd 4 0 0) s m args below meth c H locs 0 0 Q (F0 m 0 ls []) from h9 _ _ rfl rfl
  intro H locs eH eL
  have hP : va_P (dC, dI) CL [(mo, .inr (10, [.int (iI mrf), .ref (ma 0), .int (iI mz), .ref (ma 1), .ref (ma 2), .int (iI mls), .int (iI mfp), .int (iI mfm), .ref (ma 3), .int (iI mtx), .ref (ma 4), .ref (ma 5), .int (iI mwd), .ref (ma 6), .ref (ma 7), .int (iI mak), .ref (ma 8), .ref (ma 9), .int (iI mli), .int (iI mlx), .ref (ma 10), .ref (ma 11), .int (iI mat), .int (iI mtk), .int (iI mtf), .int (iI mtt), .int (iI mfa), .int (iI mla), .int (iI mlp), .int (iI mdp), .ref (ma 12), .ref (ma 13), .int (iI msi), .int (iI (bI mdn)), .int (iI mpf), .int (iI mpt)])), (ma 1, .inl (kA 0, 4120, .inl (aI ca))), (ma 4, .inl (kA 0, 400, .inl (aI ctf))), (ma 5, .inl (kA 0, 400, .inl (aI ctt)))] H := by rw [eH]; exact hP
  have hS : va_S A s.heap H locs := by rw [eH, eL]; exact va_S.rf
  refine lv_aload_n hx hb d_M_dateOf_0 rfl (lv_at hl 0 rfl) ?_
  refine lv_iload_n hx hb d_M_dateOf_1 rfl (lv_at hl 1 rfl) ?_
  refine lv_iconst (v := iI 4) hx hb d_M_dateOf_2 rfl ?_
  refine li_callw (wc := [(mo, .inr (10, [.int (iI mrf), .ref (ma 0), .int (iI mz), .ref (ma 1), .ref (ma 2), .int (iI mls), .int (iI mfp), .int (iI mfm), .ref (ma 3), .int (iI mtx), .ref (ma 4), .ref (ma 5), .int (iI mwd), .ref (ma 6), .ref (ma 7), .int (iI mak), .ref (ma 8), .ref (ma 9), .int (iI mli), .int (iI mlx), .ref (ma 10), .ref (ma 11), .int (iI mat), .int (iI mtk), .int (iI mtf), .int (iI mtt), .int (iI mfa), .int (iI mla), .int (iI mlp), .int (iI mdp), .ref (ma 12), .ref (ma 13), .int (iI msi), .int (iI (bI mdn)), .int (iI mpf), .int (iI mpt)])), (ma 1, .inl (kA 0, 4120, .inl (aI ca))), (ma 4, .inl (kA 0, 400, .inl (aI ctf))), (ma 5, .inl (kA 0, 400, .inl (aI ctt)))]) (wr := []) (va_runV (As := [.int (iI r), .int (iI 4)]) (rest := []) ⟨hx, hb, hml, hown, hts⟩ (c_M_gather l dC dI kA H.size mo ma mrf mz mls mfp mfm mtx mwd mak mli mlx mat mtk mtf mtt mfa mla mlp mdp msi mpf mpt mdn ca ctf ctt r 4 _ (by exact hca) (by exact hr0) (by omega) (by exact hRA)) (cw_M_130 hts rfl rfl ⟨Nat.le_of_ble_eq_true rfl, Nat.le_of_ble_eq_true rfl⟩) (li_preV (va_recv hK hP (ci := 10) (q0 := 0) rfl rfl) ⟨rfl, hP.sub [0, 1, 2, 3] rfl, (hD.sub [0, 1, 2, 3] (by decide) rfl).weaken (fun _ _ _ h => hAN _ h), trivial⟩ hK hN (hG.go hS hAN)) rfl rfl hl.1 rfl (lv_room (Nat.le_of_ble_eq_true rfl)) d_M_dateOf_3 ⟨(by show 0 + 0 ≤ 0; omega), (by show 0 + 0 ≤ 0; omega)⟩) hP hD hS hA [0, 1, 2, 3] [] rfl rfl (by decide) (by decide) (fun u1 H locs hu1 hP hD hS _hk => ?_)
  obtain ⟨n_t, f_t, g_t⟩ := u1
  have hP : va_P (dC, dI) CL [(mo, .inr (10, [.int (iI mrf), .ref (ma 0), .int (iI mz), .ref (ma 1), .ref (ma 2), .int (iI mls), .int (iI mfp), .int (iI mfm), .ref (ma 3), .int (iI n_t), .ref (ma 4), .ref (ma 5), .int (iI mwd), .ref (ma 6), .ref (ma 7), .int (iI mak), .ref (ma 8), .ref (ma 9), .int (iI mli), .int (iI mlx), .ref (ma 10), .ref (ma 11), .int (iI mat), .int (iI mtk), .int (iI mtf), .int (iI mtt), .int (iI mfa), .int (iI mla), .int (iI mlp), .int (iI mdp), .ref (ma 12), .ref (ma 13), .int (iI msi), .int (iI (bI mdn)), .int (iI mpf), .int (iI mpt)])), (ma 1, .inl (kA 0, 4120, .inl (aI ca))), (ma 4, .inl (kA 0, 400, .inl (aI f_t))), (ma 5, .inl (kA 0, 400, .inl (aI g_t)))] H := hP
  have hD : va_D A [(mo, .inr (10, [.int (iI mrf), .ref (ma 0), .int (iI mz), .ref (ma 1), .ref (ma 2), .int (iI mls), .int (iI mfp), .int (iI mfm), .ref (ma 3), .int (iI n_t), .ref (ma 4), .ref (ma 5), .int (iI mwd), .ref (ma 6), .ref (ma 7), .int (iI mak), .ref (ma 8), .ref (ma 9), .int (iI mli), .int (iI mlx), .ref (ma 10), .ref (ma 11), .int (iI mat), .int (iI mtk), .int (iI mtf), .int (iI mtt), .int (iI mfa), .int (iI mla), .int (iI mlp), .int (iI mdp), .ref (ma 12), .ref (ma 13), .int (iI msi), .int (iI (bI mdn)), .int (iI mpf), .int (iI mpt)])), (ma 1, .inl (kA 0, 4120, .inl (aI ca))), (ma 4, .inl (kA 0, 400, .inl (aI f_t))), (ma 5, .inl (kA 0, 400, .inl (aI g_t)))] := hD
  have hp3 : HL (gaT ca r 4) n_t f_t g_t ∧ LB (gaT ca r 4) (400 * r) (400 * r + 400) ∧ n_t ≤ 400 := hu1
  have hnt := hp3.1.nn
  refine lv_iconst (v := iI 0) hx hb d_M_dateOf_6 rfl ?_
  refine lv_istore_n (lv' := [(2, .int (iI 0)), (0, .ref mo), (1, .int (iI r))]) hx hb d_M_dateOf_7 rfl hl (by decide) rfl (fun ls hl => ?_)
  have K_8 : ∀ (nn_8 : Nat) (k : Int), (0 ≤ k ∧ k ≤ n_t) → (dtN ca ((gaT ca r 4).drop k.toNat) = dtM ca r) → ((n_t - k).toNat < nn_8) → ∀ (H : Heap) (locs : List Loc), va_P (dC, dI) CL [(mo, .inr (10, [.int (iI mrf), .ref (ma 0), .int (iI mz), .ref (ma 1), .ref (ma 2), .int (iI mls), .int (iI mfp), .int (iI mfm), .ref (ma 3), .int (iI n_t), .ref (ma 4), .ref (ma 5), .int (iI mwd), .ref (ma 6), .ref (ma 7), .int (iI mak), .ref (ma 8), .ref (ma 9), .int (iI mli), .int (iI mlx), .ref (ma 10), .ref (ma 11), .int (iI mat), .int (iI mtk), .int (iI mtf), .int (iI mtt), .int (iI mfa), .int (iI mla), .int (iI mlp), .int (iI mdp), .ref (ma 12), .ref (ma 13), .int (iI msi), .int (iI (bI mdn)), .int (iI mpf), .int (iI mpt)])), (ma 1, .inl (kA 0, 4120, .inl (aI ca))), (ma 4, .inl (kA 0, 400, .inl (aI f_t))), (ma 5, .inl (kA 0, 400, .inl (aI g_t)))] H → va_D A [(mo, .inr (10, [.int (iI mrf), .ref (ma 0), .int (iI mz), .ref (ma 1), .ref (ma 2), .int (iI mls), .int (iI mfp), .int (iI mfm), .ref (ma 3), .int (iI n_t), .ref (ma 4), .ref (ma 5), .int (iI mwd), .ref (ma 6), .ref (ma 7), .int (iI mak), .ref (ma 8), .ref (ma 9), .int (iI mli), .int (iI mlx), .ref (ma 10), .ref (ma 11), .int (iI mat), .int (iI mtk), .int (iI mtf), .int (iI mtt), .int (iI mfa), .int (iI mla), .int (iI mlp), .int (iI mdp), .ref (ma 12), .ref (ma 13), .int (iI msi), .int (iI (bI mdn)), .int (iI mpf), .int (iI mpt)])), (ma 1, .inl (kA 0, 4120, .inl (aI ca))), (ma 4, .inl (kA 0, 400, .inl (aI f_t))), (ma 5, .inl (kA 0, 400, .inl (aI g_t)))] → va_S A s.heap H locs → ∀ ls : Array Slot, lv_has ls 4 [(2, .int (iI k)), (0, .ref mo), (1, .int (iI r))] → W p l e (rmd 4 0 0) s m args below meth c H locs 0 0 Q (F0 m 8 ls []) := by
    intro nn_8
    induction nn_8 with
    | zero => intro k hk9 hres hm; exact absurd hm (Nat.not_lt_zero _)
    | succ nn_8 ih_8 =>
      intro k hk9 hres hm_8 H locs hP hD hS ls hl
      refine lv_iload_n hx hb d_M_dateOf_8 rfl (lv_at hl 0 rfl) ?_
      refine lv_aload_n hx hb d_M_dateOf_9 rfl (lv_at hl 1 rfl) ?_
      refine gf_M_113 hx hb hts hown hK hP 0 rfl rfl d_M_dateOf_10 ?_
      refine li_icmp_ge (tgt := 50) hx hb d_M_dateOf_13 (by decide) (by omega) (by omega) (fun c2 => ?_) (fun c2 => ?_)
      · have _q := c2
        rw [hp3.1.dropE (k := k) (by omega)] at hres
        refine lv_iconst (v := iI (-1)) hx hb d_M_dateOf_50 rfl ?_
        exact fin (n_t, f_t, g_t) _ _ _ _ _ (by rw [← hres]; rfl) (by trivial) (by first | exact hP | (subst_vars; exact hP)) (by first | exact hD | (subst_vars; exact hD)) hS d_M_dateOf_51
      · have _q := c2
        have hdr := hp3.1.drop (k := k) (by omega) (by omega)
        have hmb := hp3.2.1 _ (hp3.1.mem (k := k) (by omega) (by omega))
        simp only at hmb
        rw [hdr] at hres
        simp only [dtN] at hres
        have hfo := fouM_r9 (f := ca) (x := f_t k.toNat) (y := g_t k.toNat) (by omega)
        refine lv_aload_n hx hb d_M_dateOf_16 rfl (lv_at hl 1 rfl) ?_
        refine lv_aload_n hx hb d_M_dateOf_17 rfl (lv_at hl 1 rfl) ?_
        refine gf_M_26 hx hb hts hown hK hP 0 rfl rfl d_M_dateOf_18 ?_
        refine lv_iload_n hx hb d_M_dateOf_21 rfl (lv_at hl 0 rfl) ?_
        refine li_iald hx hb hK hP 2 0 rfl rfl (by omega) (by omega) (by omega) d_M_dateOf_22 ?_
        refine lv_aload_n hx hb d_M_dateOf_23 rfl (lv_at hl 1 rfl) ?_
        refine gf_M_29 hx hb hts hown hK hP 0 rfl rfl d_M_dateOf_24 ?_
        refine lv_iload_n hx hb d_M_dateOf_27 rfl (lv_at hl 0 rfl) ?_
        refine li_iald hx hb hK hP 3 0 rfl rfl (by omega) (by omega) (by omega) d_M_dateOf_28 ?_
        refine li_callr ((va_runV (As := [.int (iI (f_t k.toNat)), .int (iI (g_t k.toNat))]) (rest := []) ⟨hx, hb, hml, hown, hts⟩ (c_M_fourAt l dC dI kA mo ma mrf mz mls mfp mfm n_t mwd mak mli mlx mat mtk mtf mtt mfa mla mlp mdp msi mpf mpt mdn ca (f_t k.toNat) (g_t k.toNat) (by exact hca) (by omega)) (cw_M_133 hts rfl rfl ⟨Nat.le_of_ble_eq_true rfl, Nat.le_of_ble_eq_true rfl⟩) (li_preV (va_recv hK hP (ci := 10) (q0 := 0) rfl rfl) (hP.sub [0, 1] rfl) hK hN (hG.go hS hAN)) rfl rfl hl.1 rfl (lv_room (Nat.le_of_ble_eq_true rfl)) d_M_dateOf_29 ⟨(by show 0 + 0 ≤ 0; omega), (by show 0 + 0 ≤ 0; omega)⟩).run) ?_
        refine li_nm (fun fo efo => ?_)
        refine lv_istore_n (lv' := [(3, .int (iI fo)), (2, .int (iI k)), (0, .ref mo), (1, .int (iI r))]) hx hb d_M_dateOf_32 rfl hl (by decide) rfl (fun ls hl => ?_)
        refine lv_iload_n hx hb d_M_dateOf_33 rfl (lv_at hl 0 rfl) ?_
        refine li_if_lt (tgt := 44) hx hb d_M_dateOf_34 (by decide) (by omega) (fun c3 => ?_) (fun c3 => ?_)
        · have _q := c3
          rw [if_neg (by omega)] at hres
          obtain ⟨k_n, ek_n⟩ : ∃ y_9 : Int, y_9 = k + 1 := ⟨_, rfl⟩
          refine lv_iinc (v := iI k_n) (lv' := [(2, .int (iI k_n)), (3, .int (iI fo)), (0, .ref mo), (1, .int (iI r))]) hx hb d_M_dateOf_44 hl (k := 1) rfl (by rw [ek_n]; exact iI_add _ _) (by decide) rfl (fun ls hl => ?_)
          refine lv_goto (tgt := 8) hx hb d_M_dateOf_47 (by decide) ?_
          exact ih_8 k_n (by omega) (by rw [ek_n]; exact hres) (by omega) _ _ hP hD hS _ (lv_sub hl [0, 2, 3] rfl)
        · have _q := c3
          rw [if_pos (by omega)] at hres
          refine lv_aload_n hx hb d_M_dateOf_37 rfl (lv_at hl 2 rfl) ?_
          refine lv_iload_n hx hb d_M_dateOf_38 rfl (lv_at hl 0 rfl) ?_
          refine lv_iconst (v := iI 4) hx hb d_M_dateOf_39 rfl ?_
          refine li_callr ((va_runV (As := [.int (iI fo), .int (iI 4)]) (rest := []) ⟨hx, hb, hml, hown, hts⟩ (c_M_numberOf l dC dI kA mo ma mrf mz mls mfp mfm n_t mwd mak mli mlx mat mtk mtf mtt mfa mla mlp mdp msi mpf mpt mdn ca fo 4 (by omega)) (cw_M_110 hts rfl rfl ⟨Nat.le_of_ble_eq_true rfl, Nat.le_of_ble_eq_true rfl⟩) (li_preV (va_recv hK hP (ci := 10) (q0 := 0) rfl rfl) (hP.sub [0, 1] rfl) hK hN (hG.go hS hAN)) rfl rfl hl.1 rfl (lv_room (Nat.le_of_ble_eq_true rfl)) d_M_dateOf_40 ⟨(by show 0 + 0 ≤ 0; omega), (by show 0 + 0 ≤ 0; omega)⟩).run) ?_
          exact fin (n_t, f_t, g_t) _ _ _ _ _ (by rw [← hres, ← efo]; rfl) (by trivial) (by first | exact hP | (subst_vars; exact hP)) (by first | exact hD | (subst_vars; exact hD)) hS d_M_dateOf_43
  exact K_8 ((n_t - 0).toNat + 1) 0 (by omega) (by rfl) (Nat.lt_succ_self _) _ _ hP hD hS _ (lv_sub hl [0, 1, 2] rfl)
theorem d_M_matches_0 : decode b_M_matches 0 = .ok (.iload_n 1, 1) := by decide +kernel
theorem d_M_matches_1 : decode b_M_matches 1 = .ok (.istore 5, 2) := by decide +kernel
theorem d_M_matches_3 : decode b_M_matches 3 = .ok (.iload_n 3, 1) := by decide +kernel
theorem d_M_matches_4 : decode b_M_matches 4 = .ok (.istore 6, 2) := by decide +kernel
theorem d_M_matches_6 : decode b_M_matches 6 = .ok (.iconst (-1), 1) := by decide +kernel
theorem d_M_matches_7 : decode b_M_matches 7 = .ok (.istore 7, 2) := by decide +kernel
theorem d_M_matches_9 : decode b_M_matches 9 = .ok (.iconst 0, 1) := by decide +kernel
theorem d_M_matches_10 : decode b_M_matches 10 = .ok (.istore 8, 2) := by decide +kernel
theorem d_M_matches_12 : decode b_M_matches 12 = .ok (.iload 6, 2) := by decide +kernel
theorem d_M_matches_14 : decode b_M_matches 14 = .ok (.iload 4, 2) := by decide +kernel
theorem d_M_matches_16 : decode b_M_matches 16 = .ok (.if_icmp .ge 108, 3) := by decide +kernel
theorem d_M_matches_19 : decode b_M_matches 19 = .ok (.iload 5, 2) := by decide +kernel
theorem d_M_matches_21 : decode b_M_matches 21 = .ok (.iload_n 2, 1) := by decide +kernel
theorem d_M_matches_22 : decode b_M_matches 22 = .ok (.if_icmp .ge 29, 3) := by decide +kernel
theorem d_M_matches_25 : decode b_M_matches 25 = .ok (.aload_n 0, 1) := by decide +kernel
theorem d_M_matches_26 : decode b_M_matches 26 = .ok (.getfield 13, 3) := by decide +kernel
theorem d_M_matches_29 : decode b_M_matches 29 = .ok (.iload 5, 2) := by decide +kernel
theorem d_M_matches_31 : decode b_M_matches 31 = .ok (.iaload, 1) := by decide +kernel
theorem d_M_matches_32 : decode b_M_matches 32 = .ok (.bipush 42, 2) := by decide +kernel
theorem d_M_matches_34 : decode b_M_matches 34 = .ok (.if_icmp .ne 17, 3) := by decide +kernel
theorem d_M_matches_37 : decode b_M_matches 37 = .ok (.iload 5, 2) := by decide +kernel
theorem d_M_matches_39 : decode b_M_matches 39 = .ok (.istore 7, 2) := by decide +kernel
theorem d_M_matches_41 : decode b_M_matches 41 = .ok (.iload 6, 2) := by decide +kernel
theorem d_M_matches_43 : decode b_M_matches 43 = .ok (.istore 8, 2) := by decide +kernel
theorem d_M_matches_45 : decode b_M_matches 45 = .ok (.iinc 5 1, 3) := by decide +kernel
theorem d_M_matches_48 : decode b_M_matches 48 = .ok (.goto (-36), 3) := by decide +kernel
theorem d_M_matches_51 : decode b_M_matches 51 = .ok (.iload 5, 2) := by decide +kernel
theorem d_M_matches_53 : decode b_M_matches 53 = .ok (.iload_n 2, 1) := by decide +kernel
theorem d_M_matches_54 : decode b_M_matches 54 = .ok (.if_icmp .ge 47, 3) := by decide +kernel
theorem d_M_matches_57 : decode b_M_matches 57 = .ok (.aload_n 0, 1) := by decide +kernel
theorem d_M_matches_58 : decode b_M_matches 58 = .ok (.getfield 13, 3) := by decide +kernel
theorem d_M_matches_61 : decode b_M_matches 61 = .ok (.iload 5, 2) := by decide +kernel
theorem d_M_matches_63 : decode b_M_matches 63 = .ok (.iaload, 1) := by decide +kernel
theorem d_M_matches_64 : decode b_M_matches 64 = .ok (.bipush 63, 2) := by decide +kernel
theorem d_M_matches_66 : decode b_M_matches 66 = .ok (.if_icmp .eq 26, 3) := by decide +kernel
theorem d_M_matches_69 : decode b_M_matches 69 = .ok (.aload_n 0, 1) := by decide +kernel
theorem d_M_matches_70 : decode b_M_matches 70 = .ok (.getfield 13, 3) := by decide +kernel
theorem d_M_matches_73 : decode b_M_matches 73 = .ok (.iload 5, 2) := by decide +kernel
theorem d_M_matches_75 : decode b_M_matches 75 = .ok (.iaload, 1) := by decide +kernel
theorem d_M_matches_76 : decode b_M_matches 76 = .ok (.invokestatic 136, 3) := by decide +kernel
theorem d_M_matches_79 : decode b_M_matches 79 = .ok (.aload_n 0, 1) := by decide +kernel
theorem d_M_matches_80 : decode b_M_matches 80 = .ok (.getfield 13, 3) := by decide +kernel
theorem d_M_matches_83 : decode b_M_matches 83 = .ok (.iload 6, 2) := by decide +kernel
theorem d_M_matches_85 : decode b_M_matches 85 = .ok (.iaload, 1) := by decide +kernel
theorem d_M_matches_86 : decode b_M_matches 86 = .ok (.invokestatic 136, 3) := by decide +kernel
theorem d_M_matches_89 : decode b_M_matches 89 = .ok (.if_icmp .ne 12, 3) := by decide +kernel
theorem d_M_matches_92 : decode b_M_matches 92 = .ok (.iinc 5 1, 3) := by decide +kernel
theorem d_M_matches_95 : decode b_M_matches 95 = .ok (.iinc 6 1, 3) := by decide +kernel
theorem d_M_matches_98 : decode b_M_matches 98 = .ok (.goto (-86), 3) := by decide +kernel
theorem d_M_matches_101 : decode b_M_matches 101 = .ok (.iload 7, 2) := by decide +kernel
theorem d_M_matches_103 : decode b_M_matches 103 = .ok (.ifCond .lt 19, 3) := by decide +kernel
theorem d_M_matches_106 : decode b_M_matches 106 = .ok (.iinc 8 1, 3) := by decide +kernel
theorem d_M_matches_109 : decode b_M_matches 109 = .ok (.iload 8, 2) := by decide +kernel
theorem d_M_matches_111 : decode b_M_matches 111 = .ok (.istore 6, 2) := by decide +kernel
theorem d_M_matches_113 : decode b_M_matches 113 = .ok (.iload 7, 2) := by decide +kernel
theorem d_M_matches_115 : decode b_M_matches 115 = .ok (.iconst 1, 1) := by decide +kernel
theorem d_M_matches_116 : decode b_M_matches 116 = .ok (.iadd, 1) := by decide +kernel
theorem d_M_matches_117 : decode b_M_matches 117 = .ok (.istore 5, 2) := by decide +kernel
theorem d_M_matches_119 : decode b_M_matches 119 = .ok (.goto (-107), 3) := by decide +kernel
theorem d_M_matches_122 : decode b_M_matches 122 = .ok (.iconst 0, 1) := by decide +kernel
theorem d_M_matches_123 : decode b_M_matches 123 = .ok (.ireturn, 1) := by decide +kernel
theorem d_M_matches_124 : decode b_M_matches 124 = .ok (.iload 5, 2) := by decide +kernel
theorem d_M_matches_126 : decode b_M_matches 126 = .ok (.iload_n 2, 1) := by decide +kernel
theorem d_M_matches_127 : decode b_M_matches 127 = .ok (.if_icmp .ge 21, 3) := by decide +kernel
theorem d_M_matches_130 : decode b_M_matches 130 = .ok (.aload_n 0, 1) := by decide +kernel
theorem d_M_matches_131 : decode b_M_matches 131 = .ok (.getfield 13, 3) := by decide +kernel
theorem d_M_matches_134 : decode b_M_matches 134 = .ok (.iload 5, 2) := by decide +kernel
theorem d_M_matches_136 : decode b_M_matches 136 = .ok (.iaload, 1) := by decide +kernel
theorem d_M_matches_137 : decode b_M_matches 137 = .ok (.bipush 42, 2) := by decide +kernel
theorem d_M_matches_139 : decode b_M_matches 139 = .ok (.if_icmp .ne 9, 3) := by decide +kernel
theorem d_M_matches_142 : decode b_M_matches 142 = .ok (.iinc 5 1, 3) := by decide +kernel
theorem d_M_matches_145 : decode b_M_matches 145 = .ok (.goto (-21), 3) := by decide +kernel
theorem d_M_matches_148 : decode b_M_matches 148 = .ok (.iload 5, 2) := by decide +kernel
theorem d_M_matches_150 : decode b_M_matches 150 = .ok (.iload_n 2, 1) := by decide +kernel
theorem d_M_matches_151 : decode b_M_matches 151 = .ok (.if_icmp .ne 7, 3) := by decide +kernel
theorem d_M_matches_154 : decode b_M_matches 154 = .ok (.iconst 1, 1) := by decide +kernel
theorem d_M_matches_155 : decode b_M_matches 155 = .ok (.goto 4, 3) := by decide +kernel
theorem d_M_matches_158 : decode b_M_matches 158 = .ok (.iconst 0, 1) := by decide +kernel
theorem d_M_matches_159 : decode b_M_matches 159 = .ok (.ireturn, 1) := by decide +kernel
set_option maxHeartbeats 4000000 in
set_option maxRecDepth 100000 in
theorem c_M_matches (l : Launch) (dC : Nat → ClassId) (dI : Nat → Nat → Nat) (kA : Nat → ClassId) (mo : Nat) (ma : Nat → Nat) (mrf : Int) (mz : Int) (mls : Int) (mfp : Int) (mfm : Int) (mtx : Int) (mwd : Int) (mak : Int) (mli : Int) (mlx : Int) (mat : Int) (mtk : Int) (mtf : Int) (mtt : Int) (mfa : Int) (mla : Int) (mlp : Int) (mdp : Int) (msi : Int) (mpf : Int) (mpt : Int) (mdn : Bool) (ca : Nat → Int) (x : Int) (xe : Int) (y : Int) (ye : Int) (hca : C2 ca) (hx0 : 0 ≤ x ∧ x ≤ xe ∧ xe ≤ 4120 ∧ 0 ≤ y ∧ y ≤ ye ∧ ye ≤ 4120) : Met l y_M_matches (wsy y_M_matches b_M_matches 9 (some .boolean)) (rmd 1 0 0) (li_Pr (dC, dI) CL (TY kA) [.ref mo, .int (iI x), .int (iI xe), .int (iI y), .int (iI ye)] (va_P (dC, dI) CL [(mo, .inr (10, [.int (iI mrf), .ref (ma 0), .int (iI mz), .ref (ma 1), .ref (ma 2), .int (iI mls), .int (iI mfp), .int (iI mfm), .ref (ma 3), .int (iI mtx), .ref (ma 4), .ref (ma 5), .int (iI mwd), .ref (ma 6), .ref (ma 7), .int (iI mak), .ref (ma 8), .ref (ma 9), .int (iI mli), .int (iI mlx), .ref (ma 10), .ref (ma 11), .int (iI mat), .int (iI mtk), .int (iI mtf), .int (iI mtt), .int (iI mfa), .int (iI mla), .int (iI mlp), .int (iI mdp), .ref (ma 12), .ref (ma 13), .int (iI msi), .int (iI (bI mdn)), .int (iI mpf), .int (iI mpt)])), (ma 1, .inl (kA 0, 4120, .inl (aI ca)))])) (k2_QcV (.int (iI (bI (mtM ca x xe y ye))))) 0 0 (fun _ => False) := by
  refine li_mr (by decide) (Nat.le_of_ble_eq_true rfl) (by exact li_narZ2 _) ?_
  intro p e s m args below meth c Q C hP hK hN hG fin ls hl
  obtain ⟨hx, hb, hr, hml, hown, hts, hlocks, hin⟩ := C
  have hown : s.vm.findClass R_M = some m.cls := hown
  have hP : va_P (dC, dI) CL [(mo, .inr (10, [.int (iI mrf), .ref (ma 0), .int (iI mz), .ref (ma 1), .ref (ma 2), .int (iI mls), .int (iI mfp), .int (iI mfm), .ref (ma 3), .int (iI mtx), .ref (ma 4), .ref (ma 5), .int (iI mwd), .ref (ma 6), .ref (ma 7), .int (iI mak), .ref (ma 8), .ref (ma 9), .int (iI mli), .int (iI mlx), .ref (ma 10), .ref (ma 11), .int (iI mat), .int (iI mtk), .int (iI mtf), .int (iI mtt), .int (iI mfa), .int (iI mla), .int (iI mlp), .int (iI mdp), .ref (ma 12), .ref (ma 13), .int (iI msi), .int (iI (bI mdn)), .int (iI mpf), .int (iI mpt)])), (ma 1, .inl (kA 0, 4120, .inl (aI ca)))] s.heap := hP
  have hl : lv_has ls 9 [(0, .ref mo), (1, .int (iI x)), (2, .int (iI xe)), (3, .int (iI y)), (4, .int (iI ye))] := hl
  have K_124 : ∀ (nn_124 : Nat) (i : Int), (x ≤ i ∧ i ≤ xe) → (stL ca xe (xe - i).toNat i = mtM ca x xe y ye) → ((xe - i).toNat < nn_124) → ∀ ls : Array Slot, lv_has ls 9 [(0, .ref mo), (1, .int (iI x)), (2, .int (iI xe)), (3, .int (iI y)), (4, .int (iI ye)), (5, .int (iI i))] → W p l e (rmd 1 0 0) s m args below meth c s.heap [] 0 0 Q (F0 m 124 ls []) := by
    intro nn_124
    induction nn_124 with
    | zero => intro i hi9 hre2 hm; exact absurd hm (Nat.not_lt_zero _)
    | succ nn_124 ih_124 =>
      intro i hi9 hre2 hm_124 ls hl
      refine lv_iload hx hb d_M_matches_124 (lv_at hl 5 rfl) ?_
      refine lv_iload_n hx hb d_M_matches_126 rfl (lv_at hl 2 rfl) ?_
      refine li_icmp_ge (tgt := 148) hx hb d_M_matches_127 (by decide) (by first | omega | (have h8 := sml_r (c := ca i.toNat) (by omega); omega) | (have h8 := sml_r (c := ca k.toNat) (by omega); omega)) (by first | omega | (have h8 := sml_r (c := ca i.toNat) (by omega); omega) | (have h8 := sml_r (c := ca k.toNat) (by omega); omega)) (fun c1 => ?_) (fun c1 => ?_)
      · have _q := c1
        rw [show (xe - i).toNat = 0 by omega] at hre2
        simp only [stL] at hre2
        refine lv_iload hx hb d_M_matches_148 (lv_at hl 5 rfl) ?_
        refine lv_iload_n hx hb d_M_matches_150 rfl (lv_at hl 2 rfl) ?_
        refine li_icmp_ne (tgt := 158) hx hb d_M_matches_151 (by decide) (by first | omega | (have h8 := sml_r (c := ca i.toNat) (by omega); omega) | (have h8 := sml_r (c := ca k.toNat) (by omega); omega)) (by first | omega | (have h8 := sml_r (c := ca i.toNat) (by omega); omega) | (have h8 := sml_r (c := ca k.toNat) (by omega); omega)) (fun c2 => ?_) (fun c2 => ?_)
        · have _q := c2
          refine lv_iconst (v := iI 0) hx hb d_M_matches_158 rfl ?_
          exact fin _ _ _ (by first | exact bI_t (by rw [← hre2]; exact decide_eq_true (by omega)) | exact bI_f (by rw [← hre2]; exact decide_eq_false (by omega))) d_M_matches_159
        · have _q := c2
          refine lv_iconst (v := iI 1) hx hb d_M_matches_154 rfl ?_
          refine lv_goto (tgt := 159) hx hb d_M_matches_155 (by decide) ?_
          exact fin _ _ _ (by first | exact bI_t (by rw [← hre2]; exact decide_eq_true (by omega)) | exact bI_f (by rw [← hre2]; exact decide_eq_false (by omega))) d_M_matches_159
      · have _q := c1
        rw [show (xe - i).toNat = (xe - (i + 1)).toNat + 1 by omega] at hre2
        simp only [stL] at hre2
        refine lv_aload_n hx hb d_M_matches_130 rfl (lv_at hl 0 rfl) ?_
        refine gf_M_13 hx hb hts hown hK hP 0 rfl rfl d_M_matches_131 ?_
        refine lv_iload hx hb d_M_matches_134 (lv_at hl 5 rfl) ?_
        refine li_iald hx hb hK hP 1 0 rfl rfl (by omega) (by omega) (by omega) d_M_matches_136 ?_
        have f3 := hca i.toNat
        refine lv_bipush (v := iI 42) hx hb d_M_matches_137 (by decide) ?_
        refine li_icmp_ne (tgt := 148) hx hb d_M_matches_139 (by decide) (by first | omega | (have h8 := sml_r (c := ca i.toNat) (by omega); omega) | (have h8 := sml_r (c := ca k.toNat) (by omega); omega)) (by first | omega | (have h8 := sml_r (c := ca i.toNat) (by omega); omega) | (have h8 := sml_r (c := ca k.toNat) (by omega); omega)) (fun c4 => ?_) (fun c4 => ?_)
        · have _q := c4
          rw [if_neg (fun q => absurd q.2 (by assumption))] at hre2
          refine lv_iload hx hb d_M_matches_148 (lv_at hl 5 rfl) ?_
          refine lv_iload_n hx hb d_M_matches_150 rfl (lv_at hl 2 rfl) ?_
          refine li_icmp_ne (tgt := 158) hx hb d_M_matches_151 (by decide) (by first | omega | (have h8 := sml_r (c := ca i.toNat) (by omega); omega) | (have h8 := sml_r (c := ca k.toNat) (by omega); omega)) (by first | omega | (have h8 := sml_r (c := ca i.toNat) (by omega); omega) | (have h8 := sml_r (c := ca k.toNat) (by omega); omega)) (fun c5 => ?_) (fun c5 => ?_)
          · have _q := c5
            refine lv_iconst (v := iI 0) hx hb d_M_matches_158 rfl ?_
            exact fin _ _ _ (by first | exact bI_t (by rw [← hre2]; exact decide_eq_true (by omega)) | exact bI_f (by rw [← hre2]; exact decide_eq_false (by omega))) d_M_matches_159
          · have _q := c5
            refine lv_iconst (v := iI 1) hx hb d_M_matches_154 rfl ?_
            refine lv_goto (tgt := 159) hx hb d_M_matches_155 (by decide) ?_
            exact fin _ _ _ (by first | exact bI_t (by rw [← hre2]; exact decide_eq_true (by omega)) | exact bI_f (by rw [← hre2]; exact decide_eq_false (by omega))) d_M_matches_159
        · have _q := c4
          rw [if_pos ⟨by assumption, by assumption⟩] at hre2
          obtain ⟨i_d, ei_d⟩ : ∃ y_9 : Int, y_9 = i + 1 := ⟨_, rfl⟩
          refine lv_iinc (v := iI i_d) (lv' := [(5, .int (iI i_d)), (0, .ref mo), (1, .int (iI x)), (2, .int (iI xe)), (3, .int (iI y)), (4, .int (iI ye))]) hx hb d_M_matches_142 hl (k := 5) rfl (by rw [ei_d]; exact iI_add _ _) (by decide) rfl (fun ls hl => ?_)
          refine lv_goto (tgt := 124) hx hb d_M_matches_145 (by decide) ?_
          exact ih_124 i_d (by omega) (by rw [ei_d]; exact hre2) (by omega) _ (lv_sub hl [1, 2, 3, 4, 5, 0] rfl)
  have K_12 : ∀ (nn_12 : Nat) (i : Int) (k : Int) (sr : Int) (mq : Int) (f : Nat), (x ≤ i ∧ i ≤ xe ∧ y ≤ k ∧ k ≤ ye ∧ 0 ≤ mq ∧ mq ≤ k ∧ -1 ≤ sr ∧ sr < i ∧ (sr = -1 ∨ (x ≤ sr ∧ y ≤ mq))) → (((ye - mq) * 10000000 + (xe - sr) * 2000 + (ye - k) + (xe - i)).toNat < f) → (mtL ca xe ye f i k sr mq = mtM ca x xe y ye) → (((ye - mq) * 10000000 + (xe - sr) * 2000 + (ye - k) + (xe - i)).toNat < nn_12) → ∀ ls : Array Slot, lv_has ls 9 [(0, .ref mo), (1, .int (iI x)), (2, .int (iI xe)), (3, .int (iI y)), (4, .int (iI ye)), (5, .int (iI i)), (6, .int (iI k)), (7, .int (iI sr)), (8, .int (iI mq))] → W p l e (rmd 1 0 0) s m args below meth c s.heap [] 0 0 Q (F0 m 12 ls []) := by
    intro nn_12
    induction nn_12 with
    | zero => intro i k sr mq f hi9 hff hres hm; exact absurd hm (Nat.not_lt_zero _)
    | succ nn_12 ih_12 =>
      intro i k sr mq f hi9 hff hres hm_12 ls hl
      obtain ⟨g, rfl⟩ : ∃ g, f = g + 1 := ⟨f - 1, by omega⟩
      simp only [mtL] at hres
      refine lv_iload hx hb d_M_matches_12 (lv_at hl 6 rfl) ?_
      refine lv_iload hx hb d_M_matches_14 (lv_at hl 4 rfl) ?_
      refine li_icmp_ge (tgt := 124) hx hb d_M_matches_16 (by decide) (by first | omega | (have h8 := sml_r (c := ca i.toNat) (by omega); omega) | (have h8 := sml_r (c := ca k.toNat) (by omega); omega)) (by first | omega | (have h8 := sml_r (c := ca i.toNat) (by omega); omega) | (have h8 := sml_r (c := ca k.toNat) (by omega); omega)) (fun c6 => ?_) (fun c6 => ?_)
      · have _q := c6
        rw [if_pos (by assumption)] at hres
        exact K_124 ((xe - i).toNat + 1) i (by omega) (by exact hres) (Nat.lt_succ_self _) _ (lv_sub hl [0, 1, 2, 3, 4, 5] rfl)
      · have _q := c6
        rw [if_neg (by omega)] at hres
        refine lv_iload hx hb d_M_matches_19 (lv_at hl 5 rfl) ?_
        refine lv_iload_n hx hb d_M_matches_21 rfl (lv_at hl 2 rfl) ?_
        refine li_icmp_ge (tgt := 51) hx hb d_M_matches_22 (by decide) (by first | omega | (have h8 := sml_r (c := ca i.toNat) (by omega); omega) | (have h8 := sml_r (c := ca k.toNat) (by omega); omega)) (by first | omega | (have h8 := sml_r (c := ca i.toNat) (by omega); omega) | (have h8 := sml_r (c := ca k.toNat) (by omega); omega)) (fun c7 => ?_) (fun c7 => ?_)
        · have _q := c7
          rw [if_neg (by omega), if_neg (by omega)] at hres
          refine lv_iload hx hb d_M_matches_51 (lv_at hl 5 rfl) ?_
          refine lv_iload_n hx hb d_M_matches_53 rfl (lv_at hl 2 rfl) ?_
          refine li_icmp_ge (tgt := 101) hx hb d_M_matches_54 (by decide) (by first | omega | (have h8 := sml_r (c := ca i.toNat) (by omega); omega) | (have h8 := sml_r (c := ca k.toNat) (by omega); omega)) (by first | omega | (have h8 := sml_r (c := ca i.toNat) (by omega); omega) | (have h8 := sml_r (c := ca k.toNat) (by omega); omega)) (fun c8 => ?_) (fun c8 => ?_)
          · have _q := c8
            refine lv_iload hx hb d_M_matches_101 (lv_at hl 7 rfl) ?_
            refine li_if_lt (tgt := 122) hx hb d_M_matches_103 (by decide) (by first | omega | (have h8 := sml_r (c := ca i.toNat) (by omega); omega) | (have h8 := sml_r (c := ca k.toNat) (by omega); omega)) (fun c9 => ?_) (fun c9 => ?_)
            · have _q := c9
              rw [if_neg (by omega)] at hres
              refine lv_iconst (v := iI 0) hx hb d_M_matches_122 rfl ?_
              exact fin _ _ _ (by exact bI_f (by rw [← hres])) d_M_matches_123
            · have _q := c9
              rw [if_pos (by omega)] at hres
              obtain ⟨m_c, em_c⟩ : ∃ y_9 : Int, y_9 = mq + 1 := ⟨_, rfl⟩
              refine lv_iinc (v := iI m_c) (lv' := [(8, .int (iI m_c)), (0, .ref mo), (1, .int (iI x)), (2, .int (iI xe)), (3, .int (iI y)), (4, .int (iI ye)), (5, .int (iI i)), (6, .int (iI k)), (7, .int (iI sr))]) hx hb d_M_matches_106 hl (k := 8) rfl (by rw [em_c]; exact iI_add _ _) (by decide) rfl (fun ls hl => ?_)
              refine lv_iload hx hb d_M_matches_109 (lv_at hl 0 rfl) ?_
              refine lv_istore (lv' := [(6, .int (iI m_c)), (8, .int (iI m_c)), (0, .ref mo), (1, .int (iI x)), (2, .int (iI xe)), (3, .int (iI y)), (4, .int (iI ye)), (5, .int (iI i)), (7, .int (iI sr))]) hx hb d_M_matches_111 hl (by decide) rfl (fun ls hl => ?_)
              refine lv_iload hx hb d_M_matches_113 (lv_at hl 8 rfl) ?_
              refine lv_iconst (v := iI 1) hx hb d_M_matches_115 rfl ?_
              refine li_iadd hx hb d_M_matches_116 ?_
              refine li_nm (fun i_c ei_c => ?_)
              refine lv_istore (lv' := [(5, .int (iI i_c)), (6, .int (iI m_c)), (8, .int (iI m_c)), (0, .ref mo), (1, .int (iI x)), (2, .int (iI xe)), (3, .int (iI y)), (4, .int (iI ye)), (7, .int (iI sr))]) hx hb d_M_matches_117 hl (by decide) rfl (fun ls hl => ?_)
              refine lv_goto (tgt := 12) hx hb d_M_matches_119 (by decide) ?_
              exact ih_12 i_c m_c sr m_c g (by omega) (by omega) (by first | (rw [ei_a]; exact hres) | (rw [ei_b, ek_b]; exact hres) | (rw [ei_c, em_c]; exact hres)) (by omega) _ (lv_sub hl [3, 4, 5, 6, 7, 0, 1, 8, 2] rfl)
          · have _q := c8
            exact absurd c8 (by omega)
        · have _q := c7
          refine lv_aload_n hx hb d_M_matches_25 rfl (lv_at hl 0 rfl) ?_
          refine gf_M_13 hx hb hts hown hK hP 0 rfl rfl d_M_matches_26 ?_
          refine lv_iload hx hb d_M_matches_29 (lv_at hl 5 rfl) ?_
          refine li_iald hx hb hK hP 1 0 rfl rfl (by omega) (by omega) (by omega) d_M_matches_31 ?_
          have f10 := hca i.toNat
          refine lv_bipush (v := iI 42) hx hb d_M_matches_32 (by decide) ?_
          refine li_icmp_ne (tgt := 51) hx hb d_M_matches_34 (by decide) (by first | omega | (have h8 := sml_r (c := ca i.toNat) (by omega); omega) | (have h8 := sml_r (c := ca k.toNat) (by omega); omega)) (by first | omega | (have h8 := sml_r (c := ca i.toNat) (by omega); omega) | (have h8 := sml_r (c := ca k.toNat) (by omega); omega)) (fun c11 => ?_) (fun c11 => ?_)
          · have _q := c11
            rw [if_neg (fun q => absurd q.2 (by assumption))] at hres
            refine lv_iload hx hb d_M_matches_51 (lv_at hl 5 rfl) ?_
            refine lv_iload_n hx hb d_M_matches_53 rfl (lv_at hl 2 rfl) ?_
            refine li_icmp_ge (tgt := 101) hx hb d_M_matches_54 (by decide) (by first | omega | (have h8 := sml_r (c := ca i.toNat) (by omega); omega) | (have h8 := sml_r (c := ca k.toNat) (by omega); omega)) (by first | omega | (have h8 := sml_r (c := ca i.toNat) (by omega); omega) | (have h8 := sml_r (c := ca k.toNat) (by omega); omega)) (fun c12 => ?_) (fun c12 => ?_)
            · have _q := c12
              exact absurd c12 (by omega)
            · have _q := c12
              refine lv_aload_n hx hb d_M_matches_57 rfl (lv_at hl 0 rfl) ?_
              refine gf_M_13 hx hb hts hown hK hP 0 rfl rfl d_M_matches_58 ?_
              refine lv_iload hx hb d_M_matches_61 (lv_at hl 5 rfl) ?_
              refine li_iald hx hb hK hP 1 0 rfl rfl (by omega) (by omega) (by omega) d_M_matches_63 ?_
              have f13 := hca i.toNat
              refine lv_bipush (v := iI 63) hx hb d_M_matches_64 (by decide) ?_
              refine li_icmp_eq (tgt := 92) hx hb d_M_matches_66 (by decide) (by first | omega | (have h8 := sml_r (c := ca i.toNat) (by omega); omega) | (have h8 := sml_r (c := ca k.toNat) (by omega); omega)) (by first | omega | (have h8 := sml_r (c := ca i.toNat) (by omega); omega) | (have h8 := sml_r (c := ca k.toNat) (by omega); omega)) (fun c14 => ?_) (fun c14 => ?_)
              · have _q := c14
                rw [if_pos ⟨by omega, Or.inl (by assumption)⟩] at hres
                obtain ⟨i_b, ei_b⟩ : ∃ y_9 : Int, y_9 = i + 1 := ⟨_, rfl⟩
                refine lv_iinc (v := iI i_b) (lv' := [(5, .int (iI i_b)), (0, .ref mo), (1, .int (iI x)), (2, .int (iI xe)), (3, .int (iI y)), (4, .int (iI ye)), (6, .int (iI k)), (7, .int (iI sr)), (8, .int (iI mq))]) hx hb d_M_matches_92 hl (k := 5) rfl (by rw [ei_b]; exact iI_add _ _) (by decide) rfl (fun ls hl => ?_)
                obtain ⟨k_b, ek_b⟩ : ∃ y_9 : Int, y_9 = k + 1 := ⟨_, rfl⟩
                refine lv_iinc (v := iI k_b) (lv' := [(6, .int (iI k_b)), (5, .int (iI i_b)), (0, .ref mo), (1, .int (iI x)), (2, .int (iI xe)), (3, .int (iI y)), (4, .int (iI ye)), (7, .int (iI sr)), (8, .int (iI mq))]) hx hb d_M_matches_95 hl (k := 6) rfl (by rw [ek_b]; exact iI_add _ _) (by decide) rfl (fun ls hl => ?_)
                refine lv_goto (tgt := 12) hx hb d_M_matches_98 (by decide) ?_
                exact ih_12 i_b k_b sr mq g (by omega) (by omega) (by first | (rw [ei_a]; exact hres) | (rw [ei_b, ek_b]; exact hres) | (rw [ei_c, em_c]; exact hres)) (by omega) _ (lv_sub hl [2, 3, 4, 5, 6, 1, 0, 7, 8] rfl)
              · have _q := c14
                refine lv_aload_n hx hb d_M_matches_69 rfl (lv_at hl 0 rfl) ?_
                refine gf_M_13 hx hb hts hown hK hP 0 rfl rfl d_M_matches_70 ?_
                refine lv_iload hx hb d_M_matches_73 (lv_at hl 5 rfl) ?_
                refine li_iald hx hb hK hP 1 0 rfl rfl (by omega) (by omega) (by omega) d_M_matches_75 ?_
                have f15 := hca i.toNat
                refine li_callr ((va_runS (As := [.int (iI (ca i.toNat))]) (rest := []) ⟨hx, hb, hml, hown, hts⟩ (c_M_small l dC dI kA (ca i.toNat) (by omega)) (cw_M_136 hts rfl rfl ⟨Nat.le_of_ble_eq_true rfl, Nat.le_of_ble_eq_true rfl⟩) (li_preS va_Pnil hK hN hG.rd) rfl rfl hl.1 rfl (lv_room (Nat.le_of_ble_eq_true rfl)) d_M_matches_76 ⟨(by show 0 + 0 ≤ 0; omega), (by show 0 + 0 ≤ 0; omega)⟩).run) ?_
                refine lv_aload_n hx hb d_M_matches_79 rfl (lv_at hl 0 rfl) ?_
                refine gf_M_13 hx hb hts hown hK hP 0 rfl rfl d_M_matches_80 ?_
                refine lv_iload hx hb d_M_matches_83 (lv_at hl 6 rfl) ?_
                refine li_iald hx hb hK hP 1 0 rfl rfl (by omega) (by omega) (by omega) d_M_matches_85 ?_
                have f16 := hca k.toNat
                refine li_callr ((va_runS (As := [.int (iI (ca k.toNat))]) (rest := [.int (iI (sml (ca i.toNat)))]) ⟨hx, hb, hml, hown, hts⟩ (c_M_small l dC dI kA (ca k.toNat) (by omega)) (cw_M_136 hts rfl rfl ⟨Nat.le_of_ble_eq_true rfl, Nat.le_of_ble_eq_true rfl⟩) (li_preS va_Pnil hK hN hG.rd) rfl rfl hl.1 rfl (lv_room (Nat.le_of_ble_eq_true rfl)) d_M_matches_86 ⟨(by show 0 + 0 ≤ 0; omega), (by show 0 + 0 ≤ 0; omega)⟩).run) ?_
                refine li_icmp_ne (tgt := 101) hx hb d_M_matches_89 (by decide) (by first | omega | (have h8 := sml_r (c := ca i.toNat) (by omega); omega) | (have h8 := sml_r (c := ca k.toNat) (by omega); omega)) (by first | omega | (have h8 := sml_r (c := ca i.toNat) (by omega); omega) | (have h8 := sml_r (c := ca k.toNat) (by omega); omega)) (fun c17 => ?_) (fun c17 => ?_)
                · have _q := c17
                  rw [if_neg (by rintro ⟨_, q | q⟩; (exact absurd q (by assumption)); exact absurd q (by assumption))] at hres
                  refine lv_iload hx hb d_M_matches_101 (lv_at hl 7 rfl) ?_
                  refine li_if_lt (tgt := 122) hx hb d_M_matches_103 (by decide) (by first | omega | (have h8 := sml_r (c := ca i.toNat) (by omega); omega) | (have h8 := sml_r (c := ca k.toNat) (by omega); omega)) (fun c18 => ?_) (fun c18 => ?_)
                  · have _q := c18
                    rw [if_neg (by omega)] at hres
                    refine lv_iconst (v := iI 0) hx hb d_M_matches_122 rfl ?_
                    exact fin _ _ _ (by exact bI_f (by rw [← hres])) d_M_matches_123
                  · have _q := c18
                    rw [if_pos (by omega)] at hres
                    obtain ⟨m_c, em_c⟩ : ∃ y_9 : Int, y_9 = mq + 1 := ⟨_, rfl⟩
                    refine lv_iinc (v := iI m_c) (lv' := [(8, .int (iI m_c)), (0, .ref mo), (1, .int (iI x)), (2, .int (iI xe)), (3, .int (iI y)), (4, .int (iI ye)), (5, .int (iI i)), (6, .int (iI k)), (7, .int (iI sr))]) hx hb d_M_matches_106 hl (k := 8) rfl (by rw [em_c]; exact iI_add _ _) (by decide) rfl (fun ls hl => ?_)
                    refine lv_iload hx hb d_M_matches_109 (lv_at hl 0 rfl) ?_
                    refine lv_istore (lv' := [(6, .int (iI m_c)), (8, .int (iI m_c)), (0, .ref mo), (1, .int (iI x)), (2, .int (iI xe)), (3, .int (iI y)), (4, .int (iI ye)), (5, .int (iI i)), (7, .int (iI sr))]) hx hb d_M_matches_111 hl (by decide) rfl (fun ls hl => ?_)
                    refine lv_iload hx hb d_M_matches_113 (lv_at hl 8 rfl) ?_
                    refine lv_iconst (v := iI 1) hx hb d_M_matches_115 rfl ?_
                    refine li_iadd hx hb d_M_matches_116 ?_
                    refine li_nm (fun i_c ei_c => ?_)
                    refine lv_istore (lv' := [(5, .int (iI i_c)), (6, .int (iI m_c)), (8, .int (iI m_c)), (0, .ref mo), (1, .int (iI x)), (2, .int (iI xe)), (3, .int (iI y)), (4, .int (iI ye)), (7, .int (iI sr))]) hx hb d_M_matches_117 hl (by decide) rfl (fun ls hl => ?_)
                    refine lv_goto (tgt := 12) hx hb d_M_matches_119 (by decide) ?_
                    exact ih_12 i_c m_c sr m_c g (by omega) (by omega) (by first | (rw [ei_a]; exact hres) | (rw [ei_b, ek_b]; exact hres) | (rw [ei_c, em_c]; exact hres)) (by omega) _ (lv_sub hl [3, 4, 5, 6, 7, 0, 1, 8, 2] rfl)
                · have _q := c17
                  rw [if_pos ⟨by omega, Or.inr (by assumption)⟩] at hres
                  obtain ⟨i_b, ei_b⟩ : ∃ y_9 : Int, y_9 = i + 1 := ⟨_, rfl⟩
                  refine lv_iinc (v := iI i_b) (lv' := [(5, .int (iI i_b)), (0, .ref mo), (1, .int (iI x)), (2, .int (iI xe)), (3, .int (iI y)), (4, .int (iI ye)), (6, .int (iI k)), (7, .int (iI sr)), (8, .int (iI mq))]) hx hb d_M_matches_92 hl (k := 5) rfl (by rw [ei_b]; exact iI_add _ _) (by decide) rfl (fun ls hl => ?_)
                  obtain ⟨k_b, ek_b⟩ : ∃ y_9 : Int, y_9 = k + 1 := ⟨_, rfl⟩
                  refine lv_iinc (v := iI k_b) (lv' := [(6, .int (iI k_b)), (5, .int (iI i_b)), (0, .ref mo), (1, .int (iI x)), (2, .int (iI xe)), (3, .int (iI y)), (4, .int (iI ye)), (7, .int (iI sr)), (8, .int (iI mq))]) hx hb d_M_matches_95 hl (k := 6) rfl (by rw [ek_b]; exact iI_add _ _) (by decide) rfl (fun ls hl => ?_)
                  refine lv_goto (tgt := 12) hx hb d_M_matches_98 (by decide) ?_
                  exact ih_12 i_b k_b sr mq g (by omega) (by omega) (by first | (rw [ei_a]; exact hres) | (rw [ei_b, ek_b]; exact hres) | (rw [ei_c, em_c]; exact hres)) (by omega) _ (lv_sub hl [2, 3, 4, 5, 6, 1, 0, 7, 8] rfl)
          · have _q := c11
            rw [if_pos ⟨by assumption, by assumption⟩] at hres
            refine lv_iload hx hb d_M_matches_37 (lv_at hl 5 rfl) ?_
            refine lv_istore (lv' := [(7, .int (iI i)), (0, .ref mo), (1, .int (iI x)), (2, .int (iI xe)), (3, .int (iI y)), (4, .int (iI ye)), (5, .int (iI i)), (6, .int (iI k)), (8, .int (iI mq))]) hx hb d_M_matches_39 hl (by decide) rfl (fun ls hl => ?_)
            refine lv_iload hx hb d_M_matches_41 (lv_at hl 7 rfl) ?_
            refine lv_istore (lv' := [(8, .int (iI k)), (7, .int (iI i)), (0, .ref mo), (1, .int (iI x)), (2, .int (iI xe)), (3, .int (iI y)), (4, .int (iI ye)), (5, .int (iI i)), (6, .int (iI k))]) hx hb d_M_matches_43 hl (by decide) rfl (fun ls hl => ?_)
            obtain ⟨i_a, ei_a⟩ : ∃ y_9 : Int, y_9 = i + 1 := ⟨_, rfl⟩
            refine lv_iinc (v := iI i_a) (lv' := [(5, .int (iI i_a)), (8, .int (iI k)), (7, .int (iI i)), (0, .ref mo), (1, .int (iI x)), (2, .int (iI xe)), (3, .int (iI y)), (4, .int (iI ye)), (6, .int (iI k))]) hx hb d_M_matches_45 hl (k := 7) rfl (by rw [ei_a]; exact iI_add _ _) (by decide) rfl (fun ls hl => ?_)
            refine lv_goto (tgt := 12) hx hb d_M_matches_48 (by decide) ?_
            exact ih_12 i_a k i k g (by omega) (by omega) (by first | (rw [ei_a]; exact hres) | (rw [ei_b, ek_b]; exact hres) | (rw [ei_c, em_c]; exact hres)) (by omega) _ (lv_sub hl [3, 4, 5, 6, 7, 0, 8, 2, 1] rfl)
  refine lv_iload_n hx hb d_M_matches_0 rfl (lv_at hl 1 rfl) ?_
  refine lv_istore (lv' := [(5, .int (iI x)), (0, .ref mo), (1, .int (iI x)), (2, .int (iI xe)), (3, .int (iI y)), (4, .int (iI ye))]) hx hb d_M_matches_1 hl (by decide) rfl (fun ls hl => ?_)
  refine lv_iload_n hx hb d_M_matches_3 rfl (lv_at hl 4 rfl) ?_
  refine lv_istore (lv' := [(6, .int (iI y)), (5, .int (iI x)), (0, .ref mo), (1, .int (iI x)), (2, .int (iI xe)), (3, .int (iI y)), (4, .int (iI ye))]) hx hb d_M_matches_4 hl (by decide) rfl (fun ls hl => ?_)
  refine lv_iconst (v := iI (-1)) hx hb d_M_matches_6 rfl ?_
  refine lv_istore (lv' := [(7, .int (iI (-1))), (6, .int (iI y)), (5, .int (iI x)), (0, .ref mo), (1, .int (iI x)), (2, .int (iI xe)), (3, .int (iI y)), (4, .int (iI ye))]) hx hb d_M_matches_7 hl (by decide) rfl (fun ls hl => ?_)
  refine lv_iconst (v := iI 0) hx hb d_M_matches_9 rfl ?_
  refine lv_istore (lv' := [(8, .int (iI 0)), (7, .int (iI (-1))), (6, .int (iI y)), (5, .int (iI x)), (0, .ref mo), (1, .int (iI x)), (2, .int (iI xe)), (3, .int (iI y)), (4, .int (iI ye))]) hx hb d_M_matches_10 hl (by decide) rfl (fun ls hl => ?_)
  exact K_12 (((ye - 0) * 10000000 + (xe - (-1)) * 2000 + (ye - y) + (xe - x)).toNat + 1) x y (-1) 0 10000000000000 (by omega) (by omega) (by rfl) (Nat.lt_succ_self _) _ (lv_sub hl [4, 5, 6, 7, 8, 3, 2, 1, 0] rfl)
theorem d_M_standsAt_0 : decode b_M_standsAt 0 = .ok (.iload_n 1, 1) := by decide +kernel
theorem d_M_standsAt_1 : decode b_M_standsAt 1 = .ok (.aload_n 0, 1) := by decide +kernel
theorem d_M_standsAt_2 : decode b_M_standsAt 2 = .ok (.getfield 152, 3) := by decide +kernel
theorem d_M_standsAt_5 : decode b_M_standsAt 5 = .ok (.iadd, 1) := by decide +kernel
theorem d_M_standsAt_6 : decode b_M_standsAt 6 = .ok (.aload_n 0, 1) := by decide +kernel
theorem d_M_standsAt_7 : decode b_M_standsAt 7 = .ok (.getfield 142, 3) := by decide +kernel
theorem d_M_standsAt_10 : decode b_M_standsAt 10 = .ok (.if_icmp .gt 7, 3) := by decide +kernel
theorem d_M_standsAt_13 : decode b_M_standsAt 13 = .ok (.iconst 1, 1) := by decide +kernel
theorem d_M_standsAt_14 : decode b_M_standsAt 14 = .ok (.goto 4, 3) := by decide +kernel
theorem d_M_standsAt_17 : decode b_M_standsAt 17 = .ok (.iconst 0, 1) := by decide +kernel
theorem d_M_standsAt_18 : decode b_M_standsAt 18 = .ok (.istore_n 2, 1) := by decide +kernel
theorem d_M_standsAt_19 : decode b_M_standsAt 19 = .ok (.iconst 0, 1) := by decide +kernel
theorem d_M_standsAt_20 : decode b_M_standsAt 20 = .ok (.istore_n 3, 1) := by decide +kernel
theorem d_M_standsAt_21 : decode b_M_standsAt 21 = .ok (.iload_n 3, 1) := by decide +kernel
theorem d_M_standsAt_22 : decode b_M_standsAt 22 = .ok (.aload_n 0, 1) := by decide +kernel
theorem d_M_standsAt_23 : decode b_M_standsAt 23 = .ok (.getfield 152, 3) := by decide +kernel
theorem d_M_standsAt_26 : decode b_M_standsAt 26 = .ok (.if_icmp .ge 46, 3) := by decide +kernel
theorem d_M_standsAt_29 : decode b_M_standsAt 29 = .ok (.iload_n 2, 1) := by decide +kernel
theorem d_M_standsAt_30 : decode b_M_standsAt 30 = .ok (.ifCond .eq 42, 3) := by decide +kernel
theorem d_M_standsAt_33 : decode b_M_standsAt 33 = .ok (.aload_n 0, 1) := by decide +kernel
theorem d_M_standsAt_34 : decode b_M_standsAt 34 = .ok (.aload_n 0, 1) := by decide +kernel
theorem d_M_standsAt_35 : decode b_M_standsAt 35 = .ok (.getfield 38, 3) := by decide +kernel
theorem d_M_standsAt_38 : decode b_M_standsAt 38 = .ok (.iload_n 3, 1) := by decide +kernel
theorem d_M_standsAt_39 : decode b_M_standsAt 39 = .ok (.iaload, 1) := by decide +kernel
theorem d_M_standsAt_40 : decode b_M_standsAt 40 = .ok (.aload_n 0, 1) := by decide +kernel
theorem d_M_standsAt_41 : decode b_M_standsAt 41 = .ok (.getfield 41, 3) := by decide +kernel
theorem d_M_standsAt_44 : decode b_M_standsAt 44 = .ok (.iload_n 3, 1) := by decide +kernel
theorem d_M_standsAt_45 : decode b_M_standsAt 45 = .ok (.iaload, 1) := by decide +kernel
theorem d_M_standsAt_46 : decode b_M_standsAt 46 = .ok (.aload_n 0, 1) := by decide +kernel
theorem d_M_standsAt_47 : decode b_M_standsAt 47 = .ok (.getfield 32, 3) := by decide +kernel
theorem d_M_standsAt_50 : decode b_M_standsAt 50 = .ok (.iload_n 1, 1) := by decide +kernel
theorem d_M_standsAt_51 : decode b_M_standsAt 51 = .ok (.iload_n 3, 1) := by decide +kernel
theorem d_M_standsAt_52 : decode b_M_standsAt 52 = .ok (.iadd, 1) := by decide +kernel
theorem d_M_standsAt_53 : decode b_M_standsAt 53 = .ok (.iaload, 1) := by decide +kernel
theorem d_M_standsAt_54 : decode b_M_standsAt 54 = .ok (.aload_n 0, 1) := by decide +kernel
theorem d_M_standsAt_55 : decode b_M_standsAt 55 = .ok (.getfield 35, 3) := by decide +kernel
theorem d_M_standsAt_58 : decode b_M_standsAt 58 = .ok (.iload_n 1, 1) := by decide +kernel
theorem d_M_standsAt_59 : decode b_M_standsAt 59 = .ok (.iload_n 3, 1) := by decide +kernel
theorem d_M_standsAt_60 : decode b_M_standsAt 60 = .ok (.iadd, 1) := by decide +kernel
theorem d_M_standsAt_61 : decode b_M_standsAt 61 = .ok (.iaload, 1) := by decide +kernel
theorem d_M_standsAt_62 : decode b_M_standsAt 62 = .ok (.invokevirtual 155, 3) := by decide +kernel
theorem d_M_standsAt_65 : decode b_M_standsAt 65 = .ok (.istore_n 2, 1) := by decide +kernel
theorem d_M_standsAt_66 : decode b_M_standsAt 66 = .ok (.iinc 3 1, 3) := by decide +kernel
theorem d_M_standsAt_69 : decode b_M_standsAt 69 = .ok (.goto (-48), 3) := by decide +kernel
theorem d_M_standsAt_72 : decode b_M_standsAt 72 = .ok (.iload_n 2, 1) := by decide +kernel
theorem d_M_standsAt_73 : decode b_M_standsAt 73 = .ok (.ireturn, 1) := by decide +kernel
set_option maxHeartbeats 4000000 in
set_option maxRecDepth 100000 in
theorem c_M_standsAt (l : Launch) (dC : Nat → ClassId) (dI : Nat → Nat → Nat) (kA : Nat → ClassId) (mo : Nat) (ma : Nat → Nat) (mrf : Int) (mz : Int) (mls : Int) (mfp : Int) (mfm : Int) (mtx : Int) (mwd : Int) (mak : Int) (mli : Int) (mlx : Int) (mat : Int) (mtk : Int) (mtf : Int) (mtt : Int) (mfa : Int) (mla : Int) (mlp : Int) (mdp : Int) (msi : Int) (mpf : Int) (mpt : Int) (mdn : Bool) (ca : Nat → Int) (cwf : Nat → Int) (cwt : Nat → Int) (caf : Nat → Int) (cat : Nat → Int) (x : Int) (as : List (Int × Int)) (ws : List (Int × Int)) (lo : Int) (hi : Int) (hca : C2 ca) (hx0 : 0 ≤ x ∧ x ≤ 1000 ∧ 1 ≤ mak ∧ mak ≤ 110 ∧ mwd ≤ 400) (hHa : HL as mak caf cat) (hHw : HL ws mwd cwf cwt) (hLa : LB as 4000 4100) (hLw : LB ws lo hi) (hlh : 0 ≤ lo ∧ hi ≤ 4120) : Met l y_M_standsAt (wsy y_M_standsAt b_M_standsAt 4 (some .boolean)) (rmd 2 0 0) (li_Pr (dC, dI) CL (TY kA) [.ref mo, .int (iI x)] (va_P (dC, dI) CL [(mo, .inr (10, [.int (iI mrf), .ref (ma 0), .int (iI mz), .ref (ma 1), .ref (ma 2), .int (iI mls), .int (iI mfp), .int (iI mfm), .ref (ma 3), .int (iI mtx), .ref (ma 4), .ref (ma 5), .int (iI mwd), .ref (ma 6), .ref (ma 7), .int (iI mak), .ref (ma 8), .ref (ma 9), .int (iI mli), .int (iI mlx), .ref (ma 10), .ref (ma 11), .int (iI mat), .int (iI mtk), .int (iI mtf), .int (iI mtt), .int (iI mfa), .int (iI mla), .int (iI mlp), .int (iI mdp), .ref (ma 12), .ref (ma 13), .int (iI msi), .int (iI (bI mdn)), .int (iI mpf), .int (iI mpt)])), (ma 1, .inl (kA 0, 4120, .inl (aI ca))), (ma 6, .inl (kA 0, 400, .inl (aI cwf))), (ma 7, .inl (kA 0, 400, .inl (aI cwt))), (ma 8, .inl (kA 0, 110, .inl (aI caf))), (ma 9, .inl (kA 0, 110, .inl (aI cat)))])) (k2_QcV (.int (iI (bI (prM ca as (ws.drop x.toNat)))))) 0 0 (fun _ => False) := by
  refine li_mr (by decide) (Nat.le_of_ble_eq_true rfl) (by exact li_narZ2 _) ?_
  intro p e s m args below meth c Q C hP hK hN hG fin ls hl
  obtain ⟨hx, hb, hr, hml, hown, hts, hlocks, hin⟩ := C
  have hown : s.vm.findClass R_M = some m.cls := hown
  have hP : va_P (dC, dI) CL [(mo, .inr (10, [.int (iI mrf), .ref (ma 0), .int (iI mz), .ref (ma 1), .ref (ma 2), .int (iI mls), .int (iI mfp), .int (iI mfm), .ref (ma 3), .int (iI mtx), .ref (ma 4), .ref (ma 5), .int (iI mwd), .ref (ma 6), .ref (ma 7), .int (iI mak), .ref (ma 8), .ref (ma 9), .int (iI mli), .int (iI mlx), .ref (ma 10), .ref (ma 11), .int (iI mat), .int (iI mtk), .int (iI mtf), .int (iI mtt), .int (iI mfa), .int (iI mla), .int (iI mlp), .int (iI mdp), .ref (ma 12), .ref (ma 13), .int (iI msi), .int (iI (bI mdn)), .int (iI mpf), .int (iI mpt)])), (ma 1, .inl (kA 0, 4120, .inl (aI ca))), (ma 6, .inl (kA 0, 400, .inl (aI cwf))), (ma 7, .inl (kA 0, 400, .inl (aI cwt))), (ma 8, .inl (kA 0, 110, .inl (aI caf))), (ma 9, .inl (kA 0, 110, .inl (aI cat)))] s.heap := hP
  have hl : lv_has ls 4 [(0, .ref mo), (1, .int (iI x))] := hl
  have hna := hHa.nn
  have hnw := hHw.nn
  have K_21 : ∀ (nn_21 : Nat) (k : Int) (b : Bool), (0 ≤ k ∧ k ≤ mak) → (b = true → x + mak ≤ mwd) → ((b && prM ca (as.drop k.toNat) (ws.drop (x + k).toNat)) = prM ca as (ws.drop x.toNat)) → ((mak - k).toNat < nn_21) → ∀ ls : Array Slot, lv_has ls 4 [(0, .ref mo), (1, .int (iI x)), (2, .int (iI (bI b))), (3, .int (iI k))] → W p l e (rmd 2 0 0) s m args below meth c s.heap [] 0 0 Q (F0 m 21 ls []) := by
    intro nn_21
    induction nn_21 with
    | zero => intro k b hk9 hfit hres hm; exact absurd hm (Nat.not_lt_zero _)
    | succ nn_21 ih_21 =>
      intro k b hk9 hfit hres hm_21 ls hl
      refine lv_iload_n hx hb d_M_standsAt_21 rfl (lv_at hl 3 rfl) ?_
      refine lv_aload_n hx hb d_M_standsAt_22 rfl (lv_at hl 0 rfl) ?_
      refine gf_M_152 hx hb hts hown hK hP 0 rfl rfl d_M_standsAt_23 ?_
      refine li_icmp_ge (tgt := 72) hx hb d_M_standsAt_26 (by decide) (by omega) (by omega) (fun c1 => ?_) (fun c1 => ?_)
      · have _q := c1
        rw [hHa.dropE (k := k) (by omega)] at hres
        simp only [prM] at hres
        rw [Bool.and_true] at hres
        refine lv_iload_n hx hb d_M_standsAt_72 rfl (lv_at hl 2 rfl) ?_
        exact fin _ _ _ (by first | (rw [← hres]; done) | (rw [show b = false by assumption, Bool.false_and] at hres; rw [show b = false by assumption, ← hres])) d_M_standsAt_73
      · have _q := c1
        refine lv_iload_n hx hb d_M_standsAt_29 rfl (lv_at hl 2 rfl) ?_
        refine li_bz (tgt := 72) hx hb d_M_standsAt_30 (by decide) (fun c2 => ?_) (fun c2 => ?_)
        · have _q := c2
          refine lv_iload_n hx hb d_M_standsAt_72 rfl (lv_at hl 2 rfl) ?_
          exact fin _ _ _ (by first | (rw [← hres]; done) | (rw [show b = false by assumption, Bool.false_and] at hres; rw [show b = false by assumption, ← hres])) d_M_standsAt_73
        · have _q := c2
          have hft := hfit (by assumption)
          have hdra := hHa.drop (k := k) (by omega) (by omega)
          have hdrw := hHw.drop (k := x + k) (by omega) (by omega)
          have hma := hLa _ (hHa.mem (k := k) (by omega) (by omega))
          have hmw := hLw _ (hHw.mem (k := x + k) (by omega) (by omega))
          simp only at hma hmw
          rw [show b = true by assumption, Bool.true_and, hdra, hdrw] at hres
          simp only [prM, mtA] at hres
          refine lv_aload_n hx hb d_M_standsAt_33 rfl (lv_at hl 0 rfl) ?_
          refine lv_aload_n hx hb d_M_standsAt_34 rfl (lv_at hl 0 rfl) ?_
          refine gf_M_38 hx hb hts hown hK hP 0 rfl rfl d_M_standsAt_35 ?_
          refine lv_iload_n hx hb d_M_standsAt_38 rfl (lv_at hl 3 rfl) ?_
          refine li_iald hx hb hK hP 4 0 rfl rfl (by omega) (by omega) (by omega) d_M_standsAt_39 ?_
          refine lv_aload_n hx hb d_M_standsAt_40 rfl (lv_at hl 0 rfl) ?_
          refine gf_M_41 hx hb hts hown hK hP 0 rfl rfl d_M_standsAt_41 ?_
          refine lv_iload_n hx hb d_M_standsAt_44 rfl (lv_at hl 3 rfl) ?_
          refine li_iald hx hb hK hP 5 0 rfl rfl (by omega) (by omega) (by omega) d_M_standsAt_45 ?_
          refine lv_aload_n hx hb d_M_standsAt_46 rfl (lv_at hl 0 rfl) ?_
          refine gf_M_32 hx hb hts hown hK hP 0 rfl rfl d_M_standsAt_47 ?_
          refine lv_iload_n hx hb d_M_standsAt_50 rfl (lv_at hl 1 rfl) ?_
          refine lv_iload_n hx hb d_M_standsAt_51 rfl (lv_at hl 3 rfl) ?_
          refine li_iadd hx hb d_M_standsAt_52 ?_
          refine li_iald hx hb hK hP 2 0 rfl rfl (by omega) (by omega) (by omega) d_M_standsAt_53 ?_
          refine lv_aload_n hx hb d_M_standsAt_54 rfl (lv_at hl 0 rfl) ?_
          refine gf_M_35 hx hb hts hown hK hP 0 rfl rfl d_M_standsAt_55 ?_
          refine lv_iload_n hx hb d_M_standsAt_58 rfl (lv_at hl 1 rfl) ?_
          refine lv_iload_n hx hb d_M_standsAt_59 rfl (lv_at hl 3 rfl) ?_
          refine li_iadd hx hb d_M_standsAt_60 ?_
          refine li_iald hx hb hK hP 3 0 rfl rfl (by omega) (by omega) (by omega) d_M_standsAt_61 ?_
          refine li_callr ((va_runV (As := [.int (iI (caf k.toNat)), .int (iI (cat k.toNat)), .int (iI (cwf ((x + k).toNat))), .int (iI (cwt ((x + k).toNat)))]) (rest := []) ⟨hx, hb, hml, hown, hts⟩ (c_M_matches l dC dI kA mo ma mrf mz mls mfp mfm mtx mwd mak mli mlx mat mtk mtf mtt mfa mla mlp mdp msi mpf mpt mdn ca (caf k.toNat) (cat k.toNat) (cwf ((x + k).toNat)) (cwt ((x + k).toNat)) (by exact hca) (by omega)) (cw_M_155 hts rfl rfl ⟨Nat.le_of_ble_eq_true rfl, Nat.le_of_ble_eq_true rfl⟩) (li_preV (va_recv hK hP (ci := 10) (q0 := 0) rfl rfl) (hP.sub [0, 1] rfl) hK hN hG.rd) rfl rfl hl.1 rfl (lv_room (Nat.le_of_ble_eq_true rfl)) d_M_standsAt_62 ⟨(by show 0 + 0 ≤ 0; omega), (by show 0 + 0 ≤ 0; omega)⟩).run) ?_
          refine lv_istore_n (lv' := [(2, .int (iI (bI (mtM ca (caf k.toNat) (cat k.toNat) (cwf ((x + k).toNat)) (cwt ((x + k).toNat)))))), (0, .ref mo), (1, .int (iI x)), (3, .int (iI k))]) hx hb d_M_standsAt_65 rfl hl (by decide) rfl (fun ls hl => ?_)
          obtain ⟨k_n, ek_n⟩ : ∃ y_9 : Int, y_9 = k + 1 := ⟨_, rfl⟩
          refine lv_iinc (v := iI k_n) (lv' := [(3, .int (iI k_n)), (2, .int (iI (bI (mtM ca (caf k.toNat) (cat k.toNat) (cwf ((x + k).toNat)) (cwt ((x + k).toNat)))))), (0, .ref mo), (1, .int (iI x))]) hx hb d_M_standsAt_66 hl (k := 3) rfl (by rw [ek_n]; exact iI_add _ _) (by decide) rfl (fun ls hl => ?_)
          refine lv_goto (tgt := 21) hx hb d_M_standsAt_69 (by decide) ?_
          exact ih_21 k_n (mtM ca (caf k.toNat) (cat k.toNat) (cwf ((x + k).toNat)) (cwt ((x + k).toNat))) (by omega) (by intro _; first | omega | contradiction) (by rw [ek_n, show x + (k + 1) = x + k + 1 by omega]; exact hres) (by omega) _ (lv_sub hl [2, 3, 1, 0] rfl)
  refine lv_iload_n hx hb d_M_standsAt_0 rfl (lv_at hl 1 rfl) ?_
  refine lv_aload_n hx hb d_M_standsAt_1 rfl (lv_at hl 0 rfl) ?_
  refine gf_M_152 hx hb hts hown hK hP 0 rfl rfl d_M_standsAt_2 ?_
  refine li_iadd hx hb d_M_standsAt_5 ?_
  refine lv_aload_n hx hb d_M_standsAt_6 rfl (lv_at hl 0 rfl) ?_
  refine gf_M_142 hx hb hts hown hK hP 0 rfl rfl d_M_standsAt_7 ?_
  refine li_icmp_gt (tgt := 17) hx hb d_M_standsAt_10 (by decide) (by omega) (by omega) (fun c3 => ?_) (fun c3 => ?_)
  · have _q := c3
    refine lv_iconst (v := iI 0) hx hb d_M_standsAt_17 rfl ?_
    refine lv_istore_n (lv' := [(2, .int (iI 0)), (0, .ref mo), (1, .int (iI x))]) hx hb d_M_standsAt_18 rfl hl (by decide) rfl (fun ls hl => ?_)
    refine lv_iconst (v := iI 0) hx hb d_M_standsAt_19 rfl ?_
    refine lv_istore_n (lv' := [(3, .int (iI 0)), (2, .int (iI 0)), (0, .ref mo), (1, .int (iI x))]) hx hb d_M_standsAt_20 rfl hl (by decide) rfl (fun ls hl => ?_)
    exact K_21 ((mak - 0).toNat + 1) 0 false (by omega) (by intro _; first | omega | contradiction) (by first | (rw [Int.add_zero]; rfl) | (rw [Bool.false_and, prM_short]; (rw [List.length_drop]; have := hHa.1; have := hHw.1; omega))) (Nat.lt_succ_self _) _ (lv_sub hl [2, 3, 1, 0] rfl)
  · have _q := c3
    refine lv_iconst (v := iI 1) hx hb d_M_standsAt_13 rfl ?_
    refine lv_goto (tgt := 18) hx hb d_M_standsAt_14 (by decide) ?_
    refine lv_istore_n (lv' := [(2, .int (iI 1)), (0, .ref mo), (1, .int (iI x))]) hx hb d_M_standsAt_18 rfl hl (by decide) rfl (fun ls hl => ?_)
    refine lv_iconst (v := iI 0) hx hb d_M_standsAt_19 rfl ?_
    refine lv_istore_n (lv' := [(3, .int (iI 0)), (2, .int (iI 1)), (0, .ref mo), (1, .int (iI x))]) hx hb d_M_standsAt_20 rfl hl (by decide) rfl (fun ls hl => ?_)
    exact K_21 ((mak - 0).toNat + 1) 0 true (by omega) (by intro _; first | omega | contradiction) (by first | (rw [Int.add_zero]; rfl) | (rw [Bool.false_and, prM_short]; (rw [List.length_drop]; have := hHa.1; have := hHw.1; omega))) (Nat.lt_succ_self _) _ (lv_sub hl [2, 3, 1, 0] rfl)

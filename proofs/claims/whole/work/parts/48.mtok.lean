/-! THE LINE read by the reference, token by token -/
theorem nbt {b : Bool} (h : b = false) : ¬ b = true := by rw [h]; decide
abbrev Tk4 : Type := Int × Int × Int × Int
def skL (f : Nat → Int) : Nat → Int → Int
  | 0, x => x
  | k + 1, x => if f x.toNat = 32 then skL f k (x + 1) else x
def skM (f : Nat → Int) (e x : Int) : Int := skL f (e - x).toNat x
def naL (f : Nat → Int) : Nat → Int → Int
  | 0, x => x
  | k + 1, x => if isNam (f x.toNat) = true then naL f k (x + 1) else x
def naM (f : Nat → Int) (e x : Int) : Int := naL f (e - x).toNat x
def qoL (f : Nat → Int) : Nat → Int → Int
  | 0, x => x
  | k + 1, x => if f x.toNat = 34 then x else qoL f k (x + 1)
def qoM (f : Nat → Int) (e x : Int) : Int := qoL f (e - x).toNat x
def kwM (f : Nat → Int) (x y : Int) : Int := if iwM f x y 1 = true then 8 else if iwM f x y 2 = true then 9 else if iwM f x y 3 = true then 10 else if iwM f x y 4 = true then 11 else if deM f x y = true then 12 else 1
def nxT (e b t : Int) : Tk4 := (if t < e then t + 1 else t, if t < e then 2 else 7, b, t)
def nxS (f : Nat → Int) (e b : Int) : Int := if b + 1 < e ∧ f (b + 1).toNat = 61 ∧ (f b.toNat = 61 ∨ f b.toNat = 60 ∨ f b.toNat = 62) then b + 2 else b + 1
def nxK (ch : Int) : Int := if ch = 40 then 4 else if ch = 41 then 5 else if ch = 47 then 6 else 3
def nxB (f : Nat → Int) (e b : Int) : Tk4 := if b = e then (b, 0, b, b) else if isNam (f b.toNat) = true then (naM f e b, kwM f b (naM f e b), b, naM f e b) else if f b.toNat = 34 then nxT e (b + 1) (qoM f e (b + 1)) else (nxS f e b, nxK (f b.toNat), b, nxS f e b)
def nxM (f : Nat → Int) (e x : Int) : Tk4 := nxB f e (skM f e x)
/-- what the reference knows while it reads -/
abbrev PS : Type := Int × Int × Int × Int × Int × Int × Int × Int × Int × Int
abbrev PS.mk (at_ : Int) (tk : Int) (tf : Int) (tt : Int) (fa : Int) (fp : Int) (la : Int) (lp : Int) (pf : Int) (pt : Int) : PS := (at_, tk, tf, tt, fa, fp, la, lp, pf, pt)
abbrev PS.at_ (u : PS) : Int := u.1
abbrev PS.tk (u : PS) : Int := u.2.1
abbrev PS.tf (u : PS) : Int := u.2.2.1
abbrev PS.tt (u : PS) : Int := u.2.2.2.1
abbrev PS.fa (u : PS) : Int := u.2.2.2.2.1
abbrev PS.fp (u : PS) : Int := u.2.2.2.2.2.1
abbrev PS.la (u : PS) : Int := u.2.2.2.2.2.2.1
abbrev PS.lp (u : PS) : Int := u.2.2.2.2.2.2.2.1
abbrev PS.pf (u : PS) : Int := u.2.2.2.2.2.2.2.2.1
abbrev PS.pt (u : PS) : Int := u.2.2.2.2.2.2.2.2.2
def nextP (f : Nat → Int) (ls : Int) (u : PS) : PS := ⟨(nxM f (4000 + ls) u.at_).1, (nxM f (4000 + ls) u.at_).2.1, (nxM f (4000 + ls) u.at_).2.2.1, (nxM f (4000 + ls) u.at_).2.2.2, u.fa, u.fp, u.la, u.lp, u.pf, u.pt⟩
def stopP (ls : Int) (u : PS) : PS := if u.fa = 0 then ⟨u.at_, u.tk, u.tf, u.tt, -2, if u.tk = 7 then ls else if u.tk = 2 then u.tf - 1 - 4000 else u.tf - 4000, u.la, u.lp, u.pf, u.pt⟩ else u
def refuP (ls : Int) (u : PS) : PS := if u.tk = 7 then (if u.fa = 0 then ⟨u.at_, u.tk, u.tf, u.tt, -2, u.tf - 1 - 4000, u.la, u.lp, u.pf, u.pt⟩ else u) else stopP ls u
def noteP (a b : Int) (u : PS) : PS := if u.la = 0 then ⟨u.at_, u.tk, u.tf, u.tt, u.fa, u.fp, a, b - 4000, u.pf, u.pt⟩ else u
def takeP (f : Nat → Int) (ls : Int) (u : PS) : PS := if u.tk = 1 ∨ u.tk = 2 then nextP f ls ⟨u.at_, u.tk, u.tf, u.tt, u.fa, u.fp, u.la, u.lp, u.tf, u.tt⟩ else stopP ls u
def ioM (f : Nat → Int) (x y : Int) : Int := if iwM f x y 6 = true then 0 else if iwM f x y 10 = true then 1 else if iwM f x y 11 = true then 2 else if iwM f x y 12 = true then 3 else if iwM f x y 13 = true then 4 else if iwM f x y 14 = true then 5 else -1
def rhM (f : Nat → Int) (tk x y : Int) : Int := if tk = 3 then (if f x.toNat = 61 then (if y - x = 2 then 4 else 3) else if f x.toNat = 60 then (if y - x = 2 then 7 else 5) else if y - x = 2 then 8 else 6) else if tk = 1 then (if iwM f x y 6 = true then 1 else if iwM f x y 7 = true then 2 else if iwM f x y 8 = true then 3 else if iwM f x y 9 = true then 4 else 0) else 0

theorem d_M_nextText_0 : decode b_M_nextText 0 = .ok (.aload_n 0, 1) := by decide +kernel
theorem d_M_nextText_1 : decode b_M_nextText 1 = .ok (.getfield 193, 3) := by decide +kernel
theorem d_M_nextText_4 : decode b_M_nextText 4 = .ok (.iload_n 1, 1) := by decide +kernel
theorem d_M_nextText_5 : decode b_M_nextText 5 = .ok (.if_icmp .ge 30, 3) := by decide +kernel
theorem d_M_nextText_8 : decode b_M_nextText 8 = .ok (.aload_n 0, 1) := by decide +kernel
theorem d_M_nextText_9 : decode b_M_nextText 9 = .ok (.getfield 13, 3) := by decide +kernel
theorem d_M_nextText_12 : decode b_M_nextText 12 = .ok (.aload_n 0, 1) := by decide +kernel
theorem d_M_nextText_13 : decode b_M_nextText 13 = .ok (.getfield 193, 3) := by decide +kernel
theorem d_M_nextText_16 : decode b_M_nextText 16 = .ok (.iaload, 1) := by decide +kernel
theorem d_M_nextText_17 : decode b_M_nextText 17 = .ok (.bipush 34, 2) := by decide +kernel
theorem d_M_nextText_19 : decode b_M_nextText 19 = .ok (.if_icmp .eq 16, 3) := by decide +kernel
theorem d_M_nextText_22 : decode b_M_nextText 22 = .ok (.aload_n 0, 1) := by decide +kernel
theorem d_M_nextText_23 : decode b_M_nextText 23 = .ok (.dup, 1) := by decide +kernel
theorem d_M_nextText_24 : decode b_M_nextText 24 = .ok (.getfield 193, 3) := by decide +kernel
theorem d_M_nextText_27 : decode b_M_nextText 27 = .ok (.iconst 1, 1) := by decide +kernel
theorem d_M_nextText_28 : decode b_M_nextText 28 = .ok (.iadd, 1) := by decide +kernel
theorem d_M_nextText_29 : decode b_M_nextText 29 = .ok (.putfield 193, 3) := by decide +kernel
theorem d_M_nextText_32 : decode b_M_nextText 32 = .ok (.goto (-32), 3) := by decide +kernel
theorem d_M_nextText_35 : decode b_M_nextText 35 = .ok (.aload_n 0, 1) := by decide +kernel
theorem d_M_nextText_36 : decode b_M_nextText 36 = .ok (.aload_n 0, 1) := by decide +kernel
theorem d_M_nextText_37 : decode b_M_nextText 37 = .ok (.getfield 193, 3) := by decide +kernel
theorem d_M_nextText_40 : decode b_M_nextText 40 = .ok (.iload_n 1, 1) := by decide +kernel
theorem d_M_nextText_41 : decode b_M_nextText 41 = .ok (.if_icmp .ge 7, 3) := by decide +kernel
theorem d_M_nextText_44 : decode b_M_nextText 44 = .ok (.iconst 2, 1) := by decide +kernel
theorem d_M_nextText_45 : decode b_M_nextText 45 = .ok (.goto 5, 3) := by decide +kernel
theorem d_M_nextText_48 : decode b_M_nextText 48 = .ok (.bipush 7, 2) := by decide +kernel
theorem d_M_nextText_50 : decode b_M_nextText 50 = .ok (.putfield 202, 3) := by decide +kernel
theorem d_M_nextText_53 : decode b_M_nextText 53 = .ok (.aload_n 0, 1) := by decide +kernel
theorem d_M_nextText_54 : decode b_M_nextText 54 = .ok (.dup, 1) := by decide +kernel
theorem d_M_nextText_55 : decode b_M_nextText 55 = .ok (.getfield 196, 3) := by decide +kernel
theorem d_M_nextText_58 : decode b_M_nextText 58 = .ok (.iconst 1, 1) := by decide +kernel
theorem d_M_nextText_59 : decode b_M_nextText 59 = .ok (.iadd, 1) := by decide +kernel
theorem d_M_nextText_60 : decode b_M_nextText 60 = .ok (.putfield 196, 3) := by decide +kernel
theorem d_M_nextText_63 : decode b_M_nextText 63 = .ok (.aload_n 0, 1) := by decide +kernel
theorem d_M_nextText_64 : decode b_M_nextText 64 = .ok (.aload_n 0, 1) := by decide +kernel
theorem d_M_nextText_65 : decode b_M_nextText 65 = .ok (.getfield 193, 3) := by decide +kernel
theorem d_M_nextText_68 : decode b_M_nextText 68 = .ok (.putfield 199, 3) := by decide +kernel
theorem d_M_nextText_71 : decode b_M_nextText 71 = .ok (.aload_n 0, 1) := by decide +kernel
theorem d_M_nextText_72 : decode b_M_nextText 72 = .ok (.aload_n 0, 1) := by decide +kernel
theorem d_M_nextText_73 : decode b_M_nextText 73 = .ok (.getfield 193, 3) := by decide +kernel
theorem d_M_nextText_76 : decode b_M_nextText 76 = .ok (.iload_n 1, 1) := by decide +kernel
theorem d_M_nextText_77 : decode b_M_nextText 77 = .ok (.if_icmp .ge 12, 3) := by decide +kernel
theorem d_M_nextText_80 : decode b_M_nextText 80 = .ok (.aload_n 0, 1) := by decide +kernel
theorem d_M_nextText_81 : decode b_M_nextText 81 = .ok (.getfield 193, 3) := by decide +kernel
theorem d_M_nextText_84 : decode b_M_nextText 84 = .ok (.iconst 1, 1) := by decide +kernel
theorem d_M_nextText_85 : decode b_M_nextText 85 = .ok (.iadd, 1) := by decide +kernel
theorem d_M_nextText_86 : decode b_M_nextText 86 = .ok (.goto 7, 3) := by decide +kernel
theorem d_M_nextText_89 : decode b_M_nextText 89 = .ok (.aload_n 0, 1) := by decide +kernel
theorem d_M_nextText_90 : decode b_M_nextText 90 = .ok (.getfield 193, 3) := by decide +kernel
theorem d_M_nextText_93 : decode b_M_nextText 93 = .ok (.putfield 193, 3) := by decide +kernel
theorem d_M_nextText_96 : decode b_M_nextText 96 = .ok (.return_, 1) := by decide +kernel
set_option maxHeartbeats 4000000 in
set_option maxRecDepth 100000 in
theorem c_M_nextText (l : Launch) (dC : Nat → ClassId) (dI : Nat → Nat → Nat) (kA : Nat → ClassId) (sz : Nat) (mo : Nat) (ma : Nat → Nat) (mrf : Int) (mz : Int) (mls : Int) (mfp : Int) (mfm : Int) (mtx : Int) (mwd : Int) (mak : Int) (mli : Int) (mlx : Int) (mat : Int) (mtk : Int) (mtf : Int) (mtt : Int) (mfa : Int) (mla : Int) (mlp : Int) (mdp : Int) (msi : Int) (mpf : Int) (mpt : Int) (mdn : Bool) (ca : Nat → Int) (ed : Int) (hca : C2 ca) (hls : 0 ≤ mls ∧ mls ≤ 100) (hed : ed = 4000 + mls) (hat : 4000 ≤ mat ∧ mat ≤ ed) : Met l y_M_nextText (wsy y_M_nextText b_M_nextText 2 none) (rmd 0 0 0) (li_Pr (dC, dI) CL (TY kA) [.ref mo, .int (iI ed)] (fun h => h.size = sz ∧ va_P (dC, dI) CL [(mo, .inr (10, [.int (iI mrf), .ref (ma 0), .int (iI mz), .ref (ma 1), .ref (ma 2), .int (iI mls), .int (iI mfp), .int (iI mfm), .ref (ma 3), .int (iI mtx), .ref (ma 4), .ref (ma 5), .int (iI mwd), .ref (ma 6), .ref (ma 7), .int (iI mak), .ref (ma 8), .ref (ma 9), .int (iI mli), .int (iI mlx), .ref (ma 10), .ref (ma 11), .int (iI mat), .int (iI mtk), .int (iI mtf), .int (iI mtt), .int (iI mfa), .int (iI mla), .int (iI mlp), .int (iI mdp), .ref (ma 12), .ref (ma 13), .int (iI msi), .int (iI (bI mdn)), .int (iI mpf), .int (iI mpt)])), (ma 1, .inl (kA 0, 4120, .inl (aI ca)))] h ∧ va_D (fun q => dI 100 0 ≤ q) [(mo, .inr (10, [.int (iI mrf), .ref (ma 0), .int (iI mz), .ref (ma 1), .ref (ma 2), .int (iI mls), .int (iI mfp), .int (iI mfm), .ref (ma 3), .int (iI mtx), .ref (ma 4), .ref (ma 5), .int (iI mwd), .ref (ma 6), .ref (ma 7), .int (iI mak), .ref (ma 8), .ref (ma 9), .int (iI mli), .int (iI mlx), .ref (ma 10), .ref (ma 11), .int (iI mat), .int (iI mtk), .int (iI mtf), .int (iI mtt), .int (iI mfa), .int (iI mla), .int (iI mlp), .int (iI mdp), .ref (ma 12), .ref (ma 13), .int (iI msi), .int (iI (bI mdn)), .int (iI mpf), .int (iI mpt)])), (ma 1, .inl (kA 0, 4120, .inl (aI ca)))] ∧ (fun _ => True) h)) (li_Qw (S := (Int) × (Int) × (Int) × (Int)) (dC, dI) CL (fun u => (u.1, u.2.1, u.2.2.1, u.2.2.2) = nxT ed (mtf + 1) (qoM ca ed mat) ∧ mat ≤ u.2.2.2 ∧ u.2.2.2 ≤ u.1 ∧ u.1 ≤ ed ∧ u.2.2.1 = mtf + 1 ∧ (u.2.1 = 2 ∨ u.2.1 = 7)) (fun _ => none) (fun u => [(mo, .inr (10, [.int (iI mrf), .ref (ma 0), .int (iI mz), .ref (ma 1), .ref (ma 2), .int (iI mls), .int (iI mfp), .int (iI mfm), .ref (ma 3), .int (iI mtx), .ref (ma 4), .ref (ma 5), .int (iI mwd), .ref (ma 6), .ref (ma 7), .int (iI mak), .ref (ma 8), .ref (ma 9), .int (iI mli), .int (iI mlx), .ref (ma 10), .ref (ma 11), .int (iI u.1), .int (iI u.2.1), .int (iI u.2.2.1), .int (iI u.2.2.2), .int (iI mfa), .int (iI mla), .int (iI mlp), .int (iI mdp), .ref (ma 12), .ref (ma 13), .int (iI msi), .int (iI (bI mdn)), .int (iI mpf), .int (iI mpt)])), (ma 1, .inl (kA 0, 4120, .inl (aI ca)))]) (va_A [(mo, .inr (10, [.int (iI mrf), .ref (ma 0), .int (iI mz), .ref (ma 1), .ref (ma 2), .int (iI mls), .int (iI mfp), .int (iI mfm), .ref (ma 3), .int (iI mtx), .ref (ma 4), .ref (ma 5), .int (iI mwd), .ref (ma 6), .ref (ma 7), .int (iI mak), .ref (ma 8), .ref (ma 9), .int (iI mli), .int (iI mlx), .ref (ma 10), .ref (ma 11), .int (iI mat), .int (iI mtk), .int (iI mtf), .int (iI mtt), .int (iI mfa), .int (iI mla), .int (iI mlp), .int (iI mdp), .ref (ma 12), .ref (ma 13), .int (iI msi), .int (iI (bI mdn)), .int (iI mpf), .int (iI mpt)])), (ma 1, .inl (kA 0, 4120, .inl (aI ca)))] sz)) 0 0 (va_A [(mo, .inr (10, [.int (iI mrf), .ref (ma 0), .int (iI mz), .ref (ma 1), .ref (ma 2), .int (iI mls), .int (iI mfp), .int (iI mfm), .ref (ma 3), .int (iI mtx), .ref (ma 4), .ref (ma 5), .int (iI mwd), .ref (ma 6), .ref (ma 7), .int (iI mak), .ref (ma 8), .ref (ma 9), .int (iI mli), .int (iI mlx), .ref (ma 10), .ref (ma 11), .int (iI mat), .int (iI mtk), .int (iI mtf), .int (iI mtt), .int (iI mfa), .int (iI mla), .int (iI mlp), .int (iI mdp), .ref (ma 12), .ref (ma 13), .int (iI msi), .int (iI (bI mdn)), .int (iI mpf), .int (iI mpt)])), (ma 1, .inl (kA 0, 4120, .inl (aI ca)))] sz) := by
  refine li_mwv (by decide) (Nat.le_of_ble_eq_true rfl) ?_
  intro p e s m args below meth c Q A C hP hD hBx hK hN hG hA hAi hAN fin ls hl
  obtain ⟨hx, hb, hr, hml, hown, hts, hlocks, hin⟩ := C
  have hown : s.vm.findClass R_M = some m.cls := hown
  have hl : lv_has ls 2 [(0, .ref mo), (1, .int (iI ed))] := hl
  have K_35 : ∀ (z : Int), (mat ≤ z ∧ z ≤ ed) → (qoM ca ed mat = z) → ∀ (H : Heap) (locs : List Loc), va_P (dC, dI) CL [(mo, .inr (10, [.int (iI mrf), .ref (ma 0), .int (iI mz), .ref (ma 1), .ref (ma 2), .int (iI mls), .int (iI mfp), .int (iI mfm), .ref (ma 3), .int (iI mtx), .ref (ma 4), .ref (ma 5), .int (iI mwd), .ref (ma 6), .ref (ma 7), .int (iI mak), .ref (ma 8), .ref (ma 9), .int (iI mli), .int (iI mlx), .ref (ma 10), .ref (ma 11), .int (iI z), .int (iI mtk), .int (iI mtf), .int (iI mtt), .int (iI mfa), .int (iI mla), .int (iI mlp), .int (iI mdp), .ref (ma 12), .ref (ma 13), .int (iI msi), .int (iI (bI mdn)), .int (iI mpf), .int (iI mpt)])), (ma 1, .inl (kA 0, 4120, .inl (aI ca)))] H → va_D A [(mo, .inr (10, [.int (iI mrf), .ref (ma 0), .int (iI mz), .ref (ma 1), .ref (ma 2), .int (iI mls), .int (iI mfp), .int (iI mfm), .ref (ma 3), .int (iI mtx), .ref (ma 4), .ref (ma 5), .int (iI mwd), .ref (ma 6), .ref (ma 7), .int (iI mak), .ref (ma 8), .ref (ma 9), .int (iI mli), .int (iI mlx), .ref (ma 10), .ref (ma 11), .int (iI z), .int (iI mtk), .int (iI mtf), .int (iI mtt), .int (iI mfa), .int (iI mla), .int (iI mlp), .int (iI mdp), .ref (ma 12), .ref (ma 13), .int (iI msi), .int (iI (bI mdn)), .int (iI mpf), .int (iI mpt)])), (ma 1, .inl (kA 0, 4120, .inl (aI ca)))] → va_S A s.heap H locs → ∀ ls : Array Slot, lv_has ls 2 [(0, .ref mo), (1, .int (iI ed))] → W p l e (rmd 0 0 0) s m args below meth c H locs 0 0 Q (F0 m 35 ls []) := by
    intro z hz4 hqo H locs hP hD hS ls hl
    refine lv_aload_n hx hb d_M_nextText_35 rfl (lv_at hl 0 rfl) ?_
    refine lv_aload_n hx hb d_M_nextText_36 rfl (lv_at hl 0 rfl) ?_
    refine gf_M_193 hx hb hts hown hK hP 0 rfl rfl d_M_nextText_37 ?_
    refine lv_iload_n hx hb d_M_nextText_40 rfl (lv_at hl 1 rfl) ?_
    refine li_icmp_ge (tgt := 48) hx hb d_M_nextText_41 (by decide) (by omega) (by omega) (fun c1 => ?_) (fun c1 => ?_)
    · have _q := c1
      refine lv_bipush (v := iI 7) hx hb d_M_nextText_48 (by decide) ?_
      refine pf_M_202 hx hb hts hown hK hP hD hS 0 rfl (Nat.le_of_ble_eq_true rfl) d_M_nextText_50 (fun H locs hP hD hS => ?_)
      have hP : va_P (dC, dI) CL [(mo, .inr (10, [.int (iI mrf), .ref (ma 0), .int (iI mz), .ref (ma 1), .ref (ma 2), .int (iI mls), .int (iI mfp), .int (iI mfm), .ref (ma 3), .int (iI mtx), .ref (ma 4), .ref (ma 5), .int (iI mwd), .ref (ma 6), .ref (ma 7), .int (iI mak), .ref (ma 8), .ref (ma 9), .int (iI mli), .int (iI mlx), .ref (ma 10), .ref (ma 11), .int (iI z), .int (iI 7), .int (iI mtf), .int (iI mtt), .int (iI mfa), .int (iI mla), .int (iI mlp), .int (iI mdp), .ref (ma 12), .ref (ma 13), .int (iI msi), .int (iI (bI mdn)), .int (iI mpf), .int (iI mpt)])), (ma 1, .inl (kA 0, 4120, .inl (aI ca)))] H := hP
      have hD : va_D A [(mo, .inr (10, [.int (iI mrf), .ref (ma 0), .int (iI mz), .ref (ma 1), .ref (ma 2), .int (iI mls), .int (iI mfp), .int (iI mfm), .ref (ma 3), .int (iI mtx), .ref (ma 4), .ref (ma 5), .int (iI mwd), .ref (ma 6), .ref (ma 7), .int (iI mak), .ref (ma 8), .ref (ma 9), .int (iI mli), .int (iI mlx), .ref (ma 10), .ref (ma 11), .int (iI z), .int (iI 7), .int (iI mtf), .int (iI mtt), .int (iI mfa), .int (iI mla), .int (iI mlp), .int (iI mdp), .ref (ma 12), .ref (ma 13), .int (iI msi), .int (iI (bI mdn)), .int (iI mpf), .int (iI mpt)])), (ma 1, .inl (kA 0, 4120, .inl (aI ca)))] := hD
      refine lv_aload_n hx hb d_M_nextText_53 rfl (lv_at hl 0 rfl) ?_
      refine lv_dup hx hb d_M_nextText_54 rfl ?_
      refine gf_M_196 hx hb hts hown hK hP 0 rfl rfl d_M_nextText_55 ?_
      refine lv_iconst (v := iI 1) hx hb d_M_nextText_58 rfl ?_
      refine li_iadd hx hb d_M_nextText_59 ?_
      refine li_nm (fun f_n ef_n => ?_)
      refine pf_M_196 hx hb hts hown hK hP hD hS 0 rfl (Nat.le_of_ble_eq_true rfl) d_M_nextText_60 (fun H locs hP hD hS => ?_)
      have hP : va_P (dC, dI) CL [(mo, .inr (10, [.int (iI mrf), .ref (ma 0), .int (iI mz), .ref (ma 1), .ref (ma 2), .int (iI mls), .int (iI mfp), .int (iI mfm), .ref (ma 3), .int (iI mtx), .ref (ma 4), .ref (ma 5), .int (iI mwd), .ref (ma 6), .ref (ma 7), .int (iI mak), .ref (ma 8), .ref (ma 9), .int (iI mli), .int (iI mlx), .ref (ma 10), .ref (ma 11), .int (iI z), .int (iI 7), .int (iI f_n), .int (iI mtt), .int (iI mfa), .int (iI mla), .int (iI mlp), .int (iI mdp), .ref (ma 12), .ref (ma 13), .int (iI msi), .int (iI (bI mdn)), .int (iI mpf), .int (iI mpt)])), (ma 1, .inl (kA 0, 4120, .inl (aI ca)))] H := hP
      have hD : va_D A [(mo, .inr (10, [.int (iI mrf), .ref (ma 0), .int (iI mz), .ref (ma 1), .ref (ma 2), .int (iI mls), .int (iI mfp), .int (iI mfm), .ref (ma 3), .int (iI mtx), .ref (ma 4), .ref (ma 5), .int (iI mwd), .ref (ma 6), .ref (ma 7), .int (iI mak), .ref (ma 8), .ref (ma 9), .int (iI mli), .int (iI mlx), .ref (ma 10), .ref (ma 11), .int (iI z), .int (iI 7), .int (iI f_n), .int (iI mtt), .int (iI mfa), .int (iI mla), .int (iI mlp), .int (iI mdp), .ref (ma 12), .ref (ma 13), .int (iI msi), .int (iI (bI mdn)), .int (iI mpf), .int (iI mpt)])), (ma 1, .inl (kA 0, 4120, .inl (aI ca)))] := hD
      refine lv_aload_n hx hb d_M_nextText_63 rfl (lv_at hl 0 rfl) ?_
      refine lv_aload_n hx hb d_M_nextText_64 rfl (lv_at hl 0 rfl) ?_
      refine gf_M_193 hx hb hts hown hK hP 0 rfl rfl d_M_nextText_65 ?_
      refine pf_M_199 hx hb hts hown hK hP hD hS 0 rfl (Nat.le_of_ble_eq_true rfl) d_M_nextText_68 (fun H locs hP hD hS => ?_)
      have hP : va_P (dC, dI) CL [(mo, .inr (10, [.int (iI mrf), .ref (ma 0), .int (iI mz), .ref (ma 1), .ref (ma 2), .int (iI mls), .int (iI mfp), .int (iI mfm), .ref (ma 3), .int (iI mtx), .ref (ma 4), .ref (ma 5), .int (iI mwd), .ref (ma 6), .ref (ma 7), .int (iI mak), .ref (ma 8), .ref (ma 9), .int (iI mli), .int (iI mlx), .ref (ma 10), .ref (ma 11), .int (iI z), .int (iI 7), .int (iI f_n), .int (iI z), .int (iI mfa), .int (iI mla), .int (iI mlp), .int (iI mdp), .ref (ma 12), .ref (ma 13), .int (iI msi), .int (iI (bI mdn)), .int (iI mpf), .int (iI mpt)])), (ma 1, .inl (kA 0, 4120, .inl (aI ca)))] H := hP
      have hD : va_D A [(mo, .inr (10, [.int (iI mrf), .ref (ma 0), .int (iI mz), .ref (ma 1), .ref (ma 2), .int (iI mls), .int (iI mfp), .int (iI mfm), .ref (ma 3), .int (iI mtx), .ref (ma 4), .ref (ma 5), .int (iI mwd), .ref (ma 6), .ref (ma 7), .int (iI mak), .ref (ma 8), .ref (ma 9), .int (iI mli), .int (iI mlx), .ref (ma 10), .ref (ma 11), .int (iI z), .int (iI 7), .int (iI f_n), .int (iI z), .int (iI mfa), .int (iI mla), .int (iI mlp), .int (iI mdp), .ref (ma 12), .ref (ma 13), .int (iI msi), .int (iI (bI mdn)), .int (iI mpf), .int (iI mpt)])), (ma 1, .inl (kA 0, 4120, .inl (aI ca)))] := hD
      refine lv_aload_n hx hb d_M_nextText_71 rfl (lv_at hl 0 rfl) ?_
      refine lv_aload_n hx hb d_M_nextText_72 rfl (lv_at hl 0 rfl) ?_
      refine gf_M_193 hx hb hts hown hK hP 0 rfl rfl d_M_nextText_73 ?_
      refine lv_iload_n hx hb d_M_nextText_76 rfl (lv_at hl 1 rfl) ?_
      refine li_icmp_ge (tgt := 89) hx hb d_M_nextText_77 (by decide) (by omega) (by omega) (fun c2 => ?_) (fun c2 => ?_)
      · have _q := c2
        refine lv_aload_n hx hb d_M_nextText_89 rfl (lv_at hl 0 rfl) ?_
        refine gf_M_193 hx hb hts hown hK hP 0 rfl rfl d_M_nextText_90 ?_
        refine pf_M_193 hx hb hts hown hK hP hD hS 0 rfl (Nat.le_of_ble_eq_true rfl) d_M_nextText_93 (fun H locs hP hD hS => ?_)
        have hP : va_P (dC, dI) CL [(mo, .inr (10, [.int (iI mrf), .ref (ma 0), .int (iI mz), .ref (ma 1), .ref (ma 2), .int (iI mls), .int (iI mfp), .int (iI mfm), .ref (ma 3), .int (iI mtx), .ref (ma 4), .ref (ma 5), .int (iI mwd), .ref (ma 6), .ref (ma 7), .int (iI mak), .ref (ma 8), .ref (ma 9), .int (iI mli), .int (iI mlx), .ref (ma 10), .ref (ma 11), .int (iI z), .int (iI 7), .int (iI f_n), .int (iI z), .int (iI mfa), .int (iI mla), .int (iI mlp), .int (iI mdp), .ref (ma 12), .ref (ma 13), .int (iI msi), .int (iI (bI mdn)), .int (iI mpf), .int (iI mpt)])), (ma 1, .inl (kA 0, 4120, .inl (aI ca)))] H := hP
        have hD : va_D A [(mo, .inr (10, [.int (iI mrf), .ref (ma 0), .int (iI mz), .ref (ma 1), .ref (ma 2), .int (iI mls), .int (iI mfp), .int (iI mfm), .ref (ma 3), .int (iI mtx), .ref (ma 4), .ref (ma 5), .int (iI mwd), .ref (ma 6), .ref (ma 7), .int (iI mak), .ref (ma 8), .ref (ma 9), .int (iI mli), .int (iI mlx), .ref (ma 10), .ref (ma 11), .int (iI z), .int (iI 7), .int (iI f_n), .int (iI z), .int (iI mfa), .int (iI mla), .int (iI mlp), .int (iI mdp), .ref (ma 12), .ref (ma 13), .int (iI msi), .int (iI (bI mdn)), .int (iI mpf), .int (iI mpt)])), (ma 1, .inl (kA 0, 4120, .inl (aI ca)))] := hD
        exact fin (z, 7, f_n, z) _ _ _ _ (by show (z, 7, f_n, z) = nxT ed (mtf + 1) (qoM ca ed mat) ∧ mat ≤ z ∧ z ≤ z ∧ z ≤ ed ∧ f_n = mtf + 1 ∧ (7 = 2 ∨ 7 = 7); refine ⟨by (unfold nxT; rw [hqo]; first | (rw [if_pos (by omega), if_pos (by omega)]; simp only [Prod.mk.injEq, true_and, and_true]; first | done | omega) | (rw [if_neg (by omega), if_neg (by omega)]; simp only [Prod.mk.injEq, true_and, and_true]; first | done | omega)), by omega, by omega, by omega, by omega, by omega⟩) (by first | exact hP | (subst_vars; exact hP)) (by first | exact hD | (subst_vars; exact hD)) hS d_M_nextText_96
      · have _q := c2
        exact absurd c2 (by omega)
    · have _q := c1
      refine lv_iconst (v := iI 2) hx hb d_M_nextText_44 rfl ?_
      refine lv_goto (tgt := 50) hx hb d_M_nextText_45 (by decide) ?_
      refine pf_M_202 hx hb hts hown hK hP hD hS 0 rfl (Nat.le_of_ble_eq_true rfl) d_M_nextText_50 (fun H locs hP hD hS => ?_)
      have hP : va_P (dC, dI) CL [(mo, .inr (10, [.int (iI mrf), .ref (ma 0), .int (iI mz), .ref (ma 1), .ref (ma 2), .int (iI mls), .int (iI mfp), .int (iI mfm), .ref (ma 3), .int (iI mtx), .ref (ma 4), .ref (ma 5), .int (iI mwd), .ref (ma 6), .ref (ma 7), .int (iI mak), .ref (ma 8), .ref (ma 9), .int (iI mli), .int (iI mlx), .ref (ma 10), .ref (ma 11), .int (iI z), .int (iI 2), .int (iI mtf), .int (iI mtt), .int (iI mfa), .int (iI mla), .int (iI mlp), .int (iI mdp), .ref (ma 12), .ref (ma 13), .int (iI msi), .int (iI (bI mdn)), .int (iI mpf), .int (iI mpt)])), (ma 1, .inl (kA 0, 4120, .inl (aI ca)))] H := hP
      have hD : va_D A [(mo, .inr (10, [.int (iI mrf), .ref (ma 0), .int (iI mz), .ref (ma 1), .ref (ma 2), .int (iI mls), .int (iI mfp), .int (iI mfm), .ref (ma 3), .int (iI mtx), .ref (ma 4), .ref (ma 5), .int (iI mwd), .ref (ma 6), .ref (ma 7), .int (iI mak), .ref (ma 8), .ref (ma 9), .int (iI mli), .int (iI mlx), .ref (ma 10), .ref (ma 11), .int (iI z), .int (iI 2), .int (iI mtf), .int (iI mtt), .int (iI mfa), .int (iI mla), .int (iI mlp), .int (iI mdp), .ref (ma 12), .ref (ma 13), .int (iI msi), .int (iI (bI mdn)), .int (iI mpf), .int (iI mpt)])), (ma 1, .inl (kA 0, 4120, .inl (aI ca)))] := hD
      refine lv_aload_n hx hb d_M_nextText_53 rfl (lv_at hl 0 rfl) ?_
      refine lv_dup hx hb d_M_nextText_54 rfl ?_
      refine gf_M_196 hx hb hts hown hK hP 0 rfl rfl d_M_nextText_55 ?_
      refine lv_iconst (v := iI 1) hx hb d_M_nextText_58 rfl ?_
      refine li_iadd hx hb d_M_nextText_59 ?_
      refine li_nm (fun f_n ef_n => ?_)
      refine pf_M_196 hx hb hts hown hK hP hD hS 0 rfl (Nat.le_of_ble_eq_true rfl) d_M_nextText_60 (fun H locs hP hD hS => ?_)
      have hP : va_P (dC, dI) CL [(mo, .inr (10, [.int (iI mrf), .ref (ma 0), .int (iI mz), .ref (ma 1), .ref (ma 2), .int (iI mls), .int (iI mfp), .int (iI mfm), .ref (ma 3), .int (iI mtx), .ref (ma 4), .ref (ma 5), .int (iI mwd), .ref (ma 6), .ref (ma 7), .int (iI mak), .ref (ma 8), .ref (ma 9), .int (iI mli), .int (iI mlx), .ref (ma 10), .ref (ma 11), .int (iI z), .int (iI 2), .int (iI f_n), .int (iI mtt), .int (iI mfa), .int (iI mla), .int (iI mlp), .int (iI mdp), .ref (ma 12), .ref (ma 13), .int (iI msi), .int (iI (bI mdn)), .int (iI mpf), .int (iI mpt)])), (ma 1, .inl (kA 0, 4120, .inl (aI ca)))] H := hP
      have hD : va_D A [(mo, .inr (10, [.int (iI mrf), .ref (ma 0), .int (iI mz), .ref (ma 1), .ref (ma 2), .int (iI mls), .int (iI mfp), .int (iI mfm), .ref (ma 3), .int (iI mtx), .ref (ma 4), .ref (ma 5), .int (iI mwd), .ref (ma 6), .ref (ma 7), .int (iI mak), .ref (ma 8), .ref (ma 9), .int (iI mli), .int (iI mlx), .ref (ma 10), .ref (ma 11), .int (iI z), .int (iI 2), .int (iI f_n), .int (iI mtt), .int (iI mfa), .int (iI mla), .int (iI mlp), .int (iI mdp), .ref (ma 12), .ref (ma 13), .int (iI msi), .int (iI (bI mdn)), .int (iI mpf), .int (iI mpt)])), (ma 1, .inl (kA 0, 4120, .inl (aI ca)))] := hD
      refine lv_aload_n hx hb d_M_nextText_63 rfl (lv_at hl 0 rfl) ?_
      refine lv_aload_n hx hb d_M_nextText_64 rfl (lv_at hl 0 rfl) ?_
      refine gf_M_193 hx hb hts hown hK hP 0 rfl rfl d_M_nextText_65 ?_
      refine pf_M_199 hx hb hts hown hK hP hD hS 0 rfl (Nat.le_of_ble_eq_true rfl) d_M_nextText_68 (fun H locs hP hD hS => ?_)
      have hP : va_P (dC, dI) CL [(mo, .inr (10, [.int (iI mrf), .ref (ma 0), .int (iI mz), .ref (ma 1), .ref (ma 2), .int (iI mls), .int (iI mfp), .int (iI mfm), .ref (ma 3), .int (iI mtx), .ref (ma 4), .ref (ma 5), .int (iI mwd), .ref (ma 6), .ref (ma 7), .int (iI mak), .ref (ma 8), .ref (ma 9), .int (iI mli), .int (iI mlx), .ref (ma 10), .ref (ma 11), .int (iI z), .int (iI 2), .int (iI f_n), .int (iI z), .int (iI mfa), .int (iI mla), .int (iI mlp), .int (iI mdp), .ref (ma 12), .ref (ma 13), .int (iI msi), .int (iI (bI mdn)), .int (iI mpf), .int (iI mpt)])), (ma 1, .inl (kA 0, 4120, .inl (aI ca)))] H := hP
      have hD : va_D A [(mo, .inr (10, [.int (iI mrf), .ref (ma 0), .int (iI mz), .ref (ma 1), .ref (ma 2), .int (iI mls), .int (iI mfp), .int (iI mfm), .ref (ma 3), .int (iI mtx), .ref (ma 4), .ref (ma 5), .int (iI mwd), .ref (ma 6), .ref (ma 7), .int (iI mak), .ref (ma 8), .ref (ma 9), .int (iI mli), .int (iI mlx), .ref (ma 10), .ref (ma 11), .int (iI z), .int (iI 2), .int (iI f_n), .int (iI z), .int (iI mfa), .int (iI mla), .int (iI mlp), .int (iI mdp), .ref (ma 12), .ref (ma 13), .int (iI msi), .int (iI (bI mdn)), .int (iI mpf), .int (iI mpt)])), (ma 1, .inl (kA 0, 4120, .inl (aI ca)))] := hD
      refine lv_aload_n hx hb d_M_nextText_71 rfl (lv_at hl 0 rfl) ?_
      refine lv_aload_n hx hb d_M_nextText_72 rfl (lv_at hl 0 rfl) ?_
      refine gf_M_193 hx hb hts hown hK hP 0 rfl rfl d_M_nextText_73 ?_
      refine lv_iload_n hx hb d_M_nextText_76 rfl (lv_at hl 1 rfl) ?_
      refine li_icmp_ge (tgt := 89) hx hb d_M_nextText_77 (by decide) (by omega) (by omega) (fun c3 => ?_) (fun c3 => ?_)
      · have _q := c3
        exact absurd c3 (by omega)
      · have _q := c3
        refine lv_aload_n hx hb d_M_nextText_80 rfl (lv_at hl 0 rfl) ?_
        refine gf_M_193 hx hb hts hown hK hP 0 rfl rfl d_M_nextText_81 ?_
        refine lv_iconst (v := iI 1) hx hb d_M_nextText_84 rfl ?_
        refine li_iadd hx hb d_M_nextText_85 ?_
        refine lv_goto (tgt := 93) hx hb d_M_nextText_86 (by decide) ?_
        refine li_nm (fun a_n ea_n => ?_)
        refine pf_M_193 hx hb hts hown hK hP hD hS 0 rfl (Nat.le_of_ble_eq_true rfl) d_M_nextText_93 (fun H locs hP hD hS => ?_)
        have hP : va_P (dC, dI) CL [(mo, .inr (10, [.int (iI mrf), .ref (ma 0), .int (iI mz), .ref (ma 1), .ref (ma 2), .int (iI mls), .int (iI mfp), .int (iI mfm), .ref (ma 3), .int (iI mtx), .ref (ma 4), .ref (ma 5), .int (iI mwd), .ref (ma 6), .ref (ma 7), .int (iI mak), .ref (ma 8), .ref (ma 9), .int (iI mli), .int (iI mlx), .ref (ma 10), .ref (ma 11), .int (iI a_n), .int (iI 2), .int (iI f_n), .int (iI z), .int (iI mfa), .int (iI mla), .int (iI mlp), .int (iI mdp), .ref (ma 12), .ref (ma 13), .int (iI msi), .int (iI (bI mdn)), .int (iI mpf), .int (iI mpt)])), (ma 1, .inl (kA 0, 4120, .inl (aI ca)))] H := hP
        have hD : va_D A [(mo, .inr (10, [.int (iI mrf), .ref (ma 0), .int (iI mz), .ref (ma 1), .ref (ma 2), .int (iI mls), .int (iI mfp), .int (iI mfm), .ref (ma 3), .int (iI mtx), .ref (ma 4), .ref (ma 5), .int (iI mwd), .ref (ma 6), .ref (ma 7), .int (iI mak), .ref (ma 8), .ref (ma 9), .int (iI mli), .int (iI mlx), .ref (ma 10), .ref (ma 11), .int (iI a_n), .int (iI 2), .int (iI f_n), .int (iI z), .int (iI mfa), .int (iI mla), .int (iI mlp), .int (iI mdp), .ref (ma 12), .ref (ma 13), .int (iI msi), .int (iI (bI mdn)), .int (iI mpf), .int (iI mpt)])), (ma 1, .inl (kA 0, 4120, .inl (aI ca)))] := hD
        exact fin (a_n, 2, f_n, z) _ _ _ _ (by show (a_n, 2, f_n, z) = nxT ed (mtf + 1) (qoM ca ed mat) ∧ mat ≤ z ∧ z ≤ a_n ∧ a_n ≤ ed ∧ f_n = mtf + 1 ∧ (2 = 2 ∨ 2 = 7); refine ⟨by (unfold nxT; rw [hqo]; first | (rw [if_pos (by omega), if_pos (by omega)]; simp only [Prod.mk.injEq, true_and, and_true]; first | done | omega) | (rw [if_neg (by omega), if_neg (by omega)]; simp only [Prod.mk.injEq, true_and, and_true]; first | done | omega)), by omega, by omega, by omega, by omega, by omega⟩) (by first | exact hP | (subst_vars; exact hP)) (by first | exact hD | (subst_vars; exact hD)) hS d_M_nextText_96
  have K_0 : ∀ (nn_0 : Nat) (z : Int), (mat ≤ z ∧ z ≤ ed) → (qoL ca (ed - z).toNat z = qoM ca ed mat) → ((ed - z).toNat < nn_0) → ∀ (H : Heap) (locs : List Loc), va_P (dC, dI) CL [(mo, .inr (10, [.int (iI mrf), .ref (ma 0), .int (iI mz), .ref (ma 1), .ref (ma 2), .int (iI mls), .int (iI mfp), .int (iI mfm), .ref (ma 3), .int (iI mtx), .ref (ma 4), .ref (ma 5), .int (iI mwd), .ref (ma 6), .ref (ma 7), .int (iI mak), .ref (ma 8), .ref (ma 9), .int (iI mli), .int (iI mlx), .ref (ma 10), .ref (ma 11), .int (iI z), .int (iI mtk), .int (iI mtf), .int (iI mtt), .int (iI mfa), .int (iI mla), .int (iI mlp), .int (iI mdp), .ref (ma 12), .ref (ma 13), .int (iI msi), .int (iI (bI mdn)), .int (iI mpf), .int (iI mpt)])), (ma 1, .inl (kA 0, 4120, .inl (aI ca)))] H → va_D A [(mo, .inr (10, [.int (iI mrf), .ref (ma 0), .int (iI mz), .ref (ma 1), .ref (ma 2), .int (iI mls), .int (iI mfp), .int (iI mfm), .ref (ma 3), .int (iI mtx), .ref (ma 4), .ref (ma 5), .int (iI mwd), .ref (ma 6), .ref (ma 7), .int (iI mak), .ref (ma 8), .ref (ma 9), .int (iI mli), .int (iI mlx), .ref (ma 10), .ref (ma 11), .int (iI z), .int (iI mtk), .int (iI mtf), .int (iI mtt), .int (iI mfa), .int (iI mla), .int (iI mlp), .int (iI mdp), .ref (ma 12), .ref (ma 13), .int (iI msi), .int (iI (bI mdn)), .int (iI mpf), .int (iI mpt)])), (ma 1, .inl (kA 0, 4120, .inl (aI ca)))] → va_S A s.heap H locs → ∀ ls : Array Slot, lv_has ls 2 [(0, .ref mo), (1, .int (iI ed))] → W p l e (rmd 0 0 0) s m args below meth c H locs 0 0 Q (F0 m 0 ls []) := by
    intro nn_0
    induction nn_0 with
    | zero => intro z hz4 hres hm; exact absurd hm (Nat.not_lt_zero _)
    | succ nn_0 ih_0 =>
      intro z hz4 hres hm_0 H locs hP hD hS ls hl
      refine lv_aload_n hx hb d_M_nextText_0 rfl (lv_at hl 0 rfl) ?_
      refine gf_M_193 hx hb hts hown hK hP 0 rfl rfl d_M_nextText_1 ?_
      refine lv_iload_n hx hb d_M_nextText_4 rfl (lv_at hl 1 rfl) ?_
      refine li_icmp_ge (tgt := 35) hx hb d_M_nextText_5 (by decide) (by omega) (by omega) (fun c4 => ?_) (fun c4 => ?_)
      · have _q := c4
        rw [show (ed - z).toNat = 0 by omega] at hres
        simp only [qoL] at hres
        exact K_35 z (by omega) (by exact hres.symm) _ _ hP hD hS _ (lv_sub hl [0, 1] rfl)
      · have _q := c4
        rw [show (ed - z).toNat = (ed - (z + 1)).toNat + 1 by omega] at hres
        simp only [qoL] at hres
        refine lv_aload_n hx hb d_M_nextText_8 rfl (lv_at hl 0 rfl) ?_
        refine gf_M_13 hx hb hts hown hK hP 0 rfl rfl d_M_nextText_9 ?_
        refine lv_aload_n hx hb d_M_nextText_12 rfl (lv_at hl 0 rfl) ?_
        refine gf_M_193 hx hb hts hown hK hP 0 rfl rfl d_M_nextText_13 ?_
        refine li_iald hx hb hK hP 1 0 rfl rfl (by omega) (by omega) (by omega) d_M_nextText_16 ?_
        have f5 := hca z.toNat
        refine lv_bipush (v := iI 34) hx hb d_M_nextText_17 (by decide) ?_
        refine li_icmp_eq (tgt := 35) hx hb d_M_nextText_19 (by decide) (by omega) (by omega) (fun c6 => ?_) (fun c6 => ?_)
        · have _q := c6
          rw [if_pos (by assumption)] at hres
          exact K_35 z (by omega) (by exact hres.symm) _ _ hP hD hS _ (lv_sub hl [0, 1] rfl)
        · have _q := c6
          rw [if_neg (by assumption)] at hres
          refine lv_aload_n hx hb d_M_nextText_22 rfl (lv_at hl 0 rfl) ?_
          refine lv_dup hx hb d_M_nextText_23 rfl ?_
          refine gf_M_193 hx hb hts hown hK hP 0 rfl rfl d_M_nextText_24 ?_
          refine lv_iconst (v := iI 1) hx hb d_M_nextText_27 rfl ?_
          refine li_iadd hx hb d_M_nextText_28 ?_
          refine li_nm (fun z_n ez_n => ?_)
          refine pf_M_193 hx hb hts hown hK hP hD hS 0 rfl (Nat.le_of_ble_eq_true rfl) d_M_nextText_29 (fun H locs hP hD hS => ?_)
          have hP : va_P (dC, dI) CL [(mo, .inr (10, [.int (iI mrf), .ref (ma 0), .int (iI mz), .ref (ma 1), .ref (ma 2), .int (iI mls), .int (iI mfp), .int (iI mfm), .ref (ma 3), .int (iI mtx), .ref (ma 4), .ref (ma 5), .int (iI mwd), .ref (ma 6), .ref (ma 7), .int (iI mak), .ref (ma 8), .ref (ma 9), .int (iI mli), .int (iI mlx), .ref (ma 10), .ref (ma 11), .int (iI z_n), .int (iI mtk), .int (iI mtf), .int (iI mtt), .int (iI mfa), .int (iI mla), .int (iI mlp), .int (iI mdp), .ref (ma 12), .ref (ma 13), .int (iI msi), .int (iI (bI mdn)), .int (iI mpf), .int (iI mpt)])), (ma 1, .inl (kA 0, 4120, .inl (aI ca)))] H := hP
          have hD : va_D A [(mo, .inr (10, [.int (iI mrf), .ref (ma 0), .int (iI mz), .ref (ma 1), .ref (ma 2), .int (iI mls), .int (iI mfp), .int (iI mfm), .ref (ma 3), .int (iI mtx), .ref (ma 4), .ref (ma 5), .int (iI mwd), .ref (ma 6), .ref (ma 7), .int (iI mak), .ref (ma 8), .ref (ma 9), .int (iI mli), .int (iI mlx), .ref (ma 10), .ref (ma 11), .int (iI z_n), .int (iI mtk), .int (iI mtf), .int (iI mtt), .int (iI mfa), .int (iI mla), .int (iI mlp), .int (iI mdp), .ref (ma 12), .ref (ma 13), .int (iI msi), .int (iI (bI mdn)), .int (iI mpf), .int (iI mpt)])), (ma 1, .inl (kA 0, 4120, .inl (aI ca)))] := hD
          refine lv_goto (tgt := 0) hx hb d_M_nextText_32 (by decide) ?_
          exact ih_0 z_n (by omega) (by first | rfl | (rw [ez_n]; exact hres)) (by omega) _ _ hP hD hS _ (lv_sub hl [0, 1] rfl)
  suffices h9 : ∀ (H : Heap) (locs : List Loc), H = s.heap → locs = [] → W p l e (rmd 0 0 0) s m args below meth c H locs 0 0 Q (F0 m 0 ls []) from h9 _ _ rfl rfl
  intro H locs eH eL
  have hP : va_P (dC, dI) CL [(mo, .inr (10, [.int (iI mrf), .ref (ma 0), .int (iI mz), .ref (ma 1), .ref (ma 2), .int (iI mls), .int (iI mfp), .int (iI mfm), .ref (ma 3), .int (iI mtx), .ref (ma 4), .ref (ma 5), .int (iI mwd), .ref (ma 6), .ref (ma 7), .int (iI mak), .ref (ma 8), .ref (ma 9), .int (iI mli), .int (iI mlx), .ref (ma 10), .ref (ma 11), .int (iI mat), .int (iI mtk), .int (iI mtf), .int (iI mtt), .int (iI mfa), .int (iI mla), .int (iI mlp), .int (iI mdp), .ref (ma 12), .ref (ma 13), .int (iI msi), .int (iI (bI mdn)), .int (iI mpf), .int (iI mpt)])), (ma 1, .inl (kA 0, 4120, .inl (aI ca)))] H := by rw [eH]; exact hP
  have hS : va_S A s.heap H locs := by rw [eH, eL]; exact va_S.rf
  exact K_0 ((ed - mat).toNat + 1) mat (by omega) (by first | rfl | (rw [ez_n]; exact hres)) (Nat.lt_succ_self _) _ _ hP hD hS _ (lv_sub hl [0, 1] rfl)
theorem d_M_next_0 : decode b_M_next 0 = .ok (.aload_n 0, 1) := by decide +kernel
theorem d_M_next_1 : decode b_M_next 1 = .ok (.invokevirtual 190, 3) := by decide +kernel
theorem d_M_next_4 : decode b_M_next 4 = .ok (.istore_n 1, 1) := by decide +kernel
theorem d_M_next_5 : decode b_M_next 5 = .ok (.aload_n 0, 1) := by decide +kernel
theorem d_M_next_6 : decode b_M_next 6 = .ok (.getfield 193, 3) := by decide +kernel
theorem d_M_next_9 : decode b_M_next 9 = .ok (.iload_n 1, 1) := by decide +kernel
theorem d_M_next_10 : decode b_M_next 10 = .ok (.if_icmp .ge 30, 3) := by decide +kernel
theorem d_M_next_13 : decode b_M_next 13 = .ok (.aload_n 0, 1) := by decide +kernel
theorem d_M_next_14 : decode b_M_next 14 = .ok (.getfield 13, 3) := by decide +kernel
theorem d_M_next_17 : decode b_M_next 17 = .ok (.aload_n 0, 1) := by decide +kernel
theorem d_M_next_18 : decode b_M_next 18 = .ok (.getfield 193, 3) := by decide +kernel
theorem d_M_next_21 : decode b_M_next 21 = .ok (.iaload, 1) := by decide +kernel
theorem d_M_next_22 : decode b_M_next 22 = .ok (.bipush 32, 2) := by decide +kernel
theorem d_M_next_24 : decode b_M_next 24 = .ok (.if_icmp .ne 16, 3) := by decide +kernel
theorem d_M_next_27 : decode b_M_next 27 = .ok (.aload_n 0, 1) := by decide +kernel
theorem d_M_next_28 : decode b_M_next 28 = .ok (.dup, 1) := by decide +kernel
theorem d_M_next_29 : decode b_M_next 29 = .ok (.getfield 193, 3) := by decide +kernel
theorem d_M_next_32 : decode b_M_next 32 = .ok (.iconst 1, 1) := by decide +kernel
theorem d_M_next_33 : decode b_M_next 33 = .ok (.iadd, 1) := by decide +kernel
theorem d_M_next_34 : decode b_M_next 34 = .ok (.putfield 193, 3) := by decide +kernel
theorem d_M_next_37 : decode b_M_next 37 = .ok (.goto (-32), 3) := by decide +kernel
theorem d_M_next_40 : decode b_M_next 40 = .ok (.aload_n 0, 1) := by decide +kernel
theorem d_M_next_41 : decode b_M_next 41 = .ok (.aload_n 0, 1) := by decide +kernel
theorem d_M_next_42 : decode b_M_next 42 = .ok (.getfield 193, 3) := by decide +kernel
theorem d_M_next_45 : decode b_M_next 45 = .ok (.putfield 196, 3) := by decide +kernel
theorem d_M_next_48 : decode b_M_next 48 = .ok (.aload_n 0, 1) := by decide +kernel
theorem d_M_next_49 : decode b_M_next 49 = .ok (.aload_n 0, 1) := by decide +kernel
theorem d_M_next_50 : decode b_M_next 50 = .ok (.getfield 193, 3) := by decide +kernel
theorem d_M_next_53 : decode b_M_next 53 = .ok (.putfield 199, 3) := by decide +kernel
theorem d_M_next_56 : decode b_M_next 56 = .ok (.aload_n 0, 1) := by decide +kernel
theorem d_M_next_57 : decode b_M_next 57 = .ok (.getfield 193, 3) := by decide +kernel
theorem d_M_next_60 : decode b_M_next 60 = .ok (.iload_n 1, 1) := by decide +kernel
theorem d_M_next_61 : decode b_M_next 61 = .ok (.if_icmp .ne 9, 3) := by decide +kernel
theorem d_M_next_64 : decode b_M_next 64 = .ok (.aload_n 0, 1) := by decide +kernel
theorem d_M_next_65 : decode b_M_next 65 = .ok (.iconst 0, 1) := by decide +kernel
theorem d_M_next_66 : decode b_M_next 66 = .ok (.putfield 202, 3) := by decide +kernel
theorem d_M_next_69 : decode b_M_next 69 = .ok (.return_, 1) := by decide +kernel
theorem d_M_next_70 : decode b_M_next 70 = .ok (.aload_n 0, 1) := by decide +kernel
theorem d_M_next_71 : decode b_M_next 71 = .ok (.getfield 13, 3) := by decide +kernel
theorem d_M_next_74 : decode b_M_next 74 = .ok (.aload_n 0, 1) := by decide +kernel
theorem d_M_next_75 : decode b_M_next 75 = .ok (.getfield 193, 3) := by decide +kernel
theorem d_M_next_78 : decode b_M_next 78 = .ok (.iaload, 1) := by decide +kernel
theorem d_M_next_79 : decode b_M_next 79 = .ok (.istore_n 2, 1) := by decide +kernel
theorem d_M_next_80 : decode b_M_next 80 = .ok (.iload_n 2, 1) := by decide +kernel
theorem d_M_next_81 : decode b_M_next 81 = .ok (.invokestatic 205, 3) := by decide +kernel
theorem d_M_next_84 : decode b_M_next 84 = .ok (.ifCond .eq 165, 3) := by decide +kernel
theorem d_M_next_87 : decode b_M_next 87 = .ok (.aload_n 0, 1) := by decide +kernel
theorem d_M_next_88 : decode b_M_next 88 = .ok (.getfield 193, 3) := by decide +kernel
theorem d_M_next_91 : decode b_M_next 91 = .ok (.iload_n 1, 1) := by decide +kernel
theorem d_M_next_92 : decode b_M_next 92 = .ok (.if_icmp .ge 31, 3) := by decide +kernel
theorem d_M_next_95 : decode b_M_next 95 = .ok (.aload_n 0, 1) := by decide +kernel
theorem d_M_next_96 : decode b_M_next 96 = .ok (.getfield 13, 3) := by decide +kernel
theorem d_M_next_99 : decode b_M_next 99 = .ok (.aload_n 0, 1) := by decide +kernel
theorem d_M_next_100 : decode b_M_next 100 = .ok (.getfield 193, 3) := by decide +kernel
theorem d_M_next_103 : decode b_M_next 103 = .ok (.iaload, 1) := by decide +kernel
theorem d_M_next_104 : decode b_M_next 104 = .ok (.invokestatic 205, 3) := by decide +kernel
theorem d_M_next_107 : decode b_M_next 107 = .ok (.ifCond .eq 16, 3) := by decide +kernel
theorem d_M_next_110 : decode b_M_next 110 = .ok (.aload_n 0, 1) := by decide +kernel
theorem d_M_next_111 : decode b_M_next 111 = .ok (.dup, 1) := by decide +kernel
theorem d_M_next_112 : decode b_M_next 112 = .ok (.getfield 193, 3) := by decide +kernel
theorem d_M_next_115 : decode b_M_next 115 = .ok (.iconst 1, 1) := by decide +kernel
theorem d_M_next_116 : decode b_M_next 116 = .ok (.iadd, 1) := by decide +kernel
theorem d_M_next_117 : decode b_M_next 117 = .ok (.putfield 193, 3) := by decide +kernel
theorem d_M_next_120 : decode b_M_next 120 = .ok (.goto (-33), 3) := by decide +kernel
theorem d_M_next_123 : decode b_M_next 123 = .ok (.aload_n 0, 1) := by decide +kernel
theorem d_M_next_124 : decode b_M_next 124 = .ok (.aload_n 0, 1) := by decide +kernel
theorem d_M_next_125 : decode b_M_next 125 = .ok (.getfield 193, 3) := by decide +kernel
theorem d_M_next_128 : decode b_M_next 128 = .ok (.putfield 199, 3) := by decide +kernel
theorem d_M_next_131 : decode b_M_next 131 = .ok (.aload_n 0, 1) := by decide +kernel
theorem d_M_next_132 : decode b_M_next 132 = .ok (.aload_n 0, 1) := by decide +kernel
theorem d_M_next_133 : decode b_M_next 133 = .ok (.aload_n 0, 1) := by decide +kernel
theorem d_M_next_134 : decode b_M_next 134 = .ok (.getfield 196, 3) := by decide +kernel
theorem d_M_next_137 : decode b_M_next 137 = .ok (.aload_n 0, 1) := by decide +kernel
theorem d_M_next_138 : decode b_M_next 138 = .ok (.getfield 193, 3) := by decide +kernel
theorem d_M_next_141 : decode b_M_next 141 = .ok (.ldc2_w 208, 3) := by decide +kernel
theorem d_M_next_144 : decode b_M_next 144 = .ok (.invokevirtual 184, 3) := by decide +kernel
theorem d_M_next_147 : decode b_M_next 147 = .ok (.ifCond .eq 8, 3) := by decide +kernel
theorem d_M_next_150 : decode b_M_next 150 = .ok (.bipush 8, 2) := by decide +kernel
theorem d_M_next_152 : decode b_M_next 152 = .ok (.goto 93, 3) := by decide +kernel
theorem d_M_next_155 : decode b_M_next 155 = .ok (.aload_n 0, 1) := by decide +kernel
theorem d_M_next_156 : decode b_M_next 156 = .ok (.aload_n 0, 1) := by decide +kernel
theorem d_M_next_157 : decode b_M_next 157 = .ok (.getfield 196, 3) := by decide +kernel
theorem d_M_next_160 : decode b_M_next 160 = .ok (.aload_n 0, 1) := by decide +kernel
theorem d_M_next_161 : decode b_M_next 161 = .ok (.getfield 193, 3) := by decide +kernel
theorem d_M_next_164 : decode b_M_next 164 = .ok (.ldc2_w 210, 3) := by decide +kernel
theorem d_M_next_167 : decode b_M_next 167 = .ok (.invokevirtual 184, 3) := by decide +kernel
theorem d_M_next_170 : decode b_M_next 170 = .ok (.ifCond .eq 8, 3) := by decide +kernel
theorem d_M_next_173 : decode b_M_next 173 = .ok (.bipush 9, 2) := by decide +kernel
theorem d_M_next_175 : decode b_M_next 175 = .ok (.goto 70, 3) := by decide +kernel
theorem d_M_next_178 : decode b_M_next 178 = .ok (.aload_n 0, 1) := by decide +kernel
theorem d_M_next_179 : decode b_M_next 179 = .ok (.aload_n 0, 1) := by decide +kernel
theorem d_M_next_180 : decode b_M_next 180 = .ok (.getfield 196, 3) := by decide +kernel
theorem d_M_next_183 : decode b_M_next 183 = .ok (.aload_n 0, 1) := by decide +kernel
theorem d_M_next_184 : decode b_M_next 184 = .ok (.getfield 193, 3) := by decide +kernel
theorem d_M_next_187 : decode b_M_next 187 = .ok (.ldc2_w 212, 3) := by decide +kernel
theorem d_M_next_190 : decode b_M_next 190 = .ok (.invokevirtual 184, 3) := by decide +kernel
theorem d_M_next_193 : decode b_M_next 193 = .ok (.ifCond .eq 8, 3) := by decide +kernel
theorem d_M_next_196 : decode b_M_next 196 = .ok (.bipush 10, 2) := by decide +kernel
theorem d_M_next_198 : decode b_M_next 198 = .ok (.goto 47, 3) := by decide +kernel
theorem d_M_next_201 : decode b_M_next 201 = .ok (.aload_n 0, 1) := by decide +kernel
theorem d_M_next_202 : decode b_M_next 202 = .ok (.aload_n 0, 1) := by decide +kernel
theorem d_M_next_203 : decode b_M_next 203 = .ok (.getfield 196, 3) := by decide +kernel
theorem d_M_next_206 : decode b_M_next 206 = .ok (.aload_n 0, 1) := by decide +kernel
theorem d_M_next_207 : decode b_M_next 207 = .ok (.getfield 193, 3) := by decide +kernel
theorem d_M_next_210 : decode b_M_next 210 = .ok (.ldc2_w 214, 3) := by decide +kernel
theorem d_M_next_213 : decode b_M_next 213 = .ok (.invokevirtual 184, 3) := by decide +kernel
theorem d_M_next_216 : decode b_M_next 216 = .ok (.ifCond .eq 8, 3) := by decide +kernel
theorem d_M_next_219 : decode b_M_next 219 = .ok (.bipush 11, 2) := by decide +kernel
theorem d_M_next_221 : decode b_M_next 221 = .ok (.goto 24, 3) := by decide +kernel
theorem d_M_next_224 : decode b_M_next 224 = .ok (.aload_n 0, 1) := by decide +kernel
theorem d_M_next_225 : decode b_M_next 225 = .ok (.aload_n 0, 1) := by decide +kernel
theorem d_M_next_226 : decode b_M_next 226 = .ok (.getfield 196, 3) := by decide +kernel
theorem d_M_next_229 : decode b_M_next 229 = .ok (.aload_n 0, 1) := by decide +kernel
theorem d_M_next_230 : decode b_M_next 230 = .ok (.getfield 193, 3) := by decide +kernel
theorem d_M_next_233 : decode b_M_next 233 = .ok (.invokevirtual 216, 3) := by decide +kernel
theorem d_M_next_236 : decode b_M_next 236 = .ok (.ifCond .eq 8, 3) := by decide +kernel
theorem d_M_next_239 : decode b_M_next 239 = .ok (.bipush 12, 2) := by decide +kernel
theorem d_M_next_241 : decode b_M_next 241 = .ok (.goto 4, 3) := by decide +kernel
theorem d_M_next_244 : decode b_M_next 244 = .ok (.iconst 1, 1) := by decide +kernel
theorem d_M_next_245 : decode b_M_next 245 = .ok (.putfield 202, 3) := by decide +kernel
theorem d_M_next_248 : decode b_M_next 248 = .ok (.return_, 1) := by decide +kernel
theorem d_M_next_249 : decode b_M_next 249 = .ok (.aload_n 0, 1) := by decide +kernel
theorem d_M_next_250 : decode b_M_next 250 = .ok (.dup, 1) := by decide +kernel
theorem d_M_next_251 : decode b_M_next 251 = .ok (.getfield 193, 3) := by decide +kernel
theorem d_M_next_254 : decode b_M_next 254 = .ok (.iconst 1, 1) := by decide +kernel
theorem d_M_next_255 : decode b_M_next 255 = .ok (.iadd, 1) := by decide +kernel
theorem d_M_next_256 : decode b_M_next 256 = .ok (.putfield 193, 3) := by decide +kernel
theorem d_M_next_259 : decode b_M_next 259 = .ok (.iload_n 2, 1) := by decide +kernel
theorem d_M_next_260 : decode b_M_next 260 = .ok (.bipush 34, 2) := by decide +kernel
theorem d_M_next_262 : decode b_M_next 262 = .ok (.if_icmp .ne 9, 3) := by decide +kernel
theorem d_M_next_265 : decode b_M_next 265 = .ok (.aload_n 0, 1) := by decide +kernel
theorem d_M_next_266 : decode b_M_next 266 = .ok (.iload_n 1, 1) := by decide +kernel
theorem d_M_next_267 : decode b_M_next 267 = .ok (.invokevirtual 220, 3) := by decide +kernel
theorem d_M_next_270 : decode b_M_next 270 = .ok (.return_, 1) := by decide +kernel
theorem d_M_next_271 : decode b_M_next 271 = .ok (.aload_n 0, 1) := by decide +kernel
theorem d_M_next_272 : decode b_M_next 272 = .ok (.getfield 193, 3) := by decide +kernel
theorem d_M_next_275 : decode b_M_next 275 = .ok (.iload_n 1, 1) := by decide +kernel
theorem d_M_next_276 : decode b_M_next 276 = .ok (.if_icmp .ge 39, 3) := by decide +kernel
theorem d_M_next_279 : decode b_M_next 279 = .ok (.aload_n 0, 1) := by decide +kernel
theorem d_M_next_280 : decode b_M_next 280 = .ok (.getfield 13, 3) := by decide +kernel
theorem d_M_next_283 : decode b_M_next 283 = .ok (.aload_n 0, 1) := by decide +kernel
theorem d_M_next_284 : decode b_M_next 284 = .ok (.getfield 193, 3) := by decide +kernel
theorem d_M_next_287 : decode b_M_next 287 = .ok (.iaload, 1) := by decide +kernel
theorem d_M_next_288 : decode b_M_next 288 = .ok (.bipush 61, 2) := by decide +kernel
theorem d_M_next_290 : decode b_M_next 290 = .ok (.if_icmp .ne 25, 3) := by decide +kernel
theorem d_M_next_293 : decode b_M_next 293 = .ok (.iload_n 2, 1) := by decide +kernel
theorem d_M_next_294 : decode b_M_next 294 = .ok (.bipush 61, 2) := by decide +kernel
theorem d_M_next_296 : decode b_M_next 296 = .ok (.if_icmp .eq 15, 3) := by decide +kernel
theorem d_M_next_299 : decode b_M_next 299 = .ok (.iload_n 2, 1) := by decide +kernel
theorem d_M_next_300 : decode b_M_next 300 = .ok (.bipush 60, 2) := by decide +kernel
theorem d_M_next_302 : decode b_M_next 302 = .ok (.if_icmp .eq 9, 3) := by decide +kernel
theorem d_M_next_305 : decode b_M_next 305 = .ok (.iload_n 2, 1) := by decide +kernel
theorem d_M_next_306 : decode b_M_next 306 = .ok (.bipush 62, 2) := by decide +kernel
theorem d_M_next_308 : decode b_M_next 308 = .ok (.if_icmp .ne 7, 3) := by decide +kernel
theorem d_M_next_311 : decode b_M_next 311 = .ok (.iconst 1, 1) := by decide +kernel
theorem d_M_next_312 : decode b_M_next 312 = .ok (.goto 4, 3) := by decide +kernel
theorem d_M_next_315 : decode b_M_next 315 = .ok (.iconst 0, 1) := by decide +kernel
theorem d_M_next_316 : decode b_M_next 316 = .ok (.istore_n 3, 1) := by decide +kernel
theorem d_M_next_317 : decode b_M_next 317 = .ok (.aload_n 0, 1) := by decide +kernel
theorem d_M_next_318 : decode b_M_next 318 = .ok (.iload_n 3, 1) := by decide +kernel
theorem d_M_next_319 : decode b_M_next 319 = .ok (.ifCond .eq 12, 3) := by decide +kernel
theorem d_M_next_322 : decode b_M_next 322 = .ok (.aload_n 0, 1) := by decide +kernel
theorem d_M_next_323 : decode b_M_next 323 = .ok (.getfield 193, 3) := by decide +kernel
theorem d_M_next_326 : decode b_M_next 326 = .ok (.iconst 1, 1) := by decide +kernel
theorem d_M_next_327 : decode b_M_next 327 = .ok (.iadd, 1) := by decide +kernel
theorem d_M_next_328 : decode b_M_next 328 = .ok (.goto 7, 3) := by decide +kernel
theorem d_M_next_331 : decode b_M_next 331 = .ok (.aload_n 0, 1) := by decide +kernel
theorem d_M_next_332 : decode b_M_next 332 = .ok (.getfield 193, 3) := by decide +kernel
theorem d_M_next_335 : decode b_M_next 335 = .ok (.putfield 193, 3) := by decide +kernel
theorem d_M_next_338 : decode b_M_next 338 = .ok (.aload_n 0, 1) := by decide +kernel
theorem d_M_next_339 : decode b_M_next 339 = .ok (.aload_n 0, 1) := by decide +kernel
theorem d_M_next_340 : decode b_M_next 340 = .ok (.getfield 193, 3) := by decide +kernel
theorem d_M_next_343 : decode b_M_next 343 = .ok (.putfield 199, 3) := by decide +kernel
theorem d_M_next_346 : decode b_M_next 346 = .ok (.aload_n 0, 1) := by decide +kernel
theorem d_M_next_347 : decode b_M_next 347 = .ok (.iload_n 2, 1) := by decide +kernel
theorem d_M_next_348 : decode b_M_next 348 = .ok (.bipush 40, 2) := by decide +kernel
theorem d_M_next_350 : decode b_M_next 350 = .ok (.if_icmp .ne 7, 3) := by decide +kernel
theorem d_M_next_353 : decode b_M_next 353 = .ok (.iconst 4, 1) := by decide +kernel
theorem d_M_next_354 : decode b_M_next 354 = .ok (.goto 25, 3) := by decide +kernel
theorem d_M_next_357 : decode b_M_next 357 = .ok (.iload_n 2, 1) := by decide +kernel
theorem d_M_next_358 : decode b_M_next 358 = .ok (.bipush 41, 2) := by decide +kernel
theorem d_M_next_360 : decode b_M_next 360 = .ok (.if_icmp .ne 7, 3) := by decide +kernel
theorem d_M_next_363 : decode b_M_next 363 = .ok (.iconst 5, 1) := by decide +kernel
theorem d_M_next_364 : decode b_M_next 364 = .ok (.goto 15, 3) := by decide +kernel
theorem d_M_next_367 : decode b_M_next 367 = .ok (.iload_n 2, 1) := by decide +kernel
theorem d_M_next_368 : decode b_M_next 368 = .ok (.bipush 47, 2) := by decide +kernel
theorem d_M_next_370 : decode b_M_next 370 = .ok (.if_icmp .ne 8, 3) := by decide +kernel
theorem d_M_next_373 : decode b_M_next 373 = .ok (.bipush 6, 2) := by decide +kernel
theorem d_M_next_375 : decode b_M_next 375 = .ok (.goto 4, 3) := by decide +kernel
theorem d_M_next_378 : decode b_M_next 378 = .ok (.iconst 3, 1) := by decide +kernel
theorem d_M_next_379 : decode b_M_next 379 = .ok (.putfield 202, 3) := by decide +kernel
theorem d_M_next_382 : decode b_M_next 382 = .ok (.return_, 1) := by decide +kernel
set_option maxHeartbeats 4000000 in
set_option maxRecDepth 100000 in
theorem c_M_next (l : Launch) (dC : Nat → ClassId) (dI : Nat → Nat → Nat) (kA : Nat → ClassId) (sz : Nat) (mo : Nat) (ma : Nat → Nat) (mrf : Int) (mz : Int) (mls : Int) (mfp : Int) (mfm : Int) (mtx : Int) (mwd : Int) (mak : Int) (mli : Int) (mlx : Int) (mat : Int) (mtk : Int) (mtf : Int) (mtt : Int) (mfa : Int) (mla : Int) (mlp : Int) (mdp : Int) (msi : Int) (mpf : Int) (mpt : Int) (mdn : Bool) (ca : Nat → Int) (hca : C2 ca) (hls : 0 ≤ mls ∧ mls ≤ 100) (hat : 4000 ≤ mat ∧ mat ≤ 4000 + mls) : Met l y_M_next (wsy y_M_next b_M_next 4 none) (rmd 3 0 0) (li_Pr (dC, dI) CL (TY kA) [.ref mo] (fun h => h.size = sz ∧ va_P (dC, dI) CL [(mo, .inr (10, [.int (iI mrf), .ref (ma 0), .int (iI mz), .ref (ma 1), .ref (ma 2), .int (iI mls), .int (iI mfp), .int (iI mfm), .ref (ma 3), .int (iI mtx), .ref (ma 4), .ref (ma 5), .int (iI mwd), .ref (ma 6), .ref (ma 7), .int (iI mak), .ref (ma 8), .ref (ma 9), .int (iI mli), .int (iI mlx), .ref (ma 10), .ref (ma 11), .int (iI mat), .int (iI mtk), .int (iI mtf), .int (iI mtt), .int (iI mfa), .int (iI mla), .int (iI mlp), .int (iI mdp), .ref (ma 12), .ref (ma 13), .int (iI msi), .int (iI (bI mdn)), .int (iI mpf), .int (iI mpt)])), (ma 1, .inl (kA 0, 4120, .inl (aI ca)))] h ∧ va_D (fun q => dI 100 0 ≤ q) [(mo, .inr (10, [.int (iI mrf), .ref (ma 0), .int (iI mz), .ref (ma 1), .ref (ma 2), .int (iI mls), .int (iI mfp), .int (iI mfm), .ref (ma 3), .int (iI mtx), .ref (ma 4), .ref (ma 5), .int (iI mwd), .ref (ma 6), .ref (ma 7), .int (iI mak), .ref (ma 8), .ref (ma 9), .int (iI mli), .int (iI mlx), .ref (ma 10), .ref (ma 11), .int (iI mat), .int (iI mtk), .int (iI mtf), .int (iI mtt), .int (iI mfa), .int (iI mla), .int (iI mlp), .int (iI mdp), .ref (ma 12), .ref (ma 13), .int (iI msi), .int (iI (bI mdn)), .int (iI mpf), .int (iI mpt)])), (ma 1, .inl (kA 0, 4120, .inl (aI ca)))] ∧ (fun _ => True) h)) (li_Qw (S := (Int) × (Int) × (Int) × (Int)) (dC, dI) CL (fun u => (u.1, u.2.1, u.2.2.1, u.2.2.2) = nxM ca (4000 + mls) mat ∧ (u.2.1 = 0 ∨ mat < u.1) ∧ mat ≤ u.1 ∧ 4000 ≤ u.2.2.1 ∧ u.2.2.1 ≤ u.2.2.2 ∧ u.2.2.2 ≤ u.1 ∧ u.1 ≤ 4000 + mls ∧ 0 ≤ u.2.1 ∧ u.2.1 ≤ 12) (fun _ => none) (fun u => [(mo, .inr (10, [.int (iI mrf), .ref (ma 0), .int (iI mz), .ref (ma 1), .ref (ma 2), .int (iI mls), .int (iI mfp), .int (iI mfm), .ref (ma 3), .int (iI mtx), .ref (ma 4), .ref (ma 5), .int (iI mwd), .ref (ma 6), .ref (ma 7), .int (iI mak), .ref (ma 8), .ref (ma 9), .int (iI mli), .int (iI mlx), .ref (ma 10), .ref (ma 11), .int (iI u.1), .int (iI u.2.1), .int (iI u.2.2.1), .int (iI u.2.2.2), .int (iI mfa), .int (iI mla), .int (iI mlp), .int (iI mdp), .ref (ma 12), .ref (ma 13), .int (iI msi), .int (iI (bI mdn)), .int (iI mpf), .int (iI mpt)])), (ma 1, .inl (kA 0, 4120, .inl (aI ca)))]) (va_A [(mo, .inr (10, [.int (iI mrf), .ref (ma 0), .int (iI mz), .ref (ma 1), .ref (ma 2), .int (iI mls), .int (iI mfp), .int (iI mfm), .ref (ma 3), .int (iI mtx), .ref (ma 4), .ref (ma 5), .int (iI mwd), .ref (ma 6), .ref (ma 7), .int (iI mak), .ref (ma 8), .ref (ma 9), .int (iI mli), .int (iI mlx), .ref (ma 10), .ref (ma 11), .int (iI mat), .int (iI mtk), .int (iI mtf), .int (iI mtt), .int (iI mfa), .int (iI mla), .int (iI mlp), .int (iI mdp), .ref (ma 12), .ref (ma 13), .int (iI msi), .int (iI (bI mdn)), .int (iI mpf), .int (iI mpt)])), (ma 1, .inl (kA 0, 4120, .inl (aI ca)))] sz)) 0 0 (va_A [(mo, .inr (10, [.int (iI mrf), .ref (ma 0), .int (iI mz), .ref (ma 1), .ref (ma 2), .int (iI mls), .int (iI mfp), .int (iI mfm), .ref (ma 3), .int (iI mtx), .ref (ma 4), .ref (ma 5), .int (iI mwd), .ref (ma 6), .ref (ma 7), .int (iI mak), .ref (ma 8), .ref (ma 9), .int (iI mli), .int (iI mlx), .ref (ma 10), .ref (ma 11), .int (iI mat), .int (iI mtk), .int (iI mtf), .int (iI mtt), .int (iI mfa), .int (iI mla), .int (iI mlp), .int (iI mdp), .ref (ma 12), .ref (ma 13), .int (iI msi), .int (iI (bI mdn)), .int (iI mpf), .int (iI mpt)])), (ma 1, .inl (kA 0, 4120, .inl (aI ca)))] sz) := by
  refine li_mwv (by decide) (Nat.le_of_ble_eq_true rfl) ?_
  intro p e s m args below meth c Q A C hP hD hBx hK hN hG hA hAi hAN fin ls hl
  obtain ⟨hx, hb, hr, hml, hown, hts, hlocks, hin⟩ := C
  have hown : s.vm.findClass R_M = some m.cls := hown
  have hl : lv_has ls 4 [(0, .ref mo)] := hl
  have K_123 : ∀ (b : Int) (z : Int) (ed : Int) (cx : Int), (ed = 4000 + mls) → (mat ≤ b ∧ b < z ∧ z ≤ ed) → (skM ca ed mat = b) → (isNam (ca b.toNat) = true) → (naM ca ed b = z) → ∀ (H : Heap) (locs : List Loc), va_P (dC, dI) CL [(mo, .inr (10, [.int (iI mrf), .ref (ma 0), .int (iI mz), .ref (ma 1), .ref (ma 2), .int (iI mls), .int (iI mfp), .int (iI mfm), .ref (ma 3), .int (iI mtx), .ref (ma 4), .ref (ma 5), .int (iI mwd), .ref (ma 6), .ref (ma 7), .int (iI mak), .ref (ma 8), .ref (ma 9), .int (iI mli), .int (iI mlx), .ref (ma 10), .ref (ma 11), .int (iI z), .int (iI mtk), .int (iI b), .int (iI b), .int (iI mfa), .int (iI mla), .int (iI mlp), .int (iI mdp), .ref (ma 12), .ref (ma 13), .int (iI msi), .int (iI (bI mdn)), .int (iI mpf), .int (iI mpt)])), (ma 1, .inl (kA 0, 4120, .inl (aI ca)))] H → va_D A [(mo, .inr (10, [.int (iI mrf), .ref (ma 0), .int (iI mz), .ref (ma 1), .ref (ma 2), .int (iI mls), .int (iI mfp), .int (iI mfm), .ref (ma 3), .int (iI mtx), .ref (ma 4), .ref (ma 5), .int (iI mwd), .ref (ma 6), .ref (ma 7), .int (iI mak), .ref (ma 8), .ref (ma 9), .int (iI mli), .int (iI mlx), .ref (ma 10), .ref (ma 11), .int (iI z), .int (iI mtk), .int (iI b), .int (iI b), .int (iI mfa), .int (iI mla), .int (iI mlp), .int (iI mdp), .ref (ma 12), .ref (ma 13), .int (iI msi), .int (iI (bI mdn)), .int (iI mpf), .int (iI mpt)])), (ma 1, .inl (kA 0, 4120, .inl (aI ca)))] → va_S A s.heap H locs → ∀ ls : Array Slot, lv_has ls 4 [(0, .ref mo), (1, .int (iI ed)), (2, .int (iI cx))] → W p l e (rmd 3 0 0) s m args below meth c H locs 0 0 Q (F0 m 123 ls []) := by
    intro b z ed cx hed hb4 hsk hnm hna H locs hP hD hS ls hl
    refine lv_aload_n hx hb d_M_next_123 rfl (lv_at hl 0 rfl) ?_
    refine lv_aload_n hx hb d_M_next_124 rfl (lv_at hl 0 rfl) ?_
    refine gf_M_193 hx hb hts hown hK hP 0 rfl rfl d_M_next_125 ?_
    refine pf_M_199 hx hb hts hown hK hP hD hS 0 rfl (Nat.le_of_ble_eq_true rfl) d_M_next_128 (fun H locs hP hD hS => ?_)
    have hP : va_P (dC, dI) CL [(mo, .inr (10, [.int (iI mrf), .ref (ma 0), .int (iI mz), .ref (ma 1), .ref (ma 2), .int (iI mls), .int (iI mfp), .int (iI mfm), .ref (ma 3), .int (iI mtx), .ref (ma 4), .ref (ma 5), .int (iI mwd), .ref (ma 6), .ref (ma 7), .int (iI mak), .ref (ma 8), .ref (ma 9), .int (iI mli), .int (iI mlx), .ref (ma 10), .ref (ma 11), .int (iI z), .int (iI mtk), .int (iI b), .int (iI z), .int (iI mfa), .int (iI mla), .int (iI mlp), .int (iI mdp), .ref (ma 12), .ref (ma 13), .int (iI msi), .int (iI (bI mdn)), .int (iI mpf), .int (iI mpt)])), (ma 1, .inl (kA 0, 4120, .inl (aI ca)))] H := hP
    have hD : va_D A [(mo, .inr (10, [.int (iI mrf), .ref (ma 0), .int (iI mz), .ref (ma 1), .ref (ma 2), .int (iI mls), .int (iI mfp), .int (iI mfm), .ref (ma 3), .int (iI mtx), .ref (ma 4), .ref (ma 5), .int (iI mwd), .ref (ma 6), .ref (ma 7), .int (iI mak), .ref (ma 8), .ref (ma 9), .int (iI mli), .int (iI mlx), .ref (ma 10), .ref (ma 11), .int (iI z), .int (iI mtk), .int (iI b), .int (iI z), .int (iI mfa), .int (iI mla), .int (iI mlp), .int (iI mdp), .ref (ma 12), .ref (ma 13), .int (iI msi), .int (iI (bI mdn)), .int (iI mpf), .int (iI mpt)])), (ma 1, .inl (kA 0, 4120, .inl (aI ca)))] := hD
    refine lv_aload_n hx hb d_M_next_131 rfl (lv_at hl 0 rfl) ?_
    refine lv_aload_n hx hb d_M_next_132 rfl (lv_at hl 0 rfl) ?_
    refine lv_aload_n hx hb d_M_next_133 rfl (lv_at hl 0 rfl) ?_
    refine gf_M_196 hx hb hts hown hK hP 0 rfl rfl d_M_next_134 ?_
    refine lv_aload_n hx hb d_M_next_137 rfl (lv_at hl 0 rfl) ?_
    refine gf_M_193 hx hb hts hown hK hP 0 rfl rfl d_M_next_138 ?_
    refine lv_ldc2 (v := (6385252 : Int64)) hx hb hown (hts (Cond.constantLong R_M 208 6385252) (tk6 63 rfl rfl)) d_M_next_141 ?_
    refine W.eq (g2 := F0 m 144 ls [.long (wlg 1), .int (iI z), .int (iI b), .ref mo, .ref mo]) rfl ?_
    refine li_callr ((va_runV (As := [.int (iI b), .int (iI z), .long (wlg 1)]) (rest := [.ref mo]) ⟨hx, hb, hml, hown, hts⟩ (c_M_isWord l dC dI kA mo ma mrf mz mls mfp mfm mtx mwd mak mli mlx z mtk b z mfa mla mlp mdp msi mpf mpt mdn ca b z 1 (by exact hca) (by decide) (by omega)) (cw_M_184 hts rfl rfl ⟨Nat.le_of_ble_eq_true rfl, Nat.le_of_ble_eq_true rfl⟩) (li_preV (va_recv hK hP (ci := 10) (q0 := 0) rfl rfl) (hP.sub [0, 1] rfl) hK hN (hG.go hS hAN)) rfl rfl hl.1 rfl (lv_room (Nat.le_of_ble_eq_true rfl)) d_M_next_144 ⟨(by show 0 + 0 ≤ 0; omega), (by show 0 + 0 ≤ 0; omega)⟩).run) ?_
    refine li_bz (tgt := 155) hx hb d_M_next_147 (by decide) (fun c1 => ?_) (fun c1 => ?_)
    · have _q := c1
      refine lv_aload_n hx hb d_M_next_155 rfl (lv_at hl 0 rfl) ?_
      refine lv_aload_n hx hb d_M_next_156 rfl (lv_at hl 0 rfl) ?_
      refine gf_M_196 hx hb hts hown hK hP 0 rfl rfl d_M_next_157 ?_
      refine lv_aload_n hx hb d_M_next_160 rfl (lv_at hl 0 rfl) ?_
      refine gf_M_193 hx hb hts hown hK hP 0 rfl rfl d_M_next_161 ?_
      refine lv_ldc2 (v := (28530 : Int64)) hx hb hown (hts (Cond.constantLong R_M 210 28530) (tk6 72 rfl rfl)) d_M_next_164 ?_
      refine W.eq (g2 := F0 m 167 ls [.long (wlg 2), .int (iI z), .int (iI b), .ref mo, .ref mo]) rfl ?_
      refine li_callr ((va_runV (As := [.int (iI b), .int (iI z), .long (wlg 2)]) (rest := [.ref mo]) ⟨hx, hb, hml, hown, hts⟩ (c_M_isWord l dC dI kA mo ma mrf mz mls mfp mfm mtx mwd mak mli mlx z mtk b z mfa mla mlp mdp msi mpf mpt mdn ca b z 2 (by exact hca) (by decide) (by omega)) (cw_M_184 hts rfl rfl ⟨Nat.le_of_ble_eq_true rfl, Nat.le_of_ble_eq_true rfl⟩) (li_preV (va_recv hK hP (ci := 10) (q0 := 0) rfl rfl) (hP.sub [0, 1] rfl) hK hN (hG.go hS hAN)) rfl rfl hl.1 rfl (lv_room (Nat.le_of_ble_eq_true rfl)) d_M_next_167 ⟨(by show 0 + 0 ≤ 0; omega), (by show 0 + 0 ≤ 0; omega)⟩).run) ?_
      refine li_bz (tgt := 178) hx hb d_M_next_170 (by decide) (fun c2 => ?_) (fun c2 => ?_)
      · have _q := c2
        refine lv_aload_n hx hb d_M_next_178 rfl (lv_at hl 0 rfl) ?_
        refine lv_aload_n hx hb d_M_next_179 rfl (lv_at hl 0 rfl) ?_
        refine gf_M_196 hx hb hts hown hK hP 0 rfl rfl d_M_next_180 ?_
        refine lv_aload_n hx hb d_M_next_183 rfl (lv_at hl 0 rfl) ?_
        refine gf_M_193 hx hb hts hown hK hP 0 rfl rfl d_M_next_184 ?_
        refine lv_ldc2 (v := (7237492 : Int64)) hx hb hown (hts (Cond.constantLong R_M 212 7237492) (tk6 73 rfl rfl)) d_M_next_187 ?_
        refine W.eq (g2 := F0 m 190 ls [.long (wlg 3), .int (iI z), .int (iI b), .ref mo, .ref mo]) rfl ?_
        refine li_callr ((va_runV (As := [.int (iI b), .int (iI z), .long (wlg 3)]) (rest := [.ref mo]) ⟨hx, hb, hml, hown, hts⟩ (c_M_isWord l dC dI kA mo ma mrf mz mls mfp mfm mtx mwd mak mli mlx z mtk b z mfa mla mlp mdp msi mpf mpt mdn ca b z 3 (by exact hca) (by decide) (by omega)) (cw_M_184 hts rfl rfl ⟨Nat.le_of_ble_eq_true rfl, Nat.le_of_ble_eq_true rfl⟩) (li_preV (va_recv hK hP (ci := 10) (q0 := 0) rfl rfl) (hP.sub [0, 1] rfl) hK hN (hG.go hS hAN)) rfl rfl hl.1 rfl (lv_room (Nat.le_of_ble_eq_true rfl)) d_M_next_190 ⟨(by show 0 + 0 ≤ 0; omega), (by show 0 + 0 ≤ 0; omega)⟩).run) ?_
        refine li_bz (tgt := 201) hx hb d_M_next_193 (by decide) (fun c3 => ?_) (fun c3 => ?_)
        · have _q := c3
          refine lv_aload_n hx hb d_M_next_201 rfl (lv_at hl 0 rfl) ?_
          refine lv_aload_n hx hb d_M_next_202 rfl (lv_at hl 0 rfl) ?_
          refine gf_M_196 hx hb hts hown hK hP 0 rfl rfl d_M_next_203 ?_
          refine lv_aload_n hx hb d_M_next_206 rfl (lv_at hl 0 rfl) ?_
          refine gf_M_193 hx hb hts hown hK hP 0 rfl rfl d_M_next_207 ?_
          refine lv_ldc2 (v := (126922498794105 : Int64)) hx hb hown (hts (Cond.constantLong R_M 214 126922498794105) (tk6 74 rfl rfl)) d_M_next_210 ?_
          refine W.eq (g2 := F0 m 213 ls [.long (wlg 4), .int (iI z), .int (iI b), .ref mo, .ref mo]) rfl ?_
          refine li_callr ((va_runV (As := [.int (iI b), .int (iI z), .long (wlg 4)]) (rest := [.ref mo]) ⟨hx, hb, hml, hown, hts⟩ (c_M_isWord l dC dI kA mo ma mrf mz mls mfp mfm mtx mwd mak mli mlx z mtk b z mfa mla mlp mdp msi mpf mpt mdn ca b z 4 (by exact hca) (by decide) (by omega)) (cw_M_184 hts rfl rfl ⟨Nat.le_of_ble_eq_true rfl, Nat.le_of_ble_eq_true rfl⟩) (li_preV (va_recv hK hP (ci := 10) (q0 := 0) rfl rfl) (hP.sub [0, 1] rfl) hK hN (hG.go hS hAN)) rfl rfl hl.1 rfl (lv_room (Nat.le_of_ble_eq_true rfl)) d_M_next_213 ⟨(by show 0 + 0 ≤ 0; omega), (by show 0 + 0 ≤ 0; omega)⟩).run) ?_
          refine li_bz (tgt := 224) hx hb d_M_next_216 (by decide) (fun c4 => ?_) (fun c4 => ?_)
          · have _q := c4
            refine lv_aload_n hx hb d_M_next_224 rfl (lv_at hl 0 rfl) ?_
            refine lv_aload_n hx hb d_M_next_225 rfl (lv_at hl 0 rfl) ?_
            refine gf_M_196 hx hb hts hown hK hP 0 rfl rfl d_M_next_226 ?_
            refine lv_aload_n hx hb d_M_next_229 rfl (lv_at hl 0 rfl) ?_
            refine gf_M_193 hx hb hts hown hK hP 0 rfl rfl d_M_next_230 ?_
            refine li_callr ((va_runV (As := [.int (iI b), .int (iI z)]) (rest := [.ref mo]) ⟨hx, hb, hml, hown, hts⟩ (c_M_isDescending l dC dI kA mo ma mrf mz mls mfp mfm mtx mwd mak mli mlx z mtk b z mfa mla mlp mdp msi mpf mpt mdn ca b z (by exact hca) (by omega)) (cw_M_216 hts rfl rfl ⟨Nat.le_of_ble_eq_true rfl, Nat.le_of_ble_eq_true rfl⟩) (li_preV (va_recv hK hP (ci := 10) (q0 := 0) rfl rfl) (hP.sub [0, 1] rfl) hK hN (hG.go hS hAN)) rfl rfl hl.1 rfl (lv_room (Nat.le_of_ble_eq_true rfl)) d_M_next_233 ⟨(by show 0 + 0 ≤ 0; omega), (by show 0 + 0 ≤ 0; omega)⟩).run) ?_
            refine li_bz (tgt := 244) hx hb d_M_next_236 (by decide) (fun c5 => ?_) (fun c5 => ?_)
            · have _q := c5
              refine lv_iconst (v := iI 1) hx hb d_M_next_244 rfl ?_
              refine pf_M_202 hx hb hts hown hK hP hD hS 0 rfl (Nat.le_of_ble_eq_true rfl) d_M_next_245 (fun H locs hP hD hS => ?_)
              have hP : va_P (dC, dI) CL [(mo, .inr (10, [.int (iI mrf), .ref (ma 0), .int (iI mz), .ref (ma 1), .ref (ma 2), .int (iI mls), .int (iI mfp), .int (iI mfm), .ref (ma 3), .int (iI mtx), .ref (ma 4), .ref (ma 5), .int (iI mwd), .ref (ma 6), .ref (ma 7), .int (iI mak), .ref (ma 8), .ref (ma 9), .int (iI mli), .int (iI mlx), .ref (ma 10), .ref (ma 11), .int (iI z), .int (iI 1), .int (iI b), .int (iI z), .int (iI mfa), .int (iI mla), .int (iI mlp), .int (iI mdp), .ref (ma 12), .ref (ma 13), .int (iI msi), .int (iI (bI mdn)), .int (iI mpf), .int (iI mpt)])), (ma 1, .inl (kA 0, 4120, .inl (aI ca)))] H := hP
              have hD : va_D A [(mo, .inr (10, [.int (iI mrf), .ref (ma 0), .int (iI mz), .ref (ma 1), .ref (ma 2), .int (iI mls), .int (iI mfp), .int (iI mfm), .ref (ma 3), .int (iI mtx), .ref (ma 4), .ref (ma 5), .int (iI mwd), .ref (ma 6), .ref (ma 7), .int (iI mak), .ref (ma 8), .ref (ma 9), .int (iI mli), .int (iI mlx), .ref (ma 10), .ref (ma 11), .int (iI z), .int (iI 1), .int (iI b), .int (iI z), .int (iI mfa), .int (iI mla), .int (iI mlp), .int (iI mdp), .ref (ma 12), .ref (ma 13), .int (iI msi), .int (iI (bI mdn)), .int (iI mpf), .int (iI mpt)])), (ma 1, .inl (kA 0, 4120, .inl (aI ca)))] := hD
              exact fin (z, 1, b, z) _ _ _ _ (by show (z, 1, b, z) = nxM ca (4000 + mls) mat ∧ (1 = 0 ∨ mat < z) ∧ mat ≤ z ∧ 4000 ≤ b ∧ b ≤ z ∧ z ≤ z ∧ z ≤ 4000 + mls ∧ 0 ≤ 1 ∧ 1 ≤ 12; refine ⟨by (unfold nxM; rw [← hed, hsk]; unfold nxB; rw [if_neg (by omega), if_pos hnm, hna]; unfold kwM; (repeat (first | rw [if_pos (by assumption)] | rw [if_neg (nbt (by assumption))]))), by omega⟩) (by first | exact hP | (subst_vars; exact hP)) (by first | exact hD | (subst_vars; exact hD)) hS d_M_next_248
            · have _q := c5
              refine lv_bipush (v := iI 12) hx hb d_M_next_239 (by decide) ?_
              refine lv_goto (tgt := 245) hx hb d_M_next_241 (by decide) ?_
              refine pf_M_202 hx hb hts hown hK hP hD hS 0 rfl (Nat.le_of_ble_eq_true rfl) d_M_next_245 (fun H locs hP hD hS => ?_)
              have hP : va_P (dC, dI) CL [(mo, .inr (10, [.int (iI mrf), .ref (ma 0), .int (iI mz), .ref (ma 1), .ref (ma 2), .int (iI mls), .int (iI mfp), .int (iI mfm), .ref (ma 3), .int (iI mtx), .ref (ma 4), .ref (ma 5), .int (iI mwd), .ref (ma 6), .ref (ma 7), .int (iI mak), .ref (ma 8), .ref (ma 9), .int (iI mli), .int (iI mlx), .ref (ma 10), .ref (ma 11), .int (iI z), .int (iI 12), .int (iI b), .int (iI z), .int (iI mfa), .int (iI mla), .int (iI mlp), .int (iI mdp), .ref (ma 12), .ref (ma 13), .int (iI msi), .int (iI (bI mdn)), .int (iI mpf), .int (iI mpt)])), (ma 1, .inl (kA 0, 4120, .inl (aI ca)))] H := hP
              have hD : va_D A [(mo, .inr (10, [.int (iI mrf), .ref (ma 0), .int (iI mz), .ref (ma 1), .ref (ma 2), .int (iI mls), .int (iI mfp), .int (iI mfm), .ref (ma 3), .int (iI mtx), .ref (ma 4), .ref (ma 5), .int (iI mwd), .ref (ma 6), .ref (ma 7), .int (iI mak), .ref (ma 8), .ref (ma 9), .int (iI mli), .int (iI mlx), .ref (ma 10), .ref (ma 11), .int (iI z), .int (iI 12), .int (iI b), .int (iI z), .int (iI mfa), .int (iI mla), .int (iI mlp), .int (iI mdp), .ref (ma 12), .ref (ma 13), .int (iI msi), .int (iI (bI mdn)), .int (iI mpf), .int (iI mpt)])), (ma 1, .inl (kA 0, 4120, .inl (aI ca)))] := hD
              exact fin (z, 12, b, z) _ _ _ _ (by show (z, 12, b, z) = nxM ca (4000 + mls) mat ∧ (12 = 0 ∨ mat < z) ∧ mat ≤ z ∧ 4000 ≤ b ∧ b ≤ z ∧ z ≤ z ∧ z ≤ 4000 + mls ∧ 0 ≤ 12 ∧ 12 ≤ 12; refine ⟨by (unfold nxM; rw [← hed, hsk]; unfold nxB; rw [if_neg (by omega), if_pos hnm, hna]; unfold kwM; (repeat (first | rw [if_pos (by assumption)] | rw [if_neg (nbt (by assumption))]))), by omega⟩) (by first | exact hP | (subst_vars; exact hP)) (by first | exact hD | (subst_vars; exact hD)) hS d_M_next_248
          · have _q := c4
            refine lv_bipush (v := iI 11) hx hb d_M_next_219 (by decide) ?_
            refine lv_goto (tgt := 245) hx hb d_M_next_221 (by decide) ?_
            refine pf_M_202 hx hb hts hown hK hP hD hS 0 rfl (Nat.le_of_ble_eq_true rfl) d_M_next_245 (fun H locs hP hD hS => ?_)
            have hP : va_P (dC, dI) CL [(mo, .inr (10, [.int (iI mrf), .ref (ma 0), .int (iI mz), .ref (ma 1), .ref (ma 2), .int (iI mls), .int (iI mfp), .int (iI mfm), .ref (ma 3), .int (iI mtx), .ref (ma 4), .ref (ma 5), .int (iI mwd), .ref (ma 6), .ref (ma 7), .int (iI mak), .ref (ma 8), .ref (ma 9), .int (iI mli), .int (iI mlx), .ref (ma 10), .ref (ma 11), .int (iI z), .int (iI 11), .int (iI b), .int (iI z), .int (iI mfa), .int (iI mla), .int (iI mlp), .int (iI mdp), .ref (ma 12), .ref (ma 13), .int (iI msi), .int (iI (bI mdn)), .int (iI mpf), .int (iI mpt)])), (ma 1, .inl (kA 0, 4120, .inl (aI ca)))] H := hP
            have hD : va_D A [(mo, .inr (10, [.int (iI mrf), .ref (ma 0), .int (iI mz), .ref (ma 1), .ref (ma 2), .int (iI mls), .int (iI mfp), .int (iI mfm), .ref (ma 3), .int (iI mtx), .ref (ma 4), .ref (ma 5), .int (iI mwd), .ref (ma 6), .ref (ma 7), .int (iI mak), .ref (ma 8), .ref (ma 9), .int (iI mli), .int (iI mlx), .ref (ma 10), .ref (ma 11), .int (iI z), .int (iI 11), .int (iI b), .int (iI z), .int (iI mfa), .int (iI mla), .int (iI mlp), .int (iI mdp), .ref (ma 12), .ref (ma 13), .int (iI msi), .int (iI (bI mdn)), .int (iI mpf), .int (iI mpt)])), (ma 1, .inl (kA 0, 4120, .inl (aI ca)))] := hD
            exact fin (z, 11, b, z) _ _ _ _ (by show (z, 11, b, z) = nxM ca (4000 + mls) mat ∧ (11 = 0 ∨ mat < z) ∧ mat ≤ z ∧ 4000 ≤ b ∧ b ≤ z ∧ z ≤ z ∧ z ≤ 4000 + mls ∧ 0 ≤ 11 ∧ 11 ≤ 12; refine ⟨by (unfold nxM; rw [← hed, hsk]; unfold nxB; rw [if_neg (by omega), if_pos hnm, hna]; unfold kwM; (repeat (first | rw [if_pos (by assumption)] | rw [if_neg (nbt (by assumption))]))), by omega⟩) (by first | exact hP | (subst_vars; exact hP)) (by first | exact hD | (subst_vars; exact hD)) hS d_M_next_248
        · have _q := c3
          refine lv_bipush (v := iI 10) hx hb d_M_next_196 (by decide) ?_
          refine lv_goto (tgt := 245) hx hb d_M_next_198 (by decide) ?_
          refine pf_M_202 hx hb hts hown hK hP hD hS 0 rfl (Nat.le_of_ble_eq_true rfl) d_M_next_245 (fun H locs hP hD hS => ?_)
          have hP : va_P (dC, dI) CL [(mo, .inr (10, [.int (iI mrf), .ref (ma 0), .int (iI mz), .ref (ma 1), .ref (ma 2), .int (iI mls), .int (iI mfp), .int (iI mfm), .ref (ma 3), .int (iI mtx), .ref (ma 4), .ref (ma 5), .int (iI mwd), .ref (ma 6), .ref (ma 7), .int (iI mak), .ref (ma 8), .ref (ma 9), .int (iI mli), .int (iI mlx), .ref (ma 10), .ref (ma 11), .int (iI z), .int (iI 10), .int (iI b), .int (iI z), .int (iI mfa), .int (iI mla), .int (iI mlp), .int (iI mdp), .ref (ma 12), .ref (ma 13), .int (iI msi), .int (iI (bI mdn)), .int (iI mpf), .int (iI mpt)])), (ma 1, .inl (kA 0, 4120, .inl (aI ca)))] H := hP
          have hD : va_D A [(mo, .inr (10, [.int (iI mrf), .ref (ma 0), .int (iI mz), .ref (ma 1), .ref (ma 2), .int (iI mls), .int (iI mfp), .int (iI mfm), .ref (ma 3), .int (iI mtx), .ref (ma 4), .ref (ma 5), .int (iI mwd), .ref (ma 6), .ref (ma 7), .int (iI mak), .ref (ma 8), .ref (ma 9), .int (iI mli), .int (iI mlx), .ref (ma 10), .ref (ma 11), .int (iI z), .int (iI 10), .int (iI b), .int (iI z), .int (iI mfa), .int (iI mla), .int (iI mlp), .int (iI mdp), .ref (ma 12), .ref (ma 13), .int (iI msi), .int (iI (bI mdn)), .int (iI mpf), .int (iI mpt)])), (ma 1, .inl (kA 0, 4120, .inl (aI ca)))] := hD
          exact fin (z, 10, b, z) _ _ _ _ (by show (z, 10, b, z) = nxM ca (4000 + mls) mat ∧ (10 = 0 ∨ mat < z) ∧ mat ≤ z ∧ 4000 ≤ b ∧ b ≤ z ∧ z ≤ z ∧ z ≤ 4000 + mls ∧ 0 ≤ 10 ∧ 10 ≤ 12; refine ⟨by (unfold nxM; rw [← hed, hsk]; unfold nxB; rw [if_neg (by omega), if_pos hnm, hna]; unfold kwM; (repeat (first | rw [if_pos (by assumption)] | rw [if_neg (nbt (by assumption))]))), by omega⟩) (by first | exact hP | (subst_vars; exact hP)) (by first | exact hD | (subst_vars; exact hD)) hS d_M_next_248
      · have _q := c2
        refine lv_bipush (v := iI 9) hx hb d_M_next_173 (by decide) ?_
        refine lv_goto (tgt := 245) hx hb d_M_next_175 (by decide) ?_
        refine pf_M_202 hx hb hts hown hK hP hD hS 0 rfl (Nat.le_of_ble_eq_true rfl) d_M_next_245 (fun H locs hP hD hS => ?_)
        have hP : va_P (dC, dI) CL [(mo, .inr (10, [.int (iI mrf), .ref (ma 0), .int (iI mz), .ref (ma 1), .ref (ma 2), .int (iI mls), .int (iI mfp), .int (iI mfm), .ref (ma 3), .int (iI mtx), .ref (ma 4), .ref (ma 5), .int (iI mwd), .ref (ma 6), .ref (ma 7), .int (iI mak), .ref (ma 8), .ref (ma 9), .int (iI mli), .int (iI mlx), .ref (ma 10), .ref (ma 11), .int (iI z), .int (iI 9), .int (iI b), .int (iI z), .int (iI mfa), .int (iI mla), .int (iI mlp), .int (iI mdp), .ref (ma 12), .ref (ma 13), .int (iI msi), .int (iI (bI mdn)), .int (iI mpf), .int (iI mpt)])), (ma 1, .inl (kA 0, 4120, .inl (aI ca)))] H := hP
        have hD : va_D A [(mo, .inr (10, [.int (iI mrf), .ref (ma 0), .int (iI mz), .ref (ma 1), .ref (ma 2), .int (iI mls), .int (iI mfp), .int (iI mfm), .ref (ma 3), .int (iI mtx), .ref (ma 4), .ref (ma 5), .int (iI mwd), .ref (ma 6), .ref (ma 7), .int (iI mak), .ref (ma 8), .ref (ma 9), .int (iI mli), .int (iI mlx), .ref (ma 10), .ref (ma 11), .int (iI z), .int (iI 9), .int (iI b), .int (iI z), .int (iI mfa), .int (iI mla), .int (iI mlp), .int (iI mdp), .ref (ma 12), .ref (ma 13), .int (iI msi), .int (iI (bI mdn)), .int (iI mpf), .int (iI mpt)])), (ma 1, .inl (kA 0, 4120, .inl (aI ca)))] := hD
        exact fin (z, 9, b, z) _ _ _ _ (by show (z, 9, b, z) = nxM ca (4000 + mls) mat ∧ (9 = 0 ∨ mat < z) ∧ mat ≤ z ∧ 4000 ≤ b ∧ b ≤ z ∧ z ≤ z ∧ z ≤ 4000 + mls ∧ 0 ≤ 9 ∧ 9 ≤ 12; refine ⟨by (unfold nxM; rw [← hed, hsk]; unfold nxB; rw [if_neg (by omega), if_pos hnm, hna]; unfold kwM; (repeat (first | rw [if_pos (by assumption)] | rw [if_neg (nbt (by assumption))]))), by omega⟩) (by first | exact hP | (subst_vars; exact hP)) (by first | exact hD | (subst_vars; exact hD)) hS d_M_next_248
    · have _q := c1
      refine lv_bipush (v := iI 8) hx hb d_M_next_150 (by decide) ?_
      refine lv_goto (tgt := 245) hx hb d_M_next_152 (by decide) ?_
      refine pf_M_202 hx hb hts hown hK hP hD hS 0 rfl (Nat.le_of_ble_eq_true rfl) d_M_next_245 (fun H locs hP hD hS => ?_)
      have hP : va_P (dC, dI) CL [(mo, .inr (10, [.int (iI mrf), .ref (ma 0), .int (iI mz), .ref (ma 1), .ref (ma 2), .int (iI mls), .int (iI mfp), .int (iI mfm), .ref (ma 3), .int (iI mtx), .ref (ma 4), .ref (ma 5), .int (iI mwd), .ref (ma 6), .ref (ma 7), .int (iI mak), .ref (ma 8), .ref (ma 9), .int (iI mli), .int (iI mlx), .ref (ma 10), .ref (ma 11), .int (iI z), .int (iI 8), .int (iI b), .int (iI z), .int (iI mfa), .int (iI mla), .int (iI mlp), .int (iI mdp), .ref (ma 12), .ref (ma 13), .int (iI msi), .int (iI (bI mdn)), .int (iI mpf), .int (iI mpt)])), (ma 1, .inl (kA 0, 4120, .inl (aI ca)))] H := hP
      have hD : va_D A [(mo, .inr (10, [.int (iI mrf), .ref (ma 0), .int (iI mz), .ref (ma 1), .ref (ma 2), .int (iI mls), .int (iI mfp), .int (iI mfm), .ref (ma 3), .int (iI mtx), .ref (ma 4), .ref (ma 5), .int (iI mwd), .ref (ma 6), .ref (ma 7), .int (iI mak), .ref (ma 8), .ref (ma 9), .int (iI mli), .int (iI mlx), .ref (ma 10), .ref (ma 11), .int (iI z), .int (iI 8), .int (iI b), .int (iI z), .int (iI mfa), .int (iI mla), .int (iI mlp), .int (iI mdp), .ref (ma 12), .ref (ma 13), .int (iI msi), .int (iI (bI mdn)), .int (iI mpf), .int (iI mpt)])), (ma 1, .inl (kA 0, 4120, .inl (aI ca)))] := hD
      exact fin (z, 8, b, z) _ _ _ _ (by show (z, 8, b, z) = nxM ca (4000 + mls) mat ∧ (8 = 0 ∨ mat < z) ∧ mat ≤ z ∧ 4000 ≤ b ∧ b ≤ z ∧ z ≤ z ∧ z ≤ 4000 + mls ∧ 0 ≤ 8 ∧ 8 ≤ 12; refine ⟨by (unfold nxM; rw [← hed, hsk]; unfold nxB; rw [if_neg (by omega), if_pos hnm, hna]; unfold kwM; (repeat (first | rw [if_pos (by assumption)] | rw [if_neg (nbt (by assumption))]))), by omega⟩) (by first | exact hP | (subst_vars; exact hP)) (by first | exact hD | (subst_vars; exact hD)) hS d_M_next_248
  have K_87 : ∀ (nn_87 : Nat) (b : Int) (z : Int) (ed : Int) (cx : Int), (ed = 4000 + mls) → (mat ≤ b ∧ b ≤ z ∧ z ≤ ed ∧ b < ed) → (skM ca ed mat = b) → (isNam (ca b.toNat) = true) → (naL ca (ed - z).toNat z = naM ca ed b) → ((ed - z).toNat < nn_87) → ∀ (H : Heap) (locs : List Loc), va_P (dC, dI) CL [(mo, .inr (10, [.int (iI mrf), .ref (ma 0), .int (iI mz), .ref (ma 1), .ref (ma 2), .int (iI mls), .int (iI mfp), .int (iI mfm), .ref (ma 3), .int (iI mtx), .ref (ma 4), .ref (ma 5), .int (iI mwd), .ref (ma 6), .ref (ma 7), .int (iI mak), .ref (ma 8), .ref (ma 9), .int (iI mli), .int (iI mlx), .ref (ma 10), .ref (ma 11), .int (iI z), .int (iI mtk), .int (iI b), .int (iI b), .int (iI mfa), .int (iI mla), .int (iI mlp), .int (iI mdp), .ref (ma 12), .ref (ma 13), .int (iI msi), .int (iI (bI mdn)), .int (iI mpf), .int (iI mpt)])), (ma 1, .inl (kA 0, 4120, .inl (aI ca)))] H → va_D A [(mo, .inr (10, [.int (iI mrf), .ref (ma 0), .int (iI mz), .ref (ma 1), .ref (ma 2), .int (iI mls), .int (iI mfp), .int (iI mfm), .ref (ma 3), .int (iI mtx), .ref (ma 4), .ref (ma 5), .int (iI mwd), .ref (ma 6), .ref (ma 7), .int (iI mak), .ref (ma 8), .ref (ma 9), .int (iI mli), .int (iI mlx), .ref (ma 10), .ref (ma 11), .int (iI z), .int (iI mtk), .int (iI b), .int (iI b), .int (iI mfa), .int (iI mla), .int (iI mlp), .int (iI mdp), .ref (ma 12), .ref (ma 13), .int (iI msi), .int (iI (bI mdn)), .int (iI mpf), .int (iI mpt)])), (ma 1, .inl (kA 0, 4120, .inl (aI ca)))] → va_S A s.heap H locs → ∀ ls : Array Slot, lv_has ls 4 [(0, .ref mo), (1, .int (iI ed)), (2, .int (iI cx))] → W p l e (rmd 3 0 0) s m args below meth c H locs 0 0 Q (F0 m 87 ls []) := by
    intro nn_87
    induction nn_87 with
    | zero => intro b z ed cx hed hb4 hsk hnm hres hm; exact absurd hm (Nat.not_lt_zero _)
    | succ nn_87 ih_87 =>
      intro b z ed cx hed hb4 hsk hnm hres hm_87 H locs hP hD hS ls hl
      refine lv_aload_n hx hb d_M_next_87 rfl (lv_at hl 0 rfl) ?_
      refine gf_M_193 hx hb hts hown hK hP 0 rfl rfl d_M_next_88 ?_
      refine lv_iload_n hx hb d_M_next_91 rfl (lv_at hl 1 rfl) ?_
      refine li_icmp_ge (tgt := 123) hx hb d_M_next_92 (by decide) (by omega) (by omega) (fun c6 => ?_) (fun c6 => ?_)
      · have _q := c6
        rw [show (ed - z).toNat = 0 by omega] at hres
        simp only [naL] at hres
        exact K_123 b z ed cx (by omega) (by omega) (by exact hsk) (by exact hnm) (by exact hres.symm) _ _ hP hD hS _ (lv_sub hl [0, 1, 2] rfl)
      · have _q := c6
        rw [show (ed - z).toNat = (ed - (z + 1)).toNat + 1 by omega] at hres
        simp only [naL] at hres
        refine lv_aload_n hx hb d_M_next_95 rfl (lv_at hl 0 rfl) ?_
        refine gf_M_13 hx hb hts hown hK hP 0 rfl rfl d_M_next_96 ?_
        refine lv_aload_n hx hb d_M_next_99 rfl (lv_at hl 0 rfl) ?_
        refine gf_M_193 hx hb hts hown hK hP 0 rfl rfl d_M_next_100 ?_
        refine li_iald hx hb hK hP 1 0 rfl rfl (by omega) (by omega) (by omega) d_M_next_103 ?_
        have f7 := hca z.toNat
        refine li_callr ((va_runS (As := [.int (iI (ca z.toNat))]) (rest := []) ⟨hx, hb, hml, hown, hts⟩ (c_M_isNameSign l dC dI kA (ca z.toNat) (by omega)) (cw_M_205 hts rfl rfl ⟨Nat.le_of_ble_eq_true rfl, Nat.le_of_ble_eq_true rfl⟩) (li_preS va_Pnil hK hN (hG.go hS hAN)) rfl rfl hl.1 rfl (lv_room (Nat.le_of_ble_eq_true rfl)) d_M_next_104 ⟨(by show 0 + 0 ≤ 0; omega), (by show 0 + 0 ≤ 0; omega)⟩).run) ?_
        refine li_bz (tgt := 123) hx hb d_M_next_107 (by decide) (fun c8 => ?_) (fun c8 => ?_)
        · have _q := c8
          rw [if_neg (nbt (by assumption))] at hres
          have hzb : ¬ z = b := by (intro h8; have h9 := hnm; rw [← h8, show isNam (ca z.toNat) = false by assumption] at h9; cases h9)
          exact K_123 b z ed cx (by omega) (by omega) (by exact hsk) (by exact hnm) (by exact hres.symm) _ _ hP hD hS _ (lv_sub hl [0, 1, 2] rfl)
        · have _q := c8
          rw [if_pos (by assumption)] at hres
          refine lv_aload_n hx hb d_M_next_110 rfl (lv_at hl 0 rfl) ?_
          refine lv_dup hx hb d_M_next_111 rfl ?_
          refine gf_M_193 hx hb hts hown hK hP 0 rfl rfl d_M_next_112 ?_
          refine lv_iconst (v := iI 1) hx hb d_M_next_115 rfl ?_
          refine li_iadd hx hb d_M_next_116 ?_
          refine li_nm (fun z_n ez_n => ?_)
          refine pf_M_193 hx hb hts hown hK hP hD hS 0 rfl (Nat.le_of_ble_eq_true rfl) d_M_next_117 (fun H locs hP hD hS => ?_)
          have hP : va_P (dC, dI) CL [(mo, .inr (10, [.int (iI mrf), .ref (ma 0), .int (iI mz), .ref (ma 1), .ref (ma 2), .int (iI mls), .int (iI mfp), .int (iI mfm), .ref (ma 3), .int (iI mtx), .ref (ma 4), .ref (ma 5), .int (iI mwd), .ref (ma 6), .ref (ma 7), .int (iI mak), .ref (ma 8), .ref (ma 9), .int (iI mli), .int (iI mlx), .ref (ma 10), .ref (ma 11), .int (iI z_n), .int (iI mtk), .int (iI b), .int (iI b), .int (iI mfa), .int (iI mla), .int (iI mlp), .int (iI mdp), .ref (ma 12), .ref (ma 13), .int (iI msi), .int (iI (bI mdn)), .int (iI mpf), .int (iI mpt)])), (ma 1, .inl (kA 0, 4120, .inl (aI ca)))] H := hP
          have hD : va_D A [(mo, .inr (10, [.int (iI mrf), .ref (ma 0), .int (iI mz), .ref (ma 1), .ref (ma 2), .int (iI mls), .int (iI mfp), .int (iI mfm), .ref (ma 3), .int (iI mtx), .ref (ma 4), .ref (ma 5), .int (iI mwd), .ref (ma 6), .ref (ma 7), .int (iI mak), .ref (ma 8), .ref (ma 9), .int (iI mli), .int (iI mlx), .ref (ma 10), .ref (ma 11), .int (iI z_n), .int (iI mtk), .int (iI b), .int (iI b), .int (iI mfa), .int (iI mla), .int (iI mlp), .int (iI mdp), .ref (ma 12), .ref (ma 13), .int (iI msi), .int (iI (bI mdn)), .int (iI mpf), .int (iI mpt)])), (ma 1, .inl (kA 0, 4120, .inl (aI ca)))] := hD
          refine lv_goto (tgt := 87) hx hb d_M_next_120 (by decide) ?_
          exact ih_87 b z_n ed cx (by omega) (by omega) (by exact hsk) (by first | exact hnm | (rw [← ecx]; assumption)) (by first | rfl | (rw [ez_n]; exact hres)) (by omega) _ _ hP hD hS _ (lv_sub hl [0, 1, 2] rfl)
  have K_40 : ∀ (b : Int) (ed : Int), (ed = 4000 + mls) → (mat ≤ b ∧ b ≤ ed) → (skM ca ed mat = b) → ∀ (H : Heap) (locs : List Loc), va_P (dC, dI) CL [(mo, .inr (10, [.int (iI mrf), .ref (ma 0), .int (iI mz), .ref (ma 1), .ref (ma 2), .int (iI mls), .int (iI mfp), .int (iI mfm), .ref (ma 3), .int (iI mtx), .ref (ma 4), .ref (ma 5), .int (iI mwd), .ref (ma 6), .ref (ma 7), .int (iI mak), .ref (ma 8), .ref (ma 9), .int (iI mli), .int (iI mlx), .ref (ma 10), .ref (ma 11), .int (iI b), .int (iI mtk), .int (iI mtf), .int (iI mtt), .int (iI mfa), .int (iI mla), .int (iI mlp), .int (iI mdp), .ref (ma 12), .ref (ma 13), .int (iI msi), .int (iI (bI mdn)), .int (iI mpf), .int (iI mpt)])), (ma 1, .inl (kA 0, 4120, .inl (aI ca)))] H → va_D A [(mo, .inr (10, [.int (iI mrf), .ref (ma 0), .int (iI mz), .ref (ma 1), .ref (ma 2), .int (iI mls), .int (iI mfp), .int (iI mfm), .ref (ma 3), .int (iI mtx), .ref (ma 4), .ref (ma 5), .int (iI mwd), .ref (ma 6), .ref (ma 7), .int (iI mak), .ref (ma 8), .ref (ma 9), .int (iI mli), .int (iI mlx), .ref (ma 10), .ref (ma 11), .int (iI b), .int (iI mtk), .int (iI mtf), .int (iI mtt), .int (iI mfa), .int (iI mla), .int (iI mlp), .int (iI mdp), .ref (ma 12), .ref (ma 13), .int (iI msi), .int (iI (bI mdn)), .int (iI mpf), .int (iI mpt)])), (ma 1, .inl (kA 0, 4120, .inl (aI ca)))] → va_S A s.heap H locs → ∀ ls : Array Slot, lv_has ls 4 [(0, .ref mo), (1, .int (iI ed))] → W p l e (rmd 3 0 0) s m args below meth c H locs 0 0 Q (F0 m 40 ls []) := by
    intro b ed hed hb4 hsk H locs hP hD hS ls hl
    refine lv_aload_n hx hb d_M_next_40 rfl (lv_at hl 0 rfl) ?_
    refine lv_aload_n hx hb d_M_next_41 rfl (lv_at hl 0 rfl) ?_
    refine gf_M_193 hx hb hts hown hK hP 0 rfl rfl d_M_next_42 ?_
    refine pf_M_196 hx hb hts hown hK hP hD hS 0 rfl (Nat.le_of_ble_eq_true rfl) d_M_next_45 (fun H locs hP hD hS => ?_)
    have hP : va_P (dC, dI) CL [(mo, .inr (10, [.int (iI mrf), .ref (ma 0), .int (iI mz), .ref (ma 1), .ref (ma 2), .int (iI mls), .int (iI mfp), .int (iI mfm), .ref (ma 3), .int (iI mtx), .ref (ma 4), .ref (ma 5), .int (iI mwd), .ref (ma 6), .ref (ma 7), .int (iI mak), .ref (ma 8), .ref (ma 9), .int (iI mli), .int (iI mlx), .ref (ma 10), .ref (ma 11), .int (iI b), .int (iI mtk), .int (iI b), .int (iI mtt), .int (iI mfa), .int (iI mla), .int (iI mlp), .int (iI mdp), .ref (ma 12), .ref (ma 13), .int (iI msi), .int (iI (bI mdn)), .int (iI mpf), .int (iI mpt)])), (ma 1, .inl (kA 0, 4120, .inl (aI ca)))] H := hP
    have hD : va_D A [(mo, .inr (10, [.int (iI mrf), .ref (ma 0), .int (iI mz), .ref (ma 1), .ref (ma 2), .int (iI mls), .int (iI mfp), .int (iI mfm), .ref (ma 3), .int (iI mtx), .ref (ma 4), .ref (ma 5), .int (iI mwd), .ref (ma 6), .ref (ma 7), .int (iI mak), .ref (ma 8), .ref (ma 9), .int (iI mli), .int (iI mlx), .ref (ma 10), .ref (ma 11), .int (iI b), .int (iI mtk), .int (iI b), .int (iI mtt), .int (iI mfa), .int (iI mla), .int (iI mlp), .int (iI mdp), .ref (ma 12), .ref (ma 13), .int (iI msi), .int (iI (bI mdn)), .int (iI mpf), .int (iI mpt)])), (ma 1, .inl (kA 0, 4120, .inl (aI ca)))] := hD
    refine lv_aload_n hx hb d_M_next_48 rfl (lv_at hl 0 rfl) ?_
    refine lv_aload_n hx hb d_M_next_49 rfl (lv_at hl 0 rfl) ?_
    refine gf_M_193 hx hb hts hown hK hP 0 rfl rfl d_M_next_50 ?_
    refine pf_M_199 hx hb hts hown hK hP hD hS 0 rfl (Nat.le_of_ble_eq_true rfl) d_M_next_53 (fun H locs hP hD hS => ?_)
    have hP : va_P (dC, dI) CL [(mo, .inr (10, [.int (iI mrf), .ref (ma 0), .int (iI mz), .ref (ma 1), .ref (ma 2), .int (iI mls), .int (iI mfp), .int (iI mfm), .ref (ma 3), .int (iI mtx), .ref (ma 4), .ref (ma 5), .int (iI mwd), .ref (ma 6), .ref (ma 7), .int (iI mak), .ref (ma 8), .ref (ma 9), .int (iI mli), .int (iI mlx), .ref (ma 10), .ref (ma 11), .int (iI b), .int (iI mtk), .int (iI b), .int (iI b), .int (iI mfa), .int (iI mla), .int (iI mlp), .int (iI mdp), .ref (ma 12), .ref (ma 13), .int (iI msi), .int (iI (bI mdn)), .int (iI mpf), .int (iI mpt)])), (ma 1, .inl (kA 0, 4120, .inl (aI ca)))] H := hP
    have hD : va_D A [(mo, .inr (10, [.int (iI mrf), .ref (ma 0), .int (iI mz), .ref (ma 1), .ref (ma 2), .int (iI mls), .int (iI mfp), .int (iI mfm), .ref (ma 3), .int (iI mtx), .ref (ma 4), .ref (ma 5), .int (iI mwd), .ref (ma 6), .ref (ma 7), .int (iI mak), .ref (ma 8), .ref (ma 9), .int (iI mli), .int (iI mlx), .ref (ma 10), .ref (ma 11), .int (iI b), .int (iI mtk), .int (iI b), .int (iI b), .int (iI mfa), .int (iI mla), .int (iI mlp), .int (iI mdp), .ref (ma 12), .ref (ma 13), .int (iI msi), .int (iI (bI mdn)), .int (iI mpf), .int (iI mpt)])), (ma 1, .inl (kA 0, 4120, .inl (aI ca)))] := hD
    refine lv_aload_n hx hb d_M_next_56 rfl (lv_at hl 0 rfl) ?_
    refine gf_M_193 hx hb hts hown hK hP 0 rfl rfl d_M_next_57 ?_
    refine lv_iload_n hx hb d_M_next_60 rfl (lv_at hl 1 rfl) ?_
    refine li_icmp_ne (tgt := 70) hx hb d_M_next_61 (by decide) (by omega) (by omega) (fun c9 => ?_) (fun c9 => ?_)
    · have _q := c9
      refine lv_aload_n hx hb d_M_next_70 rfl (lv_at hl 0 rfl) ?_
      refine gf_M_13 hx hb hts hown hK hP 0 rfl rfl d_M_next_71 ?_
      refine lv_aload_n hx hb d_M_next_74 rfl (lv_at hl 0 rfl) ?_
      refine gf_M_193 hx hb hts hown hK hP 0 rfl rfl d_M_next_75 ?_
      refine li_iald hx hb hK hP 1 0 rfl rfl (by omega) (by omega) (by omega) d_M_next_78 ?_
      have f10 := hca b.toNat
      refine li_nm (fun cx ecx => ?_)
      refine lv_istore_n (lv' := [(2, .int (iI cx)), (0, .ref mo), (1, .int (iI ed))]) hx hb d_M_next_79 rfl hl (by decide) rfl (fun ls hl => ?_)
      refine lv_iload_n hx hb d_M_next_80 rfl (lv_at hl 0 rfl) ?_
      refine li_callr ((va_runS (As := [.int (iI cx)]) (rest := []) ⟨hx, hb, hml, hown, hts⟩ (c_M_isNameSign l dC dI kA cx (by omega)) (cw_M_205 hts rfl rfl ⟨Nat.le_of_ble_eq_true rfl, Nat.le_of_ble_eq_true rfl⟩) (li_preS va_Pnil hK hN (hG.go hS hAN)) rfl rfl hl.1 rfl (lv_room (Nat.le_of_ble_eq_true rfl)) d_M_next_81 ⟨(by show 0 + 0 ≤ 0; omega), (by show 0 + 0 ≤ 0; omega)⟩).run) ?_
      refine li_bz (tgt := 249) hx hb d_M_next_84 (by decide) (fun c11 => ?_) (fun c11 => ?_)
      · have _q := c11
        refine lv_aload_n hx hb d_M_next_249 rfl (lv_at hl 1 rfl) ?_
        refine lv_dup hx hb d_M_next_250 rfl ?_
        refine gf_M_193 hx hb hts hown hK hP 0 rfl rfl d_M_next_251 ?_
        refine lv_iconst (v := iI 1) hx hb d_M_next_254 rfl ?_
        refine li_iadd hx hb d_M_next_255 ?_
        refine li_nm (fun b1 eb1 => ?_)
        refine pf_M_193 hx hb hts hown hK hP hD hS 0 rfl (Nat.le_of_ble_eq_true rfl) d_M_next_256 (fun H locs hP hD hS => ?_)
        have hP : va_P (dC, dI) CL [(mo, .inr (10, [.int (iI mrf), .ref (ma 0), .int (iI mz), .ref (ma 1), .ref (ma 2), .int (iI mls), .int (iI mfp), .int (iI mfm), .ref (ma 3), .int (iI mtx), .ref (ma 4), .ref (ma 5), .int (iI mwd), .ref (ma 6), .ref (ma 7), .int (iI mak), .ref (ma 8), .ref (ma 9), .int (iI mli), .int (iI mlx), .ref (ma 10), .ref (ma 11), .int (iI b1), .int (iI mtk), .int (iI b), .int (iI b), .int (iI mfa), .int (iI mla), .int (iI mlp), .int (iI mdp), .ref (ma 12), .ref (ma 13), .int (iI msi), .int (iI (bI mdn)), .int (iI mpf), .int (iI mpt)])), (ma 1, .inl (kA 0, 4120, .inl (aI ca)))] H := hP
        have hD : va_D A [(mo, .inr (10, [.int (iI mrf), .ref (ma 0), .int (iI mz), .ref (ma 1), .ref (ma 2), .int (iI mls), .int (iI mfp), .int (iI mfm), .ref (ma 3), .int (iI mtx), .ref (ma 4), .ref (ma 5), .int (iI mwd), .ref (ma 6), .ref (ma 7), .int (iI mak), .ref (ma 8), .ref (ma 9), .int (iI mli), .int (iI mlx), .ref (ma 10), .ref (ma 11), .int (iI b1), .int (iI mtk), .int (iI b), .int (iI b), .int (iI mfa), .int (iI mla), .int (iI mlp), .int (iI mdp), .ref (ma 12), .ref (ma 13), .int (iI msi), .int (iI (bI mdn)), .int (iI mpf), .int (iI mpt)])), (ma 1, .inl (kA 0, 4120, .inl (aI ca)))] := hD
        have hb1e : ca (b + 1).toNat = ca b1.toNat := by rw [eb1]
        refine lv_iload_n hx hb d_M_next_259 rfl (lv_at hl 0 rfl) ?_
        refine lv_bipush (v := iI 34) hx hb d_M_next_260 (by decide) ?_
        refine li_icmp_ne (tgt := 271) hx hb d_M_next_262 (by decide) (by omega) (by omega) (fun c12 => ?_) (fun c12 => ?_)
        · have _q := c12
          refine lv_aload_n hx hb d_M_next_271 rfl (lv_at hl 1 rfl) ?_
          refine gf_M_193 hx hb hts hown hK hP 0 rfl rfl d_M_next_272 ?_
          refine lv_iload_n hx hb d_M_next_275 rfl (lv_at hl 2 rfl) ?_
          refine li_icmp_ge (tgt := 315) hx hb d_M_next_276 (by decide) (by omega) (by omega) (fun c13 => ?_) (fun c13 => ?_)
          · have _q := c13
            refine lv_iconst (v := iI 0) hx hb d_M_next_315 rfl ?_
            refine lv_istore_n (lv' := [(3, .int (iI 0)), (2, .int (iI cx)), (0, .ref mo), (1, .int (iI ed))]) hx hb d_M_next_316 rfl hl (by decide) rfl (fun ls hl => ?_)
            refine lv_aload_n hx hb d_M_next_317 rfl (lv_at hl 2 rfl) ?_
            refine lv_iload_n hx hb d_M_next_318 rfl (lv_at hl 0 rfl) ?_
            refine li_if_eq (tgt := 331) hx hb d_M_next_319 (by decide) (by omega) (fun c14 => ?_) (fun c14 => ?_)
            · have _q := c14
              refine lv_aload_n hx hb d_M_next_331 rfl (lv_at hl 2 rfl) ?_
              refine gf_M_193 hx hb hts hown hK hP 0 rfl rfl d_M_next_332 ?_
              refine pf_M_193 hx hb hts hown hK hP hD hS 0 rfl (Nat.le_of_ble_eq_true rfl) d_M_next_335 (fun H locs hP hD hS => ?_)
              have hP : va_P (dC, dI) CL [(mo, .inr (10, [.int (iI mrf), .ref (ma 0), .int (iI mz), .ref (ma 1), .ref (ma 2), .int (iI mls), .int (iI mfp), .int (iI mfm), .ref (ma 3), .int (iI mtx), .ref (ma 4), .ref (ma 5), .int (iI mwd), .ref (ma 6), .ref (ma 7), .int (iI mak), .ref (ma 8), .ref (ma 9), .int (iI mli), .int (iI mlx), .ref (ma 10), .ref (ma 11), .int (iI b1), .int (iI mtk), .int (iI b), .int (iI b), .int (iI mfa), .int (iI mla), .int (iI mlp), .int (iI mdp), .ref (ma 12), .ref (ma 13), .int (iI msi), .int (iI (bI mdn)), .int (iI mpf), .int (iI mpt)])), (ma 1, .inl (kA 0, 4120, .inl (aI ca)))] H := hP
              have hD : va_D A [(mo, .inr (10, [.int (iI mrf), .ref (ma 0), .int (iI mz), .ref (ma 1), .ref (ma 2), .int (iI mls), .int (iI mfp), .int (iI mfm), .ref (ma 3), .int (iI mtx), .ref (ma 4), .ref (ma 5), .int (iI mwd), .ref (ma 6), .ref (ma 7), .int (iI mak), .ref (ma 8), .ref (ma 9), .int (iI mli), .int (iI mlx), .ref (ma 10), .ref (ma 11), .int (iI b1), .int (iI mtk), .int (iI b), .int (iI b), .int (iI mfa), .int (iI mla), .int (iI mlp), .int (iI mdp), .ref (ma 12), .ref (ma 13), .int (iI msi), .int (iI (bI mdn)), .int (iI mpf), .int (iI mpt)])), (ma 1, .inl (kA 0, 4120, .inl (aI ca)))] := hD
              refine lv_aload_n hx hb d_M_next_338 rfl (lv_at hl 2 rfl) ?_
              refine lv_aload_n hx hb d_M_next_339 rfl (lv_at hl 2 rfl) ?_
              refine gf_M_193 hx hb hts hown hK hP 0 rfl rfl d_M_next_340 ?_
              refine pf_M_199 hx hb hts hown hK hP hD hS 0 rfl (Nat.le_of_ble_eq_true rfl) d_M_next_343 (fun H locs hP hD hS => ?_)
              have hP : va_P (dC, dI) CL [(mo, .inr (10, [.int (iI mrf), .ref (ma 0), .int (iI mz), .ref (ma 1), .ref (ma 2), .int (iI mls), .int (iI mfp), .int (iI mfm), .ref (ma 3), .int (iI mtx), .ref (ma 4), .ref (ma 5), .int (iI mwd), .ref (ma 6), .ref (ma 7), .int (iI mak), .ref (ma 8), .ref (ma 9), .int (iI mli), .int (iI mlx), .ref (ma 10), .ref (ma 11), .int (iI b1), .int (iI mtk), .int (iI b), .int (iI b1), .int (iI mfa), .int (iI mla), .int (iI mlp), .int (iI mdp), .ref (ma 12), .ref (ma 13), .int (iI msi), .int (iI (bI mdn)), .int (iI mpf), .int (iI mpt)])), (ma 1, .inl (kA 0, 4120, .inl (aI ca)))] H := hP
              have hD : va_D A [(mo, .inr (10, [.int (iI mrf), .ref (ma 0), .int (iI mz), .ref (ma 1), .ref (ma 2), .int (iI mls), .int (iI mfp), .int (iI mfm), .ref (ma 3), .int (iI mtx), .ref (ma 4), .ref (ma 5), .int (iI mwd), .ref (ma 6), .ref (ma 7), .int (iI mak), .ref (ma 8), .ref (ma 9), .int (iI mli), .int (iI mlx), .ref (ma 10), .ref (ma 11), .int (iI b1), .int (iI mtk), .int (iI b), .int (iI b1), .int (iI mfa), .int (iI mla), .int (iI mlp), .int (iI mdp), .ref (ma 12), .ref (ma 13), .int (iI msi), .int (iI (bI mdn)), .int (iI mpf), .int (iI mpt)])), (ma 1, .inl (kA 0, 4120, .inl (aI ca)))] := hD
              refine lv_aload_n hx hb d_M_next_346 rfl (lv_at hl 2 rfl) ?_
              refine lv_iload_n hx hb d_M_next_347 rfl (lv_at hl 1 rfl) ?_
              refine lv_bipush (v := iI 40) hx hb d_M_next_348 (by decide) ?_
              refine li_icmp_ne (tgt := 357) hx hb d_M_next_350 (by decide) (by omega) (by omega) (fun c15 => ?_) (fun c15 => ?_)
              · have _q := c15
                refine lv_iload_n hx hb d_M_next_357 rfl (lv_at hl 1 rfl) ?_
                refine lv_bipush (v := iI 41) hx hb d_M_next_358 (by decide) ?_
                refine li_icmp_ne (tgt := 367) hx hb d_M_next_360 (by decide) (by omega) (by omega) (fun c16 => ?_) (fun c16 => ?_)
                · have _q := c16
                  refine lv_iload_n hx hb d_M_next_367 rfl (lv_at hl 1 rfl) ?_
                  refine lv_bipush (v := iI 47) hx hb d_M_next_368 (by decide) ?_
                  refine li_icmp_ne (tgt := 378) hx hb d_M_next_370 (by decide) (by omega) (by omega) (fun c17 => ?_) (fun c17 => ?_)
                  · have _q := c17
                    refine lv_iconst (v := iI 3) hx hb d_M_next_378 rfl ?_
                    refine pf_M_202 hx hb hts hown hK hP hD hS 0 rfl (Nat.le_of_ble_eq_true rfl) d_M_next_379 (fun H locs hP hD hS => ?_)
                    have hP : va_P (dC, dI) CL [(mo, .inr (10, [.int (iI mrf), .ref (ma 0), .int (iI mz), .ref (ma 1), .ref (ma 2), .int (iI mls), .int (iI mfp), .int (iI mfm), .ref (ma 3), .int (iI mtx), .ref (ma 4), .ref (ma 5), .int (iI mwd), .ref (ma 6), .ref (ma 7), .int (iI mak), .ref (ma 8), .ref (ma 9), .int (iI mli), .int (iI mlx), .ref (ma 10), .ref (ma 11), .int (iI b1), .int (iI 3), .int (iI b), .int (iI b1), .int (iI mfa), .int (iI mla), .int (iI mlp), .int (iI mdp), .ref (ma 12), .ref (ma 13), .int (iI msi), .int (iI (bI mdn)), .int (iI mpf), .int (iI mpt)])), (ma 1, .inl (kA 0, 4120, .inl (aI ca)))] H := hP
                    have hD : va_D A [(mo, .inr (10, [.int (iI mrf), .ref (ma 0), .int (iI mz), .ref (ma 1), .ref (ma 2), .int (iI mls), .int (iI mfp), .int (iI mfm), .ref (ma 3), .int (iI mtx), .ref (ma 4), .ref (ma 5), .int (iI mwd), .ref (ma 6), .ref (ma 7), .int (iI mak), .ref (ma 8), .ref (ma 9), .int (iI mli), .int (iI mlx), .ref (ma 10), .ref (ma 11), .int (iI b1), .int (iI 3), .int (iI b), .int (iI b1), .int (iI mfa), .int (iI mla), .int (iI mlp), .int (iI mdp), .ref (ma 12), .ref (ma 13), .int (iI msi), .int (iI (bI mdn)), .int (iI mpf), .int (iI mpt)])), (ma 1, .inl (kA 0, 4120, .inl (aI ca)))] := hD
                    exact fin (b1, 3, b, b1) _ _ _ _ (by show (b1, 3, b, b1) = nxM ca (4000 + mls) mat ∧ (3 = 0 ∨ mat < b1) ∧ mat ≤ b1 ∧ 4000 ≤ b ∧ b ≤ b1 ∧ b1 ≤ b1 ∧ b1 ≤ 4000 + mls ∧ 0 ≤ 3 ∧ 3 ≤ 12; refine ⟨by (unfold nxM; rw [← hed, hsk]; unfold nxB; rw [if_neg (by omega), if_neg (nbt (by rw [← ecx]; assumption)), if_neg (by omega)]; unfold nxS nxK; (repeat (first | rw [if_pos (by omega)] | rw [if_neg (by omega)])); simp only [Prod.mk.injEq, true_and, and_true]; first | done | omega), by omega⟩) (by first | exact hP | (subst_vars; exact hP)) (by first | exact hD | (subst_vars; exact hD)) hS d_M_next_382
                  · have _q := c17
                    refine lv_bipush (v := iI 6) hx hb d_M_next_373 (by decide) ?_
                    refine lv_goto (tgt := 379) hx hb d_M_next_375 (by decide) ?_
                    refine pf_M_202 hx hb hts hown hK hP hD hS 0 rfl (Nat.le_of_ble_eq_true rfl) d_M_next_379 (fun H locs hP hD hS => ?_)
                    have hP : va_P (dC, dI) CL [(mo, .inr (10, [.int (iI mrf), .ref (ma 0), .int (iI mz), .ref (ma 1), .ref (ma 2), .int (iI mls), .int (iI mfp), .int (iI mfm), .ref (ma 3), .int (iI mtx), .ref (ma 4), .ref (ma 5), .int (iI mwd), .ref (ma 6), .ref (ma 7), .int (iI mak), .ref (ma 8), .ref (ma 9), .int (iI mli), .int (iI mlx), .ref (ma 10), .ref (ma 11), .int (iI b1), .int (iI 6), .int (iI b), .int (iI b1), .int (iI mfa), .int (iI mla), .int (iI mlp), .int (iI mdp), .ref (ma 12), .ref (ma 13), .int (iI msi), .int (iI (bI mdn)), .int (iI mpf), .int (iI mpt)])), (ma 1, .inl (kA 0, 4120, .inl (aI ca)))] H := hP
                    have hD : va_D A [(mo, .inr (10, [.int (iI mrf), .ref (ma 0), .int (iI mz), .ref (ma 1), .ref (ma 2), .int (iI mls), .int (iI mfp), .int (iI mfm), .ref (ma 3), .int (iI mtx), .ref (ma 4), .ref (ma 5), .int (iI mwd), .ref (ma 6), .ref (ma 7), .int (iI mak), .ref (ma 8), .ref (ma 9), .int (iI mli), .int (iI mlx), .ref (ma 10), .ref (ma 11), .int (iI b1), .int (iI 6), .int (iI b), .int (iI b1), .int (iI mfa), .int (iI mla), .int (iI mlp), .int (iI mdp), .ref (ma 12), .ref (ma 13), .int (iI msi), .int (iI (bI mdn)), .int (iI mpf), .int (iI mpt)])), (ma 1, .inl (kA 0, 4120, .inl (aI ca)))] := hD
                    exact fin (b1, 6, b, b1) _ _ _ _ (by show (b1, 6, b, b1) = nxM ca (4000 + mls) mat ∧ (6 = 0 ∨ mat < b1) ∧ mat ≤ b1 ∧ 4000 ≤ b ∧ b ≤ b1 ∧ b1 ≤ b1 ∧ b1 ≤ 4000 + mls ∧ 0 ≤ 6 ∧ 6 ≤ 12; refine ⟨by (unfold nxM; rw [← hed, hsk]; unfold nxB; rw [if_neg (by omega), if_neg (nbt (by rw [← ecx]; assumption)), if_neg (by omega)]; unfold nxS nxK; (repeat (first | rw [if_pos (by omega)] | rw [if_neg (by omega)])); simp only [Prod.mk.injEq, true_and, and_true]; first | done | omega), by omega⟩) (by first | exact hP | (subst_vars; exact hP)) (by first | exact hD | (subst_vars; exact hD)) hS d_M_next_382
                · have _q := c16
                  refine lv_iconst (v := iI 5) hx hb d_M_next_363 rfl ?_
                  refine lv_goto (tgt := 379) hx hb d_M_next_364 (by decide) ?_
                  refine pf_M_202 hx hb hts hown hK hP hD hS 0 rfl (Nat.le_of_ble_eq_true rfl) d_M_next_379 (fun H locs hP hD hS => ?_)
                  have hP : va_P (dC, dI) CL [(mo, .inr (10, [.int (iI mrf), .ref (ma 0), .int (iI mz), .ref (ma 1), .ref (ma 2), .int (iI mls), .int (iI mfp), .int (iI mfm), .ref (ma 3), .int (iI mtx), .ref (ma 4), .ref (ma 5), .int (iI mwd), .ref (ma 6), .ref (ma 7), .int (iI mak), .ref (ma 8), .ref (ma 9), .int (iI mli), .int (iI mlx), .ref (ma 10), .ref (ma 11), .int (iI b1), .int (iI 5), .int (iI b), .int (iI b1), .int (iI mfa), .int (iI mla), .int (iI mlp), .int (iI mdp), .ref (ma 12), .ref (ma 13), .int (iI msi), .int (iI (bI mdn)), .int (iI mpf), .int (iI mpt)])), (ma 1, .inl (kA 0, 4120, .inl (aI ca)))] H := hP
                  have hD : va_D A [(mo, .inr (10, [.int (iI mrf), .ref (ma 0), .int (iI mz), .ref (ma 1), .ref (ma 2), .int (iI mls), .int (iI mfp), .int (iI mfm), .ref (ma 3), .int (iI mtx), .ref (ma 4), .ref (ma 5), .int (iI mwd), .ref (ma 6), .ref (ma 7), .int (iI mak), .ref (ma 8), .ref (ma 9), .int (iI mli), .int (iI mlx), .ref (ma 10), .ref (ma 11), .int (iI b1), .int (iI 5), .int (iI b), .int (iI b1), .int (iI mfa), .int (iI mla), .int (iI mlp), .int (iI mdp), .ref (ma 12), .ref (ma 13), .int (iI msi), .int (iI (bI mdn)), .int (iI mpf), .int (iI mpt)])), (ma 1, .inl (kA 0, 4120, .inl (aI ca)))] := hD
                  exact fin (b1, 5, b, b1) _ _ _ _ (by show (b1, 5, b, b1) = nxM ca (4000 + mls) mat ∧ (5 = 0 ∨ mat < b1) ∧ mat ≤ b1 ∧ 4000 ≤ b ∧ b ≤ b1 ∧ b1 ≤ b1 ∧ b1 ≤ 4000 + mls ∧ 0 ≤ 5 ∧ 5 ≤ 12; refine ⟨by (unfold nxM; rw [← hed, hsk]; unfold nxB; rw [if_neg (by omega), if_neg (nbt (by rw [← ecx]; assumption)), if_neg (by omega)]; unfold nxS nxK; (repeat (first | rw [if_pos (by omega)] | rw [if_neg (by omega)])); simp only [Prod.mk.injEq, true_and, and_true]; first | done | omega), by omega⟩) (by first | exact hP | (subst_vars; exact hP)) (by first | exact hD | (subst_vars; exact hD)) hS d_M_next_382
              · have _q := c15
                refine lv_iconst (v := iI 4) hx hb d_M_next_353 rfl ?_
                refine lv_goto (tgt := 379) hx hb d_M_next_354 (by decide) ?_
                refine pf_M_202 hx hb hts hown hK hP hD hS 0 rfl (Nat.le_of_ble_eq_true rfl) d_M_next_379 (fun H locs hP hD hS => ?_)
                have hP : va_P (dC, dI) CL [(mo, .inr (10, [.int (iI mrf), .ref (ma 0), .int (iI mz), .ref (ma 1), .ref (ma 2), .int (iI mls), .int (iI mfp), .int (iI mfm), .ref (ma 3), .int (iI mtx), .ref (ma 4), .ref (ma 5), .int (iI mwd), .ref (ma 6), .ref (ma 7), .int (iI mak), .ref (ma 8), .ref (ma 9), .int (iI mli), .int (iI mlx), .ref (ma 10), .ref (ma 11), .int (iI b1), .int (iI 4), .int (iI b), .int (iI b1), .int (iI mfa), .int (iI mla), .int (iI mlp), .int (iI mdp), .ref (ma 12), .ref (ma 13), .int (iI msi), .int (iI (bI mdn)), .int (iI mpf), .int (iI mpt)])), (ma 1, .inl (kA 0, 4120, .inl (aI ca)))] H := hP
                have hD : va_D A [(mo, .inr (10, [.int (iI mrf), .ref (ma 0), .int (iI mz), .ref (ma 1), .ref (ma 2), .int (iI mls), .int (iI mfp), .int (iI mfm), .ref (ma 3), .int (iI mtx), .ref (ma 4), .ref (ma 5), .int (iI mwd), .ref (ma 6), .ref (ma 7), .int (iI mak), .ref (ma 8), .ref (ma 9), .int (iI mli), .int (iI mlx), .ref (ma 10), .ref (ma 11), .int (iI b1), .int (iI 4), .int (iI b), .int (iI b1), .int (iI mfa), .int (iI mla), .int (iI mlp), .int (iI mdp), .ref (ma 12), .ref (ma 13), .int (iI msi), .int (iI (bI mdn)), .int (iI mpf), .int (iI mpt)])), (ma 1, .inl (kA 0, 4120, .inl (aI ca)))] := hD
                exact fin (b1, 4, b, b1) _ _ _ _ (by show (b1, 4, b, b1) = nxM ca (4000 + mls) mat ∧ (4 = 0 ∨ mat < b1) ∧ mat ≤ b1 ∧ 4000 ≤ b ∧ b ≤ b1 ∧ b1 ≤ b1 ∧ b1 ≤ 4000 + mls ∧ 0 ≤ 4 ∧ 4 ≤ 12; refine ⟨by (unfold nxM; rw [← hed, hsk]; unfold nxB; rw [if_neg (by omega), if_neg (nbt (by rw [← ecx]; assumption)), if_neg (by omega)]; unfold nxS nxK; (repeat (first | rw [if_pos (by omega)] | rw [if_neg (by omega)])); simp only [Prod.mk.injEq, true_and, and_true]; first | done | omega), by omega⟩) (by first | exact hP | (subst_vars; exact hP)) (by first | exact hD | (subst_vars; exact hD)) hS d_M_next_382
            · have _q := c14
              exact absurd c14 (by omega)
          · have _q := c13
            refine lv_aload_n hx hb d_M_next_279 rfl (lv_at hl 1 rfl) ?_
            refine gf_M_13 hx hb hts hown hK hP 0 rfl rfl d_M_next_280 ?_
            refine lv_aload_n hx hb d_M_next_283 rfl (lv_at hl 1 rfl) ?_
            refine gf_M_193 hx hb hts hown hK hP 0 rfl rfl d_M_next_284 ?_
            refine li_iald hx hb hK hP 1 0 rfl rfl (by omega) (by omega) (by omega) d_M_next_287 ?_
            have f18 := hca b1.toNat
            refine lv_bipush (v := iI 61) hx hb d_M_next_288 (by decide) ?_
            refine li_icmp_ne (tgt := 315) hx hb d_M_next_290 (by decide) (by omega) (by omega) (fun c19 => ?_) (fun c19 => ?_)
            · have _q := c19
              refine lv_iconst (v := iI 0) hx hb d_M_next_315 rfl ?_
              refine lv_istore_n (lv' := [(3, .int (iI 0)), (2, .int (iI cx)), (0, .ref mo), (1, .int (iI ed))]) hx hb d_M_next_316 rfl hl (by decide) rfl (fun ls hl => ?_)
              refine lv_aload_n hx hb d_M_next_317 rfl (lv_at hl 2 rfl) ?_
              refine lv_iload_n hx hb d_M_next_318 rfl (lv_at hl 0 rfl) ?_
              refine li_if_eq (tgt := 331) hx hb d_M_next_319 (by decide) (by omega) (fun c20 => ?_) (fun c20 => ?_)
              · have _q := c20
                refine lv_aload_n hx hb d_M_next_331 rfl (lv_at hl 2 rfl) ?_
                refine gf_M_193 hx hb hts hown hK hP 0 rfl rfl d_M_next_332 ?_
                refine pf_M_193 hx hb hts hown hK hP hD hS 0 rfl (Nat.le_of_ble_eq_true rfl) d_M_next_335 (fun H locs hP hD hS => ?_)
                have hP : va_P (dC, dI) CL [(mo, .inr (10, [.int (iI mrf), .ref (ma 0), .int (iI mz), .ref (ma 1), .ref (ma 2), .int (iI mls), .int (iI mfp), .int (iI mfm), .ref (ma 3), .int (iI mtx), .ref (ma 4), .ref (ma 5), .int (iI mwd), .ref (ma 6), .ref (ma 7), .int (iI mak), .ref (ma 8), .ref (ma 9), .int (iI mli), .int (iI mlx), .ref (ma 10), .ref (ma 11), .int (iI b1), .int (iI mtk), .int (iI b), .int (iI b), .int (iI mfa), .int (iI mla), .int (iI mlp), .int (iI mdp), .ref (ma 12), .ref (ma 13), .int (iI msi), .int (iI (bI mdn)), .int (iI mpf), .int (iI mpt)])), (ma 1, .inl (kA 0, 4120, .inl (aI ca)))] H := hP
                have hD : va_D A [(mo, .inr (10, [.int (iI mrf), .ref (ma 0), .int (iI mz), .ref (ma 1), .ref (ma 2), .int (iI mls), .int (iI mfp), .int (iI mfm), .ref (ma 3), .int (iI mtx), .ref (ma 4), .ref (ma 5), .int (iI mwd), .ref (ma 6), .ref (ma 7), .int (iI mak), .ref (ma 8), .ref (ma 9), .int (iI mli), .int (iI mlx), .ref (ma 10), .ref (ma 11), .int (iI b1), .int (iI mtk), .int (iI b), .int (iI b), .int (iI mfa), .int (iI mla), .int (iI mlp), .int (iI mdp), .ref (ma 12), .ref (ma 13), .int (iI msi), .int (iI (bI mdn)), .int (iI mpf), .int (iI mpt)])), (ma 1, .inl (kA 0, 4120, .inl (aI ca)))] := hD
                refine lv_aload_n hx hb d_M_next_338 rfl (lv_at hl 2 rfl) ?_
                refine lv_aload_n hx hb d_M_next_339 rfl (lv_at hl 2 rfl) ?_
                refine gf_M_193 hx hb hts hown hK hP 0 rfl rfl d_M_next_340 ?_
                refine pf_M_199 hx hb hts hown hK hP hD hS 0 rfl (Nat.le_of_ble_eq_true rfl) d_M_next_343 (fun H locs hP hD hS => ?_)
                have hP : va_P (dC, dI) CL [(mo, .inr (10, [.int (iI mrf), .ref (ma 0), .int (iI mz), .ref (ma 1), .ref (ma 2), .int (iI mls), .int (iI mfp), .int (iI mfm), .ref (ma 3), .int (iI mtx), .ref (ma 4), .ref (ma 5), .int (iI mwd), .ref (ma 6), .ref (ma 7), .int (iI mak), .ref (ma 8), .ref (ma 9), .int (iI mli), .int (iI mlx), .ref (ma 10), .ref (ma 11), .int (iI b1), .int (iI mtk), .int (iI b), .int (iI b1), .int (iI mfa), .int (iI mla), .int (iI mlp), .int (iI mdp), .ref (ma 12), .ref (ma 13), .int (iI msi), .int (iI (bI mdn)), .int (iI mpf), .int (iI mpt)])), (ma 1, .inl (kA 0, 4120, .inl (aI ca)))] H := hP
                have hD : va_D A [(mo, .inr (10, [.int (iI mrf), .ref (ma 0), .int (iI mz), .ref (ma 1), .ref (ma 2), .int (iI mls), .int (iI mfp), .int (iI mfm), .ref (ma 3), .int (iI mtx), .ref (ma 4), .ref (ma 5), .int (iI mwd), .ref (ma 6), .ref (ma 7), .int (iI mak), .ref (ma 8), .ref (ma 9), .int (iI mli), .int (iI mlx), .ref (ma 10), .ref (ma 11), .int (iI b1), .int (iI mtk), .int (iI b), .int (iI b1), .int (iI mfa), .int (iI mla), .int (iI mlp), .int (iI mdp), .ref (ma 12), .ref (ma 13), .int (iI msi), .int (iI (bI mdn)), .int (iI mpf), .int (iI mpt)])), (ma 1, .inl (kA 0, 4120, .inl (aI ca)))] := hD
                refine lv_aload_n hx hb d_M_next_346 rfl (lv_at hl 2 rfl) ?_
                refine lv_iload_n hx hb d_M_next_347 rfl (lv_at hl 1 rfl) ?_
                refine lv_bipush (v := iI 40) hx hb d_M_next_348 (by decide) ?_
                refine li_icmp_ne (tgt := 357) hx hb d_M_next_350 (by decide) (by omega) (by omega) (fun c21 => ?_) (fun c21 => ?_)
                · have _q := c21
                  refine lv_iload_n hx hb d_M_next_357 rfl (lv_at hl 1 rfl) ?_
                  refine lv_bipush (v := iI 41) hx hb d_M_next_358 (by decide) ?_
                  refine li_icmp_ne (tgt := 367) hx hb d_M_next_360 (by decide) (by omega) (by omega) (fun c22 => ?_) (fun c22 => ?_)
                  · have _q := c22
                    refine lv_iload_n hx hb d_M_next_367 rfl (lv_at hl 1 rfl) ?_
                    refine lv_bipush (v := iI 47) hx hb d_M_next_368 (by decide) ?_
                    refine li_icmp_ne (tgt := 378) hx hb d_M_next_370 (by decide) (by omega) (by omega) (fun c23 => ?_) (fun c23 => ?_)
                    · have _q := c23
                      refine lv_iconst (v := iI 3) hx hb d_M_next_378 rfl ?_
                      refine pf_M_202 hx hb hts hown hK hP hD hS 0 rfl (Nat.le_of_ble_eq_true rfl) d_M_next_379 (fun H locs hP hD hS => ?_)
                      have hP : va_P (dC, dI) CL [(mo, .inr (10, [.int (iI mrf), .ref (ma 0), .int (iI mz), .ref (ma 1), .ref (ma 2), .int (iI mls), .int (iI mfp), .int (iI mfm), .ref (ma 3), .int (iI mtx), .ref (ma 4), .ref (ma 5), .int (iI mwd), .ref (ma 6), .ref (ma 7), .int (iI mak), .ref (ma 8), .ref (ma 9), .int (iI mli), .int (iI mlx), .ref (ma 10), .ref (ma 11), .int (iI b1), .int (iI 3), .int (iI b), .int (iI b1), .int (iI mfa), .int (iI mla), .int (iI mlp), .int (iI mdp), .ref (ma 12), .ref (ma 13), .int (iI msi), .int (iI (bI mdn)), .int (iI mpf), .int (iI mpt)])), (ma 1, .inl (kA 0, 4120, .inl (aI ca)))] H := hP
                      have hD : va_D A [(mo, .inr (10, [.int (iI mrf), .ref (ma 0), .int (iI mz), .ref (ma 1), .ref (ma 2), .int (iI mls), .int (iI mfp), .int (iI mfm), .ref (ma 3), .int (iI mtx), .ref (ma 4), .ref (ma 5), .int (iI mwd), .ref (ma 6), .ref (ma 7), .int (iI mak), .ref (ma 8), .ref (ma 9), .int (iI mli), .int (iI mlx), .ref (ma 10), .ref (ma 11), .int (iI b1), .int (iI 3), .int (iI b), .int (iI b1), .int (iI mfa), .int (iI mla), .int (iI mlp), .int (iI mdp), .ref (ma 12), .ref (ma 13), .int (iI msi), .int (iI (bI mdn)), .int (iI mpf), .int (iI mpt)])), (ma 1, .inl (kA 0, 4120, .inl (aI ca)))] := hD
                      exact fin (b1, 3, b, b1) _ _ _ _ (by show (b1, 3, b, b1) = nxM ca (4000 + mls) mat ∧ (3 = 0 ∨ mat < b1) ∧ mat ≤ b1 ∧ 4000 ≤ b ∧ b ≤ b1 ∧ b1 ≤ b1 ∧ b1 ≤ 4000 + mls ∧ 0 ≤ 3 ∧ 3 ≤ 12; refine ⟨by (unfold nxM; rw [← hed, hsk]; unfold nxB; rw [if_neg (by omega), if_neg (nbt (by rw [← ecx]; assumption)), if_neg (by omega)]; unfold nxS nxK; (repeat (first | rw [if_pos (by omega)] | rw [if_neg (by omega)])); simp only [Prod.mk.injEq, true_and, and_true]; first | done | omega), by omega⟩) (by first | exact hP | (subst_vars; exact hP)) (by first | exact hD | (subst_vars; exact hD)) hS d_M_next_382
                    · have _q := c23
                      refine lv_bipush (v := iI 6) hx hb d_M_next_373 (by decide) ?_
                      refine lv_goto (tgt := 379) hx hb d_M_next_375 (by decide) ?_
                      refine pf_M_202 hx hb hts hown hK hP hD hS 0 rfl (Nat.le_of_ble_eq_true rfl) d_M_next_379 (fun H locs hP hD hS => ?_)
                      have hP : va_P (dC, dI) CL [(mo, .inr (10, [.int (iI mrf), .ref (ma 0), .int (iI mz), .ref (ma 1), .ref (ma 2), .int (iI mls), .int (iI mfp), .int (iI mfm), .ref (ma 3), .int (iI mtx), .ref (ma 4), .ref (ma 5), .int (iI mwd), .ref (ma 6), .ref (ma 7), .int (iI mak), .ref (ma 8), .ref (ma 9), .int (iI mli), .int (iI mlx), .ref (ma 10), .ref (ma 11), .int (iI b1), .int (iI 6), .int (iI b), .int (iI b1), .int (iI mfa), .int (iI mla), .int (iI mlp), .int (iI mdp), .ref (ma 12), .ref (ma 13), .int (iI msi), .int (iI (bI mdn)), .int (iI mpf), .int (iI mpt)])), (ma 1, .inl (kA 0, 4120, .inl (aI ca)))] H := hP
                      have hD : va_D A [(mo, .inr (10, [.int (iI mrf), .ref (ma 0), .int (iI mz), .ref (ma 1), .ref (ma 2), .int (iI mls), .int (iI mfp), .int (iI mfm), .ref (ma 3), .int (iI mtx), .ref (ma 4), .ref (ma 5), .int (iI mwd), .ref (ma 6), .ref (ma 7), .int (iI mak), .ref (ma 8), .ref (ma 9), .int (iI mli), .int (iI mlx), .ref (ma 10), .ref (ma 11), .int (iI b1), .int (iI 6), .int (iI b), .int (iI b1), .int (iI mfa), .int (iI mla), .int (iI mlp), .int (iI mdp), .ref (ma 12), .ref (ma 13), .int (iI msi), .int (iI (bI mdn)), .int (iI mpf), .int (iI mpt)])), (ma 1, .inl (kA 0, 4120, .inl (aI ca)))] := hD
                      exact fin (b1, 6, b, b1) _ _ _ _ (by show (b1, 6, b, b1) = nxM ca (4000 + mls) mat ∧ (6 = 0 ∨ mat < b1) ∧ mat ≤ b1 ∧ 4000 ≤ b ∧ b ≤ b1 ∧ b1 ≤ b1 ∧ b1 ≤ 4000 + mls ∧ 0 ≤ 6 ∧ 6 ≤ 12; refine ⟨by (unfold nxM; rw [← hed, hsk]; unfold nxB; rw [if_neg (by omega), if_neg (nbt (by rw [← ecx]; assumption)), if_neg (by omega)]; unfold nxS nxK; (repeat (first | rw [if_pos (by omega)] | rw [if_neg (by omega)])); simp only [Prod.mk.injEq, true_and, and_true]; first | done | omega), by omega⟩) (by first | exact hP | (subst_vars; exact hP)) (by first | exact hD | (subst_vars; exact hD)) hS d_M_next_382
                  · have _q := c22
                    refine lv_iconst (v := iI 5) hx hb d_M_next_363 rfl ?_
                    refine lv_goto (tgt := 379) hx hb d_M_next_364 (by decide) ?_
                    refine pf_M_202 hx hb hts hown hK hP hD hS 0 rfl (Nat.le_of_ble_eq_true rfl) d_M_next_379 (fun H locs hP hD hS => ?_)
                    have hP : va_P (dC, dI) CL [(mo, .inr (10, [.int (iI mrf), .ref (ma 0), .int (iI mz), .ref (ma 1), .ref (ma 2), .int (iI mls), .int (iI mfp), .int (iI mfm), .ref (ma 3), .int (iI mtx), .ref (ma 4), .ref (ma 5), .int (iI mwd), .ref (ma 6), .ref (ma 7), .int (iI mak), .ref (ma 8), .ref (ma 9), .int (iI mli), .int (iI mlx), .ref (ma 10), .ref (ma 11), .int (iI b1), .int (iI 5), .int (iI b), .int (iI b1), .int (iI mfa), .int (iI mla), .int (iI mlp), .int (iI mdp), .ref (ma 12), .ref (ma 13), .int (iI msi), .int (iI (bI mdn)), .int (iI mpf), .int (iI mpt)])), (ma 1, .inl (kA 0, 4120, .inl (aI ca)))] H := hP
                    have hD : va_D A [(mo, .inr (10, [.int (iI mrf), .ref (ma 0), .int (iI mz), .ref (ma 1), .ref (ma 2), .int (iI mls), .int (iI mfp), .int (iI mfm), .ref (ma 3), .int (iI mtx), .ref (ma 4), .ref (ma 5), .int (iI mwd), .ref (ma 6), .ref (ma 7), .int (iI mak), .ref (ma 8), .ref (ma 9), .int (iI mli), .int (iI mlx), .ref (ma 10), .ref (ma 11), .int (iI b1), .int (iI 5), .int (iI b), .int (iI b1), .int (iI mfa), .int (iI mla), .int (iI mlp), .int (iI mdp), .ref (ma 12), .ref (ma 13), .int (iI msi), .int (iI (bI mdn)), .int (iI mpf), .int (iI mpt)])), (ma 1, .inl (kA 0, 4120, .inl (aI ca)))] := hD
                    exact fin (b1, 5, b, b1) _ _ _ _ (by show (b1, 5, b, b1) = nxM ca (4000 + mls) mat ∧ (5 = 0 ∨ mat < b1) ∧ mat ≤ b1 ∧ 4000 ≤ b ∧ b ≤ b1 ∧ b1 ≤ b1 ∧ b1 ≤ 4000 + mls ∧ 0 ≤ 5 ∧ 5 ≤ 12; refine ⟨by (unfold nxM; rw [← hed, hsk]; unfold nxB; rw [if_neg (by omega), if_neg (nbt (by rw [← ecx]; assumption)), if_neg (by omega)]; unfold nxS nxK; (repeat (first | rw [if_pos (by omega)] | rw [if_neg (by omega)])); simp only [Prod.mk.injEq, true_and, and_true]; first | done | omega), by omega⟩) (by first | exact hP | (subst_vars; exact hP)) (by first | exact hD | (subst_vars; exact hD)) hS d_M_next_382
                · have _q := c21
                  refine lv_iconst (v := iI 4) hx hb d_M_next_353 rfl ?_
                  refine lv_goto (tgt := 379) hx hb d_M_next_354 (by decide) ?_
                  refine pf_M_202 hx hb hts hown hK hP hD hS 0 rfl (Nat.le_of_ble_eq_true rfl) d_M_next_379 (fun H locs hP hD hS => ?_)
                  have hP : va_P (dC, dI) CL [(mo, .inr (10, [.int (iI mrf), .ref (ma 0), .int (iI mz), .ref (ma 1), .ref (ma 2), .int (iI mls), .int (iI mfp), .int (iI mfm), .ref (ma 3), .int (iI mtx), .ref (ma 4), .ref (ma 5), .int (iI mwd), .ref (ma 6), .ref (ma 7), .int (iI mak), .ref (ma 8), .ref (ma 9), .int (iI mli), .int (iI mlx), .ref (ma 10), .ref (ma 11), .int (iI b1), .int (iI 4), .int (iI b), .int (iI b1), .int (iI mfa), .int (iI mla), .int (iI mlp), .int (iI mdp), .ref (ma 12), .ref (ma 13), .int (iI msi), .int (iI (bI mdn)), .int (iI mpf), .int (iI mpt)])), (ma 1, .inl (kA 0, 4120, .inl (aI ca)))] H := hP
                  have hD : va_D A [(mo, .inr (10, [.int (iI mrf), .ref (ma 0), .int (iI mz), .ref (ma 1), .ref (ma 2), .int (iI mls), .int (iI mfp), .int (iI mfm), .ref (ma 3), .int (iI mtx), .ref (ma 4), .ref (ma 5), .int (iI mwd), .ref (ma 6), .ref (ma 7), .int (iI mak), .ref (ma 8), .ref (ma 9), .int (iI mli), .int (iI mlx), .ref (ma 10), .ref (ma 11), .int (iI b1), .int (iI 4), .int (iI b), .int (iI b1), .int (iI mfa), .int (iI mla), .int (iI mlp), .int (iI mdp), .ref (ma 12), .ref (ma 13), .int (iI msi), .int (iI (bI mdn)), .int (iI mpf), .int (iI mpt)])), (ma 1, .inl (kA 0, 4120, .inl (aI ca)))] := hD
                  exact fin (b1, 4, b, b1) _ _ _ _ (by show (b1, 4, b, b1) = nxM ca (4000 + mls) mat ∧ (4 = 0 ∨ mat < b1) ∧ mat ≤ b1 ∧ 4000 ≤ b ∧ b ≤ b1 ∧ b1 ≤ b1 ∧ b1 ≤ 4000 + mls ∧ 0 ≤ 4 ∧ 4 ≤ 12; refine ⟨by (unfold nxM; rw [← hed, hsk]; unfold nxB; rw [if_neg (by omega), if_neg (nbt (by rw [← ecx]; assumption)), if_neg (by omega)]; unfold nxS nxK; (repeat (first | rw [if_pos (by omega)] | rw [if_neg (by omega)])); simp only [Prod.mk.injEq, true_and, and_true]; first | done | omega), by omega⟩) (by first | exact hP | (subst_vars; exact hP)) (by first | exact hD | (subst_vars; exact hD)) hS d_M_next_382
              · have _q := c20
                exact absurd c20 (by omega)
            · have _q := c19
              refine lv_iload_n hx hb d_M_next_293 rfl (lv_at hl 0 rfl) ?_
              refine lv_bipush (v := iI 61) hx hb d_M_next_294 (by decide) ?_
              refine li_icmp_eq (tgt := 311) hx hb d_M_next_296 (by decide) (by omega) (by omega) (fun c24 => ?_) (fun c24 => ?_)
              · have _q := c24
                refine lv_iconst (v := iI 1) hx hb d_M_next_311 rfl ?_
                refine lv_goto (tgt := 316) hx hb d_M_next_312 (by decide) ?_
                refine lv_istore_n (lv' := [(3, .int (iI 1)), (2, .int (iI cx)), (0, .ref mo), (1, .int (iI ed))]) hx hb d_M_next_316 rfl hl (by decide) rfl (fun ls hl => ?_)
                refine lv_aload_n hx hb d_M_next_317 rfl (lv_at hl 2 rfl) ?_
                refine lv_iload_n hx hb d_M_next_318 rfl (lv_at hl 0 rfl) ?_
                refine li_if_eq (tgt := 331) hx hb d_M_next_319 (by decide) (by omega) (fun c25 => ?_) (fun c25 => ?_)
                · have _q := c25
                  exact absurd c25 (by omega)
                · have _q := c25
                  refine lv_aload_n hx hb d_M_next_322 rfl (lv_at hl 2 rfl) ?_
                  refine gf_M_193 hx hb hts hown hK hP 0 rfl rfl d_M_next_323 ?_
                  refine lv_iconst (v := iI 1) hx hb d_M_next_326 rfl ?_
                  refine li_iadd hx hb d_M_next_327 ?_
                  refine lv_goto (tgt := 335) hx hb d_M_next_328 (by decide) ?_
                  refine li_nm (fun b2 eb2 => ?_)
                  refine pf_M_193 hx hb hts hown hK hP hD hS 0 rfl (Nat.le_of_ble_eq_true rfl) d_M_next_335 (fun H locs hP hD hS => ?_)
                  have hP : va_P (dC, dI) CL [(mo, .inr (10, [.int (iI mrf), .ref (ma 0), .int (iI mz), .ref (ma 1), .ref (ma 2), .int (iI mls), .int (iI mfp), .int (iI mfm), .ref (ma 3), .int (iI mtx), .ref (ma 4), .ref (ma 5), .int (iI mwd), .ref (ma 6), .ref (ma 7), .int (iI mak), .ref (ma 8), .ref (ma 9), .int (iI mli), .int (iI mlx), .ref (ma 10), .ref (ma 11), .int (iI b2), .int (iI mtk), .int (iI b), .int (iI b), .int (iI mfa), .int (iI mla), .int (iI mlp), .int (iI mdp), .ref (ma 12), .ref (ma 13), .int (iI msi), .int (iI (bI mdn)), .int (iI mpf), .int (iI mpt)])), (ma 1, .inl (kA 0, 4120, .inl (aI ca)))] H := hP
                  have hD : va_D A [(mo, .inr (10, [.int (iI mrf), .ref (ma 0), .int (iI mz), .ref (ma 1), .ref (ma 2), .int (iI mls), .int (iI mfp), .int (iI mfm), .ref (ma 3), .int (iI mtx), .ref (ma 4), .ref (ma 5), .int (iI mwd), .ref (ma 6), .ref (ma 7), .int (iI mak), .ref (ma 8), .ref (ma 9), .int (iI mli), .int (iI mlx), .ref (ma 10), .ref (ma 11), .int (iI b2), .int (iI mtk), .int (iI b), .int (iI b), .int (iI mfa), .int (iI mla), .int (iI mlp), .int (iI mdp), .ref (ma 12), .ref (ma 13), .int (iI msi), .int (iI (bI mdn)), .int (iI mpf), .int (iI mpt)])), (ma 1, .inl (kA 0, 4120, .inl (aI ca)))] := hD
                  refine lv_aload_n hx hb d_M_next_338 rfl (lv_at hl 2 rfl) ?_
                  refine lv_aload_n hx hb d_M_next_339 rfl (lv_at hl 2 rfl) ?_
                  refine gf_M_193 hx hb hts hown hK hP 0 rfl rfl d_M_next_340 ?_
                  refine pf_M_199 hx hb hts hown hK hP hD hS 0 rfl (Nat.le_of_ble_eq_true rfl) d_M_next_343 (fun H locs hP hD hS => ?_)
                  have hP : va_P (dC, dI) CL [(mo, .inr (10, [.int (iI mrf), .ref (ma 0), .int (iI mz), .ref (ma 1), .ref (ma 2), .int (iI mls), .int (iI mfp), .int (iI mfm), .ref (ma 3), .int (iI mtx), .ref (ma 4), .ref (ma 5), .int (iI mwd), .ref (ma 6), .ref (ma 7), .int (iI mak), .ref (ma 8), .ref (ma 9), .int (iI mli), .int (iI mlx), .ref (ma 10), .ref (ma 11), .int (iI b2), .int (iI mtk), .int (iI b), .int (iI b2), .int (iI mfa), .int (iI mla), .int (iI mlp), .int (iI mdp), .ref (ma 12), .ref (ma 13), .int (iI msi), .int (iI (bI mdn)), .int (iI mpf), .int (iI mpt)])), (ma 1, .inl (kA 0, 4120, .inl (aI ca)))] H := hP
                  have hD : va_D A [(mo, .inr (10, [.int (iI mrf), .ref (ma 0), .int (iI mz), .ref (ma 1), .ref (ma 2), .int (iI mls), .int (iI mfp), .int (iI mfm), .ref (ma 3), .int (iI mtx), .ref (ma 4), .ref (ma 5), .int (iI mwd), .ref (ma 6), .ref (ma 7), .int (iI mak), .ref (ma 8), .ref (ma 9), .int (iI mli), .int (iI mlx), .ref (ma 10), .ref (ma 11), .int (iI b2), .int (iI mtk), .int (iI b), .int (iI b2), .int (iI mfa), .int (iI mla), .int (iI mlp), .int (iI mdp), .ref (ma 12), .ref (ma 13), .int (iI msi), .int (iI (bI mdn)), .int (iI mpf), .int (iI mpt)])), (ma 1, .inl (kA 0, 4120, .inl (aI ca)))] := hD
                  refine lv_aload_n hx hb d_M_next_346 rfl (lv_at hl 2 rfl) ?_
                  refine lv_iload_n hx hb d_M_next_347 rfl (lv_at hl 1 rfl) ?_
                  refine lv_bipush (v := iI 40) hx hb d_M_next_348 (by decide) ?_
                  refine li_icmp_ne (tgt := 357) hx hb d_M_next_350 (by decide) (by omega) (by omega) (fun c26 => ?_) (fun c26 => ?_)
                  · have _q := c26
                    refine lv_iload_n hx hb d_M_next_357 rfl (lv_at hl 1 rfl) ?_
                    refine lv_bipush (v := iI 41) hx hb d_M_next_358 (by decide) ?_
                    refine li_icmp_ne (tgt := 367) hx hb d_M_next_360 (by decide) (by omega) (by omega) (fun c27 => ?_) (fun c27 => ?_)
                    · have _q := c27
                      refine lv_iload_n hx hb d_M_next_367 rfl (lv_at hl 1 rfl) ?_
                      refine lv_bipush (v := iI 47) hx hb d_M_next_368 (by decide) ?_
                      refine li_icmp_ne (tgt := 378) hx hb d_M_next_370 (by decide) (by omega) (by omega) (fun c28 => ?_) (fun c28 => ?_)
                      · have _q := c28
                        refine lv_iconst (v := iI 3) hx hb d_M_next_378 rfl ?_
                        refine pf_M_202 hx hb hts hown hK hP hD hS 0 rfl (Nat.le_of_ble_eq_true rfl) d_M_next_379 (fun H locs hP hD hS => ?_)
                        have hP : va_P (dC, dI) CL [(mo, .inr (10, [.int (iI mrf), .ref (ma 0), .int (iI mz), .ref (ma 1), .ref (ma 2), .int (iI mls), .int (iI mfp), .int (iI mfm), .ref (ma 3), .int (iI mtx), .ref (ma 4), .ref (ma 5), .int (iI mwd), .ref (ma 6), .ref (ma 7), .int (iI mak), .ref (ma 8), .ref (ma 9), .int (iI mli), .int (iI mlx), .ref (ma 10), .ref (ma 11), .int (iI b2), .int (iI 3), .int (iI b), .int (iI b2), .int (iI mfa), .int (iI mla), .int (iI mlp), .int (iI mdp), .ref (ma 12), .ref (ma 13), .int (iI msi), .int (iI (bI mdn)), .int (iI mpf), .int (iI mpt)])), (ma 1, .inl (kA 0, 4120, .inl (aI ca)))] H := hP
                        have hD : va_D A [(mo, .inr (10, [.int (iI mrf), .ref (ma 0), .int (iI mz), .ref (ma 1), .ref (ma 2), .int (iI mls), .int (iI mfp), .int (iI mfm), .ref (ma 3), .int (iI mtx), .ref (ma 4), .ref (ma 5), .int (iI mwd), .ref (ma 6), .ref (ma 7), .int (iI mak), .ref (ma 8), .ref (ma 9), .int (iI mli), .int (iI mlx), .ref (ma 10), .ref (ma 11), .int (iI b2), .int (iI 3), .int (iI b), .int (iI b2), .int (iI mfa), .int (iI mla), .int (iI mlp), .int (iI mdp), .ref (ma 12), .ref (ma 13), .int (iI msi), .int (iI (bI mdn)), .int (iI mpf), .int (iI mpt)])), (ma 1, .inl (kA 0, 4120, .inl (aI ca)))] := hD
                        exact fin (b2, 3, b, b2) _ _ _ _ (by show (b2, 3, b, b2) = nxM ca (4000 + mls) mat ∧ (3 = 0 ∨ mat < b2) ∧ mat ≤ b2 ∧ 4000 ≤ b ∧ b ≤ b2 ∧ b2 ≤ b2 ∧ b2 ≤ 4000 + mls ∧ 0 ≤ 3 ∧ 3 ≤ 12; refine ⟨by (unfold nxM; rw [← hed, hsk]; unfold nxB; rw [if_neg (by omega), if_neg (nbt (by rw [← ecx]; assumption)), if_neg (by omega)]; unfold nxS nxK; (repeat (first | rw [if_pos (by omega)] | rw [if_neg (by omega)])); simp only [Prod.mk.injEq, true_and, and_true]; first | done | omega), by omega⟩) (by first | exact hP | (subst_vars; exact hP)) (by first | exact hD | (subst_vars; exact hD)) hS d_M_next_382
                      · have _q := c28
                        refine lv_bipush (v := iI 6) hx hb d_M_next_373 (by decide) ?_
                        refine lv_goto (tgt := 379) hx hb d_M_next_375 (by decide) ?_
                        refine pf_M_202 hx hb hts hown hK hP hD hS 0 rfl (Nat.le_of_ble_eq_true rfl) d_M_next_379 (fun H locs hP hD hS => ?_)
                        have hP : va_P (dC, dI) CL [(mo, .inr (10, [.int (iI mrf), .ref (ma 0), .int (iI mz), .ref (ma 1), .ref (ma 2), .int (iI mls), .int (iI mfp), .int (iI mfm), .ref (ma 3), .int (iI mtx), .ref (ma 4), .ref (ma 5), .int (iI mwd), .ref (ma 6), .ref (ma 7), .int (iI mak), .ref (ma 8), .ref (ma 9), .int (iI mli), .int (iI mlx), .ref (ma 10), .ref (ma 11), .int (iI b2), .int (iI 6), .int (iI b), .int (iI b2), .int (iI mfa), .int (iI mla), .int (iI mlp), .int (iI mdp), .ref (ma 12), .ref (ma 13), .int (iI msi), .int (iI (bI mdn)), .int (iI mpf), .int (iI mpt)])), (ma 1, .inl (kA 0, 4120, .inl (aI ca)))] H := hP
                        have hD : va_D A [(mo, .inr (10, [.int (iI mrf), .ref (ma 0), .int (iI mz), .ref (ma 1), .ref (ma 2), .int (iI mls), .int (iI mfp), .int (iI mfm), .ref (ma 3), .int (iI mtx), .ref (ma 4), .ref (ma 5), .int (iI mwd), .ref (ma 6), .ref (ma 7), .int (iI mak), .ref (ma 8), .ref (ma 9), .int (iI mli), .int (iI mlx), .ref (ma 10), .ref (ma 11), .int (iI b2), .int (iI 6), .int (iI b), .int (iI b2), .int (iI mfa), .int (iI mla), .int (iI mlp), .int (iI mdp), .ref (ma 12), .ref (ma 13), .int (iI msi), .int (iI (bI mdn)), .int (iI mpf), .int (iI mpt)])), (ma 1, .inl (kA 0, 4120, .inl (aI ca)))] := hD
                        exact fin (b2, 6, b, b2) _ _ _ _ (by show (b2, 6, b, b2) = nxM ca (4000 + mls) mat ∧ (6 = 0 ∨ mat < b2) ∧ mat ≤ b2 ∧ 4000 ≤ b ∧ b ≤ b2 ∧ b2 ≤ b2 ∧ b2 ≤ 4000 + mls ∧ 0 ≤ 6 ∧ 6 ≤ 12; refine ⟨by (unfold nxM; rw [← hed, hsk]; unfold nxB; rw [if_neg (by omega), if_neg (nbt (by rw [← ecx]; assumption)), if_neg (by omega)]; unfold nxS nxK; (repeat (first | rw [if_pos (by omega)] | rw [if_neg (by omega)])); simp only [Prod.mk.injEq, true_and, and_true]; first | done | omega), by omega⟩) (by first | exact hP | (subst_vars; exact hP)) (by first | exact hD | (subst_vars; exact hD)) hS d_M_next_382
                    · have _q := c27
                      refine lv_iconst (v := iI 5) hx hb d_M_next_363 rfl ?_
                      refine lv_goto (tgt := 379) hx hb d_M_next_364 (by decide) ?_
                      refine pf_M_202 hx hb hts hown hK hP hD hS 0 rfl (Nat.le_of_ble_eq_true rfl) d_M_next_379 (fun H locs hP hD hS => ?_)
                      have hP : va_P (dC, dI) CL [(mo, .inr (10, [.int (iI mrf), .ref (ma 0), .int (iI mz), .ref (ma 1), .ref (ma 2), .int (iI mls), .int (iI mfp), .int (iI mfm), .ref (ma 3), .int (iI mtx), .ref (ma 4), .ref (ma 5), .int (iI mwd), .ref (ma 6), .ref (ma 7), .int (iI mak), .ref (ma 8), .ref (ma 9), .int (iI mli), .int (iI mlx), .ref (ma 10), .ref (ma 11), .int (iI b2), .int (iI 5), .int (iI b), .int (iI b2), .int (iI mfa), .int (iI mla), .int (iI mlp), .int (iI mdp), .ref (ma 12), .ref (ma 13), .int (iI msi), .int (iI (bI mdn)), .int (iI mpf), .int (iI mpt)])), (ma 1, .inl (kA 0, 4120, .inl (aI ca)))] H := hP
                      have hD : va_D A [(mo, .inr (10, [.int (iI mrf), .ref (ma 0), .int (iI mz), .ref (ma 1), .ref (ma 2), .int (iI mls), .int (iI mfp), .int (iI mfm), .ref (ma 3), .int (iI mtx), .ref (ma 4), .ref (ma 5), .int (iI mwd), .ref (ma 6), .ref (ma 7), .int (iI mak), .ref (ma 8), .ref (ma 9), .int (iI mli), .int (iI mlx), .ref (ma 10), .ref (ma 11), .int (iI b2), .int (iI 5), .int (iI b), .int (iI b2), .int (iI mfa), .int (iI mla), .int (iI mlp), .int (iI mdp), .ref (ma 12), .ref (ma 13), .int (iI msi), .int (iI (bI mdn)), .int (iI mpf), .int (iI mpt)])), (ma 1, .inl (kA 0, 4120, .inl (aI ca)))] := hD
                      exact fin (b2, 5, b, b2) _ _ _ _ (by show (b2, 5, b, b2) = nxM ca (4000 + mls) mat ∧ (5 = 0 ∨ mat < b2) ∧ mat ≤ b2 ∧ 4000 ≤ b ∧ b ≤ b2 ∧ b2 ≤ b2 ∧ b2 ≤ 4000 + mls ∧ 0 ≤ 5 ∧ 5 ≤ 12; refine ⟨by (unfold nxM; rw [← hed, hsk]; unfold nxB; rw [if_neg (by omega), if_neg (nbt (by rw [← ecx]; assumption)), if_neg (by omega)]; unfold nxS nxK; (repeat (first | rw [if_pos (by omega)] | rw [if_neg (by omega)])); simp only [Prod.mk.injEq, true_and, and_true]; first | done | omega), by omega⟩) (by first | exact hP | (subst_vars; exact hP)) (by first | exact hD | (subst_vars; exact hD)) hS d_M_next_382
                  · have _q := c26
                    refine lv_iconst (v := iI 4) hx hb d_M_next_353 rfl ?_
                    refine lv_goto (tgt := 379) hx hb d_M_next_354 (by decide) ?_
                    refine pf_M_202 hx hb hts hown hK hP hD hS 0 rfl (Nat.le_of_ble_eq_true rfl) d_M_next_379 (fun H locs hP hD hS => ?_)
                    have hP : va_P (dC, dI) CL [(mo, .inr (10, [.int (iI mrf), .ref (ma 0), .int (iI mz), .ref (ma 1), .ref (ma 2), .int (iI mls), .int (iI mfp), .int (iI mfm), .ref (ma 3), .int (iI mtx), .ref (ma 4), .ref (ma 5), .int (iI mwd), .ref (ma 6), .ref (ma 7), .int (iI mak), .ref (ma 8), .ref (ma 9), .int (iI mli), .int (iI mlx), .ref (ma 10), .ref (ma 11), .int (iI b2), .int (iI 4), .int (iI b), .int (iI b2), .int (iI mfa), .int (iI mla), .int (iI mlp), .int (iI mdp), .ref (ma 12), .ref (ma 13), .int (iI msi), .int (iI (bI mdn)), .int (iI mpf), .int (iI mpt)])), (ma 1, .inl (kA 0, 4120, .inl (aI ca)))] H := hP
                    have hD : va_D A [(mo, .inr (10, [.int (iI mrf), .ref (ma 0), .int (iI mz), .ref (ma 1), .ref (ma 2), .int (iI mls), .int (iI mfp), .int (iI mfm), .ref (ma 3), .int (iI mtx), .ref (ma 4), .ref (ma 5), .int (iI mwd), .ref (ma 6), .ref (ma 7), .int (iI mak), .ref (ma 8), .ref (ma 9), .int (iI mli), .int (iI mlx), .ref (ma 10), .ref (ma 11), .int (iI b2), .int (iI 4), .int (iI b), .int (iI b2), .int (iI mfa), .int (iI mla), .int (iI mlp), .int (iI mdp), .ref (ma 12), .ref (ma 13), .int (iI msi), .int (iI (bI mdn)), .int (iI mpf), .int (iI mpt)])), (ma 1, .inl (kA 0, 4120, .inl (aI ca)))] := hD
                    exact fin (b2, 4, b, b2) _ _ _ _ (by show (b2, 4, b, b2) = nxM ca (4000 + mls) mat ∧ (4 = 0 ∨ mat < b2) ∧ mat ≤ b2 ∧ 4000 ≤ b ∧ b ≤ b2 ∧ b2 ≤ b2 ∧ b2 ≤ 4000 + mls ∧ 0 ≤ 4 ∧ 4 ≤ 12; refine ⟨by (unfold nxM; rw [← hed, hsk]; unfold nxB; rw [if_neg (by omega), if_neg (nbt (by rw [← ecx]; assumption)), if_neg (by omega)]; unfold nxS nxK; (repeat (first | rw [if_pos (by omega)] | rw [if_neg (by omega)])); simp only [Prod.mk.injEq, true_and, and_true]; first | done | omega), by omega⟩) (by first | exact hP | (subst_vars; exact hP)) (by first | exact hD | (subst_vars; exact hD)) hS d_M_next_382
              · have _q := c24
                refine lv_iload_n hx hb d_M_next_299 rfl (lv_at hl 0 rfl) ?_
                refine lv_bipush (v := iI 60) hx hb d_M_next_300 (by decide) ?_
                refine li_icmp_eq (tgt := 311) hx hb d_M_next_302 (by decide) (by omega) (by omega) (fun c29 => ?_) (fun c29 => ?_)
                · have _q := c29
                  refine lv_iconst (v := iI 1) hx hb d_M_next_311 rfl ?_
                  refine lv_goto (tgt := 316) hx hb d_M_next_312 (by decide) ?_
                  refine lv_istore_n (lv' := [(3, .int (iI 1)), (2, .int (iI cx)), (0, .ref mo), (1, .int (iI ed))]) hx hb d_M_next_316 rfl hl (by decide) rfl (fun ls hl => ?_)
                  refine lv_aload_n hx hb d_M_next_317 rfl (lv_at hl 2 rfl) ?_
                  refine lv_iload_n hx hb d_M_next_318 rfl (lv_at hl 0 rfl) ?_
                  refine li_if_eq (tgt := 331) hx hb d_M_next_319 (by decide) (by omega) (fun c30 => ?_) (fun c30 => ?_)
                  · have _q := c30
                    exact absurd c30 (by omega)
                  · have _q := c30
                    refine lv_aload_n hx hb d_M_next_322 rfl (lv_at hl 2 rfl) ?_
                    refine gf_M_193 hx hb hts hown hK hP 0 rfl rfl d_M_next_323 ?_
                    refine lv_iconst (v := iI 1) hx hb d_M_next_326 rfl ?_
                    refine li_iadd hx hb d_M_next_327 ?_
                    refine lv_goto (tgt := 335) hx hb d_M_next_328 (by decide) ?_
                    refine li_nm (fun b2 eb2 => ?_)
                    refine pf_M_193 hx hb hts hown hK hP hD hS 0 rfl (Nat.le_of_ble_eq_true rfl) d_M_next_335 (fun H locs hP hD hS => ?_)
                    have hP : va_P (dC, dI) CL [(mo, .inr (10, [.int (iI mrf), .ref (ma 0), .int (iI mz), .ref (ma 1), .ref (ma 2), .int (iI mls), .int (iI mfp), .int (iI mfm), .ref (ma 3), .int (iI mtx), .ref (ma 4), .ref (ma 5), .int (iI mwd), .ref (ma 6), .ref (ma 7), .int (iI mak), .ref (ma 8), .ref (ma 9), .int (iI mli), .int (iI mlx), .ref (ma 10), .ref (ma 11), .int (iI b2), .int (iI mtk), .int (iI b), .int (iI b), .int (iI mfa), .int (iI mla), .int (iI mlp), .int (iI mdp), .ref (ma 12), .ref (ma 13), .int (iI msi), .int (iI (bI mdn)), .int (iI mpf), .int (iI mpt)])), (ma 1, .inl (kA 0, 4120, .inl (aI ca)))] H := hP
                    have hD : va_D A [(mo, .inr (10, [.int (iI mrf), .ref (ma 0), .int (iI mz), .ref (ma 1), .ref (ma 2), .int (iI mls), .int (iI mfp), .int (iI mfm), .ref (ma 3), .int (iI mtx), .ref (ma 4), .ref (ma 5), .int (iI mwd), .ref (ma 6), .ref (ma 7), .int (iI mak), .ref (ma 8), .ref (ma 9), .int (iI mli), .int (iI mlx), .ref (ma 10), .ref (ma 11), .int (iI b2), .int (iI mtk), .int (iI b), .int (iI b), .int (iI mfa), .int (iI mla), .int (iI mlp), .int (iI mdp), .ref (ma 12), .ref (ma 13), .int (iI msi), .int (iI (bI mdn)), .int (iI mpf), .int (iI mpt)])), (ma 1, .inl (kA 0, 4120, .inl (aI ca)))] := hD
                    refine lv_aload_n hx hb d_M_next_338 rfl (lv_at hl 2 rfl) ?_
                    refine lv_aload_n hx hb d_M_next_339 rfl (lv_at hl 2 rfl) ?_
                    refine gf_M_193 hx hb hts hown hK hP 0 rfl rfl d_M_next_340 ?_
                    refine pf_M_199 hx hb hts hown hK hP hD hS 0 rfl (Nat.le_of_ble_eq_true rfl) d_M_next_343 (fun H locs hP hD hS => ?_)
                    have hP : va_P (dC, dI) CL [(mo, .inr (10, [.int (iI mrf), .ref (ma 0), .int (iI mz), .ref (ma 1), .ref (ma 2), .int (iI mls), .int (iI mfp), .int (iI mfm), .ref (ma 3), .int (iI mtx), .ref (ma 4), .ref (ma 5), .int (iI mwd), .ref (ma 6), .ref (ma 7), .int (iI mak), .ref (ma 8), .ref (ma 9), .int (iI mli), .int (iI mlx), .ref (ma 10), .ref (ma 11), .int (iI b2), .int (iI mtk), .int (iI b), .int (iI b2), .int (iI mfa), .int (iI mla), .int (iI mlp), .int (iI mdp), .ref (ma 12), .ref (ma 13), .int (iI msi), .int (iI (bI mdn)), .int (iI mpf), .int (iI mpt)])), (ma 1, .inl (kA 0, 4120, .inl (aI ca)))] H := hP
                    have hD : va_D A [(mo, .inr (10, [.int (iI mrf), .ref (ma 0), .int (iI mz), .ref (ma 1), .ref (ma 2), .int (iI mls), .int (iI mfp), .int (iI mfm), .ref (ma 3), .int (iI mtx), .ref (ma 4), .ref (ma 5), .int (iI mwd), .ref (ma 6), .ref (ma 7), .int (iI mak), .ref (ma 8), .ref (ma 9), .int (iI mli), .int (iI mlx), .ref (ma 10), .ref (ma 11), .int (iI b2), .int (iI mtk), .int (iI b), .int (iI b2), .int (iI mfa), .int (iI mla), .int (iI mlp), .int (iI mdp), .ref (ma 12), .ref (ma 13), .int (iI msi), .int (iI (bI mdn)), .int (iI mpf), .int (iI mpt)])), (ma 1, .inl (kA 0, 4120, .inl (aI ca)))] := hD
                    refine lv_aload_n hx hb d_M_next_346 rfl (lv_at hl 2 rfl) ?_
                    refine lv_iload_n hx hb d_M_next_347 rfl (lv_at hl 1 rfl) ?_
                    refine lv_bipush (v := iI 40) hx hb d_M_next_348 (by decide) ?_
                    refine li_icmp_ne (tgt := 357) hx hb d_M_next_350 (by decide) (by omega) (by omega) (fun c31 => ?_) (fun c31 => ?_)
                    · have _q := c31
                      refine lv_iload_n hx hb d_M_next_357 rfl (lv_at hl 1 rfl) ?_
                      refine lv_bipush (v := iI 41) hx hb d_M_next_358 (by decide) ?_
                      refine li_icmp_ne (tgt := 367) hx hb d_M_next_360 (by decide) (by omega) (by omega) (fun c32 => ?_) (fun c32 => ?_)
                      · have _q := c32
                        refine lv_iload_n hx hb d_M_next_367 rfl (lv_at hl 1 rfl) ?_
                        refine lv_bipush (v := iI 47) hx hb d_M_next_368 (by decide) ?_
                        refine li_icmp_ne (tgt := 378) hx hb d_M_next_370 (by decide) (by omega) (by omega) (fun c33 => ?_) (fun c33 => ?_)
                        · have _q := c33
                          refine lv_iconst (v := iI 3) hx hb d_M_next_378 rfl ?_
                          refine pf_M_202 hx hb hts hown hK hP hD hS 0 rfl (Nat.le_of_ble_eq_true rfl) d_M_next_379 (fun H locs hP hD hS => ?_)
                          have hP : va_P (dC, dI) CL [(mo, .inr (10, [.int (iI mrf), .ref (ma 0), .int (iI mz), .ref (ma 1), .ref (ma 2), .int (iI mls), .int (iI mfp), .int (iI mfm), .ref (ma 3), .int (iI mtx), .ref (ma 4), .ref (ma 5), .int (iI mwd), .ref (ma 6), .ref (ma 7), .int (iI mak), .ref (ma 8), .ref (ma 9), .int (iI mli), .int (iI mlx), .ref (ma 10), .ref (ma 11), .int (iI b2), .int (iI 3), .int (iI b), .int (iI b2), .int (iI mfa), .int (iI mla), .int (iI mlp), .int (iI mdp), .ref (ma 12), .ref (ma 13), .int (iI msi), .int (iI (bI mdn)), .int (iI mpf), .int (iI mpt)])), (ma 1, .inl (kA 0, 4120, .inl (aI ca)))] H := hP
                          have hD : va_D A [(mo, .inr (10, [.int (iI mrf), .ref (ma 0), .int (iI mz), .ref (ma 1), .ref (ma 2), .int (iI mls), .int (iI mfp), .int (iI mfm), .ref (ma 3), .int (iI mtx), .ref (ma 4), .ref (ma 5), .int (iI mwd), .ref (ma 6), .ref (ma 7), .int (iI mak), .ref (ma 8), .ref (ma 9), .int (iI mli), .int (iI mlx), .ref (ma 10), .ref (ma 11), .int (iI b2), .int (iI 3), .int (iI b), .int (iI b2), .int (iI mfa), .int (iI mla), .int (iI mlp), .int (iI mdp), .ref (ma 12), .ref (ma 13), .int (iI msi), .int (iI (bI mdn)), .int (iI mpf), .int (iI mpt)])), (ma 1, .inl (kA 0, 4120, .inl (aI ca)))] := hD
                          exact fin (b2, 3, b, b2) _ _ _ _ (by show (b2, 3, b, b2) = nxM ca (4000 + mls) mat ∧ (3 = 0 ∨ mat < b2) ∧ mat ≤ b2 ∧ 4000 ≤ b ∧ b ≤ b2 ∧ b2 ≤ b2 ∧ b2 ≤ 4000 + mls ∧ 0 ≤ 3 ∧ 3 ≤ 12; refine ⟨by (unfold nxM; rw [← hed, hsk]; unfold nxB; rw [if_neg (by omega), if_neg (nbt (by rw [← ecx]; assumption)), if_neg (by omega)]; unfold nxS nxK; (repeat (first | rw [if_pos (by omega)] | rw [if_neg (by omega)])); simp only [Prod.mk.injEq, true_and, and_true]; first | done | omega), by omega⟩) (by first | exact hP | (subst_vars; exact hP)) (by first | exact hD | (subst_vars; exact hD)) hS d_M_next_382
                        · have _q := c33
                          refine lv_bipush (v := iI 6) hx hb d_M_next_373 (by decide) ?_
                          refine lv_goto (tgt := 379) hx hb d_M_next_375 (by decide) ?_
                          refine pf_M_202 hx hb hts hown hK hP hD hS 0 rfl (Nat.le_of_ble_eq_true rfl) d_M_next_379 (fun H locs hP hD hS => ?_)
                          have hP : va_P (dC, dI) CL [(mo, .inr (10, [.int (iI mrf), .ref (ma 0), .int (iI mz), .ref (ma 1), .ref (ma 2), .int (iI mls), .int (iI mfp), .int (iI mfm), .ref (ma 3), .int (iI mtx), .ref (ma 4), .ref (ma 5), .int (iI mwd), .ref (ma 6), .ref (ma 7), .int (iI mak), .ref (ma 8), .ref (ma 9), .int (iI mli), .int (iI mlx), .ref (ma 10), .ref (ma 11), .int (iI b2), .int (iI 6), .int (iI b), .int (iI b2), .int (iI mfa), .int (iI mla), .int (iI mlp), .int (iI mdp), .ref (ma 12), .ref (ma 13), .int (iI msi), .int (iI (bI mdn)), .int (iI mpf), .int (iI mpt)])), (ma 1, .inl (kA 0, 4120, .inl (aI ca)))] H := hP
                          have hD : va_D A [(mo, .inr (10, [.int (iI mrf), .ref (ma 0), .int (iI mz), .ref (ma 1), .ref (ma 2), .int (iI mls), .int (iI mfp), .int (iI mfm), .ref (ma 3), .int (iI mtx), .ref (ma 4), .ref (ma 5), .int (iI mwd), .ref (ma 6), .ref (ma 7), .int (iI mak), .ref (ma 8), .ref (ma 9), .int (iI mli), .int (iI mlx), .ref (ma 10), .ref (ma 11), .int (iI b2), .int (iI 6), .int (iI b), .int (iI b2), .int (iI mfa), .int (iI mla), .int (iI mlp), .int (iI mdp), .ref (ma 12), .ref (ma 13), .int (iI msi), .int (iI (bI mdn)), .int (iI mpf), .int (iI mpt)])), (ma 1, .inl (kA 0, 4120, .inl (aI ca)))] := hD
                          exact fin (b2, 6, b, b2) _ _ _ _ (by show (b2, 6, b, b2) = nxM ca (4000 + mls) mat ∧ (6 = 0 ∨ mat < b2) ∧ mat ≤ b2 ∧ 4000 ≤ b ∧ b ≤ b2 ∧ b2 ≤ b2 ∧ b2 ≤ 4000 + mls ∧ 0 ≤ 6 ∧ 6 ≤ 12; refine ⟨by (unfold nxM; rw [← hed, hsk]; unfold nxB; rw [if_neg (by omega), if_neg (nbt (by rw [← ecx]; assumption)), if_neg (by omega)]; unfold nxS nxK; (repeat (first | rw [if_pos (by omega)] | rw [if_neg (by omega)])); simp only [Prod.mk.injEq, true_and, and_true]; first | done | omega), by omega⟩) (by first | exact hP | (subst_vars; exact hP)) (by first | exact hD | (subst_vars; exact hD)) hS d_M_next_382
                      · have _q := c32
                        refine lv_iconst (v := iI 5) hx hb d_M_next_363 rfl ?_
                        refine lv_goto (tgt := 379) hx hb d_M_next_364 (by decide) ?_
                        refine pf_M_202 hx hb hts hown hK hP hD hS 0 rfl (Nat.le_of_ble_eq_true rfl) d_M_next_379 (fun H locs hP hD hS => ?_)
                        have hP : va_P (dC, dI) CL [(mo, .inr (10, [.int (iI mrf), .ref (ma 0), .int (iI mz), .ref (ma 1), .ref (ma 2), .int (iI mls), .int (iI mfp), .int (iI mfm), .ref (ma 3), .int (iI mtx), .ref (ma 4), .ref (ma 5), .int (iI mwd), .ref (ma 6), .ref (ma 7), .int (iI mak), .ref (ma 8), .ref (ma 9), .int (iI mli), .int (iI mlx), .ref (ma 10), .ref (ma 11), .int (iI b2), .int (iI 5), .int (iI b), .int (iI b2), .int (iI mfa), .int (iI mla), .int (iI mlp), .int (iI mdp), .ref (ma 12), .ref (ma 13), .int (iI msi), .int (iI (bI mdn)), .int (iI mpf), .int (iI mpt)])), (ma 1, .inl (kA 0, 4120, .inl (aI ca)))] H := hP
                        have hD : va_D A [(mo, .inr (10, [.int (iI mrf), .ref (ma 0), .int (iI mz), .ref (ma 1), .ref (ma 2), .int (iI mls), .int (iI mfp), .int (iI mfm), .ref (ma 3), .int (iI mtx), .ref (ma 4), .ref (ma 5), .int (iI mwd), .ref (ma 6), .ref (ma 7), .int (iI mak), .ref (ma 8), .ref (ma 9), .int (iI mli), .int (iI mlx), .ref (ma 10), .ref (ma 11), .int (iI b2), .int (iI 5), .int (iI b), .int (iI b2), .int (iI mfa), .int (iI mla), .int (iI mlp), .int (iI mdp), .ref (ma 12), .ref (ma 13), .int (iI msi), .int (iI (bI mdn)), .int (iI mpf), .int (iI mpt)])), (ma 1, .inl (kA 0, 4120, .inl (aI ca)))] := hD
                        exact fin (b2, 5, b, b2) _ _ _ _ (by show (b2, 5, b, b2) = nxM ca (4000 + mls) mat ∧ (5 = 0 ∨ mat < b2) ∧ mat ≤ b2 ∧ 4000 ≤ b ∧ b ≤ b2 ∧ b2 ≤ b2 ∧ b2 ≤ 4000 + mls ∧ 0 ≤ 5 ∧ 5 ≤ 12; refine ⟨by (unfold nxM; rw [← hed, hsk]; unfold nxB; rw [if_neg (by omega), if_neg (nbt (by rw [← ecx]; assumption)), if_neg (by omega)]; unfold nxS nxK; (repeat (first | rw [if_pos (by omega)] | rw [if_neg (by omega)])); simp only [Prod.mk.injEq, true_and, and_true]; first | done | omega), by omega⟩) (by first | exact hP | (subst_vars; exact hP)) (by first | exact hD | (subst_vars; exact hD)) hS d_M_next_382
                    · have _q := c31
                      refine lv_iconst (v := iI 4) hx hb d_M_next_353 rfl ?_
                      refine lv_goto (tgt := 379) hx hb d_M_next_354 (by decide) ?_
                      refine pf_M_202 hx hb hts hown hK hP hD hS 0 rfl (Nat.le_of_ble_eq_true rfl) d_M_next_379 (fun H locs hP hD hS => ?_)
                      have hP : va_P (dC, dI) CL [(mo, .inr (10, [.int (iI mrf), .ref (ma 0), .int (iI mz), .ref (ma 1), .ref (ma 2), .int (iI mls), .int (iI mfp), .int (iI mfm), .ref (ma 3), .int (iI mtx), .ref (ma 4), .ref (ma 5), .int (iI mwd), .ref (ma 6), .ref (ma 7), .int (iI mak), .ref (ma 8), .ref (ma 9), .int (iI mli), .int (iI mlx), .ref (ma 10), .ref (ma 11), .int (iI b2), .int (iI 4), .int (iI b), .int (iI b2), .int (iI mfa), .int (iI mla), .int (iI mlp), .int (iI mdp), .ref (ma 12), .ref (ma 13), .int (iI msi), .int (iI (bI mdn)), .int (iI mpf), .int (iI mpt)])), (ma 1, .inl (kA 0, 4120, .inl (aI ca)))] H := hP
                      have hD : va_D A [(mo, .inr (10, [.int (iI mrf), .ref (ma 0), .int (iI mz), .ref (ma 1), .ref (ma 2), .int (iI mls), .int (iI mfp), .int (iI mfm), .ref (ma 3), .int (iI mtx), .ref (ma 4), .ref (ma 5), .int (iI mwd), .ref (ma 6), .ref (ma 7), .int (iI mak), .ref (ma 8), .ref (ma 9), .int (iI mli), .int (iI mlx), .ref (ma 10), .ref (ma 11), .int (iI b2), .int (iI 4), .int (iI b), .int (iI b2), .int (iI mfa), .int (iI mla), .int (iI mlp), .int (iI mdp), .ref (ma 12), .ref (ma 13), .int (iI msi), .int (iI (bI mdn)), .int (iI mpf), .int (iI mpt)])), (ma 1, .inl (kA 0, 4120, .inl (aI ca)))] := hD
                      exact fin (b2, 4, b, b2) _ _ _ _ (by show (b2, 4, b, b2) = nxM ca (4000 + mls) mat ∧ (4 = 0 ∨ mat < b2) ∧ mat ≤ b2 ∧ 4000 ≤ b ∧ b ≤ b2 ∧ b2 ≤ b2 ∧ b2 ≤ 4000 + mls ∧ 0 ≤ 4 ∧ 4 ≤ 12; refine ⟨by (unfold nxM; rw [← hed, hsk]; unfold nxB; rw [if_neg (by omega), if_neg (nbt (by rw [← ecx]; assumption)), if_neg (by omega)]; unfold nxS nxK; (repeat (first | rw [if_pos (by omega)] | rw [if_neg (by omega)])); simp only [Prod.mk.injEq, true_and, and_true]; first | done | omega), by omega⟩) (by first | exact hP | (subst_vars; exact hP)) (by first | exact hD | (subst_vars; exact hD)) hS d_M_next_382
                · have _q := c29
                  refine lv_iload_n hx hb d_M_next_305 rfl (lv_at hl 0 rfl) ?_
                  refine lv_bipush (v := iI 62) hx hb d_M_next_306 (by decide) ?_
                  refine li_icmp_ne (tgt := 315) hx hb d_M_next_308 (by decide) (by omega) (by omega) (fun c34 => ?_) (fun c34 => ?_)
                  · have _q := c34
                    refine lv_iconst (v := iI 0) hx hb d_M_next_315 rfl ?_
                    refine lv_istore_n (lv' := [(3, .int (iI 0)), (2, .int (iI cx)), (0, .ref mo), (1, .int (iI ed))]) hx hb d_M_next_316 rfl hl (by decide) rfl (fun ls hl => ?_)
                    refine lv_aload_n hx hb d_M_next_317 rfl (lv_at hl 2 rfl) ?_
                    refine lv_iload_n hx hb d_M_next_318 rfl (lv_at hl 0 rfl) ?_
                    refine li_if_eq (tgt := 331) hx hb d_M_next_319 (by decide) (by omega) (fun c35 => ?_) (fun c35 => ?_)
                    · have _q := c35
                      refine lv_aload_n hx hb d_M_next_331 rfl (lv_at hl 2 rfl) ?_
                      refine gf_M_193 hx hb hts hown hK hP 0 rfl rfl d_M_next_332 ?_
                      refine pf_M_193 hx hb hts hown hK hP hD hS 0 rfl (Nat.le_of_ble_eq_true rfl) d_M_next_335 (fun H locs hP hD hS => ?_)
                      have hP : va_P (dC, dI) CL [(mo, .inr (10, [.int (iI mrf), .ref (ma 0), .int (iI mz), .ref (ma 1), .ref (ma 2), .int (iI mls), .int (iI mfp), .int (iI mfm), .ref (ma 3), .int (iI mtx), .ref (ma 4), .ref (ma 5), .int (iI mwd), .ref (ma 6), .ref (ma 7), .int (iI mak), .ref (ma 8), .ref (ma 9), .int (iI mli), .int (iI mlx), .ref (ma 10), .ref (ma 11), .int (iI b1), .int (iI mtk), .int (iI b), .int (iI b), .int (iI mfa), .int (iI mla), .int (iI mlp), .int (iI mdp), .ref (ma 12), .ref (ma 13), .int (iI msi), .int (iI (bI mdn)), .int (iI mpf), .int (iI mpt)])), (ma 1, .inl (kA 0, 4120, .inl (aI ca)))] H := hP
                      have hD : va_D A [(mo, .inr (10, [.int (iI mrf), .ref (ma 0), .int (iI mz), .ref (ma 1), .ref (ma 2), .int (iI mls), .int (iI mfp), .int (iI mfm), .ref (ma 3), .int (iI mtx), .ref (ma 4), .ref (ma 5), .int (iI mwd), .ref (ma 6), .ref (ma 7), .int (iI mak), .ref (ma 8), .ref (ma 9), .int (iI mli), .int (iI mlx), .ref (ma 10), .ref (ma 11), .int (iI b1), .int (iI mtk), .int (iI b), .int (iI b), .int (iI mfa), .int (iI mla), .int (iI mlp), .int (iI mdp), .ref (ma 12), .ref (ma 13), .int (iI msi), .int (iI (bI mdn)), .int (iI mpf), .int (iI mpt)])), (ma 1, .inl (kA 0, 4120, .inl (aI ca)))] := hD
                      refine lv_aload_n hx hb d_M_next_338 rfl (lv_at hl 2 rfl) ?_
                      refine lv_aload_n hx hb d_M_next_339 rfl (lv_at hl 2 rfl) ?_
                      refine gf_M_193 hx hb hts hown hK hP 0 rfl rfl d_M_next_340 ?_
                      refine pf_M_199 hx hb hts hown hK hP hD hS 0 rfl (Nat.le_of_ble_eq_true rfl) d_M_next_343 (fun H locs hP hD hS => ?_)
                      have hP : va_P (dC, dI) CL [(mo, .inr (10, [.int (iI mrf), .ref (ma 0), .int (iI mz), .ref (ma 1), .ref (ma 2), .int (iI mls), .int (iI mfp), .int (iI mfm), .ref (ma 3), .int (iI mtx), .ref (ma 4), .ref (ma 5), .int (iI mwd), .ref (ma 6), .ref (ma 7), .int (iI mak), .ref (ma 8), .ref (ma 9), .int (iI mli), .int (iI mlx), .ref (ma 10), .ref (ma 11), .int (iI b1), .int (iI mtk), .int (iI b), .int (iI b1), .int (iI mfa), .int (iI mla), .int (iI mlp), .int (iI mdp), .ref (ma 12), .ref (ma 13), .int (iI msi), .int (iI (bI mdn)), .int (iI mpf), .int (iI mpt)])), (ma 1, .inl (kA 0, 4120, .inl (aI ca)))] H := hP
                      have hD : va_D A [(mo, .inr (10, [.int (iI mrf), .ref (ma 0), .int (iI mz), .ref (ma 1), .ref (ma 2), .int (iI mls), .int (iI mfp), .int (iI mfm), .ref (ma 3), .int (iI mtx), .ref (ma 4), .ref (ma 5), .int (iI mwd), .ref (ma 6), .ref (ma 7), .int (iI mak), .ref (ma 8), .ref (ma 9), .int (iI mli), .int (iI mlx), .ref (ma 10), .ref (ma 11), .int (iI b1), .int (iI mtk), .int (iI b), .int (iI b1), .int (iI mfa), .int (iI mla), .int (iI mlp), .int (iI mdp), .ref (ma 12), .ref (ma 13), .int (iI msi), .int (iI (bI mdn)), .int (iI mpf), .int (iI mpt)])), (ma 1, .inl (kA 0, 4120, .inl (aI ca)))] := hD
                      refine lv_aload_n hx hb d_M_next_346 rfl (lv_at hl 2 rfl) ?_
                      refine lv_iload_n hx hb d_M_next_347 rfl (lv_at hl 1 rfl) ?_
                      refine lv_bipush (v := iI 40) hx hb d_M_next_348 (by decide) ?_
                      refine li_icmp_ne (tgt := 357) hx hb d_M_next_350 (by decide) (by omega) (by omega) (fun c36 => ?_) (fun c36 => ?_)
                      · have _q := c36
                        refine lv_iload_n hx hb d_M_next_357 rfl (lv_at hl 1 rfl) ?_
                        refine lv_bipush (v := iI 41) hx hb d_M_next_358 (by decide) ?_
                        refine li_icmp_ne (tgt := 367) hx hb d_M_next_360 (by decide) (by omega) (by omega) (fun c37 => ?_) (fun c37 => ?_)
                        · have _q := c37
                          refine lv_iload_n hx hb d_M_next_367 rfl (lv_at hl 1 rfl) ?_
                          refine lv_bipush (v := iI 47) hx hb d_M_next_368 (by decide) ?_
                          refine li_icmp_ne (tgt := 378) hx hb d_M_next_370 (by decide) (by omega) (by omega) (fun c38 => ?_) (fun c38 => ?_)
                          · have _q := c38
                            refine lv_iconst (v := iI 3) hx hb d_M_next_378 rfl ?_
                            refine pf_M_202 hx hb hts hown hK hP hD hS 0 rfl (Nat.le_of_ble_eq_true rfl) d_M_next_379 (fun H locs hP hD hS => ?_)
                            have hP : va_P (dC, dI) CL [(mo, .inr (10, [.int (iI mrf), .ref (ma 0), .int (iI mz), .ref (ma 1), .ref (ma 2), .int (iI mls), .int (iI mfp), .int (iI mfm), .ref (ma 3), .int (iI mtx), .ref (ma 4), .ref (ma 5), .int (iI mwd), .ref (ma 6), .ref (ma 7), .int (iI mak), .ref (ma 8), .ref (ma 9), .int (iI mli), .int (iI mlx), .ref (ma 10), .ref (ma 11), .int (iI b1), .int (iI 3), .int (iI b), .int (iI b1), .int (iI mfa), .int (iI mla), .int (iI mlp), .int (iI mdp), .ref (ma 12), .ref (ma 13), .int (iI msi), .int (iI (bI mdn)), .int (iI mpf), .int (iI mpt)])), (ma 1, .inl (kA 0, 4120, .inl (aI ca)))] H := hP
                            have hD : va_D A [(mo, .inr (10, [.int (iI mrf), .ref (ma 0), .int (iI mz), .ref (ma 1), .ref (ma 2), .int (iI mls), .int (iI mfp), .int (iI mfm), .ref (ma 3), .int (iI mtx), .ref (ma 4), .ref (ma 5), .int (iI mwd), .ref (ma 6), .ref (ma 7), .int (iI mak), .ref (ma 8), .ref (ma 9), .int (iI mli), .int (iI mlx), .ref (ma 10), .ref (ma 11), .int (iI b1), .int (iI 3), .int (iI b), .int (iI b1), .int (iI mfa), .int (iI mla), .int (iI mlp), .int (iI mdp), .ref (ma 12), .ref (ma 13), .int (iI msi), .int (iI (bI mdn)), .int (iI mpf), .int (iI mpt)])), (ma 1, .inl (kA 0, 4120, .inl (aI ca)))] := hD
                            exact fin (b1, 3, b, b1) _ _ _ _ (by show (b1, 3, b, b1) = nxM ca (4000 + mls) mat ∧ (3 = 0 ∨ mat < b1) ∧ mat ≤ b1 ∧ 4000 ≤ b ∧ b ≤ b1 ∧ b1 ≤ b1 ∧ b1 ≤ 4000 + mls ∧ 0 ≤ 3 ∧ 3 ≤ 12; refine ⟨by (unfold nxM; rw [← hed, hsk]; unfold nxB; rw [if_neg (by omega), if_neg (nbt (by rw [← ecx]; assumption)), if_neg (by omega)]; unfold nxS nxK; (repeat (first | rw [if_pos (by omega)] | rw [if_neg (by omega)])); simp only [Prod.mk.injEq, true_and, and_true]; first | done | omega), by omega⟩) (by first | exact hP | (subst_vars; exact hP)) (by first | exact hD | (subst_vars; exact hD)) hS d_M_next_382
                          · have _q := c38
                            refine lv_bipush (v := iI 6) hx hb d_M_next_373 (by decide) ?_
                            refine lv_goto (tgt := 379) hx hb d_M_next_375 (by decide) ?_
                            refine pf_M_202 hx hb hts hown hK hP hD hS 0 rfl (Nat.le_of_ble_eq_true rfl) d_M_next_379 (fun H locs hP hD hS => ?_)
                            have hP : va_P (dC, dI) CL [(mo, .inr (10, [.int (iI mrf), .ref (ma 0), .int (iI mz), .ref (ma 1), .ref (ma 2), .int (iI mls), .int (iI mfp), .int (iI mfm), .ref (ma 3), .int (iI mtx), .ref (ma 4), .ref (ma 5), .int (iI mwd), .ref (ma 6), .ref (ma 7), .int (iI mak), .ref (ma 8), .ref (ma 9), .int (iI mli), .int (iI mlx), .ref (ma 10), .ref (ma 11), .int (iI b1), .int (iI 6), .int (iI b), .int (iI b1), .int (iI mfa), .int (iI mla), .int (iI mlp), .int (iI mdp), .ref (ma 12), .ref (ma 13), .int (iI msi), .int (iI (bI mdn)), .int (iI mpf), .int (iI mpt)])), (ma 1, .inl (kA 0, 4120, .inl (aI ca)))] H := hP
                            have hD : va_D A [(mo, .inr (10, [.int (iI mrf), .ref (ma 0), .int (iI mz), .ref (ma 1), .ref (ma 2), .int (iI mls), .int (iI mfp), .int (iI mfm), .ref (ma 3), .int (iI mtx), .ref (ma 4), .ref (ma 5), .int (iI mwd), .ref (ma 6), .ref (ma 7), .int (iI mak), .ref (ma 8), .ref (ma 9), .int (iI mli), .int (iI mlx), .ref (ma 10), .ref (ma 11), .int (iI b1), .int (iI 6), .int (iI b), .int (iI b1), .int (iI mfa), .int (iI mla), .int (iI mlp), .int (iI mdp), .ref (ma 12), .ref (ma 13), .int (iI msi), .int (iI (bI mdn)), .int (iI mpf), .int (iI mpt)])), (ma 1, .inl (kA 0, 4120, .inl (aI ca)))] := hD
                            exact fin (b1, 6, b, b1) _ _ _ _ (by show (b1, 6, b, b1) = nxM ca (4000 + mls) mat ∧ (6 = 0 ∨ mat < b1) ∧ mat ≤ b1 ∧ 4000 ≤ b ∧ b ≤ b1 ∧ b1 ≤ b1 ∧ b1 ≤ 4000 + mls ∧ 0 ≤ 6 ∧ 6 ≤ 12; refine ⟨by (unfold nxM; rw [← hed, hsk]; unfold nxB; rw [if_neg (by omega), if_neg (nbt (by rw [← ecx]; assumption)), if_neg (by omega)]; unfold nxS nxK; (repeat (first | rw [if_pos (by omega)] | rw [if_neg (by omega)])); simp only [Prod.mk.injEq, true_and, and_true]; first | done | omega), by omega⟩) (by first | exact hP | (subst_vars; exact hP)) (by first | exact hD | (subst_vars; exact hD)) hS d_M_next_382
                        · have _q := c37
                          refine lv_iconst (v := iI 5) hx hb d_M_next_363 rfl ?_
                          refine lv_goto (tgt := 379) hx hb d_M_next_364 (by decide) ?_
                          refine pf_M_202 hx hb hts hown hK hP hD hS 0 rfl (Nat.le_of_ble_eq_true rfl) d_M_next_379 (fun H locs hP hD hS => ?_)
                          have hP : va_P (dC, dI) CL [(mo, .inr (10, [.int (iI mrf), .ref (ma 0), .int (iI mz), .ref (ma 1), .ref (ma 2), .int (iI mls), .int (iI mfp), .int (iI mfm), .ref (ma 3), .int (iI mtx), .ref (ma 4), .ref (ma 5), .int (iI mwd), .ref (ma 6), .ref (ma 7), .int (iI mak), .ref (ma 8), .ref (ma 9), .int (iI mli), .int (iI mlx), .ref (ma 10), .ref (ma 11), .int (iI b1), .int (iI 5), .int (iI b), .int (iI b1), .int (iI mfa), .int (iI mla), .int (iI mlp), .int (iI mdp), .ref (ma 12), .ref (ma 13), .int (iI msi), .int (iI (bI mdn)), .int (iI mpf), .int (iI mpt)])), (ma 1, .inl (kA 0, 4120, .inl (aI ca)))] H := hP
                          have hD : va_D A [(mo, .inr (10, [.int (iI mrf), .ref (ma 0), .int (iI mz), .ref (ma 1), .ref (ma 2), .int (iI mls), .int (iI mfp), .int (iI mfm), .ref (ma 3), .int (iI mtx), .ref (ma 4), .ref (ma 5), .int (iI mwd), .ref (ma 6), .ref (ma 7), .int (iI mak), .ref (ma 8), .ref (ma 9), .int (iI mli), .int (iI mlx), .ref (ma 10), .ref (ma 11), .int (iI b1), .int (iI 5), .int (iI b), .int (iI b1), .int (iI mfa), .int (iI mla), .int (iI mlp), .int (iI mdp), .ref (ma 12), .ref (ma 13), .int (iI msi), .int (iI (bI mdn)), .int (iI mpf), .int (iI mpt)])), (ma 1, .inl (kA 0, 4120, .inl (aI ca)))] := hD
                          exact fin (b1, 5, b, b1) _ _ _ _ (by show (b1, 5, b, b1) = nxM ca (4000 + mls) mat ∧ (5 = 0 ∨ mat < b1) ∧ mat ≤ b1 ∧ 4000 ≤ b ∧ b ≤ b1 ∧ b1 ≤ b1 ∧ b1 ≤ 4000 + mls ∧ 0 ≤ 5 ∧ 5 ≤ 12; refine ⟨by (unfold nxM; rw [← hed, hsk]; unfold nxB; rw [if_neg (by omega), if_neg (nbt (by rw [← ecx]; assumption)), if_neg (by omega)]; unfold nxS nxK; (repeat (first | rw [if_pos (by omega)] | rw [if_neg (by omega)])); simp only [Prod.mk.injEq, true_and, and_true]; first | done | omega), by omega⟩) (by first | exact hP | (subst_vars; exact hP)) (by first | exact hD | (subst_vars; exact hD)) hS d_M_next_382
                      · have _q := c36
                        refine lv_iconst (v := iI 4) hx hb d_M_next_353 rfl ?_
                        refine lv_goto (tgt := 379) hx hb d_M_next_354 (by decide) ?_
                        refine pf_M_202 hx hb hts hown hK hP hD hS 0 rfl (Nat.le_of_ble_eq_true rfl) d_M_next_379 (fun H locs hP hD hS => ?_)
                        have hP : va_P (dC, dI) CL [(mo, .inr (10, [.int (iI mrf), .ref (ma 0), .int (iI mz), .ref (ma 1), .ref (ma 2), .int (iI mls), .int (iI mfp), .int (iI mfm), .ref (ma 3), .int (iI mtx), .ref (ma 4), .ref (ma 5), .int (iI mwd), .ref (ma 6), .ref (ma 7), .int (iI mak), .ref (ma 8), .ref (ma 9), .int (iI mli), .int (iI mlx), .ref (ma 10), .ref (ma 11), .int (iI b1), .int (iI 4), .int (iI b), .int (iI b1), .int (iI mfa), .int (iI mla), .int (iI mlp), .int (iI mdp), .ref (ma 12), .ref (ma 13), .int (iI msi), .int (iI (bI mdn)), .int (iI mpf), .int (iI mpt)])), (ma 1, .inl (kA 0, 4120, .inl (aI ca)))] H := hP
                        have hD : va_D A [(mo, .inr (10, [.int (iI mrf), .ref (ma 0), .int (iI mz), .ref (ma 1), .ref (ma 2), .int (iI mls), .int (iI mfp), .int (iI mfm), .ref (ma 3), .int (iI mtx), .ref (ma 4), .ref (ma 5), .int (iI mwd), .ref (ma 6), .ref (ma 7), .int (iI mak), .ref (ma 8), .ref (ma 9), .int (iI mli), .int (iI mlx), .ref (ma 10), .ref (ma 11), .int (iI b1), .int (iI 4), .int (iI b), .int (iI b1), .int (iI mfa), .int (iI mla), .int (iI mlp), .int (iI mdp), .ref (ma 12), .ref (ma 13), .int (iI msi), .int (iI (bI mdn)), .int (iI mpf), .int (iI mpt)])), (ma 1, .inl (kA 0, 4120, .inl (aI ca)))] := hD
                        exact fin (b1, 4, b, b1) _ _ _ _ (by show (b1, 4, b, b1) = nxM ca (4000 + mls) mat ∧ (4 = 0 ∨ mat < b1) ∧ mat ≤ b1 ∧ 4000 ≤ b ∧ b ≤ b1 ∧ b1 ≤ b1 ∧ b1 ≤ 4000 + mls ∧ 0 ≤ 4 ∧ 4 ≤ 12; refine ⟨by (unfold nxM; rw [← hed, hsk]; unfold nxB; rw [if_neg (by omega), if_neg (nbt (by rw [← ecx]; assumption)), if_neg (by omega)]; unfold nxS nxK; (repeat (first | rw [if_pos (by omega)] | rw [if_neg (by omega)])); simp only [Prod.mk.injEq, true_and, and_true]; first | done | omega), by omega⟩) (by first | exact hP | (subst_vars; exact hP)) (by first | exact hD | (subst_vars; exact hD)) hS d_M_next_382
                    · have _q := c35
                      exact absurd c35 (by omega)
                  · have _q := c34
                    refine lv_iconst (v := iI 1) hx hb d_M_next_311 rfl ?_
                    refine lv_goto (tgt := 316) hx hb d_M_next_312 (by decide) ?_
                    refine lv_istore_n (lv' := [(3, .int (iI 1)), (2, .int (iI cx)), (0, .ref mo), (1, .int (iI ed))]) hx hb d_M_next_316 rfl hl (by decide) rfl (fun ls hl => ?_)
                    refine lv_aload_n hx hb d_M_next_317 rfl (lv_at hl 2 rfl) ?_
                    refine lv_iload_n hx hb d_M_next_318 rfl (lv_at hl 0 rfl) ?_
                    refine li_if_eq (tgt := 331) hx hb d_M_next_319 (by decide) (by omega) (fun c39 => ?_) (fun c39 => ?_)
                    · have _q := c39
                      exact absurd c39 (by omega)
                    · have _q := c39
                      refine lv_aload_n hx hb d_M_next_322 rfl (lv_at hl 2 rfl) ?_
                      refine gf_M_193 hx hb hts hown hK hP 0 rfl rfl d_M_next_323 ?_
                      refine lv_iconst (v := iI 1) hx hb d_M_next_326 rfl ?_
                      refine li_iadd hx hb d_M_next_327 ?_
                      refine lv_goto (tgt := 335) hx hb d_M_next_328 (by decide) ?_
                      refine li_nm (fun b2 eb2 => ?_)
                      refine pf_M_193 hx hb hts hown hK hP hD hS 0 rfl (Nat.le_of_ble_eq_true rfl) d_M_next_335 (fun H locs hP hD hS => ?_)
                      have hP : va_P (dC, dI) CL [(mo, .inr (10, [.int (iI mrf), .ref (ma 0), .int (iI mz), .ref (ma 1), .ref (ma 2), .int (iI mls), .int (iI mfp), .int (iI mfm), .ref (ma 3), .int (iI mtx), .ref (ma 4), .ref (ma 5), .int (iI mwd), .ref (ma 6), .ref (ma 7), .int (iI mak), .ref (ma 8), .ref (ma 9), .int (iI mli), .int (iI mlx), .ref (ma 10), .ref (ma 11), .int (iI b2), .int (iI mtk), .int (iI b), .int (iI b), .int (iI mfa), .int (iI mla), .int (iI mlp), .int (iI mdp), .ref (ma 12), .ref (ma 13), .int (iI msi), .int (iI (bI mdn)), .int (iI mpf), .int (iI mpt)])), (ma 1, .inl (kA 0, 4120, .inl (aI ca)))] H := hP
                      have hD : va_D A [(mo, .inr (10, [.int (iI mrf), .ref (ma 0), .int (iI mz), .ref (ma 1), .ref (ma 2), .int (iI mls), .int (iI mfp), .int (iI mfm), .ref (ma 3), .int (iI mtx), .ref (ma 4), .ref (ma 5), .int (iI mwd), .ref (ma 6), .ref (ma 7), .int (iI mak), .ref (ma 8), .ref (ma 9), .int (iI mli), .int (iI mlx), .ref (ma 10), .ref (ma 11), .int (iI b2), .int (iI mtk), .int (iI b), .int (iI b), .int (iI mfa), .int (iI mla), .int (iI mlp), .int (iI mdp), .ref (ma 12), .ref (ma 13), .int (iI msi), .int (iI (bI mdn)), .int (iI mpf), .int (iI mpt)])), (ma 1, .inl (kA 0, 4120, .inl (aI ca)))] := hD
                      refine lv_aload_n hx hb d_M_next_338 rfl (lv_at hl 2 rfl) ?_
                      refine lv_aload_n hx hb d_M_next_339 rfl (lv_at hl 2 rfl) ?_
                      refine gf_M_193 hx hb hts hown hK hP 0 rfl rfl d_M_next_340 ?_
                      refine pf_M_199 hx hb hts hown hK hP hD hS 0 rfl (Nat.le_of_ble_eq_true rfl) d_M_next_343 (fun H locs hP hD hS => ?_)
                      have hP : va_P (dC, dI) CL [(mo, .inr (10, [.int (iI mrf), .ref (ma 0), .int (iI mz), .ref (ma 1), .ref (ma 2), .int (iI mls), .int (iI mfp), .int (iI mfm), .ref (ma 3), .int (iI mtx), .ref (ma 4), .ref (ma 5), .int (iI mwd), .ref (ma 6), .ref (ma 7), .int (iI mak), .ref (ma 8), .ref (ma 9), .int (iI mli), .int (iI mlx), .ref (ma 10), .ref (ma 11), .int (iI b2), .int (iI mtk), .int (iI b), .int (iI b2), .int (iI mfa), .int (iI mla), .int (iI mlp), .int (iI mdp), .ref (ma 12), .ref (ma 13), .int (iI msi), .int (iI (bI mdn)), .int (iI mpf), .int (iI mpt)])), (ma 1, .inl (kA 0, 4120, .inl (aI ca)))] H := hP
                      have hD : va_D A [(mo, .inr (10, [.int (iI mrf), .ref (ma 0), .int (iI mz), .ref (ma 1), .ref (ma 2), .int (iI mls), .int (iI mfp), .int (iI mfm), .ref (ma 3), .int (iI mtx), .ref (ma 4), .ref (ma 5), .int (iI mwd), .ref (ma 6), .ref (ma 7), .int (iI mak), .ref (ma 8), .ref (ma 9), .int (iI mli), .int (iI mlx), .ref (ma 10), .ref (ma 11), .int (iI b2), .int (iI mtk), .int (iI b), .int (iI b2), .int (iI mfa), .int (iI mla), .int (iI mlp), .int (iI mdp), .ref (ma 12), .ref (ma 13), .int (iI msi), .int (iI (bI mdn)), .int (iI mpf), .int (iI mpt)])), (ma 1, .inl (kA 0, 4120, .inl (aI ca)))] := hD
                      refine lv_aload_n hx hb d_M_next_346 rfl (lv_at hl 2 rfl) ?_
                      refine lv_iload_n hx hb d_M_next_347 rfl (lv_at hl 1 rfl) ?_
                      refine lv_bipush (v := iI 40) hx hb d_M_next_348 (by decide) ?_
                      refine li_icmp_ne (tgt := 357) hx hb d_M_next_350 (by decide) (by omega) (by omega) (fun c40 => ?_) (fun c40 => ?_)
                      · have _q := c40
                        refine lv_iload_n hx hb d_M_next_357 rfl (lv_at hl 1 rfl) ?_
                        refine lv_bipush (v := iI 41) hx hb d_M_next_358 (by decide) ?_
                        refine li_icmp_ne (tgt := 367) hx hb d_M_next_360 (by decide) (by omega) (by omega) (fun c41 => ?_) (fun c41 => ?_)
                        · have _q := c41
                          refine lv_iload_n hx hb d_M_next_367 rfl (lv_at hl 1 rfl) ?_
                          refine lv_bipush (v := iI 47) hx hb d_M_next_368 (by decide) ?_
                          refine li_icmp_ne (tgt := 378) hx hb d_M_next_370 (by decide) (by omega) (by omega) (fun c42 => ?_) (fun c42 => ?_)
                          · have _q := c42
                            refine lv_iconst (v := iI 3) hx hb d_M_next_378 rfl ?_
                            refine pf_M_202 hx hb hts hown hK hP hD hS 0 rfl (Nat.le_of_ble_eq_true rfl) d_M_next_379 (fun H locs hP hD hS => ?_)
                            have hP : va_P (dC, dI) CL [(mo, .inr (10, [.int (iI mrf), .ref (ma 0), .int (iI mz), .ref (ma 1), .ref (ma 2), .int (iI mls), .int (iI mfp), .int (iI mfm), .ref (ma 3), .int (iI mtx), .ref (ma 4), .ref (ma 5), .int (iI mwd), .ref (ma 6), .ref (ma 7), .int (iI mak), .ref (ma 8), .ref (ma 9), .int (iI mli), .int (iI mlx), .ref (ma 10), .ref (ma 11), .int (iI b2), .int (iI 3), .int (iI b), .int (iI b2), .int (iI mfa), .int (iI mla), .int (iI mlp), .int (iI mdp), .ref (ma 12), .ref (ma 13), .int (iI msi), .int (iI (bI mdn)), .int (iI mpf), .int (iI mpt)])), (ma 1, .inl (kA 0, 4120, .inl (aI ca)))] H := hP
                            have hD : va_D A [(mo, .inr (10, [.int (iI mrf), .ref (ma 0), .int (iI mz), .ref (ma 1), .ref (ma 2), .int (iI mls), .int (iI mfp), .int (iI mfm), .ref (ma 3), .int (iI mtx), .ref (ma 4), .ref (ma 5), .int (iI mwd), .ref (ma 6), .ref (ma 7), .int (iI mak), .ref (ma 8), .ref (ma 9), .int (iI mli), .int (iI mlx), .ref (ma 10), .ref (ma 11), .int (iI b2), .int (iI 3), .int (iI b), .int (iI b2), .int (iI mfa), .int (iI mla), .int (iI mlp), .int (iI mdp), .ref (ma 12), .ref (ma 13), .int (iI msi), .int (iI (bI mdn)), .int (iI mpf), .int (iI mpt)])), (ma 1, .inl (kA 0, 4120, .inl (aI ca)))] := hD
                            exact fin (b2, 3, b, b2) _ _ _ _ (by show (b2, 3, b, b2) = nxM ca (4000 + mls) mat ∧ (3 = 0 ∨ mat < b2) ∧ mat ≤ b2 ∧ 4000 ≤ b ∧ b ≤ b2 ∧ b2 ≤ b2 ∧ b2 ≤ 4000 + mls ∧ 0 ≤ 3 ∧ 3 ≤ 12; refine ⟨by (unfold nxM; rw [← hed, hsk]; unfold nxB; rw [if_neg (by omega), if_neg (nbt (by rw [← ecx]; assumption)), if_neg (by omega)]; unfold nxS nxK; (repeat (first | rw [if_pos (by omega)] | rw [if_neg (by omega)])); simp only [Prod.mk.injEq, true_and, and_true]; first | done | omega), by omega⟩) (by first | exact hP | (subst_vars; exact hP)) (by first | exact hD | (subst_vars; exact hD)) hS d_M_next_382
                          · have _q := c42
                            refine lv_bipush (v := iI 6) hx hb d_M_next_373 (by decide) ?_
                            refine lv_goto (tgt := 379) hx hb d_M_next_375 (by decide) ?_
                            refine pf_M_202 hx hb hts hown hK hP hD hS 0 rfl (Nat.le_of_ble_eq_true rfl) d_M_next_379 (fun H locs hP hD hS => ?_)
                            have hP : va_P (dC, dI) CL [(mo, .inr (10, [.int (iI mrf), .ref (ma 0), .int (iI mz), .ref (ma 1), .ref (ma 2), .int (iI mls), .int (iI mfp), .int (iI mfm), .ref (ma 3), .int (iI mtx), .ref (ma 4), .ref (ma 5), .int (iI mwd), .ref (ma 6), .ref (ma 7), .int (iI mak), .ref (ma 8), .ref (ma 9), .int (iI mli), .int (iI mlx), .ref (ma 10), .ref (ma 11), .int (iI b2), .int (iI 6), .int (iI b), .int (iI b2), .int (iI mfa), .int (iI mla), .int (iI mlp), .int (iI mdp), .ref (ma 12), .ref (ma 13), .int (iI msi), .int (iI (bI mdn)), .int (iI mpf), .int (iI mpt)])), (ma 1, .inl (kA 0, 4120, .inl (aI ca)))] H := hP
                            have hD : va_D A [(mo, .inr (10, [.int (iI mrf), .ref (ma 0), .int (iI mz), .ref (ma 1), .ref (ma 2), .int (iI mls), .int (iI mfp), .int (iI mfm), .ref (ma 3), .int (iI mtx), .ref (ma 4), .ref (ma 5), .int (iI mwd), .ref (ma 6), .ref (ma 7), .int (iI mak), .ref (ma 8), .ref (ma 9), .int (iI mli), .int (iI mlx), .ref (ma 10), .ref (ma 11), .int (iI b2), .int (iI 6), .int (iI b), .int (iI b2), .int (iI mfa), .int (iI mla), .int (iI mlp), .int (iI mdp), .ref (ma 12), .ref (ma 13), .int (iI msi), .int (iI (bI mdn)), .int (iI mpf), .int (iI mpt)])), (ma 1, .inl (kA 0, 4120, .inl (aI ca)))] := hD
                            exact fin (b2, 6, b, b2) _ _ _ _ (by show (b2, 6, b, b2) = nxM ca (4000 + mls) mat ∧ (6 = 0 ∨ mat < b2) ∧ mat ≤ b2 ∧ 4000 ≤ b ∧ b ≤ b2 ∧ b2 ≤ b2 ∧ b2 ≤ 4000 + mls ∧ 0 ≤ 6 ∧ 6 ≤ 12; refine ⟨by (unfold nxM; rw [← hed, hsk]; unfold nxB; rw [if_neg (by omega), if_neg (nbt (by rw [← ecx]; assumption)), if_neg (by omega)]; unfold nxS nxK; (repeat (first | rw [if_pos (by omega)] | rw [if_neg (by omega)])); simp only [Prod.mk.injEq, true_and, and_true]; first | done | omega), by omega⟩) (by first | exact hP | (subst_vars; exact hP)) (by first | exact hD | (subst_vars; exact hD)) hS d_M_next_382
                        · have _q := c41
                          refine lv_iconst (v := iI 5) hx hb d_M_next_363 rfl ?_
                          refine lv_goto (tgt := 379) hx hb d_M_next_364 (by decide) ?_
                          refine pf_M_202 hx hb hts hown hK hP hD hS 0 rfl (Nat.le_of_ble_eq_true rfl) d_M_next_379 (fun H locs hP hD hS => ?_)
                          have hP : va_P (dC, dI) CL [(mo, .inr (10, [.int (iI mrf), .ref (ma 0), .int (iI mz), .ref (ma 1), .ref (ma 2), .int (iI mls), .int (iI mfp), .int (iI mfm), .ref (ma 3), .int (iI mtx), .ref (ma 4), .ref (ma 5), .int (iI mwd), .ref (ma 6), .ref (ma 7), .int (iI mak), .ref (ma 8), .ref (ma 9), .int (iI mli), .int (iI mlx), .ref (ma 10), .ref (ma 11), .int (iI b2), .int (iI 5), .int (iI b), .int (iI b2), .int (iI mfa), .int (iI mla), .int (iI mlp), .int (iI mdp), .ref (ma 12), .ref (ma 13), .int (iI msi), .int (iI (bI mdn)), .int (iI mpf), .int (iI mpt)])), (ma 1, .inl (kA 0, 4120, .inl (aI ca)))] H := hP
                          have hD : va_D A [(mo, .inr (10, [.int (iI mrf), .ref (ma 0), .int (iI mz), .ref (ma 1), .ref (ma 2), .int (iI mls), .int (iI mfp), .int (iI mfm), .ref (ma 3), .int (iI mtx), .ref (ma 4), .ref (ma 5), .int (iI mwd), .ref (ma 6), .ref (ma 7), .int (iI mak), .ref (ma 8), .ref (ma 9), .int (iI mli), .int (iI mlx), .ref (ma 10), .ref (ma 11), .int (iI b2), .int (iI 5), .int (iI b), .int (iI b2), .int (iI mfa), .int (iI mla), .int (iI mlp), .int (iI mdp), .ref (ma 12), .ref (ma 13), .int (iI msi), .int (iI (bI mdn)), .int (iI mpf), .int (iI mpt)])), (ma 1, .inl (kA 0, 4120, .inl (aI ca)))] := hD
                          exact fin (b2, 5, b, b2) _ _ _ _ (by show (b2, 5, b, b2) = nxM ca (4000 + mls) mat ∧ (5 = 0 ∨ mat < b2) ∧ mat ≤ b2 ∧ 4000 ≤ b ∧ b ≤ b2 ∧ b2 ≤ b2 ∧ b2 ≤ 4000 + mls ∧ 0 ≤ 5 ∧ 5 ≤ 12; refine ⟨by (unfold nxM; rw [← hed, hsk]; unfold nxB; rw [if_neg (by omega), if_neg (nbt (by rw [← ecx]; assumption)), if_neg (by omega)]; unfold nxS nxK; (repeat (first | rw [if_pos (by omega)] | rw [if_neg (by omega)])); simp only [Prod.mk.injEq, true_and, and_true]; first | done | omega), by omega⟩) (by first | exact hP | (subst_vars; exact hP)) (by first | exact hD | (subst_vars; exact hD)) hS d_M_next_382
                      · have _q := c40
                        refine lv_iconst (v := iI 4) hx hb d_M_next_353 rfl ?_
                        refine lv_goto (tgt := 379) hx hb d_M_next_354 (by decide) ?_
                        refine pf_M_202 hx hb hts hown hK hP hD hS 0 rfl (Nat.le_of_ble_eq_true rfl) d_M_next_379 (fun H locs hP hD hS => ?_)
                        have hP : va_P (dC, dI) CL [(mo, .inr (10, [.int (iI mrf), .ref (ma 0), .int (iI mz), .ref (ma 1), .ref (ma 2), .int (iI mls), .int (iI mfp), .int (iI mfm), .ref (ma 3), .int (iI mtx), .ref (ma 4), .ref (ma 5), .int (iI mwd), .ref (ma 6), .ref (ma 7), .int (iI mak), .ref (ma 8), .ref (ma 9), .int (iI mli), .int (iI mlx), .ref (ma 10), .ref (ma 11), .int (iI b2), .int (iI 4), .int (iI b), .int (iI b2), .int (iI mfa), .int (iI mla), .int (iI mlp), .int (iI mdp), .ref (ma 12), .ref (ma 13), .int (iI msi), .int (iI (bI mdn)), .int (iI mpf), .int (iI mpt)])), (ma 1, .inl (kA 0, 4120, .inl (aI ca)))] H := hP
                        have hD : va_D A [(mo, .inr (10, [.int (iI mrf), .ref (ma 0), .int (iI mz), .ref (ma 1), .ref (ma 2), .int (iI mls), .int (iI mfp), .int (iI mfm), .ref (ma 3), .int (iI mtx), .ref (ma 4), .ref (ma 5), .int (iI mwd), .ref (ma 6), .ref (ma 7), .int (iI mak), .ref (ma 8), .ref (ma 9), .int (iI mli), .int (iI mlx), .ref (ma 10), .ref (ma 11), .int (iI b2), .int (iI 4), .int (iI b), .int (iI b2), .int (iI mfa), .int (iI mla), .int (iI mlp), .int (iI mdp), .ref (ma 12), .ref (ma 13), .int (iI msi), .int (iI (bI mdn)), .int (iI mpf), .int (iI mpt)])), (ma 1, .inl (kA 0, 4120, .inl (aI ca)))] := hD
                        exact fin (b2, 4, b, b2) _ _ _ _ (by show (b2, 4, b, b2) = nxM ca (4000 + mls) mat ∧ (4 = 0 ∨ mat < b2) ∧ mat ≤ b2 ∧ 4000 ≤ b ∧ b ≤ b2 ∧ b2 ≤ b2 ∧ b2 ≤ 4000 + mls ∧ 0 ≤ 4 ∧ 4 ≤ 12; refine ⟨by (unfold nxM; rw [← hed, hsk]; unfold nxB; rw [if_neg (by omega), if_neg (nbt (by rw [← ecx]; assumption)), if_neg (by omega)]; unfold nxS nxK; (repeat (first | rw [if_pos (by omega)] | rw [if_neg (by omega)])); simp only [Prod.mk.injEq, true_and, and_true]; first | done | omega), by omega⟩) (by first | exact hP | (subst_vars; exact hP)) (by first | exact hD | (subst_vars; exact hD)) hS d_M_next_382
        · have _q := c12
          refine lv_aload_n hx hb d_M_next_265 rfl (lv_at hl 1 rfl) ?_
          refine lv_iload_n hx hb d_M_next_266 rfl (lv_at hl 2 rfl) ?_
          refine li_callw (wc := [(mo, .inr (10, [.int (iI mrf), .ref (ma 0), .int (iI mz), .ref (ma 1), .ref (ma 2), .int (iI mls), .int (iI mfp), .int (iI mfm), .ref (ma 3), .int (iI mtx), .ref (ma 4), .ref (ma 5), .int (iI mwd), .ref (ma 6), .ref (ma 7), .int (iI mak), .ref (ma 8), .ref (ma 9), .int (iI mli), .int (iI mlx), .ref (ma 10), .ref (ma 11), .int (iI b1), .int (iI mtk), .int (iI b), .int (iI b), .int (iI mfa), .int (iI mla), .int (iI mlp), .int (iI mdp), .ref (ma 12), .ref (ma 13), .int (iI msi), .int (iI (bI mdn)), .int (iI mpf), .int (iI mpt)])), (ma 1, .inl (kA 0, 4120, .inl (aI ca)))]) (wr := []) (va_runV (As := [.int (iI ed)]) (rest := []) ⟨hx, hb, hml, hown, hts⟩ (c_M_nextText l dC dI kA H.size mo ma mrf mz mls mfp mfm mtx mwd mak mli mlx b1 mtk b b mfa mla mlp mdp msi mpf mpt mdn ca ed (by exact hca) (by exact hls) (by omega) (by omega)) (cw_M_220 hts rfl rfl ⟨Nat.le_of_ble_eq_true rfl, Nat.le_of_ble_eq_true rfl⟩) (li_preV (va_recv hK hP (ci := 10) (q0 := 0) rfl rfl) ⟨rfl, hP.sub [0, 1] rfl, (hD.sub [0, 1] (by decide) rfl).weaken (fun _ _ _ h => hAN _ h), trivial⟩ hK hN (hG.go hS hAN)) rfl rfl hl.1 rfl (lv_room (Nat.le_of_ble_eq_true rfl)) d_M_next_267 ⟨(by show 0 + 0 ≤ 0; omega), (by show 0 + 0 ≤ 0; omega)⟩) hP hD hS hA [0, 1] [] rfl rfl (by decide) (by decide) (fun u43 H locs hu43 hP hD hS _hk => ?_)
          obtain ⟨n144, n245, n346, n447⟩ := u43
          have hP : va_P (dC, dI) CL [(mo, .inr (10, [.int (iI mrf), .ref (ma 0), .int (iI mz), .ref (ma 1), .ref (ma 2), .int (iI mls), .int (iI mfp), .int (iI mfm), .ref (ma 3), .int (iI mtx), .ref (ma 4), .ref (ma 5), .int (iI mwd), .ref (ma 6), .ref (ma 7), .int (iI mak), .ref (ma 8), .ref (ma 9), .int (iI mli), .int (iI mlx), .ref (ma 10), .ref (ma 11), .int (iI n144), .int (iI n245), .int (iI n346), .int (iI n447), .int (iI mfa), .int (iI mla), .int (iI mlp), .int (iI mdp), .ref (ma 12), .ref (ma 13), .int (iI msi), .int (iI (bI mdn)), .int (iI mpf), .int (iI mpt)])), (ma 1, .inl (kA 0, 4120, .inl (aI ca)))] H := hP
          have hD : va_D A [(mo, .inr (10, [.int (iI mrf), .ref (ma 0), .int (iI mz), .ref (ma 1), .ref (ma 2), .int (iI mls), .int (iI mfp), .int (iI mfm), .ref (ma 3), .int (iI mtx), .ref (ma 4), .ref (ma 5), .int (iI mwd), .ref (ma 6), .ref (ma 7), .int (iI mak), .ref (ma 8), .ref (ma 9), .int (iI mli), .int (iI mlx), .ref (ma 10), .ref (ma 11), .int (iI n144), .int (iI n245), .int (iI n346), .int (iI n447), .int (iI mfa), .int (iI mla), .int (iI mlp), .int (iI mdp), .ref (ma 12), .ref (ma 13), .int (iI msi), .int (iI (bI mdn)), .int (iI mpf), .int (iI mpt)])), (ma 1, .inl (kA 0, 4120, .inl (aI ca)))] := hD
          have hp267 : (n144, n245, n346, n447) = nxT ed (b + 1) (qoM ca ed b1) ∧ b1 ≤ n447 ∧ n447 ≤ n144 ∧ n144 ≤ ed ∧ n346 = b + 1 ∧ (n245 = 2 ∨ n245 = 7) := hu43
          exact fin (n144, n245, n346, n447) _ _ _ _ (by show (n144, n245, n346, n447) = nxM ca (4000 + mls) mat ∧ (n245 = 0 ∨ mat < n144) ∧ mat ≤ n144 ∧ 4000 ≤ n346 ∧ n346 ≤ n447 ∧ n447 ≤ n144 ∧ n144 ≤ 4000 + mls ∧ 0 ≤ n245 ∧ n245 ≤ 12; refine ⟨by (unfold nxM; rw [← hed, hsk]; unfold nxB; rw [if_neg (by omega), if_neg (nbt (by rw [← ecx]; assumption)), if_pos (by omega), ← eb1]; rw [eb1] at hp267; rw [eb1]; exact hp267.1), by omega⟩) (by first | exact hP | (subst_vars; exact hP)) (by first | exact hD | (subst_vars; exact hD)) hS d_M_next_270
      · have _q := c11
        exact K_87 ((ed - b).toNat + 1) b b ed cx (by omega) (by omega) (by exact hsk) (by first | exact hnm | (rw [← ecx]; assumption)) (by first | rfl | (rw [ez_n]; exact hres)) (Nat.lt_succ_self _) _ _ hP hD hS _ (lv_sub hl [1, 2, 0] rfl)
    · have _q := c9
      have hbe : b = ed := by omega
      refine lv_aload_n hx hb d_M_next_64 rfl (lv_at hl 0 rfl) ?_
      refine lv_iconst (v := iI 0) hx hb d_M_next_65 rfl ?_
      refine pf_M_202 hx hb hts hown hK hP hD hS 0 rfl (Nat.le_of_ble_eq_true rfl) d_M_next_66 (fun H locs hP hD hS => ?_)
      have hP : va_P (dC, dI) CL [(mo, .inr (10, [.int (iI mrf), .ref (ma 0), .int (iI mz), .ref (ma 1), .ref (ma 2), .int (iI mls), .int (iI mfp), .int (iI mfm), .ref (ma 3), .int (iI mtx), .ref (ma 4), .ref (ma 5), .int (iI mwd), .ref (ma 6), .ref (ma 7), .int (iI mak), .ref (ma 8), .ref (ma 9), .int (iI mli), .int (iI mlx), .ref (ma 10), .ref (ma 11), .int (iI b), .int (iI 0), .int (iI b), .int (iI b), .int (iI mfa), .int (iI mla), .int (iI mlp), .int (iI mdp), .ref (ma 12), .ref (ma 13), .int (iI msi), .int (iI (bI mdn)), .int (iI mpf), .int (iI mpt)])), (ma 1, .inl (kA 0, 4120, .inl (aI ca)))] H := hP
      have hD : va_D A [(mo, .inr (10, [.int (iI mrf), .ref (ma 0), .int (iI mz), .ref (ma 1), .ref (ma 2), .int (iI mls), .int (iI mfp), .int (iI mfm), .ref (ma 3), .int (iI mtx), .ref (ma 4), .ref (ma 5), .int (iI mwd), .ref (ma 6), .ref (ma 7), .int (iI mak), .ref (ma 8), .ref (ma 9), .int (iI mli), .int (iI mlx), .ref (ma 10), .ref (ma 11), .int (iI b), .int (iI 0), .int (iI b), .int (iI b), .int (iI mfa), .int (iI mla), .int (iI mlp), .int (iI mdp), .ref (ma 12), .ref (ma 13), .int (iI msi), .int (iI (bI mdn)), .int (iI mpf), .int (iI mpt)])), (ma 1, .inl (kA 0, 4120, .inl (aI ca)))] := hD
      exact fin (b, 0, b, b) _ _ _ _ (by show (b, 0, b, b) = nxM ca (4000 + mls) mat ∧ (0 = 0 ∨ mat < b) ∧ mat ≤ b ∧ 4000 ≤ b ∧ b ≤ b ∧ b ≤ b ∧ b ≤ 4000 + mls ∧ 0 ≤ 0 ∧ 0 ≤ 12; refine ⟨by (unfold nxM; rw [← hed, hsk]; unfold nxB; rw [if_pos (by omega)]), by omega⟩) (by first | exact hP | (subst_vars; exact hP)) (by first | exact hD | (subst_vars; exact hD)) hS d_M_next_69
  have K_5 : ∀ (nn_5 : Nat) (z : Int) (ed : Int), (ed = 4000 + mls) → (mat ≤ z ∧ z ≤ ed) → (skL ca (ed - z).toNat z = skM ca ed mat) → ((ed - z).toNat < nn_5) → ∀ (H : Heap) (locs : List Loc), va_P (dC, dI) CL [(mo, .inr (10, [.int (iI mrf), .ref (ma 0), .int (iI mz), .ref (ma 1), .ref (ma 2), .int (iI mls), .int (iI mfp), .int (iI mfm), .ref (ma 3), .int (iI mtx), .ref (ma 4), .ref (ma 5), .int (iI mwd), .ref (ma 6), .ref (ma 7), .int (iI mak), .ref (ma 8), .ref (ma 9), .int (iI mli), .int (iI mlx), .ref (ma 10), .ref (ma 11), .int (iI z), .int (iI mtk), .int (iI mtf), .int (iI mtt), .int (iI mfa), .int (iI mla), .int (iI mlp), .int (iI mdp), .ref (ma 12), .ref (ma 13), .int (iI msi), .int (iI (bI mdn)), .int (iI mpf), .int (iI mpt)])), (ma 1, .inl (kA 0, 4120, .inl (aI ca)))] H → va_D A [(mo, .inr (10, [.int (iI mrf), .ref (ma 0), .int (iI mz), .ref (ma 1), .ref (ma 2), .int (iI mls), .int (iI mfp), .int (iI mfm), .ref (ma 3), .int (iI mtx), .ref (ma 4), .ref (ma 5), .int (iI mwd), .ref (ma 6), .ref (ma 7), .int (iI mak), .ref (ma 8), .ref (ma 9), .int (iI mli), .int (iI mlx), .ref (ma 10), .ref (ma 11), .int (iI z), .int (iI mtk), .int (iI mtf), .int (iI mtt), .int (iI mfa), .int (iI mla), .int (iI mlp), .int (iI mdp), .ref (ma 12), .ref (ma 13), .int (iI msi), .int (iI (bI mdn)), .int (iI mpf), .int (iI mpt)])), (ma 1, .inl (kA 0, 4120, .inl (aI ca)))] → va_S A s.heap H locs → ∀ ls : Array Slot, lv_has ls 4 [(0, .ref mo), (1, .int (iI ed))] → W p l e (rmd 3 0 0) s m args below meth c H locs 0 0 Q (F0 m 5 ls []) := by
    intro nn_5
    induction nn_5 with
    | zero => intro z ed hed hb4 hres hm; exact absurd hm (Nat.not_lt_zero _)
    | succ nn_5 ih_5 =>
      intro z ed hed hb4 hres hm_5 H locs hP hD hS ls hl
      refine lv_aload_n hx hb d_M_next_5 rfl (lv_at hl 0 rfl) ?_
      refine gf_M_193 hx hb hts hown hK hP 0 rfl rfl d_M_next_6 ?_
      refine lv_iload_n hx hb d_M_next_9 rfl (lv_at hl 1 rfl) ?_
      refine li_icmp_ge (tgt := 40) hx hb d_M_next_10 (by decide) (by omega) (by omega) (fun c48 => ?_) (fun c48 => ?_)
      · have _q := c48
        rw [show (ed - z).toNat = 0 by omega] at hres
        simp only [skL] at hres
        exact K_40 z ed (by omega) (by omega) (by exact hres.symm) _ _ hP hD hS _ (lv_sub hl [0, 1] rfl)
      · have _q := c48
        rw [show (ed - z).toNat = (ed - (z + 1)).toNat + 1 by omega] at hres
        simp only [skL] at hres
        refine lv_aload_n hx hb d_M_next_13 rfl (lv_at hl 0 rfl) ?_
        refine gf_M_13 hx hb hts hown hK hP 0 rfl rfl d_M_next_14 ?_
        refine lv_aload_n hx hb d_M_next_17 rfl (lv_at hl 0 rfl) ?_
        refine gf_M_193 hx hb hts hown hK hP 0 rfl rfl d_M_next_18 ?_
        refine li_iald hx hb hK hP 1 0 rfl rfl (by omega) (by omega) (by omega) d_M_next_21 ?_
        have f49 := hca z.toNat
        refine lv_bipush (v := iI 32) hx hb d_M_next_22 (by decide) ?_
        refine li_icmp_ne (tgt := 40) hx hb d_M_next_24 (by decide) (by omega) (by omega) (fun c50 => ?_) (fun c50 => ?_)
        · have _q := c50
          rw [if_neg (by assumption)] at hres
          exact K_40 z ed (by omega) (by omega) (by exact hres.symm) _ _ hP hD hS _ (lv_sub hl [0, 1] rfl)
        · have _q := c50
          rw [if_pos (by assumption)] at hres
          refine lv_aload_n hx hb d_M_next_27 rfl (lv_at hl 0 rfl) ?_
          refine lv_dup hx hb d_M_next_28 rfl ?_
          refine gf_M_193 hx hb hts hown hK hP 0 rfl rfl d_M_next_29 ?_
          refine lv_iconst (v := iI 1) hx hb d_M_next_32 rfl ?_
          refine li_iadd hx hb d_M_next_33 ?_
          refine li_nm (fun z_n ez_n => ?_)
          refine pf_M_193 hx hb hts hown hK hP hD hS 0 rfl (Nat.le_of_ble_eq_true rfl) d_M_next_34 (fun H locs hP hD hS => ?_)
          have hP : va_P (dC, dI) CL [(mo, .inr (10, [.int (iI mrf), .ref (ma 0), .int (iI mz), .ref (ma 1), .ref (ma 2), .int (iI mls), .int (iI mfp), .int (iI mfm), .ref (ma 3), .int (iI mtx), .ref (ma 4), .ref (ma 5), .int (iI mwd), .ref (ma 6), .ref (ma 7), .int (iI mak), .ref (ma 8), .ref (ma 9), .int (iI mli), .int (iI mlx), .ref (ma 10), .ref (ma 11), .int (iI z_n), .int (iI mtk), .int (iI mtf), .int (iI mtt), .int (iI mfa), .int (iI mla), .int (iI mlp), .int (iI mdp), .ref (ma 12), .ref (ma 13), .int (iI msi), .int (iI (bI mdn)), .int (iI mpf), .int (iI mpt)])), (ma 1, .inl (kA 0, 4120, .inl (aI ca)))] H := hP
          have hD : va_D A [(mo, .inr (10, [.int (iI mrf), .ref (ma 0), .int (iI mz), .ref (ma 1), .ref (ma 2), .int (iI mls), .int (iI mfp), .int (iI mfm), .ref (ma 3), .int (iI mtx), .ref (ma 4), .ref (ma 5), .int (iI mwd), .ref (ma 6), .ref (ma 7), .int (iI mak), .ref (ma 8), .ref (ma 9), .int (iI mli), .int (iI mlx), .ref (ma 10), .ref (ma 11), .int (iI z_n), .int (iI mtk), .int (iI mtf), .int (iI mtt), .int (iI mfa), .int (iI mla), .int (iI mlp), .int (iI mdp), .ref (ma 12), .ref (ma 13), .int (iI msi), .int (iI (bI mdn)), .int (iI mpf), .int (iI mpt)])), (ma 1, .inl (kA 0, 4120, .inl (aI ca)))] := hD
          refine lv_goto (tgt := 5) hx hb d_M_next_37 (by decide) ?_
          exact ih_5 z_n ed (by omega) (by omega) (by first | rfl | (rw [ez_n]; exact hres)) (by omega) _ _ hP hD hS _ (lv_sub hl [0, 1] rfl)
  suffices h9 : ∀ (H : Heap) (locs : List Loc), H = s.heap → locs = [] → W p l e (rmd 3 0 0) s m args below meth c H locs 0 0 Q (F0 m 0 ls []) from h9 _ _ rfl rfl
  intro H locs eH eL
  have hP : va_P (dC, dI) CL [(mo, .inr (10, [.int (iI mrf), .ref (ma 0), .int (iI mz), .ref (ma 1), .ref (ma 2), .int (iI mls), .int (iI mfp), .int (iI mfm), .ref (ma 3), .int (iI mtx), .ref (ma 4), .ref (ma 5), .int (iI mwd), .ref (ma 6), .ref (ma 7), .int (iI mak), .ref (ma 8), .ref (ma 9), .int (iI mli), .int (iI mlx), .ref (ma 10), .ref (ma 11), .int (iI mat), .int (iI mtk), .int (iI mtf), .int (iI mtt), .int (iI mfa), .int (iI mla), .int (iI mlp), .int (iI mdp), .ref (ma 12), .ref (ma 13), .int (iI msi), .int (iI (bI mdn)), .int (iI mpf), .int (iI mpt)])), (ma 1, .inl (kA 0, 4120, .inl (aI ca)))] H := by rw [eH]; exact hP
  have hS : va_S A s.heap H locs := by rw [eH, eL]; exact va_S.rf
  refine lv_aload_n hx hb d_M_next_0 rfl (lv_at hl 0 rfl) ?_
  refine li_callr ((va_runV (As := []) (rest := []) ⟨hx, hb, hml, hown, hts⟩ (c_M_lineEnd l dC dI kA mo ma mrf mz mls mfp mfm mtx mwd mak mli mlx mat mtk mtf mtt mfa mla mlp mdp msi mpf mpt mdn ) (cw_M_190 hts rfl rfl ⟨Nat.le_of_ble_eq_true rfl, Nat.le_of_ble_eq_true rfl⟩) (li_preV (va_recv hK hP (ci := 10) (q0 := 0) rfl rfl) (hP.sub [0] rfl) hK hN (hG.go hS hAN)) rfl rfl hl.1 rfl (lv_room (Nat.le_of_ble_eq_true rfl)) d_M_next_1 ⟨(by show 0 + 0 ≤ 0; omega), (by show 0 + 0 ≤ 0; omega)⟩).run) ?_
  refine li_nm (fun ed eed => ?_)
  refine lv_istore_n (lv' := [(1, .int (iI ed)), (0, .ref mo)]) hx hb d_M_next_4 rfl hl (by decide) rfl (fun ls hl => ?_)
  exact K_5 ((ed - mat).toNat + 1) mat ed (by omega) (by omega) (by first | rfl | (rw [ez_n]; exact hres)) (Nat.lt_succ_self _) _ _ hP hD hS _ (lv_sub hl [1, 0] rfl)
theorem d_M_stop_0 : decode b_M_stop 0 = .ok (.aload_n 0, 1) := by decide +kernel
theorem d_M_stop_1 : decode b_M_stop 1 = .ok (.getfield 224, 3) := by decide +kernel
theorem d_M_stop_4 : decode b_M_stop 4 = .ok (.ifCond .ne 54, 3) := by decide +kernel
theorem d_M_stop_7 : decode b_M_stop 7 = .ok (.aload_n 0, 1) := by decide +kernel
theorem d_M_stop_8 : decode b_M_stop 8 = .ok (.bipush (-2), 2) := by decide +kernel
theorem d_M_stop_10 : decode b_M_stop 10 = .ok (.putfield 224, 3) := by decide +kernel
theorem d_M_stop_13 : decode b_M_stop 13 = .ok (.aload_n 0, 1) := by decide +kernel
theorem d_M_stop_14 : decode b_M_stop 14 = .ok (.aload_n 0, 1) := by decide +kernel
theorem d_M_stop_15 : decode b_M_stop 15 = .ok (.getfield 202, 3) := by decide +kernel
theorem d_M_stop_18 : decode b_M_stop 18 = .ok (.bipush 7, 2) := by decide +kernel
theorem d_M_stop_20 : decode b_M_stop 20 = .ok (.if_icmp .ne 10, 3) := by decide +kernel
theorem d_M_stop_23 : decode b_M_stop 23 = .ok (.aload_n 0, 1) := by decide +kernel
theorem d_M_stop_24 : decode b_M_stop 24 = .ok (.getfield 174, 3) := by decide +kernel
theorem d_M_stop_27 : decode b_M_stop 27 = .ok (.goto 28, 3) := by decide +kernel
theorem d_M_stop_30 : decode b_M_stop 30 = .ok (.aload_n 0, 1) := by decide +kernel
theorem d_M_stop_31 : decode b_M_stop 31 = .ok (.getfield 202, 3) := by decide +kernel
theorem d_M_stop_34 : decode b_M_stop 34 = .ok (.iconst 2, 1) := by decide +kernel
theorem d_M_stop_35 : decode b_M_stop 35 = .ok (.if_icmp .ne 12, 3) := by decide +kernel
theorem d_M_stop_38 : decode b_M_stop 38 = .ok (.aload_n 0, 1) := by decide +kernel
theorem d_M_stop_39 : decode b_M_stop 39 = .ok (.getfield 196, 3) := by decide +kernel
theorem d_M_stop_42 : decode b_M_stop 42 = .ok (.iconst 1, 1) := by decide +kernel
theorem d_M_stop_43 : decode b_M_stop 43 = .ok (.isub, 1) := by decide +kernel
theorem d_M_stop_44 : decode b_M_stop 44 = .ok (.goto 7, 3) := by decide +kernel
theorem d_M_stop_47 : decode b_M_stop 47 = .ok (.aload_n 0, 1) := by decide +kernel
theorem d_M_stop_48 : decode b_M_stop 48 = .ok (.getfield 196, 3) := by decide +kernel
theorem d_M_stop_51 : decode b_M_stop 51 = .ok (.sipush 4000, 3) := by decide +kernel
theorem d_M_stop_54 : decode b_M_stop 54 = .ok (.isub, 1) := by decide +kernel
theorem d_M_stop_55 : decode b_M_stop 55 = .ok (.putfield 19, 3) := by decide +kernel
theorem d_M_stop_58 : decode b_M_stop 58 = .ok (.return_, 1) := by decide +kernel
set_option maxHeartbeats 4000000 in
set_option maxRecDepth 100000 in
theorem c_M_stop (l : Launch) (dC : Nat → ClassId) (dI : Nat → Nat → Nat) (kA : Nat → ClassId) (sz : Nat) (mo : Nat) (ma : Nat → Nat) (mrf : Int) (mz : Int) (mls : Int) (mfp : Int) (mfm : Int) (mtx : Int) (mwd : Int) (mak : Int) (mli : Int) (mlx : Int) (mat : Int) (mtk : Int) (mtf : Int) (mtt : Int) (mfa : Int) (mla : Int) (mlp : Int) (mdp : Int) (msi : Int) (mpf : Int) (mpt : Int) (mdn : Bool) (hpr : -1000000 ≤ mtk ∧ mtk ≤ 1000000 ∧ -1000000 ≤ mtf ∧ mtf ≤ 1000000 ∧ -1000000 ≤ mfa ∧ mfa ≤ 1000000 ∧ -1000000 ≤ mla ∧ mla ≤ 1000000) : Met l y_M_stop (wsy y_M_stop b_M_stop 1 none) (rmd 0 0 0) (li_Pr (dC, dI) CL (TY kA) [.ref mo] (fun h => h.size = sz ∧ va_P (dC, dI) CL [(mo, .inr (10, [.int (iI mrf), .ref (ma 0), .int (iI mz), .ref (ma 1), .ref (ma 2), .int (iI mls), .int (iI mfp), .int (iI mfm), .ref (ma 3), .int (iI mtx), .ref (ma 4), .ref (ma 5), .int (iI mwd), .ref (ma 6), .ref (ma 7), .int (iI mak), .ref (ma 8), .ref (ma 9), .int (iI mli), .int (iI mlx), .ref (ma 10), .ref (ma 11), .int (iI mat), .int (iI mtk), .int (iI mtf), .int (iI mtt), .int (iI mfa), .int (iI mla), .int (iI mlp), .int (iI mdp), .ref (ma 12), .ref (ma 13), .int (iI msi), .int (iI (bI mdn)), .int (iI mpf), .int (iI mpt)]))] h ∧ va_D (fun q => dI 100 0 ≤ q) [(mo, .inr (10, [.int (iI mrf), .ref (ma 0), .int (iI mz), .ref (ma 1), .ref (ma 2), .int (iI mls), .int (iI mfp), .int (iI mfm), .ref (ma 3), .int (iI mtx), .ref (ma 4), .ref (ma 5), .int (iI mwd), .ref (ma 6), .ref (ma 7), .int (iI mak), .ref (ma 8), .ref (ma 9), .int (iI mli), .int (iI mlx), .ref (ma 10), .ref (ma 11), .int (iI mat), .int (iI mtk), .int (iI mtf), .int (iI mtt), .int (iI mfa), .int (iI mla), .int (iI mlp), .int (iI mdp), .ref (ma 12), .ref (ma 13), .int (iI msi), .int (iI (bI mdn)), .int (iI mpf), .int (iI mpt)]))] ∧ (fun _ => True) h)) (li_Qw (S := (Int) × (Int)) (dC, dI) CL (fun u => PS.mk mat mtk mtf mtt u.1 u.2 mla mlp mpf mpt = stopP mls (PS.mk mat mtk mtf mtt mfa mfp mla mlp mpf mpt) ∧ (u.1 = mfa ∨ u.1 = -2) ∧ ¬ u.1 = 0) (fun _ => none) (fun u => [(mo, .inr (10, [.int (iI mrf), .ref (ma 0), .int (iI mz), .ref (ma 1), .ref (ma 2), .int (iI mls), .int (iI u.2), .int (iI mfm), .ref (ma 3), .int (iI mtx), .ref (ma 4), .ref (ma 5), .int (iI mwd), .ref (ma 6), .ref (ma 7), .int (iI mak), .ref (ma 8), .ref (ma 9), .int (iI mli), .int (iI mlx), .ref (ma 10), .ref (ma 11), .int (iI mat), .int (iI mtk), .int (iI mtf), .int (iI mtt), .int (iI u.1), .int (iI mla), .int (iI mlp), .int (iI mdp), .ref (ma 12), .ref (ma 13), .int (iI msi), .int (iI (bI mdn)), .int (iI mpf), .int (iI mpt)]))]) (va_A [(mo, .inr (10, [.int (iI mrf), .ref (ma 0), .int (iI mz), .ref (ma 1), .ref (ma 2), .int (iI mls), .int (iI mfp), .int (iI mfm), .ref (ma 3), .int (iI mtx), .ref (ma 4), .ref (ma 5), .int (iI mwd), .ref (ma 6), .ref (ma 7), .int (iI mak), .ref (ma 8), .ref (ma 9), .int (iI mli), .int (iI mlx), .ref (ma 10), .ref (ma 11), .int (iI mat), .int (iI mtk), .int (iI mtf), .int (iI mtt), .int (iI mfa), .int (iI mla), .int (iI mlp), .int (iI mdp), .ref (ma 12), .ref (ma 13), .int (iI msi), .int (iI (bI mdn)), .int (iI mpf), .int (iI mpt)]))] sz)) 0 0 (va_A [(mo, .inr (10, [.int (iI mrf), .ref (ma 0), .int (iI mz), .ref (ma 1), .ref (ma 2), .int (iI mls), .int (iI mfp), .int (iI mfm), .ref (ma 3), .int (iI mtx), .ref (ma 4), .ref (ma 5), .int (iI mwd), .ref (ma 6), .ref (ma 7), .int (iI mak), .ref (ma 8), .ref (ma 9), .int (iI mli), .int (iI mlx), .ref (ma 10), .ref (ma 11), .int (iI mat), .int (iI mtk), .int (iI mtf), .int (iI mtt), .int (iI mfa), .int (iI mla), .int (iI mlp), .int (iI mdp), .ref (ma 12), .ref (ma 13), .int (iI msi), .int (iI (bI mdn)), .int (iI mpf), .int (iI mpt)]))] sz) := by
  refine li_mwv (by decide) (Nat.le_of_ble_eq_true rfl) ?_
  intro p e s m args below meth c Q A C hP hD hBx hK hN hG hA hAi hAN fin ls hl
  obtain ⟨hx, hb, hr, hml, hown, hts, hlocks, hin⟩ := C
  have hown : s.vm.findClass R_M = some m.cls := hown
  have hl : lv_has ls 1 [(0, .ref mo)] := hl
  suffices h9 : ∀ (H : Heap) (locs : List Loc), H = s.heap → locs = [] → W p l e (rmd 0 0 0) s m args below meth c H locs 0 0 Q (F0 m 0 ls []) from h9 _ _ rfl rfl
  intro H locs eH eL
  have hP : va_P (dC, dI) CL [(mo, .inr (10, [.int (iI mrf), .ref (ma 0), .int (iI mz), .ref (ma 1), .ref (ma 2), .int (iI mls), .int (iI mfp), .int (iI mfm), .ref (ma 3), .int (iI mtx), .ref (ma 4), .ref (ma 5), .int (iI mwd), .ref (ma 6), .ref (ma 7), .int (iI mak), .ref (ma 8), .ref (ma 9), .int (iI mli), .int (iI mlx), .ref (ma 10), .ref (ma 11), .int (iI mat), .int (iI mtk), .int (iI mtf), .int (iI mtt), .int (iI mfa), .int (iI mla), .int (iI mlp), .int (iI mdp), .ref (ma 12), .ref (ma 13), .int (iI msi), .int (iI (bI mdn)), .int (iI mpf), .int (iI mpt)]))] H := by rw [eH]; exact hP
  have hS : va_S A s.heap H locs := by rw [eH, eL]; exact va_S.rf
  refine lv_aload_n hx hb d_M_stop_0 rfl (lv_at hl 0 rfl) ?_
  refine gf_M_224 hx hb hts hown hK hP 0 rfl rfl d_M_stop_1 ?_
  refine li_if_ne (tgt := 58) hx hb d_M_stop_4 (by decide) (by omega) (fun c1 => ?_) (fun c1 => ?_)
  · have _q := c1
    exact fin (mfa, mfp) _ _ _ _ (by show PS.mk mat mtk mtf mtt mfa mfp mla mlp mpf mpt = stopP mls (PS.mk mat mtk mtf mtt mfa mfp mla mlp mpf mpt) ∧ (mfa = mfa ∨ mfa = -2) ∧ ¬ mfa = 0; refine ⟨by (unfold stopP; dsimp only [PS.mk, PS.at_, PS.tk, PS.tf, PS.tt, PS.fa, PS.fp, PS.la, PS.lp, PS.pf, PS.pt]; (repeat (first | rw [if_pos (by omega)] | rw [if_neg (by omega)])); first | done | rfl | (rw [ep_n])), by omega, by omega⟩) (by first | exact hP | (subst_vars; exact hP)) (by first | exact hD | (subst_vars; exact hD)) hS d_M_stop_58
  · have _q := c1
    refine lv_aload_n hx hb d_M_stop_7 rfl (lv_at hl 0 rfl) ?_
    refine lv_bipush (v := iI (-2)) hx hb d_M_stop_8 (by decide) ?_
    refine pf_M_224 hx hb hts hown hK hP hD hS 0 rfl (Nat.le_of_ble_eq_true rfl) d_M_stop_10 (fun H locs hP hD hS => ?_)
    have hP : va_P (dC, dI) CL [(mo, .inr (10, [.int (iI mrf), .ref (ma 0), .int (iI mz), .ref (ma 1), .ref (ma 2), .int (iI mls), .int (iI mfp), .int (iI mfm), .ref (ma 3), .int (iI mtx), .ref (ma 4), .ref (ma 5), .int (iI mwd), .ref (ma 6), .ref (ma 7), .int (iI mak), .ref (ma 8), .ref (ma 9), .int (iI mli), .int (iI mlx), .ref (ma 10), .ref (ma 11), .int (iI mat), .int (iI mtk), .int (iI mtf), .int (iI mtt), .int (iI (-2)), .int (iI mla), .int (iI mlp), .int (iI mdp), .ref (ma 12), .ref (ma 13), .int (iI msi), .int (iI (bI mdn)), .int (iI mpf), .int (iI mpt)]))] H := hP
    have hD : va_D A [(mo, .inr (10, [.int (iI mrf), .ref (ma 0), .int (iI mz), .ref (ma 1), .ref (ma 2), .int (iI mls), .int (iI mfp), .int (iI mfm), .ref (ma 3), .int (iI mtx), .ref (ma 4), .ref (ma 5), .int (iI mwd), .ref (ma 6), .ref (ma 7), .int (iI mak), .ref (ma 8), .ref (ma 9), .int (iI mli), .int (iI mlx), .ref (ma 10), .ref (ma 11), .int (iI mat), .int (iI mtk), .int (iI mtf), .int (iI mtt), .int (iI (-2)), .int (iI mla), .int (iI mlp), .int (iI mdp), .ref (ma 12), .ref (ma 13), .int (iI msi), .int (iI (bI mdn)), .int (iI mpf), .int (iI mpt)]))] := hD
    refine lv_aload_n hx hb d_M_stop_13 rfl (lv_at hl 0 rfl) ?_
    refine lv_aload_n hx hb d_M_stop_14 rfl (lv_at hl 0 rfl) ?_
    refine gf_M_202 hx hb hts hown hK hP 0 rfl rfl d_M_stop_15 ?_
    refine lv_bipush (v := iI 7) hx hb d_M_stop_18 (by decide) ?_
    refine li_icmp_ne (tgt := 30) hx hb d_M_stop_20 (by decide) (by omega) (by omega) (fun c2 => ?_) (fun c2 => ?_)
    · have _q := c2
      refine lv_aload_n hx hb d_M_stop_30 rfl (lv_at hl 0 rfl) ?_
      refine gf_M_202 hx hb hts hown hK hP 0 rfl rfl d_M_stop_31 ?_
      refine lv_iconst (v := iI 2) hx hb d_M_stop_34 rfl ?_
      refine li_icmp_ne (tgt := 47) hx hb d_M_stop_35 (by decide) (by omega) (by omega) (fun c3 => ?_) (fun c3 => ?_)
      · have _q := c3
        refine lv_aload_n hx hb d_M_stop_47 rfl (lv_at hl 0 rfl) ?_
        refine gf_M_196 hx hb hts hown hK hP 0 rfl rfl d_M_stop_48 ?_
        refine lv_sipush (v := iI 4000) hx hb d_M_stop_51 (by decide) ?_
        refine li_isub hx hb d_M_stop_54 ?_
        refine li_nm (fun p_n ep_n => ?_)
        refine pf_M_19 hx hb hts hown hK hP hD hS 0 rfl (Nat.le_of_ble_eq_true rfl) d_M_stop_55 (fun H locs hP hD hS => ?_)
        have hP : va_P (dC, dI) CL [(mo, .inr (10, [.int (iI mrf), .ref (ma 0), .int (iI mz), .ref (ma 1), .ref (ma 2), .int (iI mls), .int (iI p_n), .int (iI mfm), .ref (ma 3), .int (iI mtx), .ref (ma 4), .ref (ma 5), .int (iI mwd), .ref (ma 6), .ref (ma 7), .int (iI mak), .ref (ma 8), .ref (ma 9), .int (iI mli), .int (iI mlx), .ref (ma 10), .ref (ma 11), .int (iI mat), .int (iI mtk), .int (iI mtf), .int (iI mtt), .int (iI (-2)), .int (iI mla), .int (iI mlp), .int (iI mdp), .ref (ma 12), .ref (ma 13), .int (iI msi), .int (iI (bI mdn)), .int (iI mpf), .int (iI mpt)]))] H := hP
        have hD : va_D A [(mo, .inr (10, [.int (iI mrf), .ref (ma 0), .int (iI mz), .ref (ma 1), .ref (ma 2), .int (iI mls), .int (iI p_n), .int (iI mfm), .ref (ma 3), .int (iI mtx), .ref (ma 4), .ref (ma 5), .int (iI mwd), .ref (ma 6), .ref (ma 7), .int (iI mak), .ref (ma 8), .ref (ma 9), .int (iI mli), .int (iI mlx), .ref (ma 10), .ref (ma 11), .int (iI mat), .int (iI mtk), .int (iI mtf), .int (iI mtt), .int (iI (-2)), .int (iI mla), .int (iI mlp), .int (iI mdp), .ref (ma 12), .ref (ma 13), .int (iI msi), .int (iI (bI mdn)), .int (iI mpf), .int (iI mpt)]))] := hD
        exact fin ((-2), p_n) _ _ _ _ (by show PS.mk mat mtk mtf mtt (-2) p_n mla mlp mpf mpt = stopP mls (PS.mk mat mtk mtf mtt mfa mfp mla mlp mpf mpt) ∧ ((-2) = mfa ∨ (-2) = -2) ∧ ¬ (-2) = 0; refine ⟨by (unfold stopP; dsimp only [PS.mk, PS.at_, PS.tk, PS.tf, PS.tt, PS.fa, PS.fp, PS.la, PS.lp, PS.pf, PS.pt]; (repeat (first | rw [if_pos (by omega)] | rw [if_neg (by omega)])); first | done | rfl | (rw [ep_n])), by omega, by omega⟩) (by first | exact hP | (subst_vars; exact hP)) (by first | exact hD | (subst_vars; exact hD)) hS d_M_stop_58
      · have _q := c3
        refine lv_aload_n hx hb d_M_stop_38 rfl (lv_at hl 0 rfl) ?_
        refine gf_M_196 hx hb hts hown hK hP 0 rfl rfl d_M_stop_39 ?_
        refine lv_iconst (v := iI 1) hx hb d_M_stop_42 rfl ?_
        refine li_isub hx hb d_M_stop_43 ?_
        refine lv_goto (tgt := 51) hx hb d_M_stop_44 (by decide) ?_
        refine lv_sipush (v := iI 4000) hx hb d_M_stop_51 (by decide) ?_
        refine li_isub hx hb d_M_stop_54 ?_
        refine li_nm (fun p_n ep_n => ?_)
        refine pf_M_19 hx hb hts hown hK hP hD hS 0 rfl (Nat.le_of_ble_eq_true rfl) d_M_stop_55 (fun H locs hP hD hS => ?_)
        have hP : va_P (dC, dI) CL [(mo, .inr (10, [.int (iI mrf), .ref (ma 0), .int (iI mz), .ref (ma 1), .ref (ma 2), .int (iI mls), .int (iI p_n), .int (iI mfm), .ref (ma 3), .int (iI mtx), .ref (ma 4), .ref (ma 5), .int (iI mwd), .ref (ma 6), .ref (ma 7), .int (iI mak), .ref (ma 8), .ref (ma 9), .int (iI mli), .int (iI mlx), .ref (ma 10), .ref (ma 11), .int (iI mat), .int (iI mtk), .int (iI mtf), .int (iI mtt), .int (iI (-2)), .int (iI mla), .int (iI mlp), .int (iI mdp), .ref (ma 12), .ref (ma 13), .int (iI msi), .int (iI (bI mdn)), .int (iI mpf), .int (iI mpt)]))] H := hP
        have hD : va_D A [(mo, .inr (10, [.int (iI mrf), .ref (ma 0), .int (iI mz), .ref (ma 1), .ref (ma 2), .int (iI mls), .int (iI p_n), .int (iI mfm), .ref (ma 3), .int (iI mtx), .ref (ma 4), .ref (ma 5), .int (iI mwd), .ref (ma 6), .ref (ma 7), .int (iI mak), .ref (ma 8), .ref (ma 9), .int (iI mli), .int (iI mlx), .ref (ma 10), .ref (ma 11), .int (iI mat), .int (iI mtk), .int (iI mtf), .int (iI mtt), .int (iI (-2)), .int (iI mla), .int (iI mlp), .int (iI mdp), .ref (ma 12), .ref (ma 13), .int (iI msi), .int (iI (bI mdn)), .int (iI mpf), .int (iI mpt)]))] := hD
        exact fin ((-2), p_n) _ _ _ _ (by show PS.mk mat mtk mtf mtt (-2) p_n mla mlp mpf mpt = stopP mls (PS.mk mat mtk mtf mtt mfa mfp mla mlp mpf mpt) ∧ ((-2) = mfa ∨ (-2) = -2) ∧ ¬ (-2) = 0; refine ⟨by (unfold stopP; dsimp only [PS.mk, PS.at_, PS.tk, PS.tf, PS.tt, PS.fa, PS.fp, PS.la, PS.lp, PS.pf, PS.pt]; (repeat (first | rw [if_pos (by omega)] | rw [if_neg (by omega)])); first | done | rfl | (rw [ep_n])), by omega, by omega⟩) (by first | exact hP | (subst_vars; exact hP)) (by first | exact hD | (subst_vars; exact hD)) hS d_M_stop_58
    · have _q := c2
      refine lv_aload_n hx hb d_M_stop_23 rfl (lv_at hl 0 rfl) ?_
      refine gf_M_174 hx hb hts hown hK hP 0 rfl rfl d_M_stop_24 ?_
      refine lv_goto (tgt := 55) hx hb d_M_stop_27 (by decide) ?_
      refine pf_M_19 hx hb hts hown hK hP hD hS 0 rfl (Nat.le_of_ble_eq_true rfl) d_M_stop_55 (fun H locs hP hD hS => ?_)
      have hP : va_P (dC, dI) CL [(mo, .inr (10, [.int (iI mrf), .ref (ma 0), .int (iI mz), .ref (ma 1), .ref (ma 2), .int (iI mls), .int (iI mls), .int (iI mfm), .ref (ma 3), .int (iI mtx), .ref (ma 4), .ref (ma 5), .int (iI mwd), .ref (ma 6), .ref (ma 7), .int (iI mak), .ref (ma 8), .ref (ma 9), .int (iI mli), .int (iI mlx), .ref (ma 10), .ref (ma 11), .int (iI mat), .int (iI mtk), .int (iI mtf), .int (iI mtt), .int (iI (-2)), .int (iI mla), .int (iI mlp), .int (iI mdp), .ref (ma 12), .ref (ma 13), .int (iI msi), .int (iI (bI mdn)), .int (iI mpf), .int (iI mpt)]))] H := hP
      have hD : va_D A [(mo, .inr (10, [.int (iI mrf), .ref (ma 0), .int (iI mz), .ref (ma 1), .ref (ma 2), .int (iI mls), .int (iI mls), .int (iI mfm), .ref (ma 3), .int (iI mtx), .ref (ma 4), .ref (ma 5), .int (iI mwd), .ref (ma 6), .ref (ma 7), .int (iI mak), .ref (ma 8), .ref (ma 9), .int (iI mli), .int (iI mlx), .ref (ma 10), .ref (ma 11), .int (iI mat), .int (iI mtk), .int (iI mtf), .int (iI mtt), .int (iI (-2)), .int (iI mla), .int (iI mlp), .int (iI mdp), .ref (ma 12), .ref (ma 13), .int (iI msi), .int (iI (bI mdn)), .int (iI mpf), .int (iI mpt)]))] := hD
      exact fin ((-2), mls) _ _ _ _ (by show PS.mk mat mtk mtf mtt (-2) mls mla mlp mpf mpt = stopP mls (PS.mk mat mtk mtf mtt mfa mfp mla mlp mpf mpt) ∧ ((-2) = mfa ∨ (-2) = -2) ∧ ¬ (-2) = 0; refine ⟨by (unfold stopP; dsimp only [PS.mk, PS.at_, PS.tk, PS.tf, PS.tt, PS.fa, PS.fp, PS.la, PS.lp, PS.pf, PS.pt]; (repeat (first | rw [if_pos (by omega)] | rw [if_neg (by omega)])); first | done | rfl | (rw [ep_n])), by omega, by omega⟩) (by first | exact hP | (subst_vars; exact hP)) (by first | exact hD | (subst_vars; exact hD)) hS d_M_stop_58
theorem d_M_stopAtText_0 : decode b_M_stopAtText 0 = .ok (.aload_n 0, 1) := by decide +kernel
theorem d_M_stopAtText_1 : decode b_M_stopAtText 1 = .ok (.getfield 224, 3) := by decide +kernel
theorem d_M_stopAtText_4 : decode b_M_stopAtText 4 = .ok (.ifCond .ne 23, 3) := by decide +kernel
theorem d_M_stopAtText_7 : decode b_M_stopAtText 7 = .ok (.aload_n 0, 1) := by decide +kernel
theorem d_M_stopAtText_8 : decode b_M_stopAtText 8 = .ok (.bipush (-2), 2) := by decide +kernel
theorem d_M_stopAtText_10 : decode b_M_stopAtText 10 = .ok (.putfield 224, 3) := by decide +kernel
theorem d_M_stopAtText_13 : decode b_M_stopAtText 13 = .ok (.aload_n 0, 1) := by decide +kernel
theorem d_M_stopAtText_14 : decode b_M_stopAtText 14 = .ok (.aload_n 0, 1) := by decide +kernel
theorem d_M_stopAtText_15 : decode b_M_stopAtText 15 = .ok (.getfield 196, 3) := by decide +kernel
theorem d_M_stopAtText_18 : decode b_M_stopAtText 18 = .ok (.iconst 1, 1) := by decide +kernel
theorem d_M_stopAtText_19 : decode b_M_stopAtText 19 = .ok (.isub, 1) := by decide +kernel
theorem d_M_stopAtText_20 : decode b_M_stopAtText 20 = .ok (.sipush 4000, 3) := by decide +kernel
theorem d_M_stopAtText_23 : decode b_M_stopAtText 23 = .ok (.isub, 1) := by decide +kernel
theorem d_M_stopAtText_24 : decode b_M_stopAtText 24 = .ok (.putfield 19, 3) := by decide +kernel
theorem d_M_stopAtText_27 : decode b_M_stopAtText 27 = .ok (.return_, 1) := by decide +kernel
set_option maxHeartbeats 4000000 in
set_option maxRecDepth 100000 in
theorem c_M_stopAtText (l : Launch) (dC : Nat → ClassId) (dI : Nat → Nat → Nat) (kA : Nat → ClassId) (sz : Nat) (mo : Nat) (ma : Nat → Nat) (mrf : Int) (mz : Int) (mls : Int) (mfp : Int) (mfm : Int) (mtx : Int) (mwd : Int) (mak : Int) (mli : Int) (mlx : Int) (mat : Int) (mtk : Int) (mtf : Int) (mtt : Int) (mfa : Int) (mla : Int) (mlp : Int) (mdp : Int) (msi : Int) (mpf : Int) (mpt : Int) (mdn : Bool) (hpr : -1000000 ≤ mtk ∧ mtk ≤ 1000000 ∧ -1000000 ≤ mtf ∧ mtf ≤ 1000000 ∧ -1000000 ≤ mfa ∧ mfa ≤ 1000000 ∧ -1000000 ≤ mla ∧ mla ≤ 1000000) : Met l y_M_stopAtText (wsy y_M_stopAtText b_M_stopAtText 1 none) (rmd 0 0 0) (li_Pr (dC, dI) CL (TY kA) [.ref mo] (fun h => h.size = sz ∧ va_P (dC, dI) CL [(mo, .inr (10, [.int (iI mrf), .ref (ma 0), .int (iI mz), .ref (ma 1), .ref (ma 2), .int (iI mls), .int (iI mfp), .int (iI mfm), .ref (ma 3), .int (iI mtx), .ref (ma 4), .ref (ma 5), .int (iI mwd), .ref (ma 6), .ref (ma 7), .int (iI mak), .ref (ma 8), .ref (ma 9), .int (iI mli), .int (iI mlx), .ref (ma 10), .ref (ma 11), .int (iI mat), .int (iI mtk), .int (iI mtf), .int (iI mtt), .int (iI mfa), .int (iI mla), .int (iI mlp), .int (iI mdp), .ref (ma 12), .ref (ma 13), .int (iI msi), .int (iI (bI mdn)), .int (iI mpf), .int (iI mpt)]))] h ∧ va_D (fun q => dI 100 0 ≤ q) [(mo, .inr (10, [.int (iI mrf), .ref (ma 0), .int (iI mz), .ref (ma 1), .ref (ma 2), .int (iI mls), .int (iI mfp), .int (iI mfm), .ref (ma 3), .int (iI mtx), .ref (ma 4), .ref (ma 5), .int (iI mwd), .ref (ma 6), .ref (ma 7), .int (iI mak), .ref (ma 8), .ref (ma 9), .int (iI mli), .int (iI mlx), .ref (ma 10), .ref (ma 11), .int (iI mat), .int (iI mtk), .int (iI mtf), .int (iI mtt), .int (iI mfa), .int (iI mla), .int (iI mlp), .int (iI mdp), .ref (ma 12), .ref (ma 13), .int (iI msi), .int (iI (bI mdn)), .int (iI mpf), .int (iI mpt)]))] ∧ (fun _ => True) h)) (li_Qw (S := (Int) × (Int)) (dC, dI) CL (fun u => PS.mk mat mtk mtf mtt u.1 u.2 mla mlp mpf mpt = (if mfa = 0 then (PS.mk mat mtk mtf mtt (-2) (mtf - 1 - 4000) mla mlp mpf mpt) else PS.mk mat mtk mtf mtt mfa mfp mla mlp mpf mpt) ∧ (u.1 = mfa ∨ u.1 = -2) ∧ ¬ u.1 = 0) (fun _ => none) (fun u => [(mo, .inr (10, [.int (iI mrf), .ref (ma 0), .int (iI mz), .ref (ma 1), .ref (ma 2), .int (iI mls), .int (iI u.2), .int (iI mfm), .ref (ma 3), .int (iI mtx), .ref (ma 4), .ref (ma 5), .int (iI mwd), .ref (ma 6), .ref (ma 7), .int (iI mak), .ref (ma 8), .ref (ma 9), .int (iI mli), .int (iI mlx), .ref (ma 10), .ref (ma 11), .int (iI mat), .int (iI mtk), .int (iI mtf), .int (iI mtt), .int (iI u.1), .int (iI mla), .int (iI mlp), .int (iI mdp), .ref (ma 12), .ref (ma 13), .int (iI msi), .int (iI (bI mdn)), .int (iI mpf), .int (iI mpt)]))]) (va_A [(mo, .inr (10, [.int (iI mrf), .ref (ma 0), .int (iI mz), .ref (ma 1), .ref (ma 2), .int (iI mls), .int (iI mfp), .int (iI mfm), .ref (ma 3), .int (iI mtx), .ref (ma 4), .ref (ma 5), .int (iI mwd), .ref (ma 6), .ref (ma 7), .int (iI mak), .ref (ma 8), .ref (ma 9), .int (iI mli), .int (iI mlx), .ref (ma 10), .ref (ma 11), .int (iI mat), .int (iI mtk), .int (iI mtf), .int (iI mtt), .int (iI mfa), .int (iI mla), .int (iI mlp), .int (iI mdp), .ref (ma 12), .ref (ma 13), .int (iI msi), .int (iI (bI mdn)), .int (iI mpf), .int (iI mpt)]))] sz)) 0 0 (va_A [(mo, .inr (10, [.int (iI mrf), .ref (ma 0), .int (iI mz), .ref (ma 1), .ref (ma 2), .int (iI mls), .int (iI mfp), .int (iI mfm), .ref (ma 3), .int (iI mtx), .ref (ma 4), .ref (ma 5), .int (iI mwd), .ref (ma 6), .ref (ma 7), .int (iI mak), .ref (ma 8), .ref (ma 9), .int (iI mli), .int (iI mlx), .ref (ma 10), .ref (ma 11), .int (iI mat), .int (iI mtk), .int (iI mtf), .int (iI mtt), .int (iI mfa), .int (iI mla), .int (iI mlp), .int (iI mdp), .ref (ma 12), .ref (ma 13), .int (iI msi), .int (iI (bI mdn)), .int (iI mpf), .int (iI mpt)]))] sz) := by
  refine li_mwv (by decide) (Nat.le_of_ble_eq_true rfl) ?_
  intro p e s m args below meth c Q A C hP hD hBx hK hN hG hA hAi hAN fin ls hl
  obtain ⟨hx, hb, hr, hml, hown, hts, hlocks, hin⟩ := C
  have hown : s.vm.findClass R_M = some m.cls := hown
  have hl : lv_has ls 1 [(0, .ref mo)] := hl
  suffices h9 : ∀ (H : Heap) (locs : List Loc), H = s.heap → locs = [] → W p l e (rmd 0 0 0) s m args below meth c H locs 0 0 Q (F0 m 0 ls []) from h9 _ _ rfl rfl
  intro H locs eH eL
  have hP : va_P (dC, dI) CL [(mo, .inr (10, [.int (iI mrf), .ref (ma 0), .int (iI mz), .ref (ma 1), .ref (ma 2), .int (iI mls), .int (iI mfp), .int (iI mfm), .ref (ma 3), .int (iI mtx), .ref (ma 4), .ref (ma 5), .int (iI mwd), .ref (ma 6), .ref (ma 7), .int (iI mak), .ref (ma 8), .ref (ma 9), .int (iI mli), .int (iI mlx), .ref (ma 10), .ref (ma 11), .int (iI mat), .int (iI mtk), .int (iI mtf), .int (iI mtt), .int (iI mfa), .int (iI mla), .int (iI mlp), .int (iI mdp), .ref (ma 12), .ref (ma 13), .int (iI msi), .int (iI (bI mdn)), .int (iI mpf), .int (iI mpt)]))] H := by rw [eH]; exact hP
  have hS : va_S A s.heap H locs := by rw [eH, eL]; exact va_S.rf
  refine lv_aload_n hx hb d_M_stopAtText_0 rfl (lv_at hl 0 rfl) ?_
  refine gf_M_224 hx hb hts hown hK hP 0 rfl rfl d_M_stopAtText_1 ?_
  refine li_if_ne (tgt := 27) hx hb d_M_stopAtText_4 (by decide) (by omega) (fun c1 => ?_) (fun c1 => ?_)
  · have _q := c1
    exact fin (mfa, mfp) _ _ _ _ (by show PS.mk mat mtk mtf mtt mfa mfp mla mlp mpf mpt = (if mfa = 0 then (PS.mk mat mtk mtf mtt (-2) (mtf - 1 - 4000) mla mlp mpf mpt) else PS.mk mat mtk mtf mtt mfa mfp mla mlp mpf mpt) ∧ (mfa = mfa ∨ mfa = -2) ∧ ¬ mfa = 0; refine ⟨by ((repeat (first | rw [if_pos (by omega)] | rw [if_neg (by omega)])); first | done | rfl | (rw [ep_n])), by omega, by omega⟩) (by first | exact hP | (subst_vars; exact hP)) (by first | exact hD | (subst_vars; exact hD)) hS d_M_stopAtText_27
  · have _q := c1
    refine lv_aload_n hx hb d_M_stopAtText_7 rfl (lv_at hl 0 rfl) ?_
    refine lv_bipush (v := iI (-2)) hx hb d_M_stopAtText_8 (by decide) ?_
    refine pf_M_224 hx hb hts hown hK hP hD hS 0 rfl (Nat.le_of_ble_eq_true rfl) d_M_stopAtText_10 (fun H locs hP hD hS => ?_)
    have hP : va_P (dC, dI) CL [(mo, .inr (10, [.int (iI mrf), .ref (ma 0), .int (iI mz), .ref (ma 1), .ref (ma 2), .int (iI mls), .int (iI mfp), .int (iI mfm), .ref (ma 3), .int (iI mtx), .ref (ma 4), .ref (ma 5), .int (iI mwd), .ref (ma 6), .ref (ma 7), .int (iI mak), .ref (ma 8), .ref (ma 9), .int (iI mli), .int (iI mlx), .ref (ma 10), .ref (ma 11), .int (iI mat), .int (iI mtk), .int (iI mtf), .int (iI mtt), .int (iI (-2)), .int (iI mla), .int (iI mlp), .int (iI mdp), .ref (ma 12), .ref (ma 13), .int (iI msi), .int (iI (bI mdn)), .int (iI mpf), .int (iI mpt)]))] H := hP
    have hD : va_D A [(mo, .inr (10, [.int (iI mrf), .ref (ma 0), .int (iI mz), .ref (ma 1), .ref (ma 2), .int (iI mls), .int (iI mfp), .int (iI mfm), .ref (ma 3), .int (iI mtx), .ref (ma 4), .ref (ma 5), .int (iI mwd), .ref (ma 6), .ref (ma 7), .int (iI mak), .ref (ma 8), .ref (ma 9), .int (iI mli), .int (iI mlx), .ref (ma 10), .ref (ma 11), .int (iI mat), .int (iI mtk), .int (iI mtf), .int (iI mtt), .int (iI (-2)), .int (iI mla), .int (iI mlp), .int (iI mdp), .ref (ma 12), .ref (ma 13), .int (iI msi), .int (iI (bI mdn)), .int (iI mpf), .int (iI mpt)]))] := hD
    refine lv_aload_n hx hb d_M_stopAtText_13 rfl (lv_at hl 0 rfl) ?_
    refine lv_aload_n hx hb d_M_stopAtText_14 rfl (lv_at hl 0 rfl) ?_
    refine gf_M_196 hx hb hts hown hK hP 0 rfl rfl d_M_stopAtText_15 ?_
    refine lv_iconst (v := iI 1) hx hb d_M_stopAtText_18 rfl ?_
    refine li_isub hx hb d_M_stopAtText_19 ?_
    refine lv_sipush (v := iI 4000) hx hb d_M_stopAtText_20 (by decide) ?_
    refine li_isub hx hb d_M_stopAtText_23 ?_
    refine li_nm (fun p_n ep_n => ?_)
    refine pf_M_19 hx hb hts hown hK hP hD hS 0 rfl (Nat.le_of_ble_eq_true rfl) d_M_stopAtText_24 (fun H locs hP hD hS => ?_)
    have hP : va_P (dC, dI) CL [(mo, .inr (10, [.int (iI mrf), .ref (ma 0), .int (iI mz), .ref (ma 1), .ref (ma 2), .int (iI mls), .int (iI p_n), .int (iI mfm), .ref (ma 3), .int (iI mtx), .ref (ma 4), .ref (ma 5), .int (iI mwd), .ref (ma 6), .ref (ma 7), .int (iI mak), .ref (ma 8), .ref (ma 9), .int (iI mli), .int (iI mlx), .ref (ma 10), .ref (ma 11), .int (iI mat), .int (iI mtk), .int (iI mtf), .int (iI mtt), .int (iI (-2)), .int (iI mla), .int (iI mlp), .int (iI mdp), .ref (ma 12), .ref (ma 13), .int (iI msi), .int (iI (bI mdn)), .int (iI mpf), .int (iI mpt)]))] H := hP
    have hD : va_D A [(mo, .inr (10, [.int (iI mrf), .ref (ma 0), .int (iI mz), .ref (ma 1), .ref (ma 2), .int (iI mls), .int (iI p_n), .int (iI mfm), .ref (ma 3), .int (iI mtx), .ref (ma 4), .ref (ma 5), .int (iI mwd), .ref (ma 6), .ref (ma 7), .int (iI mak), .ref (ma 8), .ref (ma 9), .int (iI mli), .int (iI mlx), .ref (ma 10), .ref (ma 11), .int (iI mat), .int (iI mtk), .int (iI mtf), .int (iI mtt), .int (iI (-2)), .int (iI mla), .int (iI mlp), .int (iI mdp), .ref (ma 12), .ref (ma 13), .int (iI msi), .int (iI (bI mdn)), .int (iI mpf), .int (iI mpt)]))] := hD
    exact fin ((-2), p_n) _ _ _ _ (by show PS.mk mat mtk mtf mtt (-2) p_n mla mlp mpf mpt = (if mfa = 0 then (PS.mk mat mtk mtf mtt (-2) (mtf - 1 - 4000) mla mlp mpf mpt) else PS.mk mat mtk mtf mtt mfa mfp mla mlp mpf mpt) ∧ ((-2) = mfa ∨ (-2) = -2) ∧ ¬ (-2) = 0; refine ⟨by ((repeat (first | rw [if_pos (by omega)] | rw [if_neg (by omega)])); first | done | rfl | (rw [ep_n])), by omega, by omega⟩) (by first | exact hP | (subst_vars; exact hP)) (by first | exact hD | (subst_vars; exact hD)) hS d_M_stopAtText_27
theorem d_M_refuse_0 : decode b_M_refuse 0 = .ok (.aload_n 0, 1) := by decide +kernel
theorem d_M_refuse_1 : decode b_M_refuse 1 = .ok (.getfield 202, 3) := by decide +kernel
theorem d_M_refuse_4 : decode b_M_refuse 4 = .ok (.bipush 7, 2) := by decide +kernel
theorem d_M_refuse_6 : decode b_M_refuse 6 = .ok (.if_icmp .ne 10, 3) := by decide +kernel
theorem d_M_refuse_9 : decode b_M_refuse 9 = .ok (.aload_n 0, 1) := by decide +kernel
theorem d_M_refuse_10 : decode b_M_refuse 10 = .ok (.invokevirtual 227, 3) := by decide +kernel
theorem d_M_refuse_13 : decode b_M_refuse 13 = .ok (.goto 7, 3) := by decide +kernel
theorem d_M_refuse_16 : decode b_M_refuse 16 = .ok (.aload_n 0, 1) := by decide +kernel
theorem d_M_refuse_17 : decode b_M_refuse 17 = .ok (.invokevirtual 230, 3) := by decide +kernel
theorem d_M_refuse_20 : decode b_M_refuse 20 = .ok (.return_, 1) := by decide +kernel
set_option maxHeartbeats 4000000 in
set_option maxRecDepth 100000 in
theorem c_M_refuse (l : Launch) (dC : Nat → ClassId) (dI : Nat → Nat → Nat) (kA : Nat → ClassId) (sz : Nat) (mo : Nat) (ma : Nat → Nat) (mrf : Int) (mz : Int) (mls : Int) (mfp : Int) (mfm : Int) (mtx : Int) (mwd : Int) (mak : Int) (mli : Int) (mlx : Int) (mat : Int) (mtk : Int) (mtf : Int) (mtt : Int) (mfa : Int) (mla : Int) (mlp : Int) (mdp : Int) (msi : Int) (mpf : Int) (mpt : Int) (mdn : Bool) (hpr : -1000000 ≤ mtk ∧ mtk ≤ 1000000 ∧ -1000000 ≤ mtf ∧ mtf ≤ 1000000 ∧ -1000000 ≤ mfa ∧ mfa ≤ 1000000 ∧ -1000000 ≤ mla ∧ mla ≤ 1000000) : Met l y_M_refuse (wsy y_M_refuse b_M_refuse 1 none) (rmd 1 0 0) (li_Pr (dC, dI) CL (TY kA) [.ref mo] (fun h => h.size = sz ∧ va_P (dC, dI) CL [(mo, .inr (10, [.int (iI mrf), .ref (ma 0), .int (iI mz), .ref (ma 1), .ref (ma 2), .int (iI mls), .int (iI mfp), .int (iI mfm), .ref (ma 3), .int (iI mtx), .ref (ma 4), .ref (ma 5), .int (iI mwd), .ref (ma 6), .ref (ma 7), .int (iI mak), .ref (ma 8), .ref (ma 9), .int (iI mli), .int (iI mlx), .ref (ma 10), .ref (ma 11), .int (iI mat), .int (iI mtk), .int (iI mtf), .int (iI mtt), .int (iI mfa), .int (iI mla), .int (iI mlp), .int (iI mdp), .ref (ma 12), .ref (ma 13), .int (iI msi), .int (iI (bI mdn)), .int (iI mpf), .int (iI mpt)]))] h ∧ va_D (fun q => dI 100 0 ≤ q) [(mo, .inr (10, [.int (iI mrf), .ref (ma 0), .int (iI mz), .ref (ma 1), .ref (ma 2), .int (iI mls), .int (iI mfp), .int (iI mfm), .ref (ma 3), .int (iI mtx), .ref (ma 4), .ref (ma 5), .int (iI mwd), .ref (ma 6), .ref (ma 7), .int (iI mak), .ref (ma 8), .ref (ma 9), .int (iI mli), .int (iI mlx), .ref (ma 10), .ref (ma 11), .int (iI mat), .int (iI mtk), .int (iI mtf), .int (iI mtt), .int (iI mfa), .int (iI mla), .int (iI mlp), .int (iI mdp), .ref (ma 12), .ref (ma 13), .int (iI msi), .int (iI (bI mdn)), .int (iI mpf), .int (iI mpt)]))] ∧ (fun _ => True) h)) (li_Qw (S := (Int) × (Int)) (dC, dI) CL (fun u => PS.mk mat mtk mtf mtt u.1 u.2 mla mlp mpf mpt = refuP mls (PS.mk mat mtk mtf mtt mfa mfp mla mlp mpf mpt) ∧ (u.1 = mfa ∨ u.1 = -2) ∧ ¬ u.1 = 0) (fun _ => none) (fun u => [(mo, .inr (10, [.int (iI mrf), .ref (ma 0), .int (iI mz), .ref (ma 1), .ref (ma 2), .int (iI mls), .int (iI u.2), .int (iI mfm), .ref (ma 3), .int (iI mtx), .ref (ma 4), .ref (ma 5), .int (iI mwd), .ref (ma 6), .ref (ma 7), .int (iI mak), .ref (ma 8), .ref (ma 9), .int (iI mli), .int (iI mlx), .ref (ma 10), .ref (ma 11), .int (iI mat), .int (iI mtk), .int (iI mtf), .int (iI mtt), .int (iI u.1), .int (iI mla), .int (iI mlp), .int (iI mdp), .ref (ma 12), .ref (ma 13), .int (iI msi), .int (iI (bI mdn)), .int (iI mpf), .int (iI mpt)]))]) (va_A [(mo, .inr (10, [.int (iI mrf), .ref (ma 0), .int (iI mz), .ref (ma 1), .ref (ma 2), .int (iI mls), .int (iI mfp), .int (iI mfm), .ref (ma 3), .int (iI mtx), .ref (ma 4), .ref (ma 5), .int (iI mwd), .ref (ma 6), .ref (ma 7), .int (iI mak), .ref (ma 8), .ref (ma 9), .int (iI mli), .int (iI mlx), .ref (ma 10), .ref (ma 11), .int (iI mat), .int (iI mtk), .int (iI mtf), .int (iI mtt), .int (iI mfa), .int (iI mla), .int (iI mlp), .int (iI mdp), .ref (ma 12), .ref (ma 13), .int (iI msi), .int (iI (bI mdn)), .int (iI mpf), .int (iI mpt)]))] sz)) 0 0 (va_A [(mo, .inr (10, [.int (iI mrf), .ref (ma 0), .int (iI mz), .ref (ma 1), .ref (ma 2), .int (iI mls), .int (iI mfp), .int (iI mfm), .ref (ma 3), .int (iI mtx), .ref (ma 4), .ref (ma 5), .int (iI mwd), .ref (ma 6), .ref (ma 7), .int (iI mak), .ref (ma 8), .ref (ma 9), .int (iI mli), .int (iI mlx), .ref (ma 10), .ref (ma 11), .int (iI mat), .int (iI mtk), .int (iI mtf), .int (iI mtt), .int (iI mfa), .int (iI mla), .int (iI mlp), .int (iI mdp), .ref (ma 12), .ref (ma 13), .int (iI msi), .int (iI (bI mdn)), .int (iI mpf), .int (iI mpt)]))] sz) := by
  refine li_mwv (by decide) (Nat.le_of_ble_eq_true rfl) ?_
  intro p e s m args below meth c Q A C hP hD hBx hK hN hG hA hAi hAN fin ls hl
  obtain ⟨hx, hb, hr, hml, hown, hts, hlocks, hin⟩ := C
  have hown : s.vm.findClass R_M = some m.cls := hown
  have hl : lv_has ls 1 [(0, .ref mo)] := hl
  suffices h9 : ∀ (H : Heap) (locs : List Loc), H = s.heap → locs = [] → W p l e (rmd 1 0 0) s m args below meth c H locs 0 0 Q (F0 m 0 ls []) from h9 _ _ rfl rfl
  intro H locs eH eL
  have hP : va_P (dC, dI) CL [(mo, .inr (10, [.int (iI mrf), .ref (ma 0), .int (iI mz), .ref (ma 1), .ref (ma 2), .int (iI mls), .int (iI mfp), .int (iI mfm), .ref (ma 3), .int (iI mtx), .ref (ma 4), .ref (ma 5), .int (iI mwd), .ref (ma 6), .ref (ma 7), .int (iI mak), .ref (ma 8), .ref (ma 9), .int (iI mli), .int (iI mlx), .ref (ma 10), .ref (ma 11), .int (iI mat), .int (iI mtk), .int (iI mtf), .int (iI mtt), .int (iI mfa), .int (iI mla), .int (iI mlp), .int (iI mdp), .ref (ma 12), .ref (ma 13), .int (iI msi), .int (iI (bI mdn)), .int (iI mpf), .int (iI mpt)]))] H := by rw [eH]; exact hP
  have hS : va_S A s.heap H locs := by rw [eH, eL]; exact va_S.rf
  refine lv_aload_n hx hb d_M_refuse_0 rfl (lv_at hl 0 rfl) ?_
  refine gf_M_202 hx hb hts hown hK hP 0 rfl rfl d_M_refuse_1 ?_
  refine lv_bipush (v := iI 7) hx hb d_M_refuse_4 (by decide) ?_
  refine li_icmp_ne (tgt := 16) hx hb d_M_refuse_6 (by decide) (by omega) (by omega) (fun c1 => ?_) (fun c1 => ?_)
  · have _q := c1
    refine lv_aload_n hx hb d_M_refuse_16 rfl (lv_at hl 0 rfl) ?_
    refine li_callw (wc := [(mo, .inr (10, [.int (iI mrf), .ref (ma 0), .int (iI mz), .ref (ma 1), .ref (ma 2), .int (iI mls), .int (iI mfp), .int (iI mfm), .ref (ma 3), .int (iI mtx), .ref (ma 4), .ref (ma 5), .int (iI mwd), .ref (ma 6), .ref (ma 7), .int (iI mak), .ref (ma 8), .ref (ma 9), .int (iI mli), .int (iI mlx), .ref (ma 10), .ref (ma 11), .int (iI mat), .int (iI mtk), .int (iI mtf), .int (iI mtt), .int (iI mfa), .int (iI mla), .int (iI mlp), .int (iI mdp), .ref (ma 12), .ref (ma 13), .int (iI msi), .int (iI (bI mdn)), .int (iI mpf), .int (iI mpt)]))]) (wr := []) (va_runV (As := []) (rest := []) ⟨hx, hb, hml, hown, hts⟩ (c_M_stop l dC dI kA H.size mo ma mrf mz mls mfp mfm mtx mwd mak mli mlx mat mtk mtf mtt mfa mla mlp mdp msi mpf mpt mdn (by exact hpr)) (cw_M_230 hts rfl rfl ⟨Nat.le_of_ble_eq_true rfl, Nat.le_of_ble_eq_true rfl⟩) (li_preV (va_recv hK hP (ci := 10) (q0 := 0) rfl rfl) ⟨rfl, hP.sub [0] rfl, (hD.sub [0] (by decide) rfl).weaken (fun _ _ _ h => hAN _ h), trivial⟩ hK hN (hG.go hS hAN)) rfl rfl hl.1 rfl (lv_room (Nat.le_of_ble_eq_true rfl)) d_M_refuse_17 ⟨(by show 0 + 0 ≤ 0; omega), (by show 0 + 0 ≤ 0; omega)⟩) hP hD hS hA [0] [] rfl rfl (by decide) (by decide) (fun u2 H locs hu2 hP hD hS _hk => ?_)
    obtain ⟨n13, n24⟩ := u2
    have hP : va_P (dC, dI) CL [(mo, .inr (10, [.int (iI mrf), .ref (ma 0), .int (iI mz), .ref (ma 1), .ref (ma 2), .int (iI mls), .int (iI n24), .int (iI mfm), .ref (ma 3), .int (iI mtx), .ref (ma 4), .ref (ma 5), .int (iI mwd), .ref (ma 6), .ref (ma 7), .int (iI mak), .ref (ma 8), .ref (ma 9), .int (iI mli), .int (iI mlx), .ref (ma 10), .ref (ma 11), .int (iI mat), .int (iI mtk), .int (iI mtf), .int (iI mtt), .int (iI n13), .int (iI mla), .int (iI mlp), .int (iI mdp), .ref (ma 12), .ref (ma 13), .int (iI msi), .int (iI (bI mdn)), .int (iI mpf), .int (iI mpt)]))] H := hP
    have hD : va_D A [(mo, .inr (10, [.int (iI mrf), .ref (ma 0), .int (iI mz), .ref (ma 1), .ref (ma 2), .int (iI mls), .int (iI n24), .int (iI mfm), .ref (ma 3), .int (iI mtx), .ref (ma 4), .ref (ma 5), .int (iI mwd), .ref (ma 6), .ref (ma 7), .int (iI mak), .ref (ma 8), .ref (ma 9), .int (iI mli), .int (iI mlx), .ref (ma 10), .ref (ma 11), .int (iI mat), .int (iI mtk), .int (iI mtf), .int (iI mtt), .int (iI n13), .int (iI mla), .int (iI mlp), .int (iI mdp), .ref (ma 12), .ref (ma 13), .int (iI msi), .int (iI (bI mdn)), .int (iI mpf), .int (iI mpt)]))] := hD
    have hp17 : PS.mk mat mtk mtf mtt n13 n24 mla mlp mpf mpt = stopP mls (PS.mk mat mtk mtf mtt mfa mfp mla mlp mpf mpt) ∧ (n13 = mfa ∨ n13 = -2) ∧ ¬ n13 = 0 := hu2
    exact fin (n13, n24) _ _ _ _ (by show PS.mk mat mtk mtf mtt n13 n24 mla mlp mpf mpt = refuP mls (PS.mk mat mtk mtf mtt mfa mfp mla mlp mpf mpt) ∧ (n13 = mfa ∨ n13 = -2) ∧ ¬ n13 = 0; first | (refine ⟨by (unfold refuP; dsimp only [PS.mk, PS.at_, PS.tk, PS.tf, PS.tt, PS.fa, PS.fp, PS.la, PS.lp, PS.pf, PS.pt]; rw [if_pos (by omega)]; exact hp10.1), hp10.2.1, hp10.2.2⟩; done) | (refine ⟨by (unfold refuP; dsimp only [PS.mk, PS.at_, PS.tk, PS.tf, PS.tt, PS.fa, PS.fp, PS.la, PS.lp, PS.pf, PS.pt]; rw [if_neg (by omega)]; exact hp17.1), hp17.2.1, hp17.2.2⟩; done)) (by first | exact hP | (subst_vars; exact hP)) (by first | exact hD | (subst_vars; exact hD)) hS d_M_refuse_20
  · have _q := c1
    refine lv_aload_n hx hb d_M_refuse_9 rfl (lv_at hl 0 rfl) ?_
    refine li_callw (wc := [(mo, .inr (10, [.int (iI mrf), .ref (ma 0), .int (iI mz), .ref (ma 1), .ref (ma 2), .int (iI mls), .int (iI mfp), .int (iI mfm), .ref (ma 3), .int (iI mtx), .ref (ma 4), .ref (ma 5), .int (iI mwd), .ref (ma 6), .ref (ma 7), .int (iI mak), .ref (ma 8), .ref (ma 9), .int (iI mli), .int (iI mlx), .ref (ma 10), .ref (ma 11), .int (iI mat), .int (iI mtk), .int (iI mtf), .int (iI mtt), .int (iI mfa), .int (iI mla), .int (iI mlp), .int (iI mdp), .ref (ma 12), .ref (ma 13), .int (iI msi), .int (iI (bI mdn)), .int (iI mpf), .int (iI mpt)]))]) (wr := []) (va_runV (As := []) (rest := []) ⟨hx, hb, hml, hown, hts⟩ (c_M_stopAtText l dC dI kA H.size mo ma mrf mz mls mfp mfm mtx mwd mak mli mlx mat mtk mtf mtt mfa mla mlp mdp msi mpf mpt mdn (by exact hpr)) (cw_M_227 hts rfl rfl ⟨Nat.le_of_ble_eq_true rfl, Nat.le_of_ble_eq_true rfl⟩) (li_preV (va_recv hK hP (ci := 10) (q0 := 0) rfl rfl) ⟨rfl, hP.sub [0] rfl, (hD.sub [0] (by decide) rfl).weaken (fun _ _ _ h => hAN _ h), trivial⟩ hK hN (hG.go hS hAN)) rfl rfl hl.1 rfl (lv_room (Nat.le_of_ble_eq_true rfl)) d_M_refuse_10 ⟨(by show 0 + 0 ≤ 0; omega), (by show 0 + 0 ≤ 0; omega)⟩) hP hD hS hA [0] [] rfl rfl (by decide) (by decide) (fun u5 H locs hu5 hP hD hS _hk => ?_)
    obtain ⟨n16, n27⟩ := u5
    have hP : va_P (dC, dI) CL [(mo, .inr (10, [.int (iI mrf), .ref (ma 0), .int (iI mz), .ref (ma 1), .ref (ma 2), .int (iI mls), .int (iI n27), .int (iI mfm), .ref (ma 3), .int (iI mtx), .ref (ma 4), .ref (ma 5), .int (iI mwd), .ref (ma 6), .ref (ma 7), .int (iI mak), .ref (ma 8), .ref (ma 9), .int (iI mli), .int (iI mlx), .ref (ma 10), .ref (ma 11), .int (iI mat), .int (iI mtk), .int (iI mtf), .int (iI mtt), .int (iI n16), .int (iI mla), .int (iI mlp), .int (iI mdp), .ref (ma 12), .ref (ma 13), .int (iI msi), .int (iI (bI mdn)), .int (iI mpf), .int (iI mpt)]))] H := hP
    have hD : va_D A [(mo, .inr (10, [.int (iI mrf), .ref (ma 0), .int (iI mz), .ref (ma 1), .ref (ma 2), .int (iI mls), .int (iI n27), .int (iI mfm), .ref (ma 3), .int (iI mtx), .ref (ma 4), .ref (ma 5), .int (iI mwd), .ref (ma 6), .ref (ma 7), .int (iI mak), .ref (ma 8), .ref (ma 9), .int (iI mli), .int (iI mlx), .ref (ma 10), .ref (ma 11), .int (iI mat), .int (iI mtk), .int (iI mtf), .int (iI mtt), .int (iI n16), .int (iI mla), .int (iI mlp), .int (iI mdp), .ref (ma 12), .ref (ma 13), .int (iI msi), .int (iI (bI mdn)), .int (iI mpf), .int (iI mpt)]))] := hD
    have hp10 : PS.mk mat mtk mtf mtt n16 n27 mla mlp mpf mpt = (if mfa = 0 then (PS.mk mat mtk mtf mtt (-2) (mtf - 1 - 4000) mla mlp mpf mpt) else PS.mk mat mtk mtf mtt mfa mfp mla mlp mpf mpt) ∧ (n16 = mfa ∨ n16 = -2) ∧ ¬ n16 = 0 := hu5
    refine lv_goto (tgt := 20) hx hb d_M_refuse_13 (by decide) ?_
    exact fin (n16, n27) _ _ _ _ (by show PS.mk mat mtk mtf mtt n16 n27 mla mlp mpf mpt = refuP mls (PS.mk mat mtk mtf mtt mfa mfp mla mlp mpf mpt) ∧ (n16 = mfa ∨ n16 = -2) ∧ ¬ n16 = 0; first | (refine ⟨by (unfold refuP; dsimp only [PS.mk, PS.at_, PS.tk, PS.tf, PS.tt, PS.fa, PS.fp, PS.la, PS.lp, PS.pf, PS.pt]; rw [if_pos (by omega)]; exact hp10.1), hp10.2.1, hp10.2.2⟩; done) | (refine ⟨by (unfold refuP; dsimp only [PS.mk, PS.at_, PS.tk, PS.tf, PS.tt, PS.fa, PS.fp, PS.la, PS.lp, PS.pf, PS.pt]; rw [if_neg (by omega)]; exact hp17.1), hp17.2.1, hp17.2.2⟩; done)) (by first | exact hP | (subst_vars; exact hP)) (by first | exact hD | (subst_vars; exact hD)) hS d_M_refuse_20
theorem d_M_note_0 : decode b_M_note 0 = .ok (.aload_n 0, 1) := by decide +kernel
theorem d_M_note_1 : decode b_M_note 1 = .ok (.getfield 233, 3) := by decide +kernel
theorem d_M_note_4 : decode b_M_note 4 = .ok (.ifCond .ne 17, 3) := by decide +kernel
theorem d_M_note_7 : decode b_M_note 7 = .ok (.aload_n 0, 1) := by decide +kernel
theorem d_M_note_8 : decode b_M_note 8 = .ok (.iload_n 1, 1) := by decide +kernel
theorem d_M_note_9 : decode b_M_note 9 = .ok (.putfield 233, 3) := by decide +kernel
theorem d_M_note_12 : decode b_M_note 12 = .ok (.aload_n 0, 1) := by decide +kernel
theorem d_M_note_13 : decode b_M_note 13 = .ok (.iload_n 2, 1) := by decide +kernel
theorem d_M_note_14 : decode b_M_note 14 = .ok (.sipush 4000, 3) := by decide +kernel
theorem d_M_note_17 : decode b_M_note 17 = .ok (.isub, 1) := by decide +kernel
theorem d_M_note_18 : decode b_M_note 18 = .ok (.putfield 236, 3) := by decide +kernel
theorem d_M_note_21 : decode b_M_note 21 = .ok (.return_, 1) := by decide +kernel
set_option maxHeartbeats 4000000 in
set_option maxRecDepth 100000 in
theorem c_M_note (l : Launch) (dC : Nat → ClassId) (dI : Nat → Nat → Nat) (kA : Nat → ClassId) (sz : Nat) (mo : Nat) (ma : Nat → Nat) (mrf : Int) (mz : Int) (mls : Int) (mfp : Int) (mfm : Int) (mtx : Int) (mwd : Int) (mak : Int) (mli : Int) (mlx : Int) (mat : Int) (mtk : Int) (mtf : Int) (mtt : Int) (mfa : Int) (mla : Int) (mlp : Int) (mdp : Int) (msi : Int) (mpf : Int) (mpt : Int) (mdn : Bool) (a0 : Int) (a1 : Int) (hpr : -1000000 ≤ mtk ∧ mtk ≤ 1000000 ∧ -1000000 ≤ mtf ∧ mtf ≤ 1000000 ∧ -1000000 ≤ mfa ∧ mfa ≤ 1000000 ∧ -1000000 ≤ mla ∧ mla ≤ 1000000) : Met l y_M_note (wsy y_M_note b_M_note 3 none) (rmd 0 0 0) (li_Pr (dC, dI) CL (TY kA) [.ref mo, .int (iI a0), .int (iI a1)] (fun h => h.size = sz ∧ va_P (dC, dI) CL [(mo, .inr (10, [.int (iI mrf), .ref (ma 0), .int (iI mz), .ref (ma 1), .ref (ma 2), .int (iI mls), .int (iI mfp), .int (iI mfm), .ref (ma 3), .int (iI mtx), .ref (ma 4), .ref (ma 5), .int (iI mwd), .ref (ma 6), .ref (ma 7), .int (iI mak), .ref (ma 8), .ref (ma 9), .int (iI mli), .int (iI mlx), .ref (ma 10), .ref (ma 11), .int (iI mat), .int (iI mtk), .int (iI mtf), .int (iI mtt), .int (iI mfa), .int (iI mla), .int (iI mlp), .int (iI mdp), .ref (ma 12), .ref (ma 13), .int (iI msi), .int (iI (bI mdn)), .int (iI mpf), .int (iI mpt)]))] h ∧ va_D (fun q => dI 100 0 ≤ q) [(mo, .inr (10, [.int (iI mrf), .ref (ma 0), .int (iI mz), .ref (ma 1), .ref (ma 2), .int (iI mls), .int (iI mfp), .int (iI mfm), .ref (ma 3), .int (iI mtx), .ref (ma 4), .ref (ma 5), .int (iI mwd), .ref (ma 6), .ref (ma 7), .int (iI mak), .ref (ma 8), .ref (ma 9), .int (iI mli), .int (iI mlx), .ref (ma 10), .ref (ma 11), .int (iI mat), .int (iI mtk), .int (iI mtf), .int (iI mtt), .int (iI mfa), .int (iI mla), .int (iI mlp), .int (iI mdp), .ref (ma 12), .ref (ma 13), .int (iI msi), .int (iI (bI mdn)), .int (iI mpf), .int (iI mpt)]))] ∧ (fun _ => True) h)) (li_Qw (S := (Int) × (Int)) (dC, dI) CL (fun u => PS.mk mat mtk mtf mtt mfa mfp u.1 u.2 mpf mpt = noteP a0 a1 (PS.mk mat mtk mtf mtt mfa mfp mla mlp mpf mpt) ∧ ((mla = 0 ∧ u.1 = a0) ∨ (¬ mla = 0 ∧ u.1 = mla))) (fun _ => none) (fun u => [(mo, .inr (10, [.int (iI mrf), .ref (ma 0), .int (iI mz), .ref (ma 1), .ref (ma 2), .int (iI mls), .int (iI mfp), .int (iI mfm), .ref (ma 3), .int (iI mtx), .ref (ma 4), .ref (ma 5), .int (iI mwd), .ref (ma 6), .ref (ma 7), .int (iI mak), .ref (ma 8), .ref (ma 9), .int (iI mli), .int (iI mlx), .ref (ma 10), .ref (ma 11), .int (iI mat), .int (iI mtk), .int (iI mtf), .int (iI mtt), .int (iI mfa), .int (iI u.1), .int (iI u.2), .int (iI mdp), .ref (ma 12), .ref (ma 13), .int (iI msi), .int (iI (bI mdn)), .int (iI mpf), .int (iI mpt)]))]) (va_A [(mo, .inr (10, [.int (iI mrf), .ref (ma 0), .int (iI mz), .ref (ma 1), .ref (ma 2), .int (iI mls), .int (iI mfp), .int (iI mfm), .ref (ma 3), .int (iI mtx), .ref (ma 4), .ref (ma 5), .int (iI mwd), .ref (ma 6), .ref (ma 7), .int (iI mak), .ref (ma 8), .ref (ma 9), .int (iI mli), .int (iI mlx), .ref (ma 10), .ref (ma 11), .int (iI mat), .int (iI mtk), .int (iI mtf), .int (iI mtt), .int (iI mfa), .int (iI mla), .int (iI mlp), .int (iI mdp), .ref (ma 12), .ref (ma 13), .int (iI msi), .int (iI (bI mdn)), .int (iI mpf), .int (iI mpt)]))] sz)) 0 0 (va_A [(mo, .inr (10, [.int (iI mrf), .ref (ma 0), .int (iI mz), .ref (ma 1), .ref (ma 2), .int (iI mls), .int (iI mfp), .int (iI mfm), .ref (ma 3), .int (iI mtx), .ref (ma 4), .ref (ma 5), .int (iI mwd), .ref (ma 6), .ref (ma 7), .int (iI mak), .ref (ma 8), .ref (ma 9), .int (iI mli), .int (iI mlx), .ref (ma 10), .ref (ma 11), .int (iI mat), .int (iI mtk), .int (iI mtf), .int (iI mtt), .int (iI mfa), .int (iI mla), .int (iI mlp), .int (iI mdp), .ref (ma 12), .ref (ma 13), .int (iI msi), .int (iI (bI mdn)), .int (iI mpf), .int (iI mpt)]))] sz) := by
  refine li_mwv (by decide) (Nat.le_of_ble_eq_true rfl) ?_
  intro p e s m args below meth c Q A C hP hD hBx hK hN hG hA hAi hAN fin ls hl
  obtain ⟨hx, hb, hr, hml, hown, hts, hlocks, hin⟩ := C
  have hown : s.vm.findClass R_M = some m.cls := hown
  have hl : lv_has ls 3 [(0, .ref mo), (1, .int (iI a0)), (2, .int (iI a1))] := hl
  suffices h9 : ∀ (H : Heap) (locs : List Loc), H = s.heap → locs = [] → W p l e (rmd 0 0 0) s m args below meth c H locs 0 0 Q (F0 m 0 ls []) from h9 _ _ rfl rfl
  intro H locs eH eL
  have hP : va_P (dC, dI) CL [(mo, .inr (10, [.int (iI mrf), .ref (ma 0), .int (iI mz), .ref (ma 1), .ref (ma 2), .int (iI mls), .int (iI mfp), .int (iI mfm), .ref (ma 3), .int (iI mtx), .ref (ma 4), .ref (ma 5), .int (iI mwd), .ref (ma 6), .ref (ma 7), .int (iI mak), .ref (ma 8), .ref (ma 9), .int (iI mli), .int (iI mlx), .ref (ma 10), .ref (ma 11), .int (iI mat), .int (iI mtk), .int (iI mtf), .int (iI mtt), .int (iI mfa), .int (iI mla), .int (iI mlp), .int (iI mdp), .ref (ma 12), .ref (ma 13), .int (iI msi), .int (iI (bI mdn)), .int (iI mpf), .int (iI mpt)]))] H := by rw [eH]; exact hP
  have hS : va_S A s.heap H locs := by rw [eH, eL]; exact va_S.rf
  refine lv_aload_n hx hb d_M_note_0 rfl (lv_at hl 0 rfl) ?_
  refine gf_M_233 hx hb hts hown hK hP 0 rfl rfl d_M_note_1 ?_
  refine li_if_ne (tgt := 21) hx hb d_M_note_4 (by decide) (by omega) (fun c1 => ?_) (fun c1 => ?_)
  · have _q := c1
    exact fin (mla, mlp) _ _ _ _ (by show PS.mk mat mtk mtf mtt mfa mfp mla mlp mpf mpt = noteP a0 a1 (PS.mk mat mtk mtf mtt mfa mfp mla mlp mpf mpt) ∧ ((mla = 0 ∧ mla = a0) ∨ (¬ mla = 0 ∧ mla = mla)); refine ⟨by (unfold noteP; dsimp only [PS.mk, PS.at_, PS.tk, PS.tf, PS.tt, PS.fa, PS.fp, PS.la, PS.lp, PS.pf, PS.pt]; (repeat (first | rw [if_pos (by omega)] | rw [if_neg (by omega)])); first | done | rfl | (rw [ep_n])), by omega⟩) (by first | exact hP | (subst_vars; exact hP)) (by first | exact hD | (subst_vars; exact hD)) hS d_M_note_21
  · have _q := c1
    refine lv_aload_n hx hb d_M_note_7 rfl (lv_at hl 0 rfl) ?_
    refine lv_iload_n hx hb d_M_note_8 rfl (lv_at hl 1 rfl) ?_
    refine pf_M_233 hx hb hts hown hK hP hD hS 0 rfl (Nat.le_of_ble_eq_true rfl) d_M_note_9 (fun H locs hP hD hS => ?_)
    have hP : va_P (dC, dI) CL [(mo, .inr (10, [.int (iI mrf), .ref (ma 0), .int (iI mz), .ref (ma 1), .ref (ma 2), .int (iI mls), .int (iI mfp), .int (iI mfm), .ref (ma 3), .int (iI mtx), .ref (ma 4), .ref (ma 5), .int (iI mwd), .ref (ma 6), .ref (ma 7), .int (iI mak), .ref (ma 8), .ref (ma 9), .int (iI mli), .int (iI mlx), .ref (ma 10), .ref (ma 11), .int (iI mat), .int (iI mtk), .int (iI mtf), .int (iI mtt), .int (iI mfa), .int (iI a0), .int (iI mlp), .int (iI mdp), .ref (ma 12), .ref (ma 13), .int (iI msi), .int (iI (bI mdn)), .int (iI mpf), .int (iI mpt)]))] H := hP
    have hD : va_D A [(mo, .inr (10, [.int (iI mrf), .ref (ma 0), .int (iI mz), .ref (ma 1), .ref (ma 2), .int (iI mls), .int (iI mfp), .int (iI mfm), .ref (ma 3), .int (iI mtx), .ref (ma 4), .ref (ma 5), .int (iI mwd), .ref (ma 6), .ref (ma 7), .int (iI mak), .ref (ma 8), .ref (ma 9), .int (iI mli), .int (iI mlx), .ref (ma 10), .ref (ma 11), .int (iI mat), .int (iI mtk), .int (iI mtf), .int (iI mtt), .int (iI mfa), .int (iI a0), .int (iI mlp), .int (iI mdp), .ref (ma 12), .ref (ma 13), .int (iI msi), .int (iI (bI mdn)), .int (iI mpf), .int (iI mpt)]))] := hD
    refine lv_aload_n hx hb d_M_note_12 rfl (lv_at hl 0 rfl) ?_
    refine lv_iload_n hx hb d_M_note_13 rfl (lv_at hl 2 rfl) ?_
    refine lv_sipush (v := iI 4000) hx hb d_M_note_14 (by decide) ?_
    refine li_isub hx hb d_M_note_17 ?_
    refine li_nm (fun p_n ep_n => ?_)
    refine pf_M_236 hx hb hts hown hK hP hD hS 0 rfl (Nat.le_of_ble_eq_true rfl) d_M_note_18 (fun H locs hP hD hS => ?_)
    have hP : va_P (dC, dI) CL [(mo, .inr (10, [.int (iI mrf), .ref (ma 0), .int (iI mz), .ref (ma 1), .ref (ma 2), .int (iI mls), .int (iI mfp), .int (iI mfm), .ref (ma 3), .int (iI mtx), .ref (ma 4), .ref (ma 5), .int (iI mwd), .ref (ma 6), .ref (ma 7), .int (iI mak), .ref (ma 8), .ref (ma 9), .int (iI mli), .int (iI mlx), .ref (ma 10), .ref (ma 11), .int (iI mat), .int (iI mtk), .int (iI mtf), .int (iI mtt), .int (iI mfa), .int (iI a0), .int (iI p_n), .int (iI mdp), .ref (ma 12), .ref (ma 13), .int (iI msi), .int (iI (bI mdn)), .int (iI mpf), .int (iI mpt)]))] H := hP
    have hD : va_D A [(mo, .inr (10, [.int (iI mrf), .ref (ma 0), .int (iI mz), .ref (ma 1), .ref (ma 2), .int (iI mls), .int (iI mfp), .int (iI mfm), .ref (ma 3), .int (iI mtx), .ref (ma 4), .ref (ma 5), .int (iI mwd), .ref (ma 6), .ref (ma 7), .int (iI mak), .ref (ma 8), .ref (ma 9), .int (iI mli), .int (iI mlx), .ref (ma 10), .ref (ma 11), .int (iI mat), .int (iI mtk), .int (iI mtf), .int (iI mtt), .int (iI mfa), .int (iI a0), .int (iI p_n), .int (iI mdp), .ref (ma 12), .ref (ma 13), .int (iI msi), .int (iI (bI mdn)), .int (iI mpf), .int (iI mpt)]))] := hD
    exact fin (a0, p_n) _ _ _ _ (by show PS.mk mat mtk mtf mtt mfa mfp a0 p_n mpf mpt = noteP a0 a1 (PS.mk mat mtk mtf mtt mfa mfp mla mlp mpf mpt) ∧ ((mla = 0 ∧ a0 = a0) ∨ (¬ mla = 0 ∧ a0 = mla)); refine ⟨by (unfold noteP; dsimp only [PS.mk, PS.at_, PS.tk, PS.tf, PS.tt, PS.fa, PS.fp, PS.la, PS.lp, PS.pf, PS.pt]; (repeat (first | rw [if_pos (by omega)] | rw [if_neg (by omega)])); first | done | rfl | (rw [ep_n])), by omega⟩) (by first | exact hP | (subst_vars; exact hP)) (by first | exact hD | (subst_vars; exact hD)) hS d_M_note_21
theorem d_M_indexOf_0 : decode b_M_indexOf 0 = .ok (.aload_n 0, 1) := by decide +kernel
theorem d_M_indexOf_1 : decode b_M_indexOf 1 = .ok (.iload_n 1, 1) := by decide +kernel
theorem d_M_indexOf_2 : decode b_M_indexOf 2 = .ok (.iload_n 2, 1) := by decide +kernel
theorem d_M_indexOf_3 : decode b_M_indexOf 3 = .ok (.ldc2_w 239, 3) := by decide +kernel
theorem d_M_indexOf_6 : decode b_M_indexOf 6 = .ok (.invokevirtual 184, 3) := by decide +kernel
theorem d_M_indexOf_9 : decode b_M_indexOf 9 = .ok (.ifCond .eq 7, 3) := by decide +kernel
theorem d_M_indexOf_12 : decode b_M_indexOf 12 = .ok (.iconst 0, 1) := by decide +kernel
theorem d_M_indexOf_13 : decode b_M_indexOf 13 = .ok (.goto 84, 3) := by decide +kernel
theorem d_M_indexOf_16 : decode b_M_indexOf 16 = .ok (.aload_n 0, 1) := by decide +kernel
theorem d_M_indexOf_17 : decode b_M_indexOf 17 = .ok (.iload_n 1, 1) := by decide +kernel
theorem d_M_indexOf_18 : decode b_M_indexOf 18 = .ok (.iload_n 2, 1) := by decide +kernel
theorem d_M_indexOf_19 : decode b_M_indexOf 19 = .ok (.ldc2_w 241, 3) := by decide +kernel
theorem d_M_indexOf_22 : decode b_M_indexOf 22 = .ok (.invokevirtual 184, 3) := by decide +kernel
theorem d_M_indexOf_25 : decode b_M_indexOf 25 = .ok (.ifCond .eq 7, 3) := by decide +kernel
theorem d_M_indexOf_28 : decode b_M_indexOf 28 = .ok (.iconst 1, 1) := by decide +kernel
theorem d_M_indexOf_29 : decode b_M_indexOf 29 = .ok (.goto 68, 3) := by decide +kernel
theorem d_M_indexOf_32 : decode b_M_indexOf 32 = .ok (.aload_n 0, 1) := by decide +kernel
theorem d_M_indexOf_33 : decode b_M_indexOf 33 = .ok (.iload_n 1, 1) := by decide +kernel
theorem d_M_indexOf_34 : decode b_M_indexOf 34 = .ok (.iload_n 2, 1) := by decide +kernel
theorem d_M_indexOf_35 : decode b_M_indexOf 35 = .ok (.ldc2_w 243, 3) := by decide +kernel
theorem d_M_indexOf_38 : decode b_M_indexOf 38 = .ok (.invokevirtual 184, 3) := by decide +kernel
theorem d_M_indexOf_41 : decode b_M_indexOf 41 = .ok (.ifCond .eq 7, 3) := by decide +kernel
theorem d_M_indexOf_44 : decode b_M_indexOf 44 = .ok (.iconst 2, 1) := by decide +kernel
theorem d_M_indexOf_45 : decode b_M_indexOf 45 = .ok (.goto 52, 3) := by decide +kernel
theorem d_M_indexOf_48 : decode b_M_indexOf 48 = .ok (.aload_n 0, 1) := by decide +kernel
theorem d_M_indexOf_49 : decode b_M_indexOf 49 = .ok (.iload_n 1, 1) := by decide +kernel
theorem d_M_indexOf_50 : decode b_M_indexOf 50 = .ok (.iload_n 2, 1) := by decide +kernel
theorem d_M_indexOf_51 : decode b_M_indexOf 51 = .ok (.ldc2_w 245, 3) := by decide +kernel
theorem d_M_indexOf_54 : decode b_M_indexOf 54 = .ok (.invokevirtual 184, 3) := by decide +kernel
theorem d_M_indexOf_57 : decode b_M_indexOf 57 = .ok (.ifCond .eq 7, 3) := by decide +kernel
theorem d_M_indexOf_60 : decode b_M_indexOf 60 = .ok (.iconst 3, 1) := by decide +kernel
theorem d_M_indexOf_61 : decode b_M_indexOf 61 = .ok (.goto 36, 3) := by decide +kernel
theorem d_M_indexOf_64 : decode b_M_indexOf 64 = .ok (.aload_n 0, 1) := by decide +kernel
theorem d_M_indexOf_65 : decode b_M_indexOf 65 = .ok (.iload_n 1, 1) := by decide +kernel
theorem d_M_indexOf_66 : decode b_M_indexOf 66 = .ok (.iload_n 2, 1) := by decide +kernel
theorem d_M_indexOf_67 : decode b_M_indexOf 67 = .ok (.ldc2_w 247, 3) := by decide +kernel
theorem d_M_indexOf_70 : decode b_M_indexOf 70 = .ok (.invokevirtual 184, 3) := by decide +kernel
theorem d_M_indexOf_73 : decode b_M_indexOf 73 = .ok (.ifCond .eq 7, 3) := by decide +kernel
theorem d_M_indexOf_76 : decode b_M_indexOf 76 = .ok (.iconst 4, 1) := by decide +kernel
theorem d_M_indexOf_77 : decode b_M_indexOf 77 = .ok (.goto 20, 3) := by decide +kernel
theorem d_M_indexOf_80 : decode b_M_indexOf 80 = .ok (.aload_n 0, 1) := by decide +kernel
theorem d_M_indexOf_81 : decode b_M_indexOf 81 = .ok (.iload_n 1, 1) := by decide +kernel
theorem d_M_indexOf_82 : decode b_M_indexOf 82 = .ok (.iload_n 2, 1) := by decide +kernel
theorem d_M_indexOf_83 : decode b_M_indexOf 83 = .ok (.ldc2_w 249, 3) := by decide +kernel
theorem d_M_indexOf_86 : decode b_M_indexOf 86 = .ok (.invokevirtual 184, 3) := by decide +kernel
theorem d_M_indexOf_89 : decode b_M_indexOf 89 = .ok (.ifCond .eq 7, 3) := by decide +kernel
theorem d_M_indexOf_92 : decode b_M_indexOf 92 = .ok (.iconst 5, 1) := by decide +kernel
theorem d_M_indexOf_93 : decode b_M_indexOf 93 = .ok (.goto 4, 3) := by decide +kernel
theorem d_M_indexOf_96 : decode b_M_indexOf 96 = .ok (.iconst (-1), 1) := by decide +kernel
theorem d_M_indexOf_97 : decode b_M_indexOf 97 = .ok (.ireturn, 1) := by decide +kernel
set_option maxHeartbeats 4000000 in
set_option maxRecDepth 100000 in
theorem c_M_indexOf (l : Launch) (dC : Nat → ClassId) (dI : Nat → Nat → Nat) (kA : Nat → ClassId) (mo : Nat) (ma : Nat → Nat) (mrf : Int) (mz : Int) (mls : Int) (mfp : Int) (mfm : Int) (mtx : Int) (mwd : Int) (mak : Int) (mli : Int) (mlx : Int) (mat : Int) (mtk : Int) (mtf : Int) (mtt : Int) (mfa : Int) (mla : Int) (mlp : Int) (mdp : Int) (msi : Int) (mpf : Int) (mpt : Int) (mdn : Bool) (ca : Nat → Int) (x : Int) (y : Int) (hca : C2 ca) (hx0 : 0 ≤ x ∧ x ≤ y ∧ y ≤ 4120) : Met l y_M_indexOf (wsy y_M_indexOf b_M_indexOf 3 (some .int)) (rmd 2 0 0) (li_Pr (dC, dI) CL (TY kA) [.ref mo, .int (iI x), .int (iI y)] (va_P (dC, dI) CL [(mo, .inr (10, [.int (iI mrf), .ref (ma 0), .int (iI mz), .ref (ma 1), .ref (ma 2), .int (iI mls), .int (iI mfp), .int (iI mfm), .ref (ma 3), .int (iI mtx), .ref (ma 4), .ref (ma 5), .int (iI mwd), .ref (ma 6), .ref (ma 7), .int (iI mak), .ref (ma 8), .ref (ma 9), .int (iI mli), .int (iI mlx), .ref (ma 10), .ref (ma 11), .int (iI mat), .int (iI mtk), .int (iI mtf), .int (iI mtt), .int (iI mfa), .int (iI mla), .int (iI mlp), .int (iI mdp), .ref (ma 12), .ref (ma 13), .int (iI msi), .int (iI (bI mdn)), .int (iI mpf), .int (iI mpt)])), (ma 1, .inl (kA 0, 4120, .inl (aI ca)))])) (k2_QcV (.int (iI (ioM ca x y)))) 0 0 (fun _ => False) := by
  refine li_mr (by decide) (Nat.le_of_ble_eq_true rfl) (by rfl) ?_
  intro p e s m args below meth c Q C hP hK hN hG fin ls hl
  obtain ⟨hx, hb, hr, hml, hown, hts, hlocks, hin⟩ := C
  have hown : s.vm.findClass R_M = some m.cls := hown
  have hP : va_P (dC, dI) CL [(mo, .inr (10, [.int (iI mrf), .ref (ma 0), .int (iI mz), .ref (ma 1), .ref (ma 2), .int (iI mls), .int (iI mfp), .int (iI mfm), .ref (ma 3), .int (iI mtx), .ref (ma 4), .ref (ma 5), .int (iI mwd), .ref (ma 6), .ref (ma 7), .int (iI mak), .ref (ma 8), .ref (ma 9), .int (iI mli), .int (iI mlx), .ref (ma 10), .ref (ma 11), .int (iI mat), .int (iI mtk), .int (iI mtf), .int (iI mtt), .int (iI mfa), .int (iI mla), .int (iI mlp), .int (iI mdp), .ref (ma 12), .ref (ma 13), .int (iI msi), .int (iI (bI mdn)), .int (iI mpf), .int (iI mpt)])), (ma 1, .inl (kA 0, 4120, .inl (aI ca)))] s.heap := hP
  have hl : lv_has ls 3 [(0, .ref mo), (1, .int (iI x)), (2, .int (iI y))] := hl
  refine lv_aload_n hx hb d_M_indexOf_0 rfl (lv_at hl 0 rfl) ?_
  refine lv_iload_n hx hb d_M_indexOf_1 rfl (lv_at hl 1 rfl) ?_
  refine lv_iload_n hx hb d_M_indexOf_2 rfl (lv_at hl 2 rfl) ?_
  refine lv_ldc2 (v := (6385273 : Int64)) hx hb hown (hts (Cond.constantLong R_M 239 6385273) (tk6 101 rfl rfl)) d_M_indexOf_3 ?_
  refine W.eq (g2 := F0 m 6 ls [.long (wlg 6), .int (iI y), .int (iI x), .ref mo]) rfl ?_
  refine li_callr ((va_runV (As := [.int (iI x), .int (iI y), .long (wlg 6)]) (rest := []) ⟨hx, hb, hml, hown, hts⟩ (c_M_isWord l dC dI kA mo ma mrf mz mls mfp mfm mtx mwd mak mli mlx mat mtk mtf mtt mfa mla mlp mdp msi mpf mpt mdn ca x y 6 (by exact hca) (by decide) (by omega)) (cw_M_184 hts rfl rfl ⟨Nat.le_of_ble_eq_true rfl, Nat.le_of_ble_eq_true rfl⟩) (li_preV (va_recv hK hP (ci := 10) (q0 := 0) rfl rfl) (hP.sub [0, 1] rfl) hK hN hG.rd) rfl rfl hl.1 rfl (lv_room (Nat.le_of_ble_eq_true rfl)) d_M_indexOf_6 ⟨(by show 0 + 0 ≤ 0; omega), (by show 0 + 0 ≤ 0; omega)⟩).run) ?_
  refine li_bz (tgt := 16) hx hb d_M_indexOf_9 (by decide) (fun c1 => ?_) (fun c1 => ?_)
  · have _q := c1
    refine lv_aload_n hx hb d_M_indexOf_16 rfl (lv_at hl 0 rfl) ?_
    refine lv_iload_n hx hb d_M_indexOf_17 rfl (lv_at hl 1 rfl) ?_
    refine lv_iload_n hx hb d_M_indexOf_18 rfl (lv_at hl 2 rfl) ?_
    refine lv_ldc2 (v := (499985443941 : Int64)) hx hb hown (hts (Cond.constantLong R_M 241 499985443941) (tk6 175 rfl rfl)) d_M_indexOf_19 ?_
    refine W.eq (g2 := F0 m 22 ls [.long (wlg 10), .int (iI y), .int (iI x), .ref mo]) rfl ?_
    refine li_callr ((va_runV (As := [.int (iI x), .int (iI y), .long (wlg 10)]) (rest := []) ⟨hx, hb, hml, hown, hts⟩ (c_M_isWord l dC dI kA mo ma mrf mz mls mfp mfm mtx mwd mak mli mlx mat mtk mtf mtt mfa mla mlp mdp msi mpf mpt mdn ca x y 10 (by exact hca) (by decide) (by omega)) (cw_M_184 hts rfl rfl ⟨Nat.le_of_ble_eq_true rfl, Nat.le_of_ble_eq_true rfl⟩) (li_preV (va_recv hK hP (ci := 10) (q0 := 0) rfl rfl) (hP.sub [0, 1] rfl) hK hN hG.rd) rfl rfl hl.1 rfl (lv_room (Nat.le_of_ble_eq_true rfl)) d_M_indexOf_22 ⟨(by show 0 + 0 ≤ 0; omega), (by show 0 + 0 ≤ 0; omega)⟩).run) ?_
    refine li_bz (tgt := 32) hx hb d_M_indexOf_25 (by decide) (fun c2 => ?_) (fun c2 => ?_)
    · have _q := c2
      refine lv_aload_n hx hb d_M_indexOf_32 rfl (lv_at hl 0 rfl) ?_
      refine lv_iload_n hx hb d_M_indexOf_33 rfl (lv_at hl 1 rfl) ?_
      refine lv_iload_n hx hb d_M_indexOf_34 rfl (lv_at hl 2 rfl) ?_
      refine lv_ldc2 (v := (107157092069234 : Int64)) hx hb hown (hts (Cond.constantLong R_M 243 107157092069234) (tk6 176 rfl rfl)) d_M_indexOf_35 ?_
      refine W.eq (g2 := F0 m 38 ls [.long (wlg 11), .int (iI y), .int (iI x), .ref mo]) rfl ?_
      refine li_callr ((va_runV (As := [.int (iI x), .int (iI y), .long (wlg 11)]) (rest := []) ⟨hx, hb, hml, hown, hts⟩ (c_M_isWord l dC dI kA mo ma mrf mz mls mfp mfm mtx mwd mak mli mlx mat mtk mtf mtt mfa mla mlp mdp msi mpf mpt mdn ca x y 11 (by exact hca) (by decide) (by omega)) (cw_M_184 hts rfl rfl ⟨Nat.le_of_ble_eq_true rfl, Nat.le_of_ble_eq_true rfl⟩) (li_preV (va_recv hK hP (ci := 10) (q0 := 0) rfl rfl) (hP.sub [0, 1] rfl) hK hN hG.rd) rfl rfl hl.1 rfl (lv_room (Nat.le_of_ble_eq_true rfl)) d_M_indexOf_38 ⟨(by show 0 + 0 ≤ 0; omega), (by show 0 + 0 ≤ 0; omega)⟩).run) ?_
      refine li_bz (tgt := 48) hx hb d_M_indexOf_41 (by decide) (fun c3 => ?_) (fun c3 => ?_)
      · have _q := c3
        refine lv_aload_n hx hb d_M_indexOf_48 rfl (lv_at hl 0 rfl) ?_
        refine lv_iload_n hx hb d_M_indexOf_49 rfl (lv_at hl 1 rfl) ?_
        refine lv_iload_n hx hb d_M_indexOf_50 rfl (lv_at hl 2 rfl) ?_
        refine lv_ldc2 (v := (32498687873999732 : Int64)) hx hb hown (hts (Cond.constantLong R_M 245 32498687873999732) (tk6 177 rfl rfl)) d_M_indexOf_51 ?_
        refine W.eq (g2 := F0 m 54 ls [.long (wlg 12), .int (iI y), .int (iI x), .ref mo]) rfl ?_
        refine li_callr ((va_runV (As := [.int (iI x), .int (iI y), .long (wlg 12)]) (rest := []) ⟨hx, hb, hml, hown, hts⟩ (c_M_isWord l dC dI kA mo ma mrf mz mls mfp mfm mtx mwd mak mli mlx mat mtk mtf mtt mfa mla mlp mdp msi mpf mpt mdn ca x y 12 (by exact hca) (by decide) (by omega)) (cw_M_184 hts rfl rfl ⟨Nat.le_of_ble_eq_true rfl, Nat.le_of_ble_eq_true rfl⟩) (li_preV (va_recv hK hP (ci := 10) (q0 := 0) rfl rfl) (hP.sub [0, 1] rfl) hK hN hG.rd) rfl rfl hl.1 rfl (lv_room (Nat.le_of_ble_eq_true rfl)) d_M_indexOf_54 ⟨(by show 0 + 0 ≤ 0; omega), (by show 0 + 0 ≤ 0; omega)⟩).run) ?_
        refine li_bz (tgt := 64) hx hb d_M_indexOf_57 (by decide) (fun c4 => ?_) (fun c4 => ?_)
        · have _q := c4
          refine lv_aload_n hx hb d_M_indexOf_64 rfl (lv_at hl 0 rfl) ?_
          refine lv_iload_n hx hb d_M_indexOf_65 rfl (lv_at hl 1 rfl) ?_
          refine lv_iload_n hx hb d_M_indexOf_66 rfl (lv_at hl 2 rfl) ?_
          refine lv_ldc2 (v := (1684108389 : Int64)) hx hb hown (hts (Cond.constantLong R_M 247 1684108389) (tk6 178 rfl rfl)) d_M_indexOf_67 ?_
          refine W.eq (g2 := F0 m 70 ls [.long (wlg 13), .int (iI y), .int (iI x), .ref mo]) rfl ?_
          refine li_callr ((va_runV (As := [.int (iI x), .int (iI y), .long (wlg 13)]) (rest := []) ⟨hx, hb, hml, hown, hts⟩ (c_M_isWord l dC dI kA mo ma mrf mz mls mfp mfm mtx mwd mak mli mlx mat mtk mtf mtt mfa mla mlp mdp msi mpf mpt mdn ca x y 13 (by exact hca) (by decide) (by omega)) (cw_M_184 hts rfl rfl ⟨Nat.le_of_ble_eq_true rfl, Nat.le_of_ble_eq_true rfl⟩) (li_preV (va_recv hK hP (ci := 10) (q0 := 0) rfl rfl) (hP.sub [0, 1] rfl) hK hN hG.rd) rfl rfl hl.1 rfl (lv_room (Nat.le_of_ble_eq_true rfl)) d_M_indexOf_70 ⟨(by show 0 + 0 ≤ 0; omega), (by show 0 + 0 ≤ 0; omega)⟩).run) ?_
          refine li_bz (tgt := 80) hx hb d_M_indexOf_73 (by decide) (fun c5 => ?_) (fun c5 => ?_)
          · have _q := c5
            refine lv_aload_n hx hb d_M_indexOf_80 rfl (lv_at hl 0 rfl) ?_
            refine lv_iload_n hx hb d_M_indexOf_81 rfl (lv_at hl 1 rfl) ?_
            refine lv_iload_n hx hb d_M_indexOf_82 rfl (lv_at hl 2 rfl) ?_
            refine lv_ldc2 (v := (26980 : Int64)) hx hb hown (hts (Cond.constantLong R_M 249 26980) (tk6 179 rfl rfl)) d_M_indexOf_83 ?_
            refine W.eq (g2 := F0 m 86 ls [.long (wlg 14), .int (iI y), .int (iI x), .ref mo]) rfl ?_
            refine li_callr ((va_runV (As := [.int (iI x), .int (iI y), .long (wlg 14)]) (rest := []) ⟨hx, hb, hml, hown, hts⟩ (c_M_isWord l dC dI kA mo ma mrf mz mls mfp mfm mtx mwd mak mli mlx mat mtk mtf mtt mfa mla mlp mdp msi mpf mpt mdn ca x y 14 (by exact hca) (by decide) (by omega)) (cw_M_184 hts rfl rfl ⟨Nat.le_of_ble_eq_true rfl, Nat.le_of_ble_eq_true rfl⟩) (li_preV (va_recv hK hP (ci := 10) (q0 := 0) rfl rfl) (hP.sub [0, 1] rfl) hK hN hG.rd) rfl rfl hl.1 rfl (lv_room (Nat.le_of_ble_eq_true rfl)) d_M_indexOf_86 ⟨(by show 0 + 0 ≤ 0; omega), (by show 0 + 0 ≤ 0; omega)⟩).run) ?_
            refine li_bz (tgt := 96) hx hb d_M_indexOf_89 (by decide) (fun c6 => ?_) (fun c6 => ?_)
            · have _q := c6
              refine lv_iconst (v := iI (-1)) hx hb d_M_indexOf_96 rfl ?_
              exact fin _ _ _ (by unfold ioM; (repeat (first | rw [if_pos (by assumption)] | rw [if_neg (nbt (by assumption))]))) d_M_indexOf_97
            · have _q := c6
              refine lv_iconst (v := iI 5) hx hb d_M_indexOf_92 rfl ?_
              refine lv_goto (tgt := 97) hx hb d_M_indexOf_93 (by decide) ?_
              exact fin _ _ _ (by unfold ioM; (repeat (first | rw [if_pos (by assumption)] | rw [if_neg (nbt (by assumption))]))) d_M_indexOf_97
          · have _q := c5
            refine lv_iconst (v := iI 4) hx hb d_M_indexOf_76 rfl ?_
            refine lv_goto (tgt := 97) hx hb d_M_indexOf_77 (by decide) ?_
            exact fin _ _ _ (by unfold ioM; (repeat (first | rw [if_pos (by assumption)] | rw [if_neg (nbt (by assumption))]))) d_M_indexOf_97
        · have _q := c4
          refine lv_iconst (v := iI 3) hx hb d_M_indexOf_60 rfl ?_
          refine lv_goto (tgt := 97) hx hb d_M_indexOf_61 (by decide) ?_
          exact fin _ _ _ (by unfold ioM; (repeat (first | rw [if_pos (by assumption)] | rw [if_neg (nbt (by assumption))]))) d_M_indexOf_97
      · have _q := c3
        refine lv_iconst (v := iI 2) hx hb d_M_indexOf_44 rfl ?_
        refine lv_goto (tgt := 97) hx hb d_M_indexOf_45 (by decide) ?_
        exact fin _ _ _ (by unfold ioM; (repeat (first | rw [if_pos (by assumption)] | rw [if_neg (nbt (by assumption))]))) d_M_indexOf_97
    · have _q := c2
      refine lv_iconst (v := iI 1) hx hb d_M_indexOf_28 rfl ?_
      refine lv_goto (tgt := 97) hx hb d_M_indexOf_29 (by decide) ?_
      exact fin _ _ _ (by unfold ioM; (repeat (first | rw [if_pos (by assumption)] | rw [if_neg (nbt (by assumption))]))) d_M_indexOf_97
  · have _q := c1
    refine lv_iconst (v := iI 0) hx hb d_M_indexOf_12 rfl ?_
    refine lv_goto (tgt := 97) hx hb d_M_indexOf_13 (by decide) ?_
    exact fin _ _ _ (by unfold ioM; (repeat (first | rw [if_pos (by assumption)] | rw [if_neg (nbt (by assumption))]))) d_M_indexOf_97
theorem d_M_relationHere_0 : decode b_M_relationHere 0 = .ok (.aload_n 0, 1) := by decide +kernel
theorem d_M_relationHere_1 : decode b_M_relationHere 1 = .ok (.getfield 13, 3) := by decide +kernel
theorem d_M_relationHere_4 : decode b_M_relationHere 4 = .ok (.aload_n 0, 1) := by decide +kernel
theorem d_M_relationHere_5 : decode b_M_relationHere 5 = .ok (.getfield 196, 3) := by decide +kernel
theorem d_M_relationHere_8 : decode b_M_relationHere 8 = .ok (.iaload, 1) := by decide +kernel
theorem d_M_relationHere_9 : decode b_M_relationHere 9 = .ok (.istore_n 1, 1) := by decide +kernel
theorem d_M_relationHere_10 : decode b_M_relationHere 10 = .ok (.aload_n 0, 1) := by decide +kernel
theorem d_M_relationHere_11 : decode b_M_relationHere 11 = .ok (.getfield 199, 3) := by decide +kernel
theorem d_M_relationHere_14 : decode b_M_relationHere 14 = .ok (.aload_n 0, 1) := by decide +kernel
theorem d_M_relationHere_15 : decode b_M_relationHere 15 = .ok (.getfield 196, 3) := by decide +kernel
theorem d_M_relationHere_18 : decode b_M_relationHere 18 = .ok (.isub, 1) := by decide +kernel
theorem d_M_relationHere_19 : decode b_M_relationHere 19 = .ok (.iconst 2, 1) := by decide +kernel
theorem d_M_relationHere_20 : decode b_M_relationHere 20 = .ok (.if_icmp .ne 7, 3) := by decide +kernel
theorem d_M_relationHere_23 : decode b_M_relationHere 23 = .ok (.iconst 1, 1) := by decide +kernel
theorem d_M_relationHere_24 : decode b_M_relationHere 24 = .ok (.goto 4, 3) := by decide +kernel
theorem d_M_relationHere_27 : decode b_M_relationHere 27 = .ok (.iconst 0, 1) := by decide +kernel
theorem d_M_relationHere_28 : decode b_M_relationHere 28 = .ok (.istore_n 2, 1) := by decide +kernel
theorem d_M_relationHere_29 : decode b_M_relationHere 29 = .ok (.aload_n 0, 1) := by decide +kernel
theorem d_M_relationHere_30 : decode b_M_relationHere 30 = .ok (.getfield 202, 3) := by decide +kernel
theorem d_M_relationHere_33 : decode b_M_relationHere 33 = .ok (.iconst 3, 1) := by decide +kernel
theorem d_M_relationHere_34 : decode b_M_relationHere 34 = .ok (.if_icmp .ne 52, 3) := by decide +kernel
theorem d_M_relationHere_37 : decode b_M_relationHere 37 = .ok (.iload_n 1, 1) := by decide +kernel
theorem d_M_relationHere_38 : decode b_M_relationHere 38 = .ok (.bipush 61, 2) := by decide +kernel
theorem d_M_relationHere_40 : decode b_M_relationHere 40 = .ok (.if_icmp .ne 15, 3) := by decide +kernel
theorem d_M_relationHere_43 : decode b_M_relationHere 43 = .ok (.iload_n 2, 1) := by decide +kernel
theorem d_M_relationHere_44 : decode b_M_relationHere 44 = .ok (.ifCond .eq 7, 3) := by decide +kernel
theorem d_M_relationHere_47 : decode b_M_relationHere 47 = .ok (.iconst 4, 1) := by decide +kernel
theorem d_M_relationHere_48 : decode b_M_relationHere 48 = .ok (.goto 37, 3) := by decide +kernel
theorem d_M_relationHere_51 : decode b_M_relationHere 51 = .ok (.iconst 3, 1) := by decide +kernel
theorem d_M_relationHere_52 : decode b_M_relationHere 52 = .ok (.goto 33, 3) := by decide +kernel
theorem d_M_relationHere_55 : decode b_M_relationHere 55 = .ok (.iload_n 1, 1) := by decide +kernel
theorem d_M_relationHere_56 : decode b_M_relationHere 56 = .ok (.bipush 60, 2) := by decide +kernel
theorem d_M_relationHere_58 : decode b_M_relationHere 58 = .ok (.if_icmp .ne 16, 3) := by decide +kernel
theorem d_M_relationHere_61 : decode b_M_relationHere 61 = .ok (.iload_n 2, 1) := by decide +kernel
theorem d_M_relationHere_62 : decode b_M_relationHere 62 = .ok (.ifCond .eq 8, 3) := by decide +kernel
theorem d_M_relationHere_65 : decode b_M_relationHere 65 = .ok (.bipush 7, 2) := by decide +kernel
theorem d_M_relationHere_67 : decode b_M_relationHere 67 = .ok (.goto 18, 3) := by decide +kernel
theorem d_M_relationHere_70 : decode b_M_relationHere 70 = .ok (.iconst 5, 1) := by decide +kernel
theorem d_M_relationHere_71 : decode b_M_relationHere 71 = .ok (.goto 14, 3) := by decide +kernel
theorem d_M_relationHere_74 : decode b_M_relationHere 74 = .ok (.iload_n 2, 1) := by decide +kernel
theorem d_M_relationHere_75 : decode b_M_relationHere 75 = .ok (.ifCond .eq 8, 3) := by decide +kernel
theorem d_M_relationHere_78 : decode b_M_relationHere 78 = .ok (.bipush 8, 2) := by decide +kernel
theorem d_M_relationHere_80 : decode b_M_relationHere 80 = .ok (.goto 5, 3) := by decide +kernel
theorem d_M_relationHere_83 : decode b_M_relationHere 83 = .ok (.bipush 6, 2) := by decide +kernel
theorem d_M_relationHere_85 : decode b_M_relationHere 85 = .ok (.ireturn, 1) := by decide +kernel
theorem d_M_relationHere_86 : decode b_M_relationHere 86 = .ok (.aload_n 0, 1) := by decide +kernel
theorem d_M_relationHere_87 : decode b_M_relationHere 87 = .ok (.getfield 202, 3) := by decide +kernel
theorem d_M_relationHere_90 : decode b_M_relationHere 90 = .ok (.iconst 1, 1) := by decide +kernel
theorem d_M_relationHere_91 : decode b_M_relationHere 91 = .ok (.if_icmp .eq 5, 3) := by decide +kernel
theorem d_M_relationHere_94 : decode b_M_relationHere 94 = .ok (.iconst 0, 1) := by decide +kernel
theorem d_M_relationHere_95 : decode b_M_relationHere 95 = .ok (.ireturn, 1) := by decide +kernel
theorem d_M_relationHere_96 : decode b_M_relationHere 96 = .ok (.aload_n 0, 1) := by decide +kernel
theorem d_M_relationHere_97 : decode b_M_relationHere 97 = .ok (.aload_n 0, 1) := by decide +kernel
theorem d_M_relationHere_98 : decode b_M_relationHere 98 = .ok (.getfield 196, 3) := by decide +kernel
theorem d_M_relationHere_101 : decode b_M_relationHere 101 = .ok (.aload_n 0, 1) := by decide +kernel
theorem d_M_relationHere_102 : decode b_M_relationHere 102 = .ok (.getfield 199, 3) := by decide +kernel
theorem d_M_relationHere_105 : decode b_M_relationHere 105 = .ok (.ldc2_w 239, 3) := by decide +kernel
theorem d_M_relationHere_108 : decode b_M_relationHere 108 = .ok (.invokevirtual 184, 3) := by decide +kernel
theorem d_M_relationHere_111 : decode b_M_relationHere 111 = .ok (.ifCond .eq 7, 3) := by decide +kernel
theorem d_M_relationHere_114 : decode b_M_relationHere 114 = .ok (.iconst 1, 1) := by decide +kernel
theorem d_M_relationHere_115 : decode b_M_relationHere 115 = .ok (.goto 70, 3) := by decide +kernel
theorem d_M_relationHere_118 : decode b_M_relationHere 118 = .ok (.aload_n 0, 1) := by decide +kernel
theorem d_M_relationHere_119 : decode b_M_relationHere 119 = .ok (.aload_n 0, 1) := by decide +kernel
theorem d_M_relationHere_120 : decode b_M_relationHere 120 = .ok (.getfield 196, 3) := by decide +kernel
theorem d_M_relationHere_123 : decode b_M_relationHere 123 = .ok (.aload_n 0, 1) := by decide +kernel
theorem d_M_relationHere_124 : decode b_M_relationHere 124 = .ok (.getfield 199, 3) := by decide +kernel
theorem d_M_relationHere_127 : decode b_M_relationHere 127 = .ok (.ldc2_w 251, 3) := by decide +kernel
theorem d_M_relationHere_130 : decode b_M_relationHere 130 = .ok (.invokevirtual 184, 3) := by decide +kernel
theorem d_M_relationHere_133 : decode b_M_relationHere 133 = .ok (.ifCond .eq 7, 3) := by decide +kernel
theorem d_M_relationHere_136 : decode b_M_relationHere 136 = .ok (.iconst 2, 1) := by decide +kernel
theorem d_M_relationHere_137 : decode b_M_relationHere 137 = .ok (.goto 48, 3) := by decide +kernel
theorem d_M_relationHere_140 : decode b_M_relationHere 140 = .ok (.aload_n 0, 1) := by decide +kernel
theorem d_M_relationHere_141 : decode b_M_relationHere 141 = .ok (.aload_n 0, 1) := by decide +kernel
theorem d_M_relationHere_142 : decode b_M_relationHere 142 = .ok (.getfield 196, 3) := by decide +kernel
theorem d_M_relationHere_145 : decode b_M_relationHere 145 = .ok (.aload_n 0, 1) := by decide +kernel
theorem d_M_relationHere_146 : decode b_M_relationHere 146 = .ok (.getfield 199, 3) := by decide +kernel
theorem d_M_relationHere_149 : decode b_M_relationHere 149 = .ok (.ldc2_w 253, 3) := by decide +kernel
theorem d_M_relationHere_152 : decode b_M_relationHere 152 = .ok (.invokevirtual 184, 3) := by decide +kernel
theorem d_M_relationHere_155 : decode b_M_relationHere 155 = .ok (.ifCond .eq 7, 3) := by decide +kernel
theorem d_M_relationHere_158 : decode b_M_relationHere 158 = .ok (.iconst 3, 1) := by decide +kernel
theorem d_M_relationHere_159 : decode b_M_relationHere 159 = .ok (.goto 26, 3) := by decide +kernel
theorem d_M_relationHere_162 : decode b_M_relationHere 162 = .ok (.aload_n 0, 1) := by decide +kernel
theorem d_M_relationHere_163 : decode b_M_relationHere 163 = .ok (.aload_n 0, 1) := by decide +kernel
theorem d_M_relationHere_164 : decode b_M_relationHere 164 = .ok (.getfield 196, 3) := by decide +kernel
theorem d_M_relationHere_167 : decode b_M_relationHere 167 = .ok (.aload_n 0, 1) := by decide +kernel
theorem d_M_relationHere_168 : decode b_M_relationHere 168 = .ok (.getfield 199, 3) := by decide +kernel
theorem d_M_relationHere_171 : decode b_M_relationHere 171 = .ok (.ldc2_w 255, 3) := by decide +kernel
theorem d_M_relationHere_174 : decode b_M_relationHere 174 = .ok (.invokevirtual 184, 3) := by decide +kernel
theorem d_M_relationHere_177 : decode b_M_relationHere 177 = .ok (.ifCond .eq 7, 3) := by decide +kernel
theorem d_M_relationHere_180 : decode b_M_relationHere 180 = .ok (.iconst 4, 1) := by decide +kernel
theorem d_M_relationHere_181 : decode b_M_relationHere 181 = .ok (.goto 4, 3) := by decide +kernel
theorem d_M_relationHere_184 : decode b_M_relationHere 184 = .ok (.iconst 0, 1) := by decide +kernel
theorem d_M_relationHere_185 : decode b_M_relationHere 185 = .ok (.ireturn, 1) := by decide +kernel
set_option maxHeartbeats 4000000 in
set_option maxRecDepth 100000 in
theorem c_M_relationHere (l : Launch) (dC : Nat → ClassId) (dI : Nat → Nat → Nat) (kA : Nat → ClassId) (mo : Nat) (ma : Nat → Nat) (mrf : Int) (mz : Int) (mls : Int) (mfp : Int) (mfm : Int) (mtx : Int) (mwd : Int) (mak : Int) (mli : Int) (mlx : Int) (mat : Int) (mtk : Int) (mtf : Int) (mtt : Int) (mfa : Int) (mla : Int) (mlp : Int) (mdp : Int) (msi : Int) (mpf : Int) (mpt : Int) (mdn : Bool) (ca : Nat → Int) (hca : C2 ca) (hx0 : 0 ≤ mtf ∧ mtf ≤ mtt ∧ mtt ≤ 4119) (htk : 0 ≤ mtk ∧ mtk ≤ 20) : Met l y_M_relationHere (wsy y_M_relationHere b_M_relationHere 3 (some .int)) (rmd 2 0 0) (li_Pr (dC, dI) CL (TY kA) [.ref mo] (va_P (dC, dI) CL [(mo, .inr (10, [.int (iI mrf), .ref (ma 0), .int (iI mz), .ref (ma 1), .ref (ma 2), .int (iI mls), .int (iI mfp), .int (iI mfm), .ref (ma 3), .int (iI mtx), .ref (ma 4), .ref (ma 5), .int (iI mwd), .ref (ma 6), .ref (ma 7), .int (iI mak), .ref (ma 8), .ref (ma 9), .int (iI mli), .int (iI mlx), .ref (ma 10), .ref (ma 11), .int (iI mat), .int (iI mtk), .int (iI mtf), .int (iI mtt), .int (iI mfa), .int (iI mla), .int (iI mlp), .int (iI mdp), .ref (ma 12), .ref (ma 13), .int (iI msi), .int (iI (bI mdn)), .int (iI mpf), .int (iI mpt)])), (ma 1, .inl (kA 0, 4120, .inl (aI ca)))])) (k2_QcV (.int (iI (rhM ca mtk mtf mtt)))) 0 0 (fun _ => False) := by
  refine li_mr (by decide) (Nat.le_of_ble_eq_true rfl) (by rfl) ?_
  intro p e s m args below meth c Q C hP hK hN hG fin ls hl
  obtain ⟨hx, hb, hr, hml, hown, hts, hlocks, hin⟩ := C
  have hown : s.vm.findClass R_M = some m.cls := hown
  have hP : va_P (dC, dI) CL [(mo, .inr (10, [.int (iI mrf), .ref (ma 0), .int (iI mz), .ref (ma 1), .ref (ma 2), .int (iI mls), .int (iI mfp), .int (iI mfm), .ref (ma 3), .int (iI mtx), .ref (ma 4), .ref (ma 5), .int (iI mwd), .ref (ma 6), .ref (ma 7), .int (iI mak), .ref (ma 8), .ref (ma 9), .int (iI mli), .int (iI mlx), .ref (ma 10), .ref (ma 11), .int (iI mat), .int (iI mtk), .int (iI mtf), .int (iI mtt), .int (iI mfa), .int (iI mla), .int (iI mlp), .int (iI mdp), .ref (ma 12), .ref (ma 13), .int (iI msi), .int (iI (bI mdn)), .int (iI mpf), .int (iI mpt)])), (ma 1, .inl (kA 0, 4120, .inl (aI ca)))] s.heap := hP
  have hl : lv_has ls 3 [(0, .ref mo)] := hl
  refine lv_aload_n hx hb d_M_relationHere_0 rfl (lv_at hl 0 rfl) ?_
  refine gf_M_13 hx hb hts hown hK hP 0 rfl rfl d_M_relationHere_1 ?_
  refine lv_aload_n hx hb d_M_relationHere_4 rfl (lv_at hl 0 rfl) ?_
  refine gf_M_196 hx hb hts hown hK hP 0 rfl rfl d_M_relationHere_5 ?_
  refine li_iald hx hb hK hP 1 0 rfl rfl (by omega) (by omega) (by omega) d_M_relationHere_8 ?_
  have f1 := hca mtf.toNat
  refine li_nm (fun cx ecx => ?_)
  refine lv_istore_n (lv' := [(1, .int (iI cx)), (0, .ref mo)]) hx hb d_M_relationHere_9 rfl hl (by decide) rfl (fun ls hl => ?_)
  refine lv_aload_n hx hb d_M_relationHere_10 rfl (lv_at hl 1 rfl) ?_
  refine gf_M_199 hx hb hts hown hK hP 0 rfl rfl d_M_relationHere_11 ?_
  refine lv_aload_n hx hb d_M_relationHere_14 rfl (lv_at hl 1 rfl) ?_
  refine gf_M_196 hx hb hts hown hK hP 0 rfl rfl d_M_relationHere_15 ?_
  refine li_isub hx hb d_M_relationHere_18 ?_
  refine lv_iconst (v := iI 2) hx hb d_M_relationHere_19 rfl ?_
  refine li_icmp_ne (tgt := 27) hx hb d_M_relationHere_20 (by decide) (by omega) (by omega) (fun c2 => ?_) (fun c2 => ?_)
  · have _q := c2
    refine lv_iconst (v := iI 0) hx hb d_M_relationHere_27 rfl ?_
    refine lv_istore_n (lv' := [(2, .int (iI 0)), (1, .int (iI cx)), (0, .ref mo)]) hx hb d_M_relationHere_28 rfl hl (by decide) rfl (fun ls hl => ?_)
    refine lv_aload_n hx hb d_M_relationHere_29 rfl (lv_at hl 2 rfl) ?_
    refine gf_M_202 hx hb hts hown hK hP 0 rfl rfl d_M_relationHere_30 ?_
    refine lv_iconst (v := iI 3) hx hb d_M_relationHere_33 rfl ?_
    refine li_icmp_ne (tgt := 86) hx hb d_M_relationHere_34 (by decide) (by omega) (by omega) (fun c3 => ?_) (fun c3 => ?_)
    · have _q := c3
      refine lv_aload_n hx hb d_M_relationHere_86 rfl (lv_at hl 2 rfl) ?_
      refine gf_M_202 hx hb hts hown hK hP 0 rfl rfl d_M_relationHere_87 ?_
      refine lv_iconst (v := iI 1) hx hb d_M_relationHere_90 rfl ?_
      refine li_icmp_eq (tgt := 96) hx hb d_M_relationHere_91 (by decide) (by omega) (by omega) (fun c4 => ?_) (fun c4 => ?_)
      · have _q := c4
        refine lv_aload_n hx hb d_M_relationHere_96 rfl (lv_at hl 2 rfl) ?_
        refine lv_aload_n hx hb d_M_relationHere_97 rfl (lv_at hl 2 rfl) ?_
        refine gf_M_196 hx hb hts hown hK hP 0 rfl rfl d_M_relationHere_98 ?_
        refine lv_aload_n hx hb d_M_relationHere_101 rfl (lv_at hl 2 rfl) ?_
        refine gf_M_199 hx hb hts hown hK hP 0 rfl rfl d_M_relationHere_102 ?_
        refine lv_ldc2 (v := (6385273 : Int64)) hx hb hown (hts (Cond.constantLong R_M 239 6385273) (tk6 101 rfl rfl)) d_M_relationHere_105 ?_
        refine W.eq (g2 := F0 m 108 ls [.long (wlg 6), .int (iI mtt), .int (iI mtf), .ref mo]) rfl ?_
        refine li_callr ((va_runV (As := [.int (iI mtf), .int (iI mtt), .long (wlg 6)]) (rest := []) ⟨hx, hb, hml, hown, hts⟩ (c_M_isWord l dC dI kA mo ma mrf mz mls mfp mfm mtx mwd mak mli mlx mat mtk mtf mtt mfa mla mlp mdp msi mpf mpt mdn ca mtf mtt 6 (by exact hca) (by decide) (by omega)) (cw_M_184 hts rfl rfl ⟨Nat.le_of_ble_eq_true rfl, Nat.le_of_ble_eq_true rfl⟩) (li_preV (va_recv hK hP (ci := 10) (q0 := 0) rfl rfl) (hP.sub [0, 1] rfl) hK hN hG.rd) rfl rfl hl.1 rfl (lv_room (Nat.le_of_ble_eq_true rfl)) d_M_relationHere_108 ⟨(by show 0 + 0 ≤ 0; omega), (by show 0 + 0 ≤ 0; omega)⟩).run) ?_
        refine li_bz (tgt := 118) hx hb d_M_relationHere_111 (by decide) (fun c5 => ?_) (fun c5 => ?_)
        · have _q := c5
          refine lv_aload_n hx hb d_M_relationHere_118 rfl (lv_at hl 2 rfl) ?_
          refine lv_aload_n hx hb d_M_relationHere_119 rfl (lv_at hl 2 rfl) ?_
          refine gf_M_196 hx hb hts hown hK hP 0 rfl rfl d_M_relationHere_120 ?_
          refine lv_aload_n hx hb d_M_relationHere_123 rfl (lv_at hl 2 rfl) ?_
          refine gf_M_199 hx hb hts hown hK hP 0 rfl rfl d_M_relationHere_124 ?_
          refine lv_ldc2 (v := (6384748 : Int64)) hx hb hown (hts (Cond.constantLong R_M 251 6384748) (tk6 102 rfl rfl)) d_M_relationHere_127 ?_
          refine W.eq (g2 := F0 m 130 ls [.long (wlg 7), .int (iI mtt), .int (iI mtf), .ref mo]) rfl ?_
          refine li_callr ((va_runV (As := [.int (iI mtf), .int (iI mtt), .long (wlg 7)]) (rest := []) ⟨hx, hb, hml, hown, hts⟩ (c_M_isWord l dC dI kA mo ma mrf mz mls mfp mfm mtx mwd mak mli mlx mat mtk mtf mtt mfa mla mlp mdp msi mpf mpt mdn ca mtf mtt 7 (by exact hca) (by decide) (by omega)) (cw_M_184 hts rfl rfl ⟨Nat.le_of_ble_eq_true rfl, Nat.le_of_ble_eq_true rfl⟩) (li_preV (va_recv hK hP (ci := 10) (q0 := 0) rfl rfl) (hP.sub [0, 1] rfl) hK hN hG.rd) rfl rfl hl.1 rfl (lv_room (Nat.le_of_ble_eq_true rfl)) d_M_relationHere_130 ⟨(by show 0 + 0 ≤ 0; omega), (by show 0 + 0 ≤ 0; omega)⟩).run) ?_
          refine li_bz (tgt := 140) hx hb d_M_relationHere_133 (by decide) (fun c6 => ?_) (fun c6 => ?_)
          · have _q := c6
            refine lv_aload_n hx hb d_M_relationHere_140 rfl (lv_at hl 2 rfl) ?_
            refine lv_aload_n hx hb d_M_relationHere_141 rfl (lv_at hl 2 rfl) ?_
            refine gf_M_196 hx hb hts hown hK hP 0 rfl rfl d_M_relationHere_142 ?_
            refine lv_aload_n hx hb d_M_relationHere_145 rfl (lv_at hl 2 rfl) ?_
            refine gf_M_199 hx hb hts hown hK hP 0 rfl rfl d_M_relationHere_146 ?_
            refine lv_ldc2 (v := (6382698 : Int64)) hx hb hown (hts (Cond.constantLong R_M 253 6382698) (tk6 103 rfl rfl)) d_M_relationHere_149 ?_
            refine W.eq (g2 := F0 m 152 ls [.long (wlg 8), .int (iI mtt), .int (iI mtf), .ref mo]) rfl ?_
            refine li_callr ((va_runV (As := [.int (iI mtf), .int (iI mtt), .long (wlg 8)]) (rest := []) ⟨hx, hb, hml, hown, hts⟩ (c_M_isWord l dC dI kA mo ma mrf mz mls mfp mfm mtx mwd mak mli mlx mat mtk mtf mtt mfa mla mlp mdp msi mpf mpt mdn ca mtf mtt 8 (by exact hca) (by decide) (by omega)) (cw_M_184 hts rfl rfl ⟨Nat.le_of_ble_eq_true rfl, Nat.le_of_ble_eq_true rfl⟩) (li_preV (va_recv hK hP (ci := 10) (q0 := 0) rfl rfl) (hP.sub [0, 1] rfl) hK hN hG.rd) rfl rfl hl.1 rfl (lv_room (Nat.le_of_ble_eq_true rfl)) d_M_relationHere_152 ⟨(by show 0 + 0 ≤ 0; omega), (by show 0 + 0 ≤ 0; omega)⟩).run) ?_
            refine li_bz (tgt := 162) hx hb d_M_relationHere_155 (by decide) (fun c7 => ?_) (fun c7 => ?_)
            · have _q := c7
              refine lv_aload_n hx hb d_M_relationHere_162 rfl (lv_at hl 2 rfl) ?_
              refine lv_aload_n hx hb d_M_relationHere_163 rfl (lv_at hl 2 rfl) ?_
              refine gf_M_196 hx hb hts hown hK hP 0 rfl rfl d_M_relationHere_164 ?_
              refine lv_aload_n hx hb d_M_relationHere_167 rfl (lv_at hl 2 rfl) ?_
              refine gf_M_199 hx hb hts hown hK hP 0 rfl rfl d_M_relationHere_168 ?_
              refine lv_ldc2 (v := (435811345268 : Int64)) hx hb hown (hts (Cond.constantLong R_M 255 435811345268) (tk6 104 rfl rfl)) d_M_relationHere_171 ?_
              refine W.eq (g2 := F0 m 174 ls [.long (wlg 9), .int (iI mtt), .int (iI mtf), .ref mo]) rfl ?_
              refine li_callr ((va_runV (As := [.int (iI mtf), .int (iI mtt), .long (wlg 9)]) (rest := []) ⟨hx, hb, hml, hown, hts⟩ (c_M_isWord l dC dI kA mo ma mrf mz mls mfp mfm mtx mwd mak mli mlx mat mtk mtf mtt mfa mla mlp mdp msi mpf mpt mdn ca mtf mtt 9 (by exact hca) (by decide) (by omega)) (cw_M_184 hts rfl rfl ⟨Nat.le_of_ble_eq_true rfl, Nat.le_of_ble_eq_true rfl⟩) (li_preV (va_recv hK hP (ci := 10) (q0 := 0) rfl rfl) (hP.sub [0, 1] rfl) hK hN hG.rd) rfl rfl hl.1 rfl (lv_room (Nat.le_of_ble_eq_true rfl)) d_M_relationHere_174 ⟨(by show 0 + 0 ≤ 0; omega), (by show 0 + 0 ≤ 0; omega)⟩).run) ?_
              refine li_bz (tgt := 184) hx hb d_M_relationHere_177 (by decide) (fun c8 => ?_) (fun c8 => ?_)
              · have _q := c8
                refine lv_iconst (v := iI 0) hx hb d_M_relationHere_184 rfl ?_
                exact fin _ _ _ (by unfold rhM; (repeat (first | rw [if_pos (by omega)] | rw [if_neg (by omega)])); first | done | (repeat (first | rw [if_pos (by assumption)] | rw [if_neg (nbt (by assumption))]))) d_M_relationHere_185
              · have _q := c8
                refine lv_iconst (v := iI 4) hx hb d_M_relationHere_180 rfl ?_
                refine lv_goto (tgt := 185) hx hb d_M_relationHere_181 (by decide) ?_
                exact fin _ _ _ (by unfold rhM; (repeat (first | rw [if_pos (by omega)] | rw [if_neg (by omega)])); first | done | (repeat (first | rw [if_pos (by assumption)] | rw [if_neg (nbt (by assumption))]))) d_M_relationHere_185
            · have _q := c7
              refine lv_iconst (v := iI 3) hx hb d_M_relationHere_158 rfl ?_
              refine lv_goto (tgt := 185) hx hb d_M_relationHere_159 (by decide) ?_
              exact fin _ _ _ (by unfold rhM; (repeat (first | rw [if_pos (by omega)] | rw [if_neg (by omega)])); first | done | (repeat (first | rw [if_pos (by assumption)] | rw [if_neg (nbt (by assumption))]))) d_M_relationHere_185
          · have _q := c6
            refine lv_iconst (v := iI 2) hx hb d_M_relationHere_136 rfl ?_
            refine lv_goto (tgt := 185) hx hb d_M_relationHere_137 (by decide) ?_
            exact fin _ _ _ (by unfold rhM; (repeat (first | rw [if_pos (by omega)] | rw [if_neg (by omega)])); first | done | (repeat (first | rw [if_pos (by assumption)] | rw [if_neg (nbt (by assumption))]))) d_M_relationHere_185
        · have _q := c5
          refine lv_iconst (v := iI 1) hx hb d_M_relationHere_114 rfl ?_
          refine lv_goto (tgt := 185) hx hb d_M_relationHere_115 (by decide) ?_
          exact fin _ _ _ (by unfold rhM; (repeat (first | rw [if_pos (by omega)] | rw [if_neg (by omega)])); first | done | (repeat (first | rw [if_pos (by assumption)] | rw [if_neg (nbt (by assumption))]))) d_M_relationHere_185
      · have _q := c4
        refine lv_iconst (v := iI 0) hx hb d_M_relationHere_94 rfl ?_
        exact fin _ _ _ (by unfold rhM; (repeat (first | rw [if_pos (by omega)] | rw [if_neg (by omega)])); first | done | (repeat (first | rw [if_pos (by assumption)] | rw [if_neg (nbt (by assumption))]))) d_M_relationHere_95
    · have _q := c3
      refine lv_iload_n hx hb d_M_relationHere_37 rfl (lv_at hl 1 rfl) ?_
      refine lv_bipush (v := iI 61) hx hb d_M_relationHere_38 (by decide) ?_
      refine li_icmp_ne (tgt := 55) hx hb d_M_relationHere_40 (by decide) (by omega) (by omega) (fun c9 => ?_) (fun c9 => ?_)
      · have _q := c9
        refine lv_iload_n hx hb d_M_relationHere_55 rfl (lv_at hl 1 rfl) ?_
        refine lv_bipush (v := iI 60) hx hb d_M_relationHere_56 (by decide) ?_
        refine li_icmp_ne (tgt := 74) hx hb d_M_relationHere_58 (by decide) (by omega) (by omega) (fun c10 => ?_) (fun c10 => ?_)
        · have _q := c10
          refine lv_iload_n hx hb d_M_relationHere_74 rfl (lv_at hl 0 rfl) ?_
          refine li_if_eq (tgt := 83) hx hb d_M_relationHere_75 (by decide) (by omega) (fun c11 => ?_) (fun c11 => ?_)
          · have _q := c11
            refine lv_bipush (v := iI 6) hx hb d_M_relationHere_83 (by decide) ?_
            exact fin _ _ _ (by unfold rhM; (repeat (first | rw [if_pos (by omega)] | rw [if_neg (by omega)])); first | done | (repeat (first | rw [if_pos (by assumption)] | rw [if_neg (nbt (by assumption))]))) d_M_relationHere_85
          · have _q := c11
            exact absurd c11 (by omega)
        · have _q := c10
          refine lv_iload_n hx hb d_M_relationHere_61 rfl (lv_at hl 0 rfl) ?_
          refine li_if_eq (tgt := 70) hx hb d_M_relationHere_62 (by decide) (by omega) (fun c12 => ?_) (fun c12 => ?_)
          · have _q := c12
            refine lv_iconst (v := iI 5) hx hb d_M_relationHere_70 rfl ?_
            refine lv_goto (tgt := 85) hx hb d_M_relationHere_71 (by decide) ?_
            exact fin _ _ _ (by unfold rhM; (repeat (first | rw [if_pos (by omega)] | rw [if_neg (by omega)])); first | done | (repeat (first | rw [if_pos (by assumption)] | rw [if_neg (nbt (by assumption))]))) d_M_relationHere_85
          · have _q := c12
            exact absurd c12 (by omega)
      · have _q := c9
        refine lv_iload_n hx hb d_M_relationHere_43 rfl (lv_at hl 0 rfl) ?_
        refine li_if_eq (tgt := 51) hx hb d_M_relationHere_44 (by decide) (by omega) (fun c13 => ?_) (fun c13 => ?_)
        · have _q := c13
          refine lv_iconst (v := iI 3) hx hb d_M_relationHere_51 rfl ?_
          refine lv_goto (tgt := 85) hx hb d_M_relationHere_52 (by decide) ?_
          exact fin _ _ _ (by unfold rhM; (repeat (first | rw [if_pos (by omega)] | rw [if_neg (by omega)])); first | done | (repeat (first | rw [if_pos (by assumption)] | rw [if_neg (nbt (by assumption))]))) d_M_relationHere_85
        · have _q := c13
          exact absurd c13 (by omega)
  · have _q := c2
    refine lv_iconst (v := iI 1) hx hb d_M_relationHere_23 rfl ?_
    refine lv_goto (tgt := 28) hx hb d_M_relationHere_24 (by decide) ?_
    refine lv_istore_n (lv' := [(2, .int (iI 1)), (1, .int (iI cx)), (0, .ref mo)]) hx hb d_M_relationHere_28 rfl hl (by decide) rfl (fun ls hl => ?_)
    refine lv_aload_n hx hb d_M_relationHere_29 rfl (lv_at hl 2 rfl) ?_
    refine gf_M_202 hx hb hts hown hK hP 0 rfl rfl d_M_relationHere_30 ?_
    refine lv_iconst (v := iI 3) hx hb d_M_relationHere_33 rfl ?_
    refine li_icmp_ne (tgt := 86) hx hb d_M_relationHere_34 (by decide) (by omega) (by omega) (fun c14 => ?_) (fun c14 => ?_)
    · have _q := c14
      refine lv_aload_n hx hb d_M_relationHere_86 rfl (lv_at hl 2 rfl) ?_
      refine gf_M_202 hx hb hts hown hK hP 0 rfl rfl d_M_relationHere_87 ?_
      refine lv_iconst (v := iI 1) hx hb d_M_relationHere_90 rfl ?_
      refine li_icmp_eq (tgt := 96) hx hb d_M_relationHere_91 (by decide) (by omega) (by omega) (fun c15 => ?_) (fun c15 => ?_)
      · have _q := c15
        refine lv_aload_n hx hb d_M_relationHere_96 rfl (lv_at hl 2 rfl) ?_
        refine lv_aload_n hx hb d_M_relationHere_97 rfl (lv_at hl 2 rfl) ?_
        refine gf_M_196 hx hb hts hown hK hP 0 rfl rfl d_M_relationHere_98 ?_
        refine lv_aload_n hx hb d_M_relationHere_101 rfl (lv_at hl 2 rfl) ?_
        refine gf_M_199 hx hb hts hown hK hP 0 rfl rfl d_M_relationHere_102 ?_
        refine lv_ldc2 (v := (6385273 : Int64)) hx hb hown (hts (Cond.constantLong R_M 239 6385273) (tk6 101 rfl rfl)) d_M_relationHere_105 ?_
        refine W.eq (g2 := F0 m 108 ls [.long (wlg 6), .int (iI mtt), .int (iI mtf), .ref mo]) rfl ?_
        refine li_callr ((va_runV (As := [.int (iI mtf), .int (iI mtt), .long (wlg 6)]) (rest := []) ⟨hx, hb, hml, hown, hts⟩ (c_M_isWord l dC dI kA mo ma mrf mz mls mfp mfm mtx mwd mak mli mlx mat mtk mtf mtt mfa mla mlp mdp msi mpf mpt mdn ca mtf mtt 6 (by exact hca) (by decide) (by omega)) (cw_M_184 hts rfl rfl ⟨Nat.le_of_ble_eq_true rfl, Nat.le_of_ble_eq_true rfl⟩) (li_preV (va_recv hK hP (ci := 10) (q0 := 0) rfl rfl) (hP.sub [0, 1] rfl) hK hN hG.rd) rfl rfl hl.1 rfl (lv_room (Nat.le_of_ble_eq_true rfl)) d_M_relationHere_108 ⟨(by show 0 + 0 ≤ 0; omega), (by show 0 + 0 ≤ 0; omega)⟩).run) ?_
        refine li_bz (tgt := 118) hx hb d_M_relationHere_111 (by decide) (fun c16 => ?_) (fun c16 => ?_)
        · have _q := c16
          refine lv_aload_n hx hb d_M_relationHere_118 rfl (lv_at hl 2 rfl) ?_
          refine lv_aload_n hx hb d_M_relationHere_119 rfl (lv_at hl 2 rfl) ?_
          refine gf_M_196 hx hb hts hown hK hP 0 rfl rfl d_M_relationHere_120 ?_
          refine lv_aload_n hx hb d_M_relationHere_123 rfl (lv_at hl 2 rfl) ?_
          refine gf_M_199 hx hb hts hown hK hP 0 rfl rfl d_M_relationHere_124 ?_
          refine lv_ldc2 (v := (6384748 : Int64)) hx hb hown (hts (Cond.constantLong R_M 251 6384748) (tk6 102 rfl rfl)) d_M_relationHere_127 ?_
          refine W.eq (g2 := F0 m 130 ls [.long (wlg 7), .int (iI mtt), .int (iI mtf), .ref mo]) rfl ?_
          refine li_callr ((va_runV (As := [.int (iI mtf), .int (iI mtt), .long (wlg 7)]) (rest := []) ⟨hx, hb, hml, hown, hts⟩ (c_M_isWord l dC dI kA mo ma mrf mz mls mfp mfm mtx mwd mak mli mlx mat mtk mtf mtt mfa mla mlp mdp msi mpf mpt mdn ca mtf mtt 7 (by exact hca) (by decide) (by omega)) (cw_M_184 hts rfl rfl ⟨Nat.le_of_ble_eq_true rfl, Nat.le_of_ble_eq_true rfl⟩) (li_preV (va_recv hK hP (ci := 10) (q0 := 0) rfl rfl) (hP.sub [0, 1] rfl) hK hN hG.rd) rfl rfl hl.1 rfl (lv_room (Nat.le_of_ble_eq_true rfl)) d_M_relationHere_130 ⟨(by show 0 + 0 ≤ 0; omega), (by show 0 + 0 ≤ 0; omega)⟩).run) ?_
          refine li_bz (tgt := 140) hx hb d_M_relationHere_133 (by decide) (fun c17 => ?_) (fun c17 => ?_)
          · have _q := c17
            refine lv_aload_n hx hb d_M_relationHere_140 rfl (lv_at hl 2 rfl) ?_
            refine lv_aload_n hx hb d_M_relationHere_141 rfl (lv_at hl 2 rfl) ?_
            refine gf_M_196 hx hb hts hown hK hP 0 rfl rfl d_M_relationHere_142 ?_
            refine lv_aload_n hx hb d_M_relationHere_145 rfl (lv_at hl 2 rfl) ?_
            refine gf_M_199 hx hb hts hown hK hP 0 rfl rfl d_M_relationHere_146 ?_
            refine lv_ldc2 (v := (6382698 : Int64)) hx hb hown (hts (Cond.constantLong R_M 253 6382698) (tk6 103 rfl rfl)) d_M_relationHere_149 ?_
            refine W.eq (g2 := F0 m 152 ls [.long (wlg 8), .int (iI mtt), .int (iI mtf), .ref mo]) rfl ?_
            refine li_callr ((va_runV (As := [.int (iI mtf), .int (iI mtt), .long (wlg 8)]) (rest := []) ⟨hx, hb, hml, hown, hts⟩ (c_M_isWord l dC dI kA mo ma mrf mz mls mfp mfm mtx mwd mak mli mlx mat mtk mtf mtt mfa mla mlp mdp msi mpf mpt mdn ca mtf mtt 8 (by exact hca) (by decide) (by omega)) (cw_M_184 hts rfl rfl ⟨Nat.le_of_ble_eq_true rfl, Nat.le_of_ble_eq_true rfl⟩) (li_preV (va_recv hK hP (ci := 10) (q0 := 0) rfl rfl) (hP.sub [0, 1] rfl) hK hN hG.rd) rfl rfl hl.1 rfl (lv_room (Nat.le_of_ble_eq_true rfl)) d_M_relationHere_152 ⟨(by show 0 + 0 ≤ 0; omega), (by show 0 + 0 ≤ 0; omega)⟩).run) ?_
            refine li_bz (tgt := 162) hx hb d_M_relationHere_155 (by decide) (fun c18 => ?_) (fun c18 => ?_)
            · have _q := c18
              refine lv_aload_n hx hb d_M_relationHere_162 rfl (lv_at hl 2 rfl) ?_
              refine lv_aload_n hx hb d_M_relationHere_163 rfl (lv_at hl 2 rfl) ?_
              refine gf_M_196 hx hb hts hown hK hP 0 rfl rfl d_M_relationHere_164 ?_
              refine lv_aload_n hx hb d_M_relationHere_167 rfl (lv_at hl 2 rfl) ?_
              refine gf_M_199 hx hb hts hown hK hP 0 rfl rfl d_M_relationHere_168 ?_
              refine lv_ldc2 (v := (435811345268 : Int64)) hx hb hown (hts (Cond.constantLong R_M 255 435811345268) (tk6 104 rfl rfl)) d_M_relationHere_171 ?_
              refine W.eq (g2 := F0 m 174 ls [.long (wlg 9), .int (iI mtt), .int (iI mtf), .ref mo]) rfl ?_
              refine li_callr ((va_runV (As := [.int (iI mtf), .int (iI mtt), .long (wlg 9)]) (rest := []) ⟨hx, hb, hml, hown, hts⟩ (c_M_isWord l dC dI kA mo ma mrf mz mls mfp mfm mtx mwd mak mli mlx mat mtk mtf mtt mfa mla mlp mdp msi mpf mpt mdn ca mtf mtt 9 (by exact hca) (by decide) (by omega)) (cw_M_184 hts rfl rfl ⟨Nat.le_of_ble_eq_true rfl, Nat.le_of_ble_eq_true rfl⟩) (li_preV (va_recv hK hP (ci := 10) (q0 := 0) rfl rfl) (hP.sub [0, 1] rfl) hK hN hG.rd) rfl rfl hl.1 rfl (lv_room (Nat.le_of_ble_eq_true rfl)) d_M_relationHere_174 ⟨(by show 0 + 0 ≤ 0; omega), (by show 0 + 0 ≤ 0; omega)⟩).run) ?_
              refine li_bz (tgt := 184) hx hb d_M_relationHere_177 (by decide) (fun c19 => ?_) (fun c19 => ?_)
              · have _q := c19
                refine lv_iconst (v := iI 0) hx hb d_M_relationHere_184 rfl ?_
                exact fin _ _ _ (by unfold rhM; (repeat (first | rw [if_pos (by omega)] | rw [if_neg (by omega)])); first | done | (repeat (first | rw [if_pos (by assumption)] | rw [if_neg (nbt (by assumption))]))) d_M_relationHere_185
              · have _q := c19
                refine lv_iconst (v := iI 4) hx hb d_M_relationHere_180 rfl ?_
                refine lv_goto (tgt := 185) hx hb d_M_relationHere_181 (by decide) ?_
                exact fin _ _ _ (by unfold rhM; (repeat (first | rw [if_pos (by omega)] | rw [if_neg (by omega)])); first | done | (repeat (first | rw [if_pos (by assumption)] | rw [if_neg (nbt (by assumption))]))) d_M_relationHere_185
            · have _q := c18
              refine lv_iconst (v := iI 3) hx hb d_M_relationHere_158 rfl ?_
              refine lv_goto (tgt := 185) hx hb d_M_relationHere_159 (by decide) ?_
              exact fin _ _ _ (by unfold rhM; (repeat (first | rw [if_pos (by omega)] | rw [if_neg (by omega)])); first | done | (repeat (first | rw [if_pos (by assumption)] | rw [if_neg (nbt (by assumption))]))) d_M_relationHere_185
          · have _q := c17
            refine lv_iconst (v := iI 2) hx hb d_M_relationHere_136 rfl ?_
            refine lv_goto (tgt := 185) hx hb d_M_relationHere_137 (by decide) ?_
            exact fin _ _ _ (by unfold rhM; (repeat (first | rw [if_pos (by omega)] | rw [if_neg (by omega)])); first | done | (repeat (first | rw [if_pos (by assumption)] | rw [if_neg (nbt (by assumption))]))) d_M_relationHere_185
        · have _q := c16
          refine lv_iconst (v := iI 1) hx hb d_M_relationHere_114 rfl ?_
          refine lv_goto (tgt := 185) hx hb d_M_relationHere_115 (by decide) ?_
          exact fin _ _ _ (by unfold rhM; (repeat (first | rw [if_pos (by omega)] | rw [if_neg (by omega)])); first | done | (repeat (first | rw [if_pos (by assumption)] | rw [if_neg (nbt (by assumption))]))) d_M_relationHere_185
      · have _q := c15
        refine lv_iconst (v := iI 0) hx hb d_M_relationHere_94 rfl ?_
        exact fin _ _ _ (by unfold rhM; (repeat (first | rw [if_pos (by omega)] | rw [if_neg (by omega)])); first | done | (repeat (first | rw [if_pos (by assumption)] | rw [if_neg (nbt (by assumption))]))) d_M_relationHere_95
    · have _q := c14
      refine lv_iload_n hx hb d_M_relationHere_37 rfl (lv_at hl 1 rfl) ?_
      refine lv_bipush (v := iI 61) hx hb d_M_relationHere_38 (by decide) ?_
      refine li_icmp_ne (tgt := 55) hx hb d_M_relationHere_40 (by decide) (by omega) (by omega) (fun c20 => ?_) (fun c20 => ?_)
      · have _q := c20
        refine lv_iload_n hx hb d_M_relationHere_55 rfl (lv_at hl 1 rfl) ?_
        refine lv_bipush (v := iI 60) hx hb d_M_relationHere_56 (by decide) ?_
        refine li_icmp_ne (tgt := 74) hx hb d_M_relationHere_58 (by decide) (by omega) (by omega) (fun c21 => ?_) (fun c21 => ?_)
        · have _q := c21
          refine lv_iload_n hx hb d_M_relationHere_74 rfl (lv_at hl 0 rfl) ?_
          refine li_if_eq (tgt := 83) hx hb d_M_relationHere_75 (by decide) (by omega) (fun c22 => ?_) (fun c22 => ?_)
          · have _q := c22
            exact absurd c22 (by omega)
          · have _q := c22
            refine lv_bipush (v := iI 8) hx hb d_M_relationHere_78 (by decide) ?_
            refine lv_goto (tgt := 85) hx hb d_M_relationHere_80 (by decide) ?_
            exact fin _ _ _ (by unfold rhM; (repeat (first | rw [if_pos (by omega)] | rw [if_neg (by omega)])); first | done | (repeat (first | rw [if_pos (by assumption)] | rw [if_neg (nbt (by assumption))]))) d_M_relationHere_85
        · have _q := c21
          refine lv_iload_n hx hb d_M_relationHere_61 rfl (lv_at hl 0 rfl) ?_
          refine li_if_eq (tgt := 70) hx hb d_M_relationHere_62 (by decide) (by omega) (fun c23 => ?_) (fun c23 => ?_)
          · have _q := c23
            exact absurd c23 (by omega)
          · have _q := c23
            refine lv_bipush (v := iI 7) hx hb d_M_relationHere_65 (by decide) ?_
            refine lv_goto (tgt := 85) hx hb d_M_relationHere_67 (by decide) ?_
            exact fin _ _ _ (by unfold rhM; (repeat (first | rw [if_pos (by omega)] | rw [if_neg (by omega)])); first | done | (repeat (first | rw [if_pos (by assumption)] | rw [if_neg (nbt (by assumption))]))) d_M_relationHere_85
      · have _q := c20
        refine lv_iload_n hx hb d_M_relationHere_43 rfl (lv_at hl 0 rfl) ?_
        refine li_if_eq (tgt := 51) hx hb d_M_relationHere_44 (by decide) (by omega) (fun c24 => ?_) (fun c24 => ?_)
        · have _q := c24
          exact absurd c24 (by omega)
        · have _q := c24
          refine lv_iconst (v := iI 4) hx hb d_M_relationHere_47 rfl ?_
          refine lv_goto (tgt := 85) hx hb d_M_relationHere_48 (by decide) ?_
          exact fin _ _ _ (by unfold rhM; (repeat (first | rw [if_pos (by omega)] | rw [if_neg (by omega)])); first | done | (repeat (first | rw [if_pos (by assumption)] | rw [if_neg (nbt (by assumption))]))) d_M_relationHere_85
theorem d_M_takeTerm_0 : decode b_M_takeTerm 0 = .ok (.aload_n 0, 1) := by decide +kernel
theorem d_M_takeTerm_1 : decode b_M_takeTerm 1 = .ok (.getfield 202, 3) := by decide +kernel
theorem d_M_takeTerm_4 : decode b_M_takeTerm 4 = .ok (.iconst 1, 1) := by decide +kernel
theorem d_M_takeTerm_5 : decode b_M_takeTerm 5 = .ok (.if_icmp .eq 16, 3) := by decide +kernel
theorem d_M_takeTerm_8 : decode b_M_takeTerm 8 = .ok (.aload_n 0, 1) := by decide +kernel
theorem d_M_takeTerm_9 : decode b_M_takeTerm 9 = .ok (.getfield 202, 3) := by decide +kernel
theorem d_M_takeTerm_12 : decode b_M_takeTerm 12 = .ok (.iconst 2, 1) := by decide +kernel
theorem d_M_takeTerm_13 : decode b_M_takeTerm 13 = .ok (.if_icmp .eq 8, 3) := by decide +kernel
theorem d_M_takeTerm_16 : decode b_M_takeTerm 16 = .ok (.aload_n 0, 1) := by decide +kernel
theorem d_M_takeTerm_17 : decode b_M_takeTerm 17 = .ok (.invokevirtual 230, 3) := by decide +kernel
theorem d_M_takeTerm_20 : decode b_M_takeTerm 20 = .ok (.return_, 1) := by decide +kernel
theorem d_M_takeTerm_21 : decode b_M_takeTerm 21 = .ok (.aload_n 0, 1) := by decide +kernel
theorem d_M_takeTerm_22 : decode b_M_takeTerm 22 = .ok (.aload_n 0, 1) := by decide +kernel
theorem d_M_takeTerm_23 : decode b_M_takeTerm 23 = .ok (.getfield 196, 3) := by decide +kernel
theorem d_M_takeTerm_26 : decode b_M_takeTerm 26 = .ok (.putfield 257, 3) := by decide +kernel
theorem d_M_takeTerm_29 : decode b_M_takeTerm 29 = .ok (.aload_n 0, 1) := by decide +kernel
theorem d_M_takeTerm_30 : decode b_M_takeTerm 30 = .ok (.aload_n 0, 1) := by decide +kernel
theorem d_M_takeTerm_31 : decode b_M_takeTerm 31 = .ok (.getfield 199, 3) := by decide +kernel
theorem d_M_takeTerm_34 : decode b_M_takeTerm 34 = .ok (.putfield 260, 3) := by decide +kernel
theorem d_M_takeTerm_37 : decode b_M_takeTerm 37 = .ok (.aload_n 0, 1) := by decide +kernel
theorem d_M_takeTerm_38 : decode b_M_takeTerm 38 = .ok (.invokevirtual 267, 3) := by decide +kernel
theorem d_M_takeTerm_41 : decode b_M_takeTerm 41 = .ok (.return_, 1) := by decide +kernel
set_option maxHeartbeats 4000000 in
set_option maxRecDepth 100000 in
theorem c_M_takeTerm (l : Launch) (dC : Nat → ClassId) (dI : Nat → Nat → Nat) (kA : Nat → ClassId) (sz : Nat) (mo : Nat) (ma : Nat → Nat) (mrf : Int) (mz : Int) (mls : Int) (mfp : Int) (mfm : Int) (mtx : Int) (mwd : Int) (mak : Int) (mli : Int) (mlx : Int) (mat : Int) (mtk : Int) (mtf : Int) (mtt : Int) (mfa : Int) (mla : Int) (mlp : Int) (mdp : Int) (msi : Int) (mpf : Int) (mpt : Int) (mdn : Bool) (ca : Nat → Int) (hca : C2 ca) (hls : 0 ≤ mls ∧ mls ≤ 100) (hat : 4000 ≤ mat ∧ mat ≤ 4000 + mls) (hpr : -1000000 ≤ mtk ∧ mtk ≤ 1000000 ∧ -1000000 ≤ mtf ∧ mtf ≤ 1000000 ∧ -1000000 ≤ mfa ∧ mfa ≤ 1000000 ∧ -1000000 ≤ mla ∧ mla ≤ 1000000) : Met l y_M_takeTerm (wsy y_M_takeTerm b_M_takeTerm 1 none) (rmd 4 0 0) (li_Pr (dC, dI) CL (TY kA) [.ref mo] (fun h => h.size = sz ∧ va_P (dC, dI) CL [(mo, .inr (10, [.int (iI mrf), .ref (ma 0), .int (iI mz), .ref (ma 1), .ref (ma 2), .int (iI mls), .int (iI mfp), .int (iI mfm), .ref (ma 3), .int (iI mtx), .ref (ma 4), .ref (ma 5), .int (iI mwd), .ref (ma 6), .ref (ma 7), .int (iI mak), .ref (ma 8), .ref (ma 9), .int (iI mli), .int (iI mlx), .ref (ma 10), .ref (ma 11), .int (iI mat), .int (iI mtk), .int (iI mtf), .int (iI mtt), .int (iI mfa), .int (iI mla), .int (iI mlp), .int (iI mdp), .ref (ma 12), .ref (ma 13), .int (iI msi), .int (iI (bI mdn)), .int (iI mpf), .int (iI mpt)])), (ma 1, .inl (kA 0, 4120, .inl (aI ca)))] h ∧ va_D (fun q => dI 100 0 ≤ q) [(mo, .inr (10, [.int (iI mrf), .ref (ma 0), .int (iI mz), .ref (ma 1), .ref (ma 2), .int (iI mls), .int (iI mfp), .int (iI mfm), .ref (ma 3), .int (iI mtx), .ref (ma 4), .ref (ma 5), .int (iI mwd), .ref (ma 6), .ref (ma 7), .int (iI mak), .ref (ma 8), .ref (ma 9), .int (iI mli), .int (iI mlx), .ref (ma 10), .ref (ma 11), .int (iI mat), .int (iI mtk), .int (iI mtf), .int (iI mtt), .int (iI mfa), .int (iI mla), .int (iI mlp), .int (iI mdp), .ref (ma 12), .ref (ma 13), .int (iI msi), .int (iI (bI mdn)), .int (iI mpf), .int (iI mpt)])), (ma 1, .inl (kA 0, 4120, .inl (aI ca)))] ∧ (fun _ => True) h)) (li_Qw (S := (Int) × (Int) × (Int) × (Int) × (Int) × (Int) × (Int) × (Int)) (dC, dI) CL (fun u => PS.mk u.1 u.2.1 u.2.2.1 u.2.2.2.1 u.2.2.2.2.1 u.2.2.2.2.2.1 mla mlp u.2.2.2.2.2.2.1 u.2.2.2.2.2.2.2 = takeP ca mls (PS.mk mat mtk mtf mtt mfa mfp mla mlp mpf mpt) ∧ ((¬ (mtk = 1 ∨ mtk = 2) ∧ ¬ u.2.2.2.2.1 = 0 ∧ (u.2.2.2.2.1 = mfa ∨ u.2.2.2.2.1 = -2) ∧ u.1 = mat ∧ u.2.1 = mtk ∧ u.2.2.1 = mtf ∧ u.2.2.2.1 = mtt ∧ u.2.2.2.2.2.2.1 = mpf ∧ u.2.2.2.2.2.2.2 = mpt) ∨ ((mtk = 1 ∨ mtk = 2) ∧ u.2.2.2.2.1 = mfa ∧ u.2.2.2.2.2.1 = mfp ∧ u.2.2.2.2.2.2.1 = mtf ∧ u.2.2.2.2.2.2.2 = mtt ∧ (u.2.1 = 0 ∨ mat < u.1) ∧ mat ≤ u.1 ∧ 4000 ≤ u.2.2.1 ∧ u.2.2.1 ≤ u.2.2.2.1 ∧ u.2.2.2.1 ≤ u.1 ∧ u.1 ≤ 4000 + mls ∧ 0 ≤ u.2.1 ∧ u.2.1 ≤ 12))) (fun _ => none) (fun u => [(mo, .inr (10, [.int (iI mrf), .ref (ma 0), .int (iI mz), .ref (ma 1), .ref (ma 2), .int (iI mls), .int (iI u.2.2.2.2.2.1), .int (iI mfm), .ref (ma 3), .int (iI mtx), .ref (ma 4), .ref (ma 5), .int (iI mwd), .ref (ma 6), .ref (ma 7), .int (iI mak), .ref (ma 8), .ref (ma 9), .int (iI mli), .int (iI mlx), .ref (ma 10), .ref (ma 11), .int (iI u.1), .int (iI u.2.1), .int (iI u.2.2.1), .int (iI u.2.2.2.1), .int (iI u.2.2.2.2.1), .int (iI mla), .int (iI mlp), .int (iI mdp), .ref (ma 12), .ref (ma 13), .int (iI msi), .int (iI (bI mdn)), .int (iI u.2.2.2.2.2.2.1), .int (iI u.2.2.2.2.2.2.2)])), (ma 1, .inl (kA 0, 4120, .inl (aI ca)))]) (va_A [(mo, .inr (10, [.int (iI mrf), .ref (ma 0), .int (iI mz), .ref (ma 1), .ref (ma 2), .int (iI mls), .int (iI mfp), .int (iI mfm), .ref (ma 3), .int (iI mtx), .ref (ma 4), .ref (ma 5), .int (iI mwd), .ref (ma 6), .ref (ma 7), .int (iI mak), .ref (ma 8), .ref (ma 9), .int (iI mli), .int (iI mlx), .ref (ma 10), .ref (ma 11), .int (iI mat), .int (iI mtk), .int (iI mtf), .int (iI mtt), .int (iI mfa), .int (iI mla), .int (iI mlp), .int (iI mdp), .ref (ma 12), .ref (ma 13), .int (iI msi), .int (iI (bI mdn)), .int (iI mpf), .int (iI mpt)])), (ma 1, .inl (kA 0, 4120, .inl (aI ca)))] sz)) 0 0 (va_A [(mo, .inr (10, [.int (iI mrf), .ref (ma 0), .int (iI mz), .ref (ma 1), .ref (ma 2), .int (iI mls), .int (iI mfp), .int (iI mfm), .ref (ma 3), .int (iI mtx), .ref (ma 4), .ref (ma 5), .int (iI mwd), .ref (ma 6), .ref (ma 7), .int (iI mak), .ref (ma 8), .ref (ma 9), .int (iI mli), .int (iI mlx), .ref (ma 10), .ref (ma 11), .int (iI mat), .int (iI mtk), .int (iI mtf), .int (iI mtt), .int (iI mfa), .int (iI mla), .int (iI mlp), .int (iI mdp), .ref (ma 12), .ref (ma 13), .int (iI msi), .int (iI (bI mdn)), .int (iI mpf), .int (iI mpt)])), (ma 1, .inl (kA 0, 4120, .inl (aI ca)))] sz) := by
  refine li_mwv (by decide) (Nat.le_of_ble_eq_true rfl) ?_
  intro p e s m args below meth c Q A C hP hD hBx hK hN hG hA hAi hAN fin ls hl
  obtain ⟨hx, hb, hr, hml, hown, hts, hlocks, hin⟩ := C
  have hown : s.vm.findClass R_M = some m.cls := hown
  have hl : lv_has ls 1 [(0, .ref mo)] := hl
  suffices h9 : ∀ (H : Heap) (locs : List Loc), H = s.heap → locs = [] → W p l e (rmd 4 0 0) s m args below meth c H locs 0 0 Q (F0 m 0 ls []) from h9 _ _ rfl rfl
  intro H locs eH eL
  have hP : va_P (dC, dI) CL [(mo, .inr (10, [.int (iI mrf), .ref (ma 0), .int (iI mz), .ref (ma 1), .ref (ma 2), .int (iI mls), .int (iI mfp), .int (iI mfm), .ref (ma 3), .int (iI mtx), .ref (ma 4), .ref (ma 5), .int (iI mwd), .ref (ma 6), .ref (ma 7), .int (iI mak), .ref (ma 8), .ref (ma 9), .int (iI mli), .int (iI mlx), .ref (ma 10), .ref (ma 11), .int (iI mat), .int (iI mtk), .int (iI mtf), .int (iI mtt), .int (iI mfa), .int (iI mla), .int (iI mlp), .int (iI mdp), .ref (ma 12), .ref (ma 13), .int (iI msi), .int (iI (bI mdn)), .int (iI mpf), .int (iI mpt)])), (ma 1, .inl (kA 0, 4120, .inl (aI ca)))] H := by rw [eH]; exact hP
  have hS : va_S A s.heap H locs := by rw [eH, eL]; exact va_S.rf
  refine lv_aload_n hx hb d_M_takeTerm_0 rfl (lv_at hl 0 rfl) ?_
  refine gf_M_202 hx hb hts hown hK hP 0 rfl rfl d_M_takeTerm_1 ?_
  refine lv_iconst (v := iI 1) hx hb d_M_takeTerm_4 rfl ?_
  refine li_icmp_eq (tgt := 21) hx hb d_M_takeTerm_5 (by decide) (by omega) (by omega) (fun c1 => ?_) (fun c1 => ?_)
  · have _q := c1
    refine lv_aload_n hx hb d_M_takeTerm_21 rfl (lv_at hl 0 rfl) ?_
    refine lv_aload_n hx hb d_M_takeTerm_22 rfl (lv_at hl 0 rfl) ?_
    refine gf_M_196 hx hb hts hown hK hP 0 rfl rfl d_M_takeTerm_23 ?_
    refine pf_M_257 hx hb hts hown hK hP hD hS 0 rfl (Nat.le_of_ble_eq_true rfl) d_M_takeTerm_26 (fun H locs hP hD hS => ?_)
    have hP : va_P (dC, dI) CL [(mo, .inr (10, [.int (iI mrf), .ref (ma 0), .int (iI mz), .ref (ma 1), .ref (ma 2), .int (iI mls), .int (iI mfp), .int (iI mfm), .ref (ma 3), .int (iI mtx), .ref (ma 4), .ref (ma 5), .int (iI mwd), .ref (ma 6), .ref (ma 7), .int (iI mak), .ref (ma 8), .ref (ma 9), .int (iI mli), .int (iI mlx), .ref (ma 10), .ref (ma 11), .int (iI mat), .int (iI mtk), .int (iI mtf), .int (iI mtt), .int (iI mfa), .int (iI mla), .int (iI mlp), .int (iI mdp), .ref (ma 12), .ref (ma 13), .int (iI msi), .int (iI (bI mdn)), .int (iI mtf), .int (iI mpt)])), (ma 1, .inl (kA 0, 4120, .inl (aI ca)))] H := hP
    have hD : va_D A [(mo, .inr (10, [.int (iI mrf), .ref (ma 0), .int (iI mz), .ref (ma 1), .ref (ma 2), .int (iI mls), .int (iI mfp), .int (iI mfm), .ref (ma 3), .int (iI mtx), .ref (ma 4), .ref (ma 5), .int (iI mwd), .ref (ma 6), .ref (ma 7), .int (iI mak), .ref (ma 8), .ref (ma 9), .int (iI mli), .int (iI mlx), .ref (ma 10), .ref (ma 11), .int (iI mat), .int (iI mtk), .int (iI mtf), .int (iI mtt), .int (iI mfa), .int (iI mla), .int (iI mlp), .int (iI mdp), .ref (ma 12), .ref (ma 13), .int (iI msi), .int (iI (bI mdn)), .int (iI mtf), .int (iI mpt)])), (ma 1, .inl (kA 0, 4120, .inl (aI ca)))] := hD
    refine lv_aload_n hx hb d_M_takeTerm_29 rfl (lv_at hl 0 rfl) ?_
    refine lv_aload_n hx hb d_M_takeTerm_30 rfl (lv_at hl 0 rfl) ?_
    refine gf_M_199 hx hb hts hown hK hP 0 rfl rfl d_M_takeTerm_31 ?_
    refine pf_M_260 hx hb hts hown hK hP hD hS 0 rfl (Nat.le_of_ble_eq_true rfl) d_M_takeTerm_34 (fun H locs hP hD hS => ?_)
    have hP : va_P (dC, dI) CL [(mo, .inr (10, [.int (iI mrf), .ref (ma 0), .int (iI mz), .ref (ma 1), .ref (ma 2), .int (iI mls), .int (iI mfp), .int (iI mfm), .ref (ma 3), .int (iI mtx), .ref (ma 4), .ref (ma 5), .int (iI mwd), .ref (ma 6), .ref (ma 7), .int (iI mak), .ref (ma 8), .ref (ma 9), .int (iI mli), .int (iI mlx), .ref (ma 10), .ref (ma 11), .int (iI mat), .int (iI mtk), .int (iI mtf), .int (iI mtt), .int (iI mfa), .int (iI mla), .int (iI mlp), .int (iI mdp), .ref (ma 12), .ref (ma 13), .int (iI msi), .int (iI (bI mdn)), .int (iI mtf), .int (iI mtt)])), (ma 1, .inl (kA 0, 4120, .inl (aI ca)))] H := hP
    have hD : va_D A [(mo, .inr (10, [.int (iI mrf), .ref (ma 0), .int (iI mz), .ref (ma 1), .ref (ma 2), .int (iI mls), .int (iI mfp), .int (iI mfm), .ref (ma 3), .int (iI mtx), .ref (ma 4), .ref (ma 5), .int (iI mwd), .ref (ma 6), .ref (ma 7), .int (iI mak), .ref (ma 8), .ref (ma 9), .int (iI mli), .int (iI mlx), .ref (ma 10), .ref (ma 11), .int (iI mat), .int (iI mtk), .int (iI mtf), .int (iI mtt), .int (iI mfa), .int (iI mla), .int (iI mlp), .int (iI mdp), .ref (ma 12), .ref (ma 13), .int (iI msi), .int (iI (bI mdn)), .int (iI mtf), .int (iI mtt)])), (ma 1, .inl (kA 0, 4120, .inl (aI ca)))] := hD
    refine lv_aload_n hx hb d_M_takeTerm_37 rfl (lv_at hl 0 rfl) ?_
    refine li_callw (wc := [(mo, .inr (10, [.int (iI mrf), .ref (ma 0), .int (iI mz), .ref (ma 1), .ref (ma 2), .int (iI mls), .int (iI mfp), .int (iI mfm), .ref (ma 3), .int (iI mtx), .ref (ma 4), .ref (ma 5), .int (iI mwd), .ref (ma 6), .ref (ma 7), .int (iI mak), .ref (ma 8), .ref (ma 9), .int (iI mli), .int (iI mlx), .ref (ma 10), .ref (ma 11), .int (iI mat), .int (iI mtk), .int (iI mtf), .int (iI mtt), .int (iI mfa), .int (iI mla), .int (iI mlp), .int (iI mdp), .ref (ma 12), .ref (ma 13), .int (iI msi), .int (iI (bI mdn)), .int (iI mtf), .int (iI mtt)])), (ma 1, .inl (kA 0, 4120, .inl (aI ca)))]) (wr := []) (va_runV (As := []) (rest := []) ⟨hx, hb, hml, hown, hts⟩ (c_M_next l dC dI kA H.size mo ma mrf mz mls mfp mfm mtx mwd mak mli mlx mat mtk mtf mtt mfa mla mlp mdp msi mtf mtt mdn ca (by exact hca) (by exact hls) (by exact hat)) (cw_M_267 hts rfl rfl ⟨Nat.le_of_ble_eq_true rfl, Nat.le_of_ble_eq_true rfl⟩) (li_preV (va_recv hK hP (ci := 10) (q0 := 0) rfl rfl) ⟨rfl, hP.sub [0, 1] rfl, (hD.sub [0, 1] (by decide) rfl).weaken (fun _ _ _ h => hAN _ h), trivial⟩ hK hN (hG.go hS hAN)) rfl rfl hl.1 rfl (lv_room (Nat.le_of_ble_eq_true rfl)) d_M_takeTerm_38 ⟨(by show 0 + 0 ≤ 0; omega), (by show 0 + 0 ≤ 0; omega)⟩) hP hD hS hA [0, 1] [] rfl rfl (by decide) (by decide) (fun u2 H locs hu2 hP hD hS _hk => ?_)
    obtain ⟨n13, n24, n35, n46⟩ := u2
    have hP : va_P (dC, dI) CL [(mo, .inr (10, [.int (iI mrf), .ref (ma 0), .int (iI mz), .ref (ma 1), .ref (ma 2), .int (iI mls), .int (iI mfp), .int (iI mfm), .ref (ma 3), .int (iI mtx), .ref (ma 4), .ref (ma 5), .int (iI mwd), .ref (ma 6), .ref (ma 7), .int (iI mak), .ref (ma 8), .ref (ma 9), .int (iI mli), .int (iI mlx), .ref (ma 10), .ref (ma 11), .int (iI n13), .int (iI n24), .int (iI n35), .int (iI n46), .int (iI mfa), .int (iI mla), .int (iI mlp), .int (iI mdp), .ref (ma 12), .ref (ma 13), .int (iI msi), .int (iI (bI mdn)), .int (iI mtf), .int (iI mtt)])), (ma 1, .inl (kA 0, 4120, .inl (aI ca)))] H := hP
    have hD : va_D A [(mo, .inr (10, [.int (iI mrf), .ref (ma 0), .int (iI mz), .ref (ma 1), .ref (ma 2), .int (iI mls), .int (iI mfp), .int (iI mfm), .ref (ma 3), .int (iI mtx), .ref (ma 4), .ref (ma 5), .int (iI mwd), .ref (ma 6), .ref (ma 7), .int (iI mak), .ref (ma 8), .ref (ma 9), .int (iI mli), .int (iI mlx), .ref (ma 10), .ref (ma 11), .int (iI n13), .int (iI n24), .int (iI n35), .int (iI n46), .int (iI mfa), .int (iI mla), .int (iI mlp), .int (iI mdp), .ref (ma 12), .ref (ma 13), .int (iI msi), .int (iI (bI mdn)), .int (iI mtf), .int (iI mtt)])), (ma 1, .inl (kA 0, 4120, .inl (aI ca)))] := hD
    have hp38 : (n13, n24, n35, n46) = nxM ca (4000 + mls) mat ∧ (n24 = 0 ∨ mat < n13) ∧ mat ≤ n13 ∧ 4000 ≤ n35 ∧ n35 ≤ n46 ∧ n46 ≤ n13 ∧ n13 ≤ 4000 + mls ∧ 0 ≤ n24 ∧ n24 ≤ 12 := hu2
    exact fin (n13, n24, n35, n46, mfa, mfp, mtf, mtt) _ _ _ _ (by show PS.mk n13 n24 n35 n46 mfa mfp mla mlp mtf mtt = takeP ca mls (PS.mk mat mtk mtf mtt mfa mfp mla mlp mpf mpt) ∧ ((¬ (mtk = 1 ∨ mtk = 2) ∧ ¬ mfa = 0 ∧ (mfa = mfa ∨ mfa = -2) ∧ n13 = mat ∧ n24 = mtk ∧ n35 = mtf ∧ n46 = mtt ∧ mtf = mpf ∧ mtt = mpt) ∨ ((mtk = 1 ∨ mtk = 2) ∧ mfa = mfa ∧ mfp = mfp ∧ mtf = mtf ∧ mtt = mtt ∧ (n24 = 0 ∨ mat < n13) ∧ mat ≤ n13 ∧ 4000 ≤ n35 ∧ n35 ≤ n46 ∧ n46 ≤ n13 ∧ n13 ≤ 4000 + mls ∧ 0 ≤ n24 ∧ n24 ≤ 12)); refine ⟨by (unfold takeP; dsimp only [PS.mk, PS.at_, PS.tk, PS.tf, PS.tt, PS.fa, PS.fp, PS.la, PS.lp, PS.pf, PS.pt]; rw [if_pos (by omega)]; unfold nextP; dsimp only [PS.mk, PS.at_, PS.tk, PS.tf, PS.tt, PS.fa, PS.fp, PS.la, PS.lp, PS.pf, PS.pt]; rw [← hp38.1]), Or.inr ⟨by omega, rfl, rfl, rfl, rfl, hp38.2.1, hp38.2.2⟩⟩) (by first | exact hP | (subst_vars; exact hP)) (by first | exact hD | (subst_vars; exact hD)) hS d_M_takeTerm_41
  · have _q := c1
    refine lv_aload_n hx hb d_M_takeTerm_8 rfl (lv_at hl 0 rfl) ?_
    refine gf_M_202 hx hb hts hown hK hP 0 rfl rfl d_M_takeTerm_9 ?_
    refine lv_iconst (v := iI 2) hx hb d_M_takeTerm_12 rfl ?_
    refine li_icmp_eq (tgt := 21) hx hb d_M_takeTerm_13 (by decide) (by omega) (by omega) (fun c7 => ?_) (fun c7 => ?_)
    · have _q := c7
      refine lv_aload_n hx hb d_M_takeTerm_21 rfl (lv_at hl 0 rfl) ?_
      refine lv_aload_n hx hb d_M_takeTerm_22 rfl (lv_at hl 0 rfl) ?_
      refine gf_M_196 hx hb hts hown hK hP 0 rfl rfl d_M_takeTerm_23 ?_
      refine pf_M_257 hx hb hts hown hK hP hD hS 0 rfl (Nat.le_of_ble_eq_true rfl) d_M_takeTerm_26 (fun H locs hP hD hS => ?_)
      have hP : va_P (dC, dI) CL [(mo, .inr (10, [.int (iI mrf), .ref (ma 0), .int (iI mz), .ref (ma 1), .ref (ma 2), .int (iI mls), .int (iI mfp), .int (iI mfm), .ref (ma 3), .int (iI mtx), .ref (ma 4), .ref (ma 5), .int (iI mwd), .ref (ma 6), .ref (ma 7), .int (iI mak), .ref (ma 8), .ref (ma 9), .int (iI mli), .int (iI mlx), .ref (ma 10), .ref (ma 11), .int (iI mat), .int (iI mtk), .int (iI mtf), .int (iI mtt), .int (iI mfa), .int (iI mla), .int (iI mlp), .int (iI mdp), .ref (ma 12), .ref (ma 13), .int (iI msi), .int (iI (bI mdn)), .int (iI mtf), .int (iI mpt)])), (ma 1, .inl (kA 0, 4120, .inl (aI ca)))] H := hP
      have hD : va_D A [(mo, .inr (10, [.int (iI mrf), .ref (ma 0), .int (iI mz), .ref (ma 1), .ref (ma 2), .int (iI mls), .int (iI mfp), .int (iI mfm), .ref (ma 3), .int (iI mtx), .ref (ma 4), .ref (ma 5), .int (iI mwd), .ref (ma 6), .ref (ma 7), .int (iI mak), .ref (ma 8), .ref (ma 9), .int (iI mli), .int (iI mlx), .ref (ma 10), .ref (ma 11), .int (iI mat), .int (iI mtk), .int (iI mtf), .int (iI mtt), .int (iI mfa), .int (iI mla), .int (iI mlp), .int (iI mdp), .ref (ma 12), .ref (ma 13), .int (iI msi), .int (iI (bI mdn)), .int (iI mtf), .int (iI mpt)])), (ma 1, .inl (kA 0, 4120, .inl (aI ca)))] := hD
      refine lv_aload_n hx hb d_M_takeTerm_29 rfl (lv_at hl 0 rfl) ?_
      refine lv_aload_n hx hb d_M_takeTerm_30 rfl (lv_at hl 0 rfl) ?_
      refine gf_M_199 hx hb hts hown hK hP 0 rfl rfl d_M_takeTerm_31 ?_
      refine pf_M_260 hx hb hts hown hK hP hD hS 0 rfl (Nat.le_of_ble_eq_true rfl) d_M_takeTerm_34 (fun H locs hP hD hS => ?_)
      have hP : va_P (dC, dI) CL [(mo, .inr (10, [.int (iI mrf), .ref (ma 0), .int (iI mz), .ref (ma 1), .ref (ma 2), .int (iI mls), .int (iI mfp), .int (iI mfm), .ref (ma 3), .int (iI mtx), .ref (ma 4), .ref (ma 5), .int (iI mwd), .ref (ma 6), .ref (ma 7), .int (iI mak), .ref (ma 8), .ref (ma 9), .int (iI mli), .int (iI mlx), .ref (ma 10), .ref (ma 11), .int (iI mat), .int (iI mtk), .int (iI mtf), .int (iI mtt), .int (iI mfa), .int (iI mla), .int (iI mlp), .int (iI mdp), .ref (ma 12), .ref (ma 13), .int (iI msi), .int (iI (bI mdn)), .int (iI mtf), .int (iI mtt)])), (ma 1, .inl (kA 0, 4120, .inl (aI ca)))] H := hP
      have hD : va_D A [(mo, .inr (10, [.int (iI mrf), .ref (ma 0), .int (iI mz), .ref (ma 1), .ref (ma 2), .int (iI mls), .int (iI mfp), .int (iI mfm), .ref (ma 3), .int (iI mtx), .ref (ma 4), .ref (ma 5), .int (iI mwd), .ref (ma 6), .ref (ma 7), .int (iI mak), .ref (ma 8), .ref (ma 9), .int (iI mli), .int (iI mlx), .ref (ma 10), .ref (ma 11), .int (iI mat), .int (iI mtk), .int (iI mtf), .int (iI mtt), .int (iI mfa), .int (iI mla), .int (iI mlp), .int (iI mdp), .ref (ma 12), .ref (ma 13), .int (iI msi), .int (iI (bI mdn)), .int (iI mtf), .int (iI mtt)])), (ma 1, .inl (kA 0, 4120, .inl (aI ca)))] := hD
      refine lv_aload_n hx hb d_M_takeTerm_37 rfl (lv_at hl 0 rfl) ?_
      refine li_callw (wc := [(mo, .inr (10, [.int (iI mrf), .ref (ma 0), .int (iI mz), .ref (ma 1), .ref (ma 2), .int (iI mls), .int (iI mfp), .int (iI mfm), .ref (ma 3), .int (iI mtx), .ref (ma 4), .ref (ma 5), .int (iI mwd), .ref (ma 6), .ref (ma 7), .int (iI mak), .ref (ma 8), .ref (ma 9), .int (iI mli), .int (iI mlx), .ref (ma 10), .ref (ma 11), .int (iI mat), .int (iI mtk), .int (iI mtf), .int (iI mtt), .int (iI mfa), .int (iI mla), .int (iI mlp), .int (iI mdp), .ref (ma 12), .ref (ma 13), .int (iI msi), .int (iI (bI mdn)), .int (iI mtf), .int (iI mtt)])), (ma 1, .inl (kA 0, 4120, .inl (aI ca)))]) (wr := []) (va_runV (As := []) (rest := []) ⟨hx, hb, hml, hown, hts⟩ (c_M_next l dC dI kA H.size mo ma mrf mz mls mfp mfm mtx mwd mak mli mlx mat mtk mtf mtt mfa mla mlp mdp msi mtf mtt mdn ca (by exact hca) (by exact hls) (by exact hat)) (cw_M_267 hts rfl rfl ⟨Nat.le_of_ble_eq_true rfl, Nat.le_of_ble_eq_true rfl⟩) (li_preV (va_recv hK hP (ci := 10) (q0 := 0) rfl rfl) ⟨rfl, hP.sub [0, 1] rfl, (hD.sub [0, 1] (by decide) rfl).weaken (fun _ _ _ h => hAN _ h), trivial⟩ hK hN (hG.go hS hAN)) rfl rfl hl.1 rfl (lv_room (Nat.le_of_ble_eq_true rfl)) d_M_takeTerm_38 ⟨(by show 0 + 0 ≤ 0; omega), (by show 0 + 0 ≤ 0; omega)⟩) hP hD hS hA [0, 1] [] rfl rfl (by decide) (by decide) (fun u8 H locs hu8 hP hD hS _hk => ?_)
      obtain ⟨n19, n210, n311, n412⟩ := u8
      have hP : va_P (dC, dI) CL [(mo, .inr (10, [.int (iI mrf), .ref (ma 0), .int (iI mz), .ref (ma 1), .ref (ma 2), .int (iI mls), .int (iI mfp), .int (iI mfm), .ref (ma 3), .int (iI mtx), .ref (ma 4), .ref (ma 5), .int (iI mwd), .ref (ma 6), .ref (ma 7), .int (iI mak), .ref (ma 8), .ref (ma 9), .int (iI mli), .int (iI mlx), .ref (ma 10), .ref (ma 11), .int (iI n19), .int (iI n210), .int (iI n311), .int (iI n412), .int (iI mfa), .int (iI mla), .int (iI mlp), .int (iI mdp), .ref (ma 12), .ref (ma 13), .int (iI msi), .int (iI (bI mdn)), .int (iI mtf), .int (iI mtt)])), (ma 1, .inl (kA 0, 4120, .inl (aI ca)))] H := hP
      have hD : va_D A [(mo, .inr (10, [.int (iI mrf), .ref (ma 0), .int (iI mz), .ref (ma 1), .ref (ma 2), .int (iI mls), .int (iI mfp), .int (iI mfm), .ref (ma 3), .int (iI mtx), .ref (ma 4), .ref (ma 5), .int (iI mwd), .ref (ma 6), .ref (ma 7), .int (iI mak), .ref (ma 8), .ref (ma 9), .int (iI mli), .int (iI mlx), .ref (ma 10), .ref (ma 11), .int (iI n19), .int (iI n210), .int (iI n311), .int (iI n412), .int (iI mfa), .int (iI mla), .int (iI mlp), .int (iI mdp), .ref (ma 12), .ref (ma 13), .int (iI msi), .int (iI (bI mdn)), .int (iI mtf), .int (iI mtt)])), (ma 1, .inl (kA 0, 4120, .inl (aI ca)))] := hD
      have hp38 : (n19, n210, n311, n412) = nxM ca (4000 + mls) mat ∧ (n210 = 0 ∨ mat < n19) ∧ mat ≤ n19 ∧ 4000 ≤ n311 ∧ n311 ≤ n412 ∧ n412 ≤ n19 ∧ n19 ≤ 4000 + mls ∧ 0 ≤ n210 ∧ n210 ≤ 12 := hu8
      exact fin (n19, n210, n311, n412, mfa, mfp, mtf, mtt) _ _ _ _ (by show PS.mk n19 n210 n311 n412 mfa mfp mla mlp mtf mtt = takeP ca mls (PS.mk mat mtk mtf mtt mfa mfp mla mlp mpf mpt) ∧ ((¬ (mtk = 1 ∨ mtk = 2) ∧ ¬ mfa = 0 ∧ (mfa = mfa ∨ mfa = -2) ∧ n19 = mat ∧ n210 = mtk ∧ n311 = mtf ∧ n412 = mtt ∧ mtf = mpf ∧ mtt = mpt) ∨ ((mtk = 1 ∨ mtk = 2) ∧ mfa = mfa ∧ mfp = mfp ∧ mtf = mtf ∧ mtt = mtt ∧ (n210 = 0 ∨ mat < n19) ∧ mat ≤ n19 ∧ 4000 ≤ n311 ∧ n311 ≤ n412 ∧ n412 ≤ n19 ∧ n19 ≤ 4000 + mls ∧ 0 ≤ n210 ∧ n210 ≤ 12)); refine ⟨by (unfold takeP; dsimp only [PS.mk, PS.at_, PS.tk, PS.tf, PS.tt, PS.fa, PS.fp, PS.la, PS.lp, PS.pf, PS.pt]; rw [if_pos (by omega)]; unfold nextP; dsimp only [PS.mk, PS.at_, PS.tk, PS.tf, PS.tt, PS.fa, PS.fp, PS.la, PS.lp, PS.pf, PS.pt]; rw [← hp38.1]), Or.inr ⟨by omega, rfl, rfl, rfl, rfl, hp38.2.1, hp38.2.2⟩⟩) (by first | exact hP | (subst_vars; exact hP)) (by first | exact hD | (subst_vars; exact hD)) hS d_M_takeTerm_41
    · have _q := c7
      refine lv_aload_n hx hb d_M_takeTerm_16 rfl (lv_at hl 0 rfl) ?_
      refine li_callw (wc := [(mo, .inr (10, [.int (iI mrf), .ref (ma 0), .int (iI mz), .ref (ma 1), .ref (ma 2), .int (iI mls), .int (iI mfp), .int (iI mfm), .ref (ma 3), .int (iI mtx), .ref (ma 4), .ref (ma 5), .int (iI mwd), .ref (ma 6), .ref (ma 7), .int (iI mak), .ref (ma 8), .ref (ma 9), .int (iI mli), .int (iI mlx), .ref (ma 10), .ref (ma 11), .int (iI mat), .int (iI mtk), .int (iI mtf), .int (iI mtt), .int (iI mfa), .int (iI mla), .int (iI mlp), .int (iI mdp), .ref (ma 12), .ref (ma 13), .int (iI msi), .int (iI (bI mdn)), .int (iI mpf), .int (iI mpt)]))]) (wr := [(ma 1, .inl (kA 0, 4120, .inl (aI ca)))]) (va_runV (As := []) (rest := []) ⟨hx, hb, hml, hown, hts⟩ (c_M_stop l dC dI kA H.size mo ma mrf mz mls mfp mfm mtx mwd mak mli mlx mat mtk mtf mtt mfa mla mlp mdp msi mpf mpt mdn (by exact hpr)) (cw_M_230 hts rfl rfl ⟨Nat.le_of_ble_eq_true rfl, Nat.le_of_ble_eq_true rfl⟩) (li_preV (va_recv hK hP (ci := 10) (q0 := 0) rfl rfl) ⟨rfl, hP.sub [0] rfl, (hD.sub [0] (by decide) rfl).weaken (fun _ _ _ h => hAN _ h), trivial⟩ hK hN (hG.go hS hAN)) rfl rfl hl.1 rfl (lv_room (Nat.le_of_ble_eq_true rfl)) d_M_takeTerm_17 ⟨(by show 0 + 0 ≤ 0; omega), (by show 0 + 0 ≤ 0; omega)⟩) hP hD hS hA [0] [1] rfl rfl (by decide) (by decide) (fun u13 H locs hu13 hP hD hS _hk => ?_)
      obtain ⟨n114, n215⟩ := u13
      have hP : va_P (dC, dI) CL [(ma 1, .inl (kA 0, 4120, .inl (aI ca))), (mo, .inr (10, [.int (iI mrf), .ref (ma 0), .int (iI mz), .ref (ma 1), .ref (ma 2), .int (iI mls), .int (iI n215), .int (iI mfm), .ref (ma 3), .int (iI mtx), .ref (ma 4), .ref (ma 5), .int (iI mwd), .ref (ma 6), .ref (ma 7), .int (iI mak), .ref (ma 8), .ref (ma 9), .int (iI mli), .int (iI mlx), .ref (ma 10), .ref (ma 11), .int (iI mat), .int (iI mtk), .int (iI mtf), .int (iI mtt), .int (iI n114), .int (iI mla), .int (iI mlp), .int (iI mdp), .ref (ma 12), .ref (ma 13), .int (iI msi), .int (iI (bI mdn)), .int (iI mpf), .int (iI mpt)]))] H := hP
      have hD : va_D A [(ma 1, .inl (kA 0, 4120, .inl (aI ca))), (mo, .inr (10, [.int (iI mrf), .ref (ma 0), .int (iI mz), .ref (ma 1), .ref (ma 2), .int (iI mls), .int (iI n215), .int (iI mfm), .ref (ma 3), .int (iI mtx), .ref (ma 4), .ref (ma 5), .int (iI mwd), .ref (ma 6), .ref (ma 7), .int (iI mak), .ref (ma 8), .ref (ma 9), .int (iI mli), .int (iI mlx), .ref (ma 10), .ref (ma 11), .int (iI mat), .int (iI mtk), .int (iI mtf), .int (iI mtt), .int (iI n114), .int (iI mla), .int (iI mlp), .int (iI mdp), .ref (ma 12), .ref (ma 13), .int (iI msi), .int (iI (bI mdn)), .int (iI mpf), .int (iI mpt)]))] := hD
      have hp17 : PS.mk mat mtk mtf mtt n114 n215 mla mlp mpf mpt = stopP mls (PS.mk mat mtk mtf mtt mfa mfp mla mlp mpf mpt) ∧ (n114 = mfa ∨ n114 = -2) ∧ ¬ n114 = 0 := hu13
      exact fin (mat, mtk, mtf, mtt, n114, n215, mpf, mpt) _ _ _ _ (by show PS.mk mat mtk mtf mtt n114 n215 mla mlp mpf mpt = takeP ca mls (PS.mk mat mtk mtf mtt mfa mfp mla mlp mpf mpt) ∧ ((¬ (mtk = 1 ∨ mtk = 2) ∧ ¬ n114 = 0 ∧ (n114 = mfa ∨ n114 = -2) ∧ mat = mat ∧ mtk = mtk ∧ mtf = mtf ∧ mtt = mtt ∧ mpf = mpf ∧ mpt = mpt) ∨ ((mtk = 1 ∨ mtk = 2) ∧ n114 = mfa ∧ n215 = mfp ∧ mpf = mtf ∧ mpt = mtt ∧ (mtk = 0 ∨ mat < mat) ∧ mat ≤ mat ∧ 4000 ≤ mtf ∧ mtf ≤ mtt ∧ mtt ≤ mat ∧ mat ≤ 4000 + mls ∧ 0 ≤ mtk ∧ mtk ≤ 12)); refine ⟨by (unfold takeP; dsimp only [PS.mk, PS.at_, PS.tk, PS.tf, PS.tt, PS.fa, PS.fp, PS.la, PS.lp, PS.pf, PS.pt]; rw [if_neg (by omega)]; exact hp17.1), Or.inl ⟨by omega, hp17.2.2, hp17.2.1, rfl, rfl, rfl, rfl, rfl, rfl⟩⟩) (by first | exact hP.sub [1, 0] rfl | (subst_vars; exact hP.sub [1, 0] rfl)) (by first | exact hD.sub [1, 0] (by decide) rfl | (subst_vars; exact hD.sub [1, 0] (by decide) rfl)) hS d_M_takeTerm_20

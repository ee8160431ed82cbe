/-! the class's look through BYTES -/
def IR (nb : Nat) (tb : Nat → Int) (cn : Int) : Prop := nb ≤ 1000 ∧ (0 ≤ cn ∧ cn ≤ nb) ∧ (∀ j, 0 ≤ tb j ∧ tb j < 256)
def byF (tb : Nat → Int) (cn x : Int) : Int := if 0 ≤ x ∧ x < cn then tb x.toNat else -1
theorem byF_r {nb : Nat} {tb : Nat → Int} {cn x : Int} (h : IR nb tb cn) : -1 ≤ byF tb cn x ∧ byF tb cn x < 256 := by
  have := h.2.2 x.toNat
  unfold byF; split <;> omega
def ldF (x ch : Int) : Bool := if x ≤ 4 ∨ (12 ≤ x ∧ x ≤ 16) then isDig ch else if x = 5 then decide (ch = 97 ∨ ch = 99 ∨ ch = 100 ∨ ch = 110 ∨ ch = 112) else if x = 6 ∨ x = 7 then isLow ch else if x = 9 then decide (ch = 32 ∨ ch = 97) else decide (x < 24 ∧ ch = chS 0 x.toNat)
def ldL (tb : Nat → Int) (cn : Int) : Nat → Int → Int
  | 0, x => x
  | k + 1, x => if ldF x (byF tb cn x) = true then ldL tb cn k (x + 1) else x
/-- kind and place -/
def ldR (tb : Nat → Int) (nb : Nat) (cn fp : Int) : Int × Int := if ldL tb cn 24 0 < 24 then (-5, ldL tb cn 24 0) else if numAt tb nb 0 5 = cn then (0, fp) else (-6, 0)
theorem ldL_r (tb : Nat → Int) (cn : Int) : ∀ (k : Nat) (x : Int), x ≤ ldL tb cn k x ∧ ldL tb cn k x ≤ x + k := by
  intro k
  induction k with
  | zero => intro x; simp [ldL]
  | succ k ih => intro x; simp only [ldL]; have := ih (x + 1); split <;> omega
def enL (tb : Nat → Int) (cn : Int) : Nat → Int → Int × Int
  | 0, _ => (1, cn)
  | k + 1, x => if byF tb cn x = 30 ∧ behF x = true then (0, x) else if isDig (byF tb cn x) = true then enL tb cn k (x + 1) else (1, x)
def enT (tb : Nat → Int) (cn : Int) : Int × Int := enL tb cn (cn - 24).toNat 24
/-- kind, place, entries, base -/
def enR (tb : Nat → Int) (nb : Nat) (cn fp en bs : Int) : Int × Int × Int × Int := if (enT tb cn).1 = 1 then (-5, (enT tb cn).2, en, bs) else if numAt tb nb 12 5 = (enT tb cn).2 + 1 then (0, fp, ((enT tb cn).2 - 24) / 12, (enT tb cn).2 + 1) else (-6, 12, ((enT tb cn).2 - 24) / 12, (enT tb cn).2 + 1)
def fsF (tb : Nat → Int) (cn x d ch : Int) : Bool := if d < 2 then decide (ch = 32) || isDig ch else if d = 2 then decide (ch = 31) else if byF tb cn (x - 1) = 31 then isLow ch || isDig ch else decide (ch = 31) || isTxt ch
def ceF (tb : Nat → Int) (cn x d : Int) (b : Bool) : Bool := if b = true then decide (2 < d ∧ byF tb cn (x - 1) ≠ 31) else true
/-- whether it ends, and where -/
def ffL (tb : Nat → Int) (cn st : Int) (b : Bool) : Nat → Int → Bool × Int
  | 0, _ => (false, cn)
  | k + 1, x => if (if b = true then fsF tb cn x (x - st) (byF tb cn x) else isTxt (byF tb cn x)) = true then ffL tb cn st b k (x + 1) else (decide (byF tb cn x = 30) && ceF tb cn x (x - st) b, x)
def ffR (tb : Nat → Int) (cn st : Int) (b : Bool) : Bool × Int := ffL tb cn st b (cn + 1 - st).toNat st
/-- kind, place, field's end -/
def flR (tb : Nat → Int) (nb : Nat) (cn fp bs fe : Int) (k e st : Int) : Int × Int × Int :=
  if decide (k = 0) ≠ decide (numAt tb nb e 3 = 1) then (-7, e, fe)
  else if bs + numAt tb nb (e + 7) 5 ≠ st then (-6, e + 7, fe)
  else if (ffR tb cn st (decide (10 ≤ numAt tb nb e 3))).1 = false then (-5, (ffR tb cn st (decide (10 ≤ numAt tb nb e 3))).2, (ffR tb cn st (decide (10 ≤ numAt tb nb e 3))).2)
  else if numAt tb nb (e + 3) 4 ≠ (ffR tb cn st (decide (10 ≤ numAt tb nb e 3))).2 + 1 - st then (-6, e + 3, (ffR tb cn st (decide (10 ≤ numAt tb nb e 3))).2)
  else (0, fp, (ffR tb cn st (decide (10 ≤ numAt tb nb e 3))).2)
theorem numL_b (t : Nat → Int) (n : Nat) (ht : ∀ j, 0 ≤ t j ∧ t j < 256) : ∀ (k : Nat) (x v : Int), -1000 ≤ v ∧ v ≤ 1000000 → k = 0 → numL t n k x v = v := by
  intro k x v _ hk; subst hk; rfl
theorem numL_s {t : Nat → Int} {n : Nat} (ht : ∀ j, 0 ≤ t j ∧ t j < 256) (x v : Int) : -10 * (if v < 0 then -v else v) - 48 ≤ (if 0 ≤ x ∧ x < n then 10 * v + (t x.toNat - 48) else v) ∧ (if 0 ≤ x ∧ x < n then 10 * v + (t x.toNat - 48) else v) ≤ 10 * (if v < 0 then -v else v) + 208 := by
  have := ht x.toNat
  split <;> split <;> omega
theorem num5_r {t : Nat → Int} {n : Nat} (ht : ∀ j, 0 ≤ t j ∧ t j < 256) {x k : Int} (hk : 0 ≤ k ∧ k ≤ 5) : -2147483648 ≤ numAt t n x k ∧ numAt t n x k < 2147483648 := by
  unfold numAt
  have key : ∀ (m : Nat) (y v B : Int), (0 ≤ B) → (-B ≤ v ∧ v ≤ B) → m ≤ 5 → -( (10 : Int) ^ m * (B + 208)) ≤ numL t n m y v ∧ numL t n m y v ≤ (10 : Int) ^ m * (B + 208) := by
    intro m
    induction m with
    | zero => intro y v B hB hv _; simp only [numL]; omega
    | succ m ih =>
      intro y v B hB hv hm
      simp only [numL]
      have h1 := ht y.toNat
      have h2 := ih (y + 1) (if 0 ≤ y ∧ y < n then 10 * v + (t y.toNat - 48) else v) (10 * B + 208) (by omega) (by split <;> omega) (by omega)
      have h3 : (10 : Int) ^ (m + 1) * (B + 208) = (10 : Int) ^ m * (10 * B + 2080) := by rw [Int.pow_succ, Int.mul_assoc]; congr 1; omega
      have h4 : (0 : Int) ≤ (10 : Int) ^ m := Int.pow_nonneg (by omega)
      have h5 : (10 : Int) ^ m * (10 * B + 208 + 208) ≤ (10 : Int) ^ m * (10 * B + 2080) := Int.mul_le_mul_of_nonneg_left (by omega) h4
      omega
  have hk5 : k.toNat ≤ 5 := by omega
  have := key k.toNat x 0 0 (by omega) (by omega) hk5
  have h6 : (10 : Int) ^ k.toNat ≤ 10 ^ 5 := by
    rcases (show k.toNat = 0 ∨ k.toNat = 1 ∨ k.toNat = 2 ∨ k.toNat = 3 ∨ k.toNat = 4 ∨ k.toNat = 5 by omega) with h | h | h | h | h | h <;> rw [h] <;> decide
  omega

theorem d_I_byteAt_0 : decode b_I_byteAt 0 = .ok (.iload_n 1, 1) := by decide +kernel
theorem d_I_byteAt_1 : decode b_I_byteAt 1 = .ok (.ifCond .lt 20, 3) := by decide +kernel
theorem d_I_byteAt_4 : decode b_I_byteAt 4 = .ok (.iload_n 1, 1) := by decide +kernel
theorem d_I_byteAt_5 : decode b_I_byteAt 5 = .ok (.aload_n 0, 1) := by decide +kernel
theorem d_I_byteAt_6 : decode b_I_byteAt 6 = .ok (.getfield 21, 3) := by decide +kernel
theorem d_I_byteAt_9 : decode b_I_byteAt 9 = .ok (.if_icmp .ge 12, 3) := by decide +kernel
theorem d_I_byteAt_12 : decode b_I_byteAt 12 = .ok (.aload_n 0, 1) := by decide +kernel
theorem d_I_byteAt_13 : decode b_I_byteAt 13 = .ok (.getfield 9, 3) := by decide +kernel
theorem d_I_byteAt_16 : decode b_I_byteAt 16 = .ok (.iload_n 1, 1) := by decide +kernel
theorem d_I_byteAt_17 : decode b_I_byteAt 17 = .ok (.caload, 1) := by decide +kernel
theorem d_I_byteAt_18 : decode b_I_byteAt 18 = .ok (.goto 4, 3) := by decide +kernel
theorem d_I_byteAt_21 : decode b_I_byteAt 21 = .ok (.iconst (-1), 1) := by decide +kernel
theorem d_I_byteAt_22 : decode b_I_byteAt 22 = .ok (.ireturn, 1) := by decide +kernel
set_option maxHeartbeats 4000000 in
set_option maxRecDepth 100000 in
theorem c_I_byteAt (l : Launch) (dC : Nat → ClassId) (dI : Nat → Nat → Nat) (kA : Nat → ClassId) (io : Nat) (ba : Nat) (nb : Nat) (tb : Nat → Int) (cn : Int) (fp : Int) (en : Int) (bs : Int) (ie : Int) (fe : Int) (x : Int) (hI : IR nb tb cn) (hx0 : -2147483648 ≤ x ∧ x < 2147483648) : Met l y_I_byteAt (wsy y_I_byteAt b_I_byteAt 2 (some .int)) (rmd 0 0 0) (li_Pr (dC, dI) CL (TY kA) [.ref io, .int (iI x)] (va_P (dC, dI) CL [(io, .inr (3, [.ref ba, .int (iI cn), .int (iI fp), .int (iI en), .int (iI bs), .int (iI ie), .int (iI fe)])), (ba, .inl (kA 1, nb, .inl (aI tb)))])) (k2_QcV (.int (iI (byF tb cn x)))) 0 0 (fun _ => False) := by
  refine li_mr (by decide) (Nat.le_of_ble_eq_true rfl) (by rfl) ?_
  intro p e s m args below meth c Q C hP hK hN hG fin ls hl
  obtain ⟨hx, hb, hr, hml, hown, hts, hlocks, hin⟩ := C
  have hown : s.vm.findClass R_I = some m.cls := hown
  have hP : va_P (dC, dI) CL [(io, .inr (3, [.ref ba, .int (iI cn), .int (iI fp), .int (iI en), .int (iI bs), .int (iI ie), .int (iI fe)])), (ba, .inl (kA 1, nb, .inl (aI tb)))] s.heap := hP
  have hl : lv_has ls 2 [(0, .ref io), (1, .int (iI x))] := hl
  obtain ⟨hnb, hcn, htb⟩ := id hI
  refine lv_iload_n hx hb d_I_byteAt_0 rfl (lv_at hl 1 rfl) ?_
  refine li_if_lt (tgt := 21) hx hb d_I_byteAt_1 (by decide) (by omega) (fun c1 => ?_) (fun c1 => ?_)
  · have _q := c1
    refine lv_iconst (v := iI (-1)) hx hb d_I_byteAt_21 rfl ?_
    exact fin _ _ _ (by unfold byF; first | (rw [if_pos (by omega)]; done) | (rw [if_neg (by omega)]; done)) d_I_byteAt_22
  · have _q := c1
    refine lv_iload_n hx hb d_I_byteAt_4 rfl (lv_at hl 1 rfl) ?_
    refine lv_aload_n hx hb d_I_byteAt_5 rfl (lv_at hl 0 rfl) ?_
    refine gf_I_21 hx hb hts hown hK hP 0 rfl rfl d_I_byteAt_6 ?_
    refine li_icmp_ge (tgt := 21) hx hb d_I_byteAt_9 (by decide) (by omega) (by omega) (fun c2 => ?_) (fun c2 => ?_)
    · have _q := c2
      refine lv_iconst (v := iI (-1)) hx hb d_I_byteAt_21 rfl ?_
      exact fin _ _ _ (by unfold byF; first | (rw [if_pos (by omega)]; done) | (rw [if_neg (by omega)]; done)) d_I_byteAt_22
    · have _q := c2
      refine lv_aload_n hx hb d_I_byteAt_12 rfl (lv_at hl 0 rfl) ?_
      refine gf_I_9 hx hb hts hown hK hP 0 rfl rfl d_I_byteAt_13 ?_
      refine lv_iload_n hx hb d_I_byteAt_16 rfl (lv_at hl 1 rfl) ?_
      refine li_cald hx hb hK hP 1 1 rfl rfl (by omega) (by omega) (by omega) d_I_byteAt_17 ?_
      have f3 := htb x.toNat
      refine lv_goto (tgt := 22) hx hb d_I_byteAt_18 (by decide) ?_
      exact fin _ _ _ (by unfold byF; first | (rw [if_pos (by omega)]; done) | (rw [if_neg (by omega)]; done)) d_I_byteAt_22
theorem d_I_fault_0 : decode b_I_fault 0 = .ok (.aload_n 0, 1) := by decide +kernel
theorem d_I_fault_1 : decode b_I_fault 1 = .ok (.iload_n 2, 1) := by decide +kernel
theorem d_I_fault_2 : decode b_I_fault 2 = .ok (.putfield 38, 3) := by decide +kernel
theorem d_I_fault_5 : decode b_I_fault 5 = .ok (.iload_n 1, 1) := by decide +kernel
theorem d_I_fault_6 : decode b_I_fault 6 = .ok (.ireturn, 1) := by decide +kernel
set_option maxHeartbeats 4000000 in
set_option maxRecDepth 100000 in
theorem c_I_fault (l : Launch) (dC : Nat → ClassId) (dI : Nat → Nat → Nat) (kA : Nat → ClassId) (sz : Nat) (io : Nat) (ba : Nat) (cn : Int) (fp : Int) (en : Int) (bs : Int) (ie : Int) (fe : Int) (k : Int) (x : Int) (hk0 : -2147483648 ≤ k ∧ k < 2147483648) (hx0 : -2147483648 ≤ x ∧ x < 2147483648) : Met l y_I_fault (wsy y_I_fault b_I_fault 3 (some .int)) (rmd 0 0 0) (li_Pr (dC, dI) CL (TY kA) [.ref io, .int (iI k), .int (iI x)] (fun h => h.size = sz ∧ va_P (dC, dI) CL [(io, .inr (3, [.ref ba, .int (iI cn), .int (iI fp), .int (iI en), .int (iI bs), .int (iI ie), .int (iI fe)]))] h ∧ va_D (fun q => dI 100 0 ≤ q) [(io, .inr (3, [.ref ba, .int (iI cn), .int (iI fp), .int (iI en), .int (iI bs), .int (iI ie), .int (iI fe)]))] ∧ (fun _ => True) h)) (li_Qw (S := Unit) (dC, dI) CL (fun _ => True) (fun _ => some (.int (iI (k)))) (fun _ => [(io, .inr (3, [.ref ba, .int (iI cn), .int (iI x), .int (iI en), .int (iI bs), .int (iI ie), .int (iI fe)]))]) (va_A [(io, .inr (3, [.ref ba, .int (iI cn), .int (iI fp), .int (iI en), .int (iI bs), .int (iI ie), .int (iI fe)]))] sz)) 0 0 (va_A [(io, .inr (3, [.ref ba, .int (iI cn), .int (iI fp), .int (iI en), .int (iI bs), .int (iI ie), .int (iI fe)]))] sz) := by
  refine li_mwi (r := fun _ => k) (by decide) (Nat.le_of_ble_eq_true rfl) (fun _ _ => by rfl) ?_
  intro p e s m args below meth c Q A C hP hD hBx hK hN hG hA hAi hAN fin ls hl
  obtain ⟨hx, hb, hr, hml, hown, hts, hlocks, hin⟩ := C
  have hown : s.vm.findClass R_I = some m.cls := hown
  have hl : lv_has ls 3 [(0, .ref io), (1, .int (iI k)), (2, .int (iI x))] := hl
  suffices h9 : ∀ (H : Heap) (locs : List Loc), H = s.heap → locs = [] → W p l e (rmd 0 0 0) s m args below meth c H locs 0 0 Q (F0 m 0 ls []) from h9 _ _ rfl rfl
  intro H locs eH eL
  have hP : va_P (dC, dI) CL [(io, .inr (3, [.ref ba, .int (iI cn), .int (iI fp), .int (iI en), .int (iI bs), .int (iI ie), .int (iI fe)]))] H := by rw [eH]; exact hP
  have hS : va_S A s.heap H locs := by rw [eH, eL]; exact va_S.rf
  refine lv_aload_n hx hb d_I_fault_0 rfl (lv_at hl 0 rfl) ?_
  refine lv_iload_n hx hb d_I_fault_1 rfl (lv_at hl 2 rfl) ?_
  refine pf_I_38 hx hb hts hown hK hP hD hS 0 rfl (Nat.le_of_ble_eq_true rfl) d_I_fault_2 (fun H locs hP hD hS => ?_)
  have hP : va_P (dC, dI) CL [(io, .inr (3, [.ref ba, .int (iI cn), .int (iI x), .int (iI en), .int (iI bs), .int (iI ie), .int (iI fe)]))] H := hP
  have hD : va_D A [(io, .inr (3, [.ref ba, .int (iI cn), .int (iI x), .int (iI en), .int (iI bs), .int (iI ie), .int (iI fe)]))] := hD
  refine lv_iload_n hx hb d_I_fault_5 rfl (lv_at hl 1 rfl) ?_
  exact fin () _ _ _ _ _ (by rfl) (by trivial) (by first | exact hP | (subst_vars; exact hP)) (by first | exact hD | (subst_vars; exact hD)) hS d_I_fault_6
theorem d_I_fitsLeader_0 : decode b_I_fitsLeader 0 = .ok (.iload_n 0, 1) := by decide +kernel
theorem d_I_fitsLeader_1 : decode b_I_fitsLeader 1 = .ok (.iconst 4, 1) := by decide +kernel
theorem d_I_fitsLeader_2 : decode b_I_fitsLeader 2 = .ok (.if_icmp .le 15, 3) := by decide +kernel
theorem d_I_fitsLeader_5 : decode b_I_fitsLeader 5 = .ok (.iload_n 0, 1) := by decide +kernel
theorem d_I_fitsLeader_6 : decode b_I_fitsLeader 6 = .ok (.bipush 12, 2) := by decide +kernel
theorem d_I_fitsLeader_8 : decode b_I_fitsLeader 8 = .ok (.if_icmp .lt 14, 3) := by decide +kernel
theorem d_I_fitsLeader_11 : decode b_I_fitsLeader 11 = .ok (.iload_n 0, 1) := by decide +kernel
theorem d_I_fitsLeader_12 : decode b_I_fitsLeader 12 = .ok (.bipush 16, 2) := by decide +kernel
theorem d_I_fitsLeader_14 : decode b_I_fitsLeader 14 = .ok (.if_icmp .gt 8, 3) := by decide +kernel
theorem d_I_fitsLeader_17 : decode b_I_fitsLeader 17 = .ok (.iload_n 1, 1) := by decide +kernel
theorem d_I_fitsLeader_18 : decode b_I_fitsLeader 18 = .ok (.invokestatic 56, 3) := by decide +kernel
theorem d_I_fitsLeader_21 : decode b_I_fitsLeader 21 = .ok (.ireturn, 1) := by decide +kernel
theorem d_I_fitsLeader_22 : decode b_I_fitsLeader 22 = .ok (.iload_n 0, 1) := by decide +kernel
theorem d_I_fitsLeader_23 : decode b_I_fitsLeader 23 = .ok (.iconst 5, 1) := by decide +kernel
theorem d_I_fitsLeader_24 : decode b_I_fitsLeader 24 = .ok (.if_icmp .ne 39, 3) := by decide +kernel
theorem d_I_fitsLeader_27 : decode b_I_fitsLeader 27 = .ok (.iload_n 1, 1) := by decide +kernel
theorem d_I_fitsLeader_28 : decode b_I_fitsLeader 28 = .ok (.bipush 97, 2) := by decide +kernel
theorem d_I_fitsLeader_30 : decode b_I_fitsLeader 30 = .ok (.if_icmp .eq 27, 3) := by decide +kernel
theorem d_I_fitsLeader_33 : decode b_I_fitsLeader 33 = .ok (.iload_n 1, 1) := by decide +kernel
theorem d_I_fitsLeader_34 : decode b_I_fitsLeader 34 = .ok (.bipush 99, 2) := by decide +kernel
theorem d_I_fitsLeader_36 : decode b_I_fitsLeader 36 = .ok (.if_icmp .eq 21, 3) := by decide +kernel
theorem d_I_fitsLeader_39 : decode b_I_fitsLeader 39 = .ok (.iload_n 1, 1) := by decide +kernel
theorem d_I_fitsLeader_40 : decode b_I_fitsLeader 40 = .ok (.bipush 100, 2) := by decide +kernel
theorem d_I_fitsLeader_42 : decode b_I_fitsLeader 42 = .ok (.if_icmp .eq 15, 3) := by decide +kernel
theorem d_I_fitsLeader_45 : decode b_I_fitsLeader 45 = .ok (.iload_n 1, 1) := by decide +kernel
theorem d_I_fitsLeader_46 : decode b_I_fitsLeader 46 = .ok (.bipush 110, 2) := by decide +kernel
theorem d_I_fitsLeader_48 : decode b_I_fitsLeader 48 = .ok (.if_icmp .eq 9, 3) := by decide +kernel
theorem d_I_fitsLeader_51 : decode b_I_fitsLeader 51 = .ok (.iload_n 1, 1) := by decide +kernel
theorem d_I_fitsLeader_52 : decode b_I_fitsLeader 52 = .ok (.bipush 112, 2) := by decide +kernel
theorem d_I_fitsLeader_54 : decode b_I_fitsLeader 54 = .ok (.if_icmp .ne 7, 3) := by decide +kernel
theorem d_I_fitsLeader_57 : decode b_I_fitsLeader 57 = .ok (.iconst 1, 1) := by decide +kernel
theorem d_I_fitsLeader_58 : decode b_I_fitsLeader 58 = .ok (.goto 4, 3) := by decide +kernel
theorem d_I_fitsLeader_61 : decode b_I_fitsLeader 61 = .ok (.iconst 0, 1) := by decide +kernel
theorem d_I_fitsLeader_62 : decode b_I_fitsLeader 62 = .ok (.ireturn, 1) := by decide +kernel
theorem d_I_fitsLeader_63 : decode b_I_fitsLeader 63 = .ok (.iload_n 0, 1) := by decide +kernel
theorem d_I_fitsLeader_64 : decode b_I_fitsLeader 64 = .ok (.bipush 6, 2) := by decide +kernel
theorem d_I_fitsLeader_66 : decode b_I_fitsLeader 66 = .ok (.if_icmp .eq 9, 3) := by decide +kernel
theorem d_I_fitsLeader_69 : decode b_I_fitsLeader 69 = .ok (.iload_n 0, 1) := by decide +kernel
theorem d_I_fitsLeader_70 : decode b_I_fitsLeader 70 = .ok (.bipush 7, 2) := by decide +kernel
theorem d_I_fitsLeader_72 : decode b_I_fitsLeader 72 = .ok (.if_icmp .ne 8, 3) := by decide +kernel
theorem d_I_fitsLeader_75 : decode b_I_fitsLeader 75 = .ok (.iload_n 1, 1) := by decide +kernel
theorem d_I_fitsLeader_76 : decode b_I_fitsLeader 76 = .ok (.invokestatic 60, 3) := by decide +kernel
theorem d_I_fitsLeader_79 : decode b_I_fitsLeader 79 = .ok (.ireturn, 1) := by decide +kernel
theorem d_I_fitsLeader_80 : decode b_I_fitsLeader 80 = .ok (.iload_n 0, 1) := by decide +kernel
theorem d_I_fitsLeader_81 : decode b_I_fitsLeader 81 = .ok (.bipush 9, 2) := by decide +kernel
theorem d_I_fitsLeader_83 : decode b_I_fitsLeader 83 = .ok (.if_icmp .ne 21, 3) := by decide +kernel
theorem d_I_fitsLeader_86 : decode b_I_fitsLeader 86 = .ok (.iload_n 1, 1) := by decide +kernel
theorem d_I_fitsLeader_87 : decode b_I_fitsLeader 87 = .ok (.bipush 32, 2) := by decide +kernel
theorem d_I_fitsLeader_89 : decode b_I_fitsLeader 89 = .ok (.if_icmp .eq 9, 3) := by decide +kernel
theorem d_I_fitsLeader_92 : decode b_I_fitsLeader 92 = .ok (.iload_n 1, 1) := by decide +kernel
theorem d_I_fitsLeader_93 : decode b_I_fitsLeader 93 = .ok (.bipush 97, 2) := by decide +kernel
theorem d_I_fitsLeader_95 : decode b_I_fitsLeader 95 = .ok (.if_icmp .ne 7, 3) := by decide +kernel
theorem d_I_fitsLeader_98 : decode b_I_fitsLeader 98 = .ok (.iconst 1, 1) := by decide +kernel
theorem d_I_fitsLeader_99 : decode b_I_fitsLeader 99 = .ok (.goto 4, 3) := by decide +kernel
theorem d_I_fitsLeader_102 : decode b_I_fitsLeader 102 = .ok (.iconst 0, 1) := by decide +kernel
theorem d_I_fitsLeader_103 : decode b_I_fitsLeader 103 = .ok (.ireturn, 1) := by decide +kernel
theorem d_I_fitsLeader_104 : decode b_I_fitsLeader 104 = .ok (.iload_n 0, 1) := by decide +kernel
theorem d_I_fitsLeader_105 : decode b_I_fitsLeader 105 = .ok (.ldc 63, 2) := by decide +kernel
theorem d_I_fitsLeader_107 : decode b_I_fitsLeader 107 = .ok (.invokevirtual 65, 3) := by decide +kernel
theorem d_I_fitsLeader_110 : decode b_I_fitsLeader 110 = .ok (.if_icmp .ge 17, 3) := by decide +kernel
theorem d_I_fitsLeader_113 : decode b_I_fitsLeader 113 = .ok (.iload_n 1, 1) := by decide +kernel
theorem d_I_fitsLeader_114 : decode b_I_fitsLeader 114 = .ok (.ldc 63, 2) := by decide +kernel
theorem d_I_fitsLeader_116 : decode b_I_fitsLeader 116 = .ok (.iload_n 0, 1) := by decide +kernel
theorem d_I_fitsLeader_117 : decode b_I_fitsLeader 117 = .ok (.invokevirtual 70, 3) := by decide +kernel
theorem d_I_fitsLeader_120 : decode b_I_fitsLeader 120 = .ok (.if_icmp .ne 7, 3) := by decide +kernel
theorem d_I_fitsLeader_123 : decode b_I_fitsLeader 123 = .ok (.iconst 1, 1) := by decide +kernel
theorem d_I_fitsLeader_124 : decode b_I_fitsLeader 124 = .ok (.goto 4, 3) := by decide +kernel
theorem d_I_fitsLeader_127 : decode b_I_fitsLeader 127 = .ok (.iconst 0, 1) := by decide +kernel
theorem d_I_fitsLeader_128 : decode b_I_fitsLeader 128 = .ok (.ireturn, 1) := by decide +kernel
set_option maxHeartbeats 4000000 in
set_option maxRecDepth 100000 in
theorem c_I_fitsLeader (l : Launch) (dC : Nat → ClassId) (dI : Nat → Nat → Nat) (kA : Nat → ClassId) (x : Int) (ch : Int) (hx0 : 0 ≤ x ∧ x < 24) (hc : -1 ≤ ch ∧ ch < 256) : Met l y_I_fitsLeader (wsy y_I_fitsLeader b_I_fitsLeader 2 (some .boolean)) (rmd 4 0 0) (li_Pr (dC, dI) CL (TY kA) [.int (iI x), .int (iI ch)] (va_P (dC, dI) CL [])) (k2_QcV (.int (iI (bI (ldF x ch))))) 0 0 (fun _ => False) := by
  refine li_mr (by decide) (Nat.le_of_ble_eq_true rfl) (by exact li_narZ2 _) ?_
  intro p e s m args below meth c Q C hP hK hN hG fin ls hl
  obtain ⟨hx, hb, hr, hml, hown, hts, hlocks, hin⟩ := C
  have hown : s.vm.findClass R_I = some m.cls := hown
  have hP : va_P (dC, dI) CL [] s.heap := hP
  have hl : lv_has ls 2 [(0, .int (iI x)), (1, .int (iI ch))] := hl
  refine lv_iload_n hx hb d_I_fitsLeader_0 rfl (lv_at hl 0 rfl) ?_
  refine lv_iconst (v := iI 4) hx hb d_I_fitsLeader_1 rfl ?_
  refine li_icmp_le (tgt := 17) hx hb d_I_fitsLeader_2 (by decide) (by omega) (by omega) (fun c1 => ?_) (fun c1 => ?_)
  · have _q := c1
    refine lv_iload_n hx hb d_I_fitsLeader_17 rfl (lv_at hl 1 rfl) ?_
    refine li_callr ((va_runSN (As := [.int (iI ch)]) (rest := []) ⟨hx, hb, hml, hown, hts⟩ (c_Q_isDigit l dC dI kA ch (by omega)) (cw_I_56 hts hN rfl rfl ⟨Nat.le_of_ble_eq_true rfl, Nat.le_of_ble_eq_true rfl⟩) (li_preS va_Pnil hK hN hG.rd) rfl rfl hl.1 rfl (lv_room (Nat.le_of_ble_eq_true rfl)) d_I_fitsLeader_18 ⟨(by show 0 + 0 ≤ 0; omega), (by show 0 + 0 ≤ 0; omega)⟩).run) ?_
    exact fin _ _ _ (by unfold ldF; first | (rw [if_pos (by omega)]; done) | (rw [if_neg (by omega), if_pos (by omega)]; first | exact bI_t (decide_eq_true (by omega)) | exact bI_f (decide_eq_false (by omega))) | (rw [if_neg (by omega), if_neg (by omega), if_pos (by omega)]; done) | (rw [if_neg (by omega), if_neg (by omega), if_neg (by omega), if_pos (by omega)]; first | exact bI_t (decide_eq_true (by omega)) | exact bI_f (decide_eq_false (by omega))) | (rw [if_neg (by omega), if_neg (by omega), if_neg (by omega), if_neg (by omega)]; first | exact bI_t (decide_eq_true (by omega)) | exact bI_f (decide_eq_false (by omega)))) d_I_fitsLeader_21
  · have _q := c1
    refine lv_iload_n hx hb d_I_fitsLeader_5 rfl (lv_at hl 0 rfl) ?_
    refine lv_bipush (v := iI 12) hx hb d_I_fitsLeader_6 (by decide) ?_
    refine li_icmp_lt (tgt := 22) hx hb d_I_fitsLeader_8 (by decide) (by omega) (by omega) (fun c2 => ?_) (fun c2 => ?_)
    · have _q := c2
      refine lv_iload_n hx hb d_I_fitsLeader_22 rfl (lv_at hl 0 rfl) ?_
      refine lv_iconst (v := iI 5) hx hb d_I_fitsLeader_23 rfl ?_
      refine li_icmp_ne (tgt := 63) hx hb d_I_fitsLeader_24 (by decide) (by omega) (by omega) (fun c3 => ?_) (fun c3 => ?_)
      · have _q := c3
        refine lv_iload_n hx hb d_I_fitsLeader_63 rfl (lv_at hl 0 rfl) ?_
        refine lv_bipush (v := iI 6) hx hb d_I_fitsLeader_64 (by decide) ?_
        refine li_icmp_eq (tgt := 75) hx hb d_I_fitsLeader_66 (by decide) (by omega) (by omega) (fun c4 => ?_) (fun c4 => ?_)
        · have _q := c4
          refine lv_iload_n hx hb d_I_fitsLeader_75 rfl (lv_at hl 1 rfl) ?_
          refine li_callr ((va_runSN (As := [.int (iI ch)]) (rest := []) ⟨hx, hb, hml, hown, hts⟩ (c_Q_isSmallLetter l dC dI kA ch (by omega)) (cw_I_60 hts hN rfl rfl ⟨Nat.le_of_ble_eq_true rfl, Nat.le_of_ble_eq_true rfl⟩) (li_preS va_Pnil hK hN hG.rd) rfl rfl hl.1 rfl (lv_room (Nat.le_of_ble_eq_true rfl)) d_I_fitsLeader_76 ⟨(by show 0 + 0 ≤ 0; omega), (by show 0 + 0 ≤ 0; omega)⟩).run) ?_
          exact fin _ _ _ (by unfold ldF; first | (rw [if_pos (by omega)]; done) | (rw [if_neg (by omega), if_pos (by omega)]; first | exact bI_t (decide_eq_true (by omega)) | exact bI_f (decide_eq_false (by omega))) | (rw [if_neg (by omega), if_neg (by omega), if_pos (by omega)]; done) | (rw [if_neg (by omega), if_neg (by omega), if_neg (by omega), if_pos (by omega)]; first | exact bI_t (decide_eq_true (by omega)) | exact bI_f (decide_eq_false (by omega))) | (rw [if_neg (by omega), if_neg (by omega), if_neg (by omega), if_neg (by omega)]; first | exact bI_t (decide_eq_true (by omega)) | exact bI_f (decide_eq_false (by omega)))) d_I_fitsLeader_79
        · have _q := c4
          refine lv_iload_n hx hb d_I_fitsLeader_69 rfl (lv_at hl 0 rfl) ?_
          refine lv_bipush (v := iI 7) hx hb d_I_fitsLeader_70 (by decide) ?_
          refine li_icmp_ne (tgt := 80) hx hb d_I_fitsLeader_72 (by decide) (by omega) (by omega) (fun c5 => ?_) (fun c5 => ?_)
          · have _q := c5
            refine lv_iload_n hx hb d_I_fitsLeader_80 rfl (lv_at hl 0 rfl) ?_
            refine lv_bipush (v := iI 9) hx hb d_I_fitsLeader_81 (by decide) ?_
            refine li_icmp_ne (tgt := 104) hx hb d_I_fitsLeader_83 (by decide) (by omega) (by omega) (fun c6 => ?_) (fun c6 => ?_)
            · have _q := c6
              refine lv_iload_n hx hb d_I_fitsLeader_104 rfl (lv_at hl 0 rfl) ?_
              refine va_ldcS hx hb hown (hG.2.1 0 (R_I, 63, "-------- -22-----   4500") rfl) d_I_fitsLeader_105 ?_
              refine li_callr ((va_runV (As := []) (rest := [.int (iI x)]) ⟨hx, hb, hml, hown, hts⟩ (c_Str_length l dC dI kA 0 (by decide)) (cw_I_65 hts rfl rfl ⟨Nat.le_of_ble_eq_true rfl, Nat.le_of_ble_eq_true rfl⟩) (li_preV (vk_recv hG.2.2.1 (i := 0) (by decide) (va_S.rf (A := fun q => dI 100 0 ≤ q))) va_Pnil hK hN hG.rd) rfl rfl hl.1 rfl (lv_room (Nat.le_of_ble_eq_true rfl)) d_I_fitsLeader_107 ⟨(by show 0 + 0 ≤ 0; omega), (by show 0 + 0 ≤ 0; omega)⟩).run) ?_
              refine li_icmp_ge (tgt := 127) hx hb d_I_fitsLeader_110 (by decide) (by first | omega | (show -2147483648 ≤ (24 : Int) ∧ (24 : Int) < 2147483648; omega)) (by first | omega | (show -2147483648 ≤ (24 : Int) ∧ (24 : Int) < 2147483648; omega)) (fun c7 => ?_) (fun c7 => ?_)
              · have _q := c7
                exact absurd c7 (by show ¬ ((24 : Int) ≤ x); omega)
              · have _q := c7
                refine lv_iload_n hx hb d_I_fitsLeader_113 rfl (lv_at hl 1 rfl) ?_
                refine va_ldcS hx hb hown (hG.2.1 0 (R_I, 63, "-------- -22-----   4500") rfl) d_I_fitsLeader_114 ?_
                refine lv_iload_n hx hb d_I_fitsLeader_116 rfl (lv_at hl 0 rfl) ?_
                refine li_callr ((va_runV (As := [.int (iI x)]) (rest := [.int (iI ch)]) ⟨hx, hb, hml, hown, hts⟩ (c_Str_charAt l dC dI kA 0 x (by decide) (by show 0 ≤ x ∧ x < (24 : Int); omega)) (cw_I_70 hts rfl rfl ⟨Nat.le_of_ble_eq_true rfl, Nat.le_of_ble_eq_true rfl⟩) (li_preV (vk_recv hG.2.2.1 (i := 0) (by decide) (va_S.rf (A := fun q => dI 100 0 ≤ q))) va_Pnil hK hN hG.rd) rfl rfl hl.1 rfl (lv_room (Nat.le_of_ble_eq_true rfl)) d_I_fitsLeader_117 ⟨(by show 0 + 0 ≤ 0; omega), (by show 0 + 0 ≤ 0; omega)⟩).run) ?_
                refine li_icmp_ne (tgt := 127) hx hb d_I_fitsLeader_120 (by decide) (by first | omega | (have := chS_r 0 x.toNat; omega)) (by first | omega | (have := chS_r 0 x.toNat; omega)) (fun c8 => ?_) (fun c8 => ?_)
                · have _q := c8
                  refine lv_iconst (v := iI 0) hx hb d_I_fitsLeader_127 rfl ?_
                  exact fin _ _ _ (by unfold ldF; first | (rw [if_pos (by omega)]; done) | (rw [if_neg (by omega), if_pos (by omega)]; first | exact bI_t (decide_eq_true (by omega)) | exact bI_f (decide_eq_false (by omega))) | (rw [if_neg (by omega), if_neg (by omega), if_pos (by omega)]; done) | (rw [if_neg (by omega), if_neg (by omega), if_neg (by omega), if_pos (by omega)]; first | exact bI_t (decide_eq_true (by omega)) | exact bI_f (decide_eq_false (by omega))) | (rw [if_neg (by omega), if_neg (by omega), if_neg (by omega), if_neg (by omega)]; first | exact bI_t (decide_eq_true (by omega)) | exact bI_f (decide_eq_false (by omega)))) d_I_fitsLeader_128
                · have _q := c8
                  refine lv_iconst (v := iI 1) hx hb d_I_fitsLeader_123 rfl ?_
                  refine lv_goto (tgt := 128) hx hb d_I_fitsLeader_124 (by decide) ?_
                  exact fin _ _ _ (by unfold ldF; first | (rw [if_pos (by omega)]; done) | (rw [if_neg (by omega), if_pos (by omega)]; first | exact bI_t (decide_eq_true (by omega)) | exact bI_f (decide_eq_false (by omega))) | (rw [if_neg (by omega), if_neg (by omega), if_pos (by omega)]; done) | (rw [if_neg (by omega), if_neg (by omega), if_neg (by omega), if_pos (by omega)]; first | exact bI_t (decide_eq_true (by omega)) | exact bI_f (decide_eq_false (by omega))) | (rw [if_neg (by omega), if_neg (by omega), if_neg (by omega), if_neg (by omega)]; first | exact bI_t (decide_eq_true (by omega)) | exact bI_f (decide_eq_false (by omega)))) d_I_fitsLeader_128
            · have _q := c6
              refine lv_iload_n hx hb d_I_fitsLeader_86 rfl (lv_at hl 1 rfl) ?_
              refine lv_bipush (v := iI 32) hx hb d_I_fitsLeader_87 (by decide) ?_
              refine li_icmp_eq (tgt := 98) hx hb d_I_fitsLeader_89 (by decide) (by omega) (by omega) (fun c9 => ?_) (fun c9 => ?_)
              · have _q := c9
                refine lv_iconst (v := iI 1) hx hb d_I_fitsLeader_98 rfl ?_
                refine lv_goto (tgt := 103) hx hb d_I_fitsLeader_99 (by decide) ?_
                exact fin _ _ _ (by unfold ldF; first | (rw [if_pos (by omega)]; done) | (rw [if_neg (by omega), if_pos (by omega)]; first | exact bI_t (decide_eq_true (by omega)) | exact bI_f (decide_eq_false (by omega))) | (rw [if_neg (by omega), if_neg (by omega), if_pos (by omega)]; done) | (rw [if_neg (by omega), if_neg (by omega), if_neg (by omega), if_pos (by omega)]; first | exact bI_t (decide_eq_true (by omega)) | exact bI_f (decide_eq_false (by omega))) | (rw [if_neg (by omega), if_neg (by omega), if_neg (by omega), if_neg (by omega)]; first | exact bI_t (decide_eq_true (by omega)) | exact bI_f (decide_eq_false (by omega)))) d_I_fitsLeader_103
              · have _q := c9
                refine lv_iload_n hx hb d_I_fitsLeader_92 rfl (lv_at hl 1 rfl) ?_
                refine lv_bipush (v := iI 97) hx hb d_I_fitsLeader_93 (by decide) ?_
                refine li_icmp_ne (tgt := 102) hx hb d_I_fitsLeader_95 (by decide) (by omega) (by omega) (fun c10 => ?_) (fun c10 => ?_)
                · have _q := c10
                  refine lv_iconst (v := iI 0) hx hb d_I_fitsLeader_102 rfl ?_
                  exact fin _ _ _ (by unfold ldF; first | (rw [if_pos (by omega)]; done) | (rw [if_neg (by omega), if_pos (by omega)]; first | exact bI_t (decide_eq_true (by omega)) | exact bI_f (decide_eq_false (by omega))) | (rw [if_neg (by omega), if_neg (by omega), if_pos (by omega)]; done) | (rw [if_neg (by omega), if_neg (by omega), if_neg (by omega), if_pos (by omega)]; first | exact bI_t (decide_eq_true (by omega)) | exact bI_f (decide_eq_false (by omega))) | (rw [if_neg (by omega), if_neg (by omega), if_neg (by omega), if_neg (by omega)]; first | exact bI_t (decide_eq_true (by omega)) | exact bI_f (decide_eq_false (by omega)))) d_I_fitsLeader_103
                · have _q := c10
                  refine lv_iconst (v := iI 1) hx hb d_I_fitsLeader_98 rfl ?_
                  refine lv_goto (tgt := 103) hx hb d_I_fitsLeader_99 (by decide) ?_
                  exact fin _ _ _ (by unfold ldF; first | (rw [if_pos (by omega)]; done) | (rw [if_neg (by omega), if_pos (by omega)]; first | exact bI_t (decide_eq_true (by omega)) | exact bI_f (decide_eq_false (by omega))) | (rw [if_neg (by omega), if_neg (by omega), if_pos (by omega)]; done) | (rw [if_neg (by omega), if_neg (by omega), if_neg (by omega), if_pos (by omega)]; first | exact bI_t (decide_eq_true (by omega)) | exact bI_f (decide_eq_false (by omega))) | (rw [if_neg (by omega), if_neg (by omega), if_neg (by omega), if_neg (by omega)]; first | exact bI_t (decide_eq_true (by omega)) | exact bI_f (decide_eq_false (by omega)))) d_I_fitsLeader_103
          · have _q := c5
            refine lv_iload_n hx hb d_I_fitsLeader_75 rfl (lv_at hl 1 rfl) ?_
            refine li_callr ((va_runSN (As := [.int (iI ch)]) (rest := []) ⟨hx, hb, hml, hown, hts⟩ (c_Q_isSmallLetter l dC dI kA ch (by omega)) (cw_I_60 hts hN rfl rfl ⟨Nat.le_of_ble_eq_true rfl, Nat.le_of_ble_eq_true rfl⟩) (li_preS va_Pnil hK hN hG.rd) rfl rfl hl.1 rfl (lv_room (Nat.le_of_ble_eq_true rfl)) d_I_fitsLeader_76 ⟨(by show 0 + 0 ≤ 0; omega), (by show 0 + 0 ≤ 0; omega)⟩).run) ?_
            exact fin _ _ _ (by unfold ldF; first | (rw [if_pos (by omega)]; done) | (rw [if_neg (by omega), if_pos (by omega)]; first | exact bI_t (decide_eq_true (by omega)) | exact bI_f (decide_eq_false (by omega))) | (rw [if_neg (by omega), if_neg (by omega), if_pos (by omega)]; done) | (rw [if_neg (by omega), if_neg (by omega), if_neg (by omega), if_pos (by omega)]; first | exact bI_t (decide_eq_true (by omega)) | exact bI_f (decide_eq_false (by omega))) | (rw [if_neg (by omega), if_neg (by omega), if_neg (by omega), if_neg (by omega)]; first | exact bI_t (decide_eq_true (by omega)) | exact bI_f (decide_eq_false (by omega)))) d_I_fitsLeader_79
      · have _q := c3
        refine lv_iload_n hx hb d_I_fitsLeader_27 rfl (lv_at hl 1 rfl) ?_
        refine lv_bipush (v := iI 97) hx hb d_I_fitsLeader_28 (by decide) ?_
        refine li_icmp_eq (tgt := 57) hx hb d_I_fitsLeader_30 (by decide) (by omega) (by omega) (fun c11 => ?_) (fun c11 => ?_)
        · have _q := c11
          refine lv_iconst (v := iI 1) hx hb d_I_fitsLeader_57 rfl ?_
          refine lv_goto (tgt := 62) hx hb d_I_fitsLeader_58 (by decide) ?_
          exact fin _ _ _ (by unfold ldF; first | (rw [if_pos (by omega)]; done) | (rw [if_neg (by omega), if_pos (by omega)]; first | exact bI_t (decide_eq_true (by omega)) | exact bI_f (decide_eq_false (by omega))) | (rw [if_neg (by omega), if_neg (by omega), if_pos (by omega)]; done) | (rw [if_neg (by omega), if_neg (by omega), if_neg (by omega), if_pos (by omega)]; first | exact bI_t (decide_eq_true (by omega)) | exact bI_f (decide_eq_false (by omega))) | (rw [if_neg (by omega), if_neg (by omega), if_neg (by omega), if_neg (by omega)]; first | exact bI_t (decide_eq_true (by omega)) | exact bI_f (decide_eq_false (by omega)))) d_I_fitsLeader_62
        · have _q := c11
          refine lv_iload_n hx hb d_I_fitsLeader_33 rfl (lv_at hl 1 rfl) ?_
          refine lv_bipush (v := iI 99) hx hb d_I_fitsLeader_34 (by decide) ?_
          refine li_icmp_eq (tgt := 57) hx hb d_I_fitsLeader_36 (by decide) (by omega) (by omega) (fun c12 => ?_) (fun c12 => ?_)
          · have _q := c12
            refine lv_iconst (v := iI 1) hx hb d_I_fitsLeader_57 rfl ?_
            refine lv_goto (tgt := 62) hx hb d_I_fitsLeader_58 (by decide) ?_
            exact fin _ _ _ (by unfold ldF; first | (rw [if_pos (by omega)]; done) | (rw [if_neg (by omega), if_pos (by omega)]; first | exact bI_t (decide_eq_true (by omega)) | exact bI_f (decide_eq_false (by omega))) | (rw [if_neg (by omega), if_neg (by omega), if_pos (by omega)]; done) | (rw [if_neg (by omega), if_neg (by omega), if_neg (by omega), if_pos (by omega)]; first | exact bI_t (decide_eq_true (by omega)) | exact bI_f (decide_eq_false (by omega))) | (rw [if_neg (by omega), if_neg (by omega), if_neg (by omega), if_neg (by omega)]; first | exact bI_t (decide_eq_true (by omega)) | exact bI_f (decide_eq_false (by omega)))) d_I_fitsLeader_62
          · have _q := c12
            refine lv_iload_n hx hb d_I_fitsLeader_39 rfl (lv_at hl 1 rfl) ?_
            refine lv_bipush (v := iI 100) hx hb d_I_fitsLeader_40 (by decide) ?_
            refine li_icmp_eq (tgt := 57) hx hb d_I_fitsLeader_42 (by decide) (by omega) (by omega) (fun c13 => ?_) (fun c13 => ?_)
            · have _q := c13
              refine lv_iconst (v := iI 1) hx hb d_I_fitsLeader_57 rfl ?_
              refine lv_goto (tgt := 62) hx hb d_I_fitsLeader_58 (by decide) ?_
              exact fin _ _ _ (by unfold ldF; first | (rw [if_pos (by omega)]; done) | (rw [if_neg (by omega), if_pos (by omega)]; first | exact bI_t (decide_eq_true (by omega)) | exact bI_f (decide_eq_false (by omega))) | (rw [if_neg (by omega), if_neg (by omega), if_pos (by omega)]; done) | (rw [if_neg (by omega), if_neg (by omega), if_neg (by omega), if_pos (by omega)]; first | exact bI_t (decide_eq_true (by omega)) | exact bI_f (decide_eq_false (by omega))) | (rw [if_neg (by omega), if_neg (by omega), if_neg (by omega), if_neg (by omega)]; first | exact bI_t (decide_eq_true (by omega)) | exact bI_f (decide_eq_false (by omega)))) d_I_fitsLeader_62
            · have _q := c13
              refine lv_iload_n hx hb d_I_fitsLeader_45 rfl (lv_at hl 1 rfl) ?_
              refine lv_bipush (v := iI 110) hx hb d_I_fitsLeader_46 (by decide) ?_
              refine li_icmp_eq (tgt := 57) hx hb d_I_fitsLeader_48 (by decide) (by omega) (by omega) (fun c14 => ?_) (fun c14 => ?_)
              · have _q := c14
                refine lv_iconst (v := iI 1) hx hb d_I_fitsLeader_57 rfl ?_
                refine lv_goto (tgt := 62) hx hb d_I_fitsLeader_58 (by decide) ?_
                exact fin _ _ _ (by unfold ldF; first | (rw [if_pos (by omega)]; done) | (rw [if_neg (by omega), if_pos (by omega)]; first | exact bI_t (decide_eq_true (by omega)) | exact bI_f (decide_eq_false (by omega))) | (rw [if_neg (by omega), if_neg (by omega), if_pos (by omega)]; done) | (rw [if_neg (by omega), if_neg (by omega), if_neg (by omega), if_pos (by omega)]; first | exact bI_t (decide_eq_true (by omega)) | exact bI_f (decide_eq_false (by omega))) | (rw [if_neg (by omega), if_neg (by omega), if_neg (by omega), if_neg (by omega)]; first | exact bI_t (decide_eq_true (by omega)) | exact bI_f (decide_eq_false (by omega)))) d_I_fitsLeader_62
              · have _q := c14
                refine lv_iload_n hx hb d_I_fitsLeader_51 rfl (lv_at hl 1 rfl) ?_
                refine lv_bipush (v := iI 112) hx hb d_I_fitsLeader_52 (by decide) ?_
                refine li_icmp_ne (tgt := 61) hx hb d_I_fitsLeader_54 (by decide) (by omega) (by omega) (fun c15 => ?_) (fun c15 => ?_)
                · have _q := c15
                  refine lv_iconst (v := iI 0) hx hb d_I_fitsLeader_61 rfl ?_
                  exact fin _ _ _ (by unfold ldF; first | (rw [if_pos (by omega)]; done) | (rw [if_neg (by omega), if_pos (by omega)]; first | exact bI_t (decide_eq_true (by omega)) | exact bI_f (decide_eq_false (by omega))) | (rw [if_neg (by omega), if_neg (by omega), if_pos (by omega)]; done) | (rw [if_neg (by omega), if_neg (by omega), if_neg (by omega), if_pos (by omega)]; first | exact bI_t (decide_eq_true (by omega)) | exact bI_f (decide_eq_false (by omega))) | (rw [if_neg (by omega), if_neg (by omega), if_neg (by omega), if_neg (by omega)]; first | exact bI_t (decide_eq_true (by omega)) | exact bI_f (decide_eq_false (by omega)))) d_I_fitsLeader_62
                · have _q := c15
                  refine lv_iconst (v := iI 1) hx hb d_I_fitsLeader_57 rfl ?_
                  refine lv_goto (tgt := 62) hx hb d_I_fitsLeader_58 (by decide) ?_
                  exact fin _ _ _ (by unfold ldF; first | (rw [if_pos (by omega)]; done) | (rw [if_neg (by omega), if_pos (by omega)]; first | exact bI_t (decide_eq_true (by omega)) | exact bI_f (decide_eq_false (by omega))) | (rw [if_neg (by omega), if_neg (by omega), if_pos (by omega)]; done) | (rw [if_neg (by omega), if_neg (by omega), if_neg (by omega), if_pos (by omega)]; first | exact bI_t (decide_eq_true (by omega)) | exact bI_f (decide_eq_false (by omega))) | (rw [if_neg (by omega), if_neg (by omega), if_neg (by omega), if_neg (by omega)]; first | exact bI_t (decide_eq_true (by omega)) | exact bI_f (decide_eq_false (by omega)))) d_I_fitsLeader_62
    · have _q := c2
      refine lv_iload_n hx hb d_I_fitsLeader_11 rfl (lv_at hl 0 rfl) ?_
      refine lv_bipush (v := iI 16) hx hb d_I_fitsLeader_12 (by decide) ?_
      refine li_icmp_gt (tgt := 22) hx hb d_I_fitsLeader_14 (by decide) (by omega) (by omega) (fun c16 => ?_) (fun c16 => ?_)
      · have _q := c16
        refine lv_iload_n hx hb d_I_fitsLeader_22 rfl (lv_at hl 0 rfl) ?_
        refine lv_iconst (v := iI 5) hx hb d_I_fitsLeader_23 rfl ?_
        refine li_icmp_ne (tgt := 63) hx hb d_I_fitsLeader_24 (by decide) (by omega) (by omega) (fun c17 => ?_) (fun c17 => ?_)
        · have _q := c17
          refine lv_iload_n hx hb d_I_fitsLeader_63 rfl (lv_at hl 0 rfl) ?_
          refine lv_bipush (v := iI 6) hx hb d_I_fitsLeader_64 (by decide) ?_
          refine li_icmp_eq (tgt := 75) hx hb d_I_fitsLeader_66 (by decide) (by omega) (by omega) (fun c18 => ?_) (fun c18 => ?_)
          · have _q := c18
            refine lv_iload_n hx hb d_I_fitsLeader_75 rfl (lv_at hl 1 rfl) ?_
            refine li_callr ((va_runSN (As := [.int (iI ch)]) (rest := []) ⟨hx, hb, hml, hown, hts⟩ (c_Q_isSmallLetter l dC dI kA ch (by omega)) (cw_I_60 hts hN rfl rfl ⟨Nat.le_of_ble_eq_true rfl, Nat.le_of_ble_eq_true rfl⟩) (li_preS va_Pnil hK hN hG.rd) rfl rfl hl.1 rfl (lv_room (Nat.le_of_ble_eq_true rfl)) d_I_fitsLeader_76 ⟨(by show 0 + 0 ≤ 0; omega), (by show 0 + 0 ≤ 0; omega)⟩).run) ?_
            exact fin _ _ _ (by unfold ldF; first | (rw [if_pos (by omega)]; done) | (rw [if_neg (by omega), if_pos (by omega)]; first | exact bI_t (decide_eq_true (by omega)) | exact bI_f (decide_eq_false (by omega))) | (rw [if_neg (by omega), if_neg (by omega), if_pos (by omega)]; done) | (rw [if_neg (by omega), if_neg (by omega), if_neg (by omega), if_pos (by omega)]; first | exact bI_t (decide_eq_true (by omega)) | exact bI_f (decide_eq_false (by omega))) | (rw [if_neg (by omega), if_neg (by omega), if_neg (by omega), if_neg (by omega)]; first | exact bI_t (decide_eq_true (by omega)) | exact bI_f (decide_eq_false (by omega)))) d_I_fitsLeader_79
          · have _q := c18
            refine lv_iload_n hx hb d_I_fitsLeader_69 rfl (lv_at hl 0 rfl) ?_
            refine lv_bipush (v := iI 7) hx hb d_I_fitsLeader_70 (by decide) ?_
            refine li_icmp_ne (tgt := 80) hx hb d_I_fitsLeader_72 (by decide) (by omega) (by omega) (fun c19 => ?_) (fun c19 => ?_)
            · have _q := c19
              refine lv_iload_n hx hb d_I_fitsLeader_80 rfl (lv_at hl 0 rfl) ?_
              refine lv_bipush (v := iI 9) hx hb d_I_fitsLeader_81 (by decide) ?_
              refine li_icmp_ne (tgt := 104) hx hb d_I_fitsLeader_83 (by decide) (by omega) (by omega) (fun c20 => ?_) (fun c20 => ?_)
              · have _q := c20
                refine lv_iload_n hx hb d_I_fitsLeader_104 rfl (lv_at hl 0 rfl) ?_
                refine va_ldcS hx hb hown (hG.2.1 0 (R_I, 63, "-------- -22-----   4500") rfl) d_I_fitsLeader_105 ?_
                refine li_callr ((va_runV (As := []) (rest := [.int (iI x)]) ⟨hx, hb, hml, hown, hts⟩ (c_Str_length l dC dI kA 0 (by decide)) (cw_I_65 hts rfl rfl ⟨Nat.le_of_ble_eq_true rfl, Nat.le_of_ble_eq_true rfl⟩) (li_preV (vk_recv hG.2.2.1 (i := 0) (by decide) (va_S.rf (A := fun q => dI 100 0 ≤ q))) va_Pnil hK hN hG.rd) rfl rfl hl.1 rfl (lv_room (Nat.le_of_ble_eq_true rfl)) d_I_fitsLeader_107 ⟨(by show 0 + 0 ≤ 0; omega), (by show 0 + 0 ≤ 0; omega)⟩).run) ?_
                refine li_icmp_ge (tgt := 127) hx hb d_I_fitsLeader_110 (by decide) (by first | omega | (show -2147483648 ≤ (24 : Int) ∧ (24 : Int) < 2147483648; omega)) (by first | omega | (show -2147483648 ≤ (24 : Int) ∧ (24 : Int) < 2147483648; omega)) (fun c21 => ?_) (fun c21 => ?_)
                · have _q := c21
                  exact absurd c21 (by show ¬ ((24 : Int) ≤ x); omega)
                · have _q := c21
                  refine lv_iload_n hx hb d_I_fitsLeader_113 rfl (lv_at hl 1 rfl) ?_
                  refine va_ldcS hx hb hown (hG.2.1 0 (R_I, 63, "-------- -22-----   4500") rfl) d_I_fitsLeader_114 ?_
                  refine lv_iload_n hx hb d_I_fitsLeader_116 rfl (lv_at hl 0 rfl) ?_
                  refine li_callr ((va_runV (As := [.int (iI x)]) (rest := [.int (iI ch)]) ⟨hx, hb, hml, hown, hts⟩ (c_Str_charAt l dC dI kA 0 x (by decide) (by show 0 ≤ x ∧ x < (24 : Int); omega)) (cw_I_70 hts rfl rfl ⟨Nat.le_of_ble_eq_true rfl, Nat.le_of_ble_eq_true rfl⟩) (li_preV (vk_recv hG.2.2.1 (i := 0) (by decide) (va_S.rf (A := fun q => dI 100 0 ≤ q))) va_Pnil hK hN hG.rd) rfl rfl hl.1 rfl (lv_room (Nat.le_of_ble_eq_true rfl)) d_I_fitsLeader_117 ⟨(by show 0 + 0 ≤ 0; omega), (by show 0 + 0 ≤ 0; omega)⟩).run) ?_
                  refine li_icmp_ne (tgt := 127) hx hb d_I_fitsLeader_120 (by decide) (by first | omega | (have := chS_r 0 x.toNat; omega)) (by first | omega | (have := chS_r 0 x.toNat; omega)) (fun c22 => ?_) (fun c22 => ?_)
                  · have _q := c22
                    refine lv_iconst (v := iI 0) hx hb d_I_fitsLeader_127 rfl ?_
                    exact fin _ _ _ (by unfold ldF; first | (rw [if_pos (by omega)]; done) | (rw [if_neg (by omega), if_pos (by omega)]; first | exact bI_t (decide_eq_true (by omega)) | exact bI_f (decide_eq_false (by omega))) | (rw [if_neg (by omega), if_neg (by omega), if_pos (by omega)]; done) | (rw [if_neg (by omega), if_neg (by omega), if_neg (by omega), if_pos (by omega)]; first | exact bI_t (decide_eq_true (by omega)) | exact bI_f (decide_eq_false (by omega))) | (rw [if_neg (by omega), if_neg (by omega), if_neg (by omega), if_neg (by omega)]; first | exact bI_t (decide_eq_true (by omega)) | exact bI_f (decide_eq_false (by omega)))) d_I_fitsLeader_128
                  · have _q := c22
                    refine lv_iconst (v := iI 1) hx hb d_I_fitsLeader_123 rfl ?_
                    refine lv_goto (tgt := 128) hx hb d_I_fitsLeader_124 (by decide) ?_
                    exact fin _ _ _ (by unfold ldF; first | (rw [if_pos (by omega)]; done) | (rw [if_neg (by omega), if_pos (by omega)]; first | exact bI_t (decide_eq_true (by omega)) | exact bI_f (decide_eq_false (by omega))) | (rw [if_neg (by omega), if_neg (by omega), if_pos (by omega)]; done) | (rw [if_neg (by omega), if_neg (by omega), if_neg (by omega), if_pos (by omega)]; first | exact bI_t (decide_eq_true (by omega)) | exact bI_f (decide_eq_false (by omega))) | (rw [if_neg (by omega), if_neg (by omega), if_neg (by omega), if_neg (by omega)]; first | exact bI_t (decide_eq_true (by omega)) | exact bI_f (decide_eq_false (by omega)))) d_I_fitsLeader_128
              · have _q := c20
                refine lv_iload_n hx hb d_I_fitsLeader_86 rfl (lv_at hl 1 rfl) ?_
                refine lv_bipush (v := iI 32) hx hb d_I_fitsLeader_87 (by decide) ?_
                refine li_icmp_eq (tgt := 98) hx hb d_I_fitsLeader_89 (by decide) (by omega) (by omega) (fun c23 => ?_) (fun c23 => ?_)
                · have _q := c23
                  refine lv_iconst (v := iI 1) hx hb d_I_fitsLeader_98 rfl ?_
                  refine lv_goto (tgt := 103) hx hb d_I_fitsLeader_99 (by decide) ?_
                  exact fin _ _ _ (by unfold ldF; first | (rw [if_pos (by omega)]; done) | (rw [if_neg (by omega), if_pos (by omega)]; first | exact bI_t (decide_eq_true (by omega)) | exact bI_f (decide_eq_false (by omega))) | (rw [if_neg (by omega), if_neg (by omega), if_pos (by omega)]; done) | (rw [if_neg (by omega), if_neg (by omega), if_neg (by omega), if_pos (by omega)]; first | exact bI_t (decide_eq_true (by omega)) | exact bI_f (decide_eq_false (by omega))) | (rw [if_neg (by omega), if_neg (by omega), if_neg (by omega), if_neg (by omega)]; first | exact bI_t (decide_eq_true (by omega)) | exact bI_f (decide_eq_false (by omega)))) d_I_fitsLeader_103
                · have _q := c23
                  refine lv_iload_n hx hb d_I_fitsLeader_92 rfl (lv_at hl 1 rfl) ?_
                  refine lv_bipush (v := iI 97) hx hb d_I_fitsLeader_93 (by decide) ?_
                  refine li_icmp_ne (tgt := 102) hx hb d_I_fitsLeader_95 (by decide) (by omega) (by omega) (fun c24 => ?_) (fun c24 => ?_)
                  · have _q := c24
                    refine lv_iconst (v := iI 0) hx hb d_I_fitsLeader_102 rfl ?_
                    exact fin _ _ _ (by unfold ldF; first | (rw [if_pos (by omega)]; done) | (rw [if_neg (by omega), if_pos (by omega)]; first | exact bI_t (decide_eq_true (by omega)) | exact bI_f (decide_eq_false (by omega))) | (rw [if_neg (by omega), if_neg (by omega), if_pos (by omega)]; done) | (rw [if_neg (by omega), if_neg (by omega), if_neg (by omega), if_pos (by omega)]; first | exact bI_t (decide_eq_true (by omega)) | exact bI_f (decide_eq_false (by omega))) | (rw [if_neg (by omega), if_neg (by omega), if_neg (by omega), if_neg (by omega)]; first | exact bI_t (decide_eq_true (by omega)) | exact bI_f (decide_eq_false (by omega)))) d_I_fitsLeader_103
                  · have _q := c24
                    refine lv_iconst (v := iI 1) hx hb d_I_fitsLeader_98 rfl ?_
                    refine lv_goto (tgt := 103) hx hb d_I_fitsLeader_99 (by decide) ?_
                    exact fin _ _ _ (by unfold ldF; first | (rw [if_pos (by omega)]; done) | (rw [if_neg (by omega), if_pos (by omega)]; first | exact bI_t (decide_eq_true (by omega)) | exact bI_f (decide_eq_false (by omega))) | (rw [if_neg (by omega), if_neg (by omega), if_pos (by omega)]; done) | (rw [if_neg (by omega), if_neg (by omega), if_neg (by omega), if_pos (by omega)]; first | exact bI_t (decide_eq_true (by omega)) | exact bI_f (decide_eq_false (by omega))) | (rw [if_neg (by omega), if_neg (by omega), if_neg (by omega), if_neg (by omega)]; first | exact bI_t (decide_eq_true (by omega)) | exact bI_f (decide_eq_false (by omega)))) d_I_fitsLeader_103
            · have _q := c19
              refine lv_iload_n hx hb d_I_fitsLeader_75 rfl (lv_at hl 1 rfl) ?_
              refine li_callr ((va_runSN (As := [.int (iI ch)]) (rest := []) ⟨hx, hb, hml, hown, hts⟩ (c_Q_isSmallLetter l dC dI kA ch (by omega)) (cw_I_60 hts hN rfl rfl ⟨Nat.le_of_ble_eq_true rfl, Nat.le_of_ble_eq_true rfl⟩) (li_preS va_Pnil hK hN hG.rd) rfl rfl hl.1 rfl (lv_room (Nat.le_of_ble_eq_true rfl)) d_I_fitsLeader_76 ⟨(by show 0 + 0 ≤ 0; omega), (by show 0 + 0 ≤ 0; omega)⟩).run) ?_
              exact fin _ _ _ (by unfold ldF; first | (rw [if_pos (by omega)]; done) | (rw [if_neg (by omega), if_pos (by omega)]; first | exact bI_t (decide_eq_true (by omega)) | exact bI_f (decide_eq_false (by omega))) | (rw [if_neg (by omega), if_neg (by omega), if_pos (by omega)]; done) | (rw [if_neg (by omega), if_neg (by omega), if_neg (by omega), if_pos (by omega)]; first | exact bI_t (decide_eq_true (by omega)) | exact bI_f (decide_eq_false (by omega))) | (rw [if_neg (by omega), if_neg (by omega), if_neg (by omega), if_neg (by omega)]; first | exact bI_t (decide_eq_true (by omega)) | exact bI_f (decide_eq_false (by omega)))) d_I_fitsLeader_79
        · have _q := c17
          refine lv_iload_n hx hb d_I_fitsLeader_27 rfl (lv_at hl 1 rfl) ?_
          refine lv_bipush (v := iI 97) hx hb d_I_fitsLeader_28 (by decide) ?_
          refine li_icmp_eq (tgt := 57) hx hb d_I_fitsLeader_30 (by decide) (by omega) (by omega) (fun c25 => ?_) (fun c25 => ?_)
          · have _q := c25
            refine lv_iconst (v := iI 1) hx hb d_I_fitsLeader_57 rfl ?_
            refine lv_goto (tgt := 62) hx hb d_I_fitsLeader_58 (by decide) ?_
            exact fin _ _ _ (by unfold ldF; first | (rw [if_pos (by omega)]; done) | (rw [if_neg (by omega), if_pos (by omega)]; first | exact bI_t (decide_eq_true (by omega)) | exact bI_f (decide_eq_false (by omega))) | (rw [if_neg (by omega), if_neg (by omega), if_pos (by omega)]; done) | (rw [if_neg (by omega), if_neg (by omega), if_neg (by omega), if_pos (by omega)]; first | exact bI_t (decide_eq_true (by omega)) | exact bI_f (decide_eq_false (by omega))) | (rw [if_neg (by omega), if_neg (by omega), if_neg (by omega), if_neg (by omega)]; first | exact bI_t (decide_eq_true (by omega)) | exact bI_f (decide_eq_false (by omega)))) d_I_fitsLeader_62
          · have _q := c25
            refine lv_iload_n hx hb d_I_fitsLeader_33 rfl (lv_at hl 1 rfl) ?_
            refine lv_bipush (v := iI 99) hx hb d_I_fitsLeader_34 (by decide) ?_
            refine li_icmp_eq (tgt := 57) hx hb d_I_fitsLeader_36 (by decide) (by omega) (by omega) (fun c26 => ?_) (fun c26 => ?_)
            · have _q := c26
              refine lv_iconst (v := iI 1) hx hb d_I_fitsLeader_57 rfl ?_
              refine lv_goto (tgt := 62) hx hb d_I_fitsLeader_58 (by decide) ?_
              exact fin _ _ _ (by unfold ldF; first | (rw [if_pos (by omega)]; done) | (rw [if_neg (by omega), if_pos (by omega)]; first | exact bI_t (decide_eq_true (by omega)) | exact bI_f (decide_eq_false (by omega))) | (rw [if_neg (by omega), if_neg (by omega), if_pos (by omega)]; done) | (rw [if_neg (by omega), if_neg (by omega), if_neg (by omega), if_pos (by omega)]; first | exact bI_t (decide_eq_true (by omega)) | exact bI_f (decide_eq_false (by omega))) | (rw [if_neg (by omega), if_neg (by omega), if_neg (by omega), if_neg (by omega)]; first | exact bI_t (decide_eq_true (by omega)) | exact bI_f (decide_eq_false (by omega)))) d_I_fitsLeader_62
            · have _q := c26
              refine lv_iload_n hx hb d_I_fitsLeader_39 rfl (lv_at hl 1 rfl) ?_
              refine lv_bipush (v := iI 100) hx hb d_I_fitsLeader_40 (by decide) ?_
              refine li_icmp_eq (tgt := 57) hx hb d_I_fitsLeader_42 (by decide) (by omega) (by omega) (fun c27 => ?_) (fun c27 => ?_)
              · have _q := c27
                refine lv_iconst (v := iI 1) hx hb d_I_fitsLeader_57 rfl ?_
                refine lv_goto (tgt := 62) hx hb d_I_fitsLeader_58 (by decide) ?_
                exact fin _ _ _ (by unfold ldF; first | (rw [if_pos (by omega)]; done) | (rw [if_neg (by omega), if_pos (by omega)]; first | exact bI_t (decide_eq_true (by omega)) | exact bI_f (decide_eq_false (by omega))) | (rw [if_neg (by omega), if_neg (by omega), if_pos (by omega)]; done) | (rw [if_neg (by omega), if_neg (by omega), if_neg (by omega), if_pos (by omega)]; first | exact bI_t (decide_eq_true (by omega)) | exact bI_f (decide_eq_false (by omega))) | (rw [if_neg (by omega), if_neg (by omega), if_neg (by omega), if_neg (by omega)]; first | exact bI_t (decide_eq_true (by omega)) | exact bI_f (decide_eq_false (by omega)))) d_I_fitsLeader_62
              · have _q := c27
                refine lv_iload_n hx hb d_I_fitsLeader_45 rfl (lv_at hl 1 rfl) ?_
                refine lv_bipush (v := iI 110) hx hb d_I_fitsLeader_46 (by decide) ?_
                refine li_icmp_eq (tgt := 57) hx hb d_I_fitsLeader_48 (by decide) (by omega) (by omega) (fun c28 => ?_) (fun c28 => ?_)
                · have _q := c28
                  refine lv_iconst (v := iI 1) hx hb d_I_fitsLeader_57 rfl ?_
                  refine lv_goto (tgt := 62) hx hb d_I_fitsLeader_58 (by decide) ?_
                  exact fin _ _ _ (by unfold ldF; first | (rw [if_pos (by omega)]; done) | (rw [if_neg (by omega), if_pos (by omega)]; first | exact bI_t (decide_eq_true (by omega)) | exact bI_f (decide_eq_false (by omega))) | (rw [if_neg (by omega), if_neg (by omega), if_pos (by omega)]; done) | (rw [if_neg (by omega), if_neg (by omega), if_neg (by omega), if_pos (by omega)]; first | exact bI_t (decide_eq_true (by omega)) | exact bI_f (decide_eq_false (by omega))) | (rw [if_neg (by omega), if_neg (by omega), if_neg (by omega), if_neg (by omega)]; first | exact bI_t (decide_eq_true (by omega)) | exact bI_f (decide_eq_false (by omega)))) d_I_fitsLeader_62
                · have _q := c28
                  refine lv_iload_n hx hb d_I_fitsLeader_51 rfl (lv_at hl 1 rfl) ?_
                  refine lv_bipush (v := iI 112) hx hb d_I_fitsLeader_52 (by decide) ?_
                  refine li_icmp_ne (tgt := 61) hx hb d_I_fitsLeader_54 (by decide) (by omega) (by omega) (fun c29 => ?_) (fun c29 => ?_)
                  · have _q := c29
                    refine lv_iconst (v := iI 0) hx hb d_I_fitsLeader_61 rfl ?_
                    exact fin _ _ _ (by unfold ldF; first | (rw [if_pos (by omega)]; done) | (rw [if_neg (by omega), if_pos (by omega)]; first | exact bI_t (decide_eq_true (by omega)) | exact bI_f (decide_eq_false (by omega))) | (rw [if_neg (by omega), if_neg (by omega), if_pos (by omega)]; done) | (rw [if_neg (by omega), if_neg (by omega), if_neg (by omega), if_pos (by omega)]; first | exact bI_t (decide_eq_true (by omega)) | exact bI_f (decide_eq_false (by omega))) | (rw [if_neg (by omega), if_neg (by omega), if_neg (by omega), if_neg (by omega)]; first | exact bI_t (decide_eq_true (by omega)) | exact bI_f (decide_eq_false (by omega)))) d_I_fitsLeader_62
                  · have _q := c29
                    refine lv_iconst (v := iI 1) hx hb d_I_fitsLeader_57 rfl ?_
                    refine lv_goto (tgt := 62) hx hb d_I_fitsLeader_58 (by decide) ?_
                    exact fin _ _ _ (by unfold ldF; first | (rw [if_pos (by omega)]; done) | (rw [if_neg (by omega), if_pos (by omega)]; first | exact bI_t (decide_eq_true (by omega)) | exact bI_f (decide_eq_false (by omega))) | (rw [if_neg (by omega), if_neg (by omega), if_pos (by omega)]; done) | (rw [if_neg (by omega), if_neg (by omega), if_neg (by omega), if_pos (by omega)]; first | exact bI_t (decide_eq_true (by omega)) | exact bI_f (decide_eq_false (by omega))) | (rw [if_neg (by omega), if_neg (by omega), if_neg (by omega), if_neg (by omega)]; first | exact bI_t (decide_eq_true (by omega)) | exact bI_f (decide_eq_false (by omega)))) d_I_fitsLeader_62
      · have _q := c16
        refine lv_iload_n hx hb d_I_fitsLeader_17 rfl (lv_at hl 1 rfl) ?_
        refine li_callr ((va_runSN (As := [.int (iI ch)]) (rest := []) ⟨hx, hb, hml, hown, hts⟩ (c_Q_isDigit l dC dI kA ch (by omega)) (cw_I_56 hts hN rfl rfl ⟨Nat.le_of_ble_eq_true rfl, Nat.le_of_ble_eq_true rfl⟩) (li_preS va_Pnil hK hN hG.rd) rfl rfl hl.1 rfl (lv_room (Nat.le_of_ble_eq_true rfl)) d_I_fitsLeader_18 ⟨(by show 0 + 0 ≤ 0; omega), (by show 0 + 0 ≤ 0; omega)⟩).run) ?_
        exact fin _ _ _ (by unfold ldF; first | (rw [if_pos (by omega)]; done) | (rw [if_neg (by omega), if_pos (by omega)]; first | exact bI_t (decide_eq_true (by omega)) | exact bI_f (decide_eq_false (by omega))) | (rw [if_neg (by omega), if_neg (by omega), if_pos (by omega)]; done) | (rw [if_neg (by omega), if_neg (by omega), if_neg (by omega), if_pos (by omega)]; first | exact bI_t (decide_eq_true (by omega)) | exact bI_f (decide_eq_false (by omega))) | (rw [if_neg (by omega), if_neg (by omega), if_neg (by omega), if_neg (by omega)]; first | exact bI_t (decide_eq_true (by omega)) | exact bI_f (decide_eq_false (by omega)))) d_I_fitsLeader_21
theorem d_I_leaderFault_0 : decode b_I_leaderFault 0 = .ok (.iconst 0, 1) := by decide +kernel
theorem d_I_leaderFault_1 : decode b_I_leaderFault 1 = .ok (.istore_n 1, 1) := by decide +kernel
theorem d_I_leaderFault_2 : decode b_I_leaderFault 2 = .ok (.iload_n 1, 1) := by decide +kernel
theorem d_I_leaderFault_3 : decode b_I_leaderFault 3 = .ok (.bipush 24, 2) := by decide +kernel
theorem d_I_leaderFault_5 : decode b_I_leaderFault 5 = .ok (.if_icmp .ge 29, 3) := by decide +kernel
theorem d_I_leaderFault_8 : decode b_I_leaderFault 8 = .ok (.iload_n 1, 1) := by decide +kernel
theorem d_I_leaderFault_9 : decode b_I_leaderFault 9 = .ok (.aload_n 0, 1) := by decide +kernel
theorem d_I_leaderFault_10 : decode b_I_leaderFault 10 = .ok (.iload_n 1, 1) := by decide +kernel
theorem d_I_leaderFault_11 : decode b_I_leaderFault 11 = .ok (.invokevirtual 41, 3) := by decide +kernel
theorem d_I_leaderFault_14 : decode b_I_leaderFault 14 = .ok (.invokestatic 45, 3) := by decide +kernel
theorem d_I_leaderFault_17 : decode b_I_leaderFault 17 = .ok (.ifCond .ne 11, 3) := by decide +kernel
theorem d_I_leaderFault_20 : decode b_I_leaderFault 20 = .ok (.aload_n 0, 1) := by decide +kernel
theorem d_I_leaderFault_21 : decode b_I_leaderFault 21 = .ok (.bipush (-5), 2) := by decide +kernel
theorem d_I_leaderFault_23 : decode b_I_leaderFault 23 = .ok (.iload_n 1, 1) := by decide +kernel
theorem d_I_leaderFault_24 : decode b_I_leaderFault 24 = .ok (.invokevirtual 49, 3) := by decide +kernel
theorem d_I_leaderFault_27 : decode b_I_leaderFault 27 = .ok (.ireturn, 1) := by decide +kernel
theorem d_I_leaderFault_28 : decode b_I_leaderFault 28 = .ok (.iinc 1 1, 3) := by decide +kernel
theorem d_I_leaderFault_31 : decode b_I_leaderFault 31 = .ok (.goto (-29), 3) := by decide +kernel
theorem d_I_leaderFault_34 : decode b_I_leaderFault 34 = .ok (.aload_n 0, 1) := by decide +kernel
theorem d_I_leaderFault_35 : decode b_I_leaderFault 35 = .ok (.getfield 9, 3) := by decide +kernel
theorem d_I_leaderFault_38 : decode b_I_leaderFault 38 = .ok (.iconst 0, 1) := by decide +kernel
theorem d_I_leaderFault_39 : decode b_I_leaderFault 39 = .ok (.iconst 5, 1) := by decide +kernel
theorem d_I_leaderFault_40 : decode b_I_leaderFault 40 = .ok (.invokestatic 52, 3) := by decide +kernel
theorem d_I_leaderFault_43 : decode b_I_leaderFault 43 = .ok (.aload_n 0, 1) := by decide +kernel
theorem d_I_leaderFault_44 : decode b_I_leaderFault 44 = .ok (.getfield 21, 3) := by decide +kernel
theorem d_I_leaderFault_47 : decode b_I_leaderFault 47 = .ok (.if_icmp .ne 7, 3) := by decide +kernel
theorem d_I_leaderFault_50 : decode b_I_leaderFault 50 = .ok (.iconst 0, 1) := by decide +kernel
theorem d_I_leaderFault_51 : decode b_I_leaderFault 51 = .ok (.goto 10, 3) := by decide +kernel
theorem d_I_leaderFault_54 : decode b_I_leaderFault 54 = .ok (.aload_n 0, 1) := by decide +kernel
theorem d_I_leaderFault_55 : decode b_I_leaderFault 55 = .ok (.bipush (-6), 2) := by decide +kernel
theorem d_I_leaderFault_57 : decode b_I_leaderFault 57 = .ok (.iconst 0, 1) := by decide +kernel
theorem d_I_leaderFault_58 : decode b_I_leaderFault 58 = .ok (.invokevirtual 49, 3) := by decide +kernel
theorem d_I_leaderFault_61 : decode b_I_leaderFault 61 = .ok (.ireturn, 1) := by decide +kernel
set_option maxHeartbeats 4000000 in
set_option maxRecDepth 100000 in
theorem c_I_leaderFault (l : Launch) (dC : Nat → ClassId) (dI : Nat → Nat → Nat) (kA : Nat → ClassId) (sz : Nat) (io : Nat) (ba : Nat) (nb : Nat) (tb : Nat → Int) (cn : Int) (fp : Int) (en : Int) (bs : Int) (ie : Int) (fe : Int) (hI : IR nb tb cn) : Met l y_I_leaderFault (wsy y_I_leaderFault b_I_leaderFault 2 (some .int)) (rmd 5 0 0) (li_Pr (dC, dI) CL (TY kA) [.ref io] (fun h => h.size = sz ∧ va_P (dC, dI) CL [(io, .inr (3, [.ref ba, .int (iI cn), .int (iI fp), .int (iI en), .int (iI bs), .int (iI ie), .int (iI fe)]))] h ∧ va_D (fun q => dI 100 0 ≤ q) [(io, .inr (3, [.ref ba, .int (iI cn), .int (iI fp), .int (iI en), .int (iI bs), .int (iI ie), .int (iI fe)]))] ∧ (fun h => va_P (dC, dI) CL [(ba, .inl (kA 1, nb, .inl (aI tb)))] h ∧ Dsj [(ba, .inl (kA 1, nb, .inl (aI tb)))] [(io, .inr (3, [.ref ba, .int (iI cn), .int (iI fp), .int (iI en), .int (iI bs), .int (iI ie), .int (iI fe)]))]) h)) (li_Qw (S := Unit) (dC, dI) CL (fun _ => True) (fun _ => some (.int (iI ((ldR tb nb cn fp).1)))) (fun _ => [(io, .inr (3, [.ref ba, .int (iI cn), .int (iI ((ldR tb nb cn fp).2)), .int (iI en), .int (iI bs), .int (iI ie), .int (iI fe)]))]) (va_A [(io, .inr (3, [.ref ba, .int (iI cn), .int (iI fp), .int (iI en), .int (iI bs), .int (iI ie), .int (iI fe)]))] sz)) 0 0 (va_A [(io, .inr (3, [.ref ba, .int (iI cn), .int (iI fp), .int (iI en), .int (iI bs), .int (iI ie), .int (iI fe)]))] sz) := by
  refine li_mwi (r := fun _ => (ldR tb nb cn fp).1) (by decide) (Nat.le_of_ble_eq_true rfl) (fun _ _ => by rfl) ?_
  intro p e s m args below meth c Q A C hP hD hBx hK hN hG hA hAi hAN fin ls hl
  obtain ⟨hx, hb, hr, hml, hown, hts, hlocks, hin⟩ := C
  have hown : s.vm.findClass R_I = some m.cls := hown
  obtain ⟨hRo, hDj⟩ := hBx
  have hRo : va_P (dC, dI) CL [(ba, .inl (kA 1, nb, .inl (aI tb)))] s.heap := hRo
  have hRoN := li_roN (A := A) hRo hDj hAi
  have hl : lv_has ls 2 [(0, .ref io)] := hl
  obtain ⟨hnb, hcn, htb⟩ := id hI
  have K_2 : ∀ (nn : Nat) (x : Int), (0 ≤ x ∧ x ≤ 24) → (ldL tb cn (24 - x.toNat) x = ldL tb cn 24 0) → (24 - x.toNat < nn) → ∀ (H : Heap) (locs : List Loc), va_P (dC, dI) CL [(io, .inr (3, [.ref ba, .int (iI cn), .int (iI fp), .int (iI en), .int (iI bs), .int (iI ie), .int (iI fe)]))] H → va_D A [(io, .inr (3, [.ref ba, .int (iI cn), .int (iI fp), .int (iI en), .int (iI bs), .int (iI ie), .int (iI fe)]))] → va_S A s.heap H locs → ∀ ls : Array Slot, lv_has ls 2 [(0, .ref io), (1, .int (iI x))] → W p l e (rmd 5 0 0) s m args below meth c H locs 0 0 Q (F0 m 2 ls []) := by
    intro nn
    induction nn with
    | zero => intro x hx9 hres hm; exact absurd hm (Nat.not_lt_zero _)
    | succ nn ih =>
      intro x hx9 hres hm H locs hP hD hS ls hl
      refine lv_iload_n hx hb d_I_leaderFault_2 rfl (lv_at hl 1 rfl) ?_
      refine lv_bipush (v := iI 24) hx hb d_I_leaderFault_3 (by decide) ?_
      refine li_icmp_ge (tgt := 34) hx hb d_I_leaderFault_5 (by decide) (by omega) (by omega) (fun c1 => ?_) (fun c1 => ?_)
      · have _q := c1
        have hr9 : ldL tb cn 24 0 = x := by rw [← hres, show 24 - x.toNat = 0 by omega]; rfl
        refine lv_aload_n hx hb d_I_leaderFault_34 rfl (lv_at hl 0 rfl) ?_
        refine gf_I_9 hx hb hts hown hK hP 0 rfl rfl d_I_leaderFault_35 ?_
        refine lv_iconst (v := iI 0) hx hb d_I_leaderFault_38 rfl ?_
        refine lv_iconst (v := iI 5) hx hb d_I_leaderFault_39 rfl ?_
        refine li_callr ((va_runSN (As := [.ref ba, .int (iI 0), .int (iI 5)]) (rest := []) ⟨hx, hb, hml, hown, hts⟩ (c_Q_numberAt l dC dI kA ba nb tb 0 5 (by omega) (by omega) (by omega)) (cw_I_52 hts hN rfl rfl ⟨Nat.le_of_ble_eq_true rfl, Nat.le_of_ble_eq_true rfl⟩) (li_preS ((li_ro hRo hRoN hS).sub [0] rfl) hK hN (hG.go hS hAN)) rfl rfl hl.1 rfl (lv_room (Nat.le_of_ble_eq_true rfl)) d_I_leaderFault_40 ⟨(by show 0 + 0 ≤ 0; omega), (by show 0 + 0 ≤ 0; omega)⟩).run) ?_
        refine lv_aload_n hx hb d_I_leaderFault_43 rfl (lv_at hl 0 rfl) ?_
        refine gf_I_21 hx hb hts hown hK hP 0 rfl rfl d_I_leaderFault_44 ?_
        refine li_icmp_ne (tgt := 54) hx hb d_I_leaderFault_47 (by decide) (by first | omega | exact num5_r htb (by omega)) (by first | omega | exact num5_r htb (by omega)) (fun c2 => ?_) (fun c2 => ?_)
        · have _q := c2
          refine lv_aload_n hx hb d_I_leaderFault_54 rfl (lv_at hl 0 rfl) ?_
          refine lv_bipush (v := iI (-6)) hx hb d_I_leaderFault_55 (by decide) ?_
          refine lv_iconst (v := iI 0) hx hb d_I_leaderFault_57 rfl ?_
          refine li_callw (wc := [(io, .inr (3, [.ref ba, .int (iI cn), .int (iI fp), .int (iI en), .int (iI bs), .int (iI ie), .int (iI fe)]))]) (wr := []) (va_runV (As := [.int (iI (-6)), .int (iI 0)]) (rest := []) ⟨hx, hb, hml, hown, hts⟩ (c_I_fault l dC dI kA H.size io ba cn fp en bs ie fe (-6) 0 (by omega) (by omega)) (cw_I_49 hts rfl rfl ⟨Nat.le_of_ble_eq_true rfl, Nat.le_of_ble_eq_true rfl⟩) (li_preV (va_recv hK hP (ci := 3) (q0 := 0) rfl rfl) ⟨rfl, hP.sub [0] rfl, (hD.sub [0] (by decide) rfl).weaken (fun _ _ _ h => hAN _ h), trivial⟩ hK hN (hG.go hS hAN)) rfl rfl hl.1 rfl (lv_room (Nat.le_of_ble_eq_true rfl)) d_I_leaderFault_58 ⟨(by show 0 + 0 ≤ 0; omega), (by show 0 + 0 ≤ 0; omega)⟩) hP hD hS hA [0] [] rfl rfl (by decide) (by decide) (fun u3 H locs hu3 hP hD hS _hk => ?_)
          have hP : va_P (dC, dI) CL [(io, .inr (3, [.ref ba, .int (iI cn), .int (iI 0), .int (iI en), .int (iI bs), .int (iI ie), .int (iI fe)]))] H := hP
          have hD : va_D A [(io, .inr (3, [.ref ba, .int (iI cn), .int (iI 0), .int (iI en), .int (iI bs), .int (iI ie), .int (iI fe)]))] := hD
          exact fin () _ _ _ _ _ (by unfold ldR; first | (rw [hr9, if_pos (by omega)]; done) | (rw [hr9, if_neg (by omega), if_pos (by omega)]; done) | (rw [hr9, if_neg (by omega), if_neg (by omega)]; done)) (by trivial) (by unfold ldR; first | (rw [hr9, if_pos (by omega)]; exact hP) | (rw [hr9, if_neg (by omega), if_pos (by omega)]; exact hP) | (rw [hr9, if_neg (by omega), if_neg (by omega)]; exact hP)) (by unfold ldR; first | (rw [hr9, if_pos (by omega)]; exact hD) | (rw [hr9, if_neg (by omega), if_pos (by omega)]; exact hD) | (rw [hr9, if_neg (by omega), if_neg (by omega)]; exact hD)) hS d_I_leaderFault_61
        · have _q := c2
          refine lv_iconst (v := iI 0) hx hb d_I_leaderFault_50 rfl ?_
          refine lv_goto (tgt := 61) hx hb d_I_leaderFault_51 (by decide) ?_
          exact fin () _ _ _ _ _ (by unfold ldR; first | (rw [hr9, if_pos (by omega)]; done) | (rw [hr9, if_neg (by omega), if_pos (by omega)]; done) | (rw [hr9, if_neg (by omega), if_neg (by omega)]; done)) (by trivial) (by unfold ldR; first | (rw [hr9, if_pos (by omega)]; exact hP) | (rw [hr9, if_neg (by omega), if_pos (by omega)]; exact hP) | (rw [hr9, if_neg (by omega), if_neg (by omega)]; exact hP)) (by unfold ldR; first | (rw [hr9, if_pos (by omega)]; exact hD) | (rw [hr9, if_neg (by omega), if_pos (by omega)]; exact hD) | (rw [hr9, if_neg (by omega), if_neg (by omega)]; exact hD)) hS d_I_leaderFault_61
      · have _q := c1
        refine lv_iload_n hx hb d_I_leaderFault_8 rfl (lv_at hl 1 rfl) ?_
        refine lv_aload_n hx hb d_I_leaderFault_9 rfl (lv_at hl 0 rfl) ?_
        refine lv_iload_n hx hb d_I_leaderFault_10 rfl (lv_at hl 1 rfl) ?_
        refine li_callr ((va_runV (As := [.int (iI x)]) (rest := [.int (iI x)]) ⟨hx, hb, hml, hown, hts⟩ (c_I_byteAt l dC dI kA io ba nb tb cn fp en bs ie fe x (by exact hI) (by omega)) (cw_I_41 hts rfl rfl ⟨Nat.le_of_ble_eq_true rfl, Nat.le_of_ble_eq_true rfl⟩) (li_preV (va_recv hK hP (ci := 3) (q0 := 0) rfl rfl) (va_P.app (hP.sub [0] rfl) ((li_ro hRo hRoN hS).sub [0] rfl)) hK hN (hG.go hS hAN)) rfl rfl hl.1 rfl (lv_room (Nat.le_of_ble_eq_true rfl)) d_I_leaderFault_11 ⟨(by show 0 + 0 ≤ 0; omega), (by show 0 + 0 ≤ 0; omega)⟩).run) ?_
        refine li_callr ((va_runS (As := [.int (iI x), .int (iI (byF tb cn x))]) (rest := []) ⟨hx, hb, hml, hown, hts⟩ (c_I_fitsLeader l dC dI kA x (byF tb cn x) (by omega) (by have := byF_r (x := x) hI; omega)) (cw_I_45 hts rfl rfl ⟨Nat.le_of_ble_eq_true rfl, Nat.le_of_ble_eq_true rfl⟩) (li_preS va_Pnil hK hN (hG.go hS hAN)) rfl rfl hl.1 rfl (lv_room (Nat.le_of_ble_eq_true rfl)) d_I_leaderFault_14 ⟨(by show 0 + 0 ≤ 0; omega), (by show 0 + 0 ≤ 0; omega)⟩).run) ?_
        refine li_bnz (tgt := 28) hx hb d_I_leaderFault_17 (by decide) (fun c4 => ?_) (fun c4 => ?_)
        · have _q := c4
          obtain ⟨x5, ex5⟩ : ∃ y : Int, y = x + 1 := ⟨_, rfl⟩
          refine lv_iinc (v := iI x5) (lv' := [(1, .int (iI x5)), (0, .ref io)]) hx hb d_I_leaderFault_28 hl (k := 1) rfl (by rw [ex5]; exact iI_add _ _) (by decide) rfl (fun ls hl => ?_)
          refine lv_goto (tgt := 2) hx hb d_I_leaderFault_31 (by decide) ?_
          exact ih x5 (by first | omega | (subst_vars; omega)) (by first | rfl | (subst_vars; rw [← hres, show 24 - x.toNat = (24 - (x + 1).toNat) + 1 by omega]; simp only [ldL]; rw [if_pos (by assumption)])) (by first | omega | (subst_vars; omega)) _ _ hP hD hS _ (lv_sub hl [1, 0] rfl)
        · have _q := c4
          have hr9 : ldL tb cn 24 0 = x := by rw [← hres, show 24 - x.toNat = (24 - (x + 1).toNat) + 1 by omega]; simp only [ldL]; rw [if_neg (by simp_all)]
          refine lv_aload_n hx hb d_I_leaderFault_20 rfl (lv_at hl 0 rfl) ?_
          refine lv_bipush (v := iI (-5)) hx hb d_I_leaderFault_21 (by decide) ?_
          refine lv_iload_n hx hb d_I_leaderFault_23 rfl (lv_at hl 1 rfl) ?_
          refine li_callw (wc := [(io, .inr (3, [.ref ba, .int (iI cn), .int (iI fp), .int (iI en), .int (iI bs), .int (iI ie), .int (iI fe)]))]) (wr := []) (va_runV (As := [.int (iI (-5)), .int (iI x)]) (rest := []) ⟨hx, hb, hml, hown, hts⟩ (c_I_fault l dC dI kA H.size io ba cn fp en bs ie fe (-5) x (by omega) (by omega)) (cw_I_49 hts rfl rfl ⟨Nat.le_of_ble_eq_true rfl, Nat.le_of_ble_eq_true rfl⟩) (li_preV (va_recv hK hP (ci := 3) (q0 := 0) rfl rfl) ⟨rfl, hP.sub [0] rfl, (hD.sub [0] (by decide) rfl).weaken (fun _ _ _ h => hAN _ h), trivial⟩ hK hN (hG.go hS hAN)) rfl rfl hl.1 rfl (lv_room (Nat.le_of_ble_eq_true rfl)) d_I_leaderFault_24 ⟨(by show 0 + 0 ≤ 0; omega), (by show 0 + 0 ≤ 0; omega)⟩) hP hD hS hA [0] [] rfl rfl (by decide) (by decide) (fun u6 H locs hu6 hP hD hS _hk => ?_)
          have hP : va_P (dC, dI) CL [(io, .inr (3, [.ref ba, .int (iI cn), .int (iI x), .int (iI en), .int (iI bs), .int (iI ie), .int (iI fe)]))] H := hP
          have hD : va_D A [(io, .inr (3, [.ref ba, .int (iI cn), .int (iI x), .int (iI en), .int (iI bs), .int (iI ie), .int (iI fe)]))] := hD
          exact fin () _ _ _ _ _ (by unfold ldR; first | (rw [hr9, if_pos (by omega)]; done) | (rw [hr9, if_neg (by omega), if_pos (by omega)]; done) | (rw [hr9, if_neg (by omega), if_neg (by omega)]; done)) (by trivial) (by unfold ldR; first | (rw [hr9, if_pos (by omega)]; exact hP) | (rw [hr9, if_neg (by omega), if_pos (by omega)]; exact hP) | (rw [hr9, if_neg (by omega), if_neg (by omega)]; exact hP)) (by unfold ldR; first | (rw [hr9, if_pos (by omega)]; exact hD) | (rw [hr9, if_neg (by omega), if_pos (by omega)]; exact hD) | (rw [hr9, if_neg (by omega), if_neg (by omega)]; exact hD)) hS d_I_leaderFault_27
  suffices h9 : ∀ (H : Heap) (locs : List Loc), H = s.heap → locs = [] → W p l e (rmd 5 0 0) s m args below meth c H locs 0 0 Q (F0 m 0 ls []) from h9 _ _ rfl rfl
  intro H locs eH eL
  have hP : va_P (dC, dI) CL [(io, .inr (3, [.ref ba, .int (iI cn), .int (iI fp), .int (iI en), .int (iI bs), .int (iI ie), .int (iI fe)]))] H := by rw [eH]; exact hP
  have hS : va_S A s.heap H locs := by rw [eH, eL]; exact va_S.rf
  refine lv_iconst (v := iI 0) hx hb d_I_leaderFault_0 rfl ?_
  refine lv_istore_n (lv' := [(1, .int (iI 0)), (0, .ref io)]) hx hb d_I_leaderFault_1 rfl hl (by decide) rfl (fun ls hl => ?_)
  exact K_2 (24 - (0 : Int).toNat + 1) 0 (by first | omega | (subst_vars; omega)) (by first | rfl | (subst_vars; rw [← hres, show 24 - x.toNat = (24 - (x + 1).toNat) + 1 by omega]; simp only [ldL]; rw [if_pos (by assumption)])) (Nat.lt_succ_self _) _ _ hP hD hS _ (lv_sub hl [1, 0] rfl)
theorem d_I_entriesFault_0 : decode b_I_entriesFault 0 = .ok (.aload_n 0, 1) := by decide +kernel
theorem d_I_entriesFault_1 : decode b_I_entriesFault 1 = .ok (.getfield 21, 3) := by decide +kernel
theorem d_I_entriesFault_4 : decode b_I_entriesFault 4 = .ok (.istore_n 1, 1) := by decide +kernel
theorem d_I_entriesFault_5 : decode b_I_entriesFault 5 = .ok (.bipush 24, 2) := by decide +kernel
theorem d_I_entriesFault_7 : decode b_I_entriesFault 7 = .ok (.istore_n 2, 1) := by decide +kernel
theorem d_I_entriesFault_8 : decode b_I_entriesFault 8 = .ok (.iload_n 2, 1) := by decide +kernel
theorem d_I_entriesFault_9 : decode b_I_entriesFault 9 = .ok (.aload_n 0, 1) := by decide +kernel
theorem d_I_entriesFault_10 : decode b_I_entriesFault 10 = .ok (.getfield 21, 3) := by decide +kernel
theorem d_I_entriesFault_13 : decode b_I_entriesFault 13 = .ok (.if_icmp .ge 50, 3) := by decide +kernel
theorem d_I_entriesFault_16 : decode b_I_entriesFault 16 = .ok (.aload_n 0, 1) := by decide +kernel
theorem d_I_entriesFault_17 : decode b_I_entriesFault 17 = .ok (.iload_n 2, 1) := by decide +kernel
theorem d_I_entriesFault_18 : decode b_I_entriesFault 18 = .ok (.invokevirtual 41, 3) := by decide +kernel
theorem d_I_entriesFault_21 : decode b_I_entriesFault 21 = .ok (.bipush 30, 2) := by decide +kernel
theorem d_I_entriesFault_23 : decode b_I_entriesFault 23 = .ok (.if_icmp .ne 15, 3) := by decide +kernel
theorem d_I_entriesFault_26 : decode b_I_entriesFault 26 = .ok (.iload_n 2, 1) := by decide +kernel
theorem d_I_entriesFault_27 : decode b_I_entriesFault 27 = .ok (.invokestatic 74, 3) := by decide +kernel
theorem d_I_entriesFault_30 : decode b_I_entriesFault 30 = .ok (.ifCond .eq 8, 3) := by decide +kernel
theorem d_I_entriesFault_33 : decode b_I_entriesFault 33 = .ok (.iload_n 2, 1) := by decide +kernel
theorem d_I_entriesFault_34 : decode b_I_entriesFault 34 = .ok (.istore_n 1, 1) := by decide +kernel
theorem d_I_entriesFault_35 : decode b_I_entriesFault 35 = .ok (.goto 28, 3) := by decide +kernel
theorem d_I_entriesFault_38 : decode b_I_entriesFault 38 = .ok (.aload_n 0, 1) := by decide +kernel
theorem d_I_entriesFault_39 : decode b_I_entriesFault 39 = .ok (.iload_n 2, 1) := by decide +kernel
theorem d_I_entriesFault_40 : decode b_I_entriesFault 40 = .ok (.invokevirtual 41, 3) := by decide +kernel
theorem d_I_entriesFault_43 : decode b_I_entriesFault 43 = .ok (.invokestatic 56, 3) := by decide +kernel
theorem d_I_entriesFault_46 : decode b_I_entriesFault 46 = .ok (.ifCond .ne 11, 3) := by decide +kernel
theorem d_I_entriesFault_49 : decode b_I_entriesFault 49 = .ok (.aload_n 0, 1) := by decide +kernel
theorem d_I_entriesFault_50 : decode b_I_entriesFault 50 = .ok (.bipush (-5), 2) := by decide +kernel
theorem d_I_entriesFault_52 : decode b_I_entriesFault 52 = .ok (.iload_n 2, 1) := by decide +kernel
theorem d_I_entriesFault_53 : decode b_I_entriesFault 53 = .ok (.invokevirtual 49, 3) := by decide +kernel
theorem d_I_entriesFault_56 : decode b_I_entriesFault 56 = .ok (.ireturn, 1) := by decide +kernel
theorem d_I_entriesFault_57 : decode b_I_entriesFault 57 = .ok (.iinc 2 1, 3) := by decide +kernel
theorem d_I_entriesFault_60 : decode b_I_entriesFault 60 = .ok (.goto (-52), 3) := by decide +kernel
theorem d_I_entriesFault_63 : decode b_I_entriesFault 63 = .ok (.iload_n 1, 1) := by decide +kernel
theorem d_I_entriesFault_64 : decode b_I_entriesFault 64 = .ok (.aload_n 0, 1) := by decide +kernel
theorem d_I_entriesFault_65 : decode b_I_entriesFault 65 = .ok (.getfield 21, 3) := by decide +kernel
theorem d_I_entriesFault_68 : decode b_I_entriesFault 68 = .ok (.if_icmp .ne 14, 3) := by decide +kernel
theorem d_I_entriesFault_71 : decode b_I_entriesFault 71 = .ok (.aload_n 0, 1) := by decide +kernel
theorem d_I_entriesFault_72 : decode b_I_entriesFault 72 = .ok (.bipush (-5), 2) := by decide +kernel
theorem d_I_entriesFault_74 : decode b_I_entriesFault 74 = .ok (.aload_n 0, 1) := by decide +kernel
theorem d_I_entriesFault_75 : decode b_I_entriesFault 75 = .ok (.getfield 21, 3) := by decide +kernel
theorem d_I_entriesFault_78 : decode b_I_entriesFault 78 = .ok (.invokevirtual 49, 3) := by decide +kernel
theorem d_I_entriesFault_81 : decode b_I_entriesFault 81 = .ok (.ireturn, 1) := by decide +kernel
theorem d_I_entriesFault_82 : decode b_I_entriesFault 82 = .ok (.aload_n 0, 1) := by decide +kernel
theorem d_I_entriesFault_83 : decode b_I_entriesFault 83 = .ok (.iload_n 1, 1) := by decide +kernel
theorem d_I_entriesFault_84 : decode b_I_entriesFault 84 = .ok (.bipush 24, 2) := by decide +kernel
theorem d_I_entriesFault_86 : decode b_I_entriesFault 86 = .ok (.isub, 1) := by decide +kernel
theorem d_I_entriesFault_87 : decode b_I_entriesFault 87 = .ok (.bipush 12, 2) := by decide +kernel
theorem d_I_entriesFault_89 : decode b_I_entriesFault 89 = .ok (.idiv, 1) := by decide +kernel
theorem d_I_entriesFault_90 : decode b_I_entriesFault 90 = .ok (.putfield 77, 3) := by decide +kernel
theorem d_I_entriesFault_93 : decode b_I_entriesFault 93 = .ok (.aload_n 0, 1) := by decide +kernel
theorem d_I_entriesFault_94 : decode b_I_entriesFault 94 = .ok (.iload_n 1, 1) := by decide +kernel
theorem d_I_entriesFault_95 : decode b_I_entriesFault 95 = .ok (.iconst 1, 1) := by decide +kernel
theorem d_I_entriesFault_96 : decode b_I_entriesFault 96 = .ok (.iadd, 1) := by decide +kernel
theorem d_I_entriesFault_97 : decode b_I_entriesFault 97 = .ok (.putfield 80, 3) := by decide +kernel
theorem d_I_entriesFault_100 : decode b_I_entriesFault 100 = .ok (.aload_n 0, 1) := by decide +kernel
theorem d_I_entriesFault_101 : decode b_I_entriesFault 101 = .ok (.getfield 9, 3) := by decide +kernel
theorem d_I_entriesFault_104 : decode b_I_entriesFault 104 = .ok (.bipush 12, 2) := by decide +kernel
theorem d_I_entriesFault_106 : decode b_I_entriesFault 106 = .ok (.iconst 5, 1) := by decide +kernel
theorem d_I_entriesFault_107 : decode b_I_entriesFault 107 = .ok (.invokestatic 52, 3) := by decide +kernel
theorem d_I_entriesFault_110 : decode b_I_entriesFault 110 = .ok (.aload_n 0, 1) := by decide +kernel
theorem d_I_entriesFault_111 : decode b_I_entriesFault 111 = .ok (.getfield 80, 3) := by decide +kernel
theorem d_I_entriesFault_114 : decode b_I_entriesFault 114 = .ok (.if_icmp .ne 7, 3) := by decide +kernel
theorem d_I_entriesFault_117 : decode b_I_entriesFault 117 = .ok (.iconst 0, 1) := by decide +kernel
theorem d_I_entriesFault_118 : decode b_I_entriesFault 118 = .ok (.goto 11, 3) := by decide +kernel
theorem d_I_entriesFault_121 : decode b_I_entriesFault 121 = .ok (.aload_n 0, 1) := by decide +kernel
theorem d_I_entriesFault_122 : decode b_I_entriesFault 122 = .ok (.bipush (-6), 2) := by decide +kernel
theorem d_I_entriesFault_124 : decode b_I_entriesFault 124 = .ok (.bipush 12, 2) := by decide +kernel
theorem d_I_entriesFault_126 : decode b_I_entriesFault 126 = .ok (.invokevirtual 49, 3) := by decide +kernel
theorem d_I_entriesFault_129 : decode b_I_entriesFault 129 = .ok (.ireturn, 1) := by decide +kernel
set_option maxHeartbeats 4000000 in
set_option maxRecDepth 100000 in
theorem c_I_entriesFault (l : Launch) (dC : Nat → ClassId) (dI : Nat → Nat → Nat) (kA : Nat → ClassId) (sz : Nat) (io : Nat) (ba : Nat) (nb : Nat) (tb : Nat → Int) (cn : Int) (fp : Int) (en : Int) (bs : Int) (ie : Int) (fe : Int) (hI : IR nb tb cn) (hc24 : 24 ≤ cn) : Met l y_I_entriesFault (wsy y_I_entriesFault b_I_entriesFault 3 (some .int)) (rmd 5 0 0) (li_Pr (dC, dI) CL (TY kA) [.ref io] (fun h => h.size = sz ∧ va_P (dC, dI) CL [(io, .inr (3, [.ref ba, .int (iI cn), .int (iI fp), .int (iI en), .int (iI bs), .int (iI ie), .int (iI fe)]))] h ∧ va_D (fun q => dI 100 0 ≤ q) [(io, .inr (3, [.ref ba, .int (iI cn), .int (iI fp), .int (iI en), .int (iI bs), .int (iI ie), .int (iI fe)]))] ∧ (fun h => va_P (dC, dI) CL [(ba, .inl (kA 1, nb, .inl (aI tb)))] h ∧ Dsj [(ba, .inl (kA 1, nb, .inl (aI tb)))] [(io, .inr (3, [.ref ba, .int (iI cn), .int (iI fp), .int (iI en), .int (iI bs), .int (iI ie), .int (iI fe)]))]) h)) (li_Qw (S := Unit) (dC, dI) CL (fun _ => True) (fun _ => some (.int (iI ((enR tb nb cn fp en bs).1)))) (fun _ => [(io, .inr (3, [.ref ba, .int (iI cn), .int (iI ((enR tb nb cn fp en bs).2.1)), .int (iI ((enR tb nb cn fp en bs).2.2.1)), .int (iI ((enR tb nb cn fp en bs).2.2.2)), .int (iI ie), .int (iI fe)]))]) (va_A [(io, .inr (3, [.ref ba, .int (iI cn), .int (iI fp), .int (iI en), .int (iI bs), .int (iI ie), .int (iI fe)]))] sz)) 0 0 (va_A [(io, .inr (3, [.ref ba, .int (iI cn), .int (iI fp), .int (iI en), .int (iI bs), .int (iI ie), .int (iI fe)]))] sz) := by
  refine li_mwi (r := fun _ => (enR tb nb cn fp en bs).1) (by decide) (Nat.le_of_ble_eq_true rfl) (fun _ _ => by rfl) ?_
  intro p e s m args below meth c Q A C hP hD hBx hK hN hG hA hAi hAN fin ls hl
  obtain ⟨hx, hb, hr, hml, hown, hts, hlocks, hin⟩ := C
  have hown : s.vm.findClass R_I = some m.cls := hown
  obtain ⟨hRo, hDj⟩ := hBx
  have hRo : va_P (dC, dI) CL [(ba, .inl (kA 1, nb, .inl (aI tb)))] s.heap := hRo
  have hRoN := li_roN (A := A) hRo hDj hAi
  have hl : lv_has ls 3 [(0, .ref io)] := hl
  obtain ⟨hnb, hcn, htb⟩ := id hI
  have K_63 : ∀ (x : Int), (24 ≤ x ∧ x ≤ cn) → (enT tb cn = (if x = cn then (1, x) else (0, x))) → ∀ (H : Heap) (locs : List Loc), va_P (dC, dI) CL [(io, .inr (3, [.ref ba, .int (iI cn), .int (iI fp), .int (iI en), .int (iI bs), .int (iI ie), .int (iI fe)]))] H → va_D A [(io, .inr (3, [.ref ba, .int (iI cn), .int (iI fp), .int (iI en), .int (iI bs), .int (iI ie), .int (iI fe)]))] → va_S A s.heap H locs → ∀ ls : Array Slot, lv_has ls 3 [(0, .ref io), (1, .int (iI x))] → W p l e (rmd 5 0 0) s m args below meth c H locs 0 0 Q (F0 m 63 ls []) := by
    intro x hx9 hfin H locs hP hD hS ls hl
    refine lv_iload_n hx hb d_I_entriesFault_63 rfl (lv_at hl 1 rfl) ?_
    refine lv_aload_n hx hb d_I_entriesFault_64 rfl (lv_at hl 0 rfl) ?_
    refine gf_I_21 hx hb hts hown hK hP 0 rfl rfl d_I_entriesFault_65 ?_
    refine li_icmp_ne (tgt := 82) hx hb d_I_entriesFault_68 (by decide) (by first | omega | exact num5_r htb (by omega) | (have := byF_r (x := x) hI; omega)) (by first | omega | exact num5_r htb (by omega) | (have := byF_r (x := x) hI; omega)) (fun c1 => ?_) (fun c1 => ?_)
    · have _q := c1
      rw [if_neg (by assumption)] at hfin
      have hf9 := hfin
      refine lv_aload_n hx hb d_I_entriesFault_82 rfl (lv_at hl 0 rfl) ?_
      refine lv_iload_n hx hb d_I_entriesFault_83 rfl (lv_at hl 1 rfl) ?_
      refine lv_bipush (v := iI 24) hx hb d_I_entriesFault_84 (by decide) ?_
      refine li_isub hx hb d_I_entriesFault_86 ?_
      refine lv_bipush (v := iI 12) hx hb d_I_entriesFault_87 (by decide) ?_
      refine li_idiv hx hb d_I_entriesFault_89 (by omega) (by omega) (by omega) (by omega) ?_
      refine li_nm (fun e2 ee2 => ?_)
      refine pf_I_77 hx hb hts hown hK hP hD hS 0 rfl (Nat.le_of_ble_eq_true rfl) d_I_entriesFault_90 (fun H locs hP hD hS => ?_)
      have hP : va_P (dC, dI) CL [(io, .inr (3, [.ref ba, .int (iI cn), .int (iI fp), .int (iI e2), .int (iI bs), .int (iI ie), .int (iI fe)]))] H := hP
      have hD : va_D A [(io, .inr (3, [.ref ba, .int (iI cn), .int (iI fp), .int (iI e2), .int (iI bs), .int (iI ie), .int (iI fe)]))] := hD
      refine lv_aload_n hx hb d_I_entriesFault_93 rfl (lv_at hl 0 rfl) ?_
      refine lv_iload_n hx hb d_I_entriesFault_94 rfl (lv_at hl 1 rfl) ?_
      refine lv_iconst (v := iI 1) hx hb d_I_entriesFault_95 rfl ?_
      refine li_iadd hx hb d_I_entriesFault_96 ?_
      refine li_nm (fun b2 eb2 => ?_)
      refine pf_I_80 hx hb hts hown hK hP hD hS 0 rfl (Nat.le_of_ble_eq_true rfl) d_I_entriesFault_97 (fun H locs hP hD hS => ?_)
      have hP : va_P (dC, dI) CL [(io, .inr (3, [.ref ba, .int (iI cn), .int (iI fp), .int (iI e2), .int (iI b2), .int (iI ie), .int (iI fe)]))] H := hP
      have hD : va_D A [(io, .inr (3, [.ref ba, .int (iI cn), .int (iI fp), .int (iI e2), .int (iI b2), .int (iI ie), .int (iI fe)]))] := hD
      refine lv_aload_n hx hb d_I_entriesFault_100 rfl (lv_at hl 0 rfl) ?_
      refine gf_I_9 hx hb hts hown hK hP 0 rfl rfl d_I_entriesFault_101 ?_
      refine lv_bipush (v := iI 12) hx hb d_I_entriesFault_104 (by decide) ?_
      refine lv_iconst (v := iI 5) hx hb d_I_entriesFault_106 rfl ?_
      refine li_callr ((va_runSN (As := [.ref ba, .int (iI 12), .int (iI 5)]) (rest := []) ⟨hx, hb, hml, hown, hts⟩ (c_Q_numberAt l dC dI kA ba nb tb 12 5 (by omega) (by omega) (by omega)) (cw_I_52 hts hN rfl rfl ⟨Nat.le_of_ble_eq_true rfl, Nat.le_of_ble_eq_true rfl⟩) (li_preS ((li_ro hRo hRoN hS).sub [0] rfl) hK hN (hG.go hS hAN)) rfl rfl hl.1 rfl (lv_room (Nat.le_of_ble_eq_true rfl)) d_I_entriesFault_107 ⟨(by show 0 + 0 ≤ 0; omega), (by show 0 + 0 ≤ 0; omega)⟩).run) ?_
      refine lv_aload_n hx hb d_I_entriesFault_110 rfl (lv_at hl 0 rfl) ?_
      refine gf_I_80 hx hb hts hown hK hP 0 rfl rfl d_I_entriesFault_111 ?_
      refine li_icmp_ne (tgt := 121) hx hb d_I_entriesFault_114 (by decide) (by first | omega | exact num5_r htb (by omega) | (have := byF_r (x := x) hI; omega)) (by first | omega | exact num5_r htb (by omega) | (have := byF_r (x := x) hI; omega)) (fun c2 => ?_) (fun c2 => ?_)
      · have _q := c2
        refine lv_aload_n hx hb d_I_entriesFault_121 rfl (lv_at hl 0 rfl) ?_
        refine lv_bipush (v := iI (-6)) hx hb d_I_entriesFault_122 (by decide) ?_
        refine lv_bipush (v := iI 12) hx hb d_I_entriesFault_124 (by decide) ?_
        refine li_callw (wc := [(io, .inr (3, [.ref ba, .int (iI cn), .int (iI fp), .int (iI e2), .int (iI b2), .int (iI ie), .int (iI fe)]))]) (wr := []) (va_runV (As := [.int (iI (-6)), .int (iI 12)]) (rest := []) ⟨hx, hb, hml, hown, hts⟩ (c_I_fault l dC dI kA H.size io ba cn fp e2 b2 ie fe (-6) 12 (by omega) (by omega)) (cw_I_49 hts rfl rfl ⟨Nat.le_of_ble_eq_true rfl, Nat.le_of_ble_eq_true rfl⟩) (li_preV (va_recv hK hP (ci := 3) (q0 := 0) rfl rfl) ⟨rfl, hP.sub [0] rfl, (hD.sub [0] (by decide) rfl).weaken (fun _ _ _ h => hAN _ h), trivial⟩ hK hN (hG.go hS hAN)) rfl rfl hl.1 rfl (lv_room (Nat.le_of_ble_eq_true rfl)) d_I_entriesFault_126 ⟨(by show 0 + 0 ≤ 0; omega), (by show 0 + 0 ≤ 0; omega)⟩) hP hD hS hA [0] [] rfl rfl (by decide) (by decide) (fun u3 H locs hu3 hP hD hS _hk => ?_)
        have hP : va_P (dC, dI) CL [(io, .inr (3, [.ref ba, .int (iI cn), .int (iI 12), .int (iI e2), .int (iI b2), .int (iI ie), .int (iI fe)]))] H := hP
        have hD : va_D A [(io, .inr (3, [.ref ba, .int (iI cn), .int (iI 12), .int (iI e2), .int (iI b2), .int (iI ie), .int (iI fe)]))] := hD
        exact fin () _ _ _ _ _ (by unfold enR; rw [hf9]; first | (rw [if_pos rfl]; done) | (rw [if_neg (by simp), if_pos (by simp only; omega)]; done) | (rw [if_neg (by simp), if_neg (by simp only; omega)]; done)) (by trivial) (by unfold enR; rw [hf9]; first | (rw [if_pos rfl]; exact hP) | (subst_vars; rw [if_pos rfl]; exact hP) | (subst_vars; rw [if_neg (by simp), if_pos (by simp only; omega)]; exact hP) | (subst_vars; rw [if_neg (by simp), if_neg (by simp only; omega)]; exact hP)) (by unfold enR; rw [hf9]; first | (rw [if_pos rfl]; exact hD) | (subst_vars; rw [if_pos rfl]; exact hD) | (subst_vars; rw [if_neg (by simp), if_pos (by simp only; omega)]; exact hD) | (subst_vars; rw [if_neg (by simp), if_neg (by simp only; omega)]; exact hD)) hS d_I_entriesFault_129
      · have _q := c2
        refine lv_iconst (v := iI 0) hx hb d_I_entriesFault_117 rfl ?_
        refine lv_goto (tgt := 129) hx hb d_I_entriesFault_118 (by decide) ?_
        exact fin () _ _ _ _ _ (by unfold enR; rw [hf9]; first | (rw [if_pos rfl]; done) | (rw [if_neg (by simp), if_pos (by simp only; omega)]; done) | (rw [if_neg (by simp), if_neg (by simp only; omega)]; done)) (by trivial) (by unfold enR; rw [hf9]; first | (rw [if_pos rfl]; exact hP) | (subst_vars; rw [if_pos rfl]; exact hP) | (subst_vars; rw [if_neg (by simp), if_pos (by simp only; omega)]; exact hP) | (subst_vars; rw [if_neg (by simp), if_neg (by simp only; omega)]; exact hP)) (by unfold enR; rw [hf9]; first | (rw [if_pos rfl]; exact hD) | (subst_vars; rw [if_pos rfl]; exact hD) | (subst_vars; rw [if_neg (by simp), if_pos (by simp only; omega)]; exact hD) | (subst_vars; rw [if_neg (by simp), if_neg (by simp only; omega)]; exact hD)) hS d_I_entriesFault_129
    · have _q := c1
      rw [if_pos (by assumption)] at hfin
      have hf9 := hfin
      refine lv_aload_n hx hb d_I_entriesFault_71 rfl (lv_at hl 0 rfl) ?_
      refine lv_bipush (v := iI (-5)) hx hb d_I_entriesFault_72 (by decide) ?_
      refine lv_aload_n hx hb d_I_entriesFault_74 rfl (lv_at hl 0 rfl) ?_
      refine gf_I_21 hx hb hts hown hK hP 0 rfl rfl d_I_entriesFault_75 ?_
      refine li_callw (wc := [(io, .inr (3, [.ref ba, .int (iI cn), .int (iI fp), .int (iI en), .int (iI bs), .int (iI ie), .int (iI fe)]))]) (wr := []) (va_runV (As := [.int (iI (-5)), .int (iI cn)]) (rest := []) ⟨hx, hb, hml, hown, hts⟩ (c_I_fault l dC dI kA H.size io ba cn fp en bs ie fe (-5) cn (by omega) (by omega)) (cw_I_49 hts rfl rfl ⟨Nat.le_of_ble_eq_true rfl, Nat.le_of_ble_eq_true rfl⟩) (li_preV (va_recv hK hP (ci := 3) (q0 := 0) rfl rfl) ⟨rfl, hP.sub [0] rfl, (hD.sub [0] (by decide) rfl).weaken (fun _ _ _ h => hAN _ h), trivial⟩ hK hN (hG.go hS hAN)) rfl rfl hl.1 rfl (lv_room (Nat.le_of_ble_eq_true rfl)) d_I_entriesFault_78 ⟨(by show 0 + 0 ≤ 0; omega), (by show 0 + 0 ≤ 0; omega)⟩) hP hD hS hA [0] [] rfl rfl (by decide) (by decide) (fun u4 H locs hu4 hP hD hS _hk => ?_)
      have hP : va_P (dC, dI) CL [(io, .inr (3, [.ref ba, .int (iI cn), .int (iI cn), .int (iI en), .int (iI bs), .int (iI ie), .int (iI fe)]))] H := hP
      have hD : va_D A [(io, .inr (3, [.ref ba, .int (iI cn), .int (iI cn), .int (iI en), .int (iI bs), .int (iI ie), .int (iI fe)]))] := hD
      exact fin () _ _ _ _ _ (by unfold enR; rw [hf9]; first | (rw [if_pos rfl]; done) | (rw [if_neg (by simp), if_pos (by simp only; omega)]; done) | (rw [if_neg (by simp), if_neg (by simp only; omega)]; done)) (by trivial) (by unfold enR; rw [hf9]; first | (rw [if_pos rfl]; exact hP) | (subst_vars; rw [if_pos rfl]; exact hP) | (subst_vars; rw [if_neg (by simp), if_pos (by simp only; omega)]; exact hP) | (subst_vars; rw [if_neg (by simp), if_neg (by simp only; omega)]; exact hP)) (by unfold enR; rw [hf9]; first | (rw [if_pos rfl]; exact hD) | (subst_vars; rw [if_pos rfl]; exact hD) | (subst_vars; rw [if_neg (by simp), if_pos (by simp only; omega)]; exact hD) | (subst_vars; rw [if_neg (by simp), if_neg (by simp only; omega)]; exact hD)) hS d_I_entriesFault_81
  have K_8 : ∀ (nn : Nat) (x : Int), (24 ≤ x ∧ x ≤ cn) → (enL tb cn (cn - x).toNat x = enT tb cn) → ((cn - x).toNat < nn) → ∀ (H : Heap) (locs : List Loc), va_P (dC, dI) CL [(io, .inr (3, [.ref ba, .int (iI cn), .int (iI fp), .int (iI en), .int (iI bs), .int (iI ie), .int (iI fe)]))] H → va_D A [(io, .inr (3, [.ref ba, .int (iI cn), .int (iI fp), .int (iI en), .int (iI bs), .int (iI ie), .int (iI fe)]))] → va_S A s.heap H locs → ∀ ls : Array Slot, lv_has ls 3 [(0, .ref io), (1, .int (iI cn)), (2, .int (iI x))] → W p l e (rmd 5 0 0) s m args below meth c H locs 0 0 Q (F0 m 8 ls []) := by
    intro nn
    induction nn with
    | zero => intro x hx9 hres hm; exact absurd hm (Nat.not_lt_zero _)
    | succ nn ih =>
      intro x hx9 hres hm H locs hP hD hS ls hl
      refine lv_iload_n hx hb d_I_entriesFault_8 rfl (lv_at hl 2 rfl) ?_
      refine lv_aload_n hx hb d_I_entriesFault_9 rfl (lv_at hl 0 rfl) ?_
      refine gf_I_21 hx hb hts hown hK hP 0 rfl rfl d_I_entriesFault_10 ?_
      refine li_icmp_ge (tgt := 63) hx hb d_I_entriesFault_13 (by decide) (by first | omega | exact num5_r htb (by omega) | (have := byF_r (x := x) hI; omega)) (by first | omega | exact num5_r htb (by omega) | (have := byF_r (x := x) hI; omega)) (fun c5 => ?_) (fun c5 => ?_)
      · have _q := c5
        exact K_63 cn (by omega) (by first | (rw [if_pos rfl, ← hres, show (cn - x).toNat = 0 by omega]; rfl) | (rw [if_neg (by omega), ← hres, show (cn - x).toNat = (cn - (x + 1)).toNat + 1 by omega]; simp only [enL]; rw [if_pos ⟨by assumption, by assumption⟩])) _ _ hP hD hS _ (lv_sub hl [0, 1] rfl)
      · have _q := c5
        refine lv_aload_n hx hb d_I_entriesFault_16 rfl (lv_at hl 0 rfl) ?_
        refine lv_iload_n hx hb d_I_entriesFault_17 rfl (lv_at hl 2 rfl) ?_
        refine li_callr ((va_runV (As := [.int (iI x)]) (rest := []) ⟨hx, hb, hml, hown, hts⟩ (c_I_byteAt l dC dI kA io ba nb tb cn fp en bs ie fe x (by exact hI) (by omega)) (cw_I_41 hts rfl rfl ⟨Nat.le_of_ble_eq_true rfl, Nat.le_of_ble_eq_true rfl⟩) (li_preV (va_recv hK hP (ci := 3) (q0 := 0) rfl rfl) (va_P.app (hP.sub [0] rfl) ((li_ro hRo hRoN hS).sub [0] rfl)) hK hN (hG.go hS hAN)) rfl rfl hl.1 rfl (lv_room (Nat.le_of_ble_eq_true rfl)) d_I_entriesFault_18 ⟨(by show 0 + 0 ≤ 0; omega), (by show 0 + 0 ≤ 0; omega)⟩).run) ?_
        refine lv_bipush (v := iI 30) hx hb d_I_entriesFault_21 (by decide) ?_
        refine li_icmp_ne (tgt := 38) hx hb d_I_entriesFault_23 (by decide) (by first | omega | exact num5_r htb (by omega) | (have := byF_r (x := x) hI; omega)) (by first | omega | exact num5_r htb (by omega) | (have := byF_r (x := x) hI; omega)) (fun c6 => ?_) (fun c6 => ?_)
        · have _q := c6
          refine lv_aload_n hx hb d_I_entriesFault_38 rfl (lv_at hl 0 rfl) ?_
          refine lv_iload_n hx hb d_I_entriesFault_39 rfl (lv_at hl 2 rfl) ?_
          refine li_callr ((va_runV (As := [.int (iI x)]) (rest := []) ⟨hx, hb, hml, hown, hts⟩ (c_I_byteAt l dC dI kA io ba nb tb cn fp en bs ie fe x (by exact hI) (by omega)) (cw_I_41 hts rfl rfl ⟨Nat.le_of_ble_eq_true rfl, Nat.le_of_ble_eq_true rfl⟩) (li_preV (va_recv hK hP (ci := 3) (q0 := 0) rfl rfl) (va_P.app (hP.sub [0] rfl) ((li_ro hRo hRoN hS).sub [0] rfl)) hK hN (hG.go hS hAN)) rfl rfl hl.1 rfl (lv_room (Nat.le_of_ble_eq_true rfl)) d_I_entriesFault_40 ⟨(by show 0 + 0 ≤ 0; omega), (by show 0 + 0 ≤ 0; omega)⟩).run) ?_
          refine li_callr ((va_runSN (As := [.int (iI (byF tb cn x))]) (rest := []) ⟨hx, hb, hml, hown, hts⟩ (c_Q_isDigit l dC dI kA (byF tb cn x) (by have := byF_r (x := x) hI; omega)) (cw_I_56 hts hN rfl rfl ⟨Nat.le_of_ble_eq_true rfl, Nat.le_of_ble_eq_true rfl⟩) (li_preS va_Pnil hK hN (hG.go hS hAN)) rfl rfl hl.1 rfl (lv_room (Nat.le_of_ble_eq_true rfl)) d_I_entriesFault_43 ⟨(by show 0 + 0 ≤ 0; omega), (by show 0 + 0 ≤ 0; omega)⟩).run) ?_
          refine li_bnz (tgt := 57) hx hb d_I_entriesFault_46 (by decide) (fun c7 => ?_) (fun c7 => ?_)
          · have _q := c7
            obtain ⟨x8, ex8⟩ : ∃ y : Int, y = x + 1 := ⟨_, rfl⟩
            refine lv_iinc (v := iI x8) (lv' := [(2, .int (iI x8)), (0, .ref io), (1, .int (iI cn))]) hx hb d_I_entriesFault_57 hl (k := 2) rfl (by rw [ex8]; exact iI_add _ _) (by decide) rfl (fun ls hl => ?_)
            refine lv_goto (tgt := 8) hx hb d_I_entriesFault_60 (by decide) ?_
            exact ih x8 (by first | omega | (subst_vars; omega)) (by first | rfl | (subst_vars; rw [← hres, show (cn - x).toNat = (cn - (x + 1)).toNat + 1 by omega]; simp only [enL]; rw [if_neg (by simp_all), if_pos (by assumption)])) (by first | omega | (subst_vars; omega)) _ _ hP hD hS _ (lv_sub hl [1, 2, 0] rfl)
          · have _q := c7
            have hf9 : enT tb cn = (1, x) := by rw [← hres, show (cn - x).toNat = (cn - (x + 1)).toNat + 1 by omega]; simp only [enL]; rw [if_neg (by simp_all), if_neg (by simp_all)]
            refine lv_aload_n hx hb d_I_entriesFault_49 rfl (lv_at hl 0 rfl) ?_
            refine lv_bipush (v := iI (-5)) hx hb d_I_entriesFault_50 (by decide) ?_
            refine lv_iload_n hx hb d_I_entriesFault_52 rfl (lv_at hl 2 rfl) ?_
            refine li_callw (wc := [(io, .inr (3, [.ref ba, .int (iI cn), .int (iI fp), .int (iI en), .int (iI bs), .int (iI ie), .int (iI fe)]))]) (wr := []) (va_runV (As := [.int (iI (-5)), .int (iI x)]) (rest := []) ⟨hx, hb, hml, hown, hts⟩ (c_I_fault l dC dI kA H.size io ba cn fp en bs ie fe (-5) x (by omega) (by omega)) (cw_I_49 hts rfl rfl ⟨Nat.le_of_ble_eq_true rfl, Nat.le_of_ble_eq_true rfl⟩) (li_preV (va_recv hK hP (ci := 3) (q0 := 0) rfl rfl) ⟨rfl, hP.sub [0] rfl, (hD.sub [0] (by decide) rfl).weaken (fun _ _ _ h => hAN _ h), trivial⟩ hK hN (hG.go hS hAN)) rfl rfl hl.1 rfl (lv_room (Nat.le_of_ble_eq_true rfl)) d_I_entriesFault_53 ⟨(by show 0 + 0 ≤ 0; omega), (by show 0 + 0 ≤ 0; omega)⟩) hP hD hS hA [0] [] rfl rfl (by decide) (by decide) (fun u9 H locs hu9 hP hD hS _hk => ?_)
            have hP : va_P (dC, dI) CL [(io, .inr (3, [.ref ba, .int (iI cn), .int (iI x), .int (iI en), .int (iI bs), .int (iI ie), .int (iI fe)]))] H := hP
            have hD : va_D A [(io, .inr (3, [.ref ba, .int (iI cn), .int (iI x), .int (iI en), .int (iI bs), .int (iI ie), .int (iI fe)]))] := hD
            exact fin () _ _ _ _ _ (by unfold enR; rw [hf9]; first | (rw [if_pos rfl]; done) | (rw [if_neg (by simp), if_pos (by simp only; omega)]; done) | (rw [if_neg (by simp), if_neg (by simp only; omega)]; done)) (by trivial) (by unfold enR; rw [hf9]; first | (rw [if_pos rfl]; exact hP) | (subst_vars; rw [if_pos rfl]; exact hP) | (subst_vars; rw [if_neg (by simp), if_pos (by simp only; omega)]; exact hP) | (subst_vars; rw [if_neg (by simp), if_neg (by simp only; omega)]; exact hP)) (by unfold enR; rw [hf9]; first | (rw [if_pos rfl]; exact hD) | (subst_vars; rw [if_pos rfl]; exact hD) | (subst_vars; rw [if_neg (by simp), if_pos (by simp only; omega)]; exact hD) | (subst_vars; rw [if_neg (by simp), if_neg (by simp only; omega)]; exact hD)) hS d_I_entriesFault_56
        · have _q := c6
          refine lv_iload_n hx hb d_I_entriesFault_26 rfl (lv_at hl 2 rfl) ?_
          refine li_callr ((va_runS (As := [.int (iI x)]) (rest := []) ⟨hx, hb, hml, hown, hts⟩ (c_I_isBehindEntry l dC dI kA x (by omega)) (cw_I_74 hts rfl rfl ⟨Nat.le_of_ble_eq_true rfl, Nat.le_of_ble_eq_true rfl⟩) (li_preS va_Pnil hK hN (hG.go hS hAN)) rfl rfl hl.1 rfl (lv_room (Nat.le_of_ble_eq_true rfl)) d_I_entriesFault_27 ⟨(by show 0 + 0 ≤ 0; omega), (by show 0 + 0 ≤ 0; omega)⟩).run) ?_
          refine li_bz (tgt := 38) hx hb d_I_entriesFault_30 (by decide) (fun c10 => ?_) (fun c10 => ?_)
          · have _q := c10
            refine lv_aload_n hx hb d_I_entriesFault_38 rfl (lv_at hl 0 rfl) ?_
            refine lv_iload_n hx hb d_I_entriesFault_39 rfl (lv_at hl 2 rfl) ?_
            refine li_callr ((va_runV (As := [.int (iI x)]) (rest := []) ⟨hx, hb, hml, hown, hts⟩ (c_I_byteAt l dC dI kA io ba nb tb cn fp en bs ie fe x (by exact hI) (by omega)) (cw_I_41 hts rfl rfl ⟨Nat.le_of_ble_eq_true rfl, Nat.le_of_ble_eq_true rfl⟩) (li_preV (va_recv hK hP (ci := 3) (q0 := 0) rfl rfl) (va_P.app (hP.sub [0] rfl) ((li_ro hRo hRoN hS).sub [0] rfl)) hK hN (hG.go hS hAN)) rfl rfl hl.1 rfl (lv_room (Nat.le_of_ble_eq_true rfl)) d_I_entriesFault_40 ⟨(by show 0 + 0 ≤ 0; omega), (by show 0 + 0 ≤ 0; omega)⟩).run) ?_
            refine li_callr ((va_runSN (As := [.int (iI (byF tb cn x))]) (rest := []) ⟨hx, hb, hml, hown, hts⟩ (c_Q_isDigit l dC dI kA (byF tb cn x) (by have := byF_r (x := x) hI; omega)) (cw_I_56 hts hN rfl rfl ⟨Nat.le_of_ble_eq_true rfl, Nat.le_of_ble_eq_true rfl⟩) (li_preS va_Pnil hK hN (hG.go hS hAN)) rfl rfl hl.1 rfl (lv_room (Nat.le_of_ble_eq_true rfl)) d_I_entriesFault_43 ⟨(by show 0 + 0 ≤ 0; omega), (by show 0 + 0 ≤ 0; omega)⟩).run) ?_
            refine li_bnz (tgt := 57) hx hb d_I_entriesFault_46 (by decide) (fun c11 => ?_) (fun c11 => ?_)
            · have _q := c11
              obtain ⟨x12, ex12⟩ : ∃ y : Int, y = x + 1 := ⟨_, rfl⟩
              refine lv_iinc (v := iI x12) (lv' := [(2, .int (iI x12)), (0, .ref io), (1, .int (iI cn))]) hx hb d_I_entriesFault_57 hl (k := 2) rfl (by rw [ex12]; exact iI_add _ _) (by decide) rfl (fun ls hl => ?_)
              refine lv_goto (tgt := 8) hx hb d_I_entriesFault_60 (by decide) ?_
              exact ih x12 (by first | omega | (subst_vars; omega)) (by first | rfl | (subst_vars; rw [← hres, show (cn - x).toNat = (cn - (x + 1)).toNat + 1 by omega]; simp only [enL]; rw [if_neg (by simp_all), if_pos (by assumption)])) (by first | omega | (subst_vars; omega)) _ _ hP hD hS _ (lv_sub hl [1, 2, 0] rfl)
            · have _q := c11
              have hf9 : enT tb cn = (1, x) := by rw [← hres, show (cn - x).toNat = (cn - (x + 1)).toNat + 1 by omega]; simp only [enL]; rw [if_neg (by simp_all), if_neg (by simp_all)]
              refine lv_aload_n hx hb d_I_entriesFault_49 rfl (lv_at hl 0 rfl) ?_
              refine lv_bipush (v := iI (-5)) hx hb d_I_entriesFault_50 (by decide) ?_
              refine lv_iload_n hx hb d_I_entriesFault_52 rfl (lv_at hl 2 rfl) ?_
              refine li_callw (wc := [(io, .inr (3, [.ref ba, .int (iI cn), .int (iI fp), .int (iI en), .int (iI bs), .int (iI ie), .int (iI fe)]))]) (wr := []) (va_runV (As := [.int (iI (-5)), .int (iI x)]) (rest := []) ⟨hx, hb, hml, hown, hts⟩ (c_I_fault l dC dI kA H.size io ba cn fp en bs ie fe (-5) x (by omega) (by omega)) (cw_I_49 hts rfl rfl ⟨Nat.le_of_ble_eq_true rfl, Nat.le_of_ble_eq_true rfl⟩) (li_preV (va_recv hK hP (ci := 3) (q0 := 0) rfl rfl) ⟨rfl, hP.sub [0] rfl, (hD.sub [0] (by decide) rfl).weaken (fun _ _ _ h => hAN _ h), trivial⟩ hK hN (hG.go hS hAN)) rfl rfl hl.1 rfl (lv_room (Nat.le_of_ble_eq_true rfl)) d_I_entriesFault_53 ⟨(by show 0 + 0 ≤ 0; omega), (by show 0 + 0 ≤ 0; omega)⟩) hP hD hS hA [0] [] rfl rfl (by decide) (by decide) (fun u13 H locs hu13 hP hD hS _hk => ?_)
              have hP : va_P (dC, dI) CL [(io, .inr (3, [.ref ba, .int (iI cn), .int (iI x), .int (iI en), .int (iI bs), .int (iI ie), .int (iI fe)]))] H := hP
              have hD : va_D A [(io, .inr (3, [.ref ba, .int (iI cn), .int (iI x), .int (iI en), .int (iI bs), .int (iI ie), .int (iI fe)]))] := hD
              exact fin () _ _ _ _ _ (by unfold enR; rw [hf9]; first | (rw [if_pos rfl]; done) | (rw [if_neg (by simp), if_pos (by simp only; omega)]; done) | (rw [if_neg (by simp), if_neg (by simp only; omega)]; done)) (by trivial) (by unfold enR; rw [hf9]; first | (rw [if_pos rfl]; exact hP) | (subst_vars; rw [if_pos rfl]; exact hP) | (subst_vars; rw [if_neg (by simp), if_pos (by simp only; omega)]; exact hP) | (subst_vars; rw [if_neg (by simp), if_neg (by simp only; omega)]; exact hP)) (by unfold enR; rw [hf9]; first | (rw [if_pos rfl]; exact hD) | (subst_vars; rw [if_pos rfl]; exact hD) | (subst_vars; rw [if_neg (by simp), if_pos (by simp only; omega)]; exact hD) | (subst_vars; rw [if_neg (by simp), if_neg (by simp only; omega)]; exact hD)) hS d_I_entriesFault_56
          · have _q := c10
            refine lv_iload_n hx hb d_I_entriesFault_33 rfl (lv_at hl 2 rfl) ?_
            refine lv_istore_n (lv' := [(1, .int (iI x)), (0, .ref io), (2, .int (iI x))]) hx hb d_I_entriesFault_34 rfl hl (by decide) rfl (fun ls hl => ?_)
            refine lv_goto (tgt := 63) hx hb d_I_entriesFault_35 (by decide) ?_
            exact K_63 x (by omega) (by first | (rw [if_pos rfl, ← hres, show (cn - x).toNat = 0 by omega]; rfl) | (rw [if_neg (by omega), ← hres, show (cn - x).toNat = (cn - (x + 1)).toNat + 1 by omega]; simp only [enL]; rw [if_pos ⟨by assumption, by assumption⟩])) _ _ hP hD hS _ (lv_sub hl [1, 0] rfl)
  suffices h9 : ∀ (H : Heap) (locs : List Loc), H = s.heap → locs = [] → W p l e (rmd 5 0 0) s m args below meth c H locs 0 0 Q (F0 m 0 ls []) from h9 _ _ rfl rfl
  intro H locs eH eL
  have hP : va_P (dC, dI) CL [(io, .inr (3, [.ref ba, .int (iI cn), .int (iI fp), .int (iI en), .int (iI bs), .int (iI ie), .int (iI fe)]))] H := by rw [eH]; exact hP
  have hS : va_S A s.heap H locs := by rw [eH, eL]; exact va_S.rf
  refine lv_aload_n hx hb d_I_entriesFault_0 rfl (lv_at hl 0 rfl) ?_
  refine gf_I_21 hx hb hts hown hK hP 0 rfl rfl d_I_entriesFault_1 ?_
  refine lv_istore_n (lv' := [(1, .int (iI cn)), (0, .ref io)]) hx hb d_I_entriesFault_4 rfl hl (by decide) rfl (fun ls hl => ?_)
  refine lv_bipush (v := iI 24) hx hb d_I_entriesFault_5 (by decide) ?_
  refine lv_istore_n (lv' := [(2, .int (iI 24)), (1, .int (iI cn)), (0, .ref io)]) hx hb d_I_entriesFault_7 rfl hl (by decide) rfl (fun ls hl => ?_)
  exact K_8 ((cn - 24).toNat + 1) 24 (by first | omega | (subst_vars; omega)) (by first | rfl | (subst_vars; rw [← hres, show (cn - x).toNat = (cn - (x + 1)).toNat + 1 by omega]; simp only [enL]; rw [if_neg (by simp_all), if_pos (by assumption)])) (Nat.lt_succ_self _) _ _ hP hD hS _ (lv_sub hl [2, 1, 0] rfl)
theorem d_I_fitsSubfields_0 : decode b_I_fitsSubfields 0 = .ok (.iload_n 2, 1) := by decide +kernel
theorem d_I_fitsSubfields_1 : decode b_I_fitsSubfields 1 = .ok (.iconst 2, 1) := by decide +kernel
theorem d_I_fitsSubfields_2 : decode b_I_fitsSubfields 2 = .ok (.if_icmp .ge 22, 3) := by decide +kernel
theorem d_I_fitsSubfields_5 : decode b_I_fitsSubfields 5 = .ok (.iload_n 3, 1) := by decide +kernel
theorem d_I_fitsSubfields_6 : decode b_I_fitsSubfields 6 = .ok (.bipush 32, 2) := by decide +kernel
theorem d_I_fitsSubfields_8 : decode b_I_fitsSubfields 8 = .ok (.if_icmp .eq 10, 3) := by decide +kernel
theorem d_I_fitsSubfields_11 : decode b_I_fitsSubfields 11 = .ok (.iload_n 3, 1) := by decide +kernel
theorem d_I_fitsSubfields_12 : decode b_I_fitsSubfields 12 = .ok (.invokestatic 56, 3) := by decide +kernel
theorem d_I_fitsSubfields_15 : decode b_I_fitsSubfields 15 = .ok (.ifCond .eq 7, 3) := by decide +kernel
theorem d_I_fitsSubfields_18 : decode b_I_fitsSubfields 18 = .ok (.iconst 1, 1) := by decide +kernel
theorem d_I_fitsSubfields_19 : decode b_I_fitsSubfields 19 = .ok (.goto 4, 3) := by decide +kernel
theorem d_I_fitsSubfields_22 : decode b_I_fitsSubfields 22 = .ok (.iconst 0, 1) := by decide +kernel
theorem d_I_fitsSubfields_23 : decode b_I_fitsSubfields 23 = .ok (.ireturn, 1) := by decide +kernel
theorem d_I_fitsSubfields_24 : decode b_I_fitsSubfields 24 = .ok (.iload_n 2, 1) := by decide +kernel
theorem d_I_fitsSubfields_25 : decode b_I_fitsSubfields 25 = .ok (.iconst 2, 1) := by decide +kernel
theorem d_I_fitsSubfields_26 : decode b_I_fitsSubfields 26 = .ok (.if_icmp .ne 15, 3) := by decide +kernel
theorem d_I_fitsSubfields_29 : decode b_I_fitsSubfields 29 = .ok (.iload_n 3, 1) := by decide +kernel
theorem d_I_fitsSubfields_30 : decode b_I_fitsSubfields 30 = .ok (.bipush 31, 2) := by decide +kernel
theorem d_I_fitsSubfields_32 : decode b_I_fitsSubfields 32 = .ok (.if_icmp .ne 7, 3) := by decide +kernel
theorem d_I_fitsSubfields_35 : decode b_I_fitsSubfields 35 = .ok (.iconst 1, 1) := by decide +kernel
theorem d_I_fitsSubfields_36 : decode b_I_fitsSubfields 36 = .ok (.goto 4, 3) := by decide +kernel
theorem d_I_fitsSubfields_39 : decode b_I_fitsSubfields 39 = .ok (.iconst 0, 1) := by decide +kernel
theorem d_I_fitsSubfields_40 : decode b_I_fitsSubfields 40 = .ok (.ireturn, 1) := by decide +kernel
theorem d_I_fitsSubfields_41 : decode b_I_fitsSubfields 41 = .ok (.aload_n 0, 1) := by decide +kernel
theorem d_I_fitsSubfields_42 : decode b_I_fitsSubfields 42 = .ok (.iload_n 1, 1) := by decide +kernel
theorem d_I_fitsSubfields_43 : decode b_I_fitsSubfields 43 = .ok (.iconst 1, 1) := by decide +kernel
theorem d_I_fitsSubfields_44 : decode b_I_fitsSubfields 44 = .ok (.isub, 1) := by decide +kernel
theorem d_I_fitsSubfields_45 : decode b_I_fitsSubfields 45 = .ok (.invokevirtual 41, 3) := by decide +kernel
theorem d_I_fitsSubfields_48 : decode b_I_fitsSubfields 48 = .ok (.bipush 31, 2) := by decide +kernel
theorem d_I_fitsSubfields_50 : decode b_I_fitsSubfields 50 = .ok (.if_icmp .ne 23, 3) := by decide +kernel
theorem d_I_fitsSubfields_53 : decode b_I_fitsSubfields 53 = .ok (.iload_n 3, 1) := by decide +kernel
theorem d_I_fitsSubfields_54 : decode b_I_fitsSubfields 54 = .ok (.invokestatic 60, 3) := by decide +kernel
theorem d_I_fitsSubfields_57 : decode b_I_fitsSubfields 57 = .ok (.ifCond .ne 10, 3) := by decide +kernel
theorem d_I_fitsSubfields_60 : decode b_I_fitsSubfields 60 = .ok (.iload_n 3, 1) := by decide +kernel
theorem d_I_fitsSubfields_61 : decode b_I_fitsSubfields 61 = .ok (.invokestatic 56, 3) := by decide +kernel
theorem d_I_fitsSubfields_64 : decode b_I_fitsSubfields 64 = .ok (.ifCond .eq 7, 3) := by decide +kernel
theorem d_I_fitsSubfields_67 : decode b_I_fitsSubfields 67 = .ok (.iconst 1, 1) := by decide +kernel
theorem d_I_fitsSubfields_68 : decode b_I_fitsSubfields 68 = .ok (.goto 4, 3) := by decide +kernel
theorem d_I_fitsSubfields_71 : decode b_I_fitsSubfields 71 = .ok (.iconst 0, 1) := by decide +kernel
theorem d_I_fitsSubfields_72 : decode b_I_fitsSubfields 72 = .ok (.ireturn, 1) := by decide +kernel
theorem d_I_fitsSubfields_73 : decode b_I_fitsSubfields 73 = .ok (.iload_n 3, 1) := by decide +kernel
theorem d_I_fitsSubfields_74 : decode b_I_fitsSubfields 74 = .ok (.bipush 31, 2) := by decide +kernel
theorem d_I_fitsSubfields_76 : decode b_I_fitsSubfields 76 = .ok (.if_icmp .eq 10, 3) := by decide +kernel
theorem d_I_fitsSubfields_79 : decode b_I_fitsSubfields 79 = .ok (.iload_n 3, 1) := by decide +kernel
theorem d_I_fitsSubfields_80 : decode b_I_fitsSubfields 80 = .ok (.invokestatic 101, 3) := by decide +kernel
theorem d_I_fitsSubfields_83 : decode b_I_fitsSubfields 83 = .ok (.ifCond .eq 7, 3) := by decide +kernel
theorem d_I_fitsSubfields_86 : decode b_I_fitsSubfields 86 = .ok (.iconst 1, 1) := by decide +kernel
theorem d_I_fitsSubfields_87 : decode b_I_fitsSubfields 87 = .ok (.goto 4, 3) := by decide +kernel
theorem d_I_fitsSubfields_90 : decode b_I_fitsSubfields 90 = .ok (.iconst 0, 1) := by decide +kernel
theorem d_I_fitsSubfields_91 : decode b_I_fitsSubfields 91 = .ok (.ireturn, 1) := by decide +kernel
set_option maxHeartbeats 4000000 in
set_option maxRecDepth 100000 in
theorem c_I_fitsSubfields (l : Launch) (dC : Nat → ClassId) (dI : Nat → Nat → Nat) (kA : Nat → ClassId) (io : Nat) (ba : Nat) (nb : Nat) (tb : Nat → Int) (cn : Int) (fp : Int) (en : Int) (bs : Int) (ie : Int) (fe : Int) (x : Int) (d : Int) (ch : Int) (hI : IR nb tb cn) (hx0 : -1000 ≤ x ∧ x ≤ 1000 ∧ -1000 ≤ d ∧ d ≤ 1000) (hc : -1 ≤ ch ∧ ch < 256) : Met l y_I_fitsSubfields (wsy y_I_fitsSubfields b_I_fitsSubfields 4 (some .boolean)) (rmd 1 0 0) (li_Pr (dC, dI) CL (TY kA) [.ref io, .int (iI x), .int (iI d), .int (iI ch)] (va_P (dC, dI) CL [(io, .inr (3, [.ref ba, .int (iI cn), .int (iI fp), .int (iI en), .int (iI bs), .int (iI ie), .int (iI fe)])), (ba, .inl (kA 1, nb, .inl (aI tb)))])) (k2_QcV (.int (iI (bI (fsF tb cn x d ch))))) 0 0 (fun _ => False) := by
  refine li_mr (by decide) (Nat.le_of_ble_eq_true rfl) (by exact li_narZ2 _) ?_
  intro p e s m args below meth c Q C hP hK hN hG fin ls hl
  obtain ⟨hx, hb, hr, hml, hown, hts, hlocks, hin⟩ := C
  have hown : s.vm.findClass R_I = some m.cls := hown
  have hP : va_P (dC, dI) CL [(io, .inr (3, [.ref ba, .int (iI cn), .int (iI fp), .int (iI en), .int (iI bs), .int (iI ie), .int (iI fe)])), (ba, .inl (kA 1, nb, .inl (aI tb)))] s.heap := hP
  have hl : lv_has ls 4 [(0, .ref io), (1, .int (iI x)), (2, .int (iI d)), (3, .int (iI ch))] := hl
  obtain ⟨hnb, hcn, htb⟩ := id hI
  refine lv_iload_n hx hb d_I_fitsSubfields_0 rfl (lv_at hl 2 rfl) ?_
  refine lv_iconst (v := iI 2) hx hb d_I_fitsSubfields_1 rfl ?_
  refine li_icmp_ge (tgt := 24) hx hb d_I_fitsSubfields_2 (by decide) (by first | omega | (have := byF_r (x := x - 1) hI; omega)) (by first | omega | (have := byF_r (x := x - 1) hI; omega)) (fun c1 => ?_) (fun c1 => ?_)
  · have _q := c1
    refine lv_iload_n hx hb d_I_fitsSubfields_24 rfl (lv_at hl 2 rfl) ?_
    refine lv_iconst (v := iI 2) hx hb d_I_fitsSubfields_25 rfl ?_
    refine li_icmp_ne (tgt := 41) hx hb d_I_fitsSubfields_26 (by decide) (by first | omega | (have := byF_r (x := x - 1) hI; omega)) (by first | omega | (have := byF_r (x := x - 1) hI; omega)) (fun c2 => ?_) (fun c2 => ?_)
    · have _q := c2
      refine lv_aload_n hx hb d_I_fitsSubfields_41 rfl (lv_at hl 0 rfl) ?_
      refine lv_iload_n hx hb d_I_fitsSubfields_42 rfl (lv_at hl 1 rfl) ?_
      refine lv_iconst (v := iI 1) hx hb d_I_fitsSubfields_43 rfl ?_
      refine li_isub hx hb d_I_fitsSubfields_44 ?_
      refine li_callr ((va_runV (As := [.int (iI (x - 1))]) (rest := []) ⟨hx, hb, hml, hown, hts⟩ (c_I_byteAt l dC dI kA io ba nb tb cn fp en bs ie fe (x - 1) (by exact hI) (by omega)) (cw_I_41 hts rfl rfl ⟨Nat.le_of_ble_eq_true rfl, Nat.le_of_ble_eq_true rfl⟩) (li_preV (va_recv hK hP (ci := 3) (q0 := 0) rfl rfl) (hP.sub [0, 1] rfl) hK hN hG.rd) rfl rfl hl.1 rfl (lv_room (Nat.le_of_ble_eq_true rfl)) d_I_fitsSubfields_45 ⟨(by show 0 + 0 ≤ 0; omega), (by show 0 + 0 ≤ 0; omega)⟩).run) ?_
      refine lv_bipush (v := iI 31) hx hb d_I_fitsSubfields_48 (by decide) ?_
      refine li_icmp_ne (tgt := 73) hx hb d_I_fitsSubfields_50 (by decide) (by first | omega | (have := byF_r (x := x - 1) hI; omega)) (by first | omega | (have := byF_r (x := x - 1) hI; omega)) (fun c3 => ?_) (fun c3 => ?_)
      · have _q := c3
        refine lv_iload_n hx hb d_I_fitsSubfields_73 rfl (lv_at hl 3 rfl) ?_
        refine lv_bipush (v := iI 31) hx hb d_I_fitsSubfields_74 (by decide) ?_
        refine li_icmp_eq (tgt := 86) hx hb d_I_fitsSubfields_76 (by decide) (by first | omega | (have := byF_r (x := x - 1) hI; omega)) (by first | omega | (have := byF_r (x := x - 1) hI; omega)) (fun c4 => ?_) (fun c4 => ?_)
        · have _q := c4
          refine lv_iconst (v := iI 1) hx hb d_I_fitsSubfields_86 rfl ?_
          refine lv_goto (tgt := 91) hx hb d_I_fitsSubfields_87 (by decide) ?_
          exact fin _ _ _ (by unfold fsF; first | (rw [if_pos (by omega)]; simp_all [bI]; done) | (rw [if_neg (by omega), if_pos (by omega)]; simp_all [bI]; done) | (rw [if_neg (by omega), if_neg (by omega), if_pos (by assumption)]; simp_all [bI]; done) | (rw [if_neg (by omega), if_neg (by omega), if_neg (by assumption)]; simp_all [bI]; done)) d_I_fitsSubfields_91
        · have _q := c4
          refine lv_iload_n hx hb d_I_fitsSubfields_79 rfl (lv_at hl 3 rfl) ?_
          refine li_callr ((va_runS (As := [.int (iI ch)]) (rest := []) ⟨hx, hb, hml, hown, hts⟩ (c_I_isText l dC dI kA ch (by omega)) (cw_I_101 hts rfl rfl ⟨Nat.le_of_ble_eq_true rfl, Nat.le_of_ble_eq_true rfl⟩) (li_preS va_Pnil hK hN hG.rd) rfl rfl hl.1 rfl (lv_room (Nat.le_of_ble_eq_true rfl)) d_I_fitsSubfields_80 ⟨(by show 0 + 0 ≤ 0; omega), (by show 0 + 0 ≤ 0; omega)⟩).run) ?_
          refine li_bz (tgt := 90) hx hb d_I_fitsSubfields_83 (by decide) (fun c5 => ?_) (fun c5 => ?_)
          · have _q := c5
            refine lv_iconst (v := iI 0) hx hb d_I_fitsSubfields_90 rfl ?_
            exact fin _ _ _ (by unfold fsF; first | (rw [if_pos (by omega)]; simp_all [bI]; done) | (rw [if_neg (by omega), if_pos (by omega)]; simp_all [bI]; done) | (rw [if_neg (by omega), if_neg (by omega), if_pos (by assumption)]; simp_all [bI]; done) | (rw [if_neg (by omega), if_neg (by omega), if_neg (by assumption)]; simp_all [bI]; done)) d_I_fitsSubfields_91
          · have _q := c5
            refine lv_iconst (v := iI 1) hx hb d_I_fitsSubfields_86 rfl ?_
            refine lv_goto (tgt := 91) hx hb d_I_fitsSubfields_87 (by decide) ?_
            exact fin _ _ _ (by unfold fsF; first | (rw [if_pos (by omega)]; simp_all [bI]; done) | (rw [if_neg (by omega), if_pos (by omega)]; simp_all [bI]; done) | (rw [if_neg (by omega), if_neg (by omega), if_pos (by assumption)]; simp_all [bI]; done) | (rw [if_neg (by omega), if_neg (by omega), if_neg (by assumption)]; simp_all [bI]; done)) d_I_fitsSubfields_91
      · have _q := c3
        refine lv_iload_n hx hb d_I_fitsSubfields_53 rfl (lv_at hl 3 rfl) ?_
        refine li_callr ((va_runSN (As := [.int (iI ch)]) (rest := []) ⟨hx, hb, hml, hown, hts⟩ (c_Q_isSmallLetter l dC dI kA ch (by omega)) (cw_I_60 hts hN rfl rfl ⟨Nat.le_of_ble_eq_true rfl, Nat.le_of_ble_eq_true rfl⟩) (li_preS va_Pnil hK hN hG.rd) rfl rfl hl.1 rfl (lv_room (Nat.le_of_ble_eq_true rfl)) d_I_fitsSubfields_54 ⟨(by show 0 + 0 ≤ 0; omega), (by show 0 + 0 ≤ 0; omega)⟩).run) ?_
        refine li_bnz (tgt := 67) hx hb d_I_fitsSubfields_57 (by decide) (fun c6 => ?_) (fun c6 => ?_)
        · have _q := c6
          refine lv_iconst (v := iI 1) hx hb d_I_fitsSubfields_67 rfl ?_
          refine lv_goto (tgt := 72) hx hb d_I_fitsSubfields_68 (by decide) ?_
          exact fin _ _ _ (by unfold fsF; first | (rw [if_pos (by omega)]; simp_all [bI]; done) | (rw [if_neg (by omega), if_pos (by omega)]; simp_all [bI]; done) | (rw [if_neg (by omega), if_neg (by omega), if_pos (by assumption)]; simp_all [bI]; done) | (rw [if_neg (by omega), if_neg (by omega), if_neg (by assumption)]; simp_all [bI]; done)) d_I_fitsSubfields_72
        · have _q := c6
          refine lv_iload_n hx hb d_I_fitsSubfields_60 rfl (lv_at hl 3 rfl) ?_
          refine li_callr ((va_runSN (As := [.int (iI ch)]) (rest := []) ⟨hx, hb, hml, hown, hts⟩ (c_Q_isDigit l dC dI kA ch (by omega)) (cw_I_56 hts hN rfl rfl ⟨Nat.le_of_ble_eq_true rfl, Nat.le_of_ble_eq_true rfl⟩) (li_preS va_Pnil hK hN hG.rd) rfl rfl hl.1 rfl (lv_room (Nat.le_of_ble_eq_true rfl)) d_I_fitsSubfields_61 ⟨(by show 0 + 0 ≤ 0; omega), (by show 0 + 0 ≤ 0; omega)⟩).run) ?_
          refine li_bz (tgt := 71) hx hb d_I_fitsSubfields_64 (by decide) (fun c7 => ?_) (fun c7 => ?_)
          · have _q := c7
            refine lv_iconst (v := iI 0) hx hb d_I_fitsSubfields_71 rfl ?_
            exact fin _ _ _ (by unfold fsF; first | (rw [if_pos (by omega)]; simp_all [bI]; done) | (rw [if_neg (by omega), if_pos (by omega)]; simp_all [bI]; done) | (rw [if_neg (by omega), if_neg (by omega), if_pos (by assumption)]; simp_all [bI]; done) | (rw [if_neg (by omega), if_neg (by omega), if_neg (by assumption)]; simp_all [bI]; done)) d_I_fitsSubfields_72
          · have _q := c7
            refine lv_iconst (v := iI 1) hx hb d_I_fitsSubfields_67 rfl ?_
            refine lv_goto (tgt := 72) hx hb d_I_fitsSubfields_68 (by decide) ?_
            exact fin _ _ _ (by unfold fsF; first | (rw [if_pos (by omega)]; simp_all [bI]; done) | (rw [if_neg (by omega), if_pos (by omega)]; simp_all [bI]; done) | (rw [if_neg (by omega), if_neg (by omega), if_pos (by assumption)]; simp_all [bI]; done) | (rw [if_neg (by omega), if_neg (by omega), if_neg (by assumption)]; simp_all [bI]; done)) d_I_fitsSubfields_72
    · have _q := c2
      refine lv_iload_n hx hb d_I_fitsSubfields_29 rfl (lv_at hl 3 rfl) ?_
      refine lv_bipush (v := iI 31) hx hb d_I_fitsSubfields_30 (by decide) ?_
      refine li_icmp_ne (tgt := 39) hx hb d_I_fitsSubfields_32 (by decide) (by first | omega | (have := byF_r (x := x - 1) hI; omega)) (by first | omega | (have := byF_r (x := x - 1) hI; omega)) (fun c8 => ?_) (fun c8 => ?_)
      · have _q := c8
        refine lv_iconst (v := iI 0) hx hb d_I_fitsSubfields_39 rfl ?_
        exact fin _ _ _ (by unfold fsF; first | (rw [if_pos (by omega)]; simp_all [bI]; done) | (rw [if_neg (by omega), if_pos (by omega)]; simp_all [bI]; done) | (rw [if_neg (by omega), if_neg (by omega), if_pos (by assumption)]; simp_all [bI]; done) | (rw [if_neg (by omega), if_neg (by omega), if_neg (by assumption)]; simp_all [bI]; done)) d_I_fitsSubfields_40
      · have _q := c8
        refine lv_iconst (v := iI 1) hx hb d_I_fitsSubfields_35 rfl ?_
        refine lv_goto (tgt := 40) hx hb d_I_fitsSubfields_36 (by decide) ?_
        exact fin _ _ _ (by unfold fsF; first | (rw [if_pos (by omega)]; simp_all [bI]; done) | (rw [if_neg (by omega), if_pos (by omega)]; simp_all [bI]; done) | (rw [if_neg (by omega), if_neg (by omega), if_pos (by assumption)]; simp_all [bI]; done) | (rw [if_neg (by omega), if_neg (by omega), if_neg (by assumption)]; simp_all [bI]; done)) d_I_fitsSubfields_40
  · have _q := c1
    refine lv_iload_n hx hb d_I_fitsSubfields_5 rfl (lv_at hl 3 rfl) ?_
    refine lv_bipush (v := iI 32) hx hb d_I_fitsSubfields_6 (by decide) ?_
    refine li_icmp_eq (tgt := 18) hx hb d_I_fitsSubfields_8 (by decide) (by first | omega | (have := byF_r (x := x - 1) hI; omega)) (by first | omega | (have := byF_r (x := x - 1) hI; omega)) (fun c9 => ?_) (fun c9 => ?_)
    · have _q := c9
      refine lv_iconst (v := iI 1) hx hb d_I_fitsSubfields_18 rfl ?_
      refine lv_goto (tgt := 23) hx hb d_I_fitsSubfields_19 (by decide) ?_
      exact fin _ _ _ (by unfold fsF; first | (rw [if_pos (by omega)]; simp_all [bI]; done) | (rw [if_neg (by omega), if_pos (by omega)]; simp_all [bI]; done) | (rw [if_neg (by omega), if_neg (by omega), if_pos (by assumption)]; simp_all [bI]; done) | (rw [if_neg (by omega), if_neg (by omega), if_neg (by assumption)]; simp_all [bI]; done)) d_I_fitsSubfields_23
    · have _q := c9
      refine lv_iload_n hx hb d_I_fitsSubfields_11 rfl (lv_at hl 3 rfl) ?_
      refine li_callr ((va_runSN (As := [.int (iI ch)]) (rest := []) ⟨hx, hb, hml, hown, hts⟩ (c_Q_isDigit l dC dI kA ch (by omega)) (cw_I_56 hts hN rfl rfl ⟨Nat.le_of_ble_eq_true rfl, Nat.le_of_ble_eq_true rfl⟩) (li_preS va_Pnil hK hN hG.rd) rfl rfl hl.1 rfl (lv_room (Nat.le_of_ble_eq_true rfl)) d_I_fitsSubfields_12 ⟨(by show 0 + 0 ≤ 0; omega), (by show 0 + 0 ≤ 0; omega)⟩).run) ?_
      refine li_bz (tgt := 22) hx hb d_I_fitsSubfields_15 (by decide) (fun c10 => ?_) (fun c10 => ?_)
      · have _q := c10
        refine lv_iconst (v := iI 0) hx hb d_I_fitsSubfields_22 rfl ?_
        exact fin _ _ _ (by unfold fsF; first | (rw [if_pos (by omega)]; simp_all [bI]; done) | (rw [if_neg (by omega), if_pos (by omega)]; simp_all [bI]; done) | (rw [if_neg (by omega), if_neg (by omega), if_pos (by assumption)]; simp_all [bI]; done) | (rw [if_neg (by omega), if_neg (by omega), if_neg (by assumption)]; simp_all [bI]; done)) d_I_fitsSubfields_23
      · have _q := c10
        refine lv_iconst (v := iI 1) hx hb d_I_fitsSubfields_18 rfl ?_
        refine lv_goto (tgt := 23) hx hb d_I_fitsSubfields_19 (by decide) ?_
        exact fin _ _ _ (by unfold fsF; first | (rw [if_pos (by omega)]; simp_all [bI]; done) | (rw [if_neg (by omega), if_pos (by omega)]; simp_all [bI]; done) | (rw [if_neg (by omega), if_neg (by omega), if_pos (by assumption)]; simp_all [bI]; done) | (rw [if_neg (by omega), if_neg (by omega), if_neg (by assumption)]; simp_all [bI]; done)) d_I_fitsSubfields_23
theorem d_I_canEnd_0 : decode b_I_canEnd 0 = .ok (.iload_n 3, 1) := by decide +kernel
theorem d_I_canEnd_1 : decode b_I_canEnd 1 = .ok (.ifCond .eq 20, 3) := by decide +kernel
theorem d_I_canEnd_4 : decode b_I_canEnd 4 = .ok (.iload_n 2, 1) := by decide +kernel
theorem d_I_canEnd_5 : decode b_I_canEnd 5 = .ok (.iconst 2, 1) := by decide +kernel
theorem d_I_canEnd_6 : decode b_I_canEnd 6 = .ok (.if_icmp .le 19, 3) := by decide +kernel
theorem d_I_canEnd_9 : decode b_I_canEnd 9 = .ok (.aload_n 0, 1) := by decide +kernel
theorem d_I_canEnd_10 : decode b_I_canEnd 10 = .ok (.iload_n 1, 1) := by decide +kernel
theorem d_I_canEnd_11 : decode b_I_canEnd 11 = .ok (.iconst 1, 1) := by decide +kernel
theorem d_I_canEnd_12 : decode b_I_canEnd 12 = .ok (.isub, 1) := by decide +kernel
theorem d_I_canEnd_13 : decode b_I_canEnd 13 = .ok (.invokevirtual 41, 3) := by decide +kernel
theorem d_I_canEnd_16 : decode b_I_canEnd 16 = .ok (.bipush 31, 2) := by decide +kernel
theorem d_I_canEnd_18 : decode b_I_canEnd 18 = .ok (.if_icmp .eq 7, 3) := by decide +kernel
theorem d_I_canEnd_21 : decode b_I_canEnd 21 = .ok (.iconst 1, 1) := by decide +kernel
theorem d_I_canEnd_22 : decode b_I_canEnd 22 = .ok (.goto 4, 3) := by decide +kernel
theorem d_I_canEnd_25 : decode b_I_canEnd 25 = .ok (.iconst 0, 1) := by decide +kernel
theorem d_I_canEnd_26 : decode b_I_canEnd 26 = .ok (.ireturn, 1) := by decide +kernel
set_option maxHeartbeats 4000000 in
set_option maxRecDepth 100000 in
theorem c_I_canEnd (l : Launch) (dC : Nat → ClassId) (dI : Nat → Nat → Nat) (kA : Nat → ClassId) (io : Nat) (ba : Nat) (nb : Nat) (tb : Nat → Int) (cn : Int) (fp : Int) (en : Int) (bs : Int) (ie : Int) (fe : Int) (x : Int) (d : Int) (b : Bool) (hI : IR nb tb cn) (hx0 : -1000 ≤ x ∧ x ≤ 1000 ∧ -1000 ≤ d ∧ d ≤ 1000) : Met l y_I_canEnd (wsy y_I_canEnd b_I_canEnd 4 (some .boolean)) (rmd 1 0 0) (li_Pr (dC, dI) CL (TY kA) [.ref io, .int (iI x), .int (iI d), .int (iI (bI b))] (va_P (dC, dI) CL [(io, .inr (3, [.ref ba, .int (iI cn), .int (iI fp), .int (iI en), .int (iI bs), .int (iI ie), .int (iI fe)])), (ba, .inl (kA 1, nb, .inl (aI tb)))])) (k2_QcV (.int (iI (bI (ceF tb cn x d b))))) 0 0 (fun _ => False) := by
  refine li_mr (by decide) (Nat.le_of_ble_eq_true rfl) (by exact li_narZ2 _) ?_
  intro p e s m args below meth c Q C hP hK hN hG fin ls hl
  obtain ⟨hx, hb, hr, hml, hown, hts, hlocks, hin⟩ := C
  have hown : s.vm.findClass R_I = some m.cls := hown
  have hP : va_P (dC, dI) CL [(io, .inr (3, [.ref ba, .int (iI cn), .int (iI fp), .int (iI en), .int (iI bs), .int (iI ie), .int (iI fe)])), (ba, .inl (kA 1, nb, .inl (aI tb)))] s.heap := hP
  have hl : lv_has ls 4 [(0, .ref io), (1, .int (iI x)), (2, .int (iI d)), (3, .int (iI (bI b)))] := hl
  obtain ⟨hnb, hcn, htb⟩ := id hI
  refine lv_iload_n hx hb d_I_canEnd_0 rfl (lv_at hl 3 rfl) ?_
  refine li_bz (tgt := 21) hx hb d_I_canEnd_1 (by decide) (fun c1 => ?_) (fun c1 => ?_)
  · have _q := c1
    refine lv_iconst (v := iI 1) hx hb d_I_canEnd_21 rfl ?_
    refine lv_goto (tgt := 26) hx hb d_I_canEnd_22 (by decide) ?_
    exact fin _ _ _ (by unfold ceF; first | (rw [show b = false by assumption]; rfl) | (rw [show b = true by assumption, if_pos rfl]; first | exact bI_t (decide_eq_true ⟨by omega, by assumption⟩) | exact bI_f (decide_eq_false (by intro q; omega)) | exact bI_f (decide_eq_false (by intro q; exact q.2 (by assumption))))) d_I_canEnd_26
  · have _q := c1
    refine lv_iload_n hx hb d_I_canEnd_4 rfl (lv_at hl 2 rfl) ?_
    refine lv_iconst (v := iI 2) hx hb d_I_canEnd_5 rfl ?_
    refine li_icmp_le (tgt := 25) hx hb d_I_canEnd_6 (by decide) (by first | omega | (have := byF_r (x := x - 1) hI; omega)) (by first | omega | (have := byF_r (x := x - 1) hI; omega)) (fun c2 => ?_) (fun c2 => ?_)
    · have _q := c2
      refine lv_iconst (v := iI 0) hx hb d_I_canEnd_25 rfl ?_
      exact fin _ _ _ (by unfold ceF; first | (rw [show b = false by assumption]; rfl) | (rw [show b = true by assumption, if_pos rfl]; first | exact bI_t (decide_eq_true ⟨by omega, by assumption⟩) | exact bI_f (decide_eq_false (by intro q; omega)) | exact bI_f (decide_eq_false (by intro q; exact q.2 (by assumption))))) d_I_canEnd_26
    · have _q := c2
      refine lv_aload_n hx hb d_I_canEnd_9 rfl (lv_at hl 0 rfl) ?_
      refine lv_iload_n hx hb d_I_canEnd_10 rfl (lv_at hl 1 rfl) ?_
      refine lv_iconst (v := iI 1) hx hb d_I_canEnd_11 rfl ?_
      refine li_isub hx hb d_I_canEnd_12 ?_
      refine li_callr ((va_runV (As := [.int (iI (x - 1))]) (rest := []) ⟨hx, hb, hml, hown, hts⟩ (c_I_byteAt l dC dI kA io ba nb tb cn fp en bs ie fe (x - 1) (by exact hI) (by omega)) (cw_I_41 hts rfl rfl ⟨Nat.le_of_ble_eq_true rfl, Nat.le_of_ble_eq_true rfl⟩) (li_preV (va_recv hK hP (ci := 3) (q0 := 0) rfl rfl) (hP.sub [0, 1] rfl) hK hN hG.rd) rfl rfl hl.1 rfl (lv_room (Nat.le_of_ble_eq_true rfl)) d_I_canEnd_13 ⟨(by show 0 + 0 ≤ 0; omega), (by show 0 + 0 ≤ 0; omega)⟩).run) ?_
      refine lv_bipush (v := iI 31) hx hb d_I_canEnd_16 (by decide) ?_
      refine li_icmp_eq (tgt := 25) hx hb d_I_canEnd_18 (by decide) (by first | omega | (have := byF_r (x := x - 1) hI; omega)) (by first | omega | (have := byF_r (x := x - 1) hI; omega)) (fun c3 => ?_) (fun c3 => ?_)
      · have _q := c3
        refine lv_iconst (v := iI 0) hx hb d_I_canEnd_25 rfl ?_
        exact fin _ _ _ (by unfold ceF; first | (rw [show b = false by assumption]; rfl) | (rw [show b = true by assumption, if_pos rfl]; first | exact bI_t (decide_eq_true ⟨by omega, by assumption⟩) | exact bI_f (decide_eq_false (by intro q; omega)) | exact bI_f (decide_eq_false (by intro q; exact q.2 (by assumption))))) d_I_canEnd_26
      · have _q := c3
        refine lv_iconst (v := iI 1) hx hb d_I_canEnd_21 rfl ?_
        refine lv_goto (tgt := 26) hx hb d_I_canEnd_22 (by decide) ?_
        exact fin _ _ _ (by unfold ceF; first | (rw [show b = false by assumption]; rfl) | (rw [show b = true by assumption, if_pos rfl]; first | exact bI_t (decide_eq_true ⟨by omega, by assumption⟩) | exact bI_f (decide_eq_false (by intro q; omega)) | exact bI_f (decide_eq_false (by intro q; exact q.2 (by assumption))))) d_I_canEnd_26
theorem d_I_findFieldEnd_0 : decode b_I_findFieldEnd 0 = .ok (.iload_n 1, 1) := by decide +kernel
theorem d_I_findFieldEnd_1 : decode b_I_findFieldEnd 1 = .ok (.istore_n 3, 1) := by decide +kernel
theorem d_I_findFieldEnd_2 : decode b_I_findFieldEnd 2 = .ok (.iload_n 3, 1) := by decide +kernel
theorem d_I_findFieldEnd_3 : decode b_I_findFieldEnd 3 = .ok (.aload_n 0, 1) := by decide +kernel
theorem d_I_findFieldEnd_4 : decode b_I_findFieldEnd 4 = .ok (.getfield 21, 3) := by decide +kernel
theorem d_I_findFieldEnd_7 : decode b_I_findFieldEnd 7 = .ok (.if_icmp .gt 74, 3) := by decide +kernel
theorem d_I_findFieldEnd_10 : decode b_I_findFieldEnd 10 = .ok (.aload_n 0, 1) := by decide +kernel
theorem d_I_findFieldEnd_11 : decode b_I_findFieldEnd 11 = .ok (.iload_n 3, 1) := by decide +kernel
theorem d_I_findFieldEnd_12 : decode b_I_findFieldEnd 12 = .ok (.invokevirtual 41, 3) := by decide +kernel
theorem d_I_findFieldEnd_15 : decode b_I_findFieldEnd 15 = .ok (.istore 4, 2) := by decide +kernel
theorem d_I_findFieldEnd_17 : decode b_I_findFieldEnd 17 = .ok (.iload_n 2, 1) := by decide +kernel
theorem d_I_findFieldEnd_18 : decode b_I_findFieldEnd 18 = .ok (.ifCond .eq 19, 3) := by decide +kernel
theorem d_I_findFieldEnd_21 : decode b_I_findFieldEnd 21 = .ok (.aload_n 0, 1) := by decide +kernel
theorem d_I_findFieldEnd_22 : decode b_I_findFieldEnd 22 = .ok (.iload_n 3, 1) := by decide +kernel
theorem d_I_findFieldEnd_23 : decode b_I_findFieldEnd 23 = .ok (.iload_n 3, 1) := by decide +kernel
theorem d_I_findFieldEnd_24 : decode b_I_findFieldEnd 24 = .ok (.iload_n 1, 1) := by decide +kernel
theorem d_I_findFieldEnd_25 : decode b_I_findFieldEnd 25 = .ok (.isub, 1) := by decide +kernel
theorem d_I_findFieldEnd_26 : decode b_I_findFieldEnd 26 = .ok (.iload 4, 2) := by decide +kernel
theorem d_I_findFieldEnd_28 : decode b_I_findFieldEnd 28 = .ok (.invokevirtual 97, 3) := by decide +kernel
theorem d_I_findFieldEnd_31 : decode b_I_findFieldEnd 31 = .ok (.ifCond .ne 44, 3) := by decide +kernel
theorem d_I_findFieldEnd_34 : decode b_I_findFieldEnd 34 = .ok (.goto 11, 3) := by decide +kernel
theorem d_I_findFieldEnd_37 : decode b_I_findFieldEnd 37 = .ok (.iload 4, 2) := by decide +kernel
theorem d_I_findFieldEnd_39 : decode b_I_findFieldEnd 39 = .ok (.invokestatic 101, 3) := by decide +kernel
theorem d_I_findFieldEnd_42 : decode b_I_findFieldEnd 42 = .ok (.ifCond .ne 33, 3) := by decide +kernel
theorem d_I_findFieldEnd_45 : decode b_I_findFieldEnd 45 = .ok (.aload_n 0, 1) := by decide +kernel
theorem d_I_findFieldEnd_46 : decode b_I_findFieldEnd 46 = .ok (.iload_n 3, 1) := by decide +kernel
theorem d_I_findFieldEnd_47 : decode b_I_findFieldEnd 47 = .ok (.putfield 83, 3) := by decide +kernel
theorem d_I_findFieldEnd_50 : decode b_I_findFieldEnd 50 = .ok (.iload 4, 2) := by decide +kernel
theorem d_I_findFieldEnd_52 : decode b_I_findFieldEnd 52 = .ok (.bipush 30, 2) := by decide +kernel
theorem d_I_findFieldEnd_54 : decode b_I_findFieldEnd 54 = .ok (.if_icmp .ne 19, 3) := by decide +kernel
theorem d_I_findFieldEnd_57 : decode b_I_findFieldEnd 57 = .ok (.aload_n 0, 1) := by decide +kernel
theorem d_I_findFieldEnd_58 : decode b_I_findFieldEnd 58 = .ok (.iload_n 3, 1) := by decide +kernel
theorem d_I_findFieldEnd_59 : decode b_I_findFieldEnd 59 = .ok (.iload_n 3, 1) := by decide +kernel
theorem d_I_findFieldEnd_60 : decode b_I_findFieldEnd 60 = .ok (.iload_n 1, 1) := by decide +kernel
theorem d_I_findFieldEnd_61 : decode b_I_findFieldEnd 61 = .ok (.isub, 1) := by decide +kernel
theorem d_I_findFieldEnd_62 : decode b_I_findFieldEnd 62 = .ok (.iload_n 2, 1) := by decide +kernel
theorem d_I_findFieldEnd_63 : decode b_I_findFieldEnd 63 = .ok (.invokevirtual 104, 3) := by decide +kernel
theorem d_I_findFieldEnd_66 : decode b_I_findFieldEnd 66 = .ok (.ifCond .eq 7, 3) := by decide +kernel
theorem d_I_findFieldEnd_69 : decode b_I_findFieldEnd 69 = .ok (.iconst 1, 1) := by decide +kernel
theorem d_I_findFieldEnd_70 : decode b_I_findFieldEnd 70 = .ok (.goto 4, 3) := by decide +kernel
theorem d_I_findFieldEnd_73 : decode b_I_findFieldEnd 73 = .ok (.iconst 0, 1) := by decide +kernel
theorem d_I_findFieldEnd_74 : decode b_I_findFieldEnd 74 = .ok (.ireturn, 1) := by decide +kernel
theorem d_I_findFieldEnd_75 : decode b_I_findFieldEnd 75 = .ok (.iinc 3 1, 3) := by decide +kernel
theorem d_I_findFieldEnd_78 : decode b_I_findFieldEnd 78 = .ok (.goto (-76), 3) := by decide +kernel
theorem d_I_findFieldEnd_81 : decode b_I_findFieldEnd 81 = .ok (.aload_n 0, 1) := by decide +kernel
theorem d_I_findFieldEnd_82 : decode b_I_findFieldEnd 82 = .ok (.aload_n 0, 1) := by decide +kernel
theorem d_I_findFieldEnd_83 : decode b_I_findFieldEnd 83 = .ok (.getfield 21, 3) := by decide +kernel
theorem d_I_findFieldEnd_86 : decode b_I_findFieldEnd 86 = .ok (.putfield 83, 3) := by decide +kernel
theorem d_I_findFieldEnd_89 : decode b_I_findFieldEnd 89 = .ok (.iconst 0, 1) := by decide +kernel
theorem d_I_findFieldEnd_90 : decode b_I_findFieldEnd 90 = .ok (.ireturn, 1) := by decide +kernel
set_option maxHeartbeats 4000000 in
set_option maxRecDepth 100000 in
theorem c_I_findFieldEnd (l : Launch) (dC : Nat → ClassId) (dI : Nat → Nat → Nat) (kA : Nat → ClassId) (sz : Nat) (io : Nat) (ba : Nat) (nb : Nat) (tb : Nat → Int) (cn : Int) (fp : Int) (en : Int) (bs : Int) (ie : Int) (fe : Int) (st : Int) (b : Bool) (hI : IR nb tb cn) (hst : 0 ≤ st ∧ st ≤ cn + 1) : Met l y_I_findFieldEnd (wsy y_I_findFieldEnd b_I_findFieldEnd 5 (some .boolean)) (rmd 2 0 0) (li_Pr (dC, dI) CL (TY kA) [.ref io, .int (iI st), .int (iI (bI b))] (fun h => h.size = sz ∧ va_P (dC, dI) CL [(io, .inr (3, [.ref ba, .int (iI cn), .int (iI fp), .int (iI en), .int (iI bs), .int (iI ie), .int (iI fe)]))] h ∧ va_D (fun q => dI 100 0 ≤ q) [(io, .inr (3, [.ref ba, .int (iI cn), .int (iI fp), .int (iI en), .int (iI bs), .int (iI ie), .int (iI fe)]))] ∧ (fun h => va_P (dC, dI) CL [(ba, .inl (kA 1, nb, .inl (aI tb)))] h ∧ Dsj [(ba, .inl (kA 1, nb, .inl (aI tb)))] [(io, .inr (3, [.ref ba, .int (iI cn), .int (iI fp), .int (iI en), .int (iI bs), .int (iI ie), .int (iI fe)]))]) h)) (li_Qw (S := Unit) (dC, dI) CL (fun _ => True) (fun _ => some (.int (iI (bI ((ffR tb cn st b).1))))) (fun _ => [(io, .inr (3, [.ref ba, .int (iI cn), .int (iI fp), .int (iI en), .int (iI bs), .int (iI ie), .int (iI ((ffR tb cn st b).2))]))]) (va_A [(io, .inr (3, [.ref ba, .int (iI cn), .int (iI fp), .int (iI en), .int (iI bs), .int (iI ie), .int (iI fe)]))] sz)) 0 0 (va_A [(io, .inr (3, [.ref ba, .int (iI cn), .int (iI fp), .int (iI en), .int (iI bs), .int (iI ie), .int (iI fe)]))] sz) := by
  refine li_mwi (r := fun _ => bI ((ffR tb cn st b).1)) (by decide) (Nat.le_of_ble_eq_true rfl) (fun _ _ => by exact li_narZ2 _) ?_
  intro p e s m args below meth c Q A C hP hD hBx hK hN hG hA hAi hAN fin ls hl
  obtain ⟨hx, hb, hr, hml, hown, hts, hlocks, hin⟩ := C
  have hown : s.vm.findClass R_I = some m.cls := hown
  obtain ⟨hRo, hDj⟩ := hBx
  have hRo : va_P (dC, dI) CL [(ba, .inl (kA 1, nb, .inl (aI tb)))] s.heap := hRo
  have hRoN := li_roN (A := A) hRo hDj hAi
  have hl : lv_has ls 5 [(0, .ref io), (1, .int (iI st)), (2, .int (iI (bI b)))] := hl
  obtain ⟨hnb, hcn, htb⟩ := id hI
  have K_2 : ∀ (nn : Nat) (x : Int), (st ≤ x ∧ x ≤ cn + 1) → (ffL tb cn st b (cn + 1 - x).toNat x = ffR tb cn st b) → ((cn + 1 - x).toNat < nn) → ∀ (H : Heap) (locs : List Loc), va_P (dC, dI) CL [(io, .inr (3, [.ref ba, .int (iI cn), .int (iI fp), .int (iI en), .int (iI bs), .int (iI ie), .int (iI fe)]))] H → va_D A [(io, .inr (3, [.ref ba, .int (iI cn), .int (iI fp), .int (iI en), .int (iI bs), .int (iI ie), .int (iI fe)]))] → va_S A s.heap H locs → ∀ ls : Array Slot, lv_has ls 5 [(0, .ref io), (1, .int (iI st)), (2, .int (iI (bI b))), (3, .int (iI x))] → W p l e (rmd 2 0 0) s m args below meth c H locs 0 0 Q (F0 m 2 ls []) := by
    intro nn
    induction nn with
    | zero => intro x hx9 hres hm; exact absurd hm (Nat.not_lt_zero _)
    | succ nn ih =>
      intro x hx9 hres hm H locs hP hD hS ls hl
      refine lv_iload_n hx hb d_I_findFieldEnd_2 rfl (lv_at hl 3 rfl) ?_
      refine lv_aload_n hx hb d_I_findFieldEnd_3 rfl (lv_at hl 0 rfl) ?_
      refine gf_I_21 hx hb hts hown hK hP 0 rfl rfl d_I_findFieldEnd_4 ?_
      refine li_icmp_gt (tgt := 81) hx hb d_I_findFieldEnd_7 (by decide) (by first | omega | (have := byF_r (x := x) hI; omega)) (by first | omega | (have := byF_r (x := x) hI; omega)) (fun c1 => ?_) (fun c1 => ?_)
      · have _q := c1
        have hf9 : ffR tb cn st b = (false, cn) := by rw [← hres, show (cn + 1 - x).toNat = 0 by omega]; rfl
        refine lv_aload_n hx hb d_I_findFieldEnd_81 rfl (lv_at hl 0 rfl) ?_
        refine lv_aload_n hx hb d_I_findFieldEnd_82 rfl (lv_at hl 0 rfl) ?_
        refine gf_I_21 hx hb hts hown hK hP 0 rfl rfl d_I_findFieldEnd_83 ?_
        refine pf_I_83 hx hb hts hown hK hP hD hS 0 rfl (Nat.le_of_ble_eq_true rfl) d_I_findFieldEnd_86 (fun H locs hP hD hS => ?_)
        have hP : va_P (dC, dI) CL [(io, .inr (3, [.ref ba, .int (iI cn), .int (iI fp), .int (iI en), .int (iI bs), .int (iI ie), .int (iI cn)]))] H := hP
        have hD : va_D A [(io, .inr (3, [.ref ba, .int (iI cn), .int (iI fp), .int (iI en), .int (iI bs), .int (iI ie), .int (iI cn)]))] := hD
        refine lv_iconst (v := iI 0) hx hb d_I_findFieldEnd_89 rfl ?_
        exact fin () _ _ _ _ _ (by rw [hf9]; first | rfl | (subst_vars; simp_all [bI]; done)) (by trivial) (by rw [hf9]; exact hP) (by rw [hf9]; exact hD) hS d_I_findFieldEnd_90
      · have _q := c1
        refine lv_aload_n hx hb d_I_findFieldEnd_10 rfl (lv_at hl 0 rfl) ?_
        refine lv_iload_n hx hb d_I_findFieldEnd_11 rfl (lv_at hl 3 rfl) ?_
        refine li_callr ((va_runV (As := [.int (iI x)]) (rest := []) ⟨hx, hb, hml, hown, hts⟩ (c_I_byteAt l dC dI kA io ba nb tb cn fp en bs ie fe x (by exact hI) (by omega)) (cw_I_41 hts rfl rfl ⟨Nat.le_of_ble_eq_true rfl, Nat.le_of_ble_eq_true rfl⟩) (li_preV (va_recv hK hP (ci := 3) (q0 := 0) rfl rfl) (va_P.app (hP.sub [0] rfl) ((li_ro hRo hRoN hS).sub [0] rfl)) hK hN (hG.go hS hAN)) rfl rfl hl.1 rfl (lv_room (Nat.le_of_ble_eq_true rfl)) d_I_findFieldEnd_12 ⟨(by show 0 + 0 ≤ 0; omega), (by show 0 + 0 ≤ 0; omega)⟩).run) ?_
        refine li_nm (fun cx ecx => ?_)
        refine lv_istore (lv' := [(4, .int (iI cx)), (0, .ref io), (1, .int (iI st)), (2, .int (iI (bI b))), (3, .int (iI x))]) hx hb d_I_findFieldEnd_15 hl (by decide) rfl (fun ls hl => ?_)
        refine lv_iload_n hx hb d_I_findFieldEnd_17 rfl (lv_at hl 3 rfl) ?_
        refine li_bz (tgt := 37) hx hb d_I_findFieldEnd_18 (by decide) (fun c2 => ?_) (fun c2 => ?_)
        · have _q := c2
          refine lv_iload hx hb d_I_findFieldEnd_37 (lv_at hl 0 rfl) ?_
          refine li_callr ((va_runS (As := [.int (iI cx)]) (rest := []) ⟨hx, hb, hml, hown, hts⟩ (c_I_isText l dC dI kA cx (by have := byF_r (x := x) hI; omega)) (cw_I_101 hts rfl rfl ⟨Nat.le_of_ble_eq_true rfl, Nat.le_of_ble_eq_true rfl⟩) (li_preS va_Pnil hK hN (hG.go hS hAN)) rfl rfl hl.1 rfl (lv_room (Nat.le_of_ble_eq_true rfl)) d_I_findFieldEnd_39 ⟨(by show 0 + 0 ≤ 0; omega), (by show 0 + 0 ≤ 0; omega)⟩).run) ?_
          refine li_bnz (tgt := 75) hx hb d_I_findFieldEnd_42 (by decide) (fun c3 => ?_) (fun c3 => ?_)
          · have _q := c3
            obtain ⟨x4, ex4⟩ : ∃ y : Int, y = x + 1 := ⟨_, rfl⟩
            refine lv_iinc (v := iI x4) (lv' := [(3, .int (iI x4)), (4, .int (iI cx)), (0, .ref io), (1, .int (iI st)), (2, .int (iI (bI b)))]) hx hb d_I_findFieldEnd_75 hl (k := 4) rfl (by rw [ex4]; exact iI_add _ _) (by decide) rfl (fun ls hl => ?_)
            refine lv_goto (tgt := 2) hx hb d_I_findFieldEnd_78 (by decide) ?_
            exact ih x4 (by first | omega | (subst_vars; omega)) (by first | rfl | (subst_vars; rw [← hres, show (cn + 1 - x).toNat = (cn + 1 - (x + 1)).toNat + 1 by omega]; simp only [ffL]; rw [if_pos (by simp_all)])) (by first | omega | (subst_vars; omega)) _ _ hP hD hS _ (lv_sub hl [2, 3, 4, 0] rfl)
          · have _q := c3
            have hf9 : ffR tb cn st b = (decide (byF tb cn x = 30) && ceF tb cn x (x - st) b, x) := by rw [← hres, show (cn + 1 - x).toNat = (cn + 1 - (x + 1)).toNat + 1 by omega]; simp only [ffL]; rw [if_neg (by simp_all)]
            refine lv_aload_n hx hb d_I_findFieldEnd_45 rfl (lv_at hl 1 rfl) ?_
            refine lv_iload_n hx hb d_I_findFieldEnd_46 rfl (lv_at hl 4 rfl) ?_
            refine pf_I_83 hx hb hts hown hK hP hD hS 0 rfl (Nat.le_of_ble_eq_true rfl) d_I_findFieldEnd_47 (fun H locs hP hD hS => ?_)
            have hP : va_P (dC, dI) CL [(io, .inr (3, [.ref ba, .int (iI cn), .int (iI fp), .int (iI en), .int (iI bs), .int (iI ie), .int (iI x)]))] H := hP
            have hD : va_D A [(io, .inr (3, [.ref ba, .int (iI cn), .int (iI fp), .int (iI en), .int (iI bs), .int (iI ie), .int (iI x)]))] := hD
            refine lv_iload hx hb d_I_findFieldEnd_50 (lv_at hl 0 rfl) ?_
            refine lv_bipush (v := iI 30) hx hb d_I_findFieldEnd_52 (by decide) ?_
            refine li_icmp_ne (tgt := 73) hx hb d_I_findFieldEnd_54 (by decide) (by first | omega | (have := byF_r (x := x) hI; omega)) (by first | omega | (have := byF_r (x := x) hI; omega)) (fun c5 => ?_) (fun c5 => ?_)
            · have _q := c5
              refine lv_iconst (v := iI 0) hx hb d_I_findFieldEnd_73 rfl ?_
              exact fin () _ _ _ _ _ (by rw [hf9]; first | rfl | (subst_vars; simp_all [bI]; done)) (by trivial) (by rw [hf9]; exact hP) (by rw [hf9]; exact hD) hS d_I_findFieldEnd_74
            · have _q := c5
              refine lv_aload_n hx hb d_I_findFieldEnd_57 rfl (lv_at hl 1 rfl) ?_
              refine lv_iload_n hx hb d_I_findFieldEnd_58 rfl (lv_at hl 4 rfl) ?_
              refine lv_iload_n hx hb d_I_findFieldEnd_59 rfl (lv_at hl 4 rfl) ?_
              refine lv_iload_n hx hb d_I_findFieldEnd_60 rfl (lv_at hl 2 rfl) ?_
              refine li_isub hx hb d_I_findFieldEnd_61 ?_
              refine lv_iload_n hx hb d_I_findFieldEnd_62 rfl (lv_at hl 3 rfl) ?_
              refine li_callr ((va_runV (As := [.int (iI x), .int (iI (x - st)), .int (iI (bI b))]) (rest := []) ⟨hx, hb, hml, hown, hts⟩ (c_I_canEnd l dC dI kA io ba nb tb cn fp en bs ie x x (x - st) b (by exact hI) (by omega)) (cw_I_104 hts rfl rfl ⟨Nat.le_of_ble_eq_true rfl, Nat.le_of_ble_eq_true rfl⟩) (li_preV (va_recv hK hP (ci := 3) (q0 := 0) rfl rfl) (va_P.app (hP.sub [0] rfl) ((li_ro hRo hRoN hS).sub [0] rfl)) hK hN (hG.go hS hAN)) rfl rfl hl.1 rfl (lv_room (Nat.le_of_ble_eq_true rfl)) d_I_findFieldEnd_63 ⟨(by show 0 + 0 ≤ 0; omega), (by show 0 + 0 ≤ 0; omega)⟩).run) ?_
              refine li_bz (tgt := 73) hx hb d_I_findFieldEnd_66 (by decide) (fun c6 => ?_) (fun c6 => ?_)
              · have _q := c6
                refine lv_iconst (v := iI 0) hx hb d_I_findFieldEnd_73 rfl ?_
                exact fin () _ _ _ _ _ (by rw [hf9]; first | rfl | (subst_vars; simp_all [bI]; done)) (by trivial) (by rw [hf9]; exact hP) (by rw [hf9]; exact hD) hS d_I_findFieldEnd_74
              · have _q := c6
                refine lv_iconst (v := iI 1) hx hb d_I_findFieldEnd_69 rfl ?_
                refine lv_goto (tgt := 74) hx hb d_I_findFieldEnd_70 (by decide) ?_
                exact fin () _ _ _ _ _ (by rw [hf9]; first | rfl | (subst_vars; simp_all [bI]; done)) (by trivial) (by rw [hf9]; exact hP) (by rw [hf9]; exact hD) hS d_I_findFieldEnd_74
        · have _q := c2
          refine lv_aload_n hx hb d_I_findFieldEnd_21 rfl (lv_at hl 1 rfl) ?_
          refine lv_iload_n hx hb d_I_findFieldEnd_22 rfl (lv_at hl 4 rfl) ?_
          refine lv_iload_n hx hb d_I_findFieldEnd_23 rfl (lv_at hl 4 rfl) ?_
          refine lv_iload_n hx hb d_I_findFieldEnd_24 rfl (lv_at hl 2 rfl) ?_
          refine li_isub hx hb d_I_findFieldEnd_25 ?_
          refine lv_iload hx hb d_I_findFieldEnd_26 (lv_at hl 0 rfl) ?_
          refine li_callr ((va_runV (As := [.int (iI x), .int (iI (x - st)), .int (iI cx)]) (rest := []) ⟨hx, hb, hml, hown, hts⟩ (c_I_fitsSubfields l dC dI kA io ba nb tb cn fp en bs ie fe x (x - st) cx (by exact hI) (by omega) (by have := byF_r (x := x) hI; omega)) (cw_I_97 hts rfl rfl ⟨Nat.le_of_ble_eq_true rfl, Nat.le_of_ble_eq_true rfl⟩) (li_preV (va_recv hK hP (ci := 3) (q0 := 0) rfl rfl) (va_P.app (hP.sub [0] rfl) ((li_ro hRo hRoN hS).sub [0] rfl)) hK hN (hG.go hS hAN)) rfl rfl hl.1 rfl (lv_room (Nat.le_of_ble_eq_true rfl)) d_I_findFieldEnd_28 ⟨(by show 0 + 0 ≤ 0; omega), (by show 0 + 0 ≤ 0; omega)⟩).run) ?_
          refine li_bnz (tgt := 75) hx hb d_I_findFieldEnd_31 (by decide) (fun c7 => ?_) (fun c7 => ?_)
          · have _q := c7
            obtain ⟨x8, ex8⟩ : ∃ y : Int, y = x + 1 := ⟨_, rfl⟩
            refine lv_iinc (v := iI x8) (lv' := [(3, .int (iI x8)), (4, .int (iI cx)), (0, .ref io), (1, .int (iI st)), (2, .int (iI (bI b)))]) hx hb d_I_findFieldEnd_75 hl (k := 4) rfl (by rw [ex8]; exact iI_add _ _) (by decide) rfl (fun ls hl => ?_)
            refine lv_goto (tgt := 2) hx hb d_I_findFieldEnd_78 (by decide) ?_
            exact ih x8 (by first | omega | (subst_vars; omega)) (by first | rfl | (subst_vars; rw [← hres, show (cn + 1 - x).toNat = (cn + 1 - (x + 1)).toNat + 1 by omega]; simp only [ffL]; rw [if_pos (by simp_all)])) (by first | omega | (subst_vars; omega)) _ _ hP hD hS _ (lv_sub hl [2, 3, 4, 0] rfl)
          · have _q := c7
            have hf9 : ffR tb cn st b = (decide (byF tb cn x = 30) && ceF tb cn x (x - st) b, x) := by rw [← hres, show (cn + 1 - x).toNat = (cn + 1 - (x + 1)).toNat + 1 by omega]; simp only [ffL]; rw [if_neg (by simp_all)]
            refine lv_goto (tgt := 45) hx hb d_I_findFieldEnd_34 (by decide) ?_
            refine lv_aload_n hx hb d_I_findFieldEnd_45 rfl (lv_at hl 1 rfl) ?_
            refine lv_iload_n hx hb d_I_findFieldEnd_46 rfl (lv_at hl 4 rfl) ?_
            refine pf_I_83 hx hb hts hown hK hP hD hS 0 rfl (Nat.le_of_ble_eq_true rfl) d_I_findFieldEnd_47 (fun H locs hP hD hS => ?_)
            have hP : va_P (dC, dI) CL [(io, .inr (3, [.ref ba, .int (iI cn), .int (iI fp), .int (iI en), .int (iI bs), .int (iI ie), .int (iI x)]))] H := hP
            have hD : va_D A [(io, .inr (3, [.ref ba, .int (iI cn), .int (iI fp), .int (iI en), .int (iI bs), .int (iI ie), .int (iI x)]))] := hD
            refine lv_iload hx hb d_I_findFieldEnd_50 (lv_at hl 0 rfl) ?_
            refine lv_bipush (v := iI 30) hx hb d_I_findFieldEnd_52 (by decide) ?_
            refine li_icmp_ne (tgt := 73) hx hb d_I_findFieldEnd_54 (by decide) (by first | omega | (have := byF_r (x := x) hI; omega)) (by first | omega | (have := byF_r (x := x) hI; omega)) (fun c9 => ?_) (fun c9 => ?_)
            · have _q := c9
              refine lv_iconst (v := iI 0) hx hb d_I_findFieldEnd_73 rfl ?_
              exact fin () _ _ _ _ _ (by rw [hf9]; first | rfl | (subst_vars; simp_all [bI]; done)) (by trivial) (by rw [hf9]; exact hP) (by rw [hf9]; exact hD) hS d_I_findFieldEnd_74
            · have _q := c9
              refine lv_aload_n hx hb d_I_findFieldEnd_57 rfl (lv_at hl 1 rfl) ?_
              refine lv_iload_n hx hb d_I_findFieldEnd_58 rfl (lv_at hl 4 rfl) ?_
              refine lv_iload_n hx hb d_I_findFieldEnd_59 rfl (lv_at hl 4 rfl) ?_
              refine lv_iload_n hx hb d_I_findFieldEnd_60 rfl (lv_at hl 2 rfl) ?_
              refine li_isub hx hb d_I_findFieldEnd_61 ?_
              refine lv_iload_n hx hb d_I_findFieldEnd_62 rfl (lv_at hl 3 rfl) ?_
              refine li_callr ((va_runV (As := [.int (iI x), .int (iI (x - st)), .int (iI (bI b))]) (rest := []) ⟨hx, hb, hml, hown, hts⟩ (c_I_canEnd l dC dI kA io ba nb tb cn fp en bs ie x x (x - st) b (by exact hI) (by omega)) (cw_I_104 hts rfl rfl ⟨Nat.le_of_ble_eq_true rfl, Nat.le_of_ble_eq_true rfl⟩) (li_preV (va_recv hK hP (ci := 3) (q0 := 0) rfl rfl) (va_P.app (hP.sub [0] rfl) ((li_ro hRo hRoN hS).sub [0] rfl)) hK hN (hG.go hS hAN)) rfl rfl hl.1 rfl (lv_room (Nat.le_of_ble_eq_true rfl)) d_I_findFieldEnd_63 ⟨(by show 0 + 0 ≤ 0; omega), (by show 0 + 0 ≤ 0; omega)⟩).run) ?_
              refine li_bz (tgt := 73) hx hb d_I_findFieldEnd_66 (by decide) (fun c10 => ?_) (fun c10 => ?_)
              · have _q := c10
                refine lv_iconst (v := iI 0) hx hb d_I_findFieldEnd_73 rfl ?_
                exact fin () _ _ _ _ _ (by rw [hf9]; first | rfl | (subst_vars; simp_all [bI]; done)) (by trivial) (by rw [hf9]; exact hP) (by rw [hf9]; exact hD) hS d_I_findFieldEnd_74
              · have _q := c10
                refine lv_iconst (v := iI 1) hx hb d_I_findFieldEnd_69 rfl ?_
                refine lv_goto (tgt := 74) hx hb d_I_findFieldEnd_70 (by decide) ?_
                exact fin () _ _ _ _ _ (by rw [hf9]; first | rfl | (subst_vars; simp_all [bI]; done)) (by trivial) (by rw [hf9]; exact hP) (by rw [hf9]; exact hD) hS d_I_findFieldEnd_74
  suffices h9 : ∀ (H : Heap) (locs : List Loc), H = s.heap → locs = [] → W p l e (rmd 2 0 0) s m args below meth c H locs 0 0 Q (F0 m 0 ls []) from h9 _ _ rfl rfl
  intro H locs eH eL
  have hP : va_P (dC, dI) CL [(io, .inr (3, [.ref ba, .int (iI cn), .int (iI fp), .int (iI en), .int (iI bs), .int (iI ie), .int (iI fe)]))] H := by rw [eH]; exact hP
  have hS : va_S A s.heap H locs := by rw [eH, eL]; exact va_S.rf
  refine lv_iload_n hx hb d_I_findFieldEnd_0 rfl (lv_at hl 1 rfl) ?_
  refine lv_istore_n (lv' := [(3, .int (iI st)), (0, .ref io), (1, .int (iI st)), (2, .int (iI (bI b)))]) hx hb d_I_findFieldEnd_1 rfl hl (by decide) rfl (fun ls hl => ?_)
  exact K_2 ((cn + 1 - st).toNat + 1) st (by first | omega | (subst_vars; omega)) (by first | rfl | (subst_vars; rw [← hres, show (cn + 1 - x).toNat = (cn + 1 - (x + 1)).toNat + 1 by omega]; simp only [ffL]; rw [if_pos (by simp_all)])) (Nat.lt_succ_self _) _ _ hP hD hS _ (lv_sub hl [1, 2, 3, 0] rfl)

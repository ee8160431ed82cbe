theorem num3_r {t : Nat → Int} {n : Nat} (ht : ∀ j, 0 ≤ t j ∧ t j < 256) {x k : Int} (hk : 0 ≤ k ∧ k ≤ 5) : -1000000000 ≤ numAt t n x k ∧ numAt t n x k ≤ 1000000000 := by
  unfold numAt
  have key : ∀ (m : Nat) (y v B : Int), (0 ≤ B) → (-B ≤ v ∧ v ≤ B) → m ≤ 5 → -( (10 : Int) ^ m * (B + 208)) ≤ numL t n m y v ∧ numL t n m y v ≤ (10 : Int) ^ m * (B + 208) := by
    intro m
    induction m with
    | zero => intro y v B hB hv _; simp only [numL]; omega
    | succ m ih =>
      intro y v B hB hv hm
      simp only [numL]
      have h1 := ht y.toNat
      have h2 := ih (y + 1) (if 0 ≤ y ∧ y < n then 10 * v + (t y.toNat - 48) else v) (10 * B + 208) (by omega) (by split <;> omega) (by omega)
      have h3 : (10 : Int) ^ (m + 1) * (B + 208) = (10 : Int) ^ m * (10 * B + 2080) := by rw [Int.pow_succ, Int.mul_assoc]; congr 1; omega
      have h4 : (0 : Int) ≤ (10 : Int) ^ m := Int.pow_nonneg (by omega)
      have h5 : (10 : Int) ^ m * (10 * B + 208 + 208) ≤ (10 : Int) ^ m * (10 * B + 2080) := Int.mul_le_mul_of_nonneg_left (by omega) h4
      omega
  have hk5 : k.toNat ≤ 5 := by omega
  have := key k.toNat x 0 0 (by omega) (by omega) hk5
  have h6 : (10 : Int) ^ k.toNat ≤ 10 ^ 5 := by
    rcases (show k.toNat = 0 ∨ k.toNat = 1 ∨ k.toNat = 2 ∨ k.toNat = 3 ∨ k.toNat = 4 ∨ k.toNat = 5 by omega) with h | h | h | h | h | h <;> rw [h] <;> decide
  omega
theorem ffL_r {tb : Nat → Int} {cn st : Int} {b : Bool} : ∀ (k : Nat) (x : Int), x + k ≤ cn + 1 → 0 ≤ cn → 0 ≤ x → 0 ≤ (ffL tb cn st b k x).2 ∧ (ffL tb cn st b k x).2 ≤ cn := by
  intro k
  induction k with
  | zero => intro x h h0 hx; simp only [ffL]; omega
  | succ k ih =>
    intro x h h0 hx
    simp only [ffL]
    generalize (if b = true then fsF tb cn x (x - st) (byF tb cn x) else isTxt (byF tb cn x)) = g
    have h1 := ih (x + 1) (by omega) h0 (by omega)
    cases g
    · rw [if_neg (by simp)]; exact ⟨hx, by omega⟩
    · rw [if_pos rfl]; exact h1
theorem ffR_r {tb : Nat → Int} {cn st : Int} {b : Bool} (h : 0 ≤ st ∧ st ≤ cn + 1) (h0 : 0 ≤ cn) : 0 ≤ (ffR tb cn st b).2 ∧ (ffR tb cn st b).2 ≤ cn := ffL_r _ _ (by omega) h0 h.1
theorem flR_r {tb : Nat → Int} {nb : Nat} {cn fp bs fe k e st : Int} (h : 0 ≤ st ∧ st ≤ cn + 1) (h0 : 0 ≤ cn) (hf : 0 ≤ fe ∧ fe ≤ cn) : 0 ≤ (flR tb nb cn fp bs fe k e st).2.2 ∧ (flR tb nb cn fp bs fe k e st).2.2 ≤ cn := by
  have := ffR_r (tb := tb) (b := decide (10 ≤ numAt tb nb e 3)) h h0
  unfold flR
  (repeat' split) <;> simp only <;> omega
theorem flR_k {tb : Nat → Int} {nb : Nat} {cn fp bs fe k e st : Int} : -10 ≤ (flR tb nb cn fp bs fe k e st).1 ∧ (flR tb nb cn fp bs fe k e st).1 ≤ 0 := by
  unfold flR
  (repeat' split) <;> simp only <;> omega
/-- kind, place, id's end, field's end -/
def fdL (tb : Nat → Int) (nb : Nat) (cn bs : Int) : Nat → Int → Int × Int × Int → Int × Int × Int × Int
  | 0, _, u => (0, u)
  | k + 1, e, u => if (flR tb nb cn u.1 bs u.2.2 e (24 + e * 12) (u.2.2 + 1)).1 = 0 then fdL tb nb cn bs k (e + 1) ((flR tb nb cn u.1 bs u.2.2 e (24 + e * 12) (u.2.2 + 1)).2.1, (if e = 0 then (flR tb nb cn u.1 bs u.2.2 e (24 + e * 12) (u.2.2 + 1)).2.2 else u.2.1), (flR tb nb cn u.1 bs u.2.2 e (24 + e * 12) (u.2.2 + 1)).2.2)
    else ((flR tb nb cn u.1 bs u.2.2 e (24 + e * 12) (u.2.2 + 1)).1, (flR tb nb cn u.1 bs u.2.2 e (24 + e * 12) (u.2.2 + 1)).2.1, u.2.1, (flR tb nb cn u.1 bs u.2.2 e (24 + e * 12) (u.2.2 + 1)).2.2)
def fdR (tb : Nat → Int) (nb : Nat) (cn fp en bs ie : Int) : Int × Int × Int × Int := fdL tb nb cn bs en.toNat 0 (fp, ie, bs - 1)
def ndR (tb : Nat → Int) (cn fp fe : Int) : Int × Int := if byF tb cn (fe + 1) = 29 then (if fe + 1 + 1 = cn then (0, fp) else (-5, fe + 1 + 1)) else (-5, fe + 1)
theorem ldR_k {tb : Nat → Int} {nb : Nat} {cn fp : Int} : -10 ≤ (ldR tb nb cn fp).1 ∧ (ldR tb nb cn fp).1 ≤ 0 := by
  unfold ldR; (repeat' split) <;> simp only <;> omega
theorem enR_k {tb : Nat → Int} {nb : Nat} {cn fp en bs : Int} : -10 ≤ (enR tb nb cn fp en bs).1 ∧ (enR tb nb cn fp en bs).1 ≤ 0 := by
  unfold enR; (repeat' split) <;> simp only <;> omega
theorem fdL_k {tb : Nat → Int} {nb : Nat} {cn bs : Int} : ∀ (k : Nat) (e : Int) (u : Int × Int × Int), 0 ≤ cn → 0 ≤ u.2.2 ∧ u.2.2 ≤ cn → (-10 ≤ (fdL tb nb cn bs k e u).1 ∧ (fdL tb nb cn bs k e u).1 ≤ 0) ∧ 0 ≤ (fdL tb nb cn bs k e u).2.2.2 ∧ (fdL tb nb cn bs k e u).2.2.2 ≤ cn := by
  intro k
  induction k with
  | zero => intro e u h0 hu; simp only [fdL]; omega
  | succ k ih =>
    intro e u h0 hu
    have h1 := flR_k (tb := tb) (nb := nb) (cn := cn) (fp := u.1) (bs := bs) (fe := u.2.2) (k := e) (e := 24 + e * 12) (st := u.2.2 + 1)
    have h2 := flR_r (tb := tb) (nb := nb) (cn := cn) (fp := u.1) (bs := bs) (fe := u.2.2) (k := e) (e := 24 + e * 12) (st := u.2.2 + 1) (by omega) h0 hu
    simp only [fdL]
    split
    · exact ih _ _ h0 h2
    · exact ⟨h1, h2⟩
theorem ldL_cn {nb : Nat} {tb : Nat → Int} {cn : Int} : ∀ (k : Nat) (x : Int), 0 ≤ x → ldL tb cn k x = x + k → k = 0 ∨ x + k ≤ cn := by
  intro k
  induction k with
  | zero => intro x _ _; exact Or.inl rfl
  | succ k ih =>
    intro x hx h
    simp only [ldL] at h
    split at h
    · rename_i hq
      rcases ih (x + 1) (by omega) (by omega) with h1 | h1
      · subst h1
        refine Or.inr ?_
        by_cases hc : x < cn
        · omega
        · exfalso
          have e1 : byF tb cn x = -1 := by unfold byF; rw [if_neg (by omega)]
          rw [e1] at hq
          have := chS_r 0 x.toNat
          unfold ldF isDig isLow at hq
          (repeat' split at hq) <;> simp at hq <;> omega
      · exact Or.inr (by omega)
    · omega
theorem enL_r {tb : Nat → Int} {cn : Int} : ∀ (k : Nat) (x : Int), x + k = cn → 24 ≤ x → (enL tb cn k x).1 = 1 ∨ ((enL tb cn k x).1 = 0 ∧ x ≤ (enL tb cn k x).2 ∧ (enL tb cn k x).2 < cn ∧ behF (enL tb cn k x).2 = true) := by
  intro k
  induction k with
  | zero => intro x h _; exact Or.inl rfl
  | succ k ih =>
    intro x h hx
    simp only [enL]
    split
    · rename_i hq; exact Or.inr ⟨rfl, by simp only; omega, by simp only; omega, hq.2⟩
    · split
      · rcases ih (x + 1) (by omega) (by omega) with h1 | ⟨h1, h2, h3, h4⟩
        · exact Or.inl h1
        · exact Or.inr ⟨h1, by omega, h3, h4⟩
      · exact Or.inl rfl

theorem d_I_fieldFault_0 : decode b_I_fieldFault 0 = .ok (.aload_n 0, 1) := by decide +kernel
theorem d_I_fieldFault_1 : decode b_I_fieldFault 1 = .ok (.getfield 9, 3) := by decide +kernel
theorem d_I_fieldFault_4 : decode b_I_fieldFault 4 = .ok (.iload_n 2, 1) := by decide +kernel
theorem d_I_fieldFault_5 : decode b_I_fieldFault 5 = .ok (.iconst 3, 1) := by decide +kernel
theorem d_I_fieldFault_6 : decode b_I_fieldFault 6 = .ok (.invokestatic 52, 3) := by decide +kernel
theorem d_I_fieldFault_9 : decode b_I_fieldFault 9 = .ok (.istore 4, 2) := by decide +kernel
theorem d_I_fieldFault_11 : decode b_I_fieldFault 11 = .ok (.iload_n 1, 1) := by decide +kernel
theorem d_I_fieldFault_12 : decode b_I_fieldFault 12 = .ok (.ifCond .ne 7, 3) := by decide +kernel
theorem d_I_fieldFault_15 : decode b_I_fieldFault 15 = .ok (.iconst 1, 1) := by decide +kernel
theorem d_I_fieldFault_16 : decode b_I_fieldFault 16 = .ok (.goto 4, 3) := by decide +kernel
theorem d_I_fieldFault_19 : decode b_I_fieldFault 19 = .ok (.iconst 0, 1) := by decide +kernel
theorem d_I_fieldFault_20 : decode b_I_fieldFault 20 = .ok (.iload 4, 2) := by decide +kernel
theorem d_I_fieldFault_22 : decode b_I_fieldFault 22 = .ok (.iconst 1, 1) := by decide +kernel
theorem d_I_fieldFault_23 : decode b_I_fieldFault 23 = .ok (.if_icmp .ne 7, 3) := by decide +kernel
theorem d_I_fieldFault_26 : decode b_I_fieldFault 26 = .ok (.iconst 1, 1) := by decide +kernel
theorem d_I_fieldFault_27 : decode b_I_fieldFault 27 = .ok (.goto 4, 3) := by decide +kernel
theorem d_I_fieldFault_30 : decode b_I_fieldFault 30 = .ok (.iconst 0, 1) := by decide +kernel
theorem d_I_fieldFault_31 : decode b_I_fieldFault 31 = .ok (.if_icmp .eq 11, 3) := by decide +kernel
theorem d_I_fieldFault_34 : decode b_I_fieldFault 34 = .ok (.aload_n 0, 1) := by decide +kernel
theorem d_I_fieldFault_35 : decode b_I_fieldFault 35 = .ok (.bipush (-7), 2) := by decide +kernel
theorem d_I_fieldFault_37 : decode b_I_fieldFault 37 = .ok (.iload_n 2, 1) := by decide +kernel
theorem d_I_fieldFault_38 : decode b_I_fieldFault 38 = .ok (.invokevirtual 49, 3) := by decide +kernel
theorem d_I_fieldFault_41 : decode b_I_fieldFault 41 = .ok (.ireturn, 1) := by decide +kernel
theorem d_I_fieldFault_42 : decode b_I_fieldFault 42 = .ok (.aload_n 0, 1) := by decide +kernel
theorem d_I_fieldFault_43 : decode b_I_fieldFault 43 = .ok (.getfield 80, 3) := by decide +kernel
theorem d_I_fieldFault_46 : decode b_I_fieldFault 46 = .ok (.aload_n 0, 1) := by decide +kernel
theorem d_I_fieldFault_47 : decode b_I_fieldFault 47 = .ok (.getfield 9, 3) := by decide +kernel
theorem d_I_fieldFault_50 : decode b_I_fieldFault 50 = .ok (.iload_n 2, 1) := by decide +kernel
theorem d_I_fieldFault_51 : decode b_I_fieldFault 51 = .ok (.bipush 7, 2) := by decide +kernel
theorem d_I_fieldFault_53 : decode b_I_fieldFault 53 = .ok (.iadd, 1) := by decide +kernel
theorem d_I_fieldFault_54 : decode b_I_fieldFault 54 = .ok (.iconst 5, 1) := by decide +kernel
theorem d_I_fieldFault_55 : decode b_I_fieldFault 55 = .ok (.invokestatic 52, 3) := by decide +kernel
theorem d_I_fieldFault_58 : decode b_I_fieldFault 58 = .ok (.iadd, 1) := by decide +kernel
theorem d_I_fieldFault_59 : decode b_I_fieldFault 59 = .ok (.iload_n 3, 1) := by decide +kernel
theorem d_I_fieldFault_60 : decode b_I_fieldFault 60 = .ok (.if_icmp .eq 14, 3) := by decide +kernel
theorem d_I_fieldFault_63 : decode b_I_fieldFault 63 = .ok (.aload_n 0, 1) := by decide +kernel
theorem d_I_fieldFault_64 : decode b_I_fieldFault 64 = .ok (.bipush (-6), 2) := by decide +kernel
theorem d_I_fieldFault_66 : decode b_I_fieldFault 66 = .ok (.iload_n 2, 1) := by decide +kernel
theorem d_I_fieldFault_67 : decode b_I_fieldFault 67 = .ok (.bipush 7, 2) := by decide +kernel
theorem d_I_fieldFault_69 : decode b_I_fieldFault 69 = .ok (.iadd, 1) := by decide +kernel
theorem d_I_fieldFault_70 : decode b_I_fieldFault 70 = .ok (.invokevirtual 49, 3) := by decide +kernel
theorem d_I_fieldFault_73 : decode b_I_fieldFault 73 = .ok (.ireturn, 1) := by decide +kernel
theorem d_I_fieldFault_74 : decode b_I_fieldFault 74 = .ok (.aload_n 0, 1) := by decide +kernel
theorem d_I_fieldFault_75 : decode b_I_fieldFault 75 = .ok (.iload_n 3, 1) := by decide +kernel
theorem d_I_fieldFault_76 : decode b_I_fieldFault 76 = .ok (.iload 4, 2) := by decide +kernel
theorem d_I_fieldFault_78 : decode b_I_fieldFault 78 = .ok (.bipush 10, 2) := by decide +kernel
theorem d_I_fieldFault_80 : decode b_I_fieldFault 80 = .ok (.if_icmp .lt 7, 3) := by decide +kernel
theorem d_I_fieldFault_83 : decode b_I_fieldFault 83 = .ok (.iconst 1, 1) := by decide +kernel
theorem d_I_fieldFault_84 : decode b_I_fieldFault 84 = .ok (.goto 4, 3) := by decide +kernel
theorem d_I_fieldFault_87 : decode b_I_fieldFault 87 = .ok (.iconst 0, 1) := by decide +kernel
theorem d_I_fieldFault_88 : decode b_I_fieldFault 88 = .ok (.invokevirtual 93, 3) := by decide +kernel
theorem d_I_fieldFault_91 : decode b_I_fieldFault 91 = .ok (.ifCond .ne 14, 3) := by decide +kernel
theorem d_I_fieldFault_94 : decode b_I_fieldFault 94 = .ok (.aload_n 0, 1) := by decide +kernel
theorem d_I_fieldFault_95 : decode b_I_fieldFault 95 = .ok (.bipush (-5), 2) := by decide +kernel
theorem d_I_fieldFault_97 : decode b_I_fieldFault 97 = .ok (.aload_n 0, 1) := by decide +kernel
theorem d_I_fieldFault_98 : decode b_I_fieldFault 98 = .ok (.getfield 83, 3) := by decide +kernel
theorem d_I_fieldFault_101 : decode b_I_fieldFault 101 = .ok (.invokevirtual 49, 3) := by decide +kernel
theorem d_I_fieldFault_104 : decode b_I_fieldFault 104 = .ok (.ireturn, 1) := by decide +kernel
theorem d_I_fieldFault_105 : decode b_I_fieldFault 105 = .ok (.aload_n 0, 1) := by decide +kernel
theorem d_I_fieldFault_106 : decode b_I_fieldFault 106 = .ok (.getfield 9, 3) := by decide +kernel
theorem d_I_fieldFault_109 : decode b_I_fieldFault 109 = .ok (.iload_n 2, 1) := by decide +kernel
theorem d_I_fieldFault_110 : decode b_I_fieldFault 110 = .ok (.iconst 3, 1) := by decide +kernel
theorem d_I_fieldFault_111 : decode b_I_fieldFault 111 = .ok (.iadd, 1) := by decide +kernel
theorem d_I_fieldFault_112 : decode b_I_fieldFault 112 = .ok (.iconst 4, 1) := by decide +kernel
theorem d_I_fieldFault_113 : decode b_I_fieldFault 113 = .ok (.invokestatic 52, 3) := by decide +kernel
theorem d_I_fieldFault_116 : decode b_I_fieldFault 116 = .ok (.aload_n 0, 1) := by decide +kernel
theorem d_I_fieldFault_117 : decode b_I_fieldFault 117 = .ok (.getfield 83, 3) := by decide +kernel
theorem d_I_fieldFault_120 : decode b_I_fieldFault 120 = .ok (.iconst 1, 1) := by decide +kernel
theorem d_I_fieldFault_121 : decode b_I_fieldFault 121 = .ok (.iadd, 1) := by decide +kernel
theorem d_I_fieldFault_122 : decode b_I_fieldFault 122 = .ok (.iload_n 3, 1) := by decide +kernel
theorem d_I_fieldFault_123 : decode b_I_fieldFault 123 = .ok (.isub, 1) := by decide +kernel
theorem d_I_fieldFault_124 : decode b_I_fieldFault 124 = .ok (.if_icmp .eq 13, 3) := by decide +kernel
theorem d_I_fieldFault_127 : decode b_I_fieldFault 127 = .ok (.aload_n 0, 1) := by decide +kernel
theorem d_I_fieldFault_128 : decode b_I_fieldFault 128 = .ok (.bipush (-6), 2) := by decide +kernel
theorem d_I_fieldFault_130 : decode b_I_fieldFault 130 = .ok (.iload_n 2, 1) := by decide +kernel
theorem d_I_fieldFault_131 : decode b_I_fieldFault 131 = .ok (.iconst 3, 1) := by decide +kernel
theorem d_I_fieldFault_132 : decode b_I_fieldFault 132 = .ok (.iadd, 1) := by decide +kernel
theorem d_I_fieldFault_133 : decode b_I_fieldFault 133 = .ok (.invokevirtual 49, 3) := by decide +kernel
theorem d_I_fieldFault_136 : decode b_I_fieldFault 136 = .ok (.ireturn, 1) := by decide +kernel
theorem d_I_fieldFault_137 : decode b_I_fieldFault 137 = .ok (.iconst 0, 1) := by decide +kernel
theorem d_I_fieldFault_138 : decode b_I_fieldFault 138 = .ok (.ireturn, 1) := by decide +kernel
set_option maxHeartbeats 4000000 in
set_option maxRecDepth 100000 in
theorem c_I_fieldFault (l : Launch) (dC : Nat → ClassId) (dI : Nat → Nat → Nat) (kA : Nat → ClassId) (sz : Nat) (io : Nat) (ba : Nat) (nb : Nat) (tb : Nat → Int) (cn : Int) (fp : Int) (en : Int) (bs : Int) (ie : Int) (fe : Int) (k : Int) (e1 : Int) (st : Int) (hI : IR nb tb cn) (hk0 : 0 ≤ k ∧ k ≤ 1000) (he0 : 0 ≤ e1 ∧ e1 ≤ 1000) (hst : 0 ≤ st ∧ st ≤ cn + 1) (hbs : 0 ≤ bs ∧ bs ≤ 1000) : Met l y_I_fieldFault (wsy y_I_fieldFault b_I_fieldFault 5 (some .int)) (rmd 3 0 0) (li_Pr (dC, dI) CL (TY kA) [.ref io, .int (iI k), .int (iI e1), .int (iI st)] (fun h => h.size = sz ∧ va_P (dC, dI) CL [(io, .inr (3, [.ref ba, .int (iI cn), .int (iI fp), .int (iI en), .int (iI bs), .int (iI ie), .int (iI fe)]))] h ∧ va_D (fun q => dI 100 0 ≤ q) [(io, .inr (3, [.ref ba, .int (iI cn), .int (iI fp), .int (iI en), .int (iI bs), .int (iI ie), .int (iI fe)]))] ∧ (fun h => va_P (dC, dI) CL [(ba, .inl (kA 1, nb, .inl (aI tb)))] h ∧ Dsj [(ba, .inl (kA 1, nb, .inl (aI tb)))] [(io, .inr (3, [.ref ba, .int (iI cn), .int (iI fp), .int (iI en), .int (iI bs), .int (iI ie), .int (iI fe)]))]) h)) (li_Qw (S := Unit) (dC, dI) CL (fun _ => True) (fun _ => some (.int (iI ((flR tb nb cn fp bs fe k e1 st).1)))) (fun _ => [(io, .inr (3, [.ref ba, .int (iI cn), .int (iI ((flR tb nb cn fp bs fe k e1 st).2.1)), .int (iI en), .int (iI bs), .int (iI ie), .int (iI ((flR tb nb cn fp bs fe k e1 st).2.2))]))]) (va_A [(io, .inr (3, [.ref ba, .int (iI cn), .int (iI fp), .int (iI en), .int (iI bs), .int (iI ie), .int (iI fe)]))] sz)) 0 0 (va_A [(io, .inr (3, [.ref ba, .int (iI cn), .int (iI fp), .int (iI en), .int (iI bs), .int (iI ie), .int (iI fe)]))] sz) := by
  refine li_mwi (r := fun _ => (flR tb nb cn fp bs fe k e1 st).1) (by decide) (Nat.le_of_ble_eq_true rfl) (fun _ _ => by rfl) ?_
  intro p e s m args below meth c Q A C hP hD hBx hK hN hG hA hAi hAN fin ls hl
  obtain ⟨hx, hb, hr, hml, hown, hts, hlocks, hin⟩ := C
  have hown : s.vm.findClass R_I = some m.cls := hown
  obtain ⟨hRo, hDj⟩ := hBx
  have hRo : va_P (dC, dI) CL [(ba, .inl (kA 1, nb, .inl (aI tb)))] s.heap := hRo
  have hRoN := li_roN (A := A) hRo hDj hAi
  have hl : lv_has ls 5 [(0, .ref io), (1, .int (iI k)), (2, .int (iI e1)), (3, .int (iI st))] := hl
  obtain ⟨hnb, hcn, htb⟩ := id hI
  suffices h9 : ∀ (H : Heap) (locs : List Loc), H = s.heap → locs = [] → W p l e (rmd 3 0 0) s m args below meth c H locs 0 0 Q (F0 m 0 ls []) from h9 _ _ rfl rfl
  intro H locs eH eL
  have hP : va_P (dC, dI) CL [(io, .inr (3, [.ref ba, .int (iI cn), .int (iI fp), .int (iI en), .int (iI bs), .int (iI ie), .int (iI fe)]))] H := by rw [eH]; exact hP
  have hS : va_S A s.heap H locs := by rw [eH, eL]; exact va_S.rf
  refine lv_aload_n hx hb d_I_fieldFault_0 rfl (lv_at hl 0 rfl) ?_
  refine gf_I_9 hx hb hts hown hK hP 0 rfl rfl d_I_fieldFault_1 ?_
  refine lv_iload_n hx hb d_I_fieldFault_4 rfl (lv_at hl 2 rfl) ?_
  refine lv_iconst (v := iI 3) hx hb d_I_fieldFault_5 rfl ?_
  refine li_callr ((va_runSN (As := [.ref ba, .int (iI e1), .int (iI 3)]) (rest := []) ⟨hx, hb, hml, hown, hts⟩ (c_Q_numberAt l dC dI kA ba nb tb e1 3 (by omega) (by first | omega | (have h9 := ffR_r (cn := cn) (st := st) (tb := tb) (b := true) (by omega) (by omega); omega) | (have h9 := ffR_r (cn := cn) (st := st) (tb := tb) (b := false) (by omega) (by omega); omega)) (by omega)) (cw_I_52 hts hN rfl rfl ⟨Nat.le_of_ble_eq_true rfl, Nat.le_of_ble_eq_true rfl⟩) (li_preS ((li_ro hRo hRoN hS).sub [0] rfl) hK hN (hG.go hS hAN)) rfl rfl hl.1 rfl (lv_room (Nat.le_of_ble_eq_true rfl)) d_I_fieldFault_6 ⟨(by show 0 + 0 ≤ 0; omega), (by show 0 + 0 ≤ 0; omega)⟩).run) ?_
  refine li_nm (fun tg etg => ?_)
  refine lv_istore (lv' := [(4, .int (iI tg)), (0, .ref io), (1, .int (iI k)), (2, .int (iI e1)), (3, .int (iI st))]) hx hb d_I_fieldFault_9 hl (by decide) rfl (fun ls hl => ?_)
  refine lv_iload_n hx hb d_I_fieldFault_11 rfl (lv_at hl 2 rfl) ?_
  refine li_if_ne (tgt := 19) hx hb d_I_fieldFault_12 (by decide) (by first | omega | (subst_vars; exact num5_r htb (by omega)) | (have h9 := num3_r (n := nb) htb (x := e1 + 7) (k := 5) (by omega); omega) | (have h9 := ffR_r (cn := cn) (st := st) (tb := tb) (b := true) (by omega) (by omega); omega) | (have h9 := ffR_r (cn := cn) (st := st) (tb := tb) (b := false) (by omega) (by omega); omega)) (fun c1 => ?_) (fun c1 => ?_)
  · have _q := c1
    refine lv_iconst (v := iI 0) hx hb d_I_fieldFault_19 rfl ?_
    refine lv_iload hx hb d_I_fieldFault_20 (lv_at hl 0 rfl) ?_
    refine lv_iconst (v := iI 1) hx hb d_I_fieldFault_22 rfl ?_
    refine li_icmp_ne (tgt := 30) hx hb d_I_fieldFault_23 (by decide) (by first | omega | (subst_vars; exact num5_r htb (by omega)) | (have h9 := num3_r (n := nb) htb (x := e1 + 7) (k := 5) (by omega); omega) | (have h9 := ffR_r (cn := cn) (st := st) (tb := tb) (b := true) (by omega) (by omega); omega) | (have h9 := ffR_r (cn := cn) (st := st) (tb := tb) (b := false) (by omega) (by omega); omega)) (by first | omega | (subst_vars; exact num5_r htb (by omega)) | (have h9 := num3_r (n := nb) htb (x := e1 + 7) (k := 5) (by omega); omega) | (have h9 := ffR_r (cn := cn) (st := st) (tb := tb) (b := true) (by omega) (by omega); omega) | (have h9 := ffR_r (cn := cn) (st := st) (tb := tb) (b := false) (by omega) (by omega); omega)) (fun c2 => ?_) (fun c2 => ?_)
    · have _q := c2
      refine lv_iconst (v := iI 0) hx hb d_I_fieldFault_30 rfl ?_
      refine li_icmp_eq (tgt := 42) hx hb d_I_fieldFault_31 (by decide) (by first | omega | (subst_vars; exact num5_r htb (by omega)) | (have h9 := num3_r (n := nb) htb (x := e1 + 7) (k := 5) (by omega); omega) | (have h9 := ffR_r (cn := cn) (st := st) (tb := tb) (b := true) (by omega) (by omega); omega) | (have h9 := ffR_r (cn := cn) (st := st) (tb := tb) (b := false) (by omega) (by omega); omega)) (by first | omega | (subst_vars; exact num5_r htb (by omega)) | (have h9 := num3_r (n := nb) htb (x := e1 + 7) (k := 5) (by omega); omega) | (have h9 := ffR_r (cn := cn) (st := st) (tb := tb) (b := true) (by omega) (by omega); omega) | (have h9 := ffR_r (cn := cn) (st := st) (tb := tb) (b := false) (by omega) (by omega); omega)) (fun c3 => ?_) (fun c3 => ?_)
      · have _q := c3
        have hFA : ¬ (decide (k = 0) ≠ decide (numAt tb nb e1 3 = 1)) := by rw [← etg]; simp_all
        refine lv_aload_n hx hb d_I_fieldFault_42 rfl (lv_at hl 1 rfl) ?_
        refine gf_I_80 hx hb hts hown hK hP 0 rfl rfl d_I_fieldFault_43 ?_
        refine lv_aload_n hx hb d_I_fieldFault_46 rfl (lv_at hl 1 rfl) ?_
        refine gf_I_9 hx hb hts hown hK hP 0 rfl rfl d_I_fieldFault_47 ?_
        refine lv_iload_n hx hb d_I_fieldFault_50 rfl (lv_at hl 3 rfl) ?_
        refine lv_bipush (v := iI 7) hx hb d_I_fieldFault_51 (by decide) ?_
        refine li_iadd hx hb d_I_fieldFault_53 ?_
        refine lv_iconst (v := iI 5) hx hb d_I_fieldFault_54 rfl ?_
        refine li_callr ((va_runSN (As := [.ref ba, .int (iI (e1 + 7)), .int (iI 5)]) (rest := [.int (iI bs)]) ⟨hx, hb, hml, hown, hts⟩ (c_Q_numberAt l dC dI kA ba nb tb (e1 + 7) 5 (by omega) (by first | omega | (have h9 := ffR_r (cn := cn) (st := st) (tb := tb) (b := true) (by omega) (by omega); omega) | (have h9 := ffR_r (cn := cn) (st := st) (tb := tb) (b := false) (by omega) (by omega); omega)) (by omega)) (cw_I_52 hts hN rfl rfl ⟨Nat.le_of_ble_eq_true rfl, Nat.le_of_ble_eq_true rfl⟩) (li_preS ((li_ro hRo hRoN hS).sub [0] rfl) hK hN (hG.go hS hAN)) rfl rfl hl.1 rfl (lv_room (Nat.le_of_ble_eq_true rfl)) d_I_fieldFault_55 ⟨(by show 0 + 0 ≤ 0; omega), (by show 0 + 0 ≤ 0; omega)⟩).run) ?_
        refine li_iadd hx hb d_I_fieldFault_58 ?_
        refine lv_iload_n hx hb d_I_fieldFault_59 rfl (lv_at hl 4 rfl) ?_
        refine li_icmp_eq (tgt := 74) hx hb d_I_fieldFault_60 (by decide) (by first | omega | (subst_vars; exact num5_r htb (by omega)) | (have h9 := num3_r (n := nb) htb (x := e1 + 7) (k := 5) (by omega); omega) | (have h9 := ffR_r (cn := cn) (st := st) (tb := tb) (b := true) (by omega) (by omega); omega) | (have h9 := ffR_r (cn := cn) (st := st) (tb := tb) (b := false) (by omega) (by omega); omega)) (by first | omega | (subst_vars; exact num5_r htb (by omega)) | (have h9 := num3_r (n := nb) htb (x := e1 + 7) (k := 5) (by omega); omega) | (have h9 := ffR_r (cn := cn) (st := st) (tb := tb) (b := true) (by omega) (by omega); omega) | (have h9 := ffR_r (cn := cn) (st := st) (tb := tb) (b := false) (by omega) (by omega); omega)) (fun c4 => ?_) (fun c4 => ?_)
        · have _q := c4
          have hB : ¬ (bs + numAt tb nb (e1 + 7) 5 ≠ st) := by omega
          refine lv_aload_n hx hb d_I_fieldFault_74 rfl (lv_at hl 1 rfl) ?_
          refine lv_iload_n hx hb d_I_fieldFault_75 rfl (lv_at hl 4 rfl) ?_
          refine lv_iload hx hb d_I_fieldFault_76 (lv_at hl 0 rfl) ?_
          refine lv_bipush (v := iI 10) hx hb d_I_fieldFault_78 (by decide) ?_
          refine li_icmp_lt (tgt := 87) hx hb d_I_fieldFault_80 (by decide) (by first | omega | (subst_vars; exact num5_r htb (by omega)) | (have h9 := num3_r (n := nb) htb (x := e1 + 7) (k := 5) (by omega); omega) | (have h9 := ffR_r (cn := cn) (st := st) (tb := tb) (b := true) (by omega) (by omega); omega) | (have h9 := ffR_r (cn := cn) (st := st) (tb := tb) (b := false) (by omega) (by omega); omega)) (by first | omega | (subst_vars; exact num5_r htb (by omega)) | (have h9 := num3_r (n := nb) htb (x := e1 + 7) (k := 5) (by omega); omega) | (have h9 := ffR_r (cn := cn) (st := st) (tb := tb) (b := true) (by omega) (by omega); omega) | (have h9 := ffR_r (cn := cn) (st := st) (tb := tb) (b := false) (by omega) (by omega); omega)) (fun c5 => ?_) (fun c5 => ?_)
          · have _q := c5
            have hT : decide (10 ≤ numAt tb nb e1 3) = false := by rw [← etg]; exact decide_eq_false (by omega)
            refine lv_iconst (v := iI 0) hx hb d_I_fieldFault_87 rfl ?_
            refine li_callw (wc := [(io, .inr (3, [.ref ba, .int (iI cn), .int (iI fp), .int (iI en), .int (iI bs), .int (iI ie), .int (iI fe)]))]) (wr := []) (va_runV (As := [.int (iI st), .int (iI 0)]) (rest := []) ⟨hx, hb, hml, hown, hts⟩ (c_I_findFieldEnd l dC dI kA H.size io ba nb tb cn fp en bs ie fe st false (by exact hI) (by omega)) (cw_I_93 hts rfl rfl ⟨Nat.le_of_ble_eq_true rfl, Nat.le_of_ble_eq_true rfl⟩) (li_preV (va_recv hK hP (ci := 3) (q0 := 0) rfl rfl) ⟨rfl, hP.sub [0] rfl, (hD.sub [0] (by decide) rfl).weaken (fun _ _ _ h => hAN _ h), ((li_ro hRo hRoN hS).sub [0] rfl), (dj_cons (dj_r (hRoN 0 _ rfl) hD [0] rfl) dj_nil)⟩ hK hN (hG.go hS hAN)) rfl rfl hl.1 rfl (lv_room (Nat.le_of_ble_eq_true rfl)) d_I_fieldFault_88 ⟨(by show 0 + 0 ≤ 0; omega), (by show 0 + 0 ≤ 0; omega)⟩) hP hD hS hA [0] [] rfl rfl (by decide) (by decide) (fun u6 H locs hu6 hP hD hS _hk => ?_)
            have hP : va_P (dC, dI) CL [(io, .inr (3, [.ref ba, .int (iI cn), .int (iI fp), .int (iI en), .int (iI bs), .int (iI ie), .int (iI ((ffR tb cn st false).2))]))] H := hP
            have hD : va_D A [(io, .inr (3, [.ref ba, .int (iI cn), .int (iI fp), .int (iI en), .int (iI bs), .int (iI ie), .int (iI ((ffR tb cn st false).2))]))] := hD
            refine li_bnz (tgt := 105) hx hb d_I_fieldFault_91 (by decide) (fun c7 => ?_) (fun c7 => ?_)
            · have _q := c7
              refine lv_aload_n hx hb d_I_fieldFault_105 rfl (lv_at hl 1 rfl) ?_
              refine gf_I_9 hx hb hts hown hK hP 0 rfl rfl d_I_fieldFault_106 ?_
              refine lv_iload_n hx hb d_I_fieldFault_109 rfl (lv_at hl 3 rfl) ?_
              refine lv_iconst (v := iI 3) hx hb d_I_fieldFault_110 rfl ?_
              refine li_iadd hx hb d_I_fieldFault_111 ?_
              refine lv_iconst (v := iI 4) hx hb d_I_fieldFault_112 rfl ?_
              refine li_callr ((va_runSN (As := [.ref ba, .int (iI (e1 + 3)), .int (iI 4)]) (rest := []) ⟨hx, hb, hml, hown, hts⟩ (c_Q_numberAt l dC dI kA ba nb tb (e1 + 3) 4 (by omega) (by first | omega | (have h9 := ffR_r (cn := cn) (st := st) (tb := tb) (b := true) (by omega) (by omega); omega) | (have h9 := ffR_r (cn := cn) (st := st) (tb := tb) (b := false) (by omega) (by omega); omega)) (by omega)) (cw_I_52 hts hN rfl rfl ⟨Nat.le_of_ble_eq_true rfl, Nat.le_of_ble_eq_true rfl⟩) (li_preS ((li_ro hRo hRoN hS).sub [0] rfl) hK hN (hG.go hS hAN)) rfl rfl hl.1 rfl (lv_room (Nat.le_of_ble_eq_true rfl)) d_I_fieldFault_113 ⟨(by show 0 + 0 ≤ 0; omega), (by show 0 + 0 ≤ 0; omega)⟩).run) ?_
              refine lv_aload_n hx hb d_I_fieldFault_116 rfl (lv_at hl 1 rfl) ?_
              refine gf_I_83 hx hb hts hown hK hP 0 rfl rfl d_I_fieldFault_117 ?_
              refine lv_iconst (v := iI 1) hx hb d_I_fieldFault_120 rfl ?_
              refine li_iadd hx hb d_I_fieldFault_121 ?_
              refine lv_iload_n hx hb d_I_fieldFault_122 rfl (lv_at hl 4 rfl) ?_
              refine li_isub hx hb d_I_fieldFault_123 ?_
              refine li_icmp_eq (tgt := 137) hx hb d_I_fieldFault_124 (by decide) (by first | omega | (subst_vars; exact num5_r htb (by omega)) | (have h9 := num3_r (n := nb) htb (x := e1 + 7) (k := 5) (by omega); omega) | (have h9 := ffR_r (cn := cn) (st := st) (tb := tb) (b := true) (by omega) (by omega); omega) | (have h9 := ffR_r (cn := cn) (st := st) (tb := tb) (b := false) (by omega) (by omega); omega)) (by first | omega | (subst_vars; exact num5_r htb (by omega)) | (have h9 := num3_r (n := nb) htb (x := e1 + 7) (k := 5) (by omega); omega) | (have h9 := ffR_r (cn := cn) (st := st) (tb := tb) (b := true) (by omega) (by omega); omega) | (have h9 := ffR_r (cn := cn) (st := st) (tb := tb) (b := false) (by omega) (by omega); omega)) (fun c8 => ?_) (fun c8 => ?_)
              · have _q := c8
                refine lv_iconst (v := iI 0) hx hb d_I_fieldFault_137 rfl ?_
                exact fin () _ _ _ _ _ (by unfold flR; rw [if_neg hFA, if_neg hB, hT, if_neg (by simp_all), if_neg (fun q => q (by assumption))]) (by trivial) (by unfold flR; rw [if_neg hFA, if_neg hB, hT, if_neg (by simp_all), if_neg (fun q => q (by assumption))]; exact hP) (by unfold flR; rw [if_neg hFA, if_neg hB, hT, if_neg (by simp_all), if_neg (fun q => q (by assumption))]; exact hD) hS d_I_fieldFault_138
              · have _q := c8
                refine lv_aload_n hx hb d_I_fieldFault_127 rfl (lv_at hl 1 rfl) ?_
                refine lv_bipush (v := iI (-6)) hx hb d_I_fieldFault_128 (by decide) ?_
                refine lv_iload_n hx hb d_I_fieldFault_130 rfl (lv_at hl 3 rfl) ?_
                refine lv_iconst (v := iI 3) hx hb d_I_fieldFault_131 rfl ?_
                refine li_iadd hx hb d_I_fieldFault_132 ?_
                refine li_callw (wc := [(io, .inr (3, [.ref ba, .int (iI cn), .int (iI fp), .int (iI en), .int (iI bs), .int (iI ie), .int (iI ((ffR tb cn st false).2))]))]) (wr := []) (va_runV (As := [.int (iI (-6)), .int (iI (e1 + 3))]) (rest := []) ⟨hx, hb, hml, hown, hts⟩ (c_I_fault l dC dI kA H.size io ba cn fp en bs ie ((ffR tb cn st false).2) (-6) (e1 + 3) (by omega) (by first | omega | (have h9 := ffR_r (cn := cn) (st := st) (tb := tb) (b := true) (by omega) (by omega); omega) | (have h9 := ffR_r (cn := cn) (st := st) (tb := tb) (b := false) (by omega) (by omega); omega))) (cw_I_49 hts rfl rfl ⟨Nat.le_of_ble_eq_true rfl, Nat.le_of_ble_eq_true rfl⟩) (li_preV (va_recv hK hP (ci := 3) (q0 := 0) rfl rfl) ⟨rfl, hP.sub [0] rfl, (hD.sub [0] (by decide) rfl).weaken (fun _ _ _ h => hAN _ h), trivial⟩ hK hN (hG.go hS hAN)) rfl rfl hl.1 rfl (lv_room (Nat.le_of_ble_eq_true rfl)) d_I_fieldFault_133 ⟨(by show 0 + 0 ≤ 0; omega), (by show 0 + 0 ≤ 0; omega)⟩) hP hD hS hA [0] [] rfl rfl (by decide) (by decide) (fun u9 H locs hu9 hP hD hS _hk => ?_)
                have hP : va_P (dC, dI) CL [(io, .inr (3, [.ref ba, .int (iI cn), .int (iI (e1 + 3)), .int (iI en), .int (iI bs), .int (iI ie), .int (iI ((ffR tb cn st false).2))]))] H := hP
                have hD : va_D A [(io, .inr (3, [.ref ba, .int (iI cn), .int (iI (e1 + 3)), .int (iI en), .int (iI bs), .int (iI ie), .int (iI ((ffR tb cn st false).2))]))] := hD
                exact fin () _ _ _ _ _ (by unfold flR; rw [if_neg hFA, if_neg hB, hT, if_neg (by simp_all), if_pos (by assumption)]) (by trivial) (by unfold flR; rw [if_neg hFA, if_neg hB, hT, if_neg (by simp_all), if_pos (by assumption)]; exact hP) (by unfold flR; rw [if_neg hFA, if_neg hB, hT, if_neg (by simp_all), if_pos (by assumption)]; exact hD) hS d_I_fieldFault_136
            · have _q := c7
              refine lv_aload_n hx hb d_I_fieldFault_94 rfl (lv_at hl 1 rfl) ?_
              refine lv_bipush (v := iI (-5)) hx hb d_I_fieldFault_95 (by decide) ?_
              refine lv_aload_n hx hb d_I_fieldFault_97 rfl (lv_at hl 1 rfl) ?_
              refine gf_I_83 hx hb hts hown hK hP 0 rfl rfl d_I_fieldFault_98 ?_
              refine li_callw (wc := [(io, .inr (3, [.ref ba, .int (iI cn), .int (iI fp), .int (iI en), .int (iI bs), .int (iI ie), .int (iI ((ffR tb cn st false).2))]))]) (wr := []) (va_runV (As := [.int (iI (-5)), .int (iI ((ffR tb cn st false).2))]) (rest := []) ⟨hx, hb, hml, hown, hts⟩ (c_I_fault l dC dI kA H.size io ba cn fp en bs ie ((ffR tb cn st false).2) (-5) ((ffR tb cn st false).2) (by omega) (by first | omega | (have h9 := ffR_r (cn := cn) (st := st) (tb := tb) (b := true) (by omega) (by omega); omega) | (have h9 := ffR_r (cn := cn) (st := st) (tb := tb) (b := false) (by omega) (by omega); omega))) (cw_I_49 hts rfl rfl ⟨Nat.le_of_ble_eq_true rfl, Nat.le_of_ble_eq_true rfl⟩) (li_preV (va_recv hK hP (ci := 3) (q0 := 0) rfl rfl) ⟨rfl, hP.sub [0] rfl, (hD.sub [0] (by decide) rfl).weaken (fun _ _ _ h => hAN _ h), trivial⟩ hK hN (hG.go hS hAN)) rfl rfl hl.1 rfl (lv_room (Nat.le_of_ble_eq_true rfl)) d_I_fieldFault_101 ⟨(by show 0 + 0 ≤ 0; omega), (by show 0 + 0 ≤ 0; omega)⟩) hP hD hS hA [0] [] rfl rfl (by decide) (by decide) (fun u10 H locs hu10 hP hD hS _hk => ?_)
              have hP : va_P (dC, dI) CL [(io, .inr (3, [.ref ba, .int (iI cn), .int (iI ((ffR tb cn st false).2)), .int (iI en), .int (iI bs), .int (iI ie), .int (iI ((ffR tb cn st false).2))]))] H := hP
              have hD : va_D A [(io, .inr (3, [.ref ba, .int (iI cn), .int (iI ((ffR tb cn st false).2)), .int (iI en), .int (iI bs), .int (iI ie), .int (iI ((ffR tb cn st false).2))]))] := hD
              exact fin () _ _ _ _ _ (by unfold flR; rw [if_neg hFA, if_neg hB, hT, if_pos (by assumption)]) (by trivial) (by unfold flR; rw [if_neg hFA, if_neg hB, hT, if_pos (by assumption)]; exact hP) (by unfold flR; rw [if_neg hFA, if_neg hB, hT, if_pos (by assumption)]; exact hD) hS d_I_fieldFault_104
          · have _q := c5
            have hT : decide (10 ≤ numAt tb nb e1 3) = true := by rw [← etg]; exact decide_eq_true (by omega)
            refine lv_iconst (v := iI 1) hx hb d_I_fieldFault_83 rfl ?_
            refine lv_goto (tgt := 88) hx hb d_I_fieldFault_84 (by decide) ?_
            refine li_callw (wc := [(io, .inr (3, [.ref ba, .int (iI cn), .int (iI fp), .int (iI en), .int (iI bs), .int (iI ie), .int (iI fe)]))]) (wr := []) (va_runV (As := [.int (iI st), .int (iI 1)]) (rest := []) ⟨hx, hb, hml, hown, hts⟩ (c_I_findFieldEnd l dC dI kA H.size io ba nb tb cn fp en bs ie fe st true (by exact hI) (by omega)) (cw_I_93 hts rfl rfl ⟨Nat.le_of_ble_eq_true rfl, Nat.le_of_ble_eq_true rfl⟩) (li_preV (va_recv hK hP (ci := 3) (q0 := 0) rfl rfl) ⟨rfl, hP.sub [0] rfl, (hD.sub [0] (by decide) rfl).weaken (fun _ _ _ h => hAN _ h), ((li_ro hRo hRoN hS).sub [0] rfl), (dj_cons (dj_r (hRoN 0 _ rfl) hD [0] rfl) dj_nil)⟩ hK hN (hG.go hS hAN)) rfl rfl hl.1 rfl (lv_room (Nat.le_of_ble_eq_true rfl)) d_I_fieldFault_88 ⟨(by show 0 + 0 ≤ 0; omega), (by show 0 + 0 ≤ 0; omega)⟩) hP hD hS hA [0] [] rfl rfl (by decide) (by decide) (fun u11 H locs hu11 hP hD hS _hk => ?_)
            have hP : va_P (dC, dI) CL [(io, .inr (3, [.ref ba, .int (iI cn), .int (iI fp), .int (iI en), .int (iI bs), .int (iI ie), .int (iI ((ffR tb cn st true).2))]))] H := hP
            have hD : va_D A [(io, .inr (3, [.ref ba, .int (iI cn), .int (iI fp), .int (iI en), .int (iI bs), .int (iI ie), .int (iI ((ffR tb cn st true).2))]))] := hD
            refine li_bnz (tgt := 105) hx hb d_I_fieldFault_91 (by decide) (fun c12 => ?_) (fun c12 => ?_)
            · have _q := c12
              refine lv_aload_n hx hb d_I_fieldFault_105 rfl (lv_at hl 1 rfl) ?_
              refine gf_I_9 hx hb hts hown hK hP 0 rfl rfl d_I_fieldFault_106 ?_
              refine lv_iload_n hx hb d_I_fieldFault_109 rfl (lv_at hl 3 rfl) ?_
              refine lv_iconst (v := iI 3) hx hb d_I_fieldFault_110 rfl ?_
              refine li_iadd hx hb d_I_fieldFault_111 ?_
              refine lv_iconst (v := iI 4) hx hb d_I_fieldFault_112 rfl ?_
              refine li_callr ((va_runSN (As := [.ref ba, .int (iI (e1 + 3)), .int (iI 4)]) (rest := []) ⟨hx, hb, hml, hown, hts⟩ (c_Q_numberAt l dC dI kA ba nb tb (e1 + 3) 4 (by omega) (by first | omega | (have h9 := ffR_r (cn := cn) (st := st) (tb := tb) (b := true) (by omega) (by omega); omega) | (have h9 := ffR_r (cn := cn) (st := st) (tb := tb) (b := false) (by omega) (by omega); omega)) (by omega)) (cw_I_52 hts hN rfl rfl ⟨Nat.le_of_ble_eq_true rfl, Nat.le_of_ble_eq_true rfl⟩) (li_preS ((li_ro hRo hRoN hS).sub [0] rfl) hK hN (hG.go hS hAN)) rfl rfl hl.1 rfl (lv_room (Nat.le_of_ble_eq_true rfl)) d_I_fieldFault_113 ⟨(by show 0 + 0 ≤ 0; omega), (by show 0 + 0 ≤ 0; omega)⟩).run) ?_
              refine lv_aload_n hx hb d_I_fieldFault_116 rfl (lv_at hl 1 rfl) ?_
              refine gf_I_83 hx hb hts hown hK hP 0 rfl rfl d_I_fieldFault_117 ?_
              refine lv_iconst (v := iI 1) hx hb d_I_fieldFault_120 rfl ?_
              refine li_iadd hx hb d_I_fieldFault_121 ?_
              refine lv_iload_n hx hb d_I_fieldFault_122 rfl (lv_at hl 4 rfl) ?_
              refine li_isub hx hb d_I_fieldFault_123 ?_
              refine li_icmp_eq (tgt := 137) hx hb d_I_fieldFault_124 (by decide) (by first | omega | (subst_vars; exact num5_r htb (by omega)) | (have h9 := num3_r (n := nb) htb (x := e1 + 7) (k := 5) (by omega); omega) | (have h9 := ffR_r (cn := cn) (st := st) (tb := tb) (b := true) (by omega) (by omega); omega) | (have h9 := ffR_r (cn := cn) (st := st) (tb := tb) (b := false) (by omega) (by omega); omega)) (by first | omega | (subst_vars; exact num5_r htb (by omega)) | (have h9 := num3_r (n := nb) htb (x := e1 + 7) (k := 5) (by omega); omega) | (have h9 := ffR_r (cn := cn) (st := st) (tb := tb) (b := true) (by omega) (by omega); omega) | (have h9 := ffR_r (cn := cn) (st := st) (tb := tb) (b := false) (by omega) (by omega); omega)) (fun c13 => ?_) (fun c13 => ?_)
              · have _q := c13
                refine lv_iconst (v := iI 0) hx hb d_I_fieldFault_137 rfl ?_
                exact fin () _ _ _ _ _ (by unfold flR; rw [if_neg hFA, if_neg hB, hT, if_neg (by simp_all), if_neg (fun q => q (by assumption))]) (by trivial) (by unfold flR; rw [if_neg hFA, if_neg hB, hT, if_neg (by simp_all), if_neg (fun q => q (by assumption))]; exact hP) (by unfold flR; rw [if_neg hFA, if_neg hB, hT, if_neg (by simp_all), if_neg (fun q => q (by assumption))]; exact hD) hS d_I_fieldFault_138
              · have _q := c13
                refine lv_aload_n hx hb d_I_fieldFault_127 rfl (lv_at hl 1 rfl) ?_
                refine lv_bipush (v := iI (-6)) hx hb d_I_fieldFault_128 (by decide) ?_
                refine lv_iload_n hx hb d_I_fieldFault_130 rfl (lv_at hl 3 rfl) ?_
                refine lv_iconst (v := iI 3) hx hb d_I_fieldFault_131 rfl ?_
                refine li_iadd hx hb d_I_fieldFault_132 ?_
                refine li_callw (wc := [(io, .inr (3, [.ref ba, .int (iI cn), .int (iI fp), .int (iI en), .int (iI bs), .int (iI ie), .int (iI ((ffR tb cn st true).2))]))]) (wr := []) (va_runV (As := [.int (iI (-6)), .int (iI (e1 + 3))]) (rest := []) ⟨hx, hb, hml, hown, hts⟩ (c_I_fault l dC dI kA H.size io ba cn fp en bs ie ((ffR tb cn st true).2) (-6) (e1 + 3) (by omega) (by first | omega | (have h9 := ffR_r (cn := cn) (st := st) (tb := tb) (b := true) (by omega) (by omega); omega) | (have h9 := ffR_r (cn := cn) (st := st) (tb := tb) (b := false) (by omega) (by omega); omega))) (cw_I_49 hts rfl rfl ⟨Nat.le_of_ble_eq_true rfl, Nat.le_of_ble_eq_true rfl⟩) (li_preV (va_recv hK hP (ci := 3) (q0 := 0) rfl rfl) ⟨rfl, hP.sub [0] rfl, (hD.sub [0] (by decide) rfl).weaken (fun _ _ _ h => hAN _ h), trivial⟩ hK hN (hG.go hS hAN)) rfl rfl hl.1 rfl (lv_room (Nat.le_of_ble_eq_true rfl)) d_I_fieldFault_133 ⟨(by show 0 + 0 ≤ 0; omega), (by show 0 + 0 ≤ 0; omega)⟩) hP hD hS hA [0] [] rfl rfl (by decide) (by decide) (fun u14 H locs hu14 hP hD hS _hk => ?_)
                have hP : va_P (dC, dI) CL [(io, .inr (3, [.ref ba, .int (iI cn), .int (iI (e1 + 3)), .int (iI en), .int (iI bs), .int (iI ie), .int (iI ((ffR tb cn st true).2))]))] H := hP
                have hD : va_D A [(io, .inr (3, [.ref ba, .int (iI cn), .int (iI (e1 + 3)), .int (iI en), .int (iI bs), .int (iI ie), .int (iI ((ffR tb cn st true).2))]))] := hD
                exact fin () _ _ _ _ _ (by unfold flR; rw [if_neg hFA, if_neg hB, hT, if_neg (by simp_all), if_pos (by assumption)]) (by trivial) (by unfold flR; rw [if_neg hFA, if_neg hB, hT, if_neg (by simp_all), if_pos (by assumption)]; exact hP) (by unfold flR; rw [if_neg hFA, if_neg hB, hT, if_neg (by simp_all), if_pos (by assumption)]; exact hD) hS d_I_fieldFault_136
            · have _q := c12
              refine lv_aload_n hx hb d_I_fieldFault_94 rfl (lv_at hl 1 rfl) ?_
              refine lv_bipush (v := iI (-5)) hx hb d_I_fieldFault_95 (by decide) ?_
              refine lv_aload_n hx hb d_I_fieldFault_97 rfl (lv_at hl 1 rfl) ?_
              refine gf_I_83 hx hb hts hown hK hP 0 rfl rfl d_I_fieldFault_98 ?_
              refine li_callw (wc := [(io, .inr (3, [.ref ba, .int (iI cn), .int (iI fp), .int (iI en), .int (iI bs), .int (iI ie), .int (iI ((ffR tb cn st true).2))]))]) (wr := []) (va_runV (As := [.int (iI (-5)), .int (iI ((ffR tb cn st true).2))]) (rest := []) ⟨hx, hb, hml, hown, hts⟩ (c_I_fault l dC dI kA H.size io ba cn fp en bs ie ((ffR tb cn st true).2) (-5) ((ffR tb cn st true).2) (by omega) (by first | omega | (have h9 := ffR_r (cn := cn) (st := st) (tb := tb) (b := true) (by omega) (by omega); omega) | (have h9 := ffR_r (cn := cn) (st := st) (tb := tb) (b := false) (by omega) (by omega); omega))) (cw_I_49 hts rfl rfl ⟨Nat.le_of_ble_eq_true rfl, Nat.le_of_ble_eq_true rfl⟩) (li_preV (va_recv hK hP (ci := 3) (q0 := 0) rfl rfl) ⟨rfl, hP.sub [0] rfl, (hD.sub [0] (by decide) rfl).weaken (fun _ _ _ h => hAN _ h), trivial⟩ hK hN (hG.go hS hAN)) rfl rfl hl.1 rfl (lv_room (Nat.le_of_ble_eq_true rfl)) d_I_fieldFault_101 ⟨(by show 0 + 0 ≤ 0; omega), (by show 0 + 0 ≤ 0; omega)⟩) hP hD hS hA [0] [] rfl rfl (by decide) (by decide) (fun u15 H locs hu15 hP hD hS _hk => ?_)
              have hP : va_P (dC, dI) CL [(io, .inr (3, [.ref ba, .int (iI cn), .int (iI ((ffR tb cn st true).2)), .int (iI en), .int (iI bs), .int (iI ie), .int (iI ((ffR tb cn st true).2))]))] H := hP
              have hD : va_D A [(io, .inr (3, [.ref ba, .int (iI cn), .int (iI ((ffR tb cn st true).2)), .int (iI en), .int (iI bs), .int (iI ie), .int (iI ((ffR tb cn st true).2))]))] := hD
              exact fin () _ _ _ _ _ (by unfold flR; rw [if_neg hFA, if_neg hB, hT, if_pos (by assumption)]) (by trivial) (by unfold flR; rw [if_neg hFA, if_neg hB, hT, if_pos (by assumption)]; exact hP) (by unfold flR; rw [if_neg hFA, if_neg hB, hT, if_pos (by assumption)]; exact hD) hS d_I_fieldFault_104
        · have _q := c4
          have hB : bs + numAt tb nb (e1 + 7) 5 ≠ st := by omega
          refine lv_aload_n hx hb d_I_fieldFault_63 rfl (lv_at hl 1 rfl) ?_
          refine lv_bipush (v := iI (-6)) hx hb d_I_fieldFault_64 (by decide) ?_
          refine lv_iload_n hx hb d_I_fieldFault_66 rfl (lv_at hl 3 rfl) ?_
          refine lv_bipush (v := iI 7) hx hb d_I_fieldFault_67 (by decide) ?_
          refine li_iadd hx hb d_I_fieldFault_69 ?_
          refine li_callw (wc := [(io, .inr (3, [.ref ba, .int (iI cn), .int (iI fp), .int (iI en), .int (iI bs), .int (iI ie), .int (iI fe)]))]) (wr := []) (va_runV (As := [.int (iI (-6)), .int (iI (e1 + 7))]) (rest := []) ⟨hx, hb, hml, hown, hts⟩ (c_I_fault l dC dI kA H.size io ba cn fp en bs ie fe (-6) (e1 + 7) (by omega) (by first | omega | (have h9 := ffR_r (cn := cn) (st := st) (tb := tb) (b := true) (by omega) (by omega); omega) | (have h9 := ffR_r (cn := cn) (st := st) (tb := tb) (b := false) (by omega) (by omega); omega))) (cw_I_49 hts rfl rfl ⟨Nat.le_of_ble_eq_true rfl, Nat.le_of_ble_eq_true rfl⟩) (li_preV (va_recv hK hP (ci := 3) (q0 := 0) rfl rfl) ⟨rfl, hP.sub [0] rfl, (hD.sub [0] (by decide) rfl).weaken (fun _ _ _ h => hAN _ h), trivial⟩ hK hN (hG.go hS hAN)) rfl rfl hl.1 rfl (lv_room (Nat.le_of_ble_eq_true rfl)) d_I_fieldFault_70 ⟨(by show 0 + 0 ≤ 0; omega), (by show 0 + 0 ≤ 0; omega)⟩) hP hD hS hA [0] [] rfl rfl (by decide) (by decide) (fun u16 H locs hu16 hP hD hS _hk => ?_)
          have hP : va_P (dC, dI) CL [(io, .inr (3, [.ref ba, .int (iI cn), .int (iI (e1 + 7)), .int (iI en), .int (iI bs), .int (iI ie), .int (iI fe)]))] H := hP
          have hD : va_D A [(io, .inr (3, [.ref ba, .int (iI cn), .int (iI (e1 + 7)), .int (iI en), .int (iI bs), .int (iI ie), .int (iI fe)]))] := hD
          exact fin () _ _ _ _ _ (by unfold flR; rw [if_neg hFA, if_pos hB]) (by trivial) (by unfold flR; rw [if_neg hFA, if_pos hB]; exact hP) (by unfold flR; rw [if_neg hFA, if_pos hB]; exact hD) hS d_I_fieldFault_73
      · have _q := c3
        exact absurd c3 (by omega)
    · have _q := c2
      refine lv_iconst (v := iI 1) hx hb d_I_fieldFault_26 rfl ?_
      refine lv_goto (tgt := 31) hx hb d_I_fieldFault_27 (by decide) ?_
      refine li_icmp_eq (tgt := 42) hx hb d_I_fieldFault_31 (by decide) (by first | omega | (subst_vars; exact num5_r htb (by omega)) | (have h9 := num3_r (n := nb) htb (x := e1 + 7) (k := 5) (by omega); omega) | (have h9 := ffR_r (cn := cn) (st := st) (tb := tb) (b := true) (by omega) (by omega); omega) | (have h9 := ffR_r (cn := cn) (st := st) (tb := tb) (b := false) (by omega) (by omega); omega)) (by first | omega | (subst_vars; exact num5_r htb (by omega)) | (have h9 := num3_r (n := nb) htb (x := e1 + 7) (k := 5) (by omega); omega) | (have h9 := ffR_r (cn := cn) (st := st) (tb := tb) (b := true) (by omega) (by omega); omega) | (have h9 := ffR_r (cn := cn) (st := st) (tb := tb) (b := false) (by omega) (by omega); omega)) (fun c17 => ?_) (fun c17 => ?_)
      · have _q := c17
        exact absurd c17 (by omega)
      · have _q := c17
        have hFA : decide (k = 0) ≠ decide (numAt tb nb e1 3 = 1) := by rw [← etg]; simp_all
        refine lv_aload_n hx hb d_I_fieldFault_34 rfl (lv_at hl 1 rfl) ?_
        refine lv_bipush (v := iI (-7)) hx hb d_I_fieldFault_35 (by decide) ?_
        refine lv_iload_n hx hb d_I_fieldFault_37 rfl (lv_at hl 3 rfl) ?_
        refine li_callw (wc := [(io, .inr (3, [.ref ba, .int (iI cn), .int (iI fp), .int (iI en), .int (iI bs), .int (iI ie), .int (iI fe)]))]) (wr := []) (va_runV (As := [.int (iI (-7)), .int (iI e1)]) (rest := []) ⟨hx, hb, hml, hown, hts⟩ (c_I_fault l dC dI kA H.size io ba cn fp en bs ie fe (-7) e1 (by omega) (by first | omega | (have h9 := ffR_r (cn := cn) (st := st) (tb := tb) (b := true) (by omega) (by omega); omega) | (have h9 := ffR_r (cn := cn) (st := st) (tb := tb) (b := false) (by omega) (by omega); omega))) (cw_I_49 hts rfl rfl ⟨Nat.le_of_ble_eq_true rfl, Nat.le_of_ble_eq_true rfl⟩) (li_preV (va_recv hK hP (ci := 3) (q0 := 0) rfl rfl) ⟨rfl, hP.sub [0] rfl, (hD.sub [0] (by decide) rfl).weaken (fun _ _ _ h => hAN _ h), trivial⟩ hK hN (hG.go hS hAN)) rfl rfl hl.1 rfl (lv_room (Nat.le_of_ble_eq_true rfl)) d_I_fieldFault_38 ⟨(by show 0 + 0 ≤ 0; omega), (by show 0 + 0 ≤ 0; omega)⟩) hP hD hS hA [0] [] rfl rfl (by decide) (by decide) (fun u18 H locs hu18 hP hD hS _hk => ?_)
        have hP : va_P (dC, dI) CL [(io, .inr (3, [.ref ba, .int (iI cn), .int (iI e1), .int (iI en), .int (iI bs), .int (iI ie), .int (iI fe)]))] H := hP
        have hD : va_D A [(io, .inr (3, [.ref ba, .int (iI cn), .int (iI e1), .int (iI en), .int (iI bs), .int (iI ie), .int (iI fe)]))] := hD
        exact fin () _ _ _ _ _ (by unfold flR; rw [if_pos hFA]) (by trivial) (by unfold flR; rw [if_pos hFA]; exact hP) (by unfold flR; rw [if_pos hFA]; exact hD) hS d_I_fieldFault_41
  · have _q := c1
    refine lv_iconst (v := iI 1) hx hb d_I_fieldFault_15 rfl ?_
    refine lv_goto (tgt := 20) hx hb d_I_fieldFault_16 (by decide) ?_
    refine lv_iload hx hb d_I_fieldFault_20 (lv_at hl 0 rfl) ?_
    refine lv_iconst (v := iI 1) hx hb d_I_fieldFault_22 rfl ?_
    refine li_icmp_ne (tgt := 30) hx hb d_I_fieldFault_23 (by decide) (by first | omega | (subst_vars; exact num5_r htb (by omega)) | (have h9 := num3_r (n := nb) htb (x := e1 + 7) (k := 5) (by omega); omega) | (have h9 := ffR_r (cn := cn) (st := st) (tb := tb) (b := true) (by omega) (by omega); omega) | (have h9 := ffR_r (cn := cn) (st := st) (tb := tb) (b := false) (by omega) (by omega); omega)) (by first | omega | (subst_vars; exact num5_r htb (by omega)) | (have h9 := num3_r (n := nb) htb (x := e1 + 7) (k := 5) (by omega); omega) | (have h9 := ffR_r (cn := cn) (st := st) (tb := tb) (b := true) (by omega) (by omega); omega) | (have h9 := ffR_r (cn := cn) (st := st) (tb := tb) (b := false) (by omega) (by omega); omega)) (fun c19 => ?_) (fun c19 => ?_)
    · have _q := c19
      refine lv_iconst (v := iI 0) hx hb d_I_fieldFault_30 rfl ?_
      refine li_icmp_eq (tgt := 42) hx hb d_I_fieldFault_31 (by decide) (by first | omega | (subst_vars; exact num5_r htb (by omega)) | (have h9 := num3_r (n := nb) htb (x := e1 + 7) (k := 5) (by omega); omega) | (have h9 := ffR_r (cn := cn) (st := st) (tb := tb) (b := true) (by omega) (by omega); omega) | (have h9 := ffR_r (cn := cn) (st := st) (tb := tb) (b := false) (by omega) (by omega); omega)) (by first | omega | (subst_vars; exact num5_r htb (by omega)) | (have h9 := num3_r (n := nb) htb (x := e1 + 7) (k := 5) (by omega); omega) | (have h9 := ffR_r (cn := cn) (st := st) (tb := tb) (b := true) (by omega) (by omega); omega) | (have h9 := ffR_r (cn := cn) (st := st) (tb := tb) (b := false) (by omega) (by omega); omega)) (fun c20 => ?_) (fun c20 => ?_)
      · have _q := c20
        exact absurd c20 (by omega)
      · have _q := c20
        have hFA : decide (k = 0) ≠ decide (numAt tb nb e1 3 = 1) := by rw [← etg]; simp_all
        refine lv_aload_n hx hb d_I_fieldFault_34 rfl (lv_at hl 1 rfl) ?_
        refine lv_bipush (v := iI (-7)) hx hb d_I_fieldFault_35 (by decide) ?_
        refine lv_iload_n hx hb d_I_fieldFault_37 rfl (lv_at hl 3 rfl) ?_
        refine li_callw (wc := [(io, .inr (3, [.ref ba, .int (iI cn), .int (iI fp), .int (iI en), .int (iI bs), .int (iI ie), .int (iI fe)]))]) (wr := []) (va_runV (As := [.int (iI (-7)), .int (iI e1)]) (rest := []) ⟨hx, hb, hml, hown, hts⟩ (c_I_fault l dC dI kA H.size io ba cn fp en bs ie fe (-7) e1 (by omega) (by first | omega | (have h9 := ffR_r (cn := cn) (st := st) (tb := tb) (b := true) (by omega) (by omega); omega) | (have h9 := ffR_r (cn := cn) (st := st) (tb := tb) (b := false) (by omega) (by omega); omega))) (cw_I_49 hts rfl rfl ⟨Nat.le_of_ble_eq_true rfl, Nat.le_of_ble_eq_true rfl⟩) (li_preV (va_recv hK hP (ci := 3) (q0 := 0) rfl rfl) ⟨rfl, hP.sub [0] rfl, (hD.sub [0] (by decide) rfl).weaken (fun _ _ _ h => hAN _ h), trivial⟩ hK hN (hG.go hS hAN)) rfl rfl hl.1 rfl (lv_room (Nat.le_of_ble_eq_true rfl)) d_I_fieldFault_38 ⟨(by show 0 + 0 ≤ 0; omega), (by show 0 + 0 ≤ 0; omega)⟩) hP hD hS hA [0] [] rfl rfl (by decide) (by decide) (fun u21 H locs hu21 hP hD hS _hk => ?_)
        have hP : va_P (dC, dI) CL [(io, .inr (3, [.ref ba, .int (iI cn), .int (iI e1), .int (iI en), .int (iI bs), .int (iI ie), .int (iI fe)]))] H := hP
        have hD : va_D A [(io, .inr (3, [.ref ba, .int (iI cn), .int (iI e1), .int (iI en), .int (iI bs), .int (iI ie), .int (iI fe)]))] := hD
        exact fin () _ _ _ _ _ (by unfold flR; rw [if_pos hFA]) (by trivial) (by unfold flR; rw [if_pos hFA]; exact hP) (by unfold flR; rw [if_pos hFA]; exact hD) hS d_I_fieldFault_41
    · have _q := c19
      refine lv_iconst (v := iI 1) hx hb d_I_fieldFault_26 rfl ?_
      refine lv_goto (tgt := 31) hx hb d_I_fieldFault_27 (by decide) ?_
      refine li_icmp_eq (tgt := 42) hx hb d_I_fieldFault_31 (by decide) (by first | omega | (subst_vars; exact num5_r htb (by omega)) | (have h9 := num3_r (n := nb) htb (x := e1 + 7) (k := 5) (by omega); omega) | (have h9 := ffR_r (cn := cn) (st := st) (tb := tb) (b := true) (by omega) (by omega); omega) | (have h9 := ffR_r (cn := cn) (st := st) (tb := tb) (b := false) (by omega) (by omega); omega)) (by first | omega | (subst_vars; exact num5_r htb (by omega)) | (have h9 := num3_r (n := nb) htb (x := e1 + 7) (k := 5) (by omega); omega) | (have h9 := ffR_r (cn := cn) (st := st) (tb := tb) (b := true) (by omega) (by omega); omega) | (have h9 := ffR_r (cn := cn) (st := st) (tb := tb) (b := false) (by omega) (by omega); omega)) (fun c22 => ?_) (fun c22 => ?_)
      · have _q := c22
        have hFA : ¬ (decide (k = 0) ≠ decide (numAt tb nb e1 3 = 1)) := by rw [← etg]; simp_all
        refine lv_aload_n hx hb d_I_fieldFault_42 rfl (lv_at hl 1 rfl) ?_
        refine gf_I_80 hx hb hts hown hK hP 0 rfl rfl d_I_fieldFault_43 ?_
        refine lv_aload_n hx hb d_I_fieldFault_46 rfl (lv_at hl 1 rfl) ?_
        refine gf_I_9 hx hb hts hown hK hP 0 rfl rfl d_I_fieldFault_47 ?_
        refine lv_iload_n hx hb d_I_fieldFault_50 rfl (lv_at hl 3 rfl) ?_
        refine lv_bipush (v := iI 7) hx hb d_I_fieldFault_51 (by decide) ?_
        refine li_iadd hx hb d_I_fieldFault_53 ?_
        refine lv_iconst (v := iI 5) hx hb d_I_fieldFault_54 rfl ?_
        refine li_callr ((va_runSN (As := [.ref ba, .int (iI (e1 + 7)), .int (iI 5)]) (rest := [.int (iI bs)]) ⟨hx, hb, hml, hown, hts⟩ (c_Q_numberAt l dC dI kA ba nb tb (e1 + 7) 5 (by omega) (by first | omega | (have h9 := ffR_r (cn := cn) (st := st) (tb := tb) (b := true) (by omega) (by omega); omega) | (have h9 := ffR_r (cn := cn) (st := st) (tb := tb) (b := false) (by omega) (by omega); omega)) (by omega)) (cw_I_52 hts hN rfl rfl ⟨Nat.le_of_ble_eq_true rfl, Nat.le_of_ble_eq_true rfl⟩) (li_preS ((li_ro hRo hRoN hS).sub [0] rfl) hK hN (hG.go hS hAN)) rfl rfl hl.1 rfl (lv_room (Nat.le_of_ble_eq_true rfl)) d_I_fieldFault_55 ⟨(by show 0 + 0 ≤ 0; omega), (by show 0 + 0 ≤ 0; omega)⟩).run) ?_
        refine li_iadd hx hb d_I_fieldFault_58 ?_
        refine lv_iload_n hx hb d_I_fieldFault_59 rfl (lv_at hl 4 rfl) ?_
        refine li_icmp_eq (tgt := 74) hx hb d_I_fieldFault_60 (by decide) (by first | omega | (subst_vars; exact num5_r htb (by omega)) | (have h9 := num3_r (n := nb) htb (x := e1 + 7) (k := 5) (by omega); omega) | (have h9 := ffR_r (cn := cn) (st := st) (tb := tb) (b := true) (by omega) (by omega); omega) | (have h9 := ffR_r (cn := cn) (st := st) (tb := tb) (b := false) (by omega) (by omega); omega)) (by first | omega | (subst_vars; exact num5_r htb (by omega)) | (have h9 := num3_r (n := nb) htb (x := e1 + 7) (k := 5) (by omega); omega) | (have h9 := ffR_r (cn := cn) (st := st) (tb := tb) (b := true) (by omega) (by omega); omega) | (have h9 := ffR_r (cn := cn) (st := st) (tb := tb) (b := false) (by omega) (by omega); omega)) (fun c23 => ?_) (fun c23 => ?_)
        · have _q := c23
          have hB : ¬ (bs + numAt tb nb (e1 + 7) 5 ≠ st) := by omega
          refine lv_aload_n hx hb d_I_fieldFault_74 rfl (lv_at hl 1 rfl) ?_
          refine lv_iload_n hx hb d_I_fieldFault_75 rfl (lv_at hl 4 rfl) ?_
          refine lv_iload hx hb d_I_fieldFault_76 (lv_at hl 0 rfl) ?_
          refine lv_bipush (v := iI 10) hx hb d_I_fieldFault_78 (by decide) ?_
          refine li_icmp_lt (tgt := 87) hx hb d_I_fieldFault_80 (by decide) (by first | omega | (subst_vars; exact num5_r htb (by omega)) | (have h9 := num3_r (n := nb) htb (x := e1 + 7) (k := 5) (by omega); omega) | (have h9 := ffR_r (cn := cn) (st := st) (tb := tb) (b := true) (by omega) (by omega); omega) | (have h9 := ffR_r (cn := cn) (st := st) (tb := tb) (b := false) (by omega) (by omega); omega)) (by first | omega | (subst_vars; exact num5_r htb (by omega)) | (have h9 := num3_r (n := nb) htb (x := e1 + 7) (k := 5) (by omega); omega) | (have h9 := ffR_r (cn := cn) (st := st) (tb := tb) (b := true) (by omega) (by omega); omega) | (have h9 := ffR_r (cn := cn) (st := st) (tb := tb) (b := false) (by omega) (by omega); omega)) (fun c24 => ?_) (fun c24 => ?_)
          · have _q := c24
            have hT : decide (10 ≤ numAt tb nb e1 3) = false := by rw [← etg]; exact decide_eq_false (by omega)
            refine lv_iconst (v := iI 0) hx hb d_I_fieldFault_87 rfl ?_
            refine li_callw (wc := [(io, .inr (3, [.ref ba, .int (iI cn), .int (iI fp), .int (iI en), .int (iI bs), .int (iI ie), .int (iI fe)]))]) (wr := []) (va_runV (As := [.int (iI st), .int (iI 0)]) (rest := []) ⟨hx, hb, hml, hown, hts⟩ (c_I_findFieldEnd l dC dI kA H.size io ba nb tb cn fp en bs ie fe st false (by exact hI) (by omega)) (cw_I_93 hts rfl rfl ⟨Nat.le_of_ble_eq_true rfl, Nat.le_of_ble_eq_true rfl⟩) (li_preV (va_recv hK hP (ci := 3) (q0 := 0) rfl rfl) ⟨rfl, hP.sub [0] rfl, (hD.sub [0] (by decide) rfl).weaken (fun _ _ _ h => hAN _ h), ((li_ro hRo hRoN hS).sub [0] rfl), (dj_cons (dj_r (hRoN 0 _ rfl) hD [0] rfl) dj_nil)⟩ hK hN (hG.go hS hAN)) rfl rfl hl.1 rfl (lv_room (Nat.le_of_ble_eq_true rfl)) d_I_fieldFault_88 ⟨(by show 0 + 0 ≤ 0; omega), (by show 0 + 0 ≤ 0; omega)⟩) hP hD hS hA [0] [] rfl rfl (by decide) (by decide) (fun u25 H locs hu25 hP hD hS _hk => ?_)
            have hP : va_P (dC, dI) CL [(io, .inr (3, [.ref ba, .int (iI cn), .int (iI fp), .int (iI en), .int (iI bs), .int (iI ie), .int (iI ((ffR tb cn st false).2))]))] H := hP
            have hD : va_D A [(io, .inr (3, [.ref ba, .int (iI cn), .int (iI fp), .int (iI en), .int (iI bs), .int (iI ie), .int (iI ((ffR tb cn st false).2))]))] := hD
            refine li_bnz (tgt := 105) hx hb d_I_fieldFault_91 (by decide) (fun c26 => ?_) (fun c26 => ?_)
            · have _q := c26
              refine lv_aload_n hx hb d_I_fieldFault_105 rfl (lv_at hl 1 rfl) ?_
              refine gf_I_9 hx hb hts hown hK hP 0 rfl rfl d_I_fieldFault_106 ?_
              refine lv_iload_n hx hb d_I_fieldFault_109 rfl (lv_at hl 3 rfl) ?_
              refine lv_iconst (v := iI 3) hx hb d_I_fieldFault_110 rfl ?_
              refine li_iadd hx hb d_I_fieldFault_111 ?_
              refine lv_iconst (v := iI 4) hx hb d_I_fieldFault_112 rfl ?_
              refine li_callr ((va_runSN (As := [.ref ba, .int (iI (e1 + 3)), .int (iI 4)]) (rest := []) ⟨hx, hb, hml, hown, hts⟩ (c_Q_numberAt l dC dI kA ba nb tb (e1 + 3) 4 (by omega) (by first | omega | (have h9 := ffR_r (cn := cn) (st := st) (tb := tb) (b := true) (by omega) (by omega); omega) | (have h9 := ffR_r (cn := cn) (st := st) (tb := tb) (b := false) (by omega) (by omega); omega)) (by omega)) (cw_I_52 hts hN rfl rfl ⟨Nat.le_of_ble_eq_true rfl, Nat.le_of_ble_eq_true rfl⟩) (li_preS ((li_ro hRo hRoN hS).sub [0] rfl) hK hN (hG.go hS hAN)) rfl rfl hl.1 rfl (lv_room (Nat.le_of_ble_eq_true rfl)) d_I_fieldFault_113 ⟨(by show 0 + 0 ≤ 0; omega), (by show 0 + 0 ≤ 0; omega)⟩).run) ?_
              refine lv_aload_n hx hb d_I_fieldFault_116 rfl (lv_at hl 1 rfl) ?_
              refine gf_I_83 hx hb hts hown hK hP 0 rfl rfl d_I_fieldFault_117 ?_
              refine lv_iconst (v := iI 1) hx hb d_I_fieldFault_120 rfl ?_
              refine li_iadd hx hb d_I_fieldFault_121 ?_
              refine lv_iload_n hx hb d_I_fieldFault_122 rfl (lv_at hl 4 rfl) ?_
              refine li_isub hx hb d_I_fieldFault_123 ?_
              refine li_icmp_eq (tgt := 137) hx hb d_I_fieldFault_124 (by decide) (by first | omega | (subst_vars; exact num5_r htb (by omega)) | (have h9 := num3_r (n := nb) htb (x := e1 + 7) (k := 5) (by omega); omega) | (have h9 := ffR_r (cn := cn) (st := st) (tb := tb) (b := true) (by omega) (by omega); omega) | (have h9 := ffR_r (cn := cn) (st := st) (tb := tb) (b := false) (by omega) (by omega); omega)) (by first | omega | (subst_vars; exact num5_r htb (by omega)) | (have h9 := num3_r (n := nb) htb (x := e1 + 7) (k := 5) (by omega); omega) | (have h9 := ffR_r (cn := cn) (st := st) (tb := tb) (b := true) (by omega) (by omega); omega) | (have h9 := ffR_r (cn := cn) (st := st) (tb := tb) (b := false) (by omega) (by omega); omega)) (fun c27 => ?_) (fun c27 => ?_)
              · have _q := c27
                refine lv_iconst (v := iI 0) hx hb d_I_fieldFault_137 rfl ?_
                exact fin () _ _ _ _ _ (by unfold flR; rw [if_neg hFA, if_neg hB, hT, if_neg (by simp_all), if_neg (fun q => q (by assumption))]) (by trivial) (by unfold flR; rw [if_neg hFA, if_neg hB, hT, if_neg (by simp_all), if_neg (fun q => q (by assumption))]; exact hP) (by unfold flR; rw [if_neg hFA, if_neg hB, hT, if_neg (by simp_all), if_neg (fun q => q (by assumption))]; exact hD) hS d_I_fieldFault_138
              · have _q := c27
                refine lv_aload_n hx hb d_I_fieldFault_127 rfl (lv_at hl 1 rfl) ?_
                refine lv_bipush (v := iI (-6)) hx hb d_I_fieldFault_128 (by decide) ?_
                refine lv_iload_n hx hb d_I_fieldFault_130 rfl (lv_at hl 3 rfl) ?_
                refine lv_iconst (v := iI 3) hx hb d_I_fieldFault_131 rfl ?_
                refine li_iadd hx hb d_I_fieldFault_132 ?_
                refine li_callw (wc := [(io, .inr (3, [.ref ba, .int (iI cn), .int (iI fp), .int (iI en), .int (iI bs), .int (iI ie), .int (iI ((ffR tb cn st false).2))]))]) (wr := []) (va_runV (As := [.int (iI (-6)), .int (iI (e1 + 3))]) (rest := []) ⟨hx, hb, hml, hown, hts⟩ (c_I_fault l dC dI kA H.size io ba cn fp en bs ie ((ffR tb cn st false).2) (-6) (e1 + 3) (by omega) (by first | omega | (have h9 := ffR_r (cn := cn) (st := st) (tb := tb) (b := true) (by omega) (by omega); omega) | (have h9 := ffR_r (cn := cn) (st := st) (tb := tb) (b := false) (by omega) (by omega); omega))) (cw_I_49 hts rfl rfl ⟨Nat.le_of_ble_eq_true rfl, Nat.le_of_ble_eq_true rfl⟩) (li_preV (va_recv hK hP (ci := 3) (q0 := 0) rfl rfl) ⟨rfl, hP.sub [0] rfl, (hD.sub [0] (by decide) rfl).weaken (fun _ _ _ h => hAN _ h), trivial⟩ hK hN (hG.go hS hAN)) rfl rfl hl.1 rfl (lv_room (Nat.le_of_ble_eq_true rfl)) d_I_fieldFault_133 ⟨(by show 0 + 0 ≤ 0; omega), (by show 0 + 0 ≤ 0; omega)⟩) hP hD hS hA [0] [] rfl rfl (by decide) (by decide) (fun u28 H locs hu28 hP hD hS _hk => ?_)
                have hP : va_P (dC, dI) CL [(io, .inr (3, [.ref ba, .int (iI cn), .int (iI (e1 + 3)), .int (iI en), .int (iI bs), .int (iI ie), .int (iI ((ffR tb cn st false).2))]))] H := hP
                have hD : va_D A [(io, .inr (3, [.ref ba, .int (iI cn), .int (iI (e1 + 3)), .int (iI en), .int (iI bs), .int (iI ie), .int (iI ((ffR tb cn st false).2))]))] := hD
                exact fin () _ _ _ _ _ (by unfold flR; rw [if_neg hFA, if_neg hB, hT, if_neg (by simp_all), if_pos (by assumption)]) (by trivial) (by unfold flR; rw [if_neg hFA, if_neg hB, hT, if_neg (by simp_all), if_pos (by assumption)]; exact hP) (by unfold flR; rw [if_neg hFA, if_neg hB, hT, if_neg (by simp_all), if_pos (by assumption)]; exact hD) hS d_I_fieldFault_136
            · have _q := c26
              refine lv_aload_n hx hb d_I_fieldFault_94 rfl (lv_at hl 1 rfl) ?_
              refine lv_bipush (v := iI (-5)) hx hb d_I_fieldFault_95 (by decide) ?_
              refine lv_aload_n hx hb d_I_fieldFault_97 rfl (lv_at hl 1 rfl) ?_
              refine gf_I_83 hx hb hts hown hK hP 0 rfl rfl d_I_fieldFault_98 ?_
              refine li_callw (wc := [(io, .inr (3, [.ref ba, .int (iI cn), .int (iI fp), .int (iI en), .int (iI bs), .int (iI ie), .int (iI ((ffR tb cn st false).2))]))]) (wr := []) (va_runV (As := [.int (iI (-5)), .int (iI ((ffR tb cn st false).2))]) (rest := []) ⟨hx, hb, hml, hown, hts⟩ (c_I_fault l dC dI kA H.size io ba cn fp en bs ie ((ffR tb cn st false).2) (-5) ((ffR tb cn st false).2) (by omega) (by first | omega | (have h9 := ffR_r (cn := cn) (st := st) (tb := tb) (b := true) (by omega) (by omega); omega) | (have h9 := ffR_r (cn := cn) (st := st) (tb := tb) (b := false) (by omega) (by omega); omega))) (cw_I_49 hts rfl rfl ⟨Nat.le_of_ble_eq_true rfl, Nat.le_of_ble_eq_true rfl⟩) (li_preV (va_recv hK hP (ci := 3) (q0 := 0) rfl rfl) ⟨rfl, hP.sub [0] rfl, (hD.sub [0] (by decide) rfl).weaken (fun _ _ _ h => hAN _ h), trivial⟩ hK hN (hG.go hS hAN)) rfl rfl hl.1 rfl (lv_room (Nat.le_of_ble_eq_true rfl)) d_I_fieldFault_101 ⟨(by show 0 + 0 ≤ 0; omega), (by show 0 + 0 ≤ 0; omega)⟩) hP hD hS hA [0] [] rfl rfl (by decide) (by decide) (fun u29 H locs hu29 hP hD hS _hk => ?_)
              have hP : va_P (dC, dI) CL [(io, .inr (3, [.ref ba, .int (iI cn), .int (iI ((ffR tb cn st false).2)), .int (iI en), .int (iI bs), .int (iI ie), .int (iI ((ffR tb cn st false).2))]))] H := hP
              have hD : va_D A [(io, .inr (3, [.ref ba, .int (iI cn), .int (iI ((ffR tb cn st false).2)), .int (iI en), .int (iI bs), .int (iI ie), .int (iI ((ffR tb cn st false).2))]))] := hD
              exact fin () _ _ _ _ _ (by unfold flR; rw [if_neg hFA, if_neg hB, hT, if_pos (by assumption)]) (by trivial) (by unfold flR; rw [if_neg hFA, if_neg hB, hT, if_pos (by assumption)]; exact hP) (by unfold flR; rw [if_neg hFA, if_neg hB, hT, if_pos (by assumption)]; exact hD) hS d_I_fieldFault_104
          · have _q := c24
            have hT : decide (10 ≤ numAt tb nb e1 3) = true := by rw [← etg]; exact decide_eq_true (by omega)
            refine lv_iconst (v := iI 1) hx hb d_I_fieldFault_83 rfl ?_
            refine lv_goto (tgt := 88) hx hb d_I_fieldFault_84 (by decide) ?_
            refine li_callw (wc := [(io, .inr (3, [.ref ba, .int (iI cn), .int (iI fp), .int (iI en), .int (iI bs), .int (iI ie), .int (iI fe)]))]) (wr := []) (va_runV (As := [.int (iI st), .int (iI 1)]) (rest := []) ⟨hx, hb, hml, hown, hts⟩ (c_I_findFieldEnd l dC dI kA H.size io ba nb tb cn fp en bs ie fe st true (by exact hI) (by omega)) (cw_I_93 hts rfl rfl ⟨Nat.le_of_ble_eq_true rfl, Nat.le_of_ble_eq_true rfl⟩) (li_preV (va_recv hK hP (ci := 3) (q0 := 0) rfl rfl) ⟨rfl, hP.sub [0] rfl, (hD.sub [0] (by decide) rfl).weaken (fun _ _ _ h => hAN _ h), ((li_ro hRo hRoN hS).sub [0] rfl), (dj_cons (dj_r (hRoN 0 _ rfl) hD [0] rfl) dj_nil)⟩ hK hN (hG.go hS hAN)) rfl rfl hl.1 rfl (lv_room (Nat.le_of_ble_eq_true rfl)) d_I_fieldFault_88 ⟨(by show 0 + 0 ≤ 0; omega), (by show 0 + 0 ≤ 0; omega)⟩) hP hD hS hA [0] [] rfl rfl (by decide) (by decide) (fun u30 H locs hu30 hP hD hS _hk => ?_)
            have hP : va_P (dC, dI) CL [(io, .inr (3, [.ref ba, .int (iI cn), .int (iI fp), .int (iI en), .int (iI bs), .int (iI ie), .int (iI ((ffR tb cn st true).2))]))] H := hP
            have hD : va_D A [(io, .inr (3, [.ref ba, .int (iI cn), .int (iI fp), .int (iI en), .int (iI bs), .int (iI ie), .int (iI ((ffR tb cn st true).2))]))] := hD
            refine li_bnz (tgt := 105) hx hb d_I_fieldFault_91 (by decide) (fun c31 => ?_) (fun c31 => ?_)
            · have _q := c31
              refine lv_aload_n hx hb d_I_fieldFault_105 rfl (lv_at hl 1 rfl) ?_
              refine gf_I_9 hx hb hts hown hK hP 0 rfl rfl d_I_fieldFault_106 ?_
              refine lv_iload_n hx hb d_I_fieldFault_109 rfl (lv_at hl 3 rfl) ?_
              refine lv_iconst (v := iI 3) hx hb d_I_fieldFault_110 rfl ?_
              refine li_iadd hx hb d_I_fieldFault_111 ?_
              refine lv_iconst (v := iI 4) hx hb d_I_fieldFault_112 rfl ?_
              refine li_callr ((va_runSN (As := [.ref ba, .int (iI (e1 + 3)), .int (iI 4)]) (rest := []) ⟨hx, hb, hml, hown, hts⟩ (c_Q_numberAt l dC dI kA ba nb tb (e1 + 3) 4 (by omega) (by first | omega | (have h9 := ffR_r (cn := cn) (st := st) (tb := tb) (b := true) (by omega) (by omega); omega) | (have h9 := ffR_r (cn := cn) (st := st) (tb := tb) (b := false) (by omega) (by omega); omega)) (by omega)) (cw_I_52 hts hN rfl rfl ⟨Nat.le_of_ble_eq_true rfl, Nat.le_of_ble_eq_true rfl⟩) (li_preS ((li_ro hRo hRoN hS).sub [0] rfl) hK hN (hG.go hS hAN)) rfl rfl hl.1 rfl (lv_room (Nat.le_of_ble_eq_true rfl)) d_I_fieldFault_113 ⟨(by show 0 + 0 ≤ 0; omega), (by show 0 + 0 ≤ 0; omega)⟩).run) ?_
              refine lv_aload_n hx hb d_I_fieldFault_116 rfl (lv_at hl 1 rfl) ?_
              refine gf_I_83 hx hb hts hown hK hP 0 rfl rfl d_I_fieldFault_117 ?_
              refine lv_iconst (v := iI 1) hx hb d_I_fieldFault_120 rfl ?_
              refine li_iadd hx hb d_I_fieldFault_121 ?_
              refine lv_iload_n hx hb d_I_fieldFault_122 rfl (lv_at hl 4 rfl) ?_
              refine li_isub hx hb d_I_fieldFault_123 ?_
              refine li_icmp_eq (tgt := 137) hx hb d_I_fieldFault_124 (by decide) (by first | omega | (subst_vars; exact num5_r htb (by omega)) | (have h9 := num3_r (n := nb) htb (x := e1 + 7) (k := 5) (by omega); omega) | (have h9 := ffR_r (cn := cn) (st := st) (tb := tb) (b := true) (by omega) (by omega); omega) | (have h9 := ffR_r (cn := cn) (st := st) (tb := tb) (b := false) (by omega) (by omega); omega)) (by first | omega | (subst_vars; exact num5_r htb (by omega)) | (have h9 := num3_r (n := nb) htb (x := e1 + 7) (k := 5) (by omega); omega) | (have h9 := ffR_r (cn := cn) (st := st) (tb := tb) (b := true) (by omega) (by omega); omega) | (have h9 := ffR_r (cn := cn) (st := st) (tb := tb) (b := false) (by omega) (by omega); omega)) (fun c32 => ?_) (fun c32 => ?_)
              · have _q := c32
                refine lv_iconst (v := iI 0) hx hb d_I_fieldFault_137 rfl ?_
                exact fin () _ _ _ _ _ (by unfold flR; rw [if_neg hFA, if_neg hB, hT, if_neg (by simp_all), if_neg (fun q => q (by assumption))]) (by trivial) (by unfold flR; rw [if_neg hFA, if_neg hB, hT, if_neg (by simp_all), if_neg (fun q => q (by assumption))]; exact hP) (by unfold flR; rw [if_neg hFA, if_neg hB, hT, if_neg (by simp_all), if_neg (fun q => q (by assumption))]; exact hD) hS d_I_fieldFault_138
              · have _q := c32
                refine lv_aload_n hx hb d_I_fieldFault_127 rfl (lv_at hl 1 rfl) ?_
                refine lv_bipush (v := iI (-6)) hx hb d_I_fieldFault_128 (by decide) ?_
                refine lv_iload_n hx hb d_I_fieldFault_130 rfl (lv_at hl 3 rfl) ?_
                refine lv_iconst (v := iI 3) hx hb d_I_fieldFault_131 rfl ?_
                refine li_iadd hx hb d_I_fieldFault_132 ?_
                refine li_callw (wc := [(io, .inr (3, [.ref ba, .int (iI cn), .int (iI fp), .int (iI en), .int (iI bs), .int (iI ie), .int (iI ((ffR tb cn st true).2))]))]) (wr := []) (va_runV (As := [.int (iI (-6)), .int (iI (e1 + 3))]) (rest := []) ⟨hx, hb, hml, hown, hts⟩ (c_I_fault l dC dI kA H.size io ba cn fp en bs ie ((ffR tb cn st true).2) (-6) (e1 + 3) (by omega) (by first | omega | (have h9 := ffR_r (cn := cn) (st := st) (tb := tb) (b := true) (by omega) (by omega); omega) | (have h9 := ffR_r (cn := cn) (st := st) (tb := tb) (b := false) (by omega) (by omega); omega))) (cw_I_49 hts rfl rfl ⟨Nat.le_of_ble_eq_true rfl, Nat.le_of_ble_eq_true rfl⟩) (li_preV (va_recv hK hP (ci := 3) (q0 := 0) rfl rfl) ⟨rfl, hP.sub [0] rfl, (hD.sub [0] (by decide) rfl).weaken (fun _ _ _ h => hAN _ h), trivial⟩ hK hN (hG.go hS hAN)) rfl rfl hl.1 rfl (lv_room (Nat.le_of_ble_eq_true rfl)) d_I_fieldFault_133 ⟨(by show 0 + 0 ≤ 0; omega), (by show 0 + 0 ≤ 0; omega)⟩) hP hD hS hA [0] [] rfl rfl (by decide) (by decide) (fun u33 H locs hu33 hP hD hS _hk => ?_)
                have hP : va_P (dC, dI) CL [(io, .inr (3, [.ref ba, .int (iI cn), .int (iI (e1 + 3)), .int (iI en), .int (iI bs), .int (iI ie), .int (iI ((ffR tb cn st true).2))]))] H := hP
                have hD : va_D A [(io, .inr (3, [.ref ba, .int (iI cn), .int (iI (e1 + 3)), .int (iI en), .int (iI bs), .int (iI ie), .int (iI ((ffR tb cn st true).2))]))] := hD
                exact fin () _ _ _ _ _ (by unfold flR; rw [if_neg hFA, if_neg hB, hT, if_neg (by simp_all), if_pos (by assumption)]) (by trivial) (by unfold flR; rw [if_neg hFA, if_neg hB, hT, if_neg (by simp_all), if_pos (by assumption)]; exact hP) (by unfold flR; rw [if_neg hFA, if_neg hB, hT, if_neg (by simp_all), if_pos (by assumption)]; exact hD) hS d_I_fieldFault_136
            · have _q := c31
              refine lv_aload_n hx hb d_I_fieldFault_94 rfl (lv_at hl 1 rfl) ?_
              refine lv_bipush (v := iI (-5)) hx hb d_I_fieldFault_95 (by decide) ?_
              refine lv_aload_n hx hb d_I_fieldFault_97 rfl (lv_at hl 1 rfl) ?_
              refine gf_I_83 hx hb hts hown hK hP 0 rfl rfl d_I_fieldFault_98 ?_
              refine li_callw (wc := [(io, .inr (3, [.ref ba, .int (iI cn), .int (iI fp), .int (iI en), .int (iI bs), .int (iI ie), .int (iI ((ffR tb cn st true).2))]))]) (wr := []) (va_runV (As := [.int (iI (-5)), .int (iI ((ffR tb cn st true).2))]) (rest := []) ⟨hx, hb, hml, hown, hts⟩ (c_I_fault l dC dI kA H.size io ba cn fp en bs ie ((ffR tb cn st true).2) (-5) ((ffR tb cn st true).2) (by omega) (by first | omega | (have h9 := ffR_r (cn := cn) (st := st) (tb := tb) (b := true) (by omega) (by omega); omega) | (have h9 := ffR_r (cn := cn) (st := st) (tb := tb) (b := false) (by omega) (by omega); omega))) (cw_I_49 hts rfl rfl ⟨Nat.le_of_ble_eq_true rfl, Nat.le_of_ble_eq_true rfl⟩) (li_preV (va_recv hK hP (ci := 3) (q0 := 0) rfl rfl) ⟨rfl, hP.sub [0] rfl, (hD.sub [0] (by decide) rfl).weaken (fun _ _ _ h => hAN _ h), trivial⟩ hK hN (hG.go hS hAN)) rfl rfl hl.1 rfl (lv_room (Nat.le_of_ble_eq_true rfl)) d_I_fieldFault_101 ⟨(by show 0 + 0 ≤ 0; omega), (by show 0 + 0 ≤ 0; omega)⟩) hP hD hS hA [0] [] rfl rfl (by decide) (by decide) (fun u34 H locs hu34 hP hD hS _hk => ?_)
              have hP : va_P (dC, dI) CL [(io, .inr (3, [.ref ba, .int (iI cn), .int (iI ((ffR tb cn st true).2)), .int (iI en), .int (iI bs), .int (iI ie), .int (iI ((ffR tb cn st true).2))]))] H := hP
              have hD : va_D A [(io, .inr (3, [.ref ba, .int (iI cn), .int (iI ((ffR tb cn st true).2)), .int (iI en), .int (iI bs), .int (iI ie), .int (iI ((ffR tb cn st true).2))]))] := hD
              exact fin () _ _ _ _ _ (by unfold flR; rw [if_neg hFA, if_neg hB, hT, if_pos (by assumption)]) (by trivial) (by unfold flR; rw [if_neg hFA, if_neg hB, hT, if_pos (by assumption)]; exact hP) (by unfold flR; rw [if_neg hFA, if_neg hB, hT, if_pos (by assumption)]; exact hD) hS d_I_fieldFault_104
        · have _q := c23
          have hB : bs + numAt tb nb (e1 + 7) 5 ≠ st := by omega
          refine lv_aload_n hx hb d_I_fieldFault_63 rfl (lv_at hl 1 rfl) ?_
          refine lv_bipush (v := iI (-6)) hx hb d_I_fieldFault_64 (by decide) ?_
          refine lv_iload_n hx hb d_I_fieldFault_66 rfl (lv_at hl 3 rfl) ?_
          refine lv_bipush (v := iI 7) hx hb d_I_fieldFault_67 (by decide) ?_
          refine li_iadd hx hb d_I_fieldFault_69 ?_
          refine li_callw (wc := [(io, .inr (3, [.ref ba, .int (iI cn), .int (iI fp), .int (iI en), .int (iI bs), .int (iI ie), .int (iI fe)]))]) (wr := []) (va_runV (As := [.int (iI (-6)), .int (iI (e1 + 7))]) (rest := []) ⟨hx, hb, hml, hown, hts⟩ (c_I_fault l dC dI kA H.size io ba cn fp en bs ie fe (-6) (e1 + 7) (by omega) (by first | omega | (have h9 := ffR_r (cn := cn) (st := st) (tb := tb) (b := true) (by omega) (by omega); omega) | (have h9 := ffR_r (cn := cn) (st := st) (tb := tb) (b := false) (by omega) (by omega); omega))) (cw_I_49 hts rfl rfl ⟨Nat.le_of_ble_eq_true rfl, Nat.le_of_ble_eq_true rfl⟩) (li_preV (va_recv hK hP (ci := 3) (q0 := 0) rfl rfl) ⟨rfl, hP.sub [0] rfl, (hD.sub [0] (by decide) rfl).weaken (fun _ _ _ h => hAN _ h), trivial⟩ hK hN (hG.go hS hAN)) rfl rfl hl.1 rfl (lv_room (Nat.le_of_ble_eq_true rfl)) d_I_fieldFault_70 ⟨(by show 0 + 0 ≤ 0; omega), (by show 0 + 0 ≤ 0; omega)⟩) hP hD hS hA [0] [] rfl rfl (by decide) (by decide) (fun u35 H locs hu35 hP hD hS _hk => ?_)
          have hP : va_P (dC, dI) CL [(io, .inr (3, [.ref ba, .int (iI cn), .int (iI (e1 + 7)), .int (iI en), .int (iI bs), .int (iI ie), .int (iI fe)]))] H := hP
          have hD : va_D A [(io, .inr (3, [.ref ba, .int (iI cn), .int (iI (e1 + 7)), .int (iI en), .int (iI bs), .int (iI ie), .int (iI fe)]))] := hD
          exact fin () _ _ _ _ _ (by unfold flR; rw [if_neg hFA, if_pos hB]) (by trivial) (by unfold flR; rw [if_neg hFA, if_pos hB]; exact hP) (by unfold flR; rw [if_neg hFA, if_pos hB]; exact hD) hS d_I_fieldFault_73
      · have _q := c22
        exact absurd c22 (by omega)
theorem d_I_fieldsFault_0 : decode b_I_fieldsFault 0 = .ok (.aload_n 0, 1) := by decide +kernel
theorem d_I_fieldsFault_1 : decode b_I_fieldsFault 1 = .ok (.aload_n 0, 1) := by decide +kernel
theorem d_I_fieldsFault_2 : decode b_I_fieldsFault 2 = .ok (.getfield 80, 3) := by decide +kernel
theorem d_I_fieldsFault_5 : decode b_I_fieldsFault 5 = .ok (.iconst 1, 1) := by decide +kernel
theorem d_I_fieldsFault_6 : decode b_I_fieldsFault 6 = .ok (.isub, 1) := by decide +kernel
theorem d_I_fieldsFault_7 : decode b_I_fieldsFault 7 = .ok (.putfield 83, 3) := by decide +kernel
theorem d_I_fieldsFault_10 : decode b_I_fieldsFault 10 = .ok (.iconst 0, 1) := by decide +kernel
theorem d_I_fieldsFault_11 : decode b_I_fieldsFault 11 = .ok (.istore_n 1, 1) := by decide +kernel
theorem d_I_fieldsFault_12 : decode b_I_fieldsFault 12 = .ok (.iload_n 1, 1) := by decide +kernel
theorem d_I_fieldsFault_13 : decode b_I_fieldsFault 13 = .ok (.aload_n 0, 1) := by decide +kernel
theorem d_I_fieldsFault_14 : decode b_I_fieldsFault 14 = .ok (.getfield 77, 3) := by decide +kernel
theorem d_I_fieldsFault_17 : decode b_I_fieldsFault 17 = .ok (.if_icmp .ge 46, 3) := by decide +kernel
theorem d_I_fieldsFault_20 : decode b_I_fieldsFault 20 = .ok (.aload_n 0, 1) := by decide +kernel
theorem d_I_fieldsFault_21 : decode b_I_fieldsFault 21 = .ok (.iload_n 1, 1) := by decide +kernel
theorem d_I_fieldsFault_22 : decode b_I_fieldsFault 22 = .ok (.bipush 24, 2) := by decide +kernel
theorem d_I_fieldsFault_24 : decode b_I_fieldsFault 24 = .ok (.iload_n 1, 1) := by decide +kernel
theorem d_I_fieldsFault_25 : decode b_I_fieldsFault 25 = .ok (.bipush 12, 2) := by decide +kernel
theorem d_I_fieldsFault_27 : decode b_I_fieldsFault 27 = .ok (.imul, 1) := by decide +kernel
theorem d_I_fieldsFault_28 : decode b_I_fieldsFault 28 = .ok (.iadd, 1) := by decide +kernel
theorem d_I_fieldsFault_29 : decode b_I_fieldsFault 29 = .ok (.aload_n 0, 1) := by decide +kernel
theorem d_I_fieldsFault_30 : decode b_I_fieldsFault 30 = .ok (.getfield 83, 3) := by decide +kernel
theorem d_I_fieldsFault_33 : decode b_I_fieldsFault 33 = .ok (.iconst 1, 1) := by decide +kernel
theorem d_I_fieldsFault_34 : decode b_I_fieldsFault 34 = .ok (.iadd, 1) := by decide +kernel
theorem d_I_fieldsFault_35 : decode b_I_fieldsFault 35 = .ok (.invokevirtual 86, 3) := by decide +kernel
theorem d_I_fieldsFault_38 : decode b_I_fieldsFault 38 = .ok (.istore_n 2, 1) := by decide +kernel
theorem d_I_fieldsFault_39 : decode b_I_fieldsFault 39 = .ok (.iload_n 2, 1) := by decide +kernel
theorem d_I_fieldsFault_40 : decode b_I_fieldsFault 40 = .ok (.ifCond .eq 5, 3) := by decide +kernel
theorem d_I_fieldsFault_43 : decode b_I_fieldsFault 43 = .ok (.iload_n 2, 1) := by decide +kernel
theorem d_I_fieldsFault_44 : decode b_I_fieldsFault 44 = .ok (.ireturn, 1) := by decide +kernel
theorem d_I_fieldsFault_45 : decode b_I_fieldsFault 45 = .ok (.iload_n 1, 1) := by decide +kernel
theorem d_I_fieldsFault_46 : decode b_I_fieldsFault 46 = .ok (.ifCond .ne 11, 3) := by decide +kernel
theorem d_I_fieldsFault_49 : decode b_I_fieldsFault 49 = .ok (.aload_n 0, 1) := by decide +kernel
theorem d_I_fieldsFault_50 : decode b_I_fieldsFault 50 = .ok (.aload_n 0, 1) := by decide +kernel
theorem d_I_fieldsFault_51 : decode b_I_fieldsFault 51 = .ok (.getfield 83, 3) := by decide +kernel
theorem d_I_fieldsFault_54 : decode b_I_fieldsFault 54 = .ok (.putfield 90, 3) := by decide +kernel
theorem d_I_fieldsFault_57 : decode b_I_fieldsFault 57 = .ok (.iinc 1 1, 3) := by decide +kernel
theorem d_I_fieldsFault_60 : decode b_I_fieldsFault 60 = .ok (.goto (-48), 3) := by decide +kernel
theorem d_I_fieldsFault_63 : decode b_I_fieldsFault 63 = .ok (.iconst 0, 1) := by decide +kernel
theorem d_I_fieldsFault_64 : decode b_I_fieldsFault 64 = .ok (.ireturn, 1) := by decide +kernel
set_option maxHeartbeats 4000000 in
set_option maxRecDepth 100000 in
theorem c_I_fieldsFault (l : Launch) (dC : Nat → ClassId) (dI : Nat → Nat → Nat) (kA : Nat → ClassId) (sz : Nat) (io : Nat) (ba : Nat) (nb : Nat) (tb : Nat → Int) (cn : Int) (fp : Int) (en : Int) (bs : Int) (ie : Int) (fe : Int) (hI : IR nb tb cn) (hbs : 1 ≤ bs ∧ bs ≤ cn) (hen : 0 ≤ en ∧ en ≤ 81) : Met l y_I_fieldsFault (wsy y_I_fieldsFault b_I_fieldsFault 3 (some .int)) (rmd 4 0 0) (li_Pr (dC, dI) CL (TY kA) [.ref io] (fun h => h.size = sz ∧ va_P (dC, dI) CL [(io, .inr (3, [.ref ba, .int (iI cn), .int (iI fp), .int (iI en), .int (iI bs), .int (iI ie), .int (iI fe)]))] h ∧ va_D (fun q => dI 100 0 ≤ q) [(io, .inr (3, [.ref ba, .int (iI cn), .int (iI fp), .int (iI en), .int (iI bs), .int (iI ie), .int (iI fe)]))] ∧ (fun h => va_P (dC, dI) CL [(ba, .inl (kA 1, nb, .inl (aI tb)))] h ∧ Dsj [(ba, .inl (kA 1, nb, .inl (aI tb)))] [(io, .inr (3, [.ref ba, .int (iI cn), .int (iI fp), .int (iI en), .int (iI bs), .int (iI ie), .int (iI fe)]))]) h)) (li_Qw (S := Unit) (dC, dI) CL (fun _ => True) (fun _ => some (.int (iI ((fdR tb nb cn fp en bs ie).1)))) (fun _ => [(io, .inr (3, [.ref ba, .int (iI cn), .int (iI ((fdR tb nb cn fp en bs ie).2.1)), .int (iI en), .int (iI bs), .int (iI ((fdR tb nb cn fp en bs ie).2.2.1)), .int (iI ((fdR tb nb cn fp en bs ie).2.2.2))]))]) (va_A [(io, .inr (3, [.ref ba, .int (iI cn), .int (iI fp), .int (iI en), .int (iI bs), .int (iI ie), .int (iI fe)]))] sz)) 0 0 (va_A [(io, .inr (3, [.ref ba, .int (iI cn), .int (iI fp), .int (iI en), .int (iI bs), .int (iI ie), .int (iI fe)]))] sz) := by
  refine li_mwi (r := fun _ => (fdR tb nb cn fp en bs ie).1) (by decide) (Nat.le_of_ble_eq_true rfl) (fun _ _ => by rfl) ?_
  intro p e s m args below meth c Q A C hP hD hBx hK hN hG hA hAi hAN fin ls hl
  obtain ⟨hx, hb, hr, hml, hown, hts, hlocks, hin⟩ := C
  have hown : s.vm.findClass R_I = some m.cls := hown
  obtain ⟨hRo, hDj⟩ := hBx
  have hRo : va_P (dC, dI) CL [(ba, .inl (kA 1, nb, .inl (aI tb)))] s.heap := hRo
  have hRoN := li_roN (A := A) hRo hDj hAi
  have hl : lv_has ls 3 [(0, .ref io)] := hl
  obtain ⟨hnb, hcn, htb⟩ := id hI
  have K_12 : ∀ (nn : Nat) (i : Int) (vp : Int) (vi : Int) (ve : Int), (0 ≤ i ∧ i ≤ en) → (0 ≤ ve ∧ ve ≤ cn) → (fdL tb nb cn bs (en - i).toNat i (vp, vi, ve) = fdR tb nb cn fp en bs ie) → ((en - i).toNat < nn) → ∀ (H : Heap) (locs : List Loc), va_P (dC, dI) CL [(io, .inr (3, [.ref ba, .int (iI cn), .int (iI vp), .int (iI en), .int (iI bs), .int (iI vi), .int (iI ve)]))] H → va_D A [(io, .inr (3, [.ref ba, .int (iI cn), .int (iI vp), .int (iI en), .int (iI bs), .int (iI vi), .int (iI ve)]))] → va_S A s.heap H locs → ∀ ls : Array Slot, lv_has ls 3 [(0, .ref io), (1, .int (iI i))] → W p l e (rmd 4 0 0) s m args below meth c H locs 0 0 Q (F0 m 12 ls []) := by
    intro nn
    induction nn with
    | zero => intro i vp vi ve hi9 hve hres hm; exact absurd hm (Nat.not_lt_zero _)
    | succ nn ih =>
      intro i vp vi ve hi9 hve hres hm H locs hP hD hS ls hl
      refine lv_iload_n hx hb d_I_fieldsFault_12 rfl (lv_at hl 1 rfl) ?_
      refine lv_aload_n hx hb d_I_fieldsFault_13 rfl (lv_at hl 0 rfl) ?_
      refine gf_I_77 hx hb hts hown hK hP 0 rfl rfl d_I_fieldsFault_14 ?_
      refine li_icmp_ge (tgt := 63) hx hb d_I_fieldsFault_17 (by decide) (by omega) (by omega) (fun c1 => ?_) (fun c1 => ?_)
      · have _q := c1
        have hf9 : fdR tb nb cn fp en bs ie = (0, vp, vi, ve) := by rw [← hres, show (en - i).toNat = 0 by omega]; rfl
        refine lv_iconst (v := iI 0) hx hb d_I_fieldsFault_63 rfl ?_
        exact fin () _ _ _ _ _ (by first | (rw [hf9]; done) | (rw [hf9]; exact err)) (by trivial) (by rw [hf9]; exact hP) (by rw [hf9]; exact hD) hS d_I_fieldsFault_64
      · have _q := c1
        refine lv_aload_n hx hb d_I_fieldsFault_20 rfl (lv_at hl 0 rfl) ?_
        refine lv_iload_n hx hb d_I_fieldsFault_21 rfl (lv_at hl 1 rfl) ?_
        refine lv_bipush (v := iI 24) hx hb d_I_fieldsFault_22 (by decide) ?_
        refine lv_iload_n hx hb d_I_fieldsFault_24 rfl (lv_at hl 1 rfl) ?_
        refine lv_bipush (v := iI 12) hx hb d_I_fieldsFault_25 (by decide) ?_
        refine li_imul hx hb d_I_fieldsFault_27 ?_
        refine li_iadd hx hb d_I_fieldsFault_28 ?_
        refine lv_aload_n hx hb d_I_fieldsFault_29 rfl (lv_at hl 0 rfl) ?_
        refine gf_I_83 hx hb hts hown hK hP 0 rfl rfl d_I_fieldsFault_30 ?_
        refine lv_iconst (v := iI 1) hx hb d_I_fieldsFault_33 rfl ?_
        refine li_iadd hx hb d_I_fieldsFault_34 ?_
        refine li_callw (wc := [(io, .inr (3, [.ref ba, .int (iI cn), .int (iI vp), .int (iI en), .int (iI bs), .int (iI vi), .int (iI ve)]))]) (wr := []) (va_runV (As := [.int (iI i), .int (iI (24 + (i * 12))), .int (iI (ve + 1))]) (rest := []) ⟨hx, hb, hml, hown, hts⟩ (c_I_fieldFault l dC dI kA H.size io ba nb tb cn vp en bs vi ve i (24 + (i * 12)) (ve + 1) (by exact hI) (by omega) (by omega) (by omega) (by omega)) (cw_I_86 hts rfl rfl ⟨Nat.le_of_ble_eq_true rfl, Nat.le_of_ble_eq_true rfl⟩) (li_preV (va_recv hK hP (ci := 3) (q0 := 0) rfl rfl) ⟨rfl, hP.sub [0] rfl, (hD.sub [0] (by decide) rfl).weaken (fun _ _ _ h => hAN _ h), ((li_ro hRo hRoN hS).sub [0] rfl), (dj_cons (dj_r (hRoN 0 _ rfl) hD [0] rfl) dj_nil)⟩ hK hN (hG.go hS hAN)) rfl rfl hl.1 rfl (lv_room (Nat.le_of_ble_eq_true rfl)) d_I_fieldsFault_35 ⟨(by show 0 + 0 ≤ 0; omega), (by show 0 + 0 ≤ 0; omega)⟩) hP hD hS hA [0] [] rfl rfl (by decide) (by decide) (fun u2 H locs hu2 hP hD hS _hk => ?_)
        have hP : va_P (dC, dI) CL [(io, .inr (3, [.ref ba, .int (iI cn), .int (iI ((flR tb nb cn vp bs ve i (24 + (i * 12)) (ve + 1)).2.1)), .int (iI en), .int (iI bs), .int (iI vi), .int (iI ((flR tb nb cn vp bs ve i (24 + (i * 12)) (ve + 1)).2.2))]))] H := hP
        have hD : va_D A [(io, .inr (3, [.ref ba, .int (iI cn), .int (iI ((flR tb nb cn vp bs ve i (24 + (i * 12)) (ve + 1)).2.1)), .int (iI en), .int (iI bs), .int (iI vi), .int (iI ((flR tb nb cn vp bs ve i (24 + (i * 12)) (ve + 1)).2.2))]))] := hD
        refine li_nm (fun rr err => ?_)
        refine lv_istore_n (lv' := [(2, .int (iI rr)), (0, .ref io), (1, .int (iI i))]) hx hb d_I_fieldsFault_38 rfl hl (by decide) rfl (fun ls hl => ?_)
        have hkr := flR_k (tb := tb) (nb := nb) (cn := cn) (fp := vp) (bs := bs) (fe := ve) (k := i) (e := 24 + i * 12) (st := ve + 1)
        have hfr := flR_r (tb := tb) (nb := nb) (cn := cn) (fp := vp) (bs := bs) (fe := ve) (k := i) (e := 24 + i * 12) (st := ve + 1) (by omega) (by omega) (by omega)
        refine lv_iload_n hx hb d_I_fieldsFault_39 rfl (lv_at hl 0 rfl) ?_
        refine li_if_eq (tgt := 45) hx hb d_I_fieldsFault_40 (by decide) (by omega) (fun c3 => ?_) (fun c3 => ?_)
        · have _q := c3
          refine lv_iload_n hx hb d_I_fieldsFault_45 rfl (lv_at hl 2 rfl) ?_
          refine li_if_ne (tgt := 57) hx hb d_I_fieldsFault_46 (by decide) (by omega) (fun c4 => ?_) (fun c4 => ?_)
          · have _q := c4
            obtain ⟨x_i, ex_i⟩ : ∃ y : Int, y = i + 1 := ⟨_, rfl⟩
            refine lv_iinc (v := iI x_i) (lv' := [(1, .int (iI x_i)), (2, .int (iI rr)), (0, .ref io)]) hx hb d_I_fieldsFault_57 hl (k := 2) rfl (by rw [ex_i]; exact iI_add _ _) (by decide) rfl (fun ls hl => ?_)
            refine lv_goto (tgt := 12) hx hb d_I_fieldsFault_60 (by decide) ?_
            exact ih x_i ((flR tb nb cn vp bs ve i (24 + (i * 12)) (ve + 1)).2.1) vi ((flR tb nb cn vp bs ve i (24 + (i * 12)) (ve + 1)).2.2) (by first | omega | (subst_vars; omega)) (by first | omega | (subst_vars; omega)) (by first | (subst_vars; unfold fdR; rw [show en - 0 = en by omega]; done) | (rw [ex_i, ← hres, show (en - i).toNat = (en - (i + 1)).toNat + 1 by omega]; simp only [fdL]; rw [if_pos (by rw [← err]; assumption)]; first | (rw [if_pos (by assumption), enie]; done) | (rw [if_neg (by assumption)]; done))) (by first | omega | (subst_vars; omega)) _ _ hP hD hS _ (lv_sub hl [2, 0] rfl)
          · have _q := c4
            refine lv_aload_n hx hb d_I_fieldsFault_49 rfl (lv_at hl 1 rfl) ?_
            refine lv_aload_n hx hb d_I_fieldsFault_50 rfl (lv_at hl 1 rfl) ?_
            refine gf_I_83 hx hb hts hown hK hP 0 rfl rfl d_I_fieldsFault_51 ?_
            refine li_nm (fun nie enie => ?_)
            refine pf_I_90 hx hb hts hown hK hP hD hS 0 rfl (Nat.le_of_ble_eq_true rfl) d_I_fieldsFault_54 (fun H locs hP hD hS => ?_)
            have hP : va_P (dC, dI) CL [(io, .inr (3, [.ref ba, .int (iI cn), .int (iI ((flR tb nb cn vp bs ve i (24 + (i * 12)) (ve + 1)).2.1)), .int (iI en), .int (iI bs), .int (iI nie), .int (iI ((flR tb nb cn vp bs ve i (24 + (i * 12)) (ve + 1)).2.2))]))] H := hP
            have hD : va_D A [(io, .inr (3, [.ref ba, .int (iI cn), .int (iI ((flR tb nb cn vp bs ve i (24 + (i * 12)) (ve + 1)).2.1)), .int (iI en), .int (iI bs), .int (iI nie), .int (iI ((flR tb nb cn vp bs ve i (24 + (i * 12)) (ve + 1)).2.2))]))] := hD
            obtain ⟨x_i, ex_i⟩ : ∃ y : Int, y = i + 1 := ⟨_, rfl⟩
            refine lv_iinc (v := iI x_i) (lv' := [(1, .int (iI x_i)), (2, .int (iI rr)), (0, .ref io)]) hx hb d_I_fieldsFault_57 hl (k := 2) rfl (by rw [ex_i]; exact iI_add _ _) (by decide) rfl (fun ls hl => ?_)
            refine lv_goto (tgt := 12) hx hb d_I_fieldsFault_60 (by decide) ?_
            exact ih x_i ((flR tb nb cn vp bs ve i (24 + (i * 12)) (ve + 1)).2.1) nie ((flR tb nb cn vp bs ve i (24 + (i * 12)) (ve + 1)).2.2) (by first | omega | (subst_vars; omega)) (by first | omega | (subst_vars; omega)) (by first | (subst_vars; unfold fdR; rw [show en - 0 = en by omega]; done) | (rw [ex_i, ← hres, show (en - i).toNat = (en - (i + 1)).toNat + 1 by omega]; simp only [fdL]; rw [if_pos (by rw [← err]; assumption)]; first | (rw [if_pos (by assumption), enie]; done) | (rw [if_neg (by assumption)]; done))) (by first | omega | (subst_vars; omega)) _ _ hP hD hS _ (lv_sub hl [2, 0] rfl)
        · have _q := c3
          have hf9 : fdR tb nb cn fp en bs ie = ((flR tb nb cn vp bs ve i (24 + i * 12) (ve + 1)).1, (flR tb nb cn vp bs ve i (24 + i * 12) (ve + 1)).2.1, vi, (flR tb nb cn vp bs ve i (24 + i * 12) (ve + 1)).2.2) := by rw [← hres, show (en - i).toNat = (en - (i + 1)).toNat + 1 by omega]; simp only [fdL]; rw [if_neg (by rw [← err]; assumption)]
          refine lv_iload_n hx hb d_I_fieldsFault_43 rfl (lv_at hl 0 rfl) ?_
          exact fin () _ _ _ _ _ (by first | (rw [hf9]; done) | (rw [hf9]; exact err)) (by trivial) (by rw [hf9]; exact hP) (by rw [hf9]; exact hD) hS d_I_fieldsFault_44
  suffices h9 : ∀ (H : Heap) (locs : List Loc), H = s.heap → locs = [] → W p l e (rmd 4 0 0) s m args below meth c H locs 0 0 Q (F0 m 0 ls []) from h9 _ _ rfl rfl
  intro H locs eH eL
  have hP : va_P (dC, dI) CL [(io, .inr (3, [.ref ba, .int (iI cn), .int (iI fp), .int (iI en), .int (iI bs), .int (iI ie), .int (iI fe)]))] H := by rw [eH]; exact hP
  have hS : va_S A s.heap H locs := by rw [eH, eL]; exact va_S.rf
  refine lv_aload_n hx hb d_I_fieldsFault_0 rfl (lv_at hl 0 rfl) ?_
  refine lv_aload_n hx hb d_I_fieldsFault_1 rfl (lv_at hl 0 rfl) ?_
  refine gf_I_80 hx hb hts hown hK hP 0 rfl rfl d_I_fieldsFault_2 ?_
  refine lv_iconst (v := iI 1) hx hb d_I_fieldsFault_5 rfl ?_
  refine li_isub hx hb d_I_fieldsFault_6 ?_
  refine li_nm (fun f0 ef0 => ?_)
  refine pf_I_83 hx hb hts hown hK hP hD hS 0 rfl (Nat.le_of_ble_eq_true rfl) d_I_fieldsFault_7 (fun H locs hP hD hS => ?_)
  have hP : va_P (dC, dI) CL [(io, .inr (3, [.ref ba, .int (iI cn), .int (iI fp), .int (iI en), .int (iI bs), .int (iI ie), .int (iI f0)]))] H := hP
  have hD : va_D A [(io, .inr (3, [.ref ba, .int (iI cn), .int (iI fp), .int (iI en), .int (iI bs), .int (iI ie), .int (iI f0)]))] := hD
  refine lv_iconst (v := iI 0) hx hb d_I_fieldsFault_10 rfl ?_
  refine lv_istore_n (lv' := [(1, .int (iI 0)), (0, .ref io)]) hx hb d_I_fieldsFault_11 rfl hl (by decide) rfl (fun ls hl => ?_)
  exact K_12 ((en - 0).toNat + 1) 0 fp ie f0 (by first | omega | (subst_vars; omega)) (by first | omega | (subst_vars; omega)) (by first | (subst_vars; unfold fdR; rw [show en - 0 = en by omega]; done) | (rw [ex_i, ← hres, show (en - i).toNat = (en - (i + 1)).toNat + 1 by omega]; simp only [fdL]; rw [if_pos (by rw [← err]; assumption)]; first | (rw [if_pos (by assumption), enie]; done) | (rw [if_neg (by assumption)]; done))) (Nat.lt_succ_self _) _ _ hP hD hS _ (lv_sub hl [1, 0] rfl)
theorem d_I_endFault_0 : decode b_I_endFault 0 = .ok (.aload_n 0, 1) := by decide +kernel
theorem d_I_endFault_1 : decode b_I_endFault 1 = .ok (.getfield 83, 3) := by decide +kernel
theorem d_I_endFault_4 : decode b_I_endFault 4 = .ok (.iconst 1, 1) := by decide +kernel
theorem d_I_endFault_5 : decode b_I_endFault 5 = .ok (.iadd, 1) := by decide +kernel
theorem d_I_endFault_6 : decode b_I_endFault 6 = .ok (.istore_n 1, 1) := by decide +kernel
theorem d_I_endFault_7 : decode b_I_endFault 7 = .ok (.aload_n 0, 1) := by decide +kernel
theorem d_I_endFault_8 : decode b_I_endFault 8 = .ok (.iload_n 1, 1) := by decide +kernel
theorem d_I_endFault_9 : decode b_I_endFault 9 = .ok (.invokevirtual 41, 3) := by decide +kernel
theorem d_I_endFault_12 : decode b_I_endFault 12 = .ok (.bipush 29, 2) := by decide +kernel
theorem d_I_endFault_14 : decode b_I_endFault 14 = .ok (.if_icmp .eq 11, 3) := by decide +kernel
theorem d_I_endFault_17 : decode b_I_endFault 17 = .ok (.aload_n 0, 1) := by decide +kernel
theorem d_I_endFault_18 : decode b_I_endFault 18 = .ok (.bipush (-5), 2) := by decide +kernel
theorem d_I_endFault_20 : decode b_I_endFault 20 = .ok (.iload_n 1, 1) := by decide +kernel
theorem d_I_endFault_21 : decode b_I_endFault 21 = .ok (.invokevirtual 49, 3) := by decide +kernel
theorem d_I_endFault_24 : decode b_I_endFault 24 = .ok (.ireturn, 1) := by decide +kernel
theorem d_I_endFault_25 : decode b_I_endFault 25 = .ok (.iload_n 1, 1) := by decide +kernel
theorem d_I_endFault_26 : decode b_I_endFault 26 = .ok (.iconst 1, 1) := by decide +kernel
theorem d_I_endFault_27 : decode b_I_endFault 27 = .ok (.iadd, 1) := by decide +kernel
theorem d_I_endFault_28 : decode b_I_endFault 28 = .ok (.aload_n 0, 1) := by decide +kernel
theorem d_I_endFault_29 : decode b_I_endFault 29 = .ok (.getfield 21, 3) := by decide +kernel
theorem d_I_endFault_32 : decode b_I_endFault 32 = .ok (.if_icmp .ne 7, 3) := by decide +kernel
theorem d_I_endFault_35 : decode b_I_endFault 35 = .ok (.iconst 0, 1) := by decide +kernel
theorem d_I_endFault_36 : decode b_I_endFault 36 = .ok (.goto 12, 3) := by decide +kernel
theorem d_I_endFault_39 : decode b_I_endFault 39 = .ok (.aload_n 0, 1) := by decide +kernel
theorem d_I_endFault_40 : decode b_I_endFault 40 = .ok (.bipush (-5), 2) := by decide +kernel
theorem d_I_endFault_42 : decode b_I_endFault 42 = .ok (.iload_n 1, 1) := by decide +kernel
theorem d_I_endFault_43 : decode b_I_endFault 43 = .ok (.iconst 1, 1) := by decide +kernel
theorem d_I_endFault_44 : decode b_I_endFault 44 = .ok (.iadd, 1) := by decide +kernel
theorem d_I_endFault_45 : decode b_I_endFault 45 = .ok (.invokevirtual 49, 3) := by decide +kernel
theorem d_I_endFault_48 : decode b_I_endFault 48 = .ok (.ireturn, 1) := by decide +kernel
set_option maxHeartbeats 4000000 in
set_option maxRecDepth 100000 in
theorem c_I_endFault (l : Launch) (dC : Nat → ClassId) (dI : Nat → Nat → Nat) (kA : Nat → ClassId) (sz : Nat) (io : Nat) (ba : Nat) (nb : Nat) (tb : Nat → Int) (cn : Int) (fp : Int) (en : Int) (bs : Int) (ie : Int) (fe : Int) (hI : IR nb tb cn) (hfe : -1 ≤ fe ∧ fe ≤ cn) : Met l y_I_endFault (wsy y_I_endFault b_I_endFault 2 (some .int)) (rmd 2 0 0) (li_Pr (dC, dI) CL (TY kA) [.ref io] (fun h => h.size = sz ∧ va_P (dC, dI) CL [(io, .inr (3, [.ref ba, .int (iI cn), .int (iI fp), .int (iI en), .int (iI bs), .int (iI ie), .int (iI fe)]))] h ∧ va_D (fun q => dI 100 0 ≤ q) [(io, .inr (3, [.ref ba, .int (iI cn), .int (iI fp), .int (iI en), .int (iI bs), .int (iI ie), .int (iI fe)]))] ∧ (fun h => va_P (dC, dI) CL [(ba, .inl (kA 1, nb, .inl (aI tb)))] h ∧ Dsj [(ba, .inl (kA 1, nb, .inl (aI tb)))] [(io, .inr (3, [.ref ba, .int (iI cn), .int (iI fp), .int (iI en), .int (iI bs), .int (iI ie), .int (iI fe)]))]) h)) (li_Qw (S := Unit) (dC, dI) CL (fun _ => True) (fun _ => some (.int (iI ((ndR tb cn fp fe).1)))) (fun _ => [(io, .inr (3, [.ref ba, .int (iI cn), .int (iI ((ndR tb cn fp fe).2)), .int (iI en), .int (iI bs), .int (iI ie), .int (iI fe)]))]) (va_A [(io, .inr (3, [.ref ba, .int (iI cn), .int (iI fp), .int (iI en), .int (iI bs), .int (iI ie), .int (iI fe)]))] sz)) 0 0 (va_A [(io, .inr (3, [.ref ba, .int (iI cn), .int (iI fp), .int (iI en), .int (iI bs), .int (iI ie), .int (iI fe)]))] sz) := by
  refine li_mwi (r := fun _ => (ndR tb cn fp fe).1) (by decide) (Nat.le_of_ble_eq_true rfl) (fun _ _ => by rfl) ?_
  intro p e s m args below meth c Q A C hP hD hBx hK hN hG hA hAi hAN fin ls hl
  obtain ⟨hx, hb, hr, hml, hown, hts, hlocks, hin⟩ := C
  have hown : s.vm.findClass R_I = some m.cls := hown
  obtain ⟨hRo, hDj⟩ := hBx
  have hRo : va_P (dC, dI) CL [(ba, .inl (kA 1, nb, .inl (aI tb)))] s.heap := hRo
  have hRoN := li_roN (A := A) hRo hDj hAi
  have hl : lv_has ls 2 [(0, .ref io)] := hl
  obtain ⟨hnb, hcn, htb⟩ := id hI
  suffices h9 : ∀ (H : Heap) (locs : List Loc), H = s.heap → locs = [] → W p l e (rmd 2 0 0) s m args below meth c H locs 0 0 Q (F0 m 0 ls []) from h9 _ _ rfl rfl
  intro H locs eH eL
  have hP : va_P (dC, dI) CL [(io, .inr (3, [.ref ba, .int (iI cn), .int (iI fp), .int (iI en), .int (iI bs), .int (iI ie), .int (iI fe)]))] H := by rw [eH]; exact hP
  have hS : va_S A s.heap H locs := by rw [eH, eL]; exact va_S.rf
  refine lv_aload_n hx hb d_I_endFault_0 rfl (lv_at hl 0 rfl) ?_
  refine gf_I_83 hx hb hts hown hK hP 0 rfl rfl d_I_endFault_1 ?_
  refine lv_iconst (v := iI 1) hx hb d_I_endFault_4 rfl ?_
  refine li_iadd hx hb d_I_endFault_5 ?_
  refine li_nm (fun ed eed => ?_)
  refine lv_istore_n (lv' := [(1, .int (iI ed)), (0, .ref io)]) hx hb d_I_endFault_6 rfl hl (by decide) rfl (fun ls hl => ?_)
  refine lv_aload_n hx hb d_I_endFault_7 rfl (lv_at hl 1 rfl) ?_
  refine lv_iload_n hx hb d_I_endFault_8 rfl (lv_at hl 0 rfl) ?_
  refine li_callr ((va_runV (As := [.int (iI ed)]) (rest := []) ⟨hx, hb, hml, hown, hts⟩ (c_I_byteAt l dC dI kA io ba nb tb cn fp en bs ie fe ed (by exact hI) (by omega)) (cw_I_41 hts rfl rfl ⟨Nat.le_of_ble_eq_true rfl, Nat.le_of_ble_eq_true rfl⟩) (li_preV (va_recv hK hP (ci := 3) (q0 := 0) rfl rfl) (va_P.app (hP.sub [0] rfl) ((li_ro hRo hRoN hS).sub [0] rfl)) hK hN (hG.go hS hAN)) rfl rfl hl.1 rfl (lv_room (Nat.le_of_ble_eq_true rfl)) d_I_endFault_9 ⟨(by show 0 + 0 ≤ 0; omega), (by show 0 + 0 ≤ 0; omega)⟩).run) ?_
  refine lv_bipush (v := iI 29) hx hb d_I_endFault_12 (by decide) ?_
  refine li_icmp_eq (tgt := 25) hx hb d_I_endFault_14 (by decide) (by first | omega | (have := byF_r (x := ed) hI; omega)) (by first | omega | (have := byF_r (x := ed) hI; omega)) (fun c1 => ?_) (fun c1 => ?_)
  · have _q := c1
    refine lv_iload_n hx hb d_I_endFault_25 rfl (lv_at hl 0 rfl) ?_
    refine lv_iconst (v := iI 1) hx hb d_I_endFault_26 rfl ?_
    refine li_iadd hx hb d_I_endFault_27 ?_
    refine lv_aload_n hx hb d_I_endFault_28 rfl (lv_at hl 1 rfl) ?_
    refine gf_I_21 hx hb hts hown hK hP 0 rfl rfl d_I_endFault_29 ?_
    refine li_icmp_ne (tgt := 39) hx hb d_I_endFault_32 (by decide) (by first | omega | (have := byF_r (x := ed) hI; omega)) (by first | omega | (have := byF_r (x := ed) hI; omega)) (fun c2 => ?_) (fun c2 => ?_)
    · have _q := c2
      refine lv_aload_n hx hb d_I_endFault_39 rfl (lv_at hl 1 rfl) ?_
      refine lv_bipush (v := iI (-5)) hx hb d_I_endFault_40 (by decide) ?_
      refine lv_iload_n hx hb d_I_endFault_42 rfl (lv_at hl 0 rfl) ?_
      refine lv_iconst (v := iI 1) hx hb d_I_endFault_43 rfl ?_
      refine li_iadd hx hb d_I_endFault_44 ?_
      refine li_callw (wc := [(io, .inr (3, [.ref ba, .int (iI cn), .int (iI fp), .int (iI en), .int (iI bs), .int (iI ie), .int (iI fe)]))]) (wr := []) (va_runV (As := [.int (iI (-5)), .int (iI (ed + 1))]) (rest := []) ⟨hx, hb, hml, hown, hts⟩ (c_I_fault l dC dI kA H.size io ba cn fp en bs ie fe (-5) (ed + 1) (by omega) (by omega)) (cw_I_49 hts rfl rfl ⟨Nat.le_of_ble_eq_true rfl, Nat.le_of_ble_eq_true rfl⟩) (li_preV (va_recv hK hP (ci := 3) (q0 := 0) rfl rfl) ⟨rfl, hP.sub [0] rfl, (hD.sub [0] (by decide) rfl).weaken (fun _ _ _ h => hAN _ h), trivial⟩ hK hN (hG.go hS hAN)) rfl rfl hl.1 rfl (lv_room (Nat.le_of_ble_eq_true rfl)) d_I_endFault_45 ⟨(by show 0 + 0 ≤ 0; omega), (by show 0 + 0 ≤ 0; omega)⟩) hP hD hS hA [0] [] rfl rfl (by decide) (by decide) (fun u3 H locs hu3 hP hD hS _hk => ?_)
      have hP : va_P (dC, dI) CL [(io, .inr (3, [.ref ba, .int (iI cn), .int (iI (ed + 1)), .int (iI en), .int (iI bs), .int (iI ie), .int (iI fe)]))] H := hP
      have hD : va_D A [(io, .inr (3, [.ref ba, .int (iI cn), .int (iI (ed + 1)), .int (iI en), .int (iI bs), .int (iI ie), .int (iI fe)]))] := hD
      exact fin () _ _ _ _ _ (by subst_vars; unfold ndR; first | (rw [if_neg (by assumption)]; done) | (rw [if_pos (by assumption), if_pos (by omega)]; done) | (rw [if_pos (by assumption), if_neg (by omega)]; done)) (by trivial) (by subst_vars; unfold ndR; first | (rw [if_neg (by assumption)]; exact hP) | (rw [if_pos (by assumption), if_pos (by omega)]; exact hP) | (rw [if_pos (by assumption), if_neg (by omega)]; exact hP)) (by subst_vars; unfold ndR; first | (rw [if_neg (by assumption)]; exact hD) | (rw [if_pos (by assumption), if_pos (by omega)]; exact hD) | (rw [if_pos (by assumption), if_neg (by omega)]; exact hD)) hS d_I_endFault_48
    · have _q := c2
      refine lv_iconst (v := iI 0) hx hb d_I_endFault_35 rfl ?_
      refine lv_goto (tgt := 48) hx hb d_I_endFault_36 (by decide) ?_
      exact fin () _ _ _ _ _ (by subst_vars; unfold ndR; first | (rw [if_neg (by assumption)]; done) | (rw [if_pos (by assumption), if_pos (by omega)]; done) | (rw [if_pos (by assumption), if_neg (by omega)]; done)) (by trivial) (by subst_vars; unfold ndR; first | (rw [if_neg (by assumption)]; exact hP) | (rw [if_pos (by assumption), if_pos (by omega)]; exact hP) | (rw [if_pos (by assumption), if_neg (by omega)]; exact hP)) (by subst_vars; unfold ndR; first | (rw [if_neg (by assumption)]; exact hD) | (rw [if_pos (by assumption), if_pos (by omega)]; exact hD) | (rw [if_pos (by assumption), if_neg (by omega)]; exact hD)) hS d_I_endFault_48
  · have _q := c1
    refine lv_aload_n hx hb d_I_endFault_17 rfl (lv_at hl 1 rfl) ?_
    refine lv_bipush (v := iI (-5)) hx hb d_I_endFault_18 (by decide) ?_
    refine lv_iload_n hx hb d_I_endFault_20 rfl (lv_at hl 0 rfl) ?_
    refine li_callw (wc := [(io, .inr (3, [.ref ba, .int (iI cn), .int (iI fp), .int (iI en), .int (iI bs), .int (iI ie), .int (iI fe)]))]) (wr := []) (va_runV (As := [.int (iI (-5)), .int (iI ed)]) (rest := []) ⟨hx, hb, hml, hown, hts⟩ (c_I_fault l dC dI kA H.size io ba cn fp en bs ie fe (-5) ed (by omega) (by omega)) (cw_I_49 hts rfl rfl ⟨Nat.le_of_ble_eq_true rfl, Nat.le_of_ble_eq_true rfl⟩) (li_preV (va_recv hK hP (ci := 3) (q0 := 0) rfl rfl) ⟨rfl, hP.sub [0] rfl, (hD.sub [0] (by decide) rfl).weaken (fun _ _ _ h => hAN _ h), trivial⟩ hK hN (hG.go hS hAN)) rfl rfl hl.1 rfl (lv_room (Nat.le_of_ble_eq_true rfl)) d_I_endFault_21 ⟨(by show 0 + 0 ≤ 0; omega), (by show 0 + 0 ≤ 0; omega)⟩) hP hD hS hA [0] [] rfl rfl (by decide) (by decide) (fun u4 H locs hu4 hP hD hS _hk => ?_)
    have hP : va_P (dC, dI) CL [(io, .inr (3, [.ref ba, .int (iI cn), .int (iI ed), .int (iI en), .int (iI bs), .int (iI ie), .int (iI fe)]))] H := hP
    have hD : va_D A [(io, .inr (3, [.ref ba, .int (iI cn), .int (iI ed), .int (iI en), .int (iI bs), .int (iI ie), .int (iI fe)]))] := hD
    exact fin () _ _ _ _ _ (by subst_vars; unfold ndR; first | (rw [if_neg (by assumption)]; done) | (rw [if_pos (by assumption), if_pos (by omega)]; done) | (rw [if_pos (by assumption), if_neg (by omega)]; done)) (by trivial) (by subst_vars; unfold ndR; first | (rw [if_neg (by assumption)]; exact hP) | (rw [if_pos (by assumption), if_pos (by omega)]; exact hP) | (rw [if_pos (by assumption), if_neg (by omega)]; exact hP)) (by subst_vars; unfold ndR; first | (rw [if_neg (by assumption)]; exact hD) | (rw [if_pos (by assumption), if_pos (by omega)]; exact hD) | (rw [if_pos (by assumption), if_neg (by omega)]; exact hD)) hS d_I_endFault_24
theorem d_I_init_0 : decode b_I_init 0 = .ok (.aload_n 0, 1) := by decide +kernel
theorem d_I_init_1 : decode b_I_init 1 = .ok (.invokespecial 3, 3) := by decide +kernel
theorem d_I_init_4 : decode b_I_init 4 = .ok (.aload_n 0, 1) := by decide +kernel
theorem d_I_init_5 : decode b_I_init 5 = .ok (.iconst 0, 1) := by decide +kernel
theorem d_I_init_6 : decode b_I_init 6 = .ok (.newarray .char, 2) := by decide +kernel
theorem d_I_init_8 : decode b_I_init 8 = .ok (.putfield 9, 3) := by decide +kernel
theorem d_I_init_11 : decode b_I_init 11 = .ok (.return_, 1) := by decide +kernel
set_option maxHeartbeats 4000000 in
set_option maxRecDepth 100000 in
theorem c_I_init (l : Launch) (dC : Nat → ClassId) (dI : Nat → Nat → Nat) (kA : Nat → ClassId) (sz : Nat) (io : Nat)  : Met l y_I_init (wsy y_I_init b_I_init 1 none) (rmd 1 1 0) (li_Pr (dC, dI) CL (TY kA) [.ref io] (fun h => h.size = sz ∧ va_P (dC, dI) CL [(io, .inr (3, [.null, .int (iI 0), .int (iI 0), .int (iI 0), .int (iI 0), .int (iI 0), .int (iI 0)]))] h ∧ va_D (fun q => dI 100 0 ≤ q) [(io, .inr (3, [.null, .int (iI 0), .int (iI 0), .int (iI 0), .int (iI 0), .int (iI 0), .int (iI 0)]))] ∧ (fun _ => True) h)) (li_Qw (S := Nat) (dC, dI) CL (fun _ => True) (fun _ => none) (fun u => [(io, .inr (3, [.ref u, .int (iI 0), .int (iI 0), .int (iI 0), .int (iI 0), .int (iI 0), .int (iI 0)])), (u, .inl (kA 1, 0, .inl (aI (fun _ => 0))))]) (va_A [(io, .inr (3, [.null, .int (iI 0), .int (iI 0), .int (iI 0), .int (iI 0), .int (iI 0), .int (iI 0)]))] sz)) 1 0 (va_A [(io, .inr (3, [.null, .int (iI 0), .int (iI 0), .int (iI 0), .int (iI 0), .int (iI 0), .int (iI 0)]))] sz) := by
  refine li_mwv (by decide) (Nat.le_of_ble_eq_true rfl) ?_
  intro p e s m args below meth c Q A C hP hD hBx hK hN hG hA hAi hAN fin ls hl
  obtain ⟨hx, hb, hr, hml, hown, hts, hlocks, hin⟩ := C
  have hown : s.vm.findClass R_I = some m.cls := hown
  have hl : lv_has ls 1 [(0, .ref io)] := hl
  have hin : meth.name = "<init>" := hin
  suffices h9 : ∀ (H : Heap) (locs : List Loc), H = s.heap → locs = [] → W p l e (rmd 1 1 0) s m args below meth c H locs 0 0 Q (F0 m 0 ls []) from h9 _ _ rfl rfl
  intro H locs eH eL
  have hP : va_P (dC, dI) CL [(io, .inr (3, [.null, .int (iI 0), .int (iI 0), .int (iI 0), .int (iI 0), .int (iI 0), .int (iI 0)]))] H := by rw [eH]; exact hP
  have hS : va_S A s.heap H locs := by rw [eH, eL]; exact va_S.rf
  refine lv_aload_n hx hb d_I_init_0 rfl (lv_at hl 0 rfl) ?_
  refine W.objInit hx hb hown (hts (Cond.methodLink R_I 3 Lib.objectInit) (tk1 40 rfl rfl)) (hts (Cond.instanceMethod Lib.objectInit) (tk1 31 rfl rfl)) (hts (Cond.code Lib.objectInit ⟨#[0xb1]⟩ 1 none) (tk1 32 rfl rfl)) rfl (hl.1.trans hml.symm) rfl d_I_init_1 (Nat.le_of_ble_eq_true rfl) (Nat.le_of_ble_eq_true rfl) ?_
  refine W.eq (g2 := F0 m 4 ls []) rfl ?_
  refine lv_aload_n hx hb d_I_init_4 rfl (lv_at hl 0 rfl) ?_
  refine lv_iconst (v := iI 0) hx hb d_I_init_5 rfl ?_
  refine li_newC hx hb (hts (Cond.arrayClass .char) (tk1 67 rfl rfl)) hK hP hD hS hA 1 rfl 0 (by omega) (by omega) (by show 0 + 1 ≤ 1; omega) (by show 0 + 0 ≤ 0; omega) d_I_init_6 (fun q0 H hP hD hS => ?_)
  have hP : va_P (dC, dI) CL [(io, .inr (3, [.null, .int (iI 0), .int (iI 0), .int (iI 0), .int (iI 0), .int (iI 0), .int (iI 0)])), (q0, .inl (kA 1, 0, .inl (aI (fun _ => 0))))] H := hP
  have hD : va_D A [(io, .inr (3, [.null, .int (iI 0), .int (iI 0), .int (iI 0), .int (iI 0), .int (iI 0), .int (iI 0)])), (q0, .inl (kA 1, 0, .inl (aI (fun _ => 0))))] := hD
  refine pf_I_9 hx hb hts hown hK hP hD hS 0 rfl (Nat.le_of_ble_eq_true rfl) d_I_init_8 (fun H locs hP hD hS => ?_)
  have hP : va_P (dC, dI) CL [(io, .inr (3, [.ref q0, .int (iI 0), .int (iI 0), .int (iI 0), .int (iI 0), .int (iI 0), .int (iI 0)])), (q0, .inl (kA 1, 0, .inl (aI (fun _ => 0))))] H := hP
  have hD : va_D A [(io, .inr (3, [.ref q0, .int (iI 0), .int (iI 0), .int (iI 0), .int (iI 0), .int (iI 0), .int (iI 0)])), (q0, .inl (kA 1, 0, .inl (aI (fun _ => 0))))] := hD
  refine W.widen (k := 1) (n := 0) (by omega) (by omega) ?_
  exact fin (q0) _ _ _ _ (by trivial) (by first | exact hP | (subst_vars; exact hP)) (by first | exact hD | (subst_vars; exact hD)) hS d_I_init_11

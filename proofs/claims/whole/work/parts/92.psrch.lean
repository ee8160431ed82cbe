/-! a search: both sides -/
theorem and1_i (x : Int32) : x &&& 1 = 0 ∨ x &&& 1 = 1 := by
  have e : (x &&& 1).toInt = ((x.toBitVec &&& (1 : BitVec 32)).toNat : Int) := by
    show (x.toBitVec &&& (1 : BitVec 32)).toInt = _
    rw [BitVec.toInt_eq_toNat_of_lt]
    rw [BitVec.toNat_and]
    have := Nat.and_le_right (n := x.toBitVec.toNat) (m := (1 : BitVec 32).toNat)
    have h2 : (1 : BitVec 32).toNat = 1 := rfl
    omega
  have hl : (x.toBitVec &&& (1 : BitVec 32)).toNat ≤ 1 := by
    rw [BitVec.toNat_and]
    exact Nat.and_le_right
  have h01 : (x &&& 1).toInt = 0 ∨ (x &&& 1).toInt = 1 := by omega
  rcases h01 with h | h
  · exact Or.inl (Int32.toInt_inj.mp h)
  · exact Or.inr (Int32.toInt_inj.mp h)
theorem bt_e {v r : Int} : andI (shrI v r) 1 = ((iI v >>> (iI r &&& 31)) &&& 1).toInt := by
  unfold andI shrI
  rw [iI_back]; rfl
theorem bt_and {v a r : Int} (h : andI (shrI (andI v a) r) 1 = 1) : andI (shrI v r) 1 = 1 := by
  rw [bt_e] at h ⊢
  unfold andI at h
  rw [iI_back, Int32.shiftRight_and, Int32.and_assoc, Int32.and_comm (iI a >>> (iI r &&& 31)), ← Int32.and_assoc] at h
  rcases and1_i (iI v >>> (iI r &&& 31)) with q | q
  · rw [q, Int32.zero_and] at h; exact absurd h (by decide)
  · rw [q]; rfl
theorem bt_or {v a r : Int} (h : andI (shrI (orI v a) r) 1 = 1) : andI (shrI v r) 1 = 1 ∨ andI (shrI a r) 1 = 1 := by
  rw [bt_e] at h
  rw [bt_e, bt_e]
  unfold orI at h
  rw [iI_back, Int32.shiftRight_or] at h
  have e : ((iI v >>> (iI r &&& 31)) ||| (iI a >>> (iI r &&& 31))) &&& 1 = ((iI v >>> (iI r &&& 31)) &&& 1) ||| ((iI a >>> (iI r &&& 31)) &&& 1) := by
    apply Int32.toBitVec_inj.mp
    show ((iI v >>> (iI r &&& 31)).toBitVec ||| (iI a >>> (iI r &&& 31)).toBitVec) &&& (1 : BitVec 32) = _
    exact BitVec.and_or_distrib_right
  rw [e] at h
  rcases and1_i (iI v >>> (iI r &&& 31)) with q | q
  · rcases and1_i (iI a >>> (iI r &&& 31)) with q2 | q2
    · rw [q, q2] at h; exact absurd h (by decide)
    · exact Or.inr (by rw [q2]; rfl)
  · exact Or.inl (by rw [q]; rfl)
/-- only RECORDS that are there -/
def BMv (le : Nat → Int) (v : Int) : Prop := ∀ r : Int, 0 ≤ r → r ≤ 9 → andI (shrI v r) 1 = 1 → 0 < le r.toNat
theorem bt_0 : ∀ r : Fin 10, ¬ andI (shrI 0 (r.val : Int)) 1 = 1 := by decide +kernel
theorem bt_1 : ∀ r s : Fin 10, andI (shrI (shlI 1 (r.val : Int)) (s.val : Int)) 1 = 1 → r = s := by decide +kernel
theorem BM_0 {le : Nat → Int} : BMv le 0 := by
  intro r h0 h1 h
  obtain ⟨n, rfl⟩ := Int.eq_ofNat_of_zero_le h0
  exact absurd h (bt_0 ⟨n, by omega⟩)
theorem BM_so {ca le : Nat → Int} {ix rel x y : Int} : ∀ (k : Nat) (r v : Int), 0 ≤ r → r + k ≤ 10 → BMv le v → BMv le (soL ca le ix rel x y k r v) := by
  intro k
  induction k with
  | zero => intro r v _ _ h; exact h
  | succ k ih =>
    intro r v h0 h1 hv
    simp only [soL]
    refine ih (r + 1) _ (by omega) (by omega) ?_
    split
    · rename_i q
      intro s s0 s1 hs
      rcases bt_or hs with hs | hs
      · exact hv s s0 s1 hs
      · obtain ⟨n, rfl⟩ := Int.eq_ofNat_of_zero_le h0
        obtain ⟨m, rfl⟩ := Int.eq_ofNat_of_zero_le s0
        have := bt_1 ⟨n, by omega⟩ ⟨m, by omega⟩ hs
        have e : n = m := Fin.mk.inj this
        subst e
        exact q.1
    · exact hv
theorem BM_sM {ca le : Nat → Int} {la ix rel x y : Int} : BMv le (soM ca le la ix rel x y) := by
  unfold soM
  split
  · exact BM_so 10 0 0 (by omega) (by omega) BM_0
  · exact BM_0
theorem BM_jo {le : Nat → Int} {op v a : Int} (hv : op ≠ 0 → BMv le v) (ha : BMv le a) (ho : op = 0 ∨ op = 8 ∨ op = 9 ∨ op = 10) : BMv le (joM op v a) := by
  unfold joM
  rcases ho with rfl | rfl | rfl | rfl
  · exact ha
  · intro r r0 r1 h; exact hv (by decide) r r0 r1 (bt_and h)
  · intro r r0 r1 h
    rcases bt_or h with h | h
    · exact hv (by decide) r r0 r1 h
    · exact ha r r0 r1 h
  · intro r r0 r1 h; exact hv (by decide) r r0 r1 (bt_and h)
theorem BM_cV {ca le : Nat → Int} {ix rel : Int} {u : PS} : BMv le (clV ca le ix rel u) := by
  unfold clV
  by_cases c : u.fa = 0
  · rw [if_pos c]; exact BM_sM
  · rw [if_neg c]; exact BM_0
theorem BM_cR {ca le : Nat → Int} {ls rel : Int} {u : PS} : BMv le (clR ca le ls rel u).2 := by
  unfold clR
  by_cases c : rel = 0
  · rw [if_pos c]; exact BM_sM
  · rw [if_neg c]; exact BM_cV
theorem BM_cl {ca le : Nat → Int} {ls : Int} {u : PS} : BMv le (clP ca le ls u).2 := by
  unfold clP clQ
  by_cases c : (takeP ca ls u).fa = 0
  · rw [if_pos c]; exact BM_cR
  · rw [if_neg c]; exact BM_0
def BIn (le : Nat → Int) (u : QS) : Prop := 0 ≤ u.dp ∧ ∀ j : Nat, (j : Int) ≤ u.dp → (u.pe j = 0 ∨ u.pe j = 8 ∨ u.pe j = 9 ∨ u.pe j = 10) ∧ (((j : Int) < u.dp ∨ u.wa = true) → u.pe j ≠ 0 → BMv le (u.va j)) ∧ ((j : Int) = u.dp → u.wa = false → BMv le (u.va j))
theorem BI_s {ca le : Nat → Int} {ls : Int} {u : QS} (h : BIn le u) : BIn le (quS ca le ls u) := by
  obtain ⟨h0, h⟩ := h
  unfold quS
  cases hw : u.wa with
  | true =>
    rw [if_pos rfl]
    unfold quW
    split
    · split
      · refine ⟨by show 0 ≤ u.dp + 1; omega, ?_⟩
        intro j hj
        have hj : (j : Int) ≤ u.dp + 1 := hj
        show (va_up u.pe (u.dp + 1).toNat 0 j = 0 ∨ va_up u.pe (u.dp + 1).toNat 0 j = 8 ∨ va_up u.pe (u.dp + 1).toNat 0 j = 9 ∨ va_up u.pe (u.dp + 1).toNat 0 j = 10) ∧ (((j : Int) < u.dp + 1 ∨ true = true) → va_up u.pe (u.dp + 1).toNat 0 j ≠ 0 → BMv le (u.va j)) ∧ ((j : Int) = u.dp + 1 → true = false → BMv le (u.va j))
        by_cases e : j = (u.dp + 1).toNat
        · subst e
          rw [vu_e]
          exact ⟨Or.inl rfl, fun _ q => absurd rfl q, fun _ q => Bool.noConfusion q⟩
        · rw [vu_n e]
          obtain ⟨a, b, _⟩ := h j (by omega)
          exact ⟨a, fun _ q => b (Or.inr hw) q, fun _ q => Bool.noConfusion q⟩
      · refine ⟨h0, ?_⟩
        intro j hj
        obtain ⟨a, b, _⟩ := h j hj
        exact ⟨a, fun _ q => b (Or.inr hw) q, fun _ q => Bool.noConfusion q⟩
    · refine ⟨h0, ?_⟩
      intro j hj
      have hj : (j : Int) ≤ u.dp := hj
      obtain ⟨a, b, _⟩ := h j hj
      refine ⟨a, ?_, ?_⟩
      · intro q hp
        have q : (j : Int) < u.dp := q.elim id (fun z => absurd (show (false : Bool) = true from z) (by decide))
        show BMv le (va_up u.va u.dp.toNat _ j)
        rw [vu_n (by omega)]
        exact b (Or.inr hw) hp
      · intro q _
        have q : (j : Int) = u.dp := q
        show BMv le (va_up u.va u.dp.toNat _ j)
        rw [show j = u.dp.toNat by omega] at a b ⊢
        rw [vu_e]
        exact BM_jo (fun z => b (Or.inr hw) z) BM_cl a
  | false =>
    rw [if_neg (by decide)]
    have ht := (h u.dp.toNat (by omega)).2.2 (by omega) hw
    unfold quN
    split
    · rename_i htk
      refine ⟨h0, ?_⟩
      intro j hj
      have hj : (j : Int) ≤ u.dp := hj
      obtain ⟨a, b, _⟩ := h j hj
      show (va_up u.pe u.dp.toNat u.p.tk j = 0 ∨ va_up u.pe u.dp.toNat u.p.tk j = 8 ∨ va_up u.pe u.dp.toNat u.p.tk j = 9 ∨ va_up u.pe u.dp.toNat u.p.tk j = 10) ∧ (((j : Int) < u.dp ∨ true = true) → va_up u.pe u.dp.toNat u.p.tk j ≠ 0 → BMv le (u.va j)) ∧ ((j : Int) = u.dp → true = false → BMv le (u.va j))
      by_cases e : j = u.dp.toNat
      · subst e
        rw [vu_e]
        exact ⟨Or.inr htk, fun _ _ => ht, fun _ q => Bool.noConfusion q⟩
      · rw [vu_n e]
        exact ⟨a, fun _ q => b (Or.inl (by omega)) q, fun _ q => Bool.noConfusion q⟩
    · split
      · rename_i hcl
        refine ⟨by show 0 ≤ u.dp - 1; omega, ?_⟩
        intro j hj
        have hj : (j : Int) ≤ u.dp - 1 := hj
        obtain ⟨a, b, _⟩ := h j (by omega)
        refine ⟨a, ?_, ?_⟩
        · intro q hp
          have q : (j : Int) < u.dp - 1 := q.elim id (fun z => absurd (show (false : Bool) = true from z) (by decide))
          show BMv le (va_up u.va (u.dp - 1).toNat _ j)
          rw [vu_n (by omega)]
          exact b (Or.inl (by omega)) hp
        · intro q _
          have q : (j : Int) = u.dp - 1 := q
          show BMv le (va_up u.va (u.dp - 1).toNat _ j)
          rw [show j = (u.dp - 1).toNat by omega] at a b ⊢
          rw [vu_e, show u.dp - 1 + 1 = u.dp by omega]
          exact BM_jo (fun z => b (Or.inl (by omega)) z) ht a
      · have same : ∀ (p : PS) (s : Int) (d : Bool), BIn le (QS.mk p u.dp u.va u.pe false false s d) := by
          intro p s d
          refine ⟨h0, ?_⟩
          intro j hj
          have hj : (j : Int) ≤ u.dp := hj
          obtain ⟨a, b, c⟩ := h j hj
          refine ⟨a, ?_, fun q _ => c q hw⟩
          intro q hp
          have q : (j : Int) < u.dp := q.elim id (fun z => absurd (show (false : Bool) = true from z) (by decide))
          exact b (Or.inl q) hp
        split
        · exact same _ _ _
        · exact same _ _ _
theorem BI_q {ca le : Nat → Int} {ls : Int} : ∀ (K : Nat) (u : QS), BIn le u → BIn le (qyL ca le ls K u) := by
  intro K
  induction K with
  | zero => intro u h; exact h
  | succ K ih =>
    intro u h
    simp only [qyL]
    split
    · exact ih _ (BI_s h)
    · exact h
/-- where nothing is wrong the place stays -/
def FPk (u v : PS) : Prop := v.fa = 0 → v.fp = u.fp ∧ u.fa = 0
theorem FPk.tr {u v w : PS} (h : FPk u v) (h2 : FPk v w) : FPk u w := by
  intro q
  obtain ⟨a, b⟩ := h2 q
  obtain ⟨c, d⟩ := h b
  exact ⟨a.trans c, d⟩
theorem fk_id {u : PS} : FPk u u := fun h => ⟨rfl, h⟩
theorem fk_next {f : Nat → Int} {ls : Int} {u : PS} : FPk u (nextP f ls u) := fun h => ⟨rfl, h⟩
theorem fk_stop {ls : Int} {u : PS} : FPk u (stopP ls u) := by
  unfold stopP
  split
  · intro h; exact absurd (show (-2 : Int) = 0 from h) (by decide)
  · exact fk_id
theorem fk_refu {ls : Int} {u : PS} : FPk u (refuP ls u) := by
  unfold refuP
  split
  · split
    · intro h; exact absurd (show (-2 : Int) = 0 from h) (by decide)
    · exact fk_id
  · exact fk_stop
theorem fk_note {a b : Int} {u : PS} : FPk u (noteP a b u) := by
  unfold noteP
  split
  · exact fun h => ⟨rfl, h⟩
  · exact fk_id
theorem fk_take {f : Nat → Int} {ls : Int} {u : PS} : FPk u (takeP f ls u) := by
  unfold takeP
  split
  · exact fun h => ⟨rfl, h⟩
  · exact fk_stop
theorem fk_clN {rel ix : Int} {u : PS} : FPk u (clN rel ix u) := by
  unfold clN
  split
  · split
    · exact fk_note.tr fk_note
    · exact fk_note
  · split
    · exact fk_note
    · exact fk_id
theorem fk_cR {ca le : Nat → Int} {ls rel : Int} {u : PS} : FPk u (clR ca le ls rel u).1 := by
  unfold clR
  by_cases c : rel = 0
  · rw [if_pos c]; exact fk_id
  · rw [if_neg c]
    show FPk u (clT ca ls rel (ioM ca u.pf u.pt) u)
    unfold clT
    exact FPk.tr (v := clN rel (ioM ca u.pf u.pt) u) fk_clN (FPk.tr (v := nextP ca ls (clN rel (ioM ca u.pf u.pt) u)) fk_next fk_take)
theorem fk_cl {ca le : Nat → Int} {ls : Int} {u : PS} : FPk u (clP ca le ls u).1 := by
  unfold clP clQ
  refine FPk.tr (v := takeP ca ls u) fk_take ?_
  by_cases c : (takeP ca ls u).fa = 0
  · rw [if_pos c]; exact fk_cR
  · rw [if_neg c]; exact fk_id
theorem fk_end {ls : Int} {u : PS} : FPk u (endP ls u) := by
  unfold endP
  split
  · exact fk_id
  · exact fk_refu
theorem fk_sr {ca : Nat → Int} {ls si : Int} {dn : Bool} {u : PS} : FPk u (srP ca ls si dn u).1 := by
  unfold srP srQ
  refine FPk.tr (v := nextP ca ls u) fk_next ?_
  generalize nextP ca ls u = p1
  split
  · have h1 : FPk p1 (srI ca ls p1) := by
      unfold srI
      refine FPk.tr (v := if ioM ca p1.tf p1.tt < 0 then noteP (-3) p1.tf p1 else p1) ?_ fk_next
      split
      · exact fk_note
      · exact fk_id
    refine h1.tr ?_
    unfold srE
    generalize srI ca ls p1 = p2
    split
    · refine FPk.tr (v := nextP ca ls p2) fk_next ?_
      unfold srD
      split
      · exact FPk.tr (v := nextP ca ls (nextP ca ls p2)) fk_next fk_end
      · exact fk_refu
    · exact fk_end
  · exact fk_refu
theorem fk_qs {ca le : Nat → Int} {ls : Int} {u : QS} : FPk u.p (quS ca le ls u).p := by
  unfold quS
  split
  · unfold quW
    split
    · split
      · exact fk_next
      · exact fk_stop
    · exact fk_cl
  · unfold quN
    split
    · exact fk_next
    · split
      · exact fk_next
      · split
        · exact fk_sr
        · show FPk u.p (if u.p.tk = 0 ∧ ¬ 0 < u.dp then u.p else refuP ls u.p)
          split
          · exact fk_id
          · exact fk_refu
theorem fk_qy {ca le : Nat → Int} {ls : Int} : ∀ (K : Nat) (u : QS), FPk u.p (qyL ca le ls K u).p := by
  intro K
  induction K with
  | zero => intro u; exact fk_id
  | succ K ih =>
    intro u
    simp only [qyL]
    split
    · exact fk_qs.tr (ih _)
    · exact fk_id
/-- what both sides make of THE LINE -/
theorem srch {ca le lc : Nat → Int} {kn : Int} {hd : Nat → Option HD} (hL : LNf ca lc kn) (hS : SR ca le hd) (gk gs ge : Nat → Int) (fp : Int) (ys : Nat → Int) (g : Nat → CEt) (va pe yr yj : Nat → Int) (a1 a2 a3 a4 a5 a6 : Int) :
    ((rdM lc kn (tkF lc kn gk gs ge) fp ys g).1 = false ∧ (rdM lc kn (tkF lc kn gk gs ge) fp ys g).2.2.2.1 = -2 ∧ (quM ca le kn va pe (PS.mk 4000 a1 a2 a3 0 (-1) 0 a4 a5 a6)).p.fa = -2 ∧ (quM ca le kn va pe (PS.mk 4000 a1 a2 a3 0 (-1) 0 a4 a5 a6)).p.fp = (rdM lc kn (tkF lc kn gk gs ge) fp ys g).2.2.2.2.1) ∨
    ((rdM lc kn (tkF lc kn gk gs ge) fp ys g).1 = true ∧ (quM ca le kn va pe (PS.mk 4000 a1 a2 a3 0 (-1) 0 a4 a5 a6)).p.fa = 0 ∧ (quM ca le kn va pe (PS.mk 4000 a1 a2 a3 0 (-1) 0 a4 a5 a6)).p.fp = -1 ∧ NTe (quM ca le kn va pe (PS.mk 4000 a1 a2 a3 0 (-1) 0 a4 a5 a6)).p (rdM lc kn (tkF lc kn gk gs ge) fp ys g).2.2.2.1 (rdM lc kn (tkF lc kn gk gs ge) fp ys g).2.2.2.2.1 ∧ (quM ca le kn va pe (PS.mk 4000 a1 a2 a3 0 (-1) 0 a4 a5 a6)).si = (rdM lc kn (tkF lc kn gk gs ge) fp ys g).2.1 ∧ (quM ca le kn va pe (PS.mk 4000 a1 a2 a3 0 (-1) 0 a4 a5 a6)).dn = (rdM lc kn (tkF lc kn gk gs ge) fp ys g).2.2.1 ∧ (0 ≤ (rdM lc kn (tkF lc kn gk gs ge) fp ys g).2.2.2.2.2.2.2.1 ∧ (rdM lc kn (tkF lc kn gk gs ge) fp ys g).2.2.2.2.2.2.2.1 ≤ 50) ∧ JOK (rdM lc kn (tkF lc kn gk gs ge) fp ys g).2.2.2.2.2.2.2.2.1 (rdM lc kn (tkF lc kn gk gs ge) fp ys g).2.2.2.2.2.2.1 ∧ (∀ j : Nat, (j : Int) < (rdM lc kn (tkF lc kn gk gs ge) fp ys g).2.2.2.2.2.2.2.1 → CEk ((rdM lc kn (tkF lc kn gk gs ge) fp ys g).2.2.2.2.2.2.2.2.2 j)) ∧ BMv le ((quM ca le kn va pe (PS.mk 4000 a1 a2 a3 0 (-1) 0 a4 a5 a6)).va 0) ∧ ((rdM lc kn (tkF lc kn gk gs ge) fp ys g).2.2.2.1 = 0 → ∀ G : Nat → CEt, (∀ j : Nat, (j : Int) < (rdM lc kn (tkF lc kn gk gs ge) fp ys g).2.2.2.2.2.2.2.1 → (G j).2.2.2.2 = recC hd lc ((rdM lc kn (tkF lc kn gk gs ge) fp ys g).2.2.2.2.2.2.2.2.2 j)) → (jaM (rdM lc kn (tkF lc kn gk gs ge) fp ys g).2.2.2.2.2.2.2.2.1 G (rdM lc kn (tkF lc kn gk gs ge) fp ys g).2.2.2.2.2.2.1 yr yj).2.2.1 0 = (quM ca le kn va pe (PS.mk 4000 a1 a2 a3 0 (-1) 0 a4 a5 a6)).va 0)) := by
  have hT := TKS.mk_ hL gk gs ge
  have hkz := hT.2.1
  have h0 : AtP ca (4000 + kn) (nextP ca kn (PS.mk 4000 a1 a2 a3 0 (-1) 0 a4 a5 a6)) 0 := rfl
  have hq := q_sim (le := le) hT hS (si := -1) (dn := false) ((tkF lc kn gk gs ge).1 + 1).toNat 1000 0 true 0 fp 0 0 0 ys g (QS.mk (nextP ca kn (PS.mk 4000 a1 a2 a3 0 (-1) 0 a4 a5 a6)) 0 va (va_up pe 0 0) true true (-1) false) rfl rfl h0 ⟨rfl, fun q => absurd rfl q⟩ rfl rfl (by omega) (by omega) (by omega) (by omega) (by omega) (by omega) (by rw [if_pos rfl]; omega) rfl rfl ⟨by omega, fun k hk => by rw [show k = 0 by omega]; show 0 ≤ (0 : Int) ∧ (0 : Int) ≤ 6; omega, fun k hk => by omega⟩ rfl
  have eR : rqL lc kn (tkF lc kn gk gs ge).2.1 (tkF lc kn gk gs ge).2.2.1 (tkF lc kn gk gs ge).2.2.2 (tkF lc kn gk gs ge).1 (-1) false ((tkF lc kn gk gs ge).1 + 1).toNat 0 true (0, fp, ((0 : Nat) : Int), 0, 0, ys, g) = rdQ lc kn (tkF lc kn gk gs ge) fp ys g := rfl
  have eU : qyL ca le kn 1000 (QS.mk (nextP ca kn (PS.mk 4000 a1 a2 a3 0 (-1) 0 a4 a5 a6)) 0 va (va_up pe 0 0) true true (-1) false) = quM ca le kn va pe (PS.mk 4000 a1 a2 a3 0 (-1) 0 a4 a5 a6) := rfl
  have hfk := fk_qy (ca := ca) (le := le) (ls := kn) 1000 (QS.mk (nextP ca kn (PS.mk 4000 a1 a2 a3 0 (-1) 0 a4 a5 a6)) 0 va (va_up pe 0 0) true true (-1) false)
  have hbi := BI_q (ca := ca) (le := le) (ls := kn) 1000 (QS.mk (nextP ca kn (PS.mk 4000 a1 a2 a3 0 (-1) 0 a4 a5 a6)) 0 va (va_up pe 0 0) true true (-1) false) ⟨by show (0 : Int) ≤ 0; omega, fun j hj => by
    have hj : (j : Int) ≤ 0 := hj
    obtain rfl : j = 0 := by omega
    exact ⟨Or.inl (show va_up pe 0 0 0 = 0 from vu_e), fun _ q => absurd (show va_up pe 0 0 0 = 0 from vu_e) q, fun _ q => Bool.noConfusion q⟩⟩
  rw [eU] at hfk hbi hq
  rw [eR] at hq
  generalize quM ca le kn va pe (PS.mk 4000 a1 a2 a3 0 (-1) 0 a4 a5 a6) = U at *
  unfold rdM
  generalize rdQ lc kn (tkF lc kn gk gs ge) fp ys g = R at *
  rcases hq with ⟨x1, x2, x3, x4, x5, x6, x7, x8, x9, x10, x11, x12, x13, x14, x15⟩ | ⟨x1, x2, x3⟩
  · rw [if_pos x1]
    refine Or.inr ⟨x1, x2, (hfk x2).1, x3, x4, x5, ⟨x8, x9⟩, x10, fun j hj => x14 j (by omega) hj, ?_, ?_⟩
    · have := (hbi.2 0 (by rw [x13.1]; omega)).2.2 (by rw [x13.1]; rfl) x13.2
      exact this
    · intro hf G hG
      have := x15 (by rw [x3.1]; exact hf) G (0, 0, va_up yr 0 0, va_up yj 0 12) hG ⟨rfl, rfl, ?_, fun q => Bool.noConfusion q⟩
      · rw [show R.2.2.2.2.2.2.1 - 0 = R.2.2.2.2.2.2.1 by omega] at this
        exact this
      · intro j hj
        have hj : (j : Int) < 0 ∨ ((j : Int) = 0 ∧ true = true) := hj
        obtain rfl : j = 0 := by omega
        exact Or.inl ⟨(show va_up pe 0 0 0 = 0 from vu_e), (show va_up yr 0 0 0 = 0 from vu_e), (show va_up yj 0 12 0 = 12 from vu_e)⟩
  · rw [if_neg (by rw [x1]; decide)]
    exact Or.inl ⟨rfl, rfl, x2, x3⟩

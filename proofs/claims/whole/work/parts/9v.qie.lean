theorem li_arrC {D : va_G} {cl : List vw_C} {ws : va_W} {H : Heap} {a n : Nat} {cA : ClassId} {g g2 : Nat → Option Nat} (hP : va_P D cl ws H) (k : Nat) (hk : ws[k]? = some (a, .inl (cA, n, .inr (.inr (.inr (.inr g)))))) (he : ∀ j : Nat, j < n → g j = g2 j) : va_P D cl (ws.set k (a, .inl (cA, n, .inr (.inr (.inr (.inr g2)))))) H := by
  intro i q hq
  by_cases e : i = k
  · subst e
    rw [List.getElem?_set_self (List.getElem?_eq_some_iff.mp hk).1] at hq
    cases hq
    have h0 := hP i _ hk
    have e3 : (fun (j : Fin n) => va_rf (g2 j.val)) = fun j => va_rf (g j.val) := funext fun j => by rw [he j.val j.isLt]
    have e2 : arrV cA n (fun j => va_rf (g2 j)) = arrV cA n (fun j => va_rf (g j)) := by unfold arrV; congr 1; exact congrArg Array.ofFn e3
    show H[a]? = some (arrV cA n (fun j => va_rf (g2 j)))
    rw [e2]
    exact h0
  · rw [List.getElem?_set_ne (Ne.symm e)] at hq
    exact hP i q hq
theorem nw_pm {X pl : va_W} {e : Nat × va_E} : ((X ++ pl) ++ [e]).Perm ((X ++ [e]) ++ pl) := by
  rw [List.append_assoc, List.append_assoc]
  exact List.Perm.append_left X List.perm_append_comm
theorem nw_P {D : va_G} {cs : List vw_C} {X pl : va_W} {e : Nat × va_E} {H : Heap} (hP : va_P D cs ((X ++ pl) ++ [e]) H) : va_P D cs ((X ++ [e]) ++ pl) H := pm_P nw_pm hP
theorem nw_D {A : Nat → Prop} {X pl : va_W} {e : Nat × va_E} (hD : va_D A ((X ++ pl) ++ [e])) : va_D A ((X ++ [e]) ++ pl) := pm_D nw_pm hD
def clZq (k : Nat) (cl : Nat → Nat) : va_W := (List.range k).map (fun j => (cl j, clE (0, 0, 0, 0, 0)))
theorem clZq_s {k q : Nat} {cl : Nat → Nat} : clZq (k + 1) (va_up cl k q) = clZq k cl ++ [(q, clE (0, 0, 0, 0, 0))] := by
  unfold clZq
  rw [List.range_succ, List.map_append]
  congr 1
  · refine List.map_congr_left (fun j hj => ?_)
    have := List.mem_range.mp hj
    unfold va_up
    rw [if_neg (by omega)]
  · show [(va_up cl k q k, clE (0, 0, 0, 0, 0))] = _
    unfold va_up
    rw [if_pos rfl]
theorem cn_pm {X : va_W} {cl : Nat → Nat} {k q : Nat} : ((X ++ [(q, clE (0, 0, 0, 0, 0))]) ++ clZq k cl).Perm (X ++ clZq (k + 1) (va_up cl k q)) := by
  rw [clZq_s, List.append_assoc]
  exact List.Perm.append_left X List.perm_append_comm
theorem cn_P {D : va_G} {cs : List vw_C} {X : va_W} {cl : Nat → Nat} {k q : Nat} {H : Heap} (hP : va_P D cs ((X ++ [(q, clE (0, 0, 0, 0, 0))]) ++ clZq k cl) H) : va_P D cs (X ++ clZq (k + 1) (va_up cl k q)) H := pm_P cn_pm hP
theorem cn_D {A : Nat → Prop} {X : va_W} {cl : Nat → Nat} {k q : Nat} (hD : va_D A ((X ++ [(q, clE (0, 0, 0, 0, 0))]) ++ clZq k cl)) : va_D A (X ++ clZq (k + 1) (va_up cl k q)) := pm_D cn_pm hD
theorem cn_0P {D : va_G} {cs : List vw_C} {X : va_W} {cl : Nat → Nat} {H : Heap} (hP : va_P D cs X H) : va_P D cs (X ++ clZq 0 cl) H := by
  show va_P D cs (X ++ []) H
  rw [List.append_nil]
  exact hP
theorem cn_0D {A : Nat → Prop} {X : va_W} {cl : Nat → Nat} (hD : va_D A X) : va_D A (X ++ clZq 0 cl) := by
  show va_D A (X ++ [])
  rw [List.append_nil]
  exact hD
theorem cn_c {cl : Nat → Nat} {i i2 : Int} {q : Nat} (h0 : 0 ≤ i) (e : i2 = i + 1) : ∀ j : Nat, j < 50 → va_up (fun j : Nat => if (j : Int) < i then some (cl j) else none) i.toNat (some q) j = if (j : Int) < i2 then some (va_up cl i.toNat q j) else none := by
  intro j _
  unfold va_up
  by_cases h : j = i.toNat
  · rw [if_pos h, if_pos h, if_pos (by omega)]
  · rw [if_neg h, if_neg h]
    show (if (j : Int) < i then some (cl j) else none) = _
    by_cases h2 : (j : Int) < i
    · rw [if_pos h2, if_pos (by omega)]
    · rw [if_neg h2, if_neg (by omega)]

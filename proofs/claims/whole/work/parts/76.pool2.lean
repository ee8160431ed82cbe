/-! one clause of the fifty taken out and put back -/
theorem pm_P {D : va_G} {cl : List vw_C} {ws ws2 : va_W} {H : Heap} (h : ws.Perm ws2) (hP : va_P D cl ws H) : va_P D cl ws2 H := by
  intro k q hq
  have h1 : q ∈ ws := h.mem_iff.mpr (List.mem_of_getElem? hq)
  obtain ⟨j, hj⟩ := List.getElem?_of_mem h1
  exact hP j q hj
theorem pm_D {A : Nat → Prop} {ws ws2 : va_W} (h : ws.Perm ws2) (hD : va_D A ws) : va_D A ws2 := by
  have h1 : ws.Pairwise (fun a b => a.1 ≠ b.1) := by
    rw [List.pairwise_iff_getElem]
    intro i j hi hj hij e
    have := hD.1 i j ws[i] ws[j] (List.getElem?_eq_getElem hi) (List.getElem?_eq_getElem hj) e
    omega
  have h2 : ws2.Pairwise (fun a b => a.1 ≠ b.1) := (h.pairwise_iff (fun q => q.symm)).mp h1
  rw [List.pairwise_iff_getElem] at h2
  refine ⟨?_, ?_⟩
  · intro i j p q hi hj e
    obtain ⟨li, ei⟩ := List.getElem?_eq_some_iff.mp hi
    obtain ⟨lj, ej⟩ := List.getElem?_eq_some_iff.mp hj
    rcases Nat.lt_trichotomy i j with c | c | c
    · exact absurd (by rw [ei, ej]; exact e) (h2 i j li lj c)
    · exact c
    · exact absurd (by rw [ei, ej]; exact e.symm) (h2 j i lj li c)
  · intro k q hq
    have h3 : q ∈ ws := h.mem_iff.mpr (List.mem_of_getElem? hq)
    obtain ⟨j, hj⟩ := List.getElem?_of_mem h3
    exact hD.2 j q hj
def plR (cl : Nat → Nat) (g : Nat → CEt) (k : Nat) : va_W := ((List.range 50).erase k).map (fun j => (cl j, clE (g j)))
theorem cl_pm {cl : Nat → Nat} {g : Nat → CEt} {k : Nat} (h : k < 50) : (clW cl g).Perm ((cl k, clE (g k)) :: plR cl g k) := by
  have := (List.perm_cons_erase (List.mem_range.mpr h)).map (fun j => (cl j, clE (g j)))
  exact this
theorem plR_up {cl : Nat → Nat} {g : Nat → CEt} {k : Nat} {v : CEt} : plR cl (va_up g k v) k = plR cl g k := by
  unfold plR
  refine List.map_congr_left (fun j hj => ?_)
  have hne : j ≠ k := (List.Nodup.mem_erase_iff List.nodup_range).mp hj |>.1
  unfold va_up
  rw [if_neg hne]
theorem pl_pm {X : va_W} {cl : Nat → Nat} {g : Nat → CEt} {k : Nat} (h : k < 50) : (X ++ clW cl g).Perm ((X ++ [(cl k, clE (g k))]) ++ plR cl g k) := by
  rw [List.append_assoc]
  exact List.Perm.append_left X (cl_pm h)
theorem pl_oP {D : va_G} {cs : List vw_C} {X : va_W} {cl : Nat → Nat} {g : Nat → CEt} {k : Nat} {H : Heap} (h : k < 50) (hP : va_P D cs (X ++ clW cl g) H) : va_P D cs ((X ++ [(cl k, clE (g k))]) ++ plR cl g k) H := pm_P (pl_pm h) hP
theorem pl_oD {A : Nat → Prop} {X : va_W} {cl : Nat → Nat} {g : Nat → CEt} {k : Nat} (h : k < 50) (hD : va_D A (X ++ clW cl g)) : va_D A ((X ++ [(cl k, clE (g k))]) ++ plR cl g k) := pm_D (pl_pm h) hD
theorem pl_cm {X : va_W} {cl : Nat → Nat} {g : Nat → CEt} {k : Nat} {v : CEt} (h : k < 50) : ((X ++ [(cl k, clE v)]) ++ plR cl g k).Perm (X ++ clW cl (va_up g k v)) := by
  have e : (cl k, clE v) = (cl k, clE (va_up g k v k)) := by unfold va_up; rw [if_pos rfl]
  rw [e, ← plR_up (v := v)]
  exact (pl_pm h).symm
theorem pl_cP {D : va_G} {cs : List vw_C} {X : va_W} {cl : Nat → Nat} {g : Nat → CEt} {k : Nat} {v : CEt} {H : Heap} (h : k < 50) (hP : va_P D cs ((X ++ [(cl k, clE v)]) ++ plR cl g k) H) : va_P D cs (X ++ clW cl (va_up g k v)) H := pm_P (pl_cm h) hP
theorem pl_cD {A : Nat → Prop} {X : va_W} {cl : Nat → Nat} {g : Nat → CEt} {k : Nat} {v : CEt} (h : k < 50) (hD : va_D A ((X ++ [(cl k, clE v)]) ++ plR cl g k)) : va_D A (X ++ clW cl (va_up g k v)) := pm_D (pl_cm h) hD

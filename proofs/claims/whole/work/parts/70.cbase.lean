/-! ===== the worlds while the objects are made: the cells 1 .. k ===== -/
def cs (k : Nat) (pp : Nat → Nat → Nat) : HS := (k, fun i => kTl.getD i 0, fun i => zTl.getD i 0, pp, fun _ _ => 0, fun _ _ => 0, 0, 0)
def dz (d : DA) (i : Nat) : DA := (fu d.1 i (fun _ => 0), fu d.2 i (fun _ => 0))
def Cl (k : Nat) (pp : Nat → Nat → Nat) : Prop := ∀ i j, pp i j ≤ k
theorem Cl.up {k : Nat} {pp : Nat → Nat → Nat} (h : Cl k pp) : Cl (k + 1) (fu pp (k + 1) (fun _ => 0)) := by
  intro i j
  by_cases hi : i = k + 1
  · subst hi; rw [fu_s]; exact Nat.zero_le _
  · rw [fu_n hi]; exact Nat.le_succ_of_le (h i j)
theorem Cl.put {k o j v : Nat} {pp : Nat → Nat → Nat} (h : Cl k pp) (hv : v ≤ k) : Cl k (fu pp o (fu (pp o) j v)) := by
  intro a b
  by_cases ha : a = o
  · subst ha
    rw [fu_s]
    by_cases hb : b = j
    · subst hb; rw [fu_s]; exact hv
    · rw [fu_n hb]; exact h a b
  · rw [fu_n ha]; exact h a b
theorem wl_up {G : GT} {ad : Nat → Nat} {k q : Nat} {pp : Nat → Nat → Nat} {d : DA} {e : va_E} (hcl : Cl k pp) (he : ce9 G (fu ad (k + 1) q) (wD (cs (k + 1) (fu pp (k + 1) (fun _ => 0))) (dz d (k + 1))) (k + 1) = e) : wl G (fu ad (k + 1) q) (wD (cs (k + 1) (fu pp (k + 1) (fun _ => 0))) (dz d (k + 1))) = wl G ad (wD (cs k pp) d) ++ [(q, e)] := by
  have e1 : nN (wD (cs k pp) d) = k := rfl
  have e2 : nN (wD (cs (k + 1) (fu pp (k + 1) (fun _ => 0))) (dz d (k + 1))) = k + 1 := rfl
  unfold wl
  rw [e1, e2, List.range_succ, List.map_append]
  refine congr (congrArg _ (List.map_congr_left fun i hi => ?_)) ?_
  · have h1 : i + 1 ≠ k + 1 := by have := List.mem_range.mp hi; omega
    rw [fu_n h1]
    refine congrArg _ (ce_ne rfl rfl ?_ ?_ (fun j => ?_))
    · show fu d.1 (k + 1) (fun _ => 0) (i + 1) = d.1 (i + 1)
      rw [fu_n h1]
    · show fu d.2 (k + 1) (fun _ => 0) (i + 1) = d.2 (i + 1)
      rw [fu_n h1]
    · show rf9 (fu ad (k + 1) q) (fu pp (k + 1) (fun _ => 0) (i + 1) j) = rf9 ad (pp (i + 1) j)
      rw [fu_n h1]
      have := hcl (i + 1) j
      exact rf_ne (by omega)
  · show [(fu ad (k + 1) q (k + 1), ce9 G (fu ad (k + 1) q) _ (k + 1))] = _
    rw [fu_s, he]

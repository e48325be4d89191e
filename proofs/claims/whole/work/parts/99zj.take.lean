/-! ===== the reference tells its groups ===== -/
abbrev Gm := (Nat → Int) × Nat
def bS (dl : Nat → Nat) (i j k : Nat) (s : Gm) : Gm := if s.1 (cl9 i j k) = -1 then (mk6 cl9 (mk6 cl9 s.1 i j k (s.2 : Int)) (dl i) (dl j) (dl k) (s.2 : Int), s.2 + 1) else s
def bK (dl : Nat → Nat) (i j k0 : Nat) (s : Gm) : Nat → Gm
  | 0 => s
  | m + 1 => bS dl i j (k0 + m) (bK dl i j k0 s m)
def bJ (dl : Nat → Nat) (lr i j0 : Nat) (s : Gm) : Nat → Gm
  | 0 => s
  | m + 1 => bK dl i (j0 + m) (j0 + m) (bJ dl lr i j0 s m) (lr - (j0 + m))
def bI (dl : Nat → Nat) (lr : Nat) (s : Gm) : Nat → Gm
  | 0 => s
  | m + 1 => bJ dl lr (1 + m) (1 + m) (bI dl lr s m) (lr - (1 + m))
def mdG (D : DA) (s : Gm) : DA := wA (wI D 113 36 (s.2 : Int)) 131 s.1
/-- the marks stay within what has been counted, the count within m -/
def Gb (m : Nat) (s : Gm) : Prop := (∀ q, q < 125 → -1 ≤ s.1 q ∧ s.1 q ≤ 1000) ∧ s.2 ≤ m
theorem Gb.up {m n : Nat} {s : Gm} (h : Gb m s) (hn : m ≤ n) : Gb n s := ⟨h.1, Nat.le_trans h.2 hn⟩
theorem bS_def {dl : Nat → Nat} {i j k : Nat} {s : Gm} : bS dl i j k s = if s.1 (cl9 i j k) = -1 then (mk6 cl9 (mk6 cl9 s.1 i j k (s.2 : Int)) (dl i) (dl j) (dl k) (s.2 : Int), s.2 + 1) else s := rfl
theorem Gb.bS9 {dl : Nat → Nat} {i j k m : Nat} {s : Gm} (h : Gb m s) (hm : m ≤ 500) : Gb (m + 1) (bS dl i j k s) := by
  rw [bS_def]
  by_cases c1 : s.1 (cl9 i j k) = -1
  · rw [if_pos c1]
    have hn := h.2
    exact ⟨fun q hq => mk6_bd (mk6_bd (h.1 q hq) (by omega)) (by omega), by show s.2 + 1 ≤ m + 1; omega⟩
  · rw [if_neg c1]; exact h.up (by omega)
theorem Gb.bK9 {dl : Nat → Nat} {i j k0 m : Nat} {s : Gm} (h : Gb m s) : ∀ n, m + n ≤ 500 → Gb (m + n) (bK dl i j k0 s n) := by
  intro n
  induction n with
  | zero => intro _; exact h
  | succ n ih => intro hn; exact (ih (by omega)).bS9 (by omega)
theorem x12_gstep {D : DA} {lr w i j k m : Nat} {s : Gm} (h2 : 2 ≤ lr) (h4 : lr ≤ 4) (hw : w ≤ 1) (hi : i < lr) (hj : j < lr) (hk : k < lr) (hs : Gb m s) : X12_tellGroups_b46 113 lr w i j k (mdG D s) = some (.inl ((k : Int) + 1, mdG D (bS (dl9 lr w) i j k s))) := by
  unfold X12_tellGroups_b46
  have ec : X12_cell (i : Int) j k (mdG D s) = some ((cl9 i j k : Nat) : Int) := by
    unfold X12_cell cl9
    refine congrArg some ?_
    omega
  have l : cl9 i j k < 125 := by unfold cl9; omega
  have e131 : (mdG D s).1 (113 + 18) = s.1 := by unfold mdG; rw [show (113 + 18 : Nat) = 131 from rfl, wA_at]
  have e36 : (mdG D s).1 113 36 = (s.2 : Int) := by unfold mdG; rw [wA_ne (by decide), wI_at, fu_s]
  have hq := hs.1 (cl9 i j k) l
  have dlt : ∀ a, a < lr → dl9 lr w a < 5 := fun a ha => by
    unfold dl9
    by_cases c1 : w = 1
    · rw [if_pos c1]
      by_cases c2 : a = lr - 2
      · rw [if_pos c2]; omega
      · rw [if_neg c2]
        by_cases c3 : a = lr - 1
        · rw [if_pos c3]; omega
        · rw [if_neg c3]; omega
    · rw [if_neg c1]; omega
  rw [gd_pos (by omega), if_neg (by omega), b1_pos ec, gd_pos (by omega), Int.toNat_natCast, e131, gd_pos (by omega), e36, bS_def]
  by_cases c1 : s.1 (cl9 i j k) = -1
  · have m1 := x12_putGroup (d := mdG D s) (a := i) (b := j) (c := k) (v := (s.2 : Int)) (by omega) (by omega) (by omega)
    have e131' : (mdG D s).1 131 = s.1 := e131
    rw [e131'] at m1
    rw [if_pos c1, if_pos c1, bd_pos m1, b1_pos (x12_dualBy h2 (by omega) hw (by omega)), b1_pos (x12_dualBy h2 (by omega) hw (by omega)), b1_pos (x12_dualBy h2 (by omega) hw (by omega))]
    generalize hB : wA (mdG D s) 131 (mk6 cl9 s.1 i j k (s.2 : Int)) = B
    have b36 : B.1 113 36 = (s.2 : Int) := by rw [← hB, wA_ne (by decide)]; exact e36
    have b131 : B.1 131 = mk6 cl9 s.1 i j k (s.2 : Int) := by rw [← hB, wA_at]
    have m2 := x12_putGroup (d := B) (a := dl9 lr w i) (b := dl9 lr w j) (c := dl9 lr w k) (v := (s.2 : Int)) (dlt i hi) (dlt j hj) (dlt k hk)
    rw [b131] at m2
    rw [b36, bd_pos m2, lt_pos]
    refine congrArg some (congrArg Sum.inl (congrArg (Prod.mk _) ?_))
    have q8 : (wA B 131 (mk6 cl9 (mk6 cl9 s.1 i j k (s.2 : Int)) (dl9 lr w i) (dl9 lr w j) (dl9 lr w k) (s.2 : Int))).1 113 36 = (s.2 : Int) := by rw [wA_ne (by decide)]; exact b36
    rw [q8]
    refine Prod.ext (funext fun c => ?_) (by rw [← hB]; rfl)
    unfold mdG
    by_cases y1 : c = 113
    · subst y1
      funext q
      rw [wI_at, wA_ne (by decide), wA_ne (by decide), wI_at, ← hB, wA_ne (by decide)]
      unfold mdG
      rw [wA_ne (by decide), wI_at]
      by_cases cq : q = 36
      · subst cq
        rw [fu_s, fu_s]
        show (s.2 : Int) + 1 = ((s.2 + 1 : Nat) : Int)
        omega
      · rw [fu_n cq, fu_n cq, fu_n cq]
    · rw [wI_ne y1]
      by_cases y2 : c = 131
      · subst y2; rw [wA_at, wA_at]
      · rw [wA_ne y2, wA_ne y2, wI_ne y1, ← hB, wA_ne y2]
        unfold mdG
        rw [wA_ne y2, wI_ne y1]
  · rw [if_neg c1, if_neg c1]

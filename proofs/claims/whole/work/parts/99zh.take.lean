/-! ===== the class arranges its groups ===== -/
/-- marks, firsts, how many -/
abbrev Gr := (Nat → Int) × (Nat → Int) × Nat
def aS (dl : Nat → Nat) (i j k : Nat) (s : Gr) : Gr := if s.1 (st9 i j k) = -1 then (if 10 ≤ s.2.2 then s else (mk6 st9 (mk6 st9 s.1 i j k (s.2.2 : Int)) (dl i) (dl j) (dl k) (s.2.2 : Int), fu s.2.1 s.2.2 ((st9 i j k : Nat) : Int), s.2.2 + 1)) else s
def aK (dl : Nat → Nat) (i j k0 : Nat) (s : Gr) : Nat → Gr
  | 0 => s
  | m + 1 => aS dl i j (k0 + m) (aK dl i j k0 s m)
def aJ (dl : Nat → Nat) (lr i j0 : Nat) (s : Gr) : Nat → Gr
  | 0 => s
  | m + 1 => aK dl i (j0 + m) (j0 + m) (aJ dl lr i j0 s m) (lr - (j0 + m))
def aI (dl : Nat → Nat) (lr : Nat) (s : Gr) : Nat → Gr
  | 0 => s
  | m + 1 => aJ dl lr (1 + m) (1 + m) (aI dl lr s m) (lr - (1 + m))
/-- the lister holding s -/
def lsG (D : DA) (s : Gr) : DA := wA (wA (wI D 46 8 (s.2.2 : Int)) 49 s.1) 50 s.2.1
theorem lsG_o {D : DA} {s : Gr} {c : Nat} (h1 : c ≠ 46) (h2 : c ≠ 49) (h3 : c ≠ 50) : (lsG D s).1 c = D.1 c := by unfold lsG; rw [wA_ne h3, wA_ne h2, wI_ne h1]
theorem lsG_46 {D : DA} {s : Gr} {j : Nat} (h : j ≠ 8) : (lsG D s).1 46 j = D.1 46 j := by unfold lsG; rw [wA_ne (by decide), wA_ne (by decide), wI_at, fu_n h]
theorem lsG_8 {D : DA} {s : Gr} : (lsG D s).1 46 8 = (s.2.2 : Int) := by unfold lsG; rw [wA_ne (by decide), wA_ne (by decide), wI_at, fu_s]
theorem lsG_49 {D : DA} {s : Gr} : (lsG D s).1 49 = s.1 := by unfold lsG; rw [wA_ne (by decide), wA_at]
theorem lsG_50 {D : DA} {s : Gr} : (lsG D s).1 50 = s.2.1 := by unfold lsG; rw [wA_at]
theorem lsG_eq {D E : DA} {s : Gr} (h2 : E.2 = D.2) (ho : ∀ c, c ≠ 46 → c ≠ 49 → c ≠ 50 → E.1 c = D.1 c) (h46 : ∀ j, j ≠ 8 → E.1 46 j = D.1 46 j) (h8 : E.1 46 8 = (s.2.2 : Int)) (h49 : E.1 49 = s.1) (h50 : E.1 50 = s.2.1) : E = lsG D s := by
  refine Prod.ext (funext fun c => ?_) (by rw [h2]; rfl)
  by_cases c1 : c = 46
  · subst c1
    funext j
    by_cases cj : j = 8
    · subst cj; rw [h8, lsG_8]
    · rw [h46 j cj, lsG_46 cj]
  · by_cases c2 : c = 49
    · subst c2; rw [h49, lsG_49]
    · by_cases c3 : c = 50
      · subst c3; rw [h50, lsG_50]
      · rw [ho c c1 c2 c3, lsG_o c1 c2 c3]
def Gd (s : Gr) : Prop := (∀ q, q < 64 → -1 ≤ s.1 q ∧ s.1 q ≤ 10) ∧ s.2.2 ≤ 10
theorem x2_step {D : DA} {lr i j k : Nat} {dl : Nat → Nat} {s : Gr} (hlr : D.1 46 0 = lr) (h4 : lr ≤ 4) (hd : ∀ a, a < lr → D.1 48 a = (dl a : Nat) ∧ dl a < lr) (hi : i < lr) (hj : j < lr) (hk : k < lr) (hs : Gd s) : X2_arrange_b97 46 i j k (lsG D s) = some (.inl ((k : Int) + 1, lsG D (aS dl i j k s))) := by
  unfold X2_arrange_b97
  have e0 : (lsG D s).1 46 0 = lr := by rw [lsG_46 (by decide)]; exact hlr
  have es : X2_set (i : Int) j k (lsG D s) = some ((st9 i j k : Nat) : Int) := by
    unfold X2_set st9
    refine congrArg some ?_
    omega
  have l : st9 i j k < 64 := by unfold st9; omega
  have e49 : (lsG D s).1 (46 + 3) = s.1 := lsG_49
  have hq := hs.1 (st9 i j k) l
  have hn := hs.2
  rw [e0, gd_pos (by omega), if_neg (by omega), b1_pos es, gd_pos (by omega), Int.toNat_natCast, e49, gd_pos (by omega), lsG_8, Int.toNat_natCast]
  unfold aS
  by_cases c1 : s.1 (st9 i j k) = -1
  · rw [if_pos c1, if_pos c1, gd_pos (by omega)]
    by_cases c2 : 10 ≤ s.2.2
    · rw [if_pos (by omega), if_pos c2]
    · rw [if_neg (by omega), if_neg c2, b1_pos es, gd_pos (by omega), lt_pos]
      generalize hA : wI (lsG D s) (46 + 4) s.2.2 ((st9 i j k : Nat) : Int) = A
      have a8 : A.1 46 8 = (s.2.2 : Int) := by rw [← hA, wI_ne (by decide)]; exact lsG_8
      have a49 : A.1 49 = s.1 := by rw [← hA, wI_ne (by decide)]; exact lsG_49
      have a50 : A.1 50 = fu s.2.1 s.2.2 ((st9 i j k : Nat) : Int) := by
        rw [← hA]
        show (wI (lsG D s) 50 s.2.2 ((st9 i j k : Nat) : Int)).1 50 = _
        rw [wI_at, lsG_50]
      have ao : ∀ c, c ≠ 46 → c ≠ 49 → c ≠ 50 → A.1 c = D.1 c := fun c y1 y2 y3 => by rw [← hA, wI_ne y3, lsG_o y1 y2 y3]
      have a46 : ∀ j, j ≠ 8 → A.1 46 j = D.1 46 j := fun j y => by rw [← hA, wI_ne (by decide), lsG_46 y]
      have m1 := x2_mark (d := A) (a := i) (b := j) (c := k) (by omega) (by omega) (by omega)
      rw [a49, a8] at m1
      rw [bd_pos m1]
      generalize hB : wA A 49 (mk6 st9 s.1 i j k (s.2.2 : Int)) = B
      have b48 : B.1 (46 + 2) = D.1 48 := by rw [← hB, wA_ne (by decide)]; exact ao 48 (by decide) (by decide) (by decide)
      have b49 : B.1 49 = mk6 st9 s.1 i j k (s.2.2 : Int) := by rw [← hB, wA_at]
      have b8 : B.1 46 8 = (s.2.2 : Int) := by rw [← hB, wA_ne (by decide)]; exact a8
      have m2 := x2_mark (d := B) (a := dl i) (b := dl j) (c := dl k) (by have := (hd i hi).2; omega) (by have := (hd j hj).2; omega) (by have := (hd k hk).2; omega)
      rw [b49, b8] at m2
      rw [gd_pos (by omega), gd_pos (by omega), gd_pos (by omega), b48, Int.toNat_natCast, Int.toNat_natCast, Int.toNat_natCast, (hd i hi).1, (hd j hj).1, (hd k hk).1, bd_pos m2, lt_pos]
      refine congrArg some (congrArg Sum.inl (congrArg (Prod.mk _) ?_))
      have q8 : (wA B 49 (mk6 st9 (mk6 st9 s.1 i j k (s.2.2 : Int)) (dl i) (dl j) (dl k) (s.2.2 : Int))).1 46 8 = (s.2.2 : Int) := by rw [wA_ne (by decide)]; exact b8
      rw [q8]
      refine lsG_eq (by rw [← hB, ← hA]; rfl) (fun c y1 y2 y3 => ?_) (fun j y => ?_) ?_ ?_ ?_
      · rw [wI_ne y1, wA_ne y2, ← hB, wA_ne y2, ao c y1 y2 y3]
      · rw [wI_at, fu_n y, wA_ne (by decide), ← hB, wA_ne (by decide), a46 j y]
      · rw [wI_at, fu_s]
        show (s.2.2 : Int) + 1 = ((s.2.2 + 1 : Nat) : Int)
        omega
      · rw [wI_ne (by decide), wA_at]
      · rw [wI_ne (by decide), wA_ne (by decide), ← hB, wA_ne (by decide), a50]
  · rw [if_neg c1, if_neg c1]

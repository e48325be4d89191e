/-! ===== groups of cells, on both sides ===== -/
/-- the partner of c when w of the last two kinds are partners -/
def dl9 (lr w c : Nat) : Nat := if w = 1 then (if c = lr - 2 then lr - 1 else if c = lr - 1 then lr - 2 else c) else c
def st9 (a b c : Nat) : Nat := 16 * a + 4 * b + c
def cl9 (a b c : Nat) : Nat := (a * 5 + b) * 5 + c
/-- all six orders marked -/
def mk6 (ix : Nat → Nat → Nat → Nat) (f : Nat → Int) (a b c : Nat) (v : Int) : Nat → Int := fu (fu (fu (fu (fu (fu f (ix a b c) v) (ix a c b) v) (ix b a c) v) (ix b c a) v) (ix c a b) v) (ix c b a) v
theorem wI_A {d : DA} {c k : Nat} {v : Int} : wI d c k v = wA d c (fu (d.1 c) k v) := by
  have := wA_wI (d := d) (c := c) (f := d.1 c) (k := k) (v := v)
  rw [wA_same] at this
  exact this
theorem x2_mark {d : DA} {a b c : Nat} (ha : a < 4) (hb : b < 4) (hc : c < 4) : X2_mark 46 a b c d = some ((), wA d 49 (mk6 st9 (d.1 49) a b c (d.1 46 8))) := by
  have e : ∀ a b c : Nat, ((16 * (a : Int)) + (4 * (b : Int))) + (c : Int) = ((st9 a b c : Nat) : Int) := fun a b c => by unfold st9; omega
  have l : ∀ a b c : Nat, a < 4 → b < 4 → c < 4 → st9 a b c < 64 := fun a b c h1 h2 h3 => by unfold st9; omega
  have r : ∀ f, (wA d 49 f).1 46 8 = d.1 46 8 := fun f => by rw [wA_ne (by decide)]
  have l1 := l a b c ha hb hc
  have l2 := l a c b ha hc hb
  have l3 := l b a c hb ha hc
  have l4 := l b c a hb hc ha
  have l5 := l c a b hc ha hb
  have l6 := l c b a hc hb ha
  unfold X2_mark X2_set
  rw [b1_pos rfl, e a b c, gd_pos (by omega), lt_pos, Int.toNat_natCast, show (46 + 3 : Nat) = 49 from rfl, wI_A, b1_pos rfl, e a c b, gd_pos (by omega), lt_pos, Int.toNat_natCast, r, wA_wI, b1_pos rfl, e b a c, gd_pos (by omega), lt_pos, Int.toNat_natCast, r, wA_wI, b1_pos rfl, e b c a, gd_pos (by omega), lt_pos, Int.toNat_natCast, r, wA_wI, b1_pos rfl, e c a b, gd_pos (by omega), lt_pos, Int.toNat_natCast, r, wA_wI, b1_pos rfl, e c b a, gd_pos (by omega), lt_pos, Int.toNat_natCast, r, wA_wI]
  rfl
theorem x12_putGroup {d : DA} {a b c : Nat} {v : Int} (ha : a < 5) (hb : b < 5) (hc : c < 5) : X12_putGroup 113 a b c v d = some ((), wA d 131 (mk6 cl9 (d.1 131) a b c v)) := by
  have e : ∀ a b c : Nat, ((((a : Int) * 5) + (b : Int)) * 5) + (c : Int) = ((cl9 a b c : Nat) : Int) := fun a b c => by unfold cl9; omega
  have l : ∀ a b c : Nat, a < 5 → b < 5 → c < 5 → cl9 a b c < 125 := fun a b c h1 h2 h3 => by unfold cl9; omega
  have l1 := l a b c ha hb hc
  have l2 := l a c b ha hc hb
  have l3 := l b a c hb ha hc
  have l4 := l b c a hb hc ha
  have l5 := l c a b hc ha hb
  have l6 := l c b a hc hb ha
  unfold X12_putGroup X12_cell
  rw [b1_pos rfl, e a b c, gd_pos (by omega), lt_pos, Int.toNat_natCast, show (113 + 18 : Nat) = 131 from rfl, wI_A, b1_pos rfl, e a c b, gd_pos (by omega), lt_pos, Int.toNat_natCast, wA_wI, b1_pos rfl, e b a c, gd_pos (by omega), lt_pos, Int.toNat_natCast, wA_wI, b1_pos rfl, e b c a, gd_pos (by omega), lt_pos, Int.toNat_natCast, wA_wI, b1_pos rfl, e c a b, gd_pos (by omega), lt_pos, Int.toNat_natCast, wA_wI, b1_pos rfl, e c b a, gd_pos (by omega), lt_pos, Int.toNat_natCast, wA_wI]
  rfl
theorem x12_dualBy {d : DA} {lr w c : Nat} (h2 : 2 ≤ lr) (h4 : lr ≤ 5) (hw : w ≤ 1) (hc : c < 5) : X12_dualBy w lr c d = some ((dl9 lr w c : Nat) : Int) := by
  unfold X12_dualBy X12_dualBy_j18 X12_dualBy_j36 dl9
  by_cases c1 : w = 1
  · by_cases c2 : c = lr - 2
    · rw [if_pos c1, if_pos c2, gd_pos (by omega), if_pos (by omega), gd_pos (by omega), if_pos (by omega)]
      refine congrArg some ?_
      omega
    · by_cases c3 : c = lr - 1
      · rw [if_pos c1, if_neg c2, if_pos c3, gd_pos (by omega), if_pos (by omega), gd_pos (by omega), if_neg (by omega), gd_pos (by omega), if_pos (by omega), gd_pos (by omega), if_pos (by omega)]
        refine congrArg some ?_
        omega
      · rw [if_pos c1, if_neg c2, if_neg c3, gd_pos (by omega), if_pos (by omega), gd_pos (by omega), if_neg (by omega), gd_pos (by omega), if_pos (by omega), gd_pos (by omega), if_neg (by omega)]
  · rw [if_neg c1, gd_pos (by omega), if_neg (by omega), gd_pos (by omega), if_neg (by omega)]

/-! ===== figures of a code ===== -/
/-- the digits of c to the base B, the last group first -/
def dg9 (B : Nat) (c : Nat) (n g : Nat) : Nat := c / B ^ (n - 1 - g) % B
theorem dg_step {B n g : Nat} (hg : g < n) (c : Nat) : c / B ^ (n - 1 - g) % B = dg9 B c n g := rfl
/-- a row of figures, those from m on written -/
def fgR (f : Nat → Int) (B c n m : Nat) : Nat → Int := fun q => if m ≤ q ∧ q < n then (dg9 B c n q : Int) else f q
theorem fgR_s {f : Nat → Int} {B c n m : Nat} (hm : m < n) : fu (fgR f B c n (m + 1)) m (dg9 B c n m : Int) = fgR f B c n m := funext fun q => by
  rw [fu_app]
  unfold fgR
  by_cases e : q = m
  · subst e; rw [if_pos rfl, if_pos ⟨Nat.le_refl _, hm⟩]
  · rw [if_neg e]
    by_cases c : m + 1 ≤ q ∧ q < n
    · rw [if_pos c, if_pos (by omega)]
    · rw [if_neg c, if_neg (by omega)]
theorem fgR_e {f : Nat → Int} {B c n : Nat} : fgR f B c n n = f := funext fun q => if_neg (by omega)
theorem x2_figs {d : DA} {lb code n zc : Nat} (hb : d.1 46 1 = lb) (hl : lb ≤ 5) (hn : n ≤ 10) (h1 : 1 ≤ n) (hc : code ≤ 100000) {Y : Type} (k : DA → Option Y) : lpE (fun q => X2_fill_b32 46 5 zc q.1 q.2.1 q.2.2) ((code : Int), ((n : Int) - 1), d) k = k (wA d 51 (fgR (d.1 51) (lb + 1) code n 0)) := by
  refine lpE_for (fun m => (((code / (lb + 1) ^ m : Nat) : Int), ((n : Int) - 1 - (m : Int)), wA d 51 (fgR (d.1 51) (lb + 1) code n (n - m)))) n _ ?_ (by omega) (fun m hm => ?_) ?_
  · rw [Nat.sub_zero, fgR_e, wA_same]; simp
  · have hq : code / (lb + 1) ^ m ≤ code := Nat.div_le_self _ _
    generalize hQ : code / (lb + 1) ^ m = Q at hq
    have e1 : (wA d 51 (fgR (d.1 51) (lb + 1) code n (n - m))).1 46 1 = lb := by rw [wA_ne (by decide)]; exact hb
    have hB : ((lb : Int) + 1) = ((lb + 1 : Nat) : Int) := rfl
    show X2_fill_b32 46 5 zc (Q : Int) ((n : Int) - 1 - (m : Int)) _ = _
    unfold X2_fill_b32
    have e2 : ∀ g, (wI (wA d 51 g) (46 + 5) (Int.toNat ((n : Int) - 1 - (m : Int))) (Int.tmod (Q : Int) ((lb : Int) + 1))).1 46 1 = lb := fun g => by
      rw [wI_ne (by decide), wA_ne (by decide)]; exact hb
    rw [gd_pos (by omega), if_neg (by omega), e1, gd_pos (by unfold dvg; omega), gd_pos (by omega), lt_pos, e2, gd_pos (by unfold dvq; omega), lt_pos]
    have e3 : (n : Int) - 1 - (m : Int) = ((n - (m + 1) : Nat) : Int) := by omega
    rw [e3, Int.toNat_natCast, hB, tmod_nat, show (46 + 5 : Nat) = 51 from rfl, wA_wI]
    have e4 : Q % (lb + 1) = dg9 (lb + 1) code n (n - (m + 1)) := by
      unfold dg9
      rw [show n - 1 - (n - (m + 1)) = m by omega, hQ]
    have e5 : n - m = n - (m + 1) + 1 := by omega
    rw [e4, e5, fgR_s (by omega)]
    have e6 : code / (lb + 1) ^ (m + 1) = Q / (lb + 1) := by rw [Nat.pow_succ, ← Nat.div_div_eq_div_mul, hQ]
    refine congrArg some (congrArg Sum.inl (Prod.ext ?_ (Prod.ext ?_ rfl)))
    · show (Q : Int) / ((lb + 1 : Nat) : Int) = ((code / (lb + 1) ^ (m + 1) : Nat) : Int)
      rw [e6]; rfl
    · show ((n - (m + 1) : Nat) : Int) + (-1) = (n : Int) - 1 - ((m + 1 : Nat) : Int)
      omega
  · show X2_fill_b32 46 5 zc _ ((n : Int) - 1 - (n : Int)) _ = _
    unfold X2_fill_b32
    rw [gd_pos (by omega), if_pos (by omega), Nat.sub_self]
theorem x12_figs {d : DA} {lb code n : Nat} (hN : d.1 113 36 = n) (hl : lb ≤ 5) (hn : n ≤ 10) (h1 : 1 ≤ n) (hc : code ≤ 100000) : X12_tellFigures 113 code lb d = some ((), wA d 132 (fgR (d.1 132) (lb + 1) code n 0)) := by
  unfold X12_tellFigures
  rw [lt_pos, hN]
  refine lpE_for (fun m => (((code / (lb + 1) ^ m : Nat) : Int), ((n : Int) - 1 - (m : Int)), wA d 132 (fgR (d.1 132) (lb + 1) code n (n - m)))) n _ ?_ (by omega) (fun m hm => ?_) ?_
  · rw [Nat.sub_zero, fgR_e, wA_same]; simp
  · have hq : code / (lb + 1) ^ m ≤ code := Nat.div_le_self _ _
    generalize hQ : code / (lb + 1) ^ m = Q at hq
    have hB : ((lb : Int) + 1) = ((lb + 1 : Nat) : Int) := rfl
    show X12_tellFigures_b10 113 lb (Q : Int) ((n : Int) - 1 - (m : Int)) _ = _
    unfold X12_tellFigures_b10
    rw [gd_pos (by omega), if_neg (by omega), gd_pos (by unfold dvg; omega), gd_pos (by omega), lt_pos, gd_pos (by unfold dvq; omega), lt_pos]
    have e3 : (n : Int) - 1 - (m : Int) = ((n - (m + 1) : Nat) : Int) := by omega
    rw [e3, Int.toNat_natCast, hB, tmod_nat, show (113 + 19 : Nat) = 132 from rfl, wA_wI]
    have e4 : Q % (lb + 1) = dg9 (lb + 1) code n (n - (m + 1)) := by
      unfold dg9
      rw [show n - 1 - (n - (m + 1)) = m by omega, hQ]
    have e5 : n - m = n - (m + 1) + 1 := by omega
    rw [e4, e5, fgR_s (by omega)]
    have e6 : code / (lb + 1) ^ (m + 1) = Q / (lb + 1) := by rw [Nat.pow_succ, ← Nat.div_div_eq_div_mul, hQ]
    refine congrArg some (congrArg Sum.inl (Prod.ext ?_ (Prod.ext ?_ rfl)))
    · show (Q : Int) / ((lb + 1 : Nat) : Int) = ((code / (lb + 1) ^ (m + 1) : Nat) : Int)
      rw [e6]; rfl
    · show ((n - (m + 1) : Nat) : Int) + (-1) = (n : Int) - 1 - ((m + 1 : Nat) : Int)
      omega
  · show X12_tellFigures_b10 113 lb _ ((n : Int) - 1 - (n : Int)) _ = _
    unfold X12_tellFigures_b10
    rw [gd_pos (by omega), if_pos (by omega), Nat.sub_self]
/-! ===== a table laid out of figures ===== -/
def tkV (lr w : Nat) (fg : Nat → Int) (i j k : Nat) : Int := if k = 0 then (if dl9 lr w i = j then 1 else 0) else fg (grp lr w i j (dl9 lr w k))
def In3 (lr i j k : Nat) : Prop := (1 ≤ i ∧ i < lr) ∧ (1 ≤ j ∧ j < lr) ∧ k < lr
def Wt (V : Nat → Nat → Nat → Int) (lr : Nat) (f0 : Nat → Int) (S : Nat → Nat → Nat → Prop) (f : Nat → Int) : Prop := (∀ i j k, In3 lr i j k → S i j k → f (ti i j k) = V i j k) ∧ ∀ q, (∀ i j k, In3 lr i j k → q ≠ ti i j k) → f q = f0 q
theorem Wt.sub {V : Nat → Nat → Nat → Int} {lr : Nat} {f0 f : Nat → Int} {S S' : Nat → Nat → Nat → Prop} (h : Wt V lr f0 S f) (hS : ∀ i j k, In3 lr i j k → S' i j k → S i j k) : Wt V lr f0 S' f := ⟨fun i j k hi z => h.1 i j k hi (hS i j k hi z), h.2⟩
theorem Wt.put {V : Nat → Nat → Nat → Int} {lr : Nat} {f0 f : Nat → Int} {S S' : Nat → Nat → Nat → Prop} (h : Wt V lr f0 S f) (h5 : lr ≤ 5) {i j k : Nat} {v : Int} (hi : In3 lr i j k) (hv : v = V i j k) (hS : ∀ i' j' k', In3 lr i' j' k' → S' i' j' k' → S i' j' k' ∨ (i' = i ∧ j' = j ∧ k' = k)) : Wt V lr f0 S' (fu f (ti i j k) v) := by
  refine ⟨fun i' j' k' hi' z => ?_, fun q hq => ?_⟩
  · rw [fu_app]
    by_cases e : ti i' j' k' = ti i j k
    · obtain ⟨a, b, c⟩ := hi
      obtain ⟨a', b', c'⟩ := hi'
      obtain ⟨rfl, rfl, rfl⟩ := ti_inj (by omega) (by omega) (by omega) (by omega) e
      rw [if_pos rfl, hv]
    · rw [if_neg e]
      rcases hS i' j' k' hi' z with y | ⟨rfl, rfl, rfl⟩
      · exact h.1 i' j' k' hi' y
      · exact absurd rfl e
  · rw [fu_app, if_neg (hq i j k hi)]
    exact h.2 q hq

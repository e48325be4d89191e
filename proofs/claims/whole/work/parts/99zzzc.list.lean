/-! ===== list: how many at most ===== -/
theorem cn9_le9 {P : Nat → Bool} {a : Nat} : ∀ m, cn9 P (a + m) ≤ cn9 P a + m := by
  intro m
  induction m with
  | zero => exact Nat.le_refl _
  | succ m ih =>
    rw [show a + (m + 1) = (a + m) + 1 from rfl, cn9_s]
    split <;> omega
/-- a bound by the rows' beginnings: bad L Y: no good row begins with the L figures of Y -/
def tb9 (bad : Nat → Nat → Bool) : Nat → Nat → Nat → Nat
  | 0, _, _ => 1
  | m + 1, L, Y => if bad L Y = true then 0 else tb9 bad m (L + 1) (3 * Y) + tb9 bad m (L + 1) (3 * Y + 1) + tb9 bad m (L + 1) (3 * Y + 2)
theorem tb9_ok {G : Nat → Bool} {bad : Nat → Nat → Bool} {N : Nat} (h : ∀ L Y X, L ≤ N → bad L Y = true → Y * 3 ^ (N - L) ≤ X → X < (Y + 1) * 3 ^ (N - L) → ¬ G X = true) : ∀ m L Y, L + m = N → cn9 G ((Y + 1) * 3 ^ m) ≤ cn9 G (Y * 3 ^ m) + tb9 bad m L Y := by
  intro m
  induction m with
  | zero =>
    intro L Y hL
    rw [Nat.pow_zero, Nat.mul_one, Nat.mul_one]
    exact cn9_le9 1
  | succ m ih =>
    intro L Y hL
    unfold tb9
    have e3 : 3 ^ (m + 1) = 3 ^ m * 3 := Nat.pow_succ ..
    by_cases c : bad L Y = true
    · rw [if_pos c]
      have hN : N - L = m + 1 := by omega
      have hh := fun X => h L Y X (by omega) c
      rw [hN] at hh
      have e : (Y + 1) * 3 ^ (m + 1) = Y * 3 ^ (m + 1) + 3 ^ (m + 1) := by rw [Nat.add_mul, Nat.one_mul]
      have := cn9_none (G := G) (3 ^ (m + 1)) (Y * 3 ^ (m + 1)) (fun X h1 h2 => hh X h1 (by rw [e]; exact h2))
      rw [e, this]
      exact Nat.le_refl _
    · rw [if_neg c]
      have i0 := ih (L + 1) (3 * Y) (by omega)
      have i1 : cn9 G ((3 * Y + 2) * 3 ^ m) ≤ cn9 G ((3 * Y + 1) * 3 ^ m) + tb9 bad m (L + 1) (3 * Y + 1) := ih (L + 1) (3 * Y + 1) (by omega)
      have i2 := ih (L + 1) (3 * Y + 2) (by omega)
      have a0 : Y * 3 ^ (m + 1) = (3 * Y) * 3 ^ m := by rw [e3]; rw [← Nat.mul_assoc, Nat.mul_right_comm, Nat.mul_comm Y 3]
      have a3 : (Y + 1) * 3 ^ (m + 1) = (3 * Y + 2 + 1) * 3 ^ m := by rw [e3, ← Nat.mul_assoc, Nat.mul_right_comm]; congr 1; omega
      rw [a0, a3]
      omega
theorem tb9_all {G : Nat → Bool} {bad : Nat → Nat → Bool} {N : Nat} (h : ∀ L Y X, L ≤ N → bad L Y = true → Y * 3 ^ (N - L) ≤ X → X < (Y + 1) * 3 ^ (N - L) → ¬ G X = true) : cn9 G (3 ^ N) ≤ tb9 bad N 0 0 := by
  have := tb9_ok h N 0 0 (by omega)
  rw [Nat.zero_add, Nat.one_mul, Nat.zero_mul] at this
  have z : cn9 G 0 = 0 := rfl
  omega

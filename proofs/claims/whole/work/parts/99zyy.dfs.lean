/-! ===== a search by rows, level by level ===== -/
/-- steps for one number at the level m from the last -/
def stp9 (B : Nat) : Nat → Nat
  | 0 => 1
  | m + 1 => 1 + (B * stp9 B m + 1)
/-- steps left above a level -/
def pq9 (B L : Nat) : Nat → Nat → Nat
  | 0, _ => 0
  | g + 1, Y => pq9 B L g (Y / B) + (B - 1 - Y % B) * stp9 B (L - 1 - g) + 1
def rem9 (B L g Y t : Nat) : Nat := pq9 B L g Y + (B - t) * stp9 B (L - 1 - g) + 1
theorem stp9_pos {B : Nat} : ∀ m, 1 ≤ stp9 B m := by
  intro m
  cases m with
  | zero => exact Nat.le_refl 1
  | succ m => unfold stp9; omega
theorem pr_ch {B L g Y t : Nat} (ht : t < B) : pq9 B L (g + 1) (Y * B + t) = pq9 B L g Y + (B - 1 - t) * stp9 B (L - 1 - g) + 1 := by
  have e1 : (Y * B + t) / B = Y := by rw [Nat.mul_comm Y B, Nat.mul_add_div (by omega), Nat.div_eq_of_lt ht, Nat.add_zero]
  have e2 : (Y * B + t) % B = t := by rw [Nat.mul_comm Y B, Nat.mul_add_mod, Nat.mod_eq_of_lt ht]
  show pq9 B L g ((Y * B + t) / B) + (B - 1 - (Y * B + t) % B) * stp9 B (L - 1 - g) + 1 = _
  rw [e1, e2]
theorem rm_stay {B L g Y t : Nat} (ht : t < B) : rem9 B L g Y (t + 1) < rem9 B L g Y t := by
  unfold rem9
  have e : B - t = (B - (t + 1)) + 1 := by omega
  have := stp9_pos (B := B) (L - 1 - g)
  rw [e, Nat.add_mul, Nat.one_mul]
  omega
theorem rm_down {B L g Y t : Nat} (ht : t < B) (hg : g + 1 < L) : rem9 B L (g + 1) (Y * B + t) 0 < rem9 B L g Y t := by
  unfold rem9
  rw [pr_ch ht]
  have e : L - 1 - g = (L - 1 - (g + 1)) + 1 := by omega
  have e2 : B - t = (B - 1 - t) + 1 := by omega
  have e3 : stp9 B (L - 1 - g) = 1 + (B * stp9 B (L - 1 - (g + 1)) + 1) := by rw [e]; rfl
  rw [e2, Nat.add_mul, Nat.one_mul, Nat.sub_zero]
  omega
theorem rm_up {B L g Y w : Nat} (hw : w < B) : rem9 B L g Y (w + 1) < rem9 B L (g + 1) (Y * B + w) B := by
  unfold rem9
  rw [pr_ch hw, Nat.sub_self, Nat.zero_mul]
  have e : B - (w + 1) = B - 1 - w := by omega
  rw [e]
  omega
theorem dfs9 {H : Type} {b : Int × Int × H → Option ((Int × Int × H) ⊕ H)} (B L : Nat) (R : H → Nat → Nat → Nat → Prop) (Fin : H → Prop) (hL : 1 ≤ L) (hM : B * stp9 B (L - 1) + 1 < 1000000)
    (hov : ∀ g Y H s, g < L → Y < B ^ g → R H g Y B → s < 1000000 → ∃ H', b ((g : Int), ((s : Nat) : Int), H) = some (.inl ((g : Int) + (-1), (s : Int) + 1, H')) ∧ (g = 0 → Fin H') ∧ ∀ g' Y' w, g = g' + 1 → Y = Y' * B + w → w < B → R H' g' Y' (w + 1))
    (htr : ∀ g Y t H s, g < L → t < B → Y < B ^ g → R H g Y t → s < 1000000 → (∃ H', b ((g : Int), ((s : Nat) : Int), H) = some (.inl ((g : Int), (s : Int) + 1, H')) ∧ R H' g Y (t + 1)) ∨ (g + 1 < L ∧ ∃ H', b ((g : Int), ((s : Nat) : Int), H) = some (.inl ((g : Int) + 1, (s : Int) + 1, H')) ∧ R H' (g + 1) (Y * B + t) 0))
    (hex : ∀ H s, s < 1000000 → Fin H → b (-1, ((s : Nat) : Int), H) = some (.inr H)) {Y : Type} {k : H → Option Y} {H0 : H} (h0 : R H0 0 0 0) : ∃ H', lpE b (0, 0, H0) k = k H' ∧ Fin H' := by
  have T0 : rem9 B L 0 0 0 = B * stp9 B (L - 1) + 1 := by
    show 0 + (B - 0) * stp9 B (L - 1 - 0) + 1 = _
    rw [Nat.sub_zero, Nat.sub_zero, Nat.zero_add]
  refine lpE_may (fun i (s : Int × Int × H) => s.2.1 = (i : Int) ∧ ((s.1 = -1 ∧ Fin s.2.2) ∨ ∃ g Y t : Nat, s.1 = (g : Int) ∧ g < L ∧ Y < B ^ g ∧ t ≤ B ∧ R s.2.2 g Y t ∧ i + rem9 B L g Y t ≤ rem9 B L 0 0 0)) Fin (rem9 B L 0 0 0) (by omega) ⟨rfl, Or.inr ⟨0, 0, 0, rfl, hL, by rw [Nat.pow_zero]; decide, Nat.zero_le _, h0, by omega⟩⟩ (fun i s hi hI => ?_) (fun s hI => ?_)
  · obtain ⟨v2, v3, K⟩ := s
    obtain ⟨i1, i2⟩ := hI
    dsimp only at i1 i2 ⊢
    subst i1
    rcases i2 with ⟨rfl, i3⟩ | ⟨g, Y, t, rfl, g1, g2, g3, g4, g5⟩
    · exact Or.inr ⟨K, hex K i (by omega) i3, i3⟩
    · left
      by_cases ct : t < B
      · rcases htr g Y t K i g1 ct g2 g4 (by omega) with ⟨K', e1, e2⟩ | ⟨gl, K', e1, e2⟩
        · have := rm_stay (B := B) (L := L) (g := g) (Y := Y) ct
          exact ⟨_, e1, rfl, Or.inr ⟨g, Y, t + 1, rfl, g1, g2, ct, e2, by omega⟩⟩
        · have := rm_down (B := B) (L := L) (g := g) (Y := Y) ct gl
          refine ⟨_, e1, rfl, Or.inr ⟨g + 1, Y * B + t, 0, rfl, gl, ?_, Nat.zero_le _, e2, by omega⟩⟩
          have : (Y + 1) * B ≤ B ^ g * B := Nat.mul_le_mul_right _ g2
          rw [← Nat.pow_succ, Nat.add_mul, Nat.one_mul] at this
          have e : B ^ (g + 1) = B ^ g.succ := rfl
          omega
      · have et : t = B := by omega
        subst et
        obtain ⟨K', e1, e2, e3⟩ := hov g Y K i g1 g2 g4 (by omega)
        refine ⟨_, e1, rfl, ?_⟩
        cases g with
        | zero => exact Or.inl ⟨rfl, e2 rfl⟩
        | succ g' =>
          have hB : 0 < t := by
            rcases Nat.eq_zero_or_pos t with z | z
            · exfalso
              rw [z, Nat.zero_pow (Nat.succ_pos _)] at g2
              exact absurd g2 (Nat.not_lt_zero _)
            · exact z
          have eY : Y = Y / t * t + Y % t := by rw [Nat.mul_comm]; exact (Nat.div_add_mod Y t).symm
          have lw := Nat.mod_lt Y hB
          have := rm_up (B := t) (L := L) (g := g') (Y := Y / t) (w := Y % t) lw
          rw [← eY] at this
          refine Or.inr ⟨g', Y / t, Y % t + 1, by show ((g' + 1 : Nat) : Int) + (-1) = (g' : Int); omega, by omega, ?_, by omega, e3 g' _ _ rfl eY lw, by omega⟩
          rw [Nat.pow_succ] at g2
          exact Nat.div_lt_of_lt_mul (by rw [Nat.mul_comm]; exact g2)
  · obtain ⟨v2, v3, K⟩ := s
    obtain ⟨i1, i2⟩ := hI
    dsimp only at i1 i2 ⊢
    subst i1
    rcases i2 with ⟨rfl, i3⟩ | ⟨g, Y, t, rfl, g1, g2, g3, g4, g5⟩
    · exact ⟨K, hex K _ (by omega) i3, i3⟩
    · exfalso
      have : 1 ≤ rem9 B L g Y t := by unfold rem9; omega
      omega
theorem ac_up {B L g Y : Nat} (hg : g + 1 < L) : (Y * B + B) * B ^ (L - 1 - (g + 1)) = (Y + 1) * B ^ (L - 1 - g) := by
  have e : L - 1 - g = (L - 1 - (g + 1)) + 1 := by omega
  rw [e, Nat.pow_succ, show Y * B + B = (Y + 1) * B by rw [Nat.add_mul, Nat.one_mul], Nat.mul_assoc, Nat.mul_comm B]
theorem ac_dn {B L g Y t : Nat} (hg : g + 1 < L) : ((Y * B + t) * B + 0) * B ^ (L - 1 - (g + 1)) = (Y * B + t) * B ^ (L - 1 - g) := by
  have e : L - 1 - g = (L - 1 - (g + 1)) + 1 := by omega
  rw [e, Nat.pow_succ, Nat.add_zero, Nat.mul_assoc, Nat.mul_comm B]
/-- no number that begins so is good -/
theorem cn9_none {G : Nat → Bool} : ∀ m lo, (∀ X, lo ≤ X → X < lo + m → ¬ G X = true) → cn9 G (lo + m) = cn9 G lo := by
  intro m
  induction m with
  | zero => intro lo _; rfl
  | succ m ih =>
    intro lo h
    show cn9 G (lo + m) + (if G (lo + m) = true then 1 else 0) = _
    rw [if_neg (h (lo + m) (by omega) (by omega)), ih lo (fun X a b => h X a (by omega))]; rfl
/-- the digits of a number that begins with Y -/
theorem dg_pre {B L g X j : Nat} (hB : 0 < B) (hg : g < L) (hj : j ≤ g) : dg9 B X L j = dg9 B (X / B ^ (L - 1 - g)) (g + 1) j := by
  unfold dg9
  rw [Nat.div_div_eq_div_mul, ← Nat.pow_add, show L - 1 - g + (g + 1 - 1 - j) = L - 1 - j by omega]
theorem iv_div {B m Z X : Nat} (hB : 0 < B) (h1 : Z * B ^ m ≤ X) (h2 : X < (Z + 1) * B ^ m) : X / B ^ m = Z := by
  have hp : 0 < B ^ m := Nat.pow_pos hB
  refine Nat.le_antisymm ?_ ?_
  · have := (Nat.div_lt_iff_lt_mul hp).mpr h2
    omega
  · exact (Nat.le_div_iff_mul_le hp).mpr h1

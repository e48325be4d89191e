/-! ===== list: four kinds: at most 2142 ===== -/
theorem g4_v : grp 4 0 1 1 1 = 0 ∧ grp 4 0 1 1 2 = 1 ∧ grp 4 0 1 1 3 = 2 ∧ grp 4 0 1 2 2 = 3 ∧ grp 4 0 1 2 3 = 4 ∧ grp 4 0 1 3 3 = 5 ∧ grp 4 0 2 2 2 = 6 ∧ grp 4 0 2 2 3 = 7 ∧ grp 4 0 2 3 3 = 8 ∧ grp 4 0 1 2 1 = 1 ∧ grp 4 0 1 3 2 = 4 ∧ grp 4 0 3 2 2 = 7 ∧ grp 4 0 3 2 3 = 8 := by decide +kernel
theorem as4_a {fg : Nat → Int} (h : AsN 4 0 fg 1 1 2 2) : 1 + fg 0 * fg 3 + fg 1 * fg 6 + fg 2 * fg 7 = fg 1 * fg 1 + fg 3 * fg 3 + fg 4 * fg 4 := by
  obtain ⟨v1, v2, v3, v4, v5, v6, v7, v8, v9, v10, v11, v12, v13⟩ := g4_v
  unfold AsN at h
  rw [sm_s, sm_s, sm_s, sm_s, sm_0] at h
  have a0 : tkG 4 0 fg 1 1 0 = 1 := rfl
  have a1 : tkG 4 0 fg 1 1 1 = fg (grp 4 0 1 1 1) := rfl
  have a2 : tkG 4 0 fg 1 1 2 = fg (grp 4 0 1 1 2) := rfl
  have a3 : tkG 4 0 fg 1 1 3 = fg (grp 4 0 1 1 3) := rfl
  have b0 : tkG 4 0 fg 0 2 2 = 1 := rfl
  have b1 : tkG 4 0 fg 1 2 2 = fg (grp 4 0 1 2 2) := rfl
  have b2 : tkG 4 0 fg 2 2 2 = fg (grp 4 0 2 2 2) := rfl
  have b3 : tkG 4 0 fg 3 2 2 = fg (grp 4 0 3 2 2) := rfl
  have c0 : tkG 4 0 fg 1 2 0 = 0 := rfl
  have c1 : tkG 4 0 fg 1 2 1 = fg (grp 4 0 1 2 1) := rfl
  have c3 : tkG 4 0 fg 1 2 3 = fg (grp 4 0 1 2 3) := rfl
  have d3 : tkG 4 0 fg 1 3 2 = fg (grp 4 0 1 3 2) := rfl
  rw [a0, a1, a2, a3, b0, b1, b2, b3, c0, c1, c3, d3, v1, v2, v3, v4, v7, v12, v10, v5, v11] at h
  rw [Int.zero_mul] at h
  omega
theorem as4_b {fg : Nat → Int} (h : AsN 4 0 fg 1 1 2 3) : fg 0 * fg 4 + fg 1 * fg 7 + fg 2 * fg 8 = fg 1 * fg 2 + fg 3 * fg 4 + fg 4 * fg 5 := by
  obtain ⟨v1, v2, v3, v4, v5, v6, v7, v8, v9, v10, v11, v12, v13⟩ := g4_v
  unfold AsN at h
  rw [sm_s, sm_s, sm_s, sm_s, sm_0] at h
  have a0 : tkG 4 0 fg 1 1 0 = 1 := rfl
  have a1 : tkG 4 0 fg 1 1 1 = fg (grp 4 0 1 1 1) := rfl
  have a2 : tkG 4 0 fg 1 1 2 = fg (grp 4 0 1 1 2) := rfl
  have a3 : tkG 4 0 fg 1 1 3 = fg (grp 4 0 1 1 3) := rfl
  have b0 : tkG 4 0 fg 0 2 3 = 0 := rfl
  have b1 : tkG 4 0 fg 1 2 3 = fg (grp 4 0 1 2 3) := rfl
  have b2 : tkG 4 0 fg 2 2 3 = fg (grp 4 0 2 2 3) := rfl
  have b3 : tkG 4 0 fg 3 2 3 = fg (grp 4 0 3 2 3) := rfl
  have c0 : tkG 4 0 fg 1 2 0 = 0 := rfl
  have c1 : tkG 4 0 fg 1 2 1 = fg (grp 4 0 1 2 1) := rfl
  have c2 : tkG 4 0 fg 1 2 2 = fg (grp 4 0 1 2 2) := rfl
  have d3 : tkG 4 0 fg 1 3 3 = fg (grp 4 0 1 3 3) := rfl
  rw [a0, a1, a2, a3, b0, b1, b2, b3, c0, c1, c2, d3, v1, v2, v3, v5, v8, v13, v10, v4, v6] at h
  rw [Int.zero_mul, Int.mul_zero] at h
  omega
theorem cn_4 {G : Nat → Bool} (h : ∀ X, G X = true → AsN 4 0 (fun g => (dg9 3 X 10 g : Int)) 1 1 2 2 ∧ AsN 4 0 (fun g => (dg9 3 X 10 g : Int)) 1 1 2 3) : cn9 G (3 ^ 10) ≤ 2142 := by
  refine Nat.le_trans (tb9_all (bad := bad4) (fun L Y X hL hb h1 h2 hG => ?_)) bad4_n
  obtain ⟨A, C⟩ := h X hG
  have A' := as4_a A
  have C' := as4_b C
  unfold bad4 at hb
  by_cases c8 : L = 8
  · subst c8
    rw [if_pos rfl] at hb
    have hY : X / 3 ^ (10 - 1 - 7) = Y := Nat.div_eq_of_lt_le h1 h2
    have hx : ∀ g, g ≤ 7 → dg9 3 X 10 g = xg9 8 Y g := fun g hg => by
      rw [dg_pre (g := 7) (by decide) (by decide) hg, hY]; rfl
    rw [hx 0 (by decide), hx 1 (by decide), hx 2 (by decide), hx 3 (by decide), hx 4 (by decide), hx 6 (by decide), hx 7 (by decide)] at A'
    have e : 1 + xg9 8 Y 0 * xg9 8 Y 3 + xg9 8 Y 1 * xg9 8 Y 6 + xg9 8 Y 2 * xg9 8 Y 7 = xg9 8 Y 1 * xg9 8 Y 1 + xg9 8 Y 3 * xg9 8 Y 3 + xg9 8 Y 4 * xg9 8 Y 4 := by exact_mod_cast A'
    rw [e, Nat.beq_refl] at hb
    cases hb
  · rw [if_neg c8] at hb
    by_cases c9 : L = 9
    · subst c9
      rw [if_pos rfl] at hb
      have hY : X / 3 ^ (10 - 1 - 8) = Y := Nat.div_eq_of_lt_le h1 h2
      have hx : ∀ g, g ≤ 8 → dg9 3 X 10 g = xg9 9 Y g := fun g hg => by
        rw [dg_pre (g := 8) (by decide) (by decide) hg, hY]; rfl
      rw [hx 0 (by decide), hx 1 (by decide), hx 2 (by decide), hx 3 (by decide), hx 4 (by decide), hx 5 (by decide), hx 7 (by decide), hx 8 (by decide)] at C'
      have e : xg9 9 Y 0 * xg9 9 Y 4 + xg9 9 Y 1 * xg9 9 Y 7 + xg9 9 Y 2 * xg9 9 Y 8 = xg9 9 Y 1 * xg9 9 Y 2 + xg9 9 Y 3 * xg9 9 Y 4 + xg9 9 Y 4 * xg9 9 Y 5 := by exact_mod_cast C'
      rw [e, Nat.beq_refl] at hb
      cases hb
    · rw [if_neg c9] at hb
      cases hb

/-! ===== numbers of a field ===== -/
theorem PG.np {p v : Nat} (h : PG p) (h1 : v < p) (h2 : 2 ≤ v) : p % v ≠ 0 := by
  have key : ∀ p, p ∈ [2, 3, 5, 7, 11, 13, 17, 19, 23, 29, 31] → ∀ v, v < p → 2 ≤ v → p % v ≠ 0 := by decide
  exact key p h v h1 h2
/-- the inverse's step -/
theorem inv_s {p v q t u : Int} (hp : p = v * q + t) (hu : p ∣ t * u - 1) : p ∣ v * (((p - q) * u) % p) - 1 := by
  obtain ⟨a, ha⟩ := hu
  have e := Int.emod_def ((p - q) * u) p
  rw [e]
  refine ⟨v * u - u - v * ((p - q) * u / p) + a, ?_⟩
  generalize (p - q) * u / p = z
  have : v * ((p - q) * u - p * z) - 1 = p * (v * u) - (v * q) * u - p * (v * z) - 1 := by
    rw [Int.mul_sub, ← Int.mul_assoc, Int.mul_sub v p q, Int.sub_mul]
    rw [show v * p * u = p * (v * u) by rw [Int.mul_comm v p, Int.mul_assoc], show v * (p * z) = p * (v * z) by rw [← Int.mul_assoc, Int.mul_comm v p, Int.mul_assoc]]
  rw [this, show v * q = p - t by omega, Int.sub_mul, Int.mul_add, Int.mul_sub, Int.mul_sub, ← ha]
  omega
theorem x3_begin {d : DA} {p : Nat} (hp : PG p) : ∃ q, X3_begin 58 (p : Int) d = some q ∧ ((∀ c, c ≠ 58 → c ≠ 59 → q.2.1 c = d.1 c) ∧ q.2.1 58 = fu (d.1 58) 0 (p : Int) ∧ q.2.2 = d.2 ∧ ∀ j, 1 ≤ j → j < p → (1 ≤ q.2.1 59 j ∧ q.2.1 59 j < p) ∧ (p : Int) ∣ (j : Int) * q.2.1 59 j - 1) := by
  have hb := hp.bd
  unfold X3_begin
  rw [lt_pos, gd_pos (by omega), lt_pos]
  refine lpE_ev (fun i s => s.1 = ((i + 2 : Nat) : Int) ∧ (∀ c, c ≠ 58 → c ≠ 59 → s.2.1 c = d.1 c) ∧ s.2.1 58 = fu (d.1 58) 0 (p : Int) ∧ s.2.2 = d.2 ∧ ∀ j, 1 ≤ j → j < i + 2 → (1 ≤ s.2.1 59 j ∧ s.2.1 59 j < p) ∧ (p : Int) ∣ (j : Int) * s.2.1 59 j - 1) (fun e => (∀ c, c ≠ 58 → c ≠ 59 → e.1 c = d.1 c) ∧ e.1 58 = fu (d.1 58) 0 (p : Int) ∧ e.2 = d.2 ∧ ∀ j, 1 ≤ j → j < p → (1 ≤ e.1 59 j ∧ e.1 59 j < p) ∧ (p : Int) ∣ (j : Int) * e.1 59 j - 1) (p - 2) (by omega) ?_ (fun i s hi hI => ?_) (fun s hI => ?_) (fun e he => ⟨_, rfl, he⟩)
  · refine ⟨rfl, fun c z1 z2 => ?_, ?_, rfl, fun j j1 j2 => ?_⟩
    · show (wI (wI d 58 0 (p : Int)) (58 + 1) (Int.toNat 1) 1).1 c = _
      rw [wI_ne z2, wI_ne z1]
    · show (wI (wI d 58 0 (p : Int)) (58 + 1) (Int.toNat 1) 1).1 58 = _
      rw [wI_ne (by decide), wI_at]
    · have : j = 1 := by omega
      subst this
      show (1 ≤ (wI (wI d 58 0 (p : Int)) (58 + 1) 1 1).1 (58 + 1) 1 ∧ (wI (wI d 58 0 (p : Int)) (58 + 1) 1 1).1 (58 + 1) 1 < p) ∧ (p : Int) ∣ ((1 : Nat) : Int) * (wI (wI d 58 0 (p : Int)) (58 + 1) 1 1).1 (58 + 1) 1 - 1
      rw [wI_at, fu_s]
      exact ⟨(by omega), ⟨0, by omega⟩⟩
  · obtain ⟨v, D⟩ := s
    obtain ⟨hv, h1, h2, h3, h4⟩ := hI
    have hv' : v = ((i + 2 : Nat) : Int) := hv
    subst hv'
    have d0 : D.1 58 0 = p := by
      have : D.1 58 = fu (d.1 58) 0 (p : Int) := h2
      rw [this, fu_s]
    have et : Int.tmod (p : Int) ((i + 2 : Nat) : Int) = ((p % (i + 2) : Nat) : Int) := by rw [Int.tmod_eq_emod_of_nonneg (by omega)]; omega
    have np := hp.np (v := i + 2) (by omega) (by omega)
    have hlt : p % (i + 2) < i + 2 := Nat.mod_lt _ (by omega)
    obtain ⟨⟨u1, u2⟩, u3⟩ := h4 (p % (i + 2)) (by omega) hlt
    have u1' : 1 ≤ D.1 59 (p % (i + 2)) := u1
    have u2' : D.1 59 (p % (i + 2)) < p := u2
    have u3' : (p : Int) ∣ ((p % (i + 2) : Nat) : Int) * D.1 59 (p % (i + 2)) - 1 := u3
    generalize hu : D.1 59 (p % (i + 2)) = u at u1' u2' u3'
    have eq : (p : Int) / ((i + 2 : Nat) : Int) = ((p / (i + 2) : Nat) : Int) := by omega
    have hdm : p = (i + 2) * (p / (i + 2)) + p % (i + 2) := (Nat.div_add_mod p (i + 2)).symm
    have hq2 : p / (i + 2) ≤ p := Nat.div_le_self _ _
    generalize p % (i + 2) = t at hdm et u3' np hlt hu
    generalize hQ : p / (i + 2) = Q at hdm eq hq2
    have hw0 : 0 ≤ ((p : Int) - (Q : Int)) * u := Int.mul_nonneg (by omega) (by omega)
    have hw1 : ((p : Int) - (Q : Int)) * u ≤ 31 * 31 := Int.mul_le_mul (by omega) (by omega) (by omega) (by omega)
    have ew : Int.tmod (((p : Int) - (Q : Int)) * u) (p : Int) = (((p : Int) - (Q : Int)) * u) % (p : Int) := Int.tmod_eq_emod_of_nonneg hw0
    have ed : (p : Int) ∣ ((i + 2 : Nat) : Int) * ((((p : Int) - (Q : Int)) * u) % (p : Int)) - 1 := inv_s (t := (t : Int)) (by rw [← Int.natCast_mul, ← Int.natCast_add, ← hdm]) u3'
    have b1 : 0 ≤ (((p : Int) - (Q : Int)) * u) % (p : Int) := Int.emod_nonneg _ (by omega)
    have b2 : (((p : Int) - (Q : Int)) * u) % (p : Int) < p := Int.emod_lt_of_pos _ (by omega)
    have eR : X3_reduce 58 (((p : Int) - (Q : Int)) * u) D = some ((((p : Int) - (Q : Int)) * u) % (p : Int)) := by
      unfold X3_reduce
      rw [d0, ew, gd_pos (by omega), if_pos (by omega), gd_pos (by unfold dvg; omega)]
    generalize hw : (((p : Int) - (Q : Int)) * u) % (p : Int) = w at ed b1 b2 eR
    have hw9 : 1 ≤ w := by
      by_cases c : w = 0
      · subst c
        obtain ⟨z, hz⟩ := ed
        rw [Int.mul_zero] at hz
        have : (p : Int) ∣ 1 := ⟨-z, by rw [Int.mul_neg]; omega⟩
        have := Int.le_of_dvd (by decide) this
        omega
      · omega
    have ei : X3_begin_b14 58 (p : Int) ((i + 2 : Nat) : Int) D = some (.inl (((i + 2 : Nat) : Int) + 1, wI D 59 (i + 2) w)) := by
      unfold X3_begin_b14
      have hu' : D.1 (58 + 1) t = u := hu
      rw [et, eq, Int.toNat_natCast, Int.toNat_natCast, hu', gd_pos (by omega), if_neg (by omega), gd_pos (by omega), if_neg (by omega), gd_pos (by unfold dvq; omega), gd_pos (by unfold dvg; omega), gd_pos (by omega), b1_pos eR, gd_pos (by omega), lt_pos]
    refine ⟨_, ei, by show ((i + 2 : Nat) : Int) + 1 = _; omega, fun c z1 z2 => ?_, ?_, h3, fun j j1 j2 => ?_⟩
    · show (wI D 59 (i + 2) w).1 c = _
      rw [wI_ne z2]; exact h1 c z1 z2
    · show (wI D 59 (i + 2) w).1 58 = _
      rw [wI_ne (by decide)]; exact h2
    · show (1 ≤ (wI D 59 (i + 2) w).1 59 j ∧ (wI D 59 (i + 2) w).1 59 j < p) ∧ (p : Int) ∣ (j : Int) * (wI D 59 (i + 2) w).1 59 j - 1
      rw [wI_at, fu_app]
      by_cases c : j = i + 2
      · rw [if_pos c]; subst c; exact ⟨⟨hw9, b2⟩, ed⟩
      · rw [if_neg c]; exact h4 j j1 (by omega)
  · obtain ⟨v, D⟩ := s
    obtain ⟨hv, h1, h2, h3, h4⟩ := hI
    have hv' : v = ((p - 2 + 2 : Nat) : Int) := hv
    subst hv'
    refine ⟨D, ?_, h1, h2, h3, fun j j1 j2 => h4 j j1 (by omega)⟩
    show X3_begin_b14 58 (p : Int) ((p - 2 + 2 : Nat) : Int) D = _
    unfold X3_begin_b14
    rw [gd_pos (by omega), if_pos (by omega)]

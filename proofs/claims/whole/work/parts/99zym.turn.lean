/-! ===== turns: the reference's search ===== -/
theorem tX9_ch {p k Y i j : Nat} (hi : i < p - 1) (hk : 1 ≤ k) (hj : j < k) : tX9 p (k + 1) (Y * (p - 1) + i) j = tX9 p k Y j := by
  unfold tX9
  by_cases e : j = 0
  · rw [if_pos e, if_pos e]
  · rw [if_neg e, if_neg e]
    have := dg_ch (B := p - 1) (Y := Y) (w := i) (k := k - 1) (j := j - 1) hi (by omega)
    rw [show k - 1 + 1 = k + 1 - 1 by omega] at this
    rw [this]
theorem tX9_la {p k Y i : Nat} (hi : i < p - 1) (hk : 1 ≤ k) : tX9 p (k + 1) (Y * (p - 1) + i) k = 1 + (i : Int) := by
  unfold tX9
  rw [if_neg (by omega)]
  have := dg_la (B := p - 1) (Y := Y) (w := i) (k := k - 1) hi
  rw [show k - 1 + 1 = k + 1 - 1 by omega] at this
  rw [this]
theorem x12_ton {d0 : DA} {n c : Nat → Int} {r p : Nat} {iv : Int → Int} {du : Nat → Nat} {G : Nat → Bool} {w : Int} (hT : TG n r) (h14 : d0.1 114 = n) (hr : d0.1 113 1 = r) (hp : d0.1 113 4 = p) (h2 : 2 ≤ p) (h31 : p ≤ 31) (hiv : IvG p iv) (hc : ∀ k, k < r → d0.1 135 k = c k) (hb : Cb p r c) (hdu : ∀ i, i < r → ptn (fun j => n (ti i j 0)) r = (du i : Nat) ∧ du i < r) (hG : ∀ X, X < (p - 1) ^ (r - 1) → (G X = true ↔ Tn9 n r p iv du c (tX9 p r X))) (hN : (p - 1) ^ (r - 1) ≤ 27000) (h66 : d0.1 113 66 = w) (hw : -1 ≤ w ∧ w < 2147483648) : ∀ m k Y F d, k + m = r → m < F → 1 ≤ k → Y < (p - 1) ^ (k - 1) → FrT d0 d → (∀ j, j < k → d.1 119 j = tX9 p k Y j) → d.1 113 65 = (cn9 G (Y * (p - 1) ^ m) : Int) → d.1 113 67 = 0 → ∃ d', X12_turnOn 113 F k d = some ((), d') ∧ FrT d0 d' ∧ (∀ j, (j < k ∨ r ≤ j) → d'.1 119 j = d.1 119 j) ∧ ToE G ((p - 1) ^ (r - 1)) p r (Y * (p - 1) ^ m) ((Y + 1) * (p - 1) ^ m) w d' := by
  have h5 := hT.1
  intro m
  induction m with
  | zero =>
    intro k Y F d hk hF h1 hY hd ht h65 h67
    obtain ⟨F, rfl⟩ : ∃ F', F = F' + 1 := ⟨F - 1, by omega⟩
    have hkr : k = r := by omega
    subst hkr
    rw [Nat.pow_zero, Nat.mul_one, Nat.mul_one]
    rw [Nat.pow_zero, Nat.mul_one] at h65
    obtain ⟨d', e1, e2, e3, e4⟩ := x12_leaf (d := d) (n := n) (c := c) (r := k) (p := p) (X := Y) (N := (p - 1) ^ (k - 1)) (iv := iv) (du := du) (G := G) (w := w) (g := X12_turnOn 113 F) hT (by rw [hd.c (by decide) (by decide) (by decide)]; exact h14) (by rw [hd.n (by decide) (by decide)]; exact hr) (by rw [hd.n (by decide) (by decide)]; exact hp) h2 h31 hiv (fun k hk => by rw [hd.c (by decide) (by decide) (by decide)]; exact hc k hk) hb hdu ht (hG Y hY) hY hN h65 (by rw [hd.n (by decide) (by decide)]; exact h66) hw h67
    exact ⟨d', e1, hd.tr e2, fun j _ => e3 j, e4⟩
  | succ m ih =>
    intro k Y F d hk hF h1 hY hd ht h65 h67
    obtain ⟨F, rfl⟩ : ∃ F', F = F' + 1 := ⟨F - 1, by omega⟩
    have hkr : k < r := by omega
    have e1 : d.1 113 1 = r := by rw [hd.n (by decide) (by decide)]; exact hr
    have eM : X12_turnOn 113 (F + 1) k d = lpE (fun q => X12_turnOn_b99 113 (X12_turnOn 113 F) k q.1 q.2) (1, d) (fun e => some ((), e)) := by
      show X12_turnOn_m 113 (X12_turnOn 113 F) k d = _
      unfold X12_turnOn_m
      rw [e1, gd_pos (by omega), if_neg (by omega)]
    rw [eM]
    have ivl : ∀ i, (Y * (p - 1) + i) * (p - 1) ^ m = Y * (p - 1) ^ (m + 1) + i * (p - 1) ^ m := fun i => by
      rw [Nat.add_mul, Nat.mul_assoc, ← Nat.pow_succ']
    have hi9 : (Y + 1) * (p - 1) ^ (m + 1) = (Y * (p - 1) + (p - 1)) * (p - 1) ^ m := by
      rw [ivl, Nat.add_mul, Nat.one_mul, Nat.pow_succ']
    have mono : ∀ i i', i ≤ i' → cn9 G ((Y * (p - 1) + i) * (p - 1) ^ m) ≤ cn9 G ((Y * (p - 1) + i') * (p - 1) ^ m) := fun i i' h => cn9_mono _ (Nat.mul_le_mul_right _ (by omega))
    have l0 : Y * (p - 1) ^ (m + 1) = (Y * (p - 1) + 0) * (p - 1) ^ m := by rw [ivl]; omega
    rw [hi9]
    rw [l0] at h65 ⊢
    obtain ⟨e, k1, k2, k3, k4⟩ := lpE_may (b := fun q : Int × DA => X12_turnOn_b99 113 (X12_turnOn 113 F) k q.1 q.2) (k := fun e : DA => some ((), e)) (s0 := (1, d)) (fun (i : Nat) (s : Int × DA) => s.1 = (i : Int) + 1 ∧ FrT d0 s.2 ∧ (∀ j, (j < k ∨ r ≤ j) → s.2.1 119 j = d.1 119 j) ∧ ToE G ((p - 1) ^ (r - 1)) p r ((Y * (p - 1) + 0) * (p - 1) ^ m) ((Y * (p - 1) + i) * (p - 1) ^ m) w s.2) (fun D => FrT d0 D ∧ (∀ j, (j < k ∨ r ≤ j) → D.1 119 j = d.1 119 j) ∧ ToE G ((p - 1) ^ (r - 1)) p r ((Y * (p - 1) + 0) * (p - 1) ^ m) ((Y * (p - 1) + (p - 1)) * (p - 1) ^ m) w D) (p - 1) (by omega) ⟨rfl, hd, fun _ _ => rfl, Or.inr ⟨by omega, h67, h65⟩⟩ (fun i s hi hI => by
      obtain ⟨v, D⟩ := s
      obtain ⟨i1, i2, i3, i4⟩ := hI
      dsimp only at i1 i2 i3 i4 ⊢
      subst i1
      have p4 : D.1 113 4 = p := by rw [i2.n (by decide) (by decide)]; exact hp
      unfold X12_turnOn_b99
      rw [p4, gd_pos (by omega), if_neg (by omega)]
      rcases i4 with ⟨f1, f2, f3⟩ | ⟨f1, f2, f3⟩
      · right
        have := mono i (p - 1) (by omega)
        refine ⟨D, ?_, i2, i3, Or.inl ⟨by omega, f2, f3⟩⟩
        rw [f2, gd_pos (by decide), if_neg (by decide)]
      · left
        rw [f2, gd_pos (by decide), if_pos rfl, gd_pos (by omega), lt_pos, Int.toNat_natCast]
        generalize hD1 : wI D (113 + 6) k ((i : Int) + 1) = D1
        have hF1 : FrT d0 D1 := by rw [← hD1]; exact i2.i (by omega)
        have t1 : ∀ j, j < k + 1 → D1.1 119 j = tX9 p (k + 1) (Y * (p - 1) + i) j := fun j hj => by
          rw [← hD1]
          show (wI D 119 k _).1 119 j = _
          rw [wI_at, fu_app]
          by_cases ej : j = k
          · rw [if_pos ej, ej, tX9_la hi h1]; omega
          · rw [if_neg ej, i3 j (by omega), ht j (by omega), tX9_ch hi h1 (by omega)]
        have hY' : Y * (p - 1) + i < (p - 1) ^ (k + 1 - 1) := by
          have : (Y + 1) * (p - 1) ≤ (p - 1) ^ (k - 1) * (p - 1) := Nat.mul_le_mul_right _ hY
          rw [← Nat.pow_succ, show (k - 1).succ = k + 1 - 1 by omega, Nat.add_mul, Nat.one_mul] at this
          omega
        have f2' : D1.1 113 67 = 0 := by rw [← hD1, wI_ne (by decide)]; exact f2
        have f3' : D1.1 113 65 = (cn9 G ((Y * (p - 1) + i) * (p - 1) ^ m) : Int) := by rw [← hD1, wI_ne (by decide)]; exact f3
        obtain ⟨D2, g1, g2, g3, g4⟩ := ih (k + 1) (Y * (p - 1) + i) F D1 (by omega) (by omega) (by omega) hY' hF1 t1 f3' f2'
        have g1' : X12_turnOn 113 F ((k : Int) + 1) D1 = some ((), D2) := g1
        rw [bd_pos g1']
        refine ⟨_, rfl, by show (i : Int) + 1 + 1 = ((i + 1 : Nat) : Int) + 1; omega, g2, fun j hj => ?_, ?_⟩
        · show D2.1 119 j = _
          rw [g3 j (by omega), ← hD1]
          show (wI D 119 k _).1 119 j = _
          rw [wI_at, fu_n (by omega)]; exact i3 j hj
        · have m1 := mono 0 i (by omega)
          have m2 := mono i (i + 1) (by omega)
          have e5 : Y * (p - 1) + i + 1 = Y * (p - 1) + (i + 1) := by omega
          rw [e5] at g4
          rcases g4 with ⟨u1, u2, u3⟩ | ⟨u1, u2, u3⟩
          · exact Or.inl ⟨by omega, u2, u3⟩
          · exact Or.inr ⟨by omega, u2, u3⟩) (fun s hI => by
      obtain ⟨v, D⟩ := s
      obtain ⟨i1, i2, i3, i4⟩ := hI
      dsimp only at i1 i2 i3 i4 ⊢
      subst i1
      have p4 : D.1 113 4 = p := by rw [i2.n (by decide) (by decide)]; exact hp
      refine ⟨D, ?_, i2, i3, i4⟩
      unfold X12_turnOn_b99
      rw [p4, gd_pos (by omega), if_pos (by omega)])
    rw [k1]
    exact ⟨e, rfl, k2, k3, k4⟩
/-- the reference's search for the w-th row of turns -/
theorem x12_findT {d : DA} {n c : Nat → Int} {r p : Nat} {iv : Int → Int} {du : Nat → Nat} {G : Nat → Bool} {w : Int} (hT : TG n r) (h14 : d.1 114 = n) (hr : d.1 113 1 = r) (hp : d.1 113 4 = p) (h2 : 2 ≤ p) (h31 : p ≤ 31) (hiv : IvG p iv) (hc : ∀ k, k < r → d.1 135 k = c k) (hb : Cb p r c) (hdu : ∀ i, i < r → ptn (fun j => n (ti i j 0)) r = (du i : Nat) ∧ du i < r) (h119 : d.1 119 0 = 1) (hG : ∀ X, X < (p - 1) ^ (r - 1) → (G X = true ↔ Tn9 n r p iv du c (tX9 p r X))) (hN : (p - 1) ^ (r - 1) ≤ 27000) (hw : -1 ≤ w ∧ w < 2147483648) : ∃ d', X12_findTurns 113 w d = some ((), d') ∧ d'.2 = d.2 ∧ (∀ c j, (c < 138 ∨ 147 < c) → (c ≠ 113 ∨ (j ≠ 65 ∧ j ≠ 66 ∧ j ≠ 67)) → d'.1 c j = d.1 c j) ∧ (((0 ≤ w ∧ w < (cn9 G ((p - 1) ^ (r - 1)) : Int)) ∧ d'.1 113 67 = 1 ∧ ∀ j, j < r → d'.1 147 j = tX9 p r (pk9 G ((p - 1) ^ (r - 1)) w.toNat) j) ∨ (¬ (0 ≤ w ∧ w < (cn9 G ((p - 1) ^ (r - 1)) : Int)) ∧ d'.1 113 67 = 0 ∧ d'.1 113 65 = (cn9 G ((p - 1) ^ (r - 1)) : Int))) := by
  have h5 := hT.1
  have e1 : X12_findTurns 113 w d = X12_findTurns_j25 113 w (wA d 146 (pre (d.1 146) (d.1 119) 5)) := by
    unfold X12_findTurns
    refine lpE_row (d := d) 146 5 (d.1 119) (by omega) (fun i hi => ?_) ?_
    · show X12_findTurns_b2 113 w (i : Int) _ = _
      unfold X12_findTurns_b2
      have : (wA d 146 (pre (d.1 146) (d.1 119) i)).1 (113 + 6) i = d.1 119 i := by
        show (wA d 146 _).1 119 i = _
        rw [wA_ne (by decide)]
      rw [gd_pos (by omega), if_neg (by omega), gd_pos (by omega), gd_pos (by omega), lt_pos, Int.toNat_natCast, this]
    · show X12_findTurns_b2 113 w ((5 : Nat) : Int) _ = _
      unfold X12_findTurns_b2
      rw [gd_pos (by omega), if_pos (by omega)]
  generalize hd1 : wA d 146 (pre (d.1 146) (d.1 119) 5) = d1 at e1
  have o1 : ∀ q, q ≠ 146 → d1.1 q = d.1 q := fun q z => by rw [← hd1, wA_ne z]
  have e146 : ∀ j, j < 5 → d1.1 146 j = d.1 119 j := fun j hj => by rw [← hd1, wA_at, pre_lt hj]
  generalize hd4 : wI (wI (wI d1 113 65 0) 113 66 w) 113 67 0 = d4
  have o4 : ∀ q, q ≠ 113 → d4.1 q = d1.1 q := fun q z => by rw [← hd4, wI_ne z, wI_ne z, wI_ne z]
  have n4 : ∀ j, j ≠ 65 → j ≠ 66 → j ≠ 67 → d4.1 113 j = d1.1 113 j := fun j z1 z2 z3 => by rw [← hd4, wI_at, fu_n z3, wI_at, fu_n z2, wI_at, fu_n z1]
  have a65 : d4.1 113 65 = 0 := by rw [← hd4, wI_at, fu_n (by decide), wI_at, fu_n (by decide), wI_at, fu_s]
  have a66 : d4.1 113 66 = w := by rw [← hd4, wI_at, fu_n (by decide), wI_at, fu_s]
  have a67 : d4.1 113 67 = 0 := by rw [← hd4, wI_at, fu_s]
  have x1 : 0 * (p - 1) ^ (r - 1) = 0 := Nat.zero_mul _
  obtain ⟨d5, t1, t2, t3, t4⟩ := x12_ton (d0 := d4) (n := n) (c := c) (r := r) (p := p) (iv := iv) (du := du) (G := G) (w := w) hT (by rw [o4 114 (by decide), o1 114 (by decide)]; exact h14) (by rw [n4 1 (by decide) (by decide) (by decide), o1 113 (by decide)]; exact hr) (by rw [n4 4 (by decide) (by decide) (by decide), o1 113 (by decide)]; exact hp) h2 h31 hiv (fun k hk => by rw [o4 135 (by decide), o1 135 (by decide)]; exact hc k hk) hb hdu hG hN a66 hw (r - 1) 1 0 12 d4 (by omega) (by omega) (Nat.le_refl 1) (by rw [Nat.sub_self, Nat.pow_zero]; decide) (FrT.rf d4) (fun j hj => by
    have : j = 0 := by omega
    subst this
    rw [o4 119 (by decide), o1 119 (by decide), h119]; rfl) (by rw [x1]; exact a65) a67
  rw [x1, Nat.zero_add, Nat.one_mul] at t4
  have c0 : cn9 G 0 = 0 := rfl
  unfold ToE at t4
  rw [c0] at t4
  have k5 : ∀ c j, c ≠ 119 → (c < 138 ∨ 147 < c ∨ c = 146) → (c ≠ 113 ∨ (j ≠ 65 ∧ j ≠ 67)) → d5.1 c j = d4.1 c j := t2.2
  have e146' : ∀ j, j < 5 → d5.1 146 j = d.1 119 j := fun j hj => by rw [k5 146 j (by decide) (Or.inr (Or.inr rfl)) (Or.inl (by decide)), o4 146 (by decide)]; exact e146 j hj
  have e119 : ∀ j, 5 ≤ j → d5.1 119 j = d.1 119 j := fun j hj => by rw [t3 j (Or.inr (by omega)), o4 119 (by decide), o1 119 (by decide)]
  have e5 : lpE (fun q => X12_findTurns_b47 113 q.1 q.2) (0, d5) (fun e => some (((), e))) = some ((), wA d5 119 (pre (d5.1 119) (d5.1 146) 5)) := by
    refine lpE_row (d := d5) 119 5 (d5.1 146) (by omega) (fun i hi => ?_) ?_
    · show X12_findTurns_b47 113 (i : Int) _ = _
      unfold X12_findTurns_b47
      have : (wA d5 119 (pre (d5.1 119) (d5.1 146) i)).1 (113 + 33) i = d5.1 146 i := by
        show (wA d5 119 _).1 146 i = _
        rw [wA_ne (by decide)]
      rw [gd_pos (by omega), if_neg (by omega), gd_pos (by omega), gd_pos (by omega), lt_pos, Int.toNat_natCast, this]
    · show X12_findTurns_b47 113 ((5 : Nat) : Int) _ = _
      unfold X12_findTurns_b47
      rw [gd_pos (by omega), if_pos (by omega)]
  generalize hd6 : wA d5 119 (pre (d5.1 119) (d5.1 146) 5) = d6 at e5
  have o6 : ∀ q, q ≠ 119 → d6.1 q = d5.1 q := fun q z => by rw [← hd6, wA_ne z]
  refine ⟨d6, ?_, ?_, fun q j z1 z3 => ?_, ?_⟩
  · rw [e1]
    unfold X12_findTurns_j25
    have t1' : X12_turnOn 113 12 1 d4 = some ((), d5) := t1
    rw [lt_pos, lt_pos, gd_pos (Or.inl rfl), lt_pos, hd4, bd_pos t1']
    exact e5
  · rw [← hd6]
    show d5.2 = _
    rw [t2.1, ← hd4]
    show d1.2 = _
    rw [← hd1]; rfl
  · by_cases eq : q = 119
    · subst eq
      rw [← hd6, wA_at]
      by_cases hj : j < 5
      · rw [pre_lt hj]; exact e146' j hj
      · show (if j < 5 then _ else d5.1 119 j) = _
        rw [if_neg hj]; exact e119 j (by omega)
    · rw [o6 q eq, k5 q j eq (by omega) (by omega)]
      by_cases e3 : q = 113
      · subst e3
        rw [n4 j (by omega) (by omega) (by omega), o1 113 (by decide)]
      · rw [o4 q e3, o1 q (by omega)]
  · rw [o6 113 (by decide), o6 147 (by decide)]
    rcases t4 with ⟨u1, u2, u3⟩ | ⟨u1, u2, u3⟩
    · exact Or.inl ⟨by omega, u2, u3⟩
    · exact Or.inr ⟨by omega, u2, u3⟩

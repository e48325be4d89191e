/-! ===== list: how much it is ===== -/
theorem gcn_v : gcn 2 0 = 1 ∧ gcn 3 0 = 4 ∧ gcn 3 1 = 2 ∧ gcn 4 0 = 10 ∧ gcn 4 1 = 6 := by decide +kernel
theorem lw5_ca {lr w : Nat} (hq : (lr, w) ∈ lw5) : (lr = 2 ∧ w = 0) ∨ (lr = 3 ∧ w = 0) ∨ (lr = 3 ∧ w = 1) ∨ (lr = 4 ∧ w = 0) ∨ (lr = 4 ∧ w = 1) := by
  unfold lw5 at hq
  simp at hq
  omega
theorem row_n {lr w lb : Nat} (hq : (lr, w) ∈ lw5) (hl : 1 ≤ lb ∧ lb ≤ 5 ∧ (lr = 4 → lb ≤ 2)) : (lb + 1) ^ gcn lr w ≤ 59049 ∧ (lb + 1) * stp9 (lb + 1) (gcn lr w - 1) + 1 < 1000000 ∧ ((lr, w) ≠ (4, 0) → (lb + 1) ^ gcn lr w ≤ 1296) := by
  obtain ⟨v1, v2, v3, v4, v5⟩ := gcn_v
  rcases lw5_ca hq with ⟨rfl, rfl⟩ | ⟨rfl, rfl⟩ | ⟨rfl, rfl⟩ | ⟨rfl, rfl⟩ | ⟨rfl, rfl⟩
  · rw [v1]
    rcases (show lb = 1 ∨ lb = 2 ∨ lb = 3 ∨ lb = 4 ∨ lb = 5 by omega) with rfl | rfl | rfl | rfl | rfl <;> exact ⟨by decide, by decide, fun _ => by decide⟩
  · rw [v2]
    rcases (show lb = 1 ∨ lb = 2 ∨ lb = 3 ∨ lb = 4 ∨ lb = 5 by omega) with rfl | rfl | rfl | rfl | rfl <;> exact ⟨by decide, by decide, fun _ => by decide⟩
  · rw [v3]
    rcases (show lb = 1 ∨ lb = 2 ∨ lb = 3 ∨ lb = 4 ∨ lb = 5 by omega) with rfl | rfl | rfl | rfl | rfl <;> exact ⟨by decide, by decide, fun _ => by decide⟩
  · rw [v4]
    have := hl.2.2 rfl
    rcases (show lb = 1 ∨ lb = 2 by omega) with rfl | rfl <;> exact ⟨by decide, by decide, fun z => absurd rfl z⟩
  · rw [v5]
    have := hl.2.2 rfl
    rcases (show lb = 1 ∨ lb = 2 by omega) with rfl | rfl <;> exact ⟨by decide, by decide, fun _ => by decide⟩
theorem row_c {lr w lb : Nat} {G : Nat → Bool} (hq : (lr, w) ∈ lw5) (hl : 1 ≤ lb ∧ lb ≤ 5 ∧ (lr = 4 → lb ≤ 2)) (hG : ∀ X, X < (lb + 1) ^ gcn lr w → (G X = true ↔ GdN lr w lb X)) : cn9 G ((lb + 1) ^ gcn lr w) ≤ 2200 ∧ ((lr, w) ≠ (4, 0) → cn9 G ((lb + 1) ^ gcn lr w) ≤ 1296) := by
  obtain ⟨-, -, n3⟩ := row_n hq hl
  have c1 := cn9_le (P := G) ((lb + 1) ^ gcn lr w)
  by_cases c : (lr, w) = (4, 0)
  · obtain ⟨rfl, rfl⟩ : lr = 4 ∧ w = 0 := by
      have e1 : (lr, w).1 = 4 := by rw [c]
      have e2 : (lr, w).2 = 0 := by rw [c]
      exact ⟨e1, e2⟩
    refine ⟨?_, fun z => absurd rfl z⟩
    have v4 : gcn 4 0 = 10 := gcn_v.2.2.2.1
    have := hl.2.2 rfl
    rcases (show lb = 1 ∨ lb = 2 by omega) with rfl | rfl
    · rw [v4] at c1 ⊢
      have : (1 + 1) ^ 10 = 1024 := by decide
      omega
    · have k := cn_4 (G := fun X => G X && decide (X < 3 ^ 10)) (fun X hX => by
        have hX1 : G X = true ∧ X < 3 ^ 10 := by
          have hX' : (G X && decide (X < 3 ^ 10)) = true := hX
          rw [Bool.and_eq_true, decide_eq_true_iff] at hX'
          exact hX'
        have g := (hG X (by rw [v4]; exact hX1.2)).mp hX1.1
        unfold GdN at g
        rw [v4] at g
        exact ⟨g.1 1 1 2 2 (by decide) (by decide) (by decide) (by decide) (by decide) (by decide) (by decide), g.1 1 1 2 3 (by decide) (by decide) (by decide) (by decide) (by decide) (by decide) (by decide)⟩)
      have e : cn9 G (3 ^ 10) = cn9 (fun X => G X && decide (X < 3 ^ 10)) (3 ^ 10) := cn9_cg (3 ^ 10) (fun X hX => by
        show G X = (G X && decide (X < 3 ^ 10))
        rw [decide_eq_true hX, Bool.and_true])
      rw [v4]
      show cn9 G (3 ^ 10) ≤ 2200
      rw [e]
      exact Nat.le_trans k (by decide)
  · have := n3 c
    exact ⟨by omega, fun _ => by omega⟩
/-! ===== list: the reference's answer ===== -/
def LR9 (d d' : DA) (lr lb a0 a1 : Nat) (C0 C1 : Nat → Nat) : Prop := d'.2 = d.2 ∧ (∀ c, c ≠ 113 → c ≠ 116 → c ≠ 129 → c ≠ 130 → c ≠ 131 → c ≠ 132 → c ≠ 133 → c ≠ 134 → d'.1 c = d.1 c) ∧ (∀ j, j ≠ 0 → j ≠ 3 → j ≠ 33 → j ≠ 34 → j ≠ 35 → j ≠ 36 → j ≠ 43 → d'.1 113 j = d.1 113 j) ∧ d'.1 113 0 = 0 ∧ d'.1 113 33 = ((a0 + a1 : Nat) : Int) ∧ d'.1 113 34 = (lr : Int) ∧ d'.1 113 35 = (lb : Int) ∧ (∀ i, i < a0 → d'.1 129 i = (C0 i : Nat) ∧ d'.1 130 i = 0) ∧ ∀ i, i < a1 → d'.1 129 (a0 + i) = (C1 i : Nat) ∧ d'.1 130 (a0 + i) = 1
theorem x12_list {d : DA} {lr lb : Nat} {G0 G1 : Nat → Bool} (h2 : 2 ≤ lr) (h4 : lr ≤ 4) (hl : 1 ≤ lb ∧ lb ≤ 5 ∧ (lr = 4 → lb ≤ 2)) (hG0 : ∀ X, X < (lb + 1) ^ gcn lr 0 → (G0 X = true ↔ GdN lr 0 lb X)) (hG1 : lr ≠ 2 → ∀ X, X < (lb + 1) ^ gcn lr 1 → (G1 X = true ↔ GdN lr 1 lb X)) {a1 : Nat} (ha : a1 = if lr = 2 then 0 else cn9 G1 ((lb + 1) ^ gcn lr 1)) (h4000 : cn9 G0 ((lb + 1) ^ gcn lr 0) + a1 ≤ 4000) : ∃ d', X12_list 113 lr lb d = some (((cn9 G0 ((lb + 1) ^ gcn lr 0) + a1 : Nat) : Int), d') ∧ LR9 d d' lr lb (cn9 G0 ((lb + 1) ^ gcn lr 0)) a1 (pk9 G0 ((lb + 1) ^ gcn lr 0)) (pk9 G1 ((lb + 1) ^ gcn lr 1)) := by
  have q0 : (lr, 0) ∈ lw5 := lw5_of h2 h4 (by decide) (fun _ => rfl)
  have N0 := (row_n q0 hl).1
  have I1 := (x12_isIn (d := wI d 113 0 0) (v := (lr : Int)) (a := 2) (b := 4) (by omega) (by omega) (by omega)).1 (by omega)
  -- after the beginning
  obtain ⟨d9, hd9⟩ : ∃ d9, d9 = wI (wI (wI (wI (wI d 113 0 0) 113 33 0) 113 34 (lr : Int)) 113 35 (lb : Int)) 113 43 0 := ⟨_, rfl⟩
  have o9 : ∀ c, c ≠ 113 → d9.1 c = d.1 c := fun c z => by rw [hd9, wI_ne z, wI_ne z, wI_ne z, wI_ne z, wI_ne z]
  have n9 : ∀ j, j ≠ 0 → j ≠ 33 → j ≠ 34 → j ≠ 35 → j ≠ 43 → d9.1 113 j = d.1 113 j := fun j z1 z2 z3 z4 z5 => by rw [hd9, wI_at, fu_n z5, wI_at, fu_n z4, wI_at, fu_n z3, wI_at, fu_n z2, wI_at, fu_n z1]
  have n43 : d9.1 113 43 = 0 := by rw [hd9, wI_at, fu_s]
  have n35 : d9.1 113 35 = (lb : Int) := by rw [hd9, wI_at, fu_n (by decide), wI_at, fu_s]
  have n34 : d9.1 113 34 = (lr : Int) := by rw [hd9, wI_at, fu_n (by decide), wI_at, fu_n (by decide), wI_at, fu_s]
  have n33 : d9.1 113 33 = 0 := by rw [hd9, wI_at, fu_n (by decide), wI_at, fu_n (by decide), wI_at, fu_n (by decide), wI_at, fu_s]
  have n0 : d9.1 113 0 = 0 := by rw [hd9, wI_at, fu_n (by decide), wI_at, fu_n (by decide), wI_at, fu_n (by decide), wI_at, fu_n (by decide), wI_at, fu_s]
  have s9 : d9.2 = d.2 := by rw [hd9]; rfl
  have head : X12_list 113 lr lb d = lpE (fun q => X12_list_b58 113 lr lb q) d9 (fun e => some ((e.1 113 33, e))) := by
    have j26 : ∀ m : Int, (lb : Int) ≤ m → inR m → X12_list_j26 113 lr lb lb 1 m (wI d 113 0 0) = lpE (fun q => X12_list_b58 113 lr lb q) d9 (fun e => some ((e.1 113 33, e))) := fun m hm hm2 => by
      have I2 := (x12_isIn (d := wI d 113 0 0) (v := (lb : Int)) (a := 1) (b := m) (by omega) (by omega) hm2).1 (by omega)
      unfold X12_list_j26
      rw [b1_pos I2, gd_pos (by omega), if_neg (by decide), lt_pos, lt_pos, lt_pos, lt_pos, hd9]
    unfold X12_list
    rw [lt_pos, b1_pos I1, gd_pos (by omega), if_neg (by decide), gd_pos (by omega)]
    by_cases c4 : lr = 4
    · rw [if_pos (by omega)]
      have := hl.2.2 c4
      exact j26 2 (by omega) (by omega)
    · rw [if_neg (by omega)]
      have := hl.2.1
      exact j26 5 (by omega) (by omega)
  rw [head]
  by_cases c2 : lr = 2
  · rw [if_pos c2] at ha
    subst ha
    have h33 : d9.1 113 33 = ((0 : Nat) : Int) := n33
    have h43 : d9.1 113 43 = ((0 : Nat) : Int) := n43
    obtain ⟨dA, e1, b1', b2', b3', b4', b5', b6', b7'⟩ := x12_half (d := d9) (G := G0) (base := 0) (s1 := 1) q0 hl.2.1 (by omega) hG0 (by omega) h33 h43 (by omega)
    rw [Nat.zero_add] at b5'
    have b7'' : ∀ i, i < cn9 G0 ((lb + 1) ^ gcn lr 0) → dA.1 129 i = (pk9 G0 ((lb + 1) ^ gcn lr 0) i : Nat) ∧ dA.1 130 i = 0 := fun i hi => by
      have := b7' i hi
      rw [Nat.zero_add] at this
      exact this
    have lp : lpE (fun q => X12_list_b58 113 lr lb q) d9 (fun e => some ((e.1 113 33, e))) = some ((dA.1 113 33, dA)) := by
      refine lpE_for (fun i => if i = 0 then d9 else dA) 1 dA rfl (by decide) (fun i hi => ?_) ?_
      · have : i = 0 := by omega
        subst this
        show X12_list_b58 113 lr lb d9 = some (.inl dA)
        unfold X12_list_b58
        rw [gd_pos (by omega), if_pos (by omega)]
        exact e1
      · show X12_list_b58 113 lr lb dA = _
        unfold X12_list_b58 X12_list_j72_58
        rw [b4', gd_pos (by omega), if_pos (by omega), gd_pos (by decide), if_pos (by decide)]
    rw [lp, b5']
    refine ⟨dA, rfl, b1'.trans s9, fun c z1 z2 z3 z4 z5 z6 z7 z8 => by rw [b2' c z1 z2 z3 z4 z5 z6 z7 z8, o9 c z1], fun j z1 z2 z3 z4 z5 z6 z7 => by rw [b3' j z2 z3 z6 z7, n9 j z1 z3 z4 z5 z7], ?_, b5', ?_, ?_, b7'', fun i hi => absurd hi (Nat.not_lt_zero _)⟩
    · rw [b3' 0 (by decide) (by decide) (by decide) (by decide)]; exact n0
    · rw [b3' 34 (by decide) (by decide) (by decide) (by decide)]; exact n34
    · rw [b3' 35 (by decide) (by decide) (by decide) (by decide)]; exact n35
  · rw [if_neg c2] at ha
    subst ha
    have q1 : (lr, 1) ∈ lw5 := lw5_of h2 h4 (by decide) (fun z => absurd z c2)
    have N1 := (row_n q1 hl).1
    have h33 : d9.1 113 33 = ((0 : Nat) : Int) := n33
    have h43 : d9.1 113 43 = ((0 : Nat) : Int) := n43
    obtain ⟨dA, e1, b1', b2', b3', b4', b5', b6', b7'⟩ := x12_half (d := d9) (G := G0) (base := 0) (s1 := 2) q0 hl.2.1 (by omega) hG0 (by omega) h33 h43 (by omega)
    rw [Nat.zero_add] at b5'
    have b7'' : ∀ i, i < cn9 G0 ((lb + 1) ^ gcn lr 0) → dA.1 129 i = (pk9 G0 ((lb + 1) ^ gcn lr 0) i : Nat) ∧ dA.1 130 i = 0 := fun i hi => by
      have := b7' i hi
      rw [Nat.zero_add] at this
      exact this
    have k43 : dA.1 113 43 = ((1 : Nat) : Int) := b4'
    obtain ⟨dB, e2, c1', c2', c3', c4', c5', c6', c7'⟩ := x12_half (d := dA) (G := G1) (base := cn9 G0 ((lb + 1) ^ gcn lr 0)) (s1 := 2) q1 hl.2.1 (by omega) (hG1 c2) h4000 b5' k43 (by omega)
    have lp : lpE (fun q => X12_list_b58 113 lr lb q) d9 (fun e => some ((e.1 113 33, e))) = some ((dB.1 113 33, dB)) := by
      refine lpE_for (fun i => if i = 0 then d9 else if i = 1 then dA else dB) 2 dB rfl (by decide) (fun i hi => ?_) ?_
      · rcases (show i = 0 ∨ i = 1 by omega) with rfl | rfl
        · show X12_list_b58 113 lr lb d9 = some (.inl dA)
          unfold X12_list_b58
          rw [gd_pos (by omega), if_neg (by omega)]
          exact e1
        · show X12_list_b58 113 lr lb dA = some (.inl dB)
          unfold X12_list_b58
          rw [gd_pos (by omega), if_neg (by omega)]
          exact e2
      · show X12_list_b58 113 lr lb dB = _
        unfold X12_list_b58 X12_list_j72_58
        rw [c4', gd_pos (by omega), if_neg (by omega), gd_pos (by decide), if_pos (by decide)]
    rw [lp, c5']
    refine ⟨dB, rfl, (c1'.trans b1').trans s9, fun c z1 z2 z3 z4 z5 z6 z7 z8 => by rw [c2' c z1 z2 z3 z4 z5 z6 z7 z8, b2' c z1 z2 z3 z4 z5 z6 z7 z8, o9 c z1], fun j z1 z2 z3 z4 z5 z6 z7 => by rw [c3' j z2 z3 z6 z7, b3' j z2 z3 z6 z7, n9 j z1 z3 z4 z5 z7], ?_, c5', ?_, ?_, fun i hi => ?_, c7'⟩
    · rw [c3' 0 (by decide) (by decide) (by decide) (by decide), b3' 0 (by decide) (by decide) (by decide) (by decide)]; exact n0
    · rw [c3' 34 (by decide) (by decide) (by decide) (by decide), b3' 34 (by decide) (by decide) (by decide) (by decide)]; exact n34
    · rw [c3' 35 (by decide) (by decide) (by decide) (by decide), b3' 35 (by decide) (by decide) (by decide) (by decide)]; exact n35
    · rw [(c6' i hi).1, (c6' i hi).2]; exact b7'' i hi

/-! ===== list: the last group of an equation ===== -/
theorem mx_nat {a b : Nat} : mmax (a : Int) (b : Int) = ((max a b : Nat) : Int) := by
  unfold mmax
  rcases Nat.lt_or_ge a b with z | z
  · rw [Nat.max_eq_right (by omega)]; split <;> omega
  · rw [Nat.max_eq_left z]; split <;> omega
def lgN (lr w i j k l : Nat) : Nat → Nat
  | 0 => 0
  | t + 1 => max (max (max (max (lgN lr w i j k l t) (grp lr w i j (dl9 lr w (t + 1)))) (grp lr w (t + 1) k (dl9 lr w l))) (grp lr w j k (dl9 lr w (t + 1)))) (grp lr w i (t + 1) (dl9 lr w l))
theorem x2_last {E : DA} {lr w i j k l : Nat} (hq : (lr, w) ∈ lw5) (hE : LsA E lr w) (i1 : 1 ≤ i) (hi : i < lr) (j1 : 1 ≤ j) (hj : j < lr) (k1 : 1 ≤ k) (hk : k < lr) (l1 : 1 ≤ l) (hl : l < lr) : X2_lastGroup 46 i j k l E = some ((lgN lr w i j k l (lr - 1) : Nat) : Int) := by
  obtain ⟨e0, e1, e2⟩ := hE
  obtain ⟨h2, h4, -, -⟩ := lw5_bd hq
  have lb : ∀ t, t ≤ lr - 1 → lgN lr w i j k l t < 10 := fun t => by
    induction t with
    | zero => intro _; unfold lgN; omega
    | succ t ih =>
      intro ht
      have i0 := ih (by omega)
      have gb := (gcn_bd hq).2
      obtain ⟨d1, d2, -⟩ := dl9_bd hq (a := t + 1) (by omega)
      obtain ⟨d3, d4, -⟩ := dl9_bd hq hl
      have g1 := grp_lt hq i1 hi j1 hj (d2 (by omega)) d1
      have g2 := grp_lt hq (show 1 ≤ t + 1 by omega) (show t + 1 < lr by omega) k1 hk (d4 l1) d3
      have g3 := grp_lt hq j1 hj k1 hk (d2 (by omega)) d1
      have g4 := grp_lt hq i1 hi (show 1 ≤ t + 1 by omega) (show t + 1 < lr by omega) (d4 l1) d3
      unfold lgN
      omega
  unfold X2_lastGroup
  refine lpE_for (fun t => (((lgN lr w i j k l t : Nat) : Int), ((t + 1 : Nat) : Int))) (lr - 1) _ rfl (by omega) (fun t ht => ?_) ?_
  · show X2_lastGroup_b6 46 i j k l ((lgN lr w i j k l t : Nat) : Int) ((t + 1 : Nat) : Int) E = some (.inl (((lgN lr w i j k l (t + 1) : Nat) : Int), ((t + 1 : Nat) : Int) + 1))
    have lt := lb t (by omega)
    have gb := (gcn_bd hq).2
    obtain ⟨d1, d2, -⟩ := dl9_bd hq (a := t + 1) (by omega)
    obtain ⟨d3, d4, -⟩ := dl9_bd hq hl
    have d2' := d2 (by omega)
    have d4' := d4 l1
    have g1 := grp_lt hq i1 hi j1 hj d2' d1
    have g2 := grp_lt hq (show 1 ≤ t + 1 by omega) (show t + 1 < lr by omega) k1 hk d4' d3
    have g3 := grp_lt hq j1 hj k1 hk d2' d1
    have g4 := grp_lt hq i1 hi (show 1 ≤ t + 1 by omega) (show t + 1 < lr by omega) d4' d3
    have s : ∀ a b c : Nat, a < 4 → b < 4 → c < 4 → ∀ d : DA, X2_set (a : Int) (b : Int) (c : Int) d = some ((st9 a b c : Nat) : Int) ∧ st9 a b c < 64 := fun a b c ha hb hc d => by
      unfold X2_set st9
      refine ⟨?_, by omega⟩
      congr 1
    have q1 : E.1 (46 + 2) (Int.toNat ((t + 1 : Nat) : Int)) = ((dl9 lr w (t + 1) : Nat) : Int) := by rw [Int.toNat_natCast]; exact e1 (t + 1) (by omega)
    have q2 : E.1 (46 + 2) (Int.toNat (l : Int)) = ((dl9 lr w l : Nat) : Int) := by rw [Int.toNat_natCast]; exact e1 l hl
    have r : ∀ a b c : Nat, 1 ≤ a → a < lr → 1 ≤ b → b < lr → 1 ≤ c → c < lr → E.1 (46 + 3) (Int.toNat ((st9 a b c : Nat) : Int)) = ((grp lr w a b c : Nat) : Int) := fun a b c a1 a2 b1 b2 c1 c2 => by rw [Int.toNat_natCast]; exact e2 a b c a1 a2 b1 b2 c1 c2
    have s1 := s i j (dl9 lr w (t + 1)) (by omega) (by omega) (by omega) E
    have s2 := s (t + 1) k (dl9 lr w l) (by omega) (by omega) (by omega) E
    have s3 := s j k (dl9 lr w (t + 1)) (by omega) (by omega) (by omega) E
    have s4 := s i (t + 1) (dl9 lr w l) (by omega) (by omega) (by omega) E
    unfold X2_lastGroup_b6
    rw [e0, gd_pos (by omega), if_neg (by omega), gd_pos (by omega), q1, b1_pos s1.1, gd_pos (by omega), r _ _ _ i1 hi j1 hj d2' d1, gd_pos (by omega), lt_pos, mx_nat, gd_pos (by omega), q2, b1_pos s2.1, gd_pos (by omega), r _ _ _ (by omega) (by omega) k1 hk d4' d3, gd_pos (by omega), lt_pos, mx_nat, gd_pos (by omega), b1_pos s3.1, gd_pos (by omega), r _ _ _ j1 hj k1 hk d2' d1, gd_pos (by omega), lt_pos, mx_nat, gd_pos (by omega), b1_pos s4.1, gd_pos (by omega), r _ _ _ i1 hi (by omega) (by omega) d4' d3, gd_pos (by omega), lt_pos, mx_nat]
    rfl
  · show X2_lastGroup_b6 46 i j k l _ ((lr - 1 + 1 : Nat) : Int) E = _
    unfold X2_lastGroup_b6
    rw [e0, gd_pos (by omega), if_pos (by omega)]

/-! ===== list: the reference's law of a table that is read ===== -/
theorem lpR_al {R Y : Type} {b : Int → Option (Int ⊕ (Unit ⊕ R))} {k : Unit → Option Y} {j : R → Option Y} {z : R} (a r : Nat) (G : Nat → Prop) (hr : a ≤ r ∧ r < 4000000) (hb : ∀ i, a ≤ i → i < r → (G i ∧ b (i : Int) = some (.inl ((i : Int) + 1))) ∨ (¬ G i ∧ b (i : Int) = some (.inr (.inr z)))) (he : b (r : Int) = some (.inr (.inl ()))) : ((∀ i, a ≤ i → i < r → G i) ∧ lpR b (a : Int) k j = k ()) ∨ (¬ (∀ i, a ≤ i → i < r → G i) ∧ lpR b (a : Int) k j = j z) := by
  rcases lpR_ei (b := b) (k := k) (j := j) (s0 := (a : Int)) (fun i s => s = ((a + i : Nat) : Int) ∧ ∀ t, a ≤ t → t < a + i → G t) (fun _ => ∀ i, a ≤ i → i < r → G i) (fun x => x = z ∧ ¬ ∀ i, a ≤ i → i < r → G i) (r - a) (by omega) ⟨by rfl, fun t h1 h2 => by omega⟩ (fun i s hi hI => by
      obtain ⟨rfl, hI⟩ := hI
      rcases hb (a + i) (by omega) (by omega) with ⟨g, h⟩ | ⟨g, h⟩
      · exact Or.inl ⟨_, h, by omega, fun t h1 h2 => by
          by_cases e : t = a + i
          · rw [e]; exact g
          · exact hI t h1 (by omega)⟩
      · exact Or.inr ⟨_, h, rfl, fun y => g (y _ (by omega) (by omega))⟩) (fun s hI => by
      obtain ⟨rfl, hI⟩ := hI
      rw [show a + (r - a) = r by omega]
      exact ⟨(), he, fun i h1 h2 => hI i h1 (by omega)⟩) with ⟨e, h1, h2⟩ | ⟨e, h1, rfl, h2⟩
  · exact Or.inl ⟨h2, h1⟩
  · exact Or.inr ⟨h2, h1⟩
def AsG (U : Nat → Int) (r i j k l : Nat) : Prop := sm r (fun e => U (ti i j e) * U (ti e k l) - U (ti j k e) * U (ti i e l)) = 0
theorem x12_rdSum {d : DA} {r : Nat} (h5 : 1 ≤ r ∧ r ≤ 5) (hU : ∀ q, q < 125 → 0 ≤ d.1 116 q ∧ d.1 116 q ≤ 9) : ((∀ i, 1 ≤ i → i < r → ∀ j, 1 ≤ j → j < r → ∀ k, 1 ≤ k → k < r → ∀ l, 0 ≤ l → l < r → AsG (d.1 116) r i j k l) ∧ X12_isReadSum 113 r d = some 1) ∨ (¬ (∀ i, 1 ≤ i → i < r → ∀ j, 1 ≤ j → j < r → ∀ k, 1 ≤ k → k < r → ∀ l, 0 ≤ l → l < r → AsG (d.1 116) r i j k l) ∧ X12_isReadSum 113 r d = some 0) := by
  unfold X12_isReadSum
  refine lpR_al (b := fun q => X12_isReadSum_b2 113 r q d) (k := fun _ => some (1 : Int)) (j := fun r => some r) (z := (0 : Int)) 1 r _ (by omega) (fun i i1 i2 => ?_) ?_
  · show (_ ∧ X12_isReadSum_b2 113 r (i : Int) d = _) ∨ (_ ∧ X12_isReadSum_b2 113 r (i : Int) d = _)
    unfold X12_isReadSum_b2
    rw [gd_pos (by omega), if_neg (by omega)]
    refine lpR_al (b := fun q => X12_isReadSum_b9 113 r i q d) (k := fun _ => some (Sum.inl ((i : Int) + 1))) (j := fun r => some (Sum.inr (Sum.inr r))) (z := (0 : Int)) 1 r _ (by omega) (fun j j1 j2 => ?_) ?_
    · show (_ ∧ X12_isReadSum_b9 113 r i (j : Int) d = _) ∨ (_ ∧ X12_isReadSum_b9 113 r i (j : Int) d = _)
      unfold X12_isReadSum_b9
      rw [gd_pos (by omega), if_neg (by omega)]
      refine lpR_al (b := fun q => X12_isReadSum_b17 113 r i j q d) (k := fun _ => some (Sum.inl ((j : Int) + 1))) (j := fun r => some (Sum.inr (Sum.inr r))) (z := (0 : Int)) 1 r _ (by omega) (fun k k1 k2 => ?_) ?_
      · show (_ ∧ X12_isReadSum_b17 113 r i j (k : Int) d = _) ∨ (_ ∧ X12_isReadSum_b17 113 r i j (k : Int) d = _)
        unfold X12_isReadSum_b17
        rw [gd_pos (by omega), if_neg (by omega)]
        refine lpR_al (b := fun q => X12_isReadSum_b26 113 r i j k q d) (k := fun _ => some (Sum.inl ((k : Int) + 1))) (j := fun r => some (Sum.inr (Sum.inr r))) (z := (0 : Int)) 0 r _ (by omega) (fun l l1 l2 => ?_) ?_
        · show (_ ∧ X12_isReadSum_b26 113 r i j k (l : Int) d = _) ∨ (_ ∧ X12_isReadSum_b26 113 r i j k (l : Int) d = _)
          unfold X12_isReadSum_b26
          rw [gd_pos (by omega), if_neg (by omega)]
          have tb : ∀ a b c, a < r → b < r → c < r → 0 ≤ d.1 116 (ti a b c) ∧ d.1 116 (ti a b c) ≤ 9 ∧ ti a b c < 125 := fun a b c ha hb hc => by
            have l := ti_lt5 (a := a) (b := b) (v := c) (by omega) (by omega) (by omega)
            exact ⟨(hU _ l).1, (hU _ l).2, l⟩
          have pr : ∀ x y : Int, (0 ≤ x ∧ x ≤ 9) → (0 ≤ y ∧ y ≤ 9) → 0 ≤ x * y ∧ x * y ≤ 81 := fun x y hx hy => ⟨Int.mul_nonneg hx.1 hy.1, by
            have := Int.mul_le_mul hx.2 hy.2 hy.1 (by decide : (0 : Int) ≤ 9)
            omega⟩
          have bd9 : ∀ m, m ≤ r → -(81 * (m : Int)) ≤ sm m (fun e => d.1 116 (ti i j e) * d.1 116 (ti e k l) - d.1 116 (ti j k e) * d.1 116 (ti i e l)) ∧ sm m (fun e => d.1 116 (ti i j e) * d.1 116 (ti e k l) - d.1 116 (ti j k e) * d.1 116 (ti i e l)) ≤ 81 * (m : Int) := fun m hm => by
            have := sm_bd (f := fun e => d.1 116 (ti i j e) * d.1 116 (ti e k l) - d.1 116 (ti j k e) * d.1 116 (ti i e l)) (lo := -81) (hi := 81) m (fun e he => by
              have a1 := tb i j e i2 j2 (by omega)
              have a2 := tb e k l (by omega) k2 l2
              have a3 := tb j k e j2 k2 (by omega)
              have a4 := tb i e l i2 (by omega) l2
              have p1 := pr _ _ ⟨a1.1, a1.2.1⟩ ⟨a2.1, a2.2.1⟩
              have p2 := pr _ _ ⟨a3.1, a3.2.1⟩ ⟨a4.1, a4.2.1⟩
              show -81 ≤ d.1 116 (ti i j e) * d.1 116 (ti e k l) - d.1 116 (ti j k e) * d.1 116 (ti i e l) ∧ d.1 116 (ti i j e) * d.1 116 (ti e k l) - d.1 116 (ti j k e) * d.1 116 (ti i e l) ≤ 81
              omega)
            omega
          have hl := lpS9 (b := fun q => X12_isReadSum_b38 113 r i j k l q.1 q.2 d) (k := fun e => X12_isReadSum_j110_26 113 r i j k l e d) (r := r) (fun e => d.1 116 (ti i j e) * d.1 116 (ti e k l) - d.1 116 (ti j k e) * d.1 116 (ti i e l)) (by omega) (fun e he => by
              show X12_isReadSum_b38 113 r i j k l _ (e : Int) d = _
              unfold X12_isReadSum_b38
              have a1 := tb i j e i2 j2 he
              have a2 := tb e k l he k2 l2
              have a3 := tb j k e j2 k2 he
              have a4 := tb i e l i2 he l2
              rw [gd_pos (by omega), if_neg (by omega), b1_pos x12_cellN, gd_pos (by omega), b1_pos x12_cellN, gd_pos (by omega), b1_pos x12_cellN, gd_pos (by omega), b1_pos x12_cellN, gd_pos (by omega), lt_pos, Int.toNat_natCast, Int.toNat_natCast, Int.toNat_natCast, Int.toNat_natCast]
              rfl) (by
              show X12_isReadSum_b38 113 r i j k l _ (r : Int) d = _
              unfold X12_isReadSum_b38
              rw [gd_pos (by omega), if_pos (by omega)])
          rw [hl]
          have bb := bd9 r (Nat.le_refl _)
          unfold X12_isReadSum_j110_26 AsG
          rw [gd_pos (by omega)]
          by_cases c : sm r (fun e => d.1 116 (ti i j e) * d.1 116 (ti e k l) - d.1 116 (ti j k e) * d.1 116 (ti i e l)) = 0
          · rw [if_pos c]; exact Or.inl ⟨c, rfl⟩
          · rw [if_neg c]; exact Or.inr ⟨c, rfl⟩
        · show X12_isReadSum_b26 113 r i j k (r : Int) d = _
          unfold X12_isReadSum_b26
          rw [gd_pos (by omega), if_pos (by omega)]
      · show X12_isReadSum_b17 113 r i j (r : Int) d = _
        unfold X12_isReadSum_b17
        rw [gd_pos (by omega), if_pos (by omega)]
    · show X12_isReadSum_b9 113 r i (r : Int) d = _
      unfold X12_isReadSum_b9
      rw [gd_pos (by omega), if_pos (by omega)]
  · show X12_isReadSum_b2 113 r (r : Int) d = _
    unfold X12_isReadSum_b2
    rw [gd_pos (by omega), if_pos (by omega)]

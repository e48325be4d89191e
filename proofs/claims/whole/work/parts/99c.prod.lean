/-! ===== product: the reference ===== -/
theorem div_nat (a b : Nat) : (a : Int) / (b : Int) = ((a / b : Nat) : Int) := rfl
/-- what the reference's product finds -/
def PdM (D : DA) (n kn : Nat → Int) (r kr : Nat) : Prop := D.1 113 2 = kr ∧ D.1 114 = n ∧ D.1 115 = kn ∧ (∀ q, q < 125 → 0 ≤ n q ∧ n q ≤ 9) ∧ (∀ q, q < 125 → 0 ≤ kn q ∧ kn q ≤ 9) ∧ 1 ≤ r ∧ 1 ≤ kr ∧ r * kr ≤ 5 ∧ r ≤ 5 ∧ kr ≤ 5
theorem x12_prod3 {D : DA} {n kn : Nat → Int} {r kr R : Nat} {f0 f : Nat → Int} (hD : PdM D n kn r kr) (hR : R = r * kr) (hW : Wc n kn r kr f0 (fun _ _ _ _ _ _ => False) f) {Y : Type} (k : DA → Option Y) (j : Int × DA → Option Y) : (∃ e, lpR (fun q => X12_product_b40 113 R q.1 q.2) (0, wA D 116 f) k j = k e ∧ ∃ f', e = wA D 116 f' ∧ Wc n kn r kr f0 (fun _ _ _ _ _ _ => True) f') ∨ (∃ x, lpR (fun q => X12_product_b40 113 R q.1 q.2) (0, wA D 116 f) k j = j x ∧ (∃ f', x = (-1, wA D 116 f')) ∧ Bd9 n kn r kr) := by
  obtain ⟨p1, p3, p4, p5, p6, p7, p8, p9, p10, p11⟩ := hD
  have h2 : ∀ f, (wA D 116 f).1 113 2 = kr := fun f => by rw [wA_ne (by decide)]; exact p1
  have dl : ∀ i, i < R → i / kr < r ∧ i % kr < kr ∧ i / kr * kr + i % kr = i ∧ i / kr ≤ i ∧ i % kr ≤ i := fun i hi => ⟨Nat.div_lt_of_lt_mul (by rw [Nat.mul_comm]; omega), Nat.mod_lt _ (by omega), by rw [Nat.mul_comm]; exact Nat.div_add_mod i kr, Nat.div_le_self _ _, Nat.mod_le _ _⟩
  have inner : ∀ (a b : Nat) (f : Nat → Int) (S : S6), a < R → b < R → Wc n kn r kr f0 S f → ∀ {Y : Type} (k : DA → Option Y) (j : Int × DA → Option Y), (∃ e, lpR (fun q => X12_product_b55 113 R a b q.1 q.2) (0, wA D 116 f) k j = k e ∧ ∃ f', e = wA D 116 f' ∧ Wc n kn r kr f0 (fun A' B' C' a' b' c' => S A' B' C' a' b' c' ∨ (A' * kr + a' = a ∧ B' * kr + b' = b)) f') ∨ (∃ x, lpR (fun q => X12_product_b55 113 R a b q.1 q.2) (0, wA D 116 f) k j = j x ∧ (∃ f', x = (-1, wA D 116 f')) ∧ Bd9 n kn r kr) := fun a b f S ha hb hW Y k j => by
    refine lpR_ei (fun i s => s.1 = (i : Int) ∧ ∃ f', s.2 = wA D 116 f' ∧ Wc n kn r kr f0 (fun A' B' C' a' b' c' => S A' B' C' a' b' c' ∨ (A' * kr + a' = a ∧ B' * kr + b' = b ∧ C' * kr + c' < i)) f') _ _ R (by omega) ⟨rfl, f, rfl, hW.sub (fun A' B' C' a' b' c' _ _ _ _ _ _ z => by rcases z with z | z; exact z; omega)⟩ (fun i s hi hI => ?_) (fun s hI => ?_)
    · obtain ⟨v, E⟩ := s
      obtain ⟨rfl, f', rfl, hW'⟩ := hI
      obtain ⟨a1, a2, a3, a4, a5⟩ := dl a ha
      obtain ⟨b1, b2, b3, b4, b5⟩ := dl b hb
      obtain ⟨c1, c2, c3, c4, c5⟩ := dl i hi
      have hpd := pd_bd (A := a / kr) (B := b / kr) (C := i / kr) (a := a % kr) (b := b % kr) (c := i % kr) p5 p6 (by omega) (by omega) (by omega) (by omega) (by omega) (by omega)
      have hof : X12_of 113 ((a : Int) / (kr : Int)) ((b : Int) / (kr : Int)) ((i : Int) / (kr : Int)) (wA D 116 f') = some (n (ti (a / kr) (b / kr) (i / kr))) := by
        rw [div_nat, div_nat, div_nat, x12_of (by omega) (by omega) (by omega)]
        unfold nn
        rw [wA_ne (by decide), p3]; rfl
      have hcl : X12_cell (Int.tmod (a : Int) (kr : Int)) (Int.tmod (b : Int) (kr : Int)) (Int.tmod (i : Int) (kr : Int)) (wA D 116 f') = some ((ti (a % kr) (b % kr) (i % kr) : Nat) : Int) := by
        rw [tmod_nat, tmod_nat, tmod_nat]
        unfold X12_cell
        refine congrArg some ?_
        unfold ti
        omega
      have hc2 : X12_cell (a : Int) (b : Int) (i : Int) (wA D 116 f') = some ((ti a b i : Nat) : Int) := by
        unfold X12_cell
        refine congrArg some ?_
        unfold ti
        omega
      have l1 := ti_lt (i := a % kr) (j := b % kr) (k := i % kr) (by omega) (by omega) (by omega)
      have l2 := ti_lt (i := a) (j := b) (k := i) (by omega) (by omega) (by omega)
      have k5 : (wA D 116 f').1 (113 + 2) (ti (a % kr) (b % kr) (i % kr)) = kn (ti (a % kr) (b % kr) (i % kr)) := by
        rw [wA_ne (by decide)]
        show D.1 115 _ = _
        rw [p4]
      have hv : n (ti (a / kr) (b / kr) (i / kr)) * kn (ti (a % kr) (b % kr) (i % kr)) = pd n kn (a / kr) (b / kr) (i / kr) (a % kr) (b % kr) (i % kr) := rfl
      have head : X12_product_b55 113 R a b (i : Int) (wA D 116 f') = if pd n kn (a / kr) (b / kr) (i / kr) (a % kr) (b % kr) (i % kr) ≤ 9 then some (.inl ((i : Int) + 1, wA D 116 (fu f' (ti a b i) (pd n kn (a / kr) (b / kr) (i / kr) (a % kr) (b % kr) (i % kr))))) else some (.inr (.inr (-1, wA D 116 f'))) := by
        unfold X12_product_b55
        rw [h2, gd_pos (by omega), if_neg (by omega), gd_pos (by unfold dvq; omega), gd_pos (by unfold dvq; omega), gd_pos (by unfold dvq; omega), b1_pos hof, gd_pos (by unfold dvg; omega), gd_pos (by unfold dvg; omega), gd_pos (by unfold dvg; omega), b1_pos hcl, gd_pos (by omega), lt_pos, Int.toNat_natCast, k5, hv, gd_pos (by omega)]
        by_cases c9 : pd n kn (a / kr) (b / kr) (i / kr) (a % kr) (b % kr) (i % kr) ≤ 9
        · rw [if_pos c9, if_pos c9, b1_pos hc2, gd_pos (by omega), lt_pos, Int.toNat_natCast]
          show some (Sum.inl ((i : Int) + 1, wI (wA D 116 f') 116 _ _)) = _
          rw [wA_wI]
        · rw [if_neg c9, if_neg c9]
      by_cases c9 : pd n kn (a / kr) (b / kr) (i / kr) (a % kr) (b % kr) (i % kr) ≤ 9
      · left
        rw [if_pos c9] at head
        have hp := hW'.put (S' := fun A' B' C' a' b' c' => S A' B' C' a' b' c' ∨ (A' * kr + a' = a ∧ B' * kr + b' = b ∧ C' * kr + c' < i + 1)) p9 a1 b1 c1 a2 b2 c2 c9 (fun A' B' C' a' b' c' y1 y2 y3 y4 y5 y6 z => by
          rcases z with z | ⟨z1, z2, z3⟩
          · exact Or.inl (Or.inl z)
          · by_cases y : C' * kr + c' = i
            · right
              obtain ⟨e1, e2⟩ := qr_inj y4 a2 (z1.trans a3.symm)
              obtain ⟨e3, e4⟩ := qr_inj y5 b2 (z2.trans b3.symm)
              obtain ⟨e5, e6⟩ := qr_inj y6 c2 (y.trans c3.symm)
              exact ⟨e1, e3, e5, e2, e4, e6⟩
            · exact Or.inl (Or.inr ⟨z1, z2, by omega⟩))
        rw [a3, b3, c3] at hp
        exact ⟨_, head, by show (i : Int) + 1 = _; omega, _, rfl, hp⟩
      · right
        rw [if_neg c9] at head
        exact ⟨_, head, ⟨f', rfl⟩, _, _, _, _, _, _, a1, b1, c1, a2, b2, c2, (by omega)⟩
    · obtain ⟨v, E⟩ := s
      obtain ⟨rfl, f', rfl, hW'⟩ := hI
      refine ⟨wA D 116 f', ?_, f', rfl, hW'.sub (fun A' B' C' a' b' c' _ _ z3 _ _ z6 z => by
        rcases z with z | z
        · exact Or.inl z
        · have := qr_lt z3 z6
          exact Or.inr ⟨z.1, z.2, by omega⟩)⟩
      show X12_product_b55 113 R a b (R : Int) (wA D 116 f') = _
      unfold X12_product_b55
      rw [gd_pos (by omega), if_pos (by omega)]
  have mid : ∀ (a : Nat) (f : Nat → Int) (S : S6), a < R → Wc n kn r kr f0 S f → ∀ {Y : Type} (k : DA → Option Y) (j : Int × DA → Option Y), (∃ e, lpR (fun q => X12_product_b47 113 R a q.1 q.2) (0, wA D 116 f) k j = k e ∧ ∃ f', e = wA D 116 f' ∧ Wc n kn r kr f0 (fun A' B' C' a' b' c' => S A' B' C' a' b' c' ∨ A' * kr + a' = a) f') ∨ (∃ x, lpR (fun q => X12_product_b47 113 R a q.1 q.2) (0, wA D 116 f) k j = j x ∧ (∃ f', x = (-1, wA D 116 f')) ∧ Bd9 n kn r kr) := fun a f S ha hW Y k j => by
    refine lpR_ei (fun i s => s.1 = (i : Int) ∧ ∃ f', s.2 = wA D 116 f' ∧ Wc n kn r kr f0 (fun A' B' C' a' b' c' => S A' B' C' a' b' c' ∨ (A' * kr + a' = a ∧ B' * kr + b' < i)) f') _ _ R (by omega) ⟨rfl, f, rfl, hW.sub (fun A' B' C' a' b' c' _ _ _ _ _ _ z => by rcases z with z | z; exact z; omega)⟩ (fun i s hi hI => ?_) (fun s hI => ?_)
    · obtain ⟨v, E⟩ := s
      obtain ⟨rfl, f', rfl, hW'⟩ := hI
      have e0 : X12_product_b47 113 R a (i : Int) (wA D 116 f') = lpR (fun q => X12_product_b55 113 R a i q.1 q.2) (0, wA D 116 f') (fun e => some (.inl ((i : Int) + 1, e))) (fun r => some (.inr (.inr r))) := by
        unfold X12_product_b47
        rw [gd_pos (by omega), if_neg (by omega)]
      rcases inner a i f' _ ha hi hW' (fun e => some (Sum.inl ((i : Int) + 1, e))) (fun r => some (Sum.inr (Sum.inr r))) with ⟨e, h1, f2, rfl, hW2⟩ | ⟨x, h1, ⟨f2, rfl⟩, hb⟩
      · left
        refine ⟨((i : Int) + 1, wA D 116 f2), e0.trans h1, by show (i : Int) + 1 = _; omega, f2, rfl, hW2.sub (fun A' B' C' a' b' c' _ _ _ _ _ _ z => by rcases z with z | z; exact Or.inl (Or.inl z); by_cases y : B' * kr + b' = i; exact Or.inr ⟨z.1, y⟩; exact Or.inl (Or.inr ⟨z.1, by omega⟩))⟩
      · right
        exact ⟨_, e0.trans h1, ⟨f2, rfl⟩, hb⟩
    · obtain ⟨v, E⟩ := s
      obtain ⟨rfl, f', rfl, hW'⟩ := hI
      refine ⟨wA D 116 f', ?_, f', rfl, hW'.sub (fun A' B' C' a' b' c' _ z2 _ _ z5 _ z => by
        rcases z with z | z
        · exact Or.inl z
        · have := qr_lt z2 z5
          exact Or.inr ⟨z, by omega⟩)⟩
      show X12_product_b47 113 R a (R : Int) (wA D 116 f') = _
      unfold X12_product_b47
      rw [gd_pos (by omega), if_pos (by omega)]
  refine lpR_ei (fun i s => s.1 = (i : Int) ∧ ∃ f', s.2 = wA D 116 f' ∧ Wc n kn r kr f0 (fun A' B' C' a' b' c' => A' * kr + a' < i) f') _ _ R (by omega) ⟨rfl, f, rfl, hW.sub (fun A' B' C' a' b' c' _ _ _ _ _ _ z => by omega)⟩ (fun i s hi hI => ?_) (fun s hI => ?_)
  · obtain ⟨v, E⟩ := s
    obtain ⟨rfl, f', rfl, hW'⟩ := hI
    have e0 : X12_product_b40 113 R (i : Int) (wA D 116 f') = lpR (fun q => X12_product_b47 113 R i q.1 q.2) (0, wA D 116 f') (fun e => some (.inl ((i : Int) + 1, e))) (fun r => some (.inr (.inr r))) := by
      unfold X12_product_b40
      rw [gd_pos (by omega), if_neg (by omega)]
    rcases mid i f' _ hi hW' (fun e => some (Sum.inl ((i : Int) + 1, e))) (fun r => some (Sum.inr (Sum.inr r))) with ⟨e, h1, f2, rfl, hW2⟩ | ⟨x, h1, ⟨f2, rfl⟩, hb⟩
    · left
      exact ⟨((i : Int) + 1, wA D 116 f2), e0.trans h1, by show (i : Int) + 1 = _; omega, f2, rfl, hW2.sub (fun A' B' C' a' b' c' _ _ _ _ _ _ z => by by_cases y : A' * kr + a' = i; exact Or.inr y; exact Or.inl (by omega))⟩
    · right
      exact ⟨_, e0.trans h1, ⟨f2, rfl⟩, hb⟩
  · obtain ⟨v, E⟩ := s
    obtain ⟨rfl, f', rfl, hW'⟩ := hI
    refine ⟨wA D 116 f', ?_, f', rfl, hW'.sub (fun A' B' C' a' b' c' z1 _ _ z4 _ _ _ => by have := qr_lt z1 z4; omega)⟩
    show X12_product_b40 113 R (R : Int) (wA D 116 f') = _
    unfold X12_product_b40
    rw [gd_pos (by omega), if_pos (by omega)]

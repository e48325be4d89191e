/-! ===== product: the class ===== -/
theorem x8_prod3 {D : DA} {n kn : Nat → Int} {r kr : Nat} {f0 f : Nat → Int} (hD : PdC D n kn r kr) (hW : Wc n kn r kr f0 (fun _ _ _ _ _ _ => False) f) {Y : Type} (k : DA → Option Y) (j : Int × DA → Option Y) : (∃ e, lpR (fun q => X8_beProduct_b25 38 5 32 q.1 q.2) (0, wA D 39 f) k j = k e ∧ ∃ f', e = wA D 39 f' ∧ Wc n kn r kr f0 (fun _ _ _ _ _ _ => True) f') ∨ (∃ x, lpR (fun q => X8_beProduct_b25 38 5 32 q.1 q.2) (0, wA D 39 f) k j = j x ∧ (∃ f', x = (0, wA D 39 f')) ∧ Bd9 n kn r kr) := by
  have hD' := hD
  obtain ⟨p1, p2, p3, p4, p5, p6, p7, p8, p9, p10, p11⟩ := hD'
  have hr5 : ∀ f, (wA D 39 f).1 5 0 = r := fun f => by rw [wA_ne (by decide)]; exact p1
  have inner : ∀ (a b : Nat) (f : Nat → Int) (S : S6), a < r → b < r → Wc n kn r kr f0 S f → ∀ {Y : Type} (k : DA → Option Y) (j : Int × DA → Option Y), (∃ e, lpR (fun q => X8_beProduct_b49 38 5 32 a b q.1 q.2) (0, wA D 39 f) k j = k e ∧ ∃ f', e = wA D 39 f' ∧ Wc n kn r kr f0 (fun A' B' C' a' b' c' => S A' B' C' a' b' c' ∨ (A' = a ∧ B' = b)) f') ∨ (∃ x, lpR (fun q => X8_beProduct_b49 38 5 32 a b q.1 q.2) (0, wA D 39 f) k j = j x ∧ (∃ f', x = (0, wA D 39 f')) ∧ Bd9 n kn r kr) := fun a b f S ha hb hW Y k j => by
    refine lpR_ei (fun i s => s.1 = (i : Int) ∧ ∃ f', s.2 = wA D 39 f' ∧ Wc n kn r kr f0 (fun A' B' C' a' b' c' => S A' B' C' a' b' c' ∨ (A' = a ∧ B' = b ∧ C' < i)) f') _ _ r (by omega) ⟨rfl, f, rfl, hW.sub (fun A' B' C' a' b' c' _ _ _ _ _ _ z => by rcases z with z | z; exact z; omega)⟩ (fun i s hi hI => ?_) (fun s hI => ?_)
    · obtain ⟨v, E⟩ := s
      obtain ⟨rfl, f', rfl, hW'⟩ := hI
      have hat : X8_at 5 (a : Int) b i (wA D 39 f') = some (n (ti a b i)) := by
        rw [x8_at (by omega) (by omega) (by omega)]
        unfold nn
        rw [wA_ne (by decide), p3]; rfl
      have e0 : ∀ v E, X8_spread 38 32 (n (ti a b i)) a b i (wA D 39 f') = some (v, E) → X8_beProduct_b49 38 5 32 a b (i : Int) (wA D 39 f') = (gd (inR v) <| if v = 0 then (some (.inr (.inr ((0, E))))) else some (.inl ((i : Int) + 1, E))) := fun v E hE => by
        unfold X8_beProduct_b49
        rw [hr5, gd_pos (by omega), if_neg (by omega), b1_pos hat, bd_pos hE]
      rcases x8_spread hD ha hb hi hW' with ⟨f2, h1, hW2⟩ | ⟨f2, h1, hb⟩
      · left
        refine ⟨((i : Int) + 1, wA D 39 f2), ?_, by show (i : Int) + 1 = _; omega, f2, rfl, hW2.sub (fun A' B' C' a' b' c' _ _ _ _ _ _ z => by rcases z with z | z; exact Or.inl (Or.inl z); by_cases y : C' = i; exact Or.inr (by omega); exact Or.inl (Or.inr (by omega)))⟩
        show X8_beProduct_b49 38 5 32 a b (i : Int) (wA D 39 f') = _
        rw [e0 _ _ h1, gd_pos (by omega), if_neg (by decide)]
      · right
        refine ⟨(0, wA D 39 f2), ?_, ⟨f2, rfl⟩, hb⟩
        show X8_beProduct_b49 38 5 32 a b (i : Int) (wA D 39 f') = _
        rw [e0 _ _ h1, gd_pos (by omega), if_pos rfl]
    · obtain ⟨v, E⟩ := s
      obtain ⟨rfl, f', rfl, hW'⟩ := hI
      refine ⟨wA D 39 f', ?_, f', rfl, hW'.sub (fun A' B' C' a' b' c' _ _ z3 _ _ _ z => by rcases z with z | z; exact Or.inl z; exact Or.inr (by omega))⟩
      show X8_beProduct_b49 38 5 32 a b (r : Int) (wA D 39 f') = _
      unfold X8_beProduct_b49
      rw [hr5, gd_pos (by omega), if_pos (by omega)]
  have mid : ∀ (a : Nat) (f : Nat → Int) (S : S6), a < r → Wc n kn r kr f0 S f → ∀ {Y : Type} (k : DA → Option Y) (j : Int × DA → Option Y), (∃ e, lpR (fun q => X8_beProduct_b37 38 5 32 a q.1 q.2) (0, wA D 39 f) k j = k e ∧ ∃ f', e = wA D 39 f' ∧ Wc n kn r kr f0 (fun A' B' C' a' b' c' => S A' B' C' a' b' c' ∨ A' = a) f') ∨ (∃ x, lpR (fun q => X8_beProduct_b37 38 5 32 a q.1 q.2) (0, wA D 39 f) k j = j x ∧ (∃ f', x = (0, wA D 39 f')) ∧ Bd9 n kn r kr) := fun a f S ha hW Y k j => by
    refine lpR_ei (fun i s => s.1 = (i : Int) ∧ ∃ f', s.2 = wA D 39 f' ∧ Wc n kn r kr f0 (fun A' B' C' a' b' c' => S A' B' C' a' b' c' ∨ (A' = a ∧ B' < i)) f') _ _ r (by omega) ⟨rfl, f, rfl, hW.sub (fun A' B' C' a' b' c' _ _ _ _ _ _ z => by rcases z with z | z; exact z; omega)⟩ (fun i s hi hI => ?_) (fun s hI => ?_)
    · obtain ⟨v, E⟩ := s
      obtain ⟨rfl, f', rfl, hW'⟩ := hI
      have e0 : X8_beProduct_b37 38 5 32 a (i : Int) (wA D 39 f') = lpR (fun q => X8_beProduct_b49 38 5 32 a i q.1 q.2) (0, wA D 39 f') (fun e => some (.inl ((i : Int) + 1, e))) (fun r => some (.inr (.inr r))) := by
        unfold X8_beProduct_b37
        rw [hr5, gd_pos (by omega), if_neg (by omega)]
      rcases inner a i f' _ ha hi hW' (fun e => some (Sum.inl ((i : Int) + 1, e))) (fun r => some (Sum.inr (Sum.inr r))) with ⟨e, h1, f2, rfl, hW2⟩ | ⟨x, h1, ⟨f2, rfl⟩, hb⟩
      · left
        refine ⟨((i : Int) + 1, wA D 39 f2), e0.trans h1, by show (i : Int) + 1 = _; omega, f2, rfl, hW2.sub (fun A' B' C' a' b' c' _ _ _ _ _ _ z => by rcases z with z | z; exact Or.inl (Or.inl z); by_cases y : B' = i; exact Or.inr (by omega); exact Or.inl (Or.inr (by omega)))⟩
      · right
        exact ⟨_, e0.trans h1, ⟨f2, rfl⟩, hb⟩
    · obtain ⟨v, E⟩ := s
      obtain ⟨rfl, f', rfl, hW'⟩ := hI
      refine ⟨wA D 39 f', ?_, f', rfl, hW'.sub (fun A' B' C' a' b' c' _ z2 z3 _ _ _ z => by rcases z with z | z; exact Or.inl z; exact Or.inr (by omega))⟩
      show X8_beProduct_b37 38 5 32 a (r : Int) (wA D 39 f') = _
      unfold X8_beProduct_b37
      rw [hr5, gd_pos (by omega), if_pos (by omega)]
  refine lpR_ei (fun i s => s.1 = (i : Int) ∧ ∃ f', s.2 = wA D 39 f' ∧ Wc n kn r kr f0 (fun A' B' C' a' b' c' => A' < i) f') _ _ r (by omega) ⟨rfl, f, rfl, hW.sub (fun A' B' C' a' b' c' _ _ _ _ _ _ z => by omega)⟩ (fun i s hi hI => ?_) (fun s hI => ?_)
  · obtain ⟨v, E⟩ := s
    obtain ⟨rfl, f', rfl, hW'⟩ := hI
    have e0 : X8_beProduct_b25 38 5 32 (i : Int) (wA D 39 f') = lpR (fun q => X8_beProduct_b37 38 5 32 i q.1 q.2) (0, wA D 39 f') (fun e => some (.inl ((i : Int) + 1, e))) (fun r => some (.inr (.inr r))) := by
      unfold X8_beProduct_b25
      rw [hr5, gd_pos (by omega), if_neg (by omega)]
    rcases mid i f' _ hi hW' (fun e => some (Sum.inl ((i : Int) + 1, e))) (fun r => some (Sum.inr (Sum.inr r))) with ⟨e, h1, f2, rfl, hW2⟩ | ⟨x, h1, ⟨f2, rfl⟩, hb⟩
    · left
      exact ⟨((i : Int) + 1, wA D 39 f2), e0.trans h1, by show (i : Int) + 1 = _; omega, f2, rfl, hW2.sub (fun A' B' C' a' b' c' _ _ _ _ _ _ z => by by_cases y : A' = i; exact Or.inr y; exact Or.inl (by omega))⟩
    · right
      exact ⟨_, e0.trans h1, ⟨f2, rfl⟩, hb⟩
  · obtain ⟨v, E⟩ := s
    obtain ⟨rfl, f', rfl, hW'⟩ := hI
    refine ⟨wA D 39 f', ?_, f', rfl, hW'.sub (fun A' B' C' a' b' c' z1 _ _ _ _ _ _ => z1)⟩
    show X8_beProduct_b25 38 5 32 (r : Int) (wA D 39 f') = _
    unfold X8_beProduct_b25
    rw [hr5, gd_pos (by omega), if_pos (by omega)]

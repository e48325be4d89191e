/-! ===== the class lays the table ===== -/
def dk9 (i j : Nat) : Int := if i = j then 1 else 0
def tkG (lr w : Nat) (fg : Nat → Int) (i j k : Nat) : Int := if i = 0 then dk9 j k else if j = 0 then dk9 i k else tkV lr w fg i j k
/-- the lister arranged -/
def LsA (E : DA) (lr w : Nat) : Prop := E.1 46 0 = lr ∧ (∀ a, a < lr → E.1 48 a = ((dl9 lr w a : Nat) : Int)) ∧ ∀ a b c, 1 ≤ a → a < lr → 1 ≤ b → b < lr → 1 ≤ c → c < lr → E.1 49 (st9 a b c) = (grp lr w a b c : Int)
theorem x2_fused {E : DA} {lr w i j k : Nat} (hq : (lr, w) ∈ lw5) (hE : LsA E lr w) (hi : i < lr) (hj : j < lr) (hk : k < lr) : X2_fused 46 i j k E = some (tkG lr w (E.1 51) i j k) := by
  obtain ⟨e0, e1, e2⟩ := hE
  obtain ⟨h2, h4, hw, -⟩ := lw5_bd hq
  unfold X2_fused tkG
  rw [gd_pos (by omega)]
  by_cases c1 : i = 0
  · rw [if_pos (by omega), if_pos c1, gd_pos (by omega)]
    unfold dk9
    by_cases c : j = k
    · rw [if_pos (by omega), if_pos c]
    · rw [if_neg (by omega), if_neg c]
  · rw [if_neg (by omega), if_neg c1, gd_pos (by omega)]
    by_cases c2 : j = 0
    · rw [if_pos (by omega), if_pos c2, gd_pos (by omega)]
      unfold dk9
      by_cases c : i = k
      · rw [if_pos (by omega), if_pos c]
      · rw [if_neg (by omega), if_neg c]
    · rw [if_neg (by omega), if_neg c2, gd_pos (by omega)]
      unfold tkV
      have x1 : E.1 (46 + 2) i = ((dl9 lr w i : Nat) : Int) := e1 i hi
      have x3 : E.1 (46 + 2) k = ((dl9 lr w k : Nat) : Int) := e1 k hk
      have l1 := (dl9_bd hq hi).1
      obtain ⟨l2, l3, -⟩ := dl9_bd hq hk
      by_cases c3 : k = 0
      · rw [if_pos (by omega), if_pos c3, gd_pos (by omega), Int.toNat_natCast, x1, gd_pos (by omega)]
        by_cases c : dl9 lr w i = j
        · rw [if_pos (by omega), if_pos c]
        · rw [if_neg (by omega), if_neg c]
      · rw [if_neg (by omega), if_neg c3, gd_pos (by omega), Int.toNat_natCast, x3]
        have es : X2_set (i : Int) (j : Int) ((dl9 lr w k : Nat) : Int) E = some ((st9 i j (dl9 lr w k) : Nat) : Int) := by
          unfold X2_set st9
          refine congrArg some ?_
          omega
        have ls : st9 i j (dl9 lr w k) < 64 := by unfold st9; omega
        have em : E.1 (46 + 3) (st9 i j (dl9 lr w k)) = (grp lr w i j (dl9 lr w k) : Int) := e2 i j _ (by omega) hi (by omega) hj (l3 (by omega)) l2
        have lg := grp_lt hq (show 1 ≤ i by omega) hi (show 1 ≤ j by omega) hj (l3 (by omega)) l2
        have lc := (gcn_bd hq).2
        rw [b1_pos es, gd_pos (by omega), Int.toNat_natCast, em, gd_pos (by omega), Int.toNat_natCast]
theorem LsA.w6 {D : DA} {lr w : Nat} {f : Nat → Int} (h : LsA D lr w) : LsA (wA D 6 f) lr w := by
  unfold LsA at h ⊢
  rw [wA_ne (by decide), wA_ne (by decide), wA_ne (by decide)]
  exact h
theorem x2_lay {D : DA} {lr w : Nat} {zc : Nat} {fg f0 : Nat → Int} (hq : (lr, w) ∈ lw5) (hD : LsA D lr w) (hg : D.1 51 = fg) : ∃ q, lpE (fun q => X2_fill_b78 46 5 zc q.1 q.2) (1, wA D 6 f0) (fun e => some ((), e)) = some q ∧ ∃ f, q.2 = wA D 6 f ∧ Wt (tkV lr w fg) lr f0 (fun _ _ _ => True) f := by
  obtain ⟨h2, h4, hw, -⟩ := lw5_bd hq
  have e0 : ∀ f, (wA D 6 f).1 46 0 = lr := fun f => by rw [wA_ne (by decide)]; exact hD.1
  have e51 : ∀ f, (wA D 6 f).1 51 = fg := fun f => by rw [wA_ne (by decide)]; exact hg
  have inner : ∀ (i j : Nat) (f : Nat → Int) (S : Nat → Nat → Nat → Prop), (1 ≤ i ∧ i < lr) → (1 ≤ j ∧ j < lr) → Wt (tkV lr w fg) lr f0 S f → ∃ q, lpE (fun q => X2_fill_b102 46 5 zc i j q.1 q.2) (0, wA D 6 f) (fun e => some (Sum.inl ((j : Int) + 1, e) : (Int × DA) ⊕ DA)) = some (.inl q) ∧ (q.1 = (j : Int) + 1 ∧ ∃ f', q.2 = wA D 6 f' ∧ Wt (tkV lr w fg) lr f0 (fun i' j' k' => S i' j' k' ∨ (i' = i ∧ j' = j)) f') := fun i j f S hi hj hW => by
    refine lpE_evl (fun m s => s.1 = (m : Int) ∧ ∃ f', s.2 = wA D 6 f' ∧ Wt (tkV lr w fg) lr f0 (fun i' j' k' => S i' j' k' ∨ (i' = i ∧ j' = j ∧ k' < m)) f') (fun e => ∃ f', e = wA D 6 f' ∧ Wt (tkV lr w fg) lr f0 (fun i' j' k' => S i' j' k' ∨ (i' = i ∧ j' = j)) f') lr (by omega) ⟨rfl, f, rfl, hW.sub (fun i' j' k' _ z => by rcases z with z | z; exact z; omega)⟩ (fun m s hm hI => ?_) (fun s hI => ?_) (fun e hF => ?_)
    · obtain ⟨v, E⟩ := s
      obtain ⟨rfl, f', rfl, hW'⟩ := hI
      have hfu := x2_fused (k := m) hq (hD.w6 (f := f')) hi.2 hj.2 hm
      rw [e51] at hfu
      have hv : tkG lr w fg i j m = tkV lr w fg i j m := by unfold tkG; rw [if_neg (by omega), if_neg (by omega)]
      refine ⟨((m : Int) + 1, wA D 6 (fu f' (ti i j m) (tkV lr w fg i j m))), ?_, by show (m : Int) + 1 = _; omega, _, rfl, hW'.put (by omega) (i := i) (j := j) (k := m) ⟨hi, hj, hm⟩ rfl (fun i' j' k' _ z => ?_)⟩
      · show X2_fill_b102 46 5 zc i j (m : Int) (wA D 6 f') = _
        unfold X2_fill_b102
        rw [e0, gd_pos (by omega), if_neg (by omega), b1_pos hfu, bd_pos (x8_put (by omega) (by omega) (by omega)), hv]
        show some (Sum.inl ((m : Int) + 1, wI (wA D 6 f') 6 _ _)) = _
        rw [wA_wI]
      · rcases z with z | z
        · exact Or.inl (Or.inl z)
        · by_cases y : k' = m
          · exact Or.inr ⟨z.1, z.2.1, y⟩
          · exact Or.inl (Or.inr ⟨z.1, z.2.1, (by omega)⟩)
    · obtain ⟨v, E⟩ := s
      obtain ⟨rfl, f', rfl, hW'⟩ := hI
      refine ⟨wA D 6 f', ?_, f', rfl, hW'.sub (fun i' j' k' hk z => by rcases z with z | z; exact Or.inl z; exact Or.inr ⟨z.1, z.2, hk.2.2⟩)⟩
      show X2_fill_b102 46 5 zc i j (lr : Int) (wA D 6 f') = _
      unfold X2_fill_b102
      rw [e0, gd_pos (by omega), if_pos (by omega)]
    · obtain ⟨f', rfl, hW'⟩ := hF
      exact ⟨_, rfl, rfl, f', rfl, hW'⟩
  have mid : ∀ (i : Nat) (f : Nat → Int) (S : Nat → Nat → Nat → Prop), (1 ≤ i ∧ i < lr) → Wt (tkV lr w fg) lr f0 S f → ∃ q, lpE (fun q => X2_fill_b90 46 5 zc i q.1 q.2) (1, wA D 6 f) (fun e => some (Sum.inl ((i : Int) + 1, e) : (Int × DA) ⊕ DA)) = some (.inl q) ∧ (q.1 = (i : Int) + 1 ∧ ∃ f', q.2 = wA D 6 f' ∧ Wt (tkV lr w fg) lr f0 (fun i' j' k' => S i' j' k' ∨ i' = i) f') := fun i f S hi hW => by
    refine lpE_evl (fun m s => s.1 = ((1 + m : Nat) : Int) ∧ ∃ f', s.2 = wA D 6 f' ∧ Wt (tkV lr w fg) lr f0 (fun i' j' k' => S i' j' k' ∨ (i' = i ∧ j' < 1 + m)) f') (fun e => ∃ f', e = wA D 6 f' ∧ Wt (tkV lr w fg) lr f0 (fun i' j' k' => S i' j' k' ∨ i' = i) f') (lr - 1) (by omega) ⟨rfl, f, rfl, hW.sub (fun i' j' k' hk z => by rcases z with z | z; exact z; obtain ⟨a, b, c⟩ := hk; omega)⟩ (fun m s hm hI => ?_) (fun s hI => ?_) (fun e hF => ?_)
    · obtain ⟨v, E⟩ := s
      obtain ⟨rfl, f', rfl, hW'⟩ := hI
      obtain ⟨⟨v2, E2⟩, h1, h2, f2, h3, hW2⟩ := inner i (1 + m) f' _ hi (by omega) hW'
      have h2' : v2 = ((1 + m : Nat) : Int) + 1 := h2
      have h3' : E2 = wA D 6 f2 := h3
      subst h2' h3'
      refine ⟨(((1 + m : Nat) : Int) + 1, wA D 6 f2), ?_, by show ((1 + m : Nat) : Int) + 1 = _; omega, f2, rfl, hW2.sub (fun i' j' k' _ z => ?_)⟩
      · show X2_fill_b90 46 5 zc i ((1 + m : Nat) : Int) (wA D 6 f') = _
        unfold X2_fill_b90
        rw [e0, gd_pos (by omega), if_neg (by omega)]
        exact h1
      · rcases z with z | z
        · exact Or.inl (Or.inl z)
        · by_cases y : j' = 1 + m
          · exact Or.inr ⟨z.1, y⟩
          · exact Or.inl (Or.inr ⟨z.1, (by omega)⟩)
    · obtain ⟨v, E⟩ := s
      obtain ⟨rfl, f', rfl, hW'⟩ := hI
      refine ⟨wA D 6 f', ?_, f', rfl, hW'.sub (fun i' j' k' hk z => by rcases z with z | z; exact Or.inl z; exact Or.inr ⟨z, by obtain ⟨a, b, c⟩ := hk; omega⟩)⟩
      show X2_fill_b90 46 5 zc i ((1 + (lr - 1) : Nat) : Int) (wA D 6 f') = _
      unfold X2_fill_b90
      rw [e0, gd_pos (by omega), if_pos (by omega)]
    · obtain ⟨f', rfl, hW'⟩ := hF
      exact ⟨_, rfl, rfl, f', rfl, hW'⟩
  refine lpE_ev (fun m s => s.1 = ((1 + m : Nat) : Int) ∧ ∃ f', s.2 = wA D 6 f' ∧ Wt (tkV lr w fg) lr f0 (fun i' j' k' => i' < 1 + m) f') (fun e => ∃ f', e = wA D 6 f' ∧ Wt (tkV lr w fg) lr f0 (fun i' j' k' => True) f') (lr - 1) (by omega) ⟨rfl, f0, rfl, ⟨fun i j k hk z => by obtain ⟨a, b, c⟩ := hk; omega, fun _ _ => rfl⟩⟩ (fun m s hm hI => ?_) (fun s hI => ?_) (fun e hF => ?_)
  · obtain ⟨v, E⟩ := s
    obtain ⟨rfl, f', rfl, hW'⟩ := hI
    obtain ⟨⟨v2, E2⟩, h1, h2, f2, h3, hW2⟩ := mid (1 + m) f' _ (by omega) hW'
    have h2' : v2 = ((1 + m : Nat) : Int) + 1 := h2
    have h3' : E2 = wA D 6 f2 := h3
    subst h2' h3'
    refine ⟨(((1 + m : Nat) : Int) + 1, wA D 6 f2), ?_, by show ((1 + m : Nat) : Int) + 1 = _; omega, f2, rfl, hW2.sub (fun i' j' k' _ z => by by_cases y : i' = 1 + m; exact Or.inr y; exact Or.inl (by omega))⟩
    show X2_fill_b78 46 5 zc ((1 + m : Nat) : Int) (wA D 6 f') = _
    unfold X2_fill_b78
    rw [e0, gd_pos (by omega), if_neg (by omega)]
    exact h1
  · obtain ⟨v, E⟩ := s
    obtain ⟨rfl, f', rfl, hW'⟩ := hI
    refine ⟨wA D 6 f', ?_, f', rfl, hW'.sub (fun i' j' k' hk z => by obtain ⟨a, b, c⟩ := hk; omega)⟩
    show X2_fill_b78 46 5 zc ((1 + (lr - 1) : Nat) : Int) (wA D 6 f') = _
    unfold X2_fill_b78
    rw [e0, gd_pos (by omega), if_pos (by omega)]
  · obtain ⟨f', rfl, hW'⟩ := hF
    exact ⟨_, rfl, f', rfl, hW'⟩

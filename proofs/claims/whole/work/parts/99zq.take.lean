/-! ===== the reference lays the table ===== -/
theorem x12_lay {d : DA} {lr w : Nat} {fg : Nat → Int} (hq : (lr, w) ∈ lw5) (hm : ∀ a b c, 1 ≤ a → a < lr → 1 ≤ b → b < lr → 1 ≤ c → c < lr → d.1 131 (cl9 a b c) = (grp lr w a b c : Int)) (hg : d.1 132 = fg) : ∃ q, X12_layTable 113 lr w d = some q ∧ ∃ f0 f, q.2 = wA (wI d 113 3 lr) 116 f ∧ St (pre (d.1 116) (fun _ => 0) 125) (bgS lr) f0 ∧ Wt (tkV lr w fg) lr f0 (fun _ _ _ => True) f := by
  obtain ⟨h2, h4, hw, -⟩ := lw5_bd hq
  obtain ⟨⟨u0, D0⟩, b1, f0, hD0, hS0⟩ := x12_begin (d := wI d 113 3 (lr : Int)) (r := lr) (by omega)
  have hD0' : D0 = wA (wI d 113 3 (lr : Int)) 116 f0 := hD0
  rw [wI_ne (by decide)] at hS0
  generalize hD : wI d 113 3 (lr : Int) = D at hD0'
  have m131 : ∀ f, (wA D 116 f).1 131 = d.1 131 := fun f => by rw [wA_ne (by decide), ← hD, wI_ne (by decide)]
  have m132 : ∀ f, (wA D 116 f).1 132 = fg := fun f => by rw [wA_ne (by decide), ← hD, wI_ne (by decide)]; exact hg
  have cel : ∀ (i j k : Nat) (E : DA), X12_cell (i : Int) (j : Int) (k : Int) E = some ((ti i j k : Nat) : Int) := fun i j k E => by
    unfold X12_cell ti
    refine congrArg some ?_
    omega
  have inner : ∀ (i j : Nat) (f : Nat → Int) (S : Nat → Nat → Nat → Prop), (1 ≤ i ∧ i < lr) → (1 ≤ j ∧ j < lr) → Wt (tkV lr w fg) lr f0 S f → ∃ q, lpE (fun q => X12_layTable_b61 113 lr w i j q.1 q.2) (1, wA D 116 f) (fun e => some (Sum.inl ((j : Int) + 1, e) : (Int × DA) ⊕ DA)) = some (.inl q) ∧ (q.1 = (j : Int) + 1 ∧ ∃ f', q.2 = wA D 116 f' ∧ Wt (tkV lr w fg) lr f0 (fun i' j' k' => S i' j' k' ∨ (i' = i ∧ j' = j ∧ 1 ≤ k')) f') := fun i j f S hi hj hW => by
    refine lpE_evl (fun m s => s.1 = ((1 + m : Nat) : Int) ∧ ∃ f', s.2 = wA D 116 f' ∧ Wt (tkV lr w fg) lr f0 (fun i' j' k' => S i' j' k' ∨ (i' = i ∧ j' = j ∧ 1 ≤ k' ∧ dl9 lr w k' < 1 + m)) f') (fun e => ∃ f', e = wA D 116 f' ∧ Wt (tkV lr w fg) lr f0 (fun i' j' k' => S i' j' k' ∨ (i' = i ∧ j' = j ∧ 1 ≤ k')) f') (lr - 1) (by omega) ⟨rfl, f, rfl, hW.sub (fun i' j' k' hk z => by
      rcases z with z | z
      · exact z
      · have := (dl9_bd hq hk.2.2).2.1 z.2.2.1
        omega)⟩ (fun m s hm2 hI => ?_) (fun s hI => ?_) (fun e hF => ?_)
    · obtain ⟨v, E⟩ := s
      obtain ⟨rfl, f', rfl, hW'⟩ := hI
      obtain ⟨l1, l2, l3⟩ := dl9_bd hq (show 1 + m < lr by omega)
      have l2' := l2 (by omega)
      have c1 := cel i j (dl9 lr w (1 + m)) (wA D 116 f')
      have c2 := cel i j (1 + m) (wA D 116 f')
      have t1 : ti i j (dl9 lr w (1 + m)) < 125 := ti_lt (by omega) (by omega) (by omega)
      have t2 : ti i j (1 + m) < 125 := ti_lt (by omega) (by omega) (by omega)
      have em : (wA D 116 f').1 (113 + 18) (ti i j (1 + m)) = (grp lr w i j (1 + m) : Int) := by
        show (wA D 116 f').1 131 _ = _
        rw [m131, show ti i j (1 + m) = cl9 i j (1 + m) by unfold ti cl9; omega]
        exact hm i j (1 + m) hi.1 hi.2 hj.1 hj.2 (by omega) (by omega)
      have lg := grp_lt hq hi.1 hi.2 hj.1 hj.2 (show 1 ≤ 1 + m by omega) (show 1 + m < lr by omega)
      have lc := (gcn_bd hq).2
      have e32 : (wA D 116 f').1 (113 + 19) = fg := m132 f'
      refine ⟨(((1 + m : Nat) : Int) + 1, wA D 116 (fu f' (ti i j (dl9 lr w (1 + m))) (fg (grp lr w i j (1 + m))))), ?_, by show ((1 + m : Nat) : Int) + 1 = _; omega, _, rfl, hW'.put (by omega) (i := i) (j := j) (k := dl9 lr w (1 + m)) ⟨hi, hj, l1⟩ ?_ (fun i' j' k' hk z => ?_)⟩
      · show X12_layTable_b61 113 lr w i j ((1 + m : Nat) : Int) (wA D 116 f') = _
        unfold X12_layTable_b61
        rw [gd_pos (by omega), if_neg (by omega), b1_pos (x12_dualBy h2 (by omega) hw (by omega)), b1_pos c1, b1_pos c2, gd_pos (by omega), Int.toNat_natCast, em, gd_pos (by omega), gd_pos (by omega), lt_pos, Int.toNat_natCast, Int.toNat_natCast, e32]
        show some (Sum.inl (((1 + m : Nat) : Int) + 1, wI (wA D 116 f') 116 _ _)) = _
        rw [wA_wI]
      · unfold tkV
        rw [if_neg (by omega), l3]
      · rcases z with z | z
        · exact Or.inl (Or.inl z)
        · by_cases y : dl9 lr w k' = 1 + m
          · refine Or.inr ⟨z.1, z.2.1, ?_⟩
            rw [← y, (dl9_bd hq hk.2.2).2.2]
          · exact Or.inl (Or.inr ⟨z.1, z.2.1, z.2.2.1, (by omega)⟩)
    · obtain ⟨v, E⟩ := s
      obtain ⟨rfl, f', rfl, hW'⟩ := hI
      refine ⟨wA D 116 f', ?_, f', rfl, hW'.sub (fun i' j' k' hk z => by
        rcases z with z | z
        · exact Or.inl z
        · have := (dl9_bd hq hk.2.2).1
          exact Or.inr ⟨z.1, z.2.1, z.2.2, (by omega)⟩)⟩
      show X12_layTable_b61 113 lr w i j ((1 + (lr - 1) : Nat) : Int) (wA D 116 f') = _
      unfold X12_layTable_b61
      rw [gd_pos (by omega), if_pos (by omega)]
    · obtain ⟨f', rfl, hW'⟩ := hF
      exact ⟨_, rfl, rfl, f', rfl, hW'⟩
  have cell0 : ∀ (i j : Nat) (f : Nat → Int) (S : Nat → Nat → Nat → Prop), (1 ≤ i ∧ i < lr) → (1 ≤ j ∧ j < lr) → Wt (tkV lr w fg) lr f0 S f → ∃ q, X12_layTable_b24 113 lr w i j (wA D 116 f) = some (.inl q) ∧ (q.1 = (j : Int) + 1 ∧ ∃ f', q.2 = wA D 116 f' ∧ Wt (tkV lr w fg) lr f0 (fun i' j' k' => S i' j' k' ∨ (i' = i ∧ j' = j)) f') := fun i j f S hi hj hW => by
    have t0 : ti i j 0 < 125 := ti_lt (by omega) (by omega) (by omega)
    have l1 := (dl9_bd hq hi.2).1
    have j57 : ∀ v, v = tkV lr w fg i j 0 → ∃ q, X12_layTable_j57_24 113 lr w i j ((ti i j 0 : Nat) : Int) v (wA D 116 f) = some (.inl q) ∧ (q.1 = (j : Int) + 1 ∧ ∃ f', q.2 = wA D 116 f' ∧ Wt (tkV lr w fg) lr f0 (fun i' j' k' => S i' j' k' ∨ (i' = i ∧ j' = j)) f') := fun v hv => by
      have hp := hW.put (S' := fun i' j' k' => S i' j' k' ∨ (i' = i ∧ j' = j ∧ k' = 0)) (by omega) (i := i) (j := j) (k := 0) ⟨hi, hj, (by omega)⟩ hv (fun i' j' k' hk z => z)
      obtain ⟨q, h1, h2, f2, h3, h4⟩ := inner i j _ _ hi hj hp
      refine ⟨q, ?_, h2, f2, h3, h4.sub (fun i' j' k' hk z => ?_)⟩
      · unfold X12_layTable_j57_24
        rw [gd_pos (by omega), lt_pos, Int.toNat_natCast]
        show lpE _ (1, wI (wA D 116 f) 116 _ _) _ = _
        rw [wA_wI]
        exact h1
      · rcases z with z | z
        · exact Or.inl (Or.inl z)
        · by_cases y : k' = 0
          · exact Or.inl (Or.inr ⟨z.1, z.2, y⟩)
          · exact Or.inr ⟨z.1, z.2, (by omega)⟩
    have c0 : X12_cell (i : Int) (j : Int) 0 (wA D 116 f) = some ((ti i j 0 : Nat) : Int) := cel i j 0 _
    unfold X12_layTable_b24
    rw [gd_pos (by omega), if_neg (by omega), b1_pos c0, b1_pos (x12_dualBy h2 (by omega) hw (by omega)), gd_pos (by omega)]
    by_cases c : dl9 lr w i = j
    · rw [if_pos (by omega)]
      refine j57 1 ?_
      unfold tkV
      rw [if_pos rfl, if_pos c]
    · rw [if_neg (by omega)]
      refine j57 0 ?_
      unfold tkV
      rw [if_pos rfl, if_neg c]
  have mid : ∀ (i : Nat) (f : Nat → Int) (S : Nat → Nat → Nat → Prop), (1 ≤ i ∧ i < lr) → Wt (tkV lr w fg) lr f0 S f → ∃ q, lpE (fun q => X12_layTable_b24 113 lr w i q.1 q.2) (1, wA D 116 f) (fun e => some (Sum.inl ((i : Int) + 1, e) : (Int × DA) ⊕ DA)) = some (.inl q) ∧ (q.1 = (i : Int) + 1 ∧ ∃ f', q.2 = wA D 116 f' ∧ Wt (tkV lr w fg) lr f0 (fun i' j' k' => S i' j' k' ∨ i' = i) f') := fun i f S hi hW => by
    refine lpE_evl (fun m s => s.1 = ((1 + m : Nat) : Int) ∧ ∃ f', s.2 = wA D 116 f' ∧ Wt (tkV lr w fg) lr f0 (fun i' j' k' => S i' j' k' ∨ (i' = i ∧ j' < 1 + m)) f') (fun e => ∃ f', e = wA D 116 f' ∧ Wt (tkV lr w fg) lr f0 (fun i' j' k' => S i' j' k' ∨ i' = i) f') (lr - 1) (by omega) ⟨rfl, f, rfl, hW.sub (fun i' j' k' hk z => by rcases z with z | z; exact z; obtain ⟨a, b, c⟩ := hk; omega)⟩ (fun m s hm hI => ?_) (fun s hI => ?_) (fun e hF => ?_)
    · obtain ⟨v, E⟩ := s
      obtain ⟨rfl, f', rfl, hW'⟩ := hI
      obtain ⟨⟨v2, E2⟩, h1, h2, f2, h3, hW2⟩ := cell0 i (1 + m) f' _ hi (by omega) hW'
      have h2' : v2 = ((1 + m : Nat) : Int) + 1 := h2
      have h3' : E2 = wA D 116 f2 := h3
      subst h2' h3'
      refine ⟨(((1 + m : Nat) : Int) + 1, wA D 116 f2), h1, by show ((1 + m : Nat) : Int) + 1 = _; omega, f2, rfl, hW2.sub (fun i' j' k' _ z => ?_)⟩
      rcases z with z | z
      · exact Or.inl (Or.inl z)
      · by_cases y : j' = 1 + m
        · exact Or.inr ⟨z.1, y⟩
        · exact Or.inl (Or.inr ⟨z.1, (by omega)⟩)
    · obtain ⟨v, E⟩ := s
      obtain ⟨rfl, f', rfl, hW'⟩ := hI
      refine ⟨wA D 116 f', ?_, f', rfl, hW'.sub (fun i' j' k' hk z => by rcases z with z | z; exact Or.inl z; exact Or.inr ⟨z, by obtain ⟨a, b, c⟩ := hk; omega⟩)⟩
      show X12_layTable_b24 113 lr w i ((1 + (lr - 1) : Nat) : Int) (wA D 116 f') = _
      unfold X12_layTable_b24
      rw [gd_pos (by omega), if_pos (by omega)]
    · obtain ⟨f', rfl, hW'⟩ := hF
      exact ⟨_, rfl, rfl, f', rfl, hW'⟩
  unfold X12_layTable
  have b1' : X12_begin 113 (113 + 3) 125 lr (wI d 113 3 (lr : Int)) = some (u0, D0) := b1
  rw [lt_pos, bd_pos b1', hD0']
  have fin : ∃ q, lpE (fun q => X12_layTable_b16 113 lr w q.1 q.2) (1, wA D 116 f0) (fun e => some ((), e)) = some q ∧ ∃ f, q.2 = wA D 116 f ∧ Wt (tkV lr w fg) lr f0 (fun _ _ _ => True) f := by
    refine lpE_ev (fun m s => s.1 = ((1 + m : Nat) : Int) ∧ ∃ f', s.2 = wA D 116 f' ∧ Wt (tkV lr w fg) lr f0 (fun i' j' k' => i' < 1 + m) f') (fun e => ∃ f', e = wA D 116 f' ∧ Wt (tkV lr w fg) lr f0 (fun i' j' k' => True) f') (lr - 1) (by omega) ⟨rfl, f0, rfl, ⟨fun i j k hk z => by obtain ⟨a, b, c⟩ := hk; omega, fun _ _ => rfl⟩⟩ (fun m s hm hI => ?_) (fun s hI => ?_) (fun e hF => ?_)
    · obtain ⟨v, E⟩ := s
      obtain ⟨rfl, f', rfl, hW'⟩ := hI
      obtain ⟨⟨v2, E2⟩, h1, h2, f2, h3, hW2⟩ := mid (1 + m) f' _ (by omega) hW'
      have h2' : v2 = ((1 + m : Nat) : Int) + 1 := h2
      have h3' : E2 = wA D 116 f2 := h3
      subst h2' h3'
      refine ⟨(((1 + m : Nat) : Int) + 1, wA D 116 f2), ?_, by show ((1 + m : Nat) : Int) + 1 = _; omega, f2, rfl, hW2.sub (fun i' j' k' _ z => by by_cases y : i' = 1 + m; exact Or.inr y; exact Or.inl (by omega))⟩
      show X12_layTable_b16 113 lr w ((1 + m : Nat) : Int) (wA D 116 f') = _
      unfold X12_layTable_b16
      rw [gd_pos (by omega), if_neg (by omega)]
      exact h1
    · obtain ⟨v, E⟩ := s
      obtain ⟨rfl, f', rfl, hW'⟩ := hI
      refine ⟨wA D 116 f', ?_, f', rfl, hW'.sub (fun i' j' k' hk z => by obtain ⟨a, b, c⟩ := hk; omega)⟩
      show X12_layTable_b16 113 lr w ((1 + (lr - 1) : Nat) : Int) (wA D 116 f') = _
      unfold X12_layTable_b16
      rw [gd_pos (by omega), if_pos (by omega)]
    · obtain ⟨f', rfl, hW'⟩ := hF
      exact ⟨_, rfl, f', rfl, hW'⟩
  obtain ⟨q, h1, f, h3, h5⟩ := fin
  exact ⟨q, h1, f0, f, h3, hS0, h5⟩

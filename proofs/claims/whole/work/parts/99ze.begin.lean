/-! ===== the beginning: what holds ===== -/
theorem TG_one : TG (fu (fun _ => 0) 0 1) 1 := by
  refine ⟨⟨(by omega), (by omega)⟩, fun j hj => ?_, fun i j k hi hj hk z => ?_, fun j k hj hk => ?_, fun j k hj hk => ?_⟩
  · rw [fu_app]
    by_cases c : j = 0
    · rw [if_pos c]; omega
    · rw [if_neg c]; omega
  · rw [fu_app, if_neg (by unfold ti; omega)]
  · have : j = 0 := by omega
    have : k = 0 := by omega
    subst j; subst k; rfl
  · have : j = 0 := by omega
    have : k = 0 := by omega
    subst j; subst k; rfl
theorem beg9 : Beg9 := by
  obtain ⟨e, r, ⟨s2, s17, e1, e33, e46, e54, ⟨e58, e59⟩, e61, ⟨e68, e69⟩, e81⟩, m113, m1, m4, m30, m114, m117, m118, m119, mz⟩ := n_law
  refine ⟨e, r, ⟨(by omega), (by show 64 ≤ 64 ∧ 64 ≤ 8192; omega), (by show 64 ≤ 64 ∧ 64 ≤ 270000; omega), rfl, ?_, (by show 161 ≤ 161 + 100 * 0 + 64 + 64; omega), (by show 18688 ≤ 18688 + 1000 * 0 + 2 * 64 + 2 * 64; omega)⟩, 1, 7, 0, 0, 0, 0, 0, 0, ?_⟩
  · show xok9 (x0 e)
    exact ⟨Or.inl rfl, Or.inl rfl, Or.inl rfl, Or.inl rfl⟩
  obtain ⟨a1, a2, a3, a4, a5, a6, a7, a8⟩ := s2
  have t6 : e.1 6 = e.1 114 := by
    have : e.1 6 = fu (fun _ => 0) 0 1 := a2
    rw [this, m114]
  have p7 : PG 7 := by unfold PG; decide
  have hT : TG (e.1 114) 1 := by rw [m114]; exact TG_one
  have z121 : e.1 121 = fun _ => 0 := mz 121 (by omega) (by omega) (by omega) (by omega)
  refine ⟨⟨⟨a1, m1, t6, hT⟩, ⟨a3, m4, p7⟩, ⟨fun h3 hF => ?_, fun q hq => ?_, fun q hq => ?_⟩, ⟨fun j hj => ⟨?_, ?_, ?_⟩, ?_⟩, ⟨a4, m113 13 (by decide) (by decide) (by decide), (by omega), fun j hj => by omega⟩, ?_⟩, ⟨?_, m113 18 (by decide) (by decide) (by decide), ?_, m113 19 (by decide) (by decide) (by decide), (by omega), fun j hj => by omega, Nat.le_refl _, (by show (0 : Nat) + 0 ≤ 12 + 0; omega)⟩, ⟨?_, m113 21 (by decide) (by decide) (by decide), (by omega), fun j hj => by omega, ?_, ?_, ?_⟩, ⟨m113 2 (by decide) (by decide) (by decide), fun q hq => ?_, fun _ => ?_, fun z => absurd rfl z⟩, ⟨?_, m113 33 (by decide) (by decide) (by decide), (by omega), (by omega), fun z => absurd rfl z⟩, ⟨e58, e59⟩, Or.inl ?_, TI9.no e68 e69, Or.inl ?_, ⟨?_, fun q hq => ?_, Or.inl ?_⟩⟩
  · have h8 : TrB (e.1 6) 1 27 (e.1 12) (e.1 13) := a8
    rw [t6] at h8
    exact ⟨h8.FG h3 m117, h8.RG h3 hT hF m118⟩
  · show 0 ≤ e.1 117 q ∧ e.1 117 q < _
    rw [m117 q hq]; omega
  · show 0 ≤ e.1 118 q ∧ e.1 118 q < _
    rw [m118 q hq]; omega
  · show e.1 3 j = e.1 119 j
    rw [m119 j hj]; exact a7 j hj
  · show 1 ≤ e.1 119 j
    rw [m119 j hj]; omega
  · show e.1 119 j < _
    rw [m119 j hj]; omega
  · exact m119 0 (by omega)
  · refine ⟨?_, ?_, ?_, ?_, ?_, ?_⟩
    · show e.1 2 6 = e.1 121 0
      rw [z121]; exact a5
    · show e.1 2 7 = e.1 121 1
      rw [z121]; exact a6
    · show 0 ≤ e.1 121 0
      rw [z121]; exact Int.le_refl 0
    · show e.1 121 0 ≤ _
      rw [z121]; exact Int.le_refl 0
    · show 0 ≤ e.1 121 1
      rw [z121]; exact Int.le_refl 0
    · show e.1 121 1 ≤ _
      rw [z121]; exact Int.le_refl 0
  · show e.1 54 3 = _
    rw [e54]; rfl
  · show e.1 54 4 = _
    rw [e54]; rfl
  · show e.1 1 7 = _
    rw [e1]; rfl
  · show e.1 1 8 = e.1 113 30
    rw [e1, m30]; rfl
  · show -1 ≤ e.1 113 30
    rw [m30]; omega
  · show e.1 113 30 ≤ 400
    rw [m30]; omega
  · show e.1 33 q = e.1 115 q
    rw [e33, fu_n (by omega), mz 115 (by omega) (by omega) (by omega) (by omega)]
  · show e.1 1 4 = 0
    rw [e1]; rfl
  · show e.1 46 2 = _
    rw [e46]; rfl
  · show e.1 61 0 = 0
    rw [e61]
  · show e.1 81 0 = 0
    rw [e81]
  · show e.1 1 2 = e.1 113 76
    rw [e1, m113 76 (by decide) (by decide) (by decide)]; rfl
  · show e.1 21 q = e.1 155 q
    have : e.1 21 = fu (fun _ => 0) 0 1 := s17.2.1
    rw [this, fu_n (by omega), mz 155 (by omega) (by omega) (by omega) (by omega)]
  · show e.1 1 2 = 0
    rw [e1]; rfl

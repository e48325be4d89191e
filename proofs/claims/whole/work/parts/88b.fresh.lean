/-! ===== the trees of a new table ===== -/
def B2 (a b : Nat) (d d' : DA) : Prop := d'.2 = d.2 ∧ ∀ i, i ≠ a → i ≠ b → d'.1 i = d.1 i
/-- what begin leaves of the trees, up to the triple of number m -/
def TrB (n : Nat → Int) (r m : Nat) (f s : Nat → Int) : Prop :=
  St (fun _ => 0) (fun q => ∃ a b c e g h, thr a b c < m ∧ (a < r ∧ b < r ∧ c < r ∧ e < r ∧ g < r ∧ h < r) ∧ (a = 0 ∨ b = 0 ∨ c = 0) ∧ q = six a b c e g h ∧ isTr n a b c e g h) (pre (fun _ => 0) f 729) ∧
  ∀ a b c, a < r → b < r → c < r → s (thr a b c) = if thr a b c < m ∧ (a = 0 ∨ b = 0) then n (ti a b c) else 0
theorem TrB.st {n : Nat → Int} {r m m' : Nat} {f s : Nat → Int} (h : TrB n r m f s) (hm : ∀ a b c, a < r → b < r → c < r → (thr a b c < m ↔ thr a b c < m')) : TrB n r m' f s := by
  refine ⟨h.1.same (fun q => ⟨?_, ?_⟩), fun a b c ha hb hc => ?_⟩
  · rintro ⟨a, b, c, e, g, h', h1, h2, h3⟩
    exact ⟨a, b, c, e, g, h', (hm a b c h2.1 h2.2.1 h2.2.2.1).mpr h1, h2, h3⟩
  · rintro ⟨a, b, c, e, g, h', h1, h2, h3⟩
    exact ⟨a, b, c, e, g, h', (hm a b c h2.1 h2.2.1 h2.2.2.1).mp h1, h2, h3⟩
  · rw [h.2 a b c ha hb hc]
    have := hm a b c ha hb hc
    by_cases c9 : thr a b c < m
    · simp only [c9, this.mp c9]
    · have c8 : ¬ thr a b c < m' := fun z => c9 (this.mpr z)
      simp only [c9, c8]
theorem x9_step {d : DA} {o r a b c : Nat} {v1 : Int} (ho : 6 ≤ o) (hr : d.1 (o - 6) 0 = r) (hv : v1 = r) (h3 : r ≤ 3) (hn : Nb d (o - 6)) (ha : a < r) (hb : b < r) (hc : c < r) (hT : TrB (d.1 (o - 6 + 1)) r (thr a b c) (d.1 (o + 1)) (d.1 (o + 2))) : ∃ s', X9_begin_b56 o v1 a b c d = some (.inl s') ∧ (s'.1 = (c : Int) + 1 ∧ B2 (o + 1) (o + 2) d s'.2 ∧ TrB (d.1 (o - 6 + 1)) r (thr a b c + 1) (s'.2.1 (o + 1)) (s'.2.1 (o + 2))) := by
  have hb9 := hn.at (i := a) (j := b) (k := c) (by omega) (by omega) (by omega)
  -- the second half
  have half : ∀ D : DA, Bs (o + 1) d D → St (fun _ => 0) (fun q => ∃ a' b' c' e g h, thr a' b' c' < thr a b c + 1 ∧ (a' < r ∧ b' < r ∧ c' < r ∧ e < r ∧ g < r ∧ h < r) ∧ (a' = 0 ∨ b' = 0 ∨ c' = 0) ∧ q = six a' b' c' e g h ∧ isTr (d.1 (o - 6 + 1)) a' b' c' e g h) (pre (fun _ => 0) (D.1 (o + 1)) 729) → ∃ s', X9_begin_j83_56 o v1 a b c D = some (.inl s') ∧ (s'.1 = (c : Int) + 1 ∧ B2 (o + 1) (o + 2) d s'.2 ∧ TrB (d.1 (o - 6 + 1)) r (thr a b c + 1) (s'.2.1 (o + 1)) (s'.2.1 (o + 2))) := by
    intro D hD hS
    have hnD : nn D (o - 6) = nn d (o - 6) := hD.nE (by omega)
    have hs2 : D.1 (o + 2) = d.1 (o + 2) := hD.2 _ (by omega)
    have tS : ∀ a' b' c', a' < r → b' < r → c' < r → thr a' b' c' = thr a b c → a' = a ∧ b' = b ∧ c' = c := fun a' b' c' h1 h2 h3 h4 => by unfold thr at h4; omega
    by_cases cu : a = 0 ∨ b = 0
    · have e91 : X9_begin_j91_56 o v1 a b c D = some (.inl ((c : Int) + 1, wI D (o + 2) (thr a b c) (nn d (o - 6) a b c))) := by
        unfold X9_begin_j91_56 X9_swapPlace
        rw [b1_pos rfl, b1_pos (x8_at (show a < 5 by omega) (show b < 5 by omega) (show c < 5 by omega)), hnD, show (9 * (a : Int) + 3 * (b : Int) + (c : Int)).toNat = thr a b c by unfold thr; omega]
        simp (disch := omega) only [gd_pos, if_pos, if_neg, lt_pos, reduceIte]
      refine ⟨((c : Int) + 1, wI D (o + 2) (thr a b c) (nn d (o - 6) a b c)), ?_, rfl, ⟨hD.1, fun i h1 h2 => by show (wI D (o + 2) _ _).1 i = _; rw [wI_ne h2]; exact hD.2 i h1⟩, ?_, fun a' b' c' ha' hb' hc' => ?_⟩
      · unfold X9_begin_j83_56
        by_cases c0 : a = 0
        · simp (disch := omega) only [gd_pos, if_pos, if_neg, lt_pos, reduceIte]
          exact e91
        · simp (disch := omega) only [gd_pos, if_pos, if_neg, lt_pos, reduceIte]
          exact e91
      · show St _ _ (pre _ ((wI D (o + 2) _ _).1 (o + 1)) 729)
        rw [wI_ne (show o + 1 ≠ o + 2 by omega)]
        exact hS
      · show (wI D (o + 2) (thr a b c) (nn d (o - 6) a b c)).1 (o + 2) (thr a' b' c') = _
        rw [wI_at, fu_app, hs2]
        by_cases c9 : thr a' b' c' = thr a b c
        · obtain ⟨rfl, rfl, rfl⟩ := tS a' b' c' ha' hb' hc' c9
          rw [if_pos rfl, if_pos ⟨by omega, cu⟩]; rfl
        · rw [if_neg c9, hT.2 a' b' c' ha' hb' hc']
          by_cases c8 : thr a' b' c' < thr a b c ∧ (a' = 0 ∨ b' = 0)
          · rw [if_pos c8, if_pos ⟨by omega, c8.2⟩]
          · rw [if_neg c8, if_neg (fun z => c8 ⟨by omega, z.2⟩)]
    · refine ⟨((c : Int) + 1, D), ?_, rfl, ⟨hD.1, fun i h1 h2 => hD.2 i h1⟩, hS, fun a' b' c' ha' hb' hc' => ?_⟩
      · unfold X9_begin_j83_56
        simp (disch := omega) only [gd_pos, if_pos, if_neg, lt_pos, reduceIte]
      · show D.1 (o + 2) (thr a' b' c') = _
        rw [hs2, hT.2 a' b' c' ha' hb' hc']
        by_cases c9 : thr a' b' c' = thr a b c
        · obtain ⟨rfl, rfl, rfl⟩ := tS a' b' c' ha' hb' hc' c9
          rw [if_neg (fun z => cu z.2), if_neg (fun z => cu z.2)]
        · by_cases c8 : thr a' b' c' < thr a b c ∧ (a' = 0 ∨ b' = 0)
          · rw [if_pos c8, if_pos ⟨by omega, c8.2⟩]
          · rw [if_neg c8, if_neg (fun z => c8 ⟨by omega, z.2⟩)]
  have inj : ∀ a' b' c' e g h, (a' < r ∧ b' < r ∧ c' < r ∧ e < r ∧ g < r ∧ h < r) → six a' b' c' e g h < 729 := fun a' b' c' e g h z => by unfold six; omega
  by_cases cu : a = 0 ∨ b = 0 ∨ c = 0
  · obtain ⟨⟨u, D⟩, e1, hD, hS⟩ := x9_putOnes (c := c) ho hr h3 hn ha hb hc
    have hD' : Bs (o + 1) d D := hD
    have hS' : St (d.1 (o + 1)) (fun q => ∃ e g h, e < r ∧ g < r ∧ h < r ∧ q = six a b c e g h ∧ isTr (d.1 (o - 6 + 1)) a b c e g h) (D.1 (o + 1)) := hS
    have hS2 : St (pre (fun _ => 0) (d.1 (o + 1)) 729) (fun q => ∃ e g h, e < r ∧ g < r ∧ h < r ∧ q = six a b c e g h ∧ isTr (d.1 (o - 6 + 1)) a b c e g h) (pre (fun _ => 0) (D.1 (o + 1)) 729) := fun q => by
      by_cases c7 : q < 729
      · rw [pre_lt c7, pre_lt c7]; exact hS' q
      · rw [pre_ge c7, pre_ge c7]
        refine ⟨?_, fun _ => rfl⟩
        rintro ⟨e, g, h, h1, h2, h3', h4, h5⟩
        have := inj a b c e g h ⟨ha, hb, hc, h1, h2, h3'⟩
        omega
    have hU : St (fun _ => 0) (fun q => ∃ a' b' c' e g h, thr a' b' c' < thr a b c + 1 ∧ (a' < r ∧ b' < r ∧ c' < r ∧ e < r ∧ g < r ∧ h < r) ∧ (a' = 0 ∨ b' = 0 ∨ c' = 0) ∧ q = six a' b' c' e g h ∧ isTr (d.1 (o - 6 + 1)) a' b' c' e g h) (pre (fun _ => 0) (D.1 (o + 1)) 729) := by
      refine hT.1.tr hS2 (fun q => ⟨?_, ?_⟩)
      · rintro ⟨a', b', c', e, g, h, h1, h2, h3', h4, h5⟩
        by_cases c9 : thr a' b' c' = thr a b c
        · right
          have : a' = a ∧ b' = b ∧ c' = c := by unfold thr at c9; omega
          obtain ⟨rfl, rfl, rfl⟩ := this
          exact ⟨e, g, h, h2.2.2.2.1, h2.2.2.2.2.1, h2.2.2.2.2.2, h4, h5⟩
        · left
          exact ⟨a', b', c', e, g, h, by omega, h2, h3', h4, h5⟩
      · rintro (⟨a', b', c', e, g, h, h1, h2, h3', h4, h5⟩ | ⟨e, g, h, h1, h2, h3', h4, h5⟩)
        · exact ⟨a', b', c', e, g, h, by omega, h2, h3', h4, h5⟩
        · exact ⟨a, b, c, e, g, h, by omega, ⟨ha, hb, hc, h1, h2, h3'⟩, cu, h4, h5⟩
    obtain ⟨s', e2, h2⟩ := half D hD' hU
    refine ⟨s', ?_, h2⟩
    have e75 : X9_begin_j75_56 o v1 a b c d = some (.inl s') := by
      unfold X9_begin_j75_56
      rw [bd_pos e1]
      exact e2
    unfold X9_begin_b56
    by_cases c0 : a = 0
    · simp (disch := omega) only [gd_pos, if_pos, if_neg, lt_pos, reduceIte]
      exact e75
    · by_cases c1 : b = 0
      · simp (disch := omega) only [gd_pos, if_pos, if_neg, lt_pos, reduceIte]
        exact e75
      · simp (disch := omega) only [gd_pos, if_pos, if_neg, lt_pos, reduceIte]
        exact e75
  · have hU : St (fun _ => 0) (fun q => ∃ a' b' c' e g h, thr a' b' c' < thr a b c + 1 ∧ (a' < r ∧ b' < r ∧ c' < r ∧ e < r ∧ g < r ∧ h < r) ∧ (a' = 0 ∨ b' = 0 ∨ c' = 0) ∧ q = six a' b' c' e g h ∧ isTr (d.1 (o - 6 + 1)) a' b' c' e g h) (pre (fun _ => 0) (d.1 (o + 1)) 729) := by
      refine hT.1.same (fun q => ⟨?_, ?_⟩)
      · rintro ⟨a', b', c', e, g, h, h1, h2, h3', h4, h5⟩
        refine ⟨a', b', c', e, g, h, ?_, h2, h3', h4, h5⟩
        by_cases c9 : thr a' b' c' = thr a b c
        · have : a' = a ∧ b' = b ∧ c' = c := by unfold thr at c9; omega
          obtain ⟨rfl, rfl, rfl⟩ := this
          exact absurd h3' cu
        · omega
      · rintro ⟨a', b', c', e, g, h, h1, h2⟩
        exact ⟨a', b', c', e, g, h, by omega, h2⟩
    obtain ⟨s', e2, h2⟩ := half d Bs.rf hU
    refine ⟨s', ?_, h2⟩
    unfold X9_begin_b56
    simp (disch := omega) only [gd_pos, if_pos, if_neg, lt_pos, reduceIte]
    exact e2

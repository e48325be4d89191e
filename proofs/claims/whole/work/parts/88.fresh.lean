/-! ===== a new table: what was told is forgotten ===== -/
/-- f is f0 but 1 where S says -/
def St (f0 : Nat → Int) (S : Nat → Prop) (f : Nat → Int) : Prop := ∀ q, (S q → f q = 1) ∧ (¬ S q → f q = f0 q)
theorem St.none {f : Nat → Int} {S : Nat → Prop} (h : ∀ q, ¬ S q) : St f S f := fun q => ⟨fun z => absurd z (h q), fun _ => rfl⟩
theorem St.more {f0 f : Nat → Int} {S S' : Nat → Prop} (h : St f0 S f) (k : Nat) (hk : S' k) (hS : ∀ q, q ≠ k → (S' q ↔ S q)) : St f0 S' (fu f k 1) := fun q => by
  rw [fu_app]
  by_cases c : q = k
  · subst c; rw [if_pos rfl]; exact ⟨fun _ => rfl, fun z => absurd hk z⟩
  · rw [if_neg c, hS q c]; exact h q
theorem St.same {f0 f : Nat → Int} {S S' : Nat → Prop} (h : St f0 S f) (hS : ∀ q, S' q ↔ S q) : St f0 S' f := fun q => by rw [hS q]; exact h q
theorem St.tr {f0 f1 f2 : Nat → Int} {S S' S2 : Nat → Prop} (h : St f0 S f1) (h2 : St f1 S' f2) (hS : ∀ q, S2 q ↔ (S q ∨ S' q)) : St f0 S2 f2 := fun q => by
  rw [hS q]
  refine ⟨fun z => ?_, fun z => ?_⟩
  · by_cases c : S' q
    · exact (h2 q).1 c
    · rw [(h2 q).2 c]
      rcases z with z | z
      · exact (h q).1 z
      · exact absurd z c
  · rw [(h2 q).2 (fun c => z (Or.inr c)), (h q).2 (fun c => z (Or.inl c))]
/-- beside the cell c all is as before -/
def Bs (c : Nat) (d d' : DA) : Prop := d'.2 = d.2 ∧ ∀ i, i ≠ c → d'.1 i = d.1 i
theorem Bs.rf {c : Nat} {d : DA} : Bs c d d := ⟨rfl, fun _ _ => rfl⟩
theorem Bs.tr {c : Nat} {d1 d2 d3 : DA} (h1 : Bs c d1 d2) (h2 : Bs c d2 d3) : Bs c d1 d3 := ⟨h2.1.trans h1.1, fun i hi => (h2.2 i hi).trans (h1.2 i hi)⟩
theorem Bs.wI {c k : Nat} {v : Int} {d d' : DA} (h : Bs c d d') : Bs c d (wI d' c k v) := ⟨h.1, fun i hi => (wI_ne hi).trans (h.2 i hi)⟩
theorem Bs.nE {c o : Nat} {d d' : DA} (h : Bs c d d') (hc : o + 1 ≠ c) : nn d' o = nn d o := by funext i j k; unfold nn; rw [h.2 _ hc]
theorem x9_isThere {d : DA} {o a b c e g h : Nat} (hn : Nb d (o - 6)) (ha : a < 5) (hb : b < 5) (hc : c < 5) (he : e < 5) (hg : g < 5) (hh : h < 5) : (isTr (d.1 (o - 6 + 1)) a b c e g h → X9_isThere o a b c e g h d = some 1) ∧ (¬ isTr (d.1 (o - 6 + 1)) a b c e g h → X9_isThere o a b c e g h d = some 0) := by
  have h1 := hn.at ha hb hg
  have h2 := hn.at hg hc he
  have h3 := hn.at hb hc hh
  have h4 := hn.at ha hh he
  have e1 : d.1 (o - 6 + 1) (ti a b g) = nn d (o - 6) a b g := rfl
  have e2 : d.1 (o - 6 + 1) (ti g c e) = nn d (o - 6) g c e := rfl
  have e3 : d.1 (o - 6 + 1) (ti b c h) = nn d (o - 6) b c h := rfl
  have e4 : d.1 (o - 6 + 1) (ti a h e) = nn d (o - 6) a h e := rfl
  unfold X9_isThere X9_isThere_j66 isTr
  rw [b1_pos (x8_at ha hb hg), b1_pos (x8_at hg hc he), b1_pos (x8_at hb hc hh), b1_pos (x8_at ha hh he), e1, e2, e3, e4]
  refine ⟨fun z => ?_, fun z => ?_⟩
  · obtain ⟨z1, z2, z3, z4⟩ := z
    simp (disch := omega) only [gd_pos, if_pos, if_neg, lt_pos, reduceIte]
  · by_cases c1 : nn d (o - 6) a b g = 1
    · by_cases c2 : nn d (o - 6) g c e = 1
      · by_cases c3 : nn d (o - 6) b c h = 1
        · have c4 : ¬ nn d (o - 6) a h e = 1 := fun c4 => z ⟨c1, c2, c3, c4⟩
          simp (disch := omega) only [gd_pos, if_pos, if_neg, lt_pos, reduceIte]
        · simp (disch := omega) only [gd_pos, if_pos, if_neg, lt_pos, reduceIte]
      · simp (disch := omega) only [gd_pos, if_pos, if_neg, lt_pos, reduceIte]
    · simp (disch := omega) only [gd_pos, if_pos, if_neg, lt_pos, reduceIte]
theorem x9_putOnes {d : DA} {o r a b c : Nat} (ho : 6 ≤ o) (hr : d.1 (o - 6) 0 = r) (h3 : r ≤ 3) (hn : Nb d (o - 6)) (ha : a < r) (hb : b < r) (hc : c < r) : ∃ q, X9_putOnes o a b c d = some q ∧ (Bs (o + 1) d q.2 ∧ St (d.1 (o + 1)) (fun q => ∃ e g h, e < r ∧ g < r ∧ h < r ∧ q = six a b c e g h ∧ isTr (d.1 (o - 6 + 1)) a b c e g h) (q.2.1 (o + 1))) := by
  unfold X9_putOnes
  have hR : ∀ D, Bs (o + 1) d D → D.1 (o - 6) 0 = r := fun D hD => by rw [hD.2 _ (by omega)]; exact hr
  refine lpE_ev (fun i s => s.1 = (i : Int) ∧ Bs (o + 1) d s.2 ∧ St (d.1 (o + 1)) (fun q => ∃ e g h, e < i ∧ g < r ∧ h < r ∧ q = six a b c e g h ∧ isTr (d.1 (o - 6 + 1)) a b c e g h) (s.2.1 (o + 1))) (fun e => Bs (o + 1) d e ∧ St (d.1 (o + 1)) (fun q => ∃ e g h, e < r ∧ g < r ∧ h < r ∧ q = six a b c e g h ∧ isTr (d.1 (o - 6 + 1)) a b c e g h) (e.1 (o + 1))) r (by omega) ⟨rfl, Bs.rf, St.none (fun q => by rintro ⟨e, g, h, h1, -⟩; omega)⟩ (fun e s he hI => ?_) (fun s hI => ?_) (fun e he => ⟨_, rfl, he⟩)
  · obtain ⟨v, D⟩ := s
    obtain ⟨rfl, hD, hS⟩ := hI
    have hD' : Bs (o + 1) d D := hD
    unfold X9_putOnes_b3
    dsimp only
    rw [hR D hD']
    simp (disch := omega) only [gd_pos, if_pos, if_neg, lt_pos, reduceIte]
    refine lpE_evl (fun i s => s.1 = (i : Int) ∧ Bs (o + 1) d s.2 ∧ St (d.1 (o + 1)) (fun q => ∃ e' g h, (e' < e ∨ e' = e ∧ g < i) ∧ g < r ∧ h < r ∧ q = six a b c e' g h ∧ isTr (d.1 (o - 6 + 1)) a b c e' g h) (s.2.1 (o + 1))) (fun E => Bs (o + 1) d E ∧ St (d.1 (o + 1)) (fun q => ∃ e' g h, e' < e + 1 ∧ g < r ∧ h < r ∧ q = six a b c e' g h ∧ isTr (d.1 (o - 6 + 1)) a b c e' g h) (E.1 (o + 1))) r (by omega) ⟨rfl, hD', hS.same (fun q => ⟨by rintro ⟨e', g, h, h1, h2⟩; exact ⟨e', g, h, by omega, h2⟩, by rintro ⟨e', g, h, h1, h2⟩; exact ⟨e', g, h, by omega, h2⟩⟩)⟩ (fun g s hg hI => ?_) (fun s hI => ?_) (fun E hE => ⟨_, rfl, rfl, hE⟩)
    · obtain ⟨v, D⟩ := s
      obtain ⟨rfl, hD, hS⟩ := hI
      have hD' : Bs (o + 1) d D := hD
      unfold X9_putOnes_b18
      dsimp only
      rw [hR D hD']
      simp (disch := omega) only [gd_pos, if_pos, if_neg, lt_pos, reduceIte]
      refine lpE_evl (fun i s => s.1 = (i : Int) ∧ Bs (o + 1) d s.2 ∧ St (d.1 (o + 1)) (fun q => ∃ e' g' h, (e' < e ∨ e' = e ∧ (g' < g ∨ g' = g ∧ h < i)) ∧ g' < r ∧ h < r ∧ q = six a b c e' g' h ∧ isTr (d.1 (o - 6 + 1)) a b c e' g' h) (s.2.1 (o + 1))) (fun E => Bs (o + 1) d E ∧ St (d.1 (o + 1)) (fun q => ∃ e' g' h, (e' < e ∨ e' = e ∧ g' < g + 1) ∧ g' < r ∧ h < r ∧ q = six a b c e' g' h ∧ isTr (d.1 (o - 6 + 1)) a b c e' g' h) (E.1 (o + 1))) r (by omega) ⟨rfl, hD', hS.same (fun q => ⟨by rintro ⟨e', g', h, h1, h2⟩; exact ⟨e', g', h, by omega, h2⟩, by rintro ⟨e', g', h, h1, h2⟩; exact ⟨e', g', h, by omega, h2⟩⟩)⟩ (fun h s hh hI => ?_) (fun s hI => ?_) (fun E hE => ⟨_, rfl, rfl, hE⟩)
      · obtain ⟨v, D⟩ := s
        obtain ⟨rfl, hD, hS⟩ := hI
        have hD' : Bs (o + 1) d D := hD
        have hS' : St (d.1 (o + 1)) (fun q => ∃ e' g' h', (e' < e ∨ e' = e ∧ (g' < g ∨ g' = g ∧ h' < h)) ∧ g' < r ∧ h' < r ∧ q = six a b c e' g' h' ∧ isTr (d.1 (o - 6 + 1)) a b c e' g' h') (D.1 (o + 1)) := hS
        have eT : D.1 (o - 6 + 1) = d.1 (o - 6 + 1) := hD'.2 _ (by omega)
        have hnD : Nb D (o - 6) := fun j hj => by rw [eT]; exact hn j hj
        have hT := x9_isThere (o := o) (a := a) (b := b) (c := c) (e := e) (g := g) (h := h) hnD (by omega) (by omega) (by omega) (by omega) (by omega) (by omega)
        rw [eT] at hT
        by_cases ct : isTr (d.1 (o - 6 + 1)) a b c e g h
        · refine ⟨((h : Int) + 1, wI D (o + 1) (six a b c e g h) 1), ?_, rfl, hD'.wI, ?_⟩
          · unfold X9_putOnes_b33 X9_place
            dsimp only
            rw [hR D hD', b1_pos (hT.1 ct), b1_pos rfl, show (((((243 * (a : Int) + 81 * (b : Int)) + 27 * (c : Int)) + 9 * (e : Int)) + 3 * (g : Int)) + (h : Int)).toNat = six a b c e g h by unfold six; omega]
            simp (disch := omega) only [gd_pos, if_pos, if_neg, lt_pos, reduceIte]
          · show St _ _ ((wI D (o + 1) (six a b c e g h) 1).1 (o + 1))
            rw [wI_at]
            refine hS'.more _ ⟨e, g, h, by omega, hg, hh, rfl, ct⟩ (fun q hq => ⟨?_, ?_⟩)
            · rintro ⟨e', g', h', h1, h2, h3, h4, h5⟩
              refine ⟨e', g', h', ?_, h2, h3, h4, h5⟩
              by_cases c9 : e' = e ∧ g' = g ∧ h' = h
              · obtain ⟨rfl, rfl, rfl⟩ := c9
                exact absurd h4 hq
              · omega
            · rintro ⟨e', g', h', h1, h2⟩
              exact ⟨e', g', h', by omega, h2⟩
        · refine ⟨((h : Int) + 1, D), ?_, rfl, hD', ?_⟩
          · unfold X9_putOnes_b33
            dsimp only
            rw [hR D hD', b1_pos (hT.2 ct)]
            simp (disch := omega) only [gd_pos, if_pos, if_neg, lt_pos, reduceIte]
          · refine hS'.same (fun q => ⟨?_, ?_⟩)
            · rintro ⟨e', g', h', h1, h2, h3, h4, h5⟩
              refine ⟨e', g', h', ?_, h2, h3, h4, h5⟩
              by_cases c9 : e' = e ∧ g' = g ∧ h' = h
              · obtain ⟨rfl, rfl, rfl⟩ := c9
                exact absurd h5 ct
              · omega
            · rintro ⟨e', g', h', h1, h2⟩
              exact ⟨e', g', h', by omega, h2⟩
      · obtain ⟨v, D⟩ := s
        obtain ⟨rfl, hD, hS⟩ := hI
        have hD' : Bs (o + 1) d D := hD
        refine ⟨D, ?_, hD', ?_⟩
        · unfold X9_putOnes_b33
          dsimp only
          rw [hR D hD']
          simp (disch := omega) only [gd_pos, if_pos, if_neg, lt_pos, reduceIte]
        · refine St.same hS (fun q => ⟨?_, ?_⟩)
          · rintro ⟨e', g', h', h1, h2, h3, h4⟩
            exact ⟨e', g', h', by omega, h2, h3, h4⟩
          · rintro ⟨e', g', h', h1, h2, h3, h4⟩
            exact ⟨e', g', h', by omega, h2, h3, h4⟩
    · obtain ⟨v, D⟩ := s
      obtain ⟨rfl, hD, hS⟩ := hI
      have hD' : Bs (o + 1) d D := hD
      refine ⟨D, ?_, hD', ?_⟩
      · unfold X9_putOnes_b18
        dsimp only
        rw [hR D hD']
        simp (disch := omega) only [gd_pos, if_pos, if_neg, lt_pos, reduceIte]
      · refine St.same hS (fun q => ⟨?_, ?_⟩)
        · rintro ⟨e', g', h', h1, h2, h3, h4⟩
          exact ⟨e', g', h', by omega, h2, h3, h4⟩
        · rintro ⟨e', g', h', h1, h2, h3, h4⟩
          exact ⟨e', g', h', by omega, h2, h3, h4⟩
  · obtain ⟨v, D⟩ := s
    obtain ⟨rfl, hD, hS⟩ := hI
    have hD' : Bs (o + 1) d D := hD
    refine ⟨D, ?_, hD', hS⟩
    unfold X9_putOnes_b3
    dsimp only
    rw [hR D hD']
    simp (disch := omega) only [gd_pos, if_pos, if_neg, lt_pos, reduceIte]

/-! ===== near groups; the reference's make ===== -/
def ngS (n q : Nat) : Prop := ∃ g, g < n ∧ (q = ti g n n ∨ q = ti n g n ∨ q = ti n n g)
theorem x8_near {d : DA} {o n : Nat} {m : Int} (h1 : 1 ≤ n) (h4 : n ≤ 4) : ∃ q, X8_beNearGroup o n m d = some q ∧ (∃ f, q.2 = wA (wI d o 0 ((n + 1 : Nat) : Int)) (o + 1) f ∧ (∀ q, ¬ q < 125 → f q = d.1 (o + 1) q) ∧ Mk 2 n m f) := by
  obtain ⟨⟨u, D⟩, e1, f1, hD, hS⟩ := x8_begin (d := d) (o := o) (r := n + 1) (by omega)
  have hD' : D = wA (wI d o 0 ((n + 1 : Nat) : Int)) (o + 1) f1 := hD
  have e1' : X8_begin o ((n : Int) + 1) d = some (u, D) := e1
  obtain ⟨⟨u2, D2⟩, e2, f2, hD2, hS2⟩ := x8_fillG (D0 := wI d o 0 ((n + 1 : Nat) : Int)) (o := o) (n := n) (f := f1) (by omega)
  have hD2' : D2 = wA (wI d o 0 ((n + 1 : Nat) : Int)) (o + 1) f2 := hD2
  generalize hD0 : wI d o 0 ((n + 1 : Nat) : Int) = D0 at hD' hD2' e2
  have hU := hS.tr hS2 (S2 := fun q => bgS (n + 1) q ∨ gpS n q) (fun q => Iff.rfl)
  unfold X8_beNearGroup
  rw [bd_pos e1', hD', bd_pos e2, hD2']
  have main : ∃ q, lpE (fun q => X8_beNearGroup_b14 o (n : Int) m q.1 q.2) (0, wA D0 (o + 1) f2) (fun e => X8_beNearGroup_j49 o (n : Int) m e) = some q ∧ (∃ f, q.2 = wA D0 (o + 1) (fu f (ti n n n) m) ∧ St (pre (d.1 (o + 1)) (fun _ => 0) 125) (fun q => (bgS (n + 1) q ∨ gpS n q) ∨ ngS n q) f) := by
    refine lpE_ev (fun g s => s.1 = (g : Int) ∧ ∃ f, s.2 = wA D0 (o + 1) f ∧ St (pre (d.1 (o + 1)) (fun _ => 0) 125) (fun q => (bgS (n + 1) q ∨ gpS n q) ∨ ∃ g', g' < g ∧ (q = ti g' n n ∨ q = ti n g' n ∨ q = ti n n g')) f) (fun e => ∃ f, e = wA D0 (o + 1) f ∧ St (pre (d.1 (o + 1)) (fun _ => 0) 125) (fun q => (bgS (n + 1) q ∨ gpS n q) ∨ ngS n q) f) n (by omega) ⟨rfl, f2, rfl, hU.same (fun q => ⟨by rintro (z | ⟨g, z, -⟩); exact z; omega, Or.inl⟩)⟩ (fun g s hg hI => ?_) (fun s hI => ?_) (fun e he => ?_)
    · obtain ⟨v, E⟩ := s
      obtain ⟨rfl, f3, hE, hS3⟩ := hI
      have hE' : E = wA D0 (o + 1) f3 := hE
      have p1 := fun D => x8_put (d := D) (o := o) (i := g) (j := n) (k := n) (v := 1) (by omega) (by omega) (by omega)
      have p2 := fun D => x8_put (d := D) (o := o) (i := n) (j := g) (k := n) (v := 1) (by omega) (by omega) (by omega)
      have p3 := fun D => x8_put (d := D) (o := o) (i := n) (j := n) (k := g) (v := 1) (by omega) (by omega) (by omega)
      refine ⟨((g : Int) + 1, wA D0 (o + 1) (fu (fu (fu f3 (ti g n n) 1) (ti n g n) 1) (ti n n g) 1)), ?_, rfl, _, rfl, ?_⟩
      · unfold X8_beNearGroup_b14
        dsimp only
        simp (disch := omega) only [gd_pos, if_pos, if_neg, lt_pos, reduceIte]
        rw [bd_pos (p1 _), bd_pos (p2 _), bd_pos (p3 _), hE', wA_wI, wA_wI, wA_wI]
      · have hS3' : St (pre (d.1 (o + 1)) (fun _ => 0) 125) (fun q => (bgS (n + 1) q ∨ gpS n q) ∨ ∃ g', g' < g ∧ (q = ti g' n n ∨ q = ti n g' n ∨ q = ti n n g')) f3 := hS3
        refine ((hS3'.more (S' := fun q => ((bgS (n + 1) q ∨ gpS n q) ∨ ∃ g', g' < g ∧ (q = ti g' n n ∨ q = ti n g' n ∨ q = ti n n g')) ∨ q = ti g n n) (ti g n n) (Or.inr rfl) (fun q hq => ⟨fun z => z.resolve_right hq, Or.inl⟩)).more (S' := fun q => (((bgS (n + 1) q ∨ gpS n q) ∨ ∃ g', g' < g ∧ (q = ti g' n n ∨ q = ti n g' n ∨ q = ti n n g')) ∨ q = ti g n n) ∨ q = ti n g n) (ti n g n) (Or.inr rfl) (fun q hq => ⟨fun z => z.resolve_right hq, Or.inl⟩)).more (ti n n g) (Or.inr ⟨g, by omega, Or.inr (Or.inr rfl)⟩) (fun q hq => ⟨?_, ?_⟩)
        · rintro (z | ⟨g', z1, z2⟩)
          · exact Or.inl (Or.inl (Or.inl z))
          · by_cases c : g' = g
            · subst c
              rcases z2 with z2 | z2 | z2
              · exact Or.inl (Or.inr z2)
              · exact Or.inr z2
              · exact absurd z2 hq
            · exact Or.inl (Or.inl (Or.inr ⟨g', by omega, z2⟩))
        · rintro (((z | ⟨g', z1, z2⟩) | z) | z)
          · exact Or.inl z
          · exact Or.inr ⟨g', by omega, z2⟩
          · exact Or.inr ⟨g, by omega, Or.inl z⟩
          · exact Or.inr ⟨g, by omega, Or.inr (Or.inl z)⟩
    · obtain ⟨v, E⟩ := s
      obtain ⟨rfl, f3, hE, hS3⟩ := hI
      refine ⟨E, ?_, f3, hE, hS3⟩
      unfold X8_beNearGroup_b14
      simp (disch := omega) only [gd_pos, if_pos, if_neg, lt_pos, reduceIte]
    · obtain ⟨f3, hE, hS3⟩ := he
      unfold X8_beNearGroup_j49
      rw [bd_pos (x8_put (i := n) (j := n) (k := n) (by omega) (by omega) (by omega)), hE, wA_wI]
      exact ⟨_, rfl, f3, rfl, hS3⟩
  obtain ⟨q, h1', f, h2, hV⟩ := main
  have hSq : ∀ i j k, i < 5 → j < 5 → k < 5 → ¬ (i = n ∧ j = n ∧ k = n) → (((i = n ∧ j = n ∧ k < n) ∨ (i = n ∧ j < n ∧ k = n) ∨ (i < n ∧ j = n ∧ k = n) ∨ (i < n ∧ j < n ∧ k = (i + j) % n)) ↔ ((bgS (n + 1) (ti i j k) ∨ gpS n (ti i j k)) ∨ ngS n (ti i j k))) := by
    intro i j k hi hj hk hnn
    constructor
    · rintro (z | z | z | z)
      · exact Or.inr ⟨k, z.2.2, Or.inr (Or.inr (by rw [z.1, z.2.1]))⟩
      · exact Or.inr ⟨j, z.2.1, Or.inr (Or.inl (by rw [z.1, z.2.2]))⟩
      · exact Or.inr ⟨i, z.1, Or.inl (by rw [z.2.1, z.2.2])⟩
      · exact Or.inl (Or.inr ⟨i, j, z.1, z.2.1, by rw [← z.2.2]⟩)
    · rintro ((⟨b, z1, z2 | z2⟩ | ⟨a, b, z1, z2, z3⟩) | ⟨g, z1, z2 | z2 | z2⟩)
      · have := ti_inj hj hk (show b < 5 by omega) (show b < 5 by omega) z2
        by_cases c : b = n
        · right; right; left; omega
        · right; right; right
          have hb : b < n := by omega
          obtain ⟨rfl, rfl, rfl⟩ := this
          exact ⟨by omega, hb, by rw [Nat.zero_add, Nat.mod_eq_of_lt hb]⟩
      · have := ti_inj hj hk (show 0 < 5 by omega) (show b < 5 by omega) z2
        by_cases c : b = n
        · right; left; omega
        · right; right; right
          have hb : b < n := by omega
          obtain ⟨rfl, rfl, rfl⟩ := this
          exact ⟨hb, by omega, by rw [Nat.add_zero, Nat.mod_eq_of_lt hb]⟩
      · have hm := Nat.mod_lt (a + b) (show n > 0 by omega)
        obtain ⟨rfl, rfl, y⟩ := ti_inj hj hk (show b < 5 by omega) (show (a + b) % n < 5 by omega) z3
        right; right; right
        exact ⟨z1, z2, y⟩
      · have := ti_inj hj hk (show n < 5 by omega) (show n < 5 by omega) z2
        right; right; left; omega
      · have := ti_inj hj hk (show g < 5 by omega) (show n < 5 by omega) z2
        right; left; omega
      · have := ti_inj hj hk (show n < 5 by omega) (show g < 5 by omega) z2
        left; omega
  refine ⟨q, h1', _, by rw [h2], fun q hq => ?_, fun i j k hi hj hk => ⟨fun z => by omega, fun z => by omega, fun _ => ⟨fun z => ?_, fun z => ?_, fun z z2 => ?_⟩⟩⟩
  · have := ti_lt (show n < 5 by omega) (show n < 5 by omega) (show n < 5 by omega)
    rw [fu_n (by omega)]
    refine hV.out (fun q => ?_) q hq
    rintro ((⟨b, z1, rfl | rfl⟩ | ⟨a, b, z1, z2, rfl⟩) | ⟨g, z1, rfl | rfl | rfl⟩)
    · exact ti_lt (by omega) (by omega) (by omega)
    · exact ti_lt (by omega) (by omega) (by omega)
    · have hm := Nat.mod_lt (a + b) (show n > 0 by omega)
      exact ti_lt (by omega) (by omega) (by omega)
    · exact ti_lt (by omega) (by omega) (by omega)
    · exact ti_lt (by omega) (by omega) (by omega)
    · exact ti_lt (by omega) (by omega) (by omega)
  · rw [z.1, z.2.1, z.2.2, fu_s]
  · have hnn : ¬ (i = n ∧ j = n ∧ k = n) := by
      rintro ⟨rfl, rfl, rfl⟩
      omega
    have hne : ti i j k ≠ ti n n n := fun e => hnn (ti_inj hj hk (by omega) (by omega) e)
    rw [fu_n hne]
    exact (hV _).1 ((hSq i j k hi hj hk hnn).mp z)
  · have hne : ti i j k ≠ ti n n n := fun e => z (ti_inj hj hk (by omega) (by omega) e)
    rw [fu_n hne, (hV _).2 (fun y => z2 ((hSq i j k hi hj hk z).mpr y)), pre_lt (ti_lt hi hj hk)]
theorem Mk.TG {w n r : Nat} {m : Int} {f : Nat → Int} (h : Mk w n m f) (hw : w ≤ 2) (hm : 0 ≤ m ∧ m ≤ 9) (hr : (w = 0 ∧ 1 ≤ n ∧ n ≤ 5 ∧ r = n) ∨ (w = 1 ∧ n ≤ 4 ∧ r = n + 1) ∨ (w = 2 ∧ 1 ≤ n ∧ n ≤ 4 ∧ r = n + 1)) : TG f r := by
  have val : ∀ i j k, i < 5 → j < 5 → k < 5 → 0 ≤ f (ti i j k) ∧ f (ti i j k) ≤ 9 := by
    intro i j k hi hj hk
    obtain ⟨a0, a1, a2⟩ := h i j k hi hj hk
    rcases hr with ⟨rfl, hr⟩ | ⟨rfl, hr⟩ | ⟨rfl, hr⟩
    · by_cases c : i < n ∧ j < n ∧ k = (i + j) % n
      · rw [(a0 rfl).1 c]; omega
      · rw [(a0 rfl).2 c]; omega
    · by_cases c : i ≤ n ∧ j ≤ n ∧ k ≤ n ∧ lvP n i j k
      · rw [(a1 rfl).1 c]; omega
      · rw [(a1 rfl).2 c]; omega
    · by_cases c : i = n ∧ j = n ∧ k = n
      · rw [(a2 rfl).1 c]; omega
      · by_cases c2 : (i = n ∧ j = n ∧ k < n) ∨ (i = n ∧ j < n ∧ k = n) ∨ (i < n ∧ j = n ∧ k = n) ∨ (i < n ∧ j < n ∧ k = (i + j) % n)
        · rw [(a2 rfl).2.1 c2]; omega
        · rw [(a2 rfl).2.2 c c2]; omega
  refine ⟨by omega, fun q hq => ?_, fun i j k hi hj hk hz => ?_, fun j k hj hk => ?_, fun j k hj hk => ?_⟩
  · have := val (q / 25) (q / 5 % 5) (q % 5) (by omega) (by omega) (by omega)
    unfold ti at this
    rw [show 25 * (q / 25) + 5 * (q / 5 % 5) + q % 5 = q by omega] at this
    exact this
  · obtain ⟨a0, a1, a2⟩ := h i j k hi hj hk
    rcases hr with ⟨rfl, hr⟩ | ⟨rfl, hr⟩ | ⟨rfl, hr⟩
    · refine (a0 rfl).2 (fun z => ?_)
      have := Nat.mod_lt (i + j) (show n > 0 by omega)
      omega
    · exact (a1 rfl).2 (fun z => by omega)
    · refine (a2 rfl).2.2 (fun z => by omega) (fun z => ?_)
      have := Nat.mod_lt (i + j) (show n > 0 by omega)
      omega
  · obtain ⟨a0, a1, a2⟩ := h 0 j k (by omega) (by omega) (by omega)
    rcases hr with ⟨rfl, hr⟩ | ⟨rfl, hr⟩ | ⟨rfl, hr⟩
    · have e : (0 + j) % n = j := by rw [Nat.zero_add, Nat.mod_eq_of_lt (by omega)]
      by_cases c : j = k
      · rw [if_pos c]; exact (a0 rfl).1 ⟨by omega, by omega, by omega⟩
      · rw [if_neg c]; exact (a0 rfl).2 (fun z => c (by omega))
    · by_cases c : j = k
      · rw [if_pos c]; exact (a1 rfl).1 ⟨by omega, by omega, by omega, by unfold lvP; omega⟩
      · rw [if_neg c]; exact (a1 rfl).2 (fun z => by unfold lvP at z; omega)
    · by_cases c : j = k
      · rw [if_pos c]
        refine (a2 rfl).2.1 ?_
        by_cases c2 : j = n
        · right; right; left; omega
        · right; right; right
          exact ⟨by omega, by omega, by rw [Nat.zero_add, Nat.mod_eq_of_lt (by omega)]; omega⟩
      · rw [if_neg c]
        refine (a2 rfl).2.2 (fun z => by omega) (fun z => ?_)
        rcases z with z | z | z | z
        · omega
        · omega
        · omega
        · rw [Nat.zero_add, Nat.mod_eq_of_lt z.2.1] at z
          omega
  · obtain ⟨a0, a1, a2⟩ := h j 0 k (by omega) (by omega) (by omega)
    rcases hr with ⟨rfl, hr⟩ | ⟨rfl, hr⟩ | ⟨rfl, hr⟩
    · have e : (j + 0) % n = j := by rw [Nat.add_zero, Nat.mod_eq_of_lt (by omega)]
      by_cases c : j = k
      · rw [if_pos c]; exact (a0 rfl).1 ⟨by omega, by omega, by omega⟩
      · rw [if_neg c]; exact (a0 rfl).2 (fun z => c (by omega))
    · by_cases c : j = k
      · rw [if_pos c]; exact (a1 rfl).1 ⟨by omega, by omega, by omega, by unfold lvP; omega⟩
      · rw [if_neg c]; exact (a1 rfl).2 (fun z => by unfold lvP at z; omega)
    · by_cases c : j = k
      · rw [if_pos c]
        refine (a2 rfl).2.1 ?_
        by_cases c2 : j = n
        · right; left; omega
        · right; right; right
          exact ⟨by omega, by omega, by rw [Nat.add_zero, Nat.mod_eq_of_lt (by omega)]; omega⟩
      · rw [if_neg c]
        refine (a2 rfl).2.2 (fun z => by omega) (fun z => ?_)
        rcases z with z | z | z | z
        · omega
        · omega
        · omega
        · rw [Nat.add_zero, Nat.mod_eq_of_lt z.1] at z
          omega
theorem Mk.eq {w n : Nat} {m : Int} {f g : Nat → Int} (hw : w ≤ 2) (h1 : Mk w n m f) (h2 : Mk w n m g) : ∀ q, q < 125 → f q = g q := by
  intro q hq
  have e : q = ti (q / 25) (q / 5 % 5) (q % 5) := by unfold ti; omega
  rw [e]
  obtain ⟨a0, a1, a2⟩ := h1 (q / 25) (q / 5 % 5) (q % 5) (by omega) (by omega) (by omega)
  obtain ⟨b0, b1, b2⟩ := h2 (q / 25) (q / 5 % 5) (q % 5) (by omega) (by omega) (by omega)
  generalize q / 25 = i at *
  generalize q / 5 % 5 = j at *
  generalize q % 5 = k at *
  rcases (show w = 0 ∨ w = 1 ∨ w = 2 by omega) with rfl | rfl | rfl
  · by_cases c : i < n ∧ j < n ∧ k = (i + j) % n
    · rw [(a0 rfl).1 c, (b0 rfl).1 c]
    · rw [(a0 rfl).2 c, (b0 rfl).2 c]
  · by_cases c : i ≤ n ∧ j ≤ n ∧ k ≤ n ∧ lvP n i j k
    · rw [(a1 rfl).1 c, (b1 rfl).1 c]
    · rw [(a1 rfl).2 c, (b1 rfl).2 c]
  · by_cases c : i = n ∧ j = n ∧ k = n
    · rw [(a2 rfl).1 c, (b2 rfl).1 c]
    · by_cases c2 : (i = n ∧ j = n ∧ k < n) ∨ (i = n ∧ j < n ∧ k = n) ∨ (i < n ∧ j = n ∧ k = n) ∨ (i < n ∧ j < n ∧ k = (i + j) % n)
      · rw [(a2 rfl).2.1 c2, (b2 rfl).2.1 c2]
      · rw [(a2 rfl).2.2 c c2, (b2 rfl).2.2 c c2]

/-! ===== levels, near groups ===== -/
def lvS (n q : Nat) : Prop := ∃ i j k, i ≤ n ∧ j ≤ n ∧ k ≤ n ∧ lvP n i j k ∧ q = ti i j k
theorem x8_level {d : DA} {o n : Nat} (h4 : n ≤ 4) : ∃ q, X8_beLevel o n d = some q ∧ (∃ f, q.2 = wA (wI d o 0 ((n + 1 : Nat) : Int)) (o + 1) f ∧ (∀ q, ¬ q < 125 → f q = d.1 (o + 1) q) ∧ Mk 1 n 0 f) := by
  obtain ⟨⟨u, D⟩, e1, f1, hD, hS⟩ := x8_begin (d := d) (o := o) (r := n + 1) (by omega)
  have hD' : D = wA (wI d o 0 ((n + 1 : Nat) : Int)) (o + 1) f1 := hD
  have e1' : X8_begin o ((n : Int) + 1) d = some (u, D) := e1
  generalize hD0 : wI d o 0 ((n + 1 : Nat) : Int) = D0 at hD'
  have bgL : ∀ q, bgS (n + 1) q → lvS n q := by
    rintro q ⟨j, z1, z2⟩
    rcases z2 with rfl | rfl
    · exact ⟨0, j, j, by omega, by omega, by omega, by unfold lvP; omega, rfl⟩
    · exact ⟨j, 0, j, by omega, by omega, by omega, by unfold lvP; omega, rfl⟩
  unfold X8_beLevel
  rw [bd_pos e1', hD']
  have main : ∃ q, lpE (fun q => X8_beLevel_b9 o (n : Int) q.1 q.2) (0, wA D0 (o + 1) f1) (fun e => some (((), e))) = some q ∧ (∃ f, q.2 = wA D0 (o + 1) f ∧ St (pre (d.1 (o + 1)) (fun _ => 0) 125) (lvS n) f) := by
    refine lpE_ev (fun i s => s.1 = (i : Int) ∧ ∃ f, s.2 = wA D0 (o + 1) f ∧ St (pre (d.1 (o + 1)) (fun _ => 0) 125) (fun q => bgS (n + 1) q ∨ ∃ a b c, a < i ∧ a ≤ n ∧ b ≤ n ∧ c ≤ n ∧ lvP n a b c ∧ q = ti a b c) f) (fun e => ∃ f, e = wA D0 (o + 1) f ∧ St (pre (d.1 (o + 1)) (fun _ => 0) 125) (lvS n) f) (n + 1) (by omega) ⟨rfl, f1, rfl, hS.same (fun q => ⟨by rintro (z | ⟨a, b, c, z, -⟩); exact z; omega, Or.inl⟩)⟩ (fun i s hi hI => ?_) (fun s hI => ?_) (fun e he => ⟨_, rfl, he⟩)
    · obtain ⟨v, E⟩ := s
      obtain ⟨rfl, f2, hE, hS2⟩ := hI
      unfold X8_beLevel_b9
      dsimp only
      simp (disch := omega) only [gd_pos, if_pos, if_neg, lt_pos, reduceIte]
      refine lpE_evl (fun j s => s.1 = (j : Int) ∧ ∃ f, s.2 = wA D0 (o + 1) f ∧ St (pre (d.1 (o + 1)) (fun _ => 0) 125) (fun q => bgS (n + 1) q ∨ ∃ a b c, (a < i ∨ a = i ∧ b < j) ∧ a ≤ n ∧ b ≤ n ∧ c ≤ n ∧ lvP n a b c ∧ q = ti a b c) f) (fun e => ∃ f, e = wA D0 (o + 1) f ∧ St (pre (d.1 (o + 1)) (fun _ => 0) 125) (fun q => bgS (n + 1) q ∨ ∃ a b c, a < i + 1 ∧ a ≤ n ∧ b ≤ n ∧ c ≤ n ∧ lvP n a b c ∧ q = ti a b c) f) (n + 1) (by omega) ⟨rfl, f2, hE, hS2.same (fun q => ⟨by rintro (z | ⟨a, b, c, z1, z2⟩); exact Or.inl z; exact Or.inr ⟨a, b, c, by omega, z2⟩, by rintro (z | ⟨a, b, c, z1, z2⟩); exact Or.inl z; exact Or.inr ⟨a, b, c, by omega, z2⟩⟩)⟩ (fun j s hj hI => ?_) (fun s hI => ?_) (fun e he => ⟨_, rfl, rfl, he⟩)
      · obtain ⟨v, E⟩ := s
        obtain ⟨rfl, f3, hE, hS3⟩ := hI
        have hE' : E = wA D0 (o + 1) f3 := hE
        obtain ⟨ab, hab⟩ : ∃ ab : Nat, ab = if i ≤ j then j - i else i - j := ⟨_, rfl⟩
        obtain ⟨mm, hmm⟩ : ∃ mm : Nat, mm = if i + j ≤ n then i + j else n := ⟨_, rfl⟩
        have hab' : (i ≤ j ∧ ab = j - i) ∨ (¬ i ≤ j ∧ ab = i - j) := by split at hab <;> omega
        have hmm' : (i + j ≤ n ∧ mm = i + j) ∨ (¬ i + j ≤ n ∧ mm = n) := by split at hmm <;> omega
        have hma : mabs ((i : Int) - (j : Int)) = (ab : Int) := by unfold mabs; split <;> omega
        unfold X8_beLevel_b16
        dsimp only
        simp (disch := omega) only [gd_pos, if_pos, if_neg, lt_pos, reduceIte, hma]
        have hS3' : St (pre (d.1 (o + 1)) (fun _ => 0) 125) (fun q => bgS (n + 1) q ∨ ∃ a b c, (a < i ∨ a = i ∧ b < j) ∧ a ≤ n ∧ b ≤ n ∧ c ≤ n ∧ lvP n a b c ∧ q = ti a b c) f3 := hS3
        refine lpE_evl (fun t s => s.1 = ((ab + 2 * t : Nat) : Int) ∧ ∃ f, s.2 = wA D0 (o + 1) f ∧ St (pre (d.1 (o + 1)) (fun _ => 0) 125) (fun q => bgS (n + 1) q ∨ ∃ a b c, (a < i ∨ a = i ∧ (b < j ∨ b = j ∧ c < ab + 2 * t)) ∧ a ≤ n ∧ b ≤ n ∧ c ≤ n ∧ lvP n a b c ∧ q = ti a b c) f) (fun e => ∃ f, e = wA D0 (o + 1) f ∧ St (pre (d.1 (o + 1)) (fun _ => 0) 125) (fun q => bgS (n + 1) q ∨ ∃ a b c, (a < i ∨ a = i ∧ b < j + 1) ∧ a ≤ n ∧ b ≤ n ∧ c ≤ n ∧ lvP n a b c ∧ q = ti a b c) f) ((mm - ab) / 2 + 1) (by omega) ⟨rfl, f3, hE', hS3'.same (fun q => ⟨?_, ?_⟩)⟩ (fun t s ht hI => ?_) (fun s hI => ?_) (fun e he => ⟨_, rfl, rfl, he⟩)
        · rintro (z | ⟨a, b, c, z1, z2, z3, z4, z5, z6⟩)
          · exact Or.inl z
          · refine Or.inr ⟨a, b, c, ?_, z2, z3, z4, z5, z6⟩
            unfold lvP at z5
            omega
        · rintro (z | ⟨a, b, c, z1, z2⟩)
          · exact Or.inl z
          · exact Or.inr ⟨a, b, c, by omega, z2⟩
        · obtain ⟨v, E⟩ := s
          obtain ⟨rfl, f4, hE, hS4⟩ := hI
          have hE' : E = wA D0 (o + 1) f4 := hE
          have hS4' : St (pre (d.1 (o + 1)) (fun _ => 0) 125) (fun q => bgS (n + 1) q ∨ ∃ a b c, (a < i ∨ a = i ∧ (b < j ∨ b = j ∧ c < ab + 2 * t)) ∧ a ≤ n ∧ b ≤ n ∧ c ≤ n ∧ lvP n a b c ∧ q = ti a b c) f4 := hS4
          have hk : ab + 2 * t ≤ mm := by omega
          have ep := fun v => x8_put (d := E) (o := o) (i := i) (j := j) (k := ab + 2 * t) (v := v) (by omega) (by omega) (by omega)
          by_cases c2 : i + j + (ab + 2 * t) ≤ 2 * n
          · refine ⟨(((ab + 2 * t : Nat) : Int) + 2, wA D0 (o + 1) (fu f4 (ti i j (ab + 2 * t)) 1)), ?_, by show ((ab + 2 * t : Nat) : Int) + 2 = ((ab + 2 * (t + 1) : Nat) : Int); omega, _, rfl, ?_⟩
            · unfold X8_beLevel_b29 X8_beLevel_j65_29
              dsimp only
              simp (disch := omega) only [gd_pos, if_pos, if_neg, lt_pos, reduceIte]
              rw [bd_pos (ep 1), hE', wA_wI]
            · refine hS4'.more _ (Or.inr ⟨i, j, ab + 2 * t, by omega, by omega, by omega, by omega, by unfold lvP; omega, rfl⟩) (fun q hq => ⟨?_, ?_⟩)
              · rintro (z | ⟨a, b, c, z1, z2, z3, z4, z5, z6⟩)
                · exact Or.inl z
                · refine Or.inr ⟨a, b, c, ?_, z2, z3, z4, z5, z6⟩
                  by_cases c9 : a = i ∧ b = j ∧ c = ab + 2 * t
                  · obtain ⟨rfl, rfl, rfl⟩ := c9; exact absurd z6 hq
                  · unfold lvP at z5
                    omega
              · rintro (z | ⟨a, b, c, z1, z2⟩)
                · exact Or.inl z
                · exact Or.inr ⟨a, b, c, by omega, z2⟩
          · have nS : ¬ (bgS (n + 1) (ti i j (ab + 2 * t)) ∨ ∃ a b c, (a < i ∨ a = i ∧ (b < j ∨ b = j ∧ c < ab + 2 * (t + 1))) ∧ a ≤ n ∧ b ≤ n ∧ c ≤ n ∧ lvP n a b c ∧ ti i j (ab + 2 * t) = ti a b c) := by
              rintro (⟨b, z1, z2 | z2⟩ | ⟨a, b, c, z1, z2, z3, z4, z5, z6⟩)
              · have := ti_inj (show j < 5 by omega) (show ab + 2 * t < 5 by omega) (show b < 5 by omega) (show b < 5 by omega) z2
                omega
              · have := ti_inj (show j < 5 by omega) (show ab + 2 * t < 5 by omega) (show 0 < 5 by omega) (show b < 5 by omega) z2
                omega
              · have := ti_inj (show j < 5 by omega) (show ab + 2 * t < 5 by omega) (show b < 5 by omega) (show c < 5 by omega) z6
                unfold lvP at z5
                omega
            refine ⟨(((ab + 2 * t : Nat) : Int) + 2, wA D0 (o + 1) (fu f4 (ti i j (ab + 2 * t)) 0)), ?_, by show ((ab + 2 * t : Nat) : Int) + 2 = ((ab + 2 * (t + 1) : Nat) : Int); omega, _, rfl, ?_⟩
            · unfold X8_beLevel_b29 X8_beLevel_j65_29
              dsimp only
              simp (disch := omega) only [gd_pos, if_pos, if_neg, lt_pos, reduceIte]
              rw [bd_pos (ep 0), hE', wA_wI]
            · refine (hS4'.same (fun q => ⟨?_, ?_⟩)).zero _ nS (pre_lt (ti_lt (by omega) (by omega) (by omega)))
              · rintro (z | ⟨a, b, c, z1, z2, z3, z4, z5, z6⟩)
                · exact Or.inl z
                · refine Or.inr ⟨a, b, c, ?_, z2, z3, z4, z5, z6⟩
                  unfold lvP at z5
                  omega
              · rintro (z | ⟨a, b, c, z1, z2⟩)
                · exact Or.inl z
                · exact Or.inr ⟨a, b, c, by omega, z2⟩
        · obtain ⟨v, E⟩ := s
          obtain ⟨rfl, f4, hE, hS4⟩ := hI
          refine ⟨E, ?_, f4, hE, St.same hS4 (fun q => ⟨?_, ?_⟩)⟩
          · unfold X8_beLevel_b29
            dsimp only
            by_cases c2 : i + j < ab + 2 * ((mm - ab) / 2 + 1)
            · simp (disch := omega) only [gd_pos, if_pos, if_neg, lt_pos, reduceIte]
            · simp (disch := omega) only [gd_pos, if_pos, if_neg, lt_pos, reduceIte]
          · rintro (z | ⟨a, b, c, z1, z2, z3, z4, z5, z6⟩)
            · exact Or.inl z
            · refine Or.inr ⟨a, b, c, ?_, z2, z3, z4, z5, z6⟩
              unfold lvP at z5
              omega
          · rintro (z | ⟨a, b, c, z1, z2⟩)
            · exact Or.inl z
            · exact Or.inr ⟨a, b, c, by omega, z2⟩
      · obtain ⟨v, E⟩ := s
        obtain ⟨rfl, f3, hE, hS3⟩ := hI
        refine ⟨E, ?_, f3, hE, St.same hS3 (fun q => ⟨?_, ?_⟩)⟩
        · unfold X8_beLevel_b16
          simp (disch := omega) only [gd_pos, if_pos, if_neg, lt_pos, reduceIte]
        · rintro (z | ⟨a, b, c, z1, z2⟩)
          · exact Or.inl z
          · exact Or.inr ⟨a, b, c, by omega, z2⟩
        · rintro (z | ⟨a, b, c, z1, z2⟩)
          · exact Or.inl z
          · exact Or.inr ⟨a, b, c, by omega, z2⟩
    · obtain ⟨v, E⟩ := s
      obtain ⟨rfl, f2, hE, hS2⟩ := hI
      refine ⟨E, ?_, f2, hE, St.same hS2 (fun q => ⟨?_, ?_⟩)⟩
      · unfold X8_beLevel_b9
        simp (disch := omega) only [gd_pos, if_pos, if_neg, lt_pos, reduceIte]
      · rintro ⟨a, b, c, z1, z2, z3, z4, z5⟩
        exact Or.inr ⟨a, b, c, by omega, z1, z2, z3, z4, z5⟩
      · rintro (z | ⟨a, b, c, z1, z2, z3, z4, z5, z6⟩)
        · exact bgL q z
        · exact ⟨a, b, c, z2, z3, z4, z5, z6⟩
  obtain ⟨q, h1, f, h2, hU⟩ := main
  refine ⟨q, h1, f, h2, hU.out (fun q => ?_), fun i j k hi hj hk => ⟨fun z => by omega, fun _ => ⟨fun z => ?_, fun z => ?_⟩, fun z => by omega⟩⟩
  · rintro ⟨i, j, k, z1, z2, z3, z4, rfl⟩
    exact ti_lt (by omega) (by omega) (by omega)
  · exact (hU _).1 ⟨i, j, k, z.1, z.2.1, z.2.2.1, z.2.2.2, rfl⟩
  · rw [(hU _).2 ?_, pre_lt (ti_lt hi hj hk)]
    rintro ⟨a, b, c, y1, y2, y3, y4, y5⟩
    obtain ⟨rfl, rfl, rfl⟩ := ti_inj hj hk (show b < 5 by omega) (show c < 5 by omega) y5
    exact z ⟨y1, y2, y3, y4⟩

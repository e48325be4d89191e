/-! ===== tables made ===== -/
theorem St.zero {f0 f : Nat → Int} {S : Nat → Prop} (h : St f0 S f) (k : Nat) (hk : ¬ S k) (h0 : f0 k = 0) : St f0 S (fu f k 0) := fun q => by
  rw [fu_app]
  by_cases c : q = k
  · subst c; rw [if_pos rfl]; exact ⟨fun z => absurd z hk, fun _ => h0.symm⟩
  · rw [if_neg c]; exact h q
theorem ti_inj {i j k a b c : Nat} (hj : j < 5) (hk : k < 5) (hb : b < 5) (hc : c < 5) (h : ti i j k = ti a b c) : i = a ∧ j = b ∧ k = c := by unfold ti at h; omega
theorem x8_put {d : DA} {o i j k : Nat} {v : Int} (hi : i < 5) (hj : j < 5) (hk : k < 5) : X8_put o i j k v d = some ((), wI d (o + 1) (ti i j k) v) := by
  unfold X8_put
  rw [gd_pos (by omega), lt_pos, show (25 * (i : Int) + 5 * (j : Int) + (k : Int)).toNat = ti i j k by unfold ti; omega]
def bgS (r q : Nat) : Prop := ∃ j, j < r ∧ (q = ti 0 j j ∨ q = ti j 0 j)
theorem x8_begin {d : DA} {o r : Nat} (h5 : r ≤ 5) : ∃ q, X8_begin o r d = some q ∧ (∃ f, q.2 = wA (wI d o 0 r) (o + 1) f ∧ St (pre (d.1 (o + 1)) (fun _ => 0) 125) (bgS r) f) := by
  unfold X8_begin
  rw [lt_pos, bd_pos (fillI (by omega)), wI_ne (show o + 1 ≠ o by omega)]
  refine lpE_ev (fun i s => s.1 = (i : Int) ∧ ∃ f, s.2 = wA (wI d o 0 r) (o + 1) f ∧ St (pre (d.1 (o + 1)) (fun _ => 0) 125) (bgS i) f) (fun e => ∃ f, e = wA (wI d o 0 r) (o + 1) f ∧ St (pre (d.1 (o + 1)) (fun _ => 0) 125) (bgS r) f) r (by omega) ⟨rfl, _, rfl, St.none (fun q => by rintro ⟨j, h, -⟩; omega)⟩ (fun i s hi hI => ?_) (fun s hI => ?_) (fun e he => ⟨_, rfl, he⟩)
  · obtain ⟨v, D⟩ := s
    obtain ⟨rfl, f, hD, hS⟩ := hI
    have hD' : D = wA (wI d o 0 r) (o + 1) f := hD
    refine ⟨((i : Int) + 1, wA (wI d o 0 r) (o + 1) (fu (fu f (ti 0 i i) 1) (ti i 0 i) 1)), ?_, rfl, _, rfl, ?_⟩
    · unfold X8_begin_b15
      dsimp only
      have p1 : X8_put o 0 (i : Int) (i : Int) 1 D = some ((), wI D (o + 1) (ti 0 i i) 1) := x8_put (i := 0) (by omega) (by omega) (by omega)
      have p2 : ∀ D, X8_put o (i : Int) 0 (i : Int) 1 D = some ((), wI D (o + 1) (ti i 0 i) 1) := fun D => x8_put (j := 0) (by omega) (by omega) (by omega)
      rw [gd_pos (by omega), if_neg (by omega), bd_pos p1, bd_pos (p2 _), hD', wA_wI, wA_wI]
    · by_cases c : ti 0 i i = ti i 0 i
      · refine (hS.more (S' := bgS (i + 1)) (ti 0 i i) ⟨i, by omega, Or.inl rfl⟩ (fun q hq => ⟨?_, ?_⟩)).more (ti i 0 i) ⟨i, by omega, Or.inr rfl⟩ (fun q hq => Iff.rfl)
        · rintro ⟨j, h1, h2⟩
          by_cases e : j = i
          · subst e; rcases h2 with h2 | h2
            · exact absurd h2 hq
            · exact absurd (h2.trans c.symm) hq
          · exact ⟨j, by omega, h2⟩
        · rintro ⟨j, h1, h2⟩; exact ⟨j, by omega, h2⟩
      · refine (hS.more (S' := fun q => bgS i q ∨ q = ti 0 i i) (ti 0 i i) (Or.inr rfl) (fun q hq => ⟨fun z => z.resolve_right hq, Or.inl⟩)).more (ti i 0 i) ⟨i, by omega, Or.inr rfl⟩ (fun q hq => ⟨?_, ?_⟩)
        · rintro ⟨j, h1, h2⟩
          by_cases e : j = i
          · subst e; rcases h2 with h2 | h2
            · exact Or.inr h2
            · exact absurd h2 hq
          · exact Or.inl ⟨j, by omega, h2⟩
        · rintro (⟨j, h1, h2⟩ | h)
          · exact ⟨j, by omega, h2⟩
          · exact ⟨i, by omega, Or.inl h⟩
  · obtain ⟨v, D⟩ := s
    obtain ⟨rfl, f, hD, hS⟩ := hI
    refine ⟨D, ?_, f, hD, hS⟩
    unfold X8_begin_b15
    simp (disch := omega) only [gd_pos, if_pos, if_neg, lt_pos, reduceIte]
def gpS (n q : Nat) : Prop := ∃ i j, i < n ∧ j < n ∧ q = ti i j ((i + j) % n)
theorem x8_fillG {D0 : DA} {o n : Nat} {f : Nat → Int} (h5 : n ≤ 5) : ∃ q, X8_fillGroup o n (wA D0 (o + 1) f) = some q ∧ (∃ f', q.2 = wA D0 (o + 1) f' ∧ St f (gpS n) f') := by
  unfold X8_fillGroup
  refine lpE_ev (fun i s => s.1 = (i : Int) ∧ ∃ f', s.2 = wA D0 (o + 1) f' ∧ St f (fun q => ∃ a b, a < i ∧ b < n ∧ q = ti a b ((a + b) % n)) f') (fun e => ∃ f', e = wA D0 (o + 1) f' ∧ St f (gpS n) f') n (by omega) ⟨rfl, _, rfl, St.none (fun q => by rintro ⟨a, b, h, -⟩; omega)⟩ (fun i s hi hI => ?_) (fun s hI => ?_) (fun e he => ⟨_, rfl, he⟩)
  · obtain ⟨v, D⟩ := s
    obtain ⟨rfl, f1, hD, hS⟩ := hI
    unfold X8_fillGroup_b2
    dsimp only
    simp (disch := omega) only [gd_pos, if_pos, if_neg, lt_pos, reduceIte]
    refine lpE_evl (fun j s => s.1 = (j : Int) ∧ ∃ f', s.2 = wA D0 (o + 1) f' ∧ St f (fun q => ∃ a b, (a < i ∨ a = i ∧ b < j) ∧ b < n ∧ q = ti a b ((a + b) % n)) f') (fun e => ∃ f', e = wA D0 (o + 1) f' ∧ St f (fun q => ∃ a b, a < i + 1 ∧ b < n ∧ q = ti a b ((a + b) % n)) f') n (by omega) ⟨rfl, f1, hD, hS.same (fun q => ⟨by rintro ⟨a, b, h1, h2⟩; exact ⟨a, b, by omega, h2⟩, by rintro ⟨a, b, h1, h2⟩; exact ⟨a, b, by omega, h2⟩⟩)⟩ (fun j s hj hI => ?_) (fun s hI => ?_) (fun e he => ⟨_, rfl, rfl, he⟩)
    · obtain ⟨v, D⟩ := s
      obtain ⟨rfl, f2, hD, hS⟩ := hI
      have hD' : D = wA D0 (o + 1) f2 := hD
      have hm : (i + j) % n < 5 := by have := Nat.mod_lt (i + j) (show n > 0 by omega); omega
      have hmE : (n ≤ i + j → (i + j) % n = i + j - n) ∧ (i + j < n → (i + j) % n = i + j) := ⟨fun z => by rw [Nat.mod_eq_sub_mod z, Nat.mod_eq_of_lt (by omega)], fun z => Nat.mod_eq_of_lt z⟩
      refine ⟨((j : Int) + 1, wA D0 (o + 1) (fu f2 (ti i j ((i + j) % n)) 1)), ?_, rfl, _, rfl, ?_⟩
      · unfold X8_fillGroup_b9 X8_fillGroup_j37_9
        dsimp only
        have ep := x8_put (d := D) (o := o) (i := i) (j := j) (k := (i + j) % n) (v := 1) (by omega) (by omega) hm
        by_cases c : n ≤ i + j
        · have e2 : (((i + j) % n : Nat) : Int) = (i : Int) + (j : Int) - (n : Int) := by rw [hmE.1 c]; omega
          rw [e2] at ep
          simp (disch := omega) only [gd_pos, if_pos, if_neg, lt_pos, reduceIte]
          rw [bd_pos ep, hD', wA_wI]
        · have e2 : (((i + j) % n : Nat) : Int) = (i : Int) + (j : Int) := by rw [hmE.2 (by omega)]; omega
          rw [e2] at ep
          simp (disch := omega) only [gd_pos, if_pos, if_neg, lt_pos, reduceIte]
          rw [bd_pos ep, hD', wA_wI]
      · have hS' : St f (fun q => ∃ a b, (a < i ∨ a = i ∧ b < j) ∧ b < n ∧ q = ti a b ((a + b) % n)) f2 := hS
        refine hS'.more _ ⟨i, j, by omega, hj, rfl⟩ (fun q hq => ⟨?_, ?_⟩)
        · rintro ⟨a, b, h1, h2, h3⟩
          refine ⟨a, b, ?_, h2, h3⟩
          by_cases c : a = i ∧ b = j
          · obtain ⟨rfl, rfl⟩ := c; exact absurd h3 hq
          · omega
        · rintro ⟨a, b, h1, h2, h3⟩; exact ⟨a, b, by omega, h2, h3⟩
    · obtain ⟨v, D⟩ := s
      obtain ⟨rfl, f2, hD, hS⟩ := hI
      refine ⟨D, ?_, f2, hD, St.same hS (fun q => ⟨by rintro ⟨a, b, h1, h2, h3⟩; exact ⟨a, b, by omega, h2, h3⟩, by rintro ⟨a, b, h1, h2, h3⟩; exact ⟨a, b, by omega, h2, h3⟩⟩)⟩
      unfold X8_fillGroup_b9
      simp (disch := omega) only [gd_pos, if_pos, if_neg, lt_pos, reduceIte]
  · obtain ⟨v, D⟩ := s
    obtain ⟨rfl, f1, hD, hS⟩ := hI
    refine ⟨D, ?_, f1, hD, St.same hS (fun q => ⟨by rintro ⟨a, b, h1, h2, h3⟩; exact ⟨a, b, h1, h2, h3⟩, by rintro ⟨a, b, h1, h2, h3⟩; exact ⟨a, b, h1, h2, h3⟩⟩)⟩
    unfold X8_fillGroup_b2
    simp (disch := omega) only [gd_pos, if_pos, if_neg, lt_pos, reduceIte]
/-- what is made: a group, a level, a near group -/
def lvP (n i j k : Nat) : Prop := (i + j + k) % 2 = 0 ∧ i ≤ j + k ∧ j ≤ i + k ∧ k ≤ i + j ∧ i + j + k ≤ 2 * n
def Mk (w n : Nat) (m : Int) (f : Nat → Int) : Prop := ∀ i j k, i < 5 → j < 5 → k < 5 →
  (w = 0 → ((i < n ∧ j < n ∧ k = (i + j) % n) → f (ti i j k) = 1) ∧ (¬ (i < n ∧ j < n ∧ k = (i + j) % n) → f (ti i j k) = 0)) ∧
  (w = 1 → ((i ≤ n ∧ j ≤ n ∧ k ≤ n ∧ lvP n i j k) → f (ti i j k) = 1) ∧ (¬ (i ≤ n ∧ j ≤ n ∧ k ≤ n ∧ lvP n i j k) → f (ti i j k) = 0)) ∧
  (w = 2 → ((i = n ∧ j = n ∧ k = n) → f (ti i j k) = m) ∧ (((i = n ∧ j = n ∧ k < n) ∨ (i = n ∧ j < n ∧ k = n) ∨ (i < n ∧ j = n ∧ k = n) ∨ (i < n ∧ j < n ∧ k = (i + j) % n)) → f (ti i j k) = 1) ∧ (¬ (i = n ∧ j = n ∧ k = n) → ¬ ((i = n ∧ j = n ∧ k < n) ∨ (i = n ∧ j < n ∧ k = n) ∨ (i < n ∧ j = n ∧ k = n) ∨ (i < n ∧ j < n ∧ k = (i + j) % n)) → f (ti i j k) = 0))
theorem ti_lt {i j k : Nat} (hi : i < 5) (hj : j < 5) (hk : k < 5) : ti i j k < 125 := by unfold ti; omega
theorem St.out {f0 f g : Nat → Int} {S : Nat → Prop} (h : St (pre g f0 125) S f) (hS : ∀ q, S q → q < 125) : ∀ q, ¬ q < 125 → f q = g q := fun q hq => by rw [(h q).2 (fun z => hq (hS q z)), pre_ge hq]
theorem x8_group {d : DA} {o n : Nat} (h1 : 1 ≤ n) (h5 : n ≤ 5) : ∃ q, X8_beGroup o n d = some q ∧ (∃ f, q.2 = wA (wI d o 0 n) (o + 1) f ∧ (∀ q, ¬ q < 125 → f q = d.1 (o + 1) q) ∧ Mk 0 n 0 f) := by
  obtain ⟨⟨u, D⟩, e1, f1, hD, hS⟩ := x8_begin (d := d) (o := o) h5
  have hD' : D = wA (wI d o 0 n) (o + 1) f1 := hD
  obtain ⟨⟨u2, D2⟩, e2, f2, hD2, hS2⟩ := x8_fillG (D0 := wI d o 0 n) (o := o) (f := f1) h5
  unfold X8_beGroup
  rw [bd_pos e1, hD', bd_pos e2]
  have hU := hS.tr hS2 (S2 := gpS n) (fun q => ⟨Or.inr, by
    rintro (⟨j, z1, z2⟩ | z)
    · rcases z2 with rfl | rfl
      · exact ⟨0, j, by omega, z1, by rw [Nat.zero_add, Nat.mod_eq_of_lt z1]⟩
      · exact ⟨j, 0, z1, by omega, by rw [Nat.add_zero, Nat.mod_eq_of_lt z1]⟩
    · exact z⟩)
  refine ⟨_, rfl, f2, hD2, hU.out (fun q => ?_), fun i j k hi hj hk => ⟨fun _ => ⟨fun z => ?_, fun z => ?_⟩, fun z => by omega, fun z => by omega⟩⟩
  · rintro ⟨i, j, z1, z2, rfl⟩
    have := Nat.mod_lt (i + j) (show n > 0 by omega)
    exact ti_lt (by omega) (by omega) (by omega)
  · exact (hU _).1 ⟨i, j, z.1, z.2.1, by rw [← z.2.2]⟩
  · rw [(hU _).2 ?_, pre_lt (ti_lt hi hj hk)]
    rintro ⟨a, b, y1, y2, y3⟩
    have := Nat.mod_lt (a + b) (show n > 0 by omega)
    obtain ⟨rfl, rfl, y4⟩ := ti_inj hj hk (by omega) (by omega) y3
    exact z ⟨y1, y2, y4⟩

/-! ===== is a row a character ===== -/
theorem lpR_cna {R Y : Type} {b : Int → Option (Int ⊕ (Unit ⊕ R))} {k : Unit → Option Y} {j : R → Option Y} (a r : Nat) (P : Nat → Option R) (hr : r < 4000000) (hb : ∀ i : Nat, i < r → b ((a + i : Nat) : Int) = (P i).elim (some (.inl (((a + i : Nat) : Int) + 1))) (fun x => some (.inr (.inr x)))) (he : b ((a + r : Nat) : Int) = some (.inr (.inl ()))) : lpR b (a : Int) k j = (fs9 r P).elim (k ()) j :=
  lpR_for (fun i => ((a + i : Nat) : Int)) r P () rfl hr (fun i hi _ => by
    rw [hb i hi]
    cases P i with
    | none => rfl
    | some x => rfl) (fun _ => he)
/-- over kinds 1 .. u in two rows: 1 if all hold, else 0 -/
def al9 (u : Nat) (G : Nat → Nat → Prop) [∀ i j, Decidable (G i j)] : Option Int := fs9 u fun i => fs9 u fun j => if G (1 + i) (1 + j) then none else some 0
theorem al9_none {u : Nat} {G : Nat → Nat → Prop} [∀ i j, Decidable (G i j)] (h : al9 u G = none) : ∀ i j, 1 ≤ i → i ≤ u → 1 ≤ j → j ≤ u → G i j := fun i j h1 h2 h3 h4 => by
  unfold al9 at h
  have := (fs9_none _).mp ((fs9_none _).mp h (i - 1) (by omega)) (j - 1) (by omega)
  rw [show 1 + (i - 1) = i by omega, show 1 + (j - 1) = j by omega] at this
  by_cases c : G i j
  · exact c
  · rw [if_neg c] at this; cases this
theorem al9_some {u : Nat} {G : Nat → Nat → Prop} [∀ i j, Decidable (G i j)] {v : Int} (h : al9 u G = some v) : v = 0 ∧ ∃ i j, (1 ≤ i ∧ i ≤ u) ∧ (1 ≤ j ∧ j ≤ u) ∧ ¬ G i j := by
  unfold al9 at h
  obtain ⟨i, h1, h2, -⟩ := (fs9_some _).mp h
  obtain ⟨j, h3, h4, -⟩ := (fs9_some _).mp h2
  by_cases c : G (1 + i) (1 + j)
  · rw [if_pos c] at h4; cases h4
  · rw [if_neg c] at h4
    cases h4
    exact ⟨rfl, 1 + i, 1 + j, (by omega), (by omega), c⟩
/-- whether all that is told of N(i, j) lies at or before u -/
def tl9 (n : Nat → Int) (u i j : Nat) : Nat → Int
  | 0 => 1
  | m + 1 => if m ≤ u ∨ n (ti i j m) = 0 then tl9 n u i j m else 0
theorem tl9_01 {n : Nat → Int} {u i j : Nat} : ∀ m, tl9 n u i j m = 0 ∨ tl9 n u i j m = 1 := by
  intro m
  induction m with
  | zero => exact Or.inr rfl
  | succ m ih =>
    unfold tl9
    by_cases c : m ≤ u ∨ n (ti i j m) = 0
    · rw [if_pos c]; exact ih
    · rw [if_neg c]; exact Or.inl rfl
theorem tl9_1 {n : Nat → Int} {u i j : Nat} : ∀ m, tl9 n u i j m = 1 ↔ ∀ k, k < m → k ≤ u ∨ n (ti i j k) = 0 := by
  intro m
  induction m with
  | zero => exact ⟨fun _ k hk => absurd hk (Nat.not_lt_zero _), fun _ => rfl⟩
  | succ m ih =>
    unfold tl9
    by_cases c : m ≤ u ∨ n (ti i j m) = 0
    · rw [if_pos c, ih]
      constructor
      · intro h k hk
        by_cases e : k = m
        · rw [e]; exact c
        · exact h k (by omega)
      · intro h k hk; exact h k (by omega)
    · rw [if_neg c]
      constructor
      · intro h; cases h
      · intro h; exact absurd (h m (by omega)) c
def chT9 (n : Nat → Int) (u : Nat) (c : Nat → Int) (i j k : Nat) : Int := if k ≤ u then n (ti i j k) * c k else 0
def chG9 (n : Nat → Int) (r p u : Nat) (c : Nat → Int) (i j : Nat) : Prop := tl9 n u i j r = 0 ∨ (sm r (chT9 n u c i j) - c i * c j) % (p : Int) = 0
theorem x12_isC {d : DA} {n c : Nat → Int} {r p u : Nat} [∀ i j, Decidable (chG9 n r p u c i j)] (hT : TG n r) (h14 : d.1 114 = n) (hr : d.1 113 1 = r) (hp : d.1 113 4 = p) (h2 : 2 ≤ p) (h31 : p ≤ 31) (hu : u < r) (hc : ∀ k, k ≤ u → d.1 135 k = c k ∧ 0 ≤ c k ∧ c k < p) : X12_isCharacter 113 u d = (al9 u (chG9 n r p u c)).elim (some 1) some := by
  have h5 := hT.1.2
  unfold X12_isCharacter al9
  refine lpR_cna 1 u _ (by omega) (fun i hi => ?_) ?_
  · show X12_isCharacter_b2 113 u ((1 + i : Nat) : Int) d = _
    unfold X12_isCharacter_b2
    rw [gd_pos (by omega), if_neg (by omega)]
    refine (lpR_cna 1 u (fun j => if chG9 n r p u c (1 + i) (1 + j) then none else some 0) (by omega) (fun j hj => ?_) ?_).trans ?_
    · show X12_isCharacter_b9 113 u ((1 + i : Nat) : Int) ((1 + j : Nat) : Int) d = _
      unfold X12_isCharacter_b9
      rw [gd_pos (by omega), if_neg (by omega)]
      have nb : ∀ k, k < r → 0 ≤ n (ti (1 + i) (1 + j) k) ∧ n (ti (1 + i) (1 + j) k) ≤ 9 := fun k hk => hT.2.1 _ (ti_lt (by omega) (by omega) (by omega))
      have tb : ∀ k, k < r → 0 ≤ chT9 n u c (1 + i) (1 + j) k ∧ chT9 n u c (1 + i) (1 + j) k ≤ 270 := fun k hk => by
        unfold chT9
        by_cases ck : k ≤ u
        · rw [if_pos ck]
          have a := (hc k ck).2
          exact mlb9 (u := 9) (v := 30) (nb k hk) (by omega)
        · rw [if_neg ck]; omega
      have of : ∀ k, k < r → X12_of 113 ((1 + i : Nat) : Int) ((1 + j : Nat) : Int) k d = some (n (ti (1 + i) (1 + j) k)) := fun k hk => x12_of9 h14 (by omega) (by omega) (by omega)
      have ia : ∀ m, (iand9 (tl9 n u (1 + i) (1 + j) m) 1 = tl9 n u (1 + i) (1 + j) m) ∧ iand9 (tl9 n u (1 + i) (1 + j) m) 0 = 0 := fun m => by
        rcases tl9_01 (n := n) (u := u) (i := 1 + i) (j := 1 + j) m with e | e <;> rw [e] <;> exact ⟨by decide, by decide⟩
      refine (lpE_for (fun m => (sm m (chT9 n u c (1 + i) (1 + j)), tl9 n u (1 + i) (1 + j) m, (m : Int))) r (sm r (chT9 n u c (1 + i) (1 + j)), tl9 n u (1 + i) (1 + j) r) rfl (by omega) (fun m hm => ?_) ?_).trans ?_
      · show X12_isCharacter_b23 113 u ((1 + i : Nat) : Int) ((1 + j : Nat) : Int) (sm m (chT9 n u c (1 + i) (1 + j))) (tl9 n u (1 + i) (1 + j) m) (m : Int) d = some (.inl (sm m (chT9 n u c (1 + i) (1 + j)) + chT9 n u c (1 + i) (1 + j) m, tl9 n u (1 + i) (1 + j) (m + 1), ((m + 1 : Nat) : Int)))
        have nbm := nb m hm
        unfold X12_isCharacter_b23 X12_isCharacter_j51_23 X12_isCharacter_j56_23
        rw [hr, gd_pos (by omega), if_neg (by omega), gd_pos (by omega)]
        by_cases c1 : m ≤ u
        · have hd : d.1 (113 + 22) m = c m := (hc m c1).1
          have et : chT9 n u c (1 + i) (1 + j) m = n (ti (1 + i) (1 + j) m) * c m := if_pos c1
          have eu : tl9 n u (1 + i) (1 + j) (m + 1) = tl9 n u (1 + i) (1 + j) m := if_pos (Or.inl c1)
          rw [if_pos (by omega), lt_pos, (ia m).1, gd_pos (by omega), if_neg (by omega), b1_pos (of m hm), gd_pos (by omega), lt_pos, Int.toNat_natCast, hd, et, eu]
          rfl
        · have et : chT9 n u c (1 + i) (1 + j) m = 0 := if_neg c1
          rw [if_neg (by omega), b1_pos (of m hm), gd_pos (by omega)]
          by_cases c2 : n (ti (1 + i) (1 + j) m) = 0
          · have eu : tl9 n u (1 + i) (1 + j) (m + 1) = tl9 n u (1 + i) (1 + j) m := if_pos (Or.inr c2)
            rw [if_pos c2, lt_pos, (ia m).1, gd_pos (by omega), if_pos (by omega), et, eu, Int.add_zero]
            rfl
          · have eu : tl9 n u (1 + i) (1 + j) (m + 1) = 0 := if_neg (fun z => by rcases z with z | z; exact c1 z; exact c2 z)
            rw [if_neg c2, lt_pos, (ia m).2, gd_pos (by omega), if_pos (by omega), et, eu, Int.add_zero]
            rfl
      · show X12_isCharacter_b23 113 u ((1 + i : Nat) : Int) ((1 + j : Nat) : Int) (sm r (chT9 n u c (1 + i) (1 + j))) (tl9 n u (1 + i) (1 + j) r) (r : Int) d = _
        unfold X12_isCharacter_b23
        rw [hr, gd_pos (by omega), if_pos (by omega)]
      · show X12_isCharacter_j92_9 113 u ((1 + i : Nat) : Int) ((1 + j : Nat) : Int) (sm r (chT9 n u c (1 + i) (1 + j))) (tl9 n u (1 + i) (1 + j) r) d = _
        unfold X12_isCharacter_j92_9
        have sb := sm_bd (lo := 0) (hi := 270) r tb
        have di : d.1 (113 + 22) (1 + i) = c (1 + i) := (hc (1 + i) (by omega)).1
        have dj : d.1 (113 + 22) (1 + j) = c (1 + j) := (hc (1 + j) (by omega)).1
        have bi := (hc (1 + i) (by omega)).2
        have bj := (hc (1 + j) (by omega)).2
        have mb := mlb9 (u := 30) (v := 30) (show 0 ≤ c (1 + i) ∧ c (1 + i) ≤ 30 by omega) (show 0 ≤ c (1 + j) ∧ c (1 + j) ≤ 30 by omega)
        have hr3 : (r : Int) * 270 ≤ 1350 := by omega
        generalize hS : sm r (chT9 n u c (1 + i) (1 + j)) = S at sb
        have b := tm_bd (show 0 < p by omega) (S - c (1 + i) * c (1 + j))
        have t01 := tl9_01 (n := n) (u := u) (i := 1 + i) (j := 1 + j) r
        rw [gd_pos (by omega)]
        by_cases c1 : tl9 n u (1 + i) (1 + j) r = 0
        · rw [if_pos c1, if_pos (show chG9 n r p u c (1 + i) (1 + j) from Or.inl c1)]
          rfl
        · rw [if_neg c1, gd_pos (by omega), gd_pos (by omega), Int.toNat_natCast, Int.toNat_natCast, di, dj, hp, gd_pos (by unfold dvg; omega), gd_pos (by omega)]
          by_cases c2 : Int.tmod (S - c (1 + i) * c (1 + j)) (p : Int) = 0
          · have c3 : (S - c (1 + i) * c (1 + j)) % (p : Int) = 0 := by
              have := tm_iff.mp c2
              unfold cgm at this
              rw [Int.sub_zero] at this
              exact Int.emod_eq_zero_of_dvd this
            rw [if_pos c2, if_pos (show chG9 n r p u c (1 + i) (1 + j) from Or.inr (by rw [hS]; exact c3))]
            rfl
          · rw [if_neg c2, if_neg (fun z : chG9 n r p u c (1 + i) (1 + j) => by
              rcases z with z | z
              · exact c1 z
              · rw [hS] at z
                refine c2 (tm_iff.mpr ?_)
                unfold cgm
                rw [Int.sub_zero]
                exact Int.dvd_of_emod_eq_zero z)]
            rfl
    · show X12_isCharacter_b9 113 u ((1 + i : Nat) : Int) ((1 + u : Nat) : Int) d = _
      unfold X12_isCharacter_b9
      rw [gd_pos (by omega), if_pos (by omega)]
    · cases fs9 u (fun j => if chG9 n r p u c (1 + i) (1 + j) then none else some (0 : Int)) <;> rfl
  · show X12_isCharacter_b2 113 u ((1 + u : Nat) : Int) d = _
    unfold X12_isCharacter_b2
    rw [gd_pos (by omega), if_pos (by omega)]
/-- what the reference's check says of characters -/
theorem x12_isCh {d : DA} {n c : Nat → Int} {r p u : Nat} (hT : TG n r) (h14 : d.1 114 = n) (hr : d.1 113 1 = r) (hp : d.1 113 4 = p) (h2 : 2 ≤ p) (h31 : p ≤ 31) (hu : u < r) (hc : ∀ k, k ≤ u → d.1 135 k = c k ∧ 0 ≤ c k ∧ c k < p) : (X12_isCharacter 113 u d = some 0 ∧ ∀ c', isCh n r p c' → ¬ ∀ k, k ≤ u → c' k = c k) ∨ (X12_isCharacter 113 u d = some 1 ∧ (u = r - 1 → c 0 = 1 → isCh n r p c)) := by
  have dec : ∀ i j, Decidable (chG9 n r p u c i j) := fun i j => Classical.propDecidable _
  have e := x12_isC hT h14 hr hp h2 h31 hu hc
  cases h : al9 u (chG9 n r p u c) with
  | none =>
    right
    rw [h] at e
    refine ⟨e, fun h1 h0 => ⟨h0, fun k hk => (hc k (by omega)).2, fun i j hi hi2 hj hj2 => ?_⟩⟩
    have g := al9_none h i j hi (by omega) hj (by omega)
    rcases g with g | g
    · exfalso
      have := (tl9_1 (n := n) (u := u) (i := i) (j := j) r).mpr (fun k hk => Or.inl (by omega))
      omega
    · have e1 : sm r (chT9 n u c i j) = chS n r c i j := sm_congr r (fun k hk => by unfold chT9; rw [if_pos (by omega)])
      rw [e1] at g
      exact Int.dvd_of_emod_eq_zero g
  | some v =>
    left
    rw [h] at e
    obtain ⟨hv, i, j, hi, hj, hG⟩ := al9_some h
    rw [hv] at e
    refine ⟨e, fun c' hc' ha => hG ?_⟩
    by_cases t : tl9 n u i j r = 0
    · exact Or.inl t
    · right
      have t1 := (tl9_1 (n := n) (u := u) (i := i) (j := j) r).mp (by have := tl9_01 (n := n) (u := u) (i := i) (j := j) r; omega)
      have e1 : sm r (chT9 n u c i j) = chS n r c' i j := sm_congr r (fun k hk => by
        unfold chT9
        by_cases ck : k ≤ u
        · rw [if_pos ck, ha k ck]
        · rw [if_neg ck]
          rcases t1 k hk with z | z
          · exact absurd z ck
          · rw [z, Int.zero_mul])
      rw [e1, ← ha i (by omega), ← ha j (by omega)]
      exact Int.emod_eq_zero_of_dvd (hc'.2.2 i j hi.1 (by omega) hj.1 (by omega))

/-! ===== fault, fuses, law, dual, size, ways in the law ===== -/
theorem fs9_P {α : Type} {P : Nat → Option α} {Q : α → Prop} {n : Nat} {x : α} (h : fs9 n P = some x) (hP : ∀ i y, i < n → P i = some y → Q y) : Q x := by
  obtain ⟨i, h1, h2, -⟩ := (fs9_some n).mp h
  exact hP i x h1 h2
theorem law1_bd {d : DA} {o r : Nat} (h5 : r ≤ 5) {z : Int} (h : law1 d o r = some z) : 0 ≤ z ∧ z ≤ 624 := by
  refine fs9_P (Q := fun z => 0 ≤ z ∧ z ≤ 624) h (fun i y hi h => fs9_P (Q := fun z => 0 ≤ z ∧ z ≤ 624) h (fun j y hj h => fs9_P (Q := fun z => 0 ≤ z ∧ z ≤ 624) h (fun k y hk h => fs9_P (Q := fun z => 0 ≤ z ∧ z ≤ 624) h (fun l y hl h => ?_))))
  split at h
  · cases h
  · have e := Option.some.inj h
    unfold cd4 at e
    omega
theorem law2_bd {d : DA} {o r : Nat} (h5 : r ≤ 5) {z : Int} (h : law2 d o r = some z) : 0 ≤ z ∧ z ≤ 624 := by
  refine fs9_P (Q := fun z => 0 ≤ z ∧ z ≤ 624) h (fun i y hi h => fs9_P (Q := fun z => 0 ≤ z ∧ z ≤ 624) h (fun j y hj h => fs9_P (Q := fun z => 0 ≤ z ∧ z ≤ 624) h (fun k y hk h => ?_)))
  split at h
  · cases h
  · have e := Option.some.inj h
    unfold cd3 at e
    omega
theorem law3_bd {d : DA} {o r : Nat} (h5 : r ≤ 5) {z : Int} (h : law3 d o r = some z) : 0 ≤ z ∧ z ≤ 624 := by
  refine fs9_P (Q := fun z => 0 ≤ z ∧ z ≤ 624) h (fun i y hi h => fs9_P (Q := fun z => 0 ≤ z ∧ z ≤ 624) h (fun j y hj h => fs9_P (Q := fun z => 0 ≤ z ∧ z ≤ 624) h (fun k y hk h => ?_)))
  split at h
  · cases h
  · have e := Option.some.inj h
    unfold cd3 at e
    omega
theorem fwd_bd {d : DA} {o r i : Nat} (h : fwd d o r = some i) : i < r := by
  obtain ⟨q, h1, h2, -⟩ := (fs9_some r).mp h
  split at h2
  · have := Option.some.inj h2; omega
  · cases h2
theorem fwd_eq {d d' : DA} {o o' r : Nat} (h : nn d o = nn d' o') : fwd d o r = fwd d' o' r := by unfold fwd noD; rw [h]
theorem law1_eq {d d' : DA} {o o' r : Nat} (h : nn d o = nn d' o') : law1 d o r = law1 d' o' r := by unfold law1 asL asR; rw [h]
theorem law2_eq {d d' : DA} {o o' r : Nat} (h : nn d o = nn d' o') : law2 d o r = law2 d' o' r := by unfold law2; rw [h]
theorem law3_eq {d d' : DA} {o o' r : Nat} (h : nn d o = nn d' o') : law3 d o r = law3 d' o' r := by unfold law3; rw [h]
/-- the answer of law -/
def lawV (d : DA) (o r : Nat) (v : Int) : Int := if v = 0 then (fwd d o r).elim (-1) (fun i => 125 * (i : Int)) else if v = 1 then (law1 d o r).elim (-1) id else if v = 2 then (law2 d o r).elim (-1) id else (fwd d o r).elim ((law3 d o r).elim (-1) id) (fun _ => -1)
theorem lawV_eq {d d' : DA} {o o' r : Nat} {v : Int} (h : nn d o = nn d' o') : lawV d o r v = lawV d' o' r v := by unfold lawV; rw [fwd_eq h, law1_eq h, law2_eq h, law3_eq h]
theorem lawV_bd {d : DA} {o r : Nat} {v : Int} (h5 : r ≤ 5) : -1 ≤ lawV d o r v ∧ lawV d o r v ≤ 624 := by
  have h3 : -1 ≤ (law3 d o r).elim (-1) id ∧ (law3 d o r).elim (-1) id ≤ 624 := by
    cases hl : law3 d o r with
    | none => show -1 ≤ (-1 : Int) ∧ (-1 : Int) ≤ 624; omega
    | some z => have := law3_bd h5 hl; show -1 ≤ z ∧ z ≤ 624; omega
  unfold lawV
  split
  · cases hf : fwd d o r with
    | none => show -1 ≤ (-1 : Int) ∧ (-1 : Int) ≤ 624; omega
    | some i => have := fwd_bd hf; show -1 ≤ 125 * (i : Int) ∧ 125 * (i : Int) ≤ 624; omega
  · split
    · cases hl : law1 d o r with
      | none => show -1 ≤ (-1 : Int) ∧ (-1 : Int) ≤ 624; omega
      | some z => have := law1_bd h5 hl; show -1 ≤ z ∧ z ≤ 624; omega
    · split
      · cases hl : law2 d o r with
        | none => show -1 ≤ (-1 : Int) ∧ (-1 : Int) ≤ 624; omega
        | some z => have := law2_bd h5 hl; show -1 ≤ z ∧ z ≤ 624; omega
      · cases hf : fwd d o r with
        | none => exact h3
        | some i => show -1 ≤ (-1 : Int) ∧ (-1 : Int) ≤ 624; omega
theorem duD_sm {d : DA} {r i : Nat} : Sm d (duD d 5 r i) := Sm.wA (fun _ => rfl)
theorem c_law {x : XS} {v : Int} (hv : inR v) {r : Nat} (hr : x.1.1 5 0 = r) (h5 : r ≤ 5) (hn : Nb x.1 5) : (0 ≤ v ∧ v ≤ 3 → ∃ x2, Ans (X11_law v x) x 1 0 (lawV x.1 5 r v) x2 ∧ Kp x x2) ∧ (¬ (0 ≤ v ∧ v ≤ 3) → Ans (X11_law v x) x 1 1 0 (xT x)) := by
  have ef := x8_fwd hr h5 hn
  unfold X11_law
  refine ⟨fun z => ?_, fun z => ⟨Or.inr ⟨rfl, ?_⟩, Nat.le_succ _, Nat.le_add_right _ _⟩⟩
  · rw [gd_pos hv]
    unfold lawV
    by_cases c0 : v = 0
    · rw [if_pos c0, if_pos c0]
      cases hf : fwd x.1 5 r with
      | none =>
        rw [hf] at ef
        rw [bd_pos ef, lt_pos]
        simp (disch := omega) only [gd_pos, if_pos, if_neg, lt_pos, reduceIte]
        exact ⟨_, ⟨Or.inl ⟨rfl, rfl⟩, Nat.le_refl _, Nat.le_refl _⟩, Kp.D duD_sm⟩
      | some i =>
        have := fwd_bd hf
        rw [hf] at ef
        rw [bd_pos ef, lt_pos]
        simp (disch := omega) only [gd_pos, if_pos, if_neg, lt_pos, reduceIte]
        exact ⟨_, ⟨Or.inl ⟨rfl, rfl⟩, Nat.le_refl _, Nat.le_refl _⟩, Kp.D duD_sm⟩
    · rw [if_neg c0, if_neg c0]
      by_cases c1 : v = 1
      · rw [if_pos c1, if_pos c1]
        have e := x8_law1 hr h5 hn
        have e' : X8_firstNotAssociative 5 x.1 = some ((law1 x.1 5 r).elim (-1) id) := by rw [e]; cases law1 x.1 5 r <;> rfl
        rw [b1_pos e']
        exact ⟨_, ⟨Or.inl ⟨rfl, rfl⟩, Nat.le_refl _, Nat.le_refl _⟩, Kp.rf _⟩
      · rw [if_neg c1, if_neg c1]
        by_cases c2 : v = 2
        · rw [if_pos c2, if_pos c2]
          have e := x8_law2 hr h5 hn
          have e' : X8_firstNotCommutative 5 x.1 = some ((law2 x.1 5 r).elim (-1) id) := by rw [e]; cases law2 x.1 5 r <;> rfl
          rw [b1_pos e']
          exact ⟨_, ⟨Or.inl ⟨rfl, rfl⟩, Nat.le_refl _, Nat.le_refl _⟩, Kp.rf _⟩
        · rw [if_neg c2, if_neg c2, if_pos (by omega)]
          have e := x8_law3 hr h5 hn
          cases hf : fwd x.1 5 r with
          | none =>
            rw [hf] at e
            rw [bd_pos e, lt_pos]
            exact ⟨_, ⟨Or.inl ⟨rfl, rfl⟩, Nat.le_refl _, Nat.le_refl _⟩, Kp.D duD_sm⟩
          | some i =>
            rw [hf] at e
            rw [bd_pos e, lt_pos]
            exact ⟨_, ⟨Or.inl ⟨rfl, rfl⟩, Nat.le_refl _, Nat.le_refl _⟩, Kp.D duD_sm⟩
  · simp (disch := omega) only [gd_pos, if_pos, if_neg, lt_pos, reduceIte]
theorem m_law {d : DA} {v : Int} (hv : inR v) {r : Nat} (hr : d.1 113 1 = r) (h5 : r ≤ 5) (hn : Nb d 113) : (0 ≤ v ∧ v ≤ 3 → MA (X12_law 113 v d) d 0 (lawV d 113 r v)) ∧ (¬ (0 ≤ v ∧ v ≤ 3) → MA (X12_law 113 v d) d 1 0) := by
  have hS : Sm d (wI d 113 0 0) := Sm.wI rfl
  have hr0 : (wI d 113 0 0).1 113 1 = r := hr
  have hn0 : Nb (wI d 113 0 0) 113 := hn
  have hV : ∀ v, lawV (wI d 113 0 0) 113 r v = lawV d 113 r v := fun v => lawV_eq rfl
  have hI := x12_isIn (d := wI d 113 0 0) (v := v) (a := 0) (b := 3) hv (by omega) (by omega)
  have ef := x12_fwd hr0 h5 hn0
  unfold X12_law
  rw [lt_pos]
  refine ⟨fun z => ?_, fun z => ?_⟩
  · rw [b1_pos (hI.1 z), gd_pos (by omega), if_neg (by decide), ← hV]
    have key : X12_firstBroken 113 v (wI d 113 0 0) = some (lawV (wI d 113 0 0) 113 r v) := by
      unfold X12_firstBroken X12_firstBroken_j17 lawV
      rcases (show v = 0 ∨ v = 1 ∨ v = 2 ∨ v = 3 by omega) with rfl | rfl | rfl | rfl
      · simp (disch := omega) only [gd_pos, if_pos, if_neg, lt_pos, reduceIte]
        rw [ef]
        cases fwd (wI d 113 0 0) 113 r <;> rfl
      · simp (disch := omega) only [gd_pos, if_pos, if_neg, lt_pos, reduceIte]
        rw [x12_broken hr0 h5 hn0 1 (Or.inl rfl)]
        simp (disch := omega) only [gd_pos, if_pos, if_neg, lt_pos, reduceIte]
        cases law1 (wI d 113 0 0) 113 r <;> rfl
      · simp (disch := omega) only [gd_pos, if_pos, if_neg, lt_pos, reduceIte]
        rw [x12_broken hr0 h5 hn0 2 (Or.inr (Or.inl rfl))]
        simp (disch := omega) only [gd_pos, if_pos, if_neg, lt_pos, reduceIte]
        cases law2 (wI d 113 0 0) 113 r <;> rfl
      · simp (disch := omega) only [gd_pos, if_pos, if_neg, lt_pos, reduceIte]
        cases hf : fwd (wI d 113 0 0) 113 r with
        | none =>
          have ef' : X12_firstWithoutDual 113 (wI d 113 0 0) = some (-1) := by rw [ef, hf]; rfl
          rw [b1_pos ef']
          simp (disch := omega) only [gd_pos, if_pos, if_neg, lt_pos, reduceIte]
          rw [x12_broken hr0 h5 hn0 3 (Or.inr (Or.inr ⟨rfl, hf⟩))]
          simp (disch := omega) only [gd_pos, if_pos, if_neg, lt_pos, reduceIte]
          cases law3 (wI d 113 0 0) 113 r <;> rfl
        | some i =>
          have := fwd_bd hf
          have ef' : X12_firstWithoutDual 113 (wI d 113 0 0) = some (125 * (i : Int)) := by rw [ef, hf]; rfl
          rw [b1_pos ef']
          simp (disch := omega) only [gd_pos, if_pos, if_neg, lt_pos, reduceIte]
          rfl
    rw [b1_pos key]
    exact ⟨_, rfl, rfl, hS, rfl⟩
  · rw [b1_pos (hI.2 z)]
    simp (disch := omega) only [gd_pos, if_pos, if_neg, lt_pos, reduceIte]
    rw [bd_pos m_fail]
    exact ⟨_, rfl, rfl, hS.tr (Sm.wI rfl), rfl⟩

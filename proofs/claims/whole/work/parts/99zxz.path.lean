/-! ===== kinds that fit, told in a row ===== -/
def cn9 (P : Nat → Bool) : Nat → Nat
  | 0 => 0
  | m + 1 => cn9 P m + if P m = true then 1 else 0
def Pl9 (P : Nat → Bool) (m : Nat) (f : Nat → Int) : Prop := ∀ x, x < m → P x = true → f (cn9 P x) = (x : Int)
theorem cn9_le {P : Nat → Bool} : ∀ m, cn9 P m ≤ m := by
  intro m
  induction m with
  | zero => exact Nat.le_refl _
  | succ m ih => unfold cn9; split <;> omega
theorem cn9_mono {P : Nat → Bool} {x : Nat} : ∀ m, x ≤ m → cn9 P x ≤ cn9 P m := by
  intro m
  induction m with
  | zero => intro h; rw [show x = 0 by omega]; exact Nat.le_refl _
  | succ m ih =>
    intro h
    by_cases c : x = m + 1
    · rw [c]; exact Nat.le_refl _
    · have := ih (by omega)
      show cn9 P x ≤ cn9 P m + if P m = true then 1 else 0
      omega
theorem cn9_lt {P : Nat → Bool} {x m : Nat} (h : x < m) (hp : P x = true) : cn9 P x < cn9 P m := by
  have := cn9_mono (P := P) (x := x + 1) m h
  have e : cn9 P (x + 1) = cn9 P x + 1 := by
    show cn9 P x + (if P x = true then 1 else 0) = _
    rw [if_pos hp]
  omega
theorem cn9_ex {P : Nat → Bool} {i : Nat} : ∀ m, i < cn9 P m → ∃ x, x < m ∧ P x = true ∧ cn9 P x = i := by
  intro m
  induction m with
  | zero => intro h; exact absurd h (Nat.not_lt_zero _)
  | succ m ih =>
    intro h
    by_cases c : i < cn9 P m
    · obtain ⟨x, h1, h2, h3⟩ := ih c
      exact ⟨x, (by omega), h2, h3⟩
    · have h' : i < cn9 P m + if P m = true then 1 else 0 := h
      by_cases hp : P m = true
      · rw [if_pos hp] at h'
        exact ⟨m, (by omega), hp, (by omega)⟩
      · rw [if_neg hp] at h'
        omega
theorem Pl9.put {P : Nat → Bool} {m : Nat} {f : Nat → Int} (h : Pl9 P m f) (hp : P m = true) : Pl9 P (m + 1) (fu f (cn9 P m) (m : Int)) := fun x hx hpx => by
  by_cases c : x = m
  · rw [c, fu_app, if_pos rfl]
  · have := cn9_lt (P := P) (x := x) (m := m) (by omega) hpx
    rw [fu_app, if_neg (by omega)]
    exact h x (by omega) hpx
theorem Pl9.skip {P : Nat → Bool} {m : Nat} {f : Nat → Int} (h : Pl9 P m f) (hp : P m ≠ true) : Pl9 P (m + 1) f := fun x hx hpx => by
  by_cases c : x = m
  · rw [c] at hpx; exact absurd hpx hp
  · exact h x (by omega) hpx
theorem cn9_s {P : Nat → Bool} {m : Nat} : cn9 P (m + 1) = cn9 P m + if P m = true then 1 else 0 := rfl
/-- the i-th that fits -/
theorem Pl9.at {P : Nat → Bool} {m : Nat} {f : Nat → Int} (h : Pl9 P m f) {i : Nat} (hi : i < cn9 P m) : ∃ x, x < m ∧ P x = true ∧ f i = (x : Int) ∧ cn9 P x = i := by
  obtain ⟨x, h1, h2, h3⟩ := cn9_ex m hi
  exact ⟨x, h1, h2, by rw [← h3]; exact h x h1 h2, h3⟩
theorem cn9_inj {P : Nat → Bool} {x y : Nat} (hx : P x = true) (hy : P y = true) (h : cn9 P x = cn9 P y) : x = y := by
  rcases Nat.lt_or_ge x y with c | c
  · have := cn9_lt c hx; omega
  · rcases Nat.lt_or_ge y x with c2 | c2
    · have := cn9_lt c2 hy; omega
    · omega
/-- the kind that fits as the i-th -/
def pk9 (P : Nat → Bool) (m i : Nat) : Nat := (fs9 m fun x => if P x = true ∧ cn9 P x = i then some x else none).getD 0
theorem pk9_at {P : Nat → Bool} {m x : Nat} (hx : x < m) (hp : P x = true) : pk9 P m (cn9 P x) = x := by
  unfold pk9
  have : fs9 m (fun y => if P y = true ∧ cn9 P y = cn9 P x then some y else none) = some x := (fs9_some m).mpr ⟨x, hx, if_pos ⟨hp, rfl⟩, fun j hj => if_neg (fun z => by
    have := cn9_inj z.1 hp z.2
    omega)⟩
  rw [this]; rfl
theorem pk9_ok {P : Nat → Bool} {m i : Nat} (hi : i < cn9 P m) : pk9 P m i < m ∧ P (pk9 P m i) = true ∧ cn9 P (pk9 P m i) = i := by
  obtain ⟨x, h1, h2, h3⟩ := cn9_ex m hi
  have := pk9_at h1 h2
  rw [h3] at this
  rw [this]
  exact ⟨h1, h2, h3⟩
theorem Pl9.pk {P : Nat → Bool} {m : Nat} {f : Nat → Int} (h : Pl9 P m f) {i : Nat} (hi : i < cn9 P m) : f i = (pk9 P m i : Int) := by
  obtain ⟨h1, h2, h3⟩ := pk9_ok hi
  have := h _ h1 h2
  rw [h3] at this
  exact this

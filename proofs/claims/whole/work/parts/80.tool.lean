/-! ===== the pure law: loops by their states ===== -/
theorem gd_pos {α : Type} {c : Prop} [Decidable c] {k : Option α} (h : c) : gd c k = k := if_pos h
theorem bd_pos {α β δ : Type} {o : Option (α × δ)} {k : α → δ → Option β} {a : α} {d : δ} (h : o = some (a, d)) : bd o k = k a d := by rw [h]; rfl
theorem b1_pos {α β : Type} {o : Option α} {k : α → Option β} {a : α} (h : o = some a) : b1 o k = k a := by rw [h]; rfl
theorem lt_pos {α β : Type} {a : α} {k : α → Option β} : lt9 a k = k a := rfl
/-- the first answer -/
def fs9 {α : Type} : Nat → (Nat → Option α) → Option α
  | 0, _ => none
  | n + 1, P => match fs9 n P with
    | some x => some x
    | none => P n
theorem fs9_none {α : Type} {P : Nat → Option α} : ∀ n, fs9 n P = none ↔ ∀ i, i < n → P i = none := by
  intro n
  induction n with
  | zero => simp [fs9]
  | succ n ih =>
    unfold fs9
    split
    · next x hx =>
      constructor
      · intro h; cases h
      · intro h
        have := ih.mpr (fun i hi => h i (by omega))
        rw [this] at hx; cases hx
    · next hx =>
      constructor
      · intro h i hi
        by_cases e : i = n
        · subst e; exact h
        · exact ih.mp hx i (by omega)
      · intro h; exact h n (by omega)
theorem fs9_some {α : Type} {P : Nat → Option α} {x : α} : ∀ n, fs9 n P = some x ↔ ∃ i, i < n ∧ P i = some x ∧ ∀ j, j < i → P j = none := by
  intro n
  induction n with
  | zero => simp [fs9]
  | succ n ih =>
    unfold fs9
    split
    · next y hy =>
      constructor
      · intro h; cases h
        obtain ⟨i, h1, h2, h3⟩ := ih.mp hy
        exact ⟨i, by omega, h2, h3⟩
      · rintro ⟨i, h1, h2, h3⟩
        by_cases e : i = n
        · subst e
          have := (fs9_none i).mpr h3
          rw [this] at hy; cases hy
        · rw [← hy]; exact ih.mpr ⟨i, by omega, h2, h3⟩
    · next hy =>
      constructor
      · intro h
        exact ⟨n, by omega, h, (fs9_none n).mp hy⟩
      · rintro ⟨i, h1, h2, h3⟩
        by_cases e : i = n
        · subst e; exact h2
        · have := (fs9_none n).mp hy i (by omega)
          rw [this] at h2; cases h2
theorem fs9_congr {α : Type} {P Q : Nat → Option α} : ∀ n, (∀ i, i < n → P i = Q i) → fs9 n P = fs9 n Q := by
  intro n
  induction n with
  | zero => intro _; rfl
  | succ n ih =>
    intro h
    unfold fs9
    rw [ih (fun i hi => h i (by omega)), h n (by omega)]
theorem wl_for {S X : Type} {b : S → Option (S ⊕ X)} (s : Nat → S) (r : Nat) (x : X) (hb : ∀ i, i < r → b (s i) = some (.inl (s (i + 1)))) (he : b (s r) = some (.inr x)) : ∀ n i, i ≤ r → r - i < n → wl9 b n (s i) = some x := by
  intro n
  induction n with
  | zero => intro i _ h; omega
  | succ n ih =>
    intro i hi hn
    unfold wl9
    by_cases e : i = r
    · subst e; rw [he]
    · rw [hb i (by omega)]
      exact ih (i + 1) (by omega) (by omega)
theorem lpE_for {S E Y : Type} {b : S → Option (S ⊕ E)} {k : E → Option Y} {s0 : S} (s : Nat → S) (r : Nat) (e : E) (h0 : s0 = s 0) (hr : r < 4000000) (hb : ∀ i, i < r → b (s i) = some (.inl (s (i + 1)))) (he : b (s r) = some (.inr e)) : lpE b s0 k = k e := by
  subst h0
  unfold lpE
  rw [wl_for s r e hb he FUEL 0 (Nat.zero_le _) (by unfold FUEL; omega)]
theorem lpR_for {S E R Y : Type} {b : S → Option (S ⊕ (E ⊕ R))} {k : E → Option Y} {j : R → Option Y} {s0 : S} (s : Nat → S) (r : Nat) (P : Nat → Option R) (e : E) (h0 : s0 = s 0) (hr : r < 4000000)
    (hb : ∀ i, i < r → (∀ i', i' < i → P i' = none) → b (s i) = (P i).elim (some (.inl (s (i + 1)))) (fun x => some (.inr (.inr x))))
    (he : (∀ i, i < r → P i = none) → b (s r) = some (.inr (.inl e))) : lpR b s0 k j = (fs9 r P).elim (k e) j := by
  subst h0
  unfold lpR
  cases hf : fs9 r P with
  | none =>
    have hn := (fs9_none r).mp hf
    rw [wl_for s r (.inl e) (fun i hi => by rw [hb i hi (fun i' hi' => hn i' (by omega)), hn i hi]; rfl) (he hn) FUEL 0 (Nat.zero_le _) (by unfold FUEL; omega)]
    rfl
  | some x =>
    obtain ⟨q, h1, h2, h3⟩ := (fs9_some r).mp hf
    rw [wl_for s q (.inr x) (fun i hi => by rw [hb i (by omega) (fun i' hi' => h3 i' (by omega)), h3 i hi]; rfl) (by rw [hb q h1 h3, h2]; rfl) FUEL 0 (Nat.zero_le _) (by unfold FUEL; omega)]
    rfl
/-- a search by one counter, nothing else changes -/
theorem lpR_cnt {R Y : Type} {b : Int → Option (Int ⊕ (Unit ⊕ R))} {k : Unit → Option Y} {j : R → Option Y} (r : Nat) (P : Nat → Option R) (hr : r < 4000000)
    (hb : ∀ i : Nat, i < r → b (i : Int) = (P i).elim (some (.inl ((i : Int) + 1))) (fun x => some (.inr (.inr x)))) (he : b (r : Int) = some (.inr (.inl ()))) : lpR b 0 k j = (fs9 r P).elim (k ()) j :=
  lpR_for (fun i => (i : Int)) r P () rfl hr (fun i hi _ => by
    rw [hb i hi]
    cases P i with
    | none => rfl
    | some x => rfl) (fun _ => he)
def sm : Nat → (Nat → Int) → Int
  | 0, _ => 0
  | n + 1, f => sm n f + f n
theorem sm_congr {f g : Nat → Int} : ∀ n, (∀ i, i < n → f i = g i) → sm n f = sm n g := by
  intro n
  induction n with
  | zero => intro _; rfl
  | succ n ih => intro h; unfold sm; rw [ih (fun i hi => h i (by omega)), h n (by omega)]
theorem sm_bd {f : Nat → Int} {lo hi : Int} : ∀ n, (∀ i, i < n → lo ≤ f i ∧ f i ≤ hi) → (n : Int) * lo ≤ sm n f ∧ sm n f ≤ (n : Int) * hi := by
  intro n
  induction n with
  | zero => intro _; simp [sm]
  | succ n ih =>
    intro h
    have h1 := ih (fun i hi => h i (by omega))
    have h2 := h n (by omega)
    unfold sm
    have e1 : ((n + 1 : Nat) : Int) * lo = (n : Int) * lo + lo := by rw [Int.natCast_add, Int.add_mul]; simp
    have e2 : ((n + 1 : Nat) : Int) * hi = (n : Int) * hi + hi := by rw [Int.natCast_add, Int.add_mul]; simp
    omega
theorem fu_app {α : Type} {f : Nat → α} {k j : Nat} {v : α} : fu f k v j = if j = k then v else f j := rfl
/-! ===== tables ===== -/
def nn (d : DA) (o i j k : Nat) : Int := d.1 (o + 1) (25 * i + 5 * j + k)
/-- what of a table both sides rest on: the amounts lie between 0 and 9 -/
def Nb (d : DA) (o : Nat) : Prop := ∀ j, j < 125 → 0 ≤ d.1 (o + 1) j ∧ d.1 (o + 1) j ≤ 9
theorem Nb.at {d : DA} {o i j k : Nat} (h : Nb d o) (hi : i < 5) (hj : j < 5) (hk : k < 5) : 0 ≤ nn d o i j k ∧ nn d o i j k ≤ 9 := h _ (by omega)
theorem x8_at {d : DA} {o i j k : Nat} (hi : i < 5) (hj : j < 5) (hk : k < 5) : X8_at o i j k d = some (nn d o i j k) := by
  unfold X8_at nn
  rw [gd_pos (by omega), show (25 * (i : Int) + 5 * (j : Int) + (k : Int)).toNat = 25 * i + 5 * j + k by omega]
theorem x12_of {d : DA} {o i j k : Nat} (hi : i < 5) (hj : j < 5) (hk : k < 5) : X12_of o i j k d = some (nn d o i j k) := by
  unfold X12_of X12_cell nn
  rw [b1_pos rfl, gd_pos (by omega), show (((i : Int) * 5 + (j : Int)) * 5 + (k : Int)).toNat = 25 * i + 5 * j + k by omega]
def isFr (d : DA) (o r : Nat) : Option Int := fs9 r fun i => fs9 r fun j => fs9 r fun k => if nn d o i j k ≤ 1 then none else some 0
theorem x8_isFree {d : DA} {o r : Nat} (hr : d.1 o 0 = r) (h5 : r ≤ 5) (hn : Nb d o) : X8_isFree o d = (isFr d o r).elim (some 1) some := by
  unfold X8_isFree isFr
  refine lpR_cnt r _ (by omega) (fun i hi => ?_) ?_
  · unfold X8_isFree_b2
    rw [hr, gd_pos (by omega), if_neg (by omega)]
    refine (lpR_cnt r (fun j => fs9 r fun k => if nn d o i j k ≤ 1 then none else some 0) (by omega) (fun j hj => ?_) ?_).trans ?_
    · unfold X8_isFree_b12
      rw [hr, gd_pos (by omega), if_neg (by omega)]
      refine (lpR_cnt r (fun k => if nn d o i j k ≤ 1 then none else some 0) (by omega) (fun k hk => ?_) ?_).trans ?_
      · unfold X8_isFree_b22
        have := hn.at (i := i) (j := j) (k := k) (by omega) (by omega) (by omega)
        rw [hr, gd_pos (by omega), if_neg (by omega), b1_pos (x8_at (by omega) (by omega) (by omega)), gd_pos (by omega)]
        split <;> rfl
      · unfold X8_isFree_b22
        rw [hr, gd_pos (by omega), if_pos (by omega)]
      · cases fs9 r (fun k => if nn d o i j k ≤ 1 then none else some (0 : Int)) <;> rfl
    · unfold X8_isFree_b12
      rw [hr, gd_pos (by omega), if_pos (by omega)]
    · cases fs9 r (fun j => fs9 r fun k => if nn d o i j k ≤ 1 then none else some (0 : Int)) <;> rfl
  · unfold X8_isFree_b2
    rw [hr, gd_pos (by omega), if_pos (by omega)]

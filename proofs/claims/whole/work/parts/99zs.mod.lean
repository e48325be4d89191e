/-! ===== numbers that differ by a multiple of p ===== -/
def cgm (p : Nat) (a b : Int) : Prop := (p : Int) ∣ a - b
theorem cgm.rf {p : Nat} (a : Int) : cgm p a a := ⟨0, by omega⟩
theorem cgm.of {p : Nat} {a b : Int} (h : a = b) : cgm p a b := h ▸ cgm.rf a
theorem cgm.sy {p : Nat} {a b : Int} (h : cgm p a b) : cgm p b a := by
  obtain ⟨k, hk⟩ := h
  exact ⟨-k, by rw [Int.mul_neg, ← hk]; omega⟩
theorem cgm.tr {p : Nat} {a b c : Int} (h : cgm p a b) (h2 : cgm p b c) : cgm p a c := by
  obtain ⟨k, hk⟩ := h
  obtain ⟨l, hl⟩ := h2
  exact ⟨k + l, by rw [Int.mul_add, ← hk, ← hl]; omega⟩
theorem cgm.add {p : Nat} {a b c d : Int} (h : cgm p a b) (h2 : cgm p c d) : cgm p (a + c) (b + d) := by
  obtain ⟨k, hk⟩ := h
  obtain ⟨l, hl⟩ := h2
  exact ⟨k + l, by rw [Int.mul_add, ← hk, ← hl]; omega⟩
theorem cgm.sub {p : Nat} {a b c d : Int} (h : cgm p a b) (h2 : cgm p c d) : cgm p (a - c) (b - d) := by
  obtain ⟨k, hk⟩ := h
  obtain ⟨l, hl⟩ := h2
  exact ⟨k - l, by rw [Int.mul_sub, ← hk, ← hl]; omega⟩
theorem cgm.mul {p : Nat} {a b c d : Int} (h : cgm p a b) (h2 : cgm p c d) : cgm p (a * c) (b * d) := by
  obtain ⟨k, hk⟩ := h
  obtain ⟨l, hl⟩ := h2
  refine ⟨k * c + b * l, ?_⟩
  have e1 : a * c - b * d = (a - b) * c + b * (c - d) := by rw [Int.sub_mul, Int.mul_sub]; omega
  rw [e1, hk, hl, Int.mul_add, Int.mul_assoc, ← Int.mul_assoc b, Int.mul_comm b, Int.mul_assoc]
theorem cgm.sm9 {p : Nat} {f g : Nat → Int} : ∀ n, (∀ i, i < n → cgm p (f i) (g i)) → cgm p (sm n f) (sm n g) := by
  intro n
  induction n with
  | zero => intro _; exact cgm.rf _
  | succ n ih => intro h; exact (ih (fun i hi => h i (by omega))).add (h n (by omega))
theorem cgm.em {p : Nat} (a : Int) : cgm p (a % (p : Int)) a := ⟨-(a / (p : Int)), by
  have := Int.emod_add_mul_ediv a (p : Int)
  rw [Int.mul_neg]; omega⟩
theorem cgm.tm {p : Nat} (a : Int) : cgm p (Int.tmod a (p : Int)) a := ⟨-(Int.tdiv a (p : Int)), by
  have := Int.tmod_add_mul_tdiv a (p : Int)
  rw [Int.mul_neg]; omega⟩
theorem cgm.eq {p : Nat} {a b : Int} (h : cgm p a b) (ha : 0 ≤ a ∧ a < p) (hb : 0 ≤ b ∧ b < p) : a = b := by
  obtain ⟨k, hk⟩ := h
  by_cases c0 : k = 0
  · subst c0; omega
  · exfalso
    by_cases c1 : 1 ≤ k
    · have := Int.mul_le_mul_of_nonneg_left c1 (show (0 : Int) ≤ p by omega)
      omega
    · have := Int.mul_le_mul_of_nonneg_left (show k ≤ -1 by omega) (show (0 : Int) ≤ p by omega)
      omega
theorem tm_iff {p : Nat} {a : Int} : Int.tmod a (p : Int) = 0 ↔ cgm p a 0 := by
  constructor
  · intro h
    have := cgm.tm (p := p) a
    rw [h] at this
    exact this.sy
  · intro h
    obtain ⟨k, hk⟩ := h
    have : a = (p : Int) * k := by omega
    rw [this]
    exact Int.mul_tmod_right _ _
theorem em_iff {p : Nat} {a b : Int} (hp : 0 < p) : a % (p : Int) = b % (p : Int) ↔ cgm p a b := by
  constructor
  · intro h
    exact (cgm.em a).sy.tr ((cgm.of h).tr (cgm.em b))
  · intro h
    exact ((cgm.em a).tr (h.tr (cgm.em b).sy)).eq ⟨Int.emod_nonneg _ (by omega), Int.emod_lt_of_pos _ (by omega)⟩ ⟨Int.emod_nonneg _ (by omega), Int.emod_lt_of_pos _ (by omega)⟩
theorem em_bd {p : Nat} (hp : 0 < p) (a : Int) : 0 ≤ a % (p : Int) ∧ a % (p : Int) < p := ⟨Int.emod_nonneg _ (by omega), Int.emod_lt_of_pos _ (by omega)⟩
theorem tm_em {p : Nat} {a : Int} (h : 0 ≤ a) : Int.tmod a (p : Int) = a % (p : Int) := Int.tmod_eq_emod_of_nonneg h
theorem tm_bd {p : Nat} (hp : 0 < p) (a : Int) : -(p : Int) < Int.tmod a (p : Int) ∧ Int.tmod a (p : Int) < p := by
  by_cases c : 0 ≤ a
  · rw [tm_em c]
    have := em_bd hp a
    omega
  · have e : Int.tmod a (p : Int) = -(Int.tmod (-a) (p : Int)) := by rw [Int.neg_tmod]; omega
    have := em_bd hp (-a)
    rw [e, tm_em (by omega)]
    omega
/-- a product of what lies in 0 .. u and 0 .. v -/
theorem mlb9 {a b u v : Int} (ha : 0 ≤ a ∧ a ≤ u) (hb : 0 ≤ b ∧ b ≤ v) : 0 ≤ a * b ∧ a * b ≤ u * v := ⟨Int.mul_nonneg ha.1 hb.1, Int.mul_le_mul ha.2 hb.2 hb.1 (by omega)⟩
theorem x3_reduce {d : DA} {p : Nat} {v : Int} (hp : d.1 58 0 = p) (h2 : 2 ≤ p) (h31 : p ≤ 31) (hv : 0 ≤ v) (hR : v < 2147483648) : X3_reduce 58 v d = some (v % (p : Int)) := by
  unfold X3_reduce
  rw [hp]
  have : dvg v (p : Int) := by unfold dvg; omega
  simp (disch := omega) only [gd_pos, if_pos, if_neg, this]
  rw [tm_em hv]
/-! ===== counted loops that fold ===== -/
def fo9 {S : Type} (F : Nat → S → S) : Nat → S → S
  | 0, s => s
  | r + 1, s => F r (fo9 F r s)
theorem lev9 {S E : Type} {b : Int × E → Option ((Int × E) ⊕ E)} {P : S → E → Prop} {F : Nat → S → S} {r : Nat} (hr : r < 4000000) (hb : ∀ (v : Nat) s d, v < r → P s d → ∃ d', b ((v : Int), d) = some (.inl ((v : Int) + 1, d')) ∧ P (F v s) d') (he : ∀ s d, P s d → b ((r : Int), d) = some (.inr d)) {s : S} {d : E} (h : P s d) : ∃ d', (∀ {Y : Type} (k : E → Option Y), lpE b (0, d) k = k d') ∧ P (fo9 F r s) d' := by
  have go : ∀ m, m ≤ r → ∃ e : Nat → E, e 0 = d ∧ (∀ i, i < m → b ((i : Int), e i) = some (.inl ((i : Int) + 1, e (i + 1)))) ∧ P (fo9 F m s) (e m) := by
    intro m
    induction m with
    | zero => intro _; exact ⟨fun _ => d, rfl, fun i hi => absurd hi (Nat.not_lt_zero _), h⟩
    | succ m ih =>
      intro hm
      obtain ⟨e, h0, h1, h2⟩ := ih (by omega)
      obtain ⟨d', h3, h4⟩ := hb m _ _ (by omega) h2
      refine ⟨fun i => if i ≤ m then e i else d', by show (if 0 ≤ m then e 0 else d') = d; rw [if_pos (Nat.zero_le _), h0], fun i hi => ?_, by show P _ (if m + 1 ≤ m then e (m + 1) else d'); rw [if_neg (by omega)]; exact h4⟩
      show b ((i : Int), if i ≤ m then e i else d') = some (.inl ((i : Int) + 1, if i + 1 ≤ m then e (i + 1) else d'))
      by_cases c : i = m
      · subst c
        rw [if_pos (Nat.le_refl _), if_neg (by omega)]; exact h3
      · rw [if_pos (by omega), if_pos (by omega)]; exact h1 i (by omega)
  obtain ⟨e, h0, h1, h2⟩ := go r (Nat.le_refl _)
  refine ⟨e r, fun {Y} k => ?_, h2⟩
  refine lpE_for (fun i => ((i : Int), e i)) r (e r) (by show _ = (((0 : Nat) : Int), e 0); rw [h0]; rfl) hr (fun i hi => ?_) (he _ _ h2)
  show b ((i : Int), e i) = some (.inl (((i + 1 : Nat) : Int), e (i + 1)))
  rw [h1 i hi]; rfl
/-- a sum by a counted loop that changes nothing -/
theorem lpS9 {b : Int × Int → Option ((Int × Int) ⊕ Int)} {r : Nat} (t : Nat → Int) (hr : r < 4000000) (hb : ∀ (i : Nat), i < r → b (sm i t, (i : Int)) = some (.inl (sm (i + 1) t, (i : Int) + 1))) (he : b (sm r t, (r : Int)) = some (.inr (sm r t))) {Y : Type} {k : Int → Option Y} : lpE b (0, 0) k = k (sm r t) :=
  lpE_for (fun i => (sm i t, (i : Int))) r (sm r t) rfl hr (fun i hi => by rw [hb i hi]; rfl) he

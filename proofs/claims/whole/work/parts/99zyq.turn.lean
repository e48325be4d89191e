/-! ===== turns: the class adds what it found ===== -/
def en9 (t : Nat → Int) (r : Nat) : Nat → Int
  | 0 => 0
  | m + 1 => 32 * en9 t r m + t (r - 1 - m)
/-- the room after what was found has grown -/
def ZG9 (x x' : XS) : Prop := xzc x' = xzc x ∧ (xzf x ≤ xzf x' ∧ xzf x' ≤ 270000) ∧ xe x' = xe x ∧ (xrt x' = xrt x ∧ xrb x' = xrb x ∧ xtt x' = xtt x ∧ xtn x' = xtn x) ∧ (xc x ≤ xc x' ∧ xs x ≤ xs x') ∧ xc x' + xzf x ≤ xc x + xzf x' ∧ xs x' + 2 * xzf x ≤ xs x + 2 * xzf x'
theorem ZG9.rf {x : XS} (h : xzf x ≤ 270000) (d : DA) : ZG9 x (xD x d) := ⟨rfl, ⟨Nat.le_refl _, h⟩, rfl, ⟨rfl, rfl, rfl, rfl⟩, ⟨Nat.le_refl _, Nat.le_refl _⟩, Nat.le_refl _, Nat.le_refl _⟩
theorem ZG9.tr {x y z : XS} (h1 : ZG9 x y) (h2 : ZG9 y z) : ZG9 x z := by
  obtain ⟨a1, ⟨a2, a3⟩, a4, ⟨a5, a6, a7, a8⟩, ⟨a9, a10⟩, a11, a12⟩ := h1
  obtain ⟨b1, ⟨b2, b3⟩, b4, ⟨b5, b6, b7, b8⟩, ⟨b9, b10⟩, b11, b12⟩ := h2
  exact ⟨b1.trans a1, ⟨by omega, b3⟩, b4.trans a4, ⟨b5.trans a5, b6.trans a6, b7.trans a7, b8.trans a8⟩, ⟨by omega, by omega⟩, by omega, by omega⟩
theorem ZG9.ok {x y : XS} (h : ZG9 x y) (hk : xok9 x) : xok9 y := by
  obtain ⟨-, -, -, ⟨a5, a6, a7, a8⟩, -⟩ := h
  unfold xok9 at hk ⊢
  rw [a5, a6, a7, a8]
  exact hk
theorem x10_add {x : XS} {r fi : Nat} {t : Nat → Int} (h1 : 1 ≤ r) (h4 : r ≤ 4) (h6 : x.1.1 68 6 = r) (h2 : x.1.1 68 2 = fi) (hz : fi ≤ xzf x) (h64 : 64 ≤ xzf x) (h27 : xzf x ≤ 270000) (hfi : fi < 135000) (ht : ∀ k, k < r → x.1.1 73 k = t k) (hx : xe x = 0) (hk : xok9 x) : ∃ x', X10_addFound x = some (.inl (), x') ∧ x'.1.2 = x.1.2 ∧ (∀ q, q ≠ 68 → q ≠ 71 → x'.1.1 q = x.1.1 q) ∧ (∀ j, j ≠ 2 → x'.1.1 68 j = x.1.1 68 j) ∧ x'.1.1 68 2 = ((fi + 1 : Nat) : Int) ∧ x'.1.1 71 fi = en9 t r (r - 1) ∧ (∀ q, q < fi → x'.1.1 71 q = x.1.1 71 q) ∧ ZG9 x x' ∧ fi + 1 ≤ xzf x' := by
  have e1 : X10_addFound x = X10_addFound_j31 (en9 t r (r - 1)) x := by
    unfold X10_addFound
    rw [lt_pos, h6]
    refine lpE_for (fun i => (en9 t r i, (r : Int) - 1 - (i : Int))) (r - 1) _ ?_ (by omega) (fun i hi => ?_) ?_
    · show (0, (r : Int) - 1) = (0, (r : Int) - 1 - ((0 : Nat) : Int))
      refine Prod.ext rfl ?_
      show (r : Int) - 1 = (r : Int) - 1 - ((0 : Nat) : Int)
      omega
    · show X10_addFound_b9 (en9 t r i) ((r : Int) - 1 - (i : Int)) x = _
      have e : ((r : Int) - 1 - (i : Int)).toNat = r - 1 - i := by omega
      unfold X10_addFound_b9
      rw [gd_pos (by omega), if_neg (by omega), gd_pos (by omega), lt_pos, e, ht _ (by omega)]
      refine congrArg some (congrArg Sum.inl (Prod.ext rfl ?_))
      show (r : Int) - 1 - (i : Int) + (-1) = (r : Int) - 1 - ((i + 1 : Nat) : Int)
      omega
    · show X10_addFound_b9 _ ((r : Int) - 1 - ((r - 1 : Nat) : Int)) x = _
      unfold X10_addFound_b9
      rw [gd_pos (by omega), if_pos (by omega)]
  have j61 : ∀ (y : XS) (v : Int), y.1.1 68 2 = fi → fi < xzf y → xzf y ≤ 270000 → X10_addFound_j61 v y = some (.inl (), xD y (wI (wI y.1 71 fi v) 68 2 ((fi : Int) + 1))) := fun y v hy hy2 hy3 => by
    unfold X10_addFound_j61
    rw [hy, gd_pos (by omega), gd_pos (by omega), lt_pos, lt_pos, Int.toNat_natCast]
    have : (xD y (wI y.1 71 fi v)).1.1 68 2 = fi := by
      show (wI y.1 71 fi v).1 68 2 = fi
      rw [wI_ne (by decide)]; exact hy
    rw [this, lt_pos, lt_pos]
    rfl
  rw [e1]
  unfold X10_addFound_j31
  rw [h2, gd_pos (by omega), gd_pos (by omega)]
  by_cases c : fi < xzf x
  · rw [if_pos (by omega), j61 x _ h2 c h27]
    refine ⟨_, rfl, rfl, fun q z1 z2 => ?_, fun j hj => ?_, ?_, ?_, fun q hq => ?_, ZG9.rf h27 _, c⟩
    · show (wI (wI x.1 71 fi _) 68 2 _).1 q = _
      rw [wI_ne z1, wI_ne z2]
    · show (wI (wI x.1 71 fi _) 68 2 _).1 68 j = _
      rw [wI_at, fu_n hj, wI_ne (by decide)]
    · show (wI (wI x.1 71 fi _) 68 2 _).1 68 2 = _
      rw [wI_at, fu_s]; rfl
    · show (wI (wI x.1 71 fi _) 68 2 _).1 71 fi = _
      rw [wI_ne (by decide), wI_at, fu_s]
    · show (wI (wI x.1 71 fi _) 68 2 _).1 71 q = _
      rw [wI_ne (by decide), wI_at, fu_n (by omega)]
  · have ez : xzf x = fi := by omega
    rw [if_neg (by omega), gd_pos (by omega), gd_pos (by omega), gd_pos ⟨rfl, h64, (by omega), hx, hk⟩, lt_pos]
    have go : ∀ q, q ≠ 71 → (xGF x).1.1 q = x.1.1 q := fun q z => by unfold xGF; exact fu_n z
    have g68 : (xGF x).1.1 68 = x.1.1 68 := go 68 (by decide)
    have gz : xzf (xGF x) = 2 * xzf x := rfl
    rw [j61 (xGF x) _ (by rw [g68]; exact h2) (by omega) (by omega)]
    have g71 : (xGF x).1.1 71 = fun k => if k < xzf x then x.1.1 71 k else 0 := by
      show fu x.1.1 71 (fun k => if k < xzf x then x.1.1 71 k else 0) 71 = _
      rw [fu_s]
    refine ⟨_, rfl, rfl, fun q z1 z2 => ?_, fun j hj => ?_, ?_, ?_, fun q hq => ?_, ?_, by show fi + 1 ≤ 2 * xzf x; omega⟩
    · show (wI (wI (xGF x).1 71 fi _) 68 2 _).1 q = _
      rw [wI_ne z1, wI_ne z2, go q z2]
    · show (wI (wI (xGF x).1 71 fi _) 68 2 _).1 68 j = _
      rw [wI_at, fu_n hj, wI_ne (by decide), g68]
    · show (wI (wI (xGF x).1 71 fi _) 68 2 _).1 68 2 = _
      rw [wI_at, fu_s]; rfl
    · show (wI (wI (xGF x).1 71 fi _) 68 2 _).1 71 fi = _
      rw [wI_ne (by decide), wI_at, fu_s]
    · show (wI (wI (xGF x).1 71 fi _) 68 2 _).1 71 q = _
      rw [wI_ne (by decide), wI_at, fu_n (by omega), g71]
      exact if_pos (by omega)
    · have q1 : xc (xGF x) = xc x + 1 := rfl
      have q2 : xs (xGF x) = xs x + 2 * xzf x := rfl
      refine ⟨rfl, ⟨?_, ?_⟩, rfl, ⟨rfl, rfl, rfl, rfl⟩, ⟨?_, ?_⟩, ?_, ?_⟩
      · show xzf x ≤ 2 * xzf x; omega
      · show 2 * xzf x ≤ 270000; omega
      · show xc x ≤ xc x + 1; omega
      · show xs x ≤ xs x + 2 * xzf x; omega
      · show xc x + 1 + xzf x ≤ xc x + 2 * xzf x; omega
      · show xs x + 2 * xzf x + 2 * xzf x ≤ xs x + 2 * (2 * xzf x); omega
/-- what the search rests on -/
def TC9 (x : XS) (n c : Nat → Int) (r p : Nat) (iv : Int → Int) (du : Nat → Nat) : Prop := (x.1.1 68 6 = r ∧ x.1.1 68 7 = Dq9 p r c ∧ x.1.1 6 = n ∧ x.1.1 58 0 = p ∧ (∀ j : Nat, 1 ≤ j → j < p → x.1.1 59 j = iv j) ∧ (∀ i, i < r → x.1.1 7 i = (du i : Nat) ∧ du i < r) ∧ (∀ k, k < r → x.1.1 72 k = c k)) ∧ (xtt x = 5 ∧ xtn x = 58 ∧ xe x = 0 ∧ xok9 x) ∧ 64 ≤ xzf x
/-- how far the search has come: all numbers below M are looked at -/
def TS9 (x0 : XS) (G : Nat → Bool) (p r st M : Nat) (x : XS) : Prop := x.1.2 = x0.1.2 ∧ (∀ q, q ≠ 60 → q ≠ 68 → q ≠ 71 → (q < 73 ∨ 80 < q) → x.1.1 q = x0.1.1 q) ∧ (∀ j, j ≠ 2 → j ≠ 8 → x.1.1 68 j = x0.1.1 68 j) ∧ (x.1.1 68 2 = ((st + cn9 G M : Nat) : Int) ∧ st + cn9 G M ≤ xzf x) ∧ (∀ q, q < st → x.1.1 71 q = x0.1.1 71 q) ∧ (∀ X, X < M → G X = true → x.1.1 71 (st + cn9 G X) = en9 (tX9 p r X) r (r - 1)) ∧ ZG9 x0 x
theorem TC9.ts {x0 x : XS} {n c : Nat → Int} {r p : Nat} {iv : Int → Int} {du : Nat → Nat} {G : Nat → Bool} {st M : Nat} (h : TC9 x0 n c r p iv du) (hS : TS9 x0 G p r st M x) : TC9 x n c r p iv du := by
  obtain ⟨⟨a1, a2, a3, a4, a5, a6, a7⟩, ⟨a8, a9, a10, a11⟩, a12⟩ := h
  obtain ⟨b1, b2, b3, b4, b5, b6, b7⟩ := hS
  refine ⟨⟨?_, ?_, ?_, ?_, ?_, ?_, ?_⟩, ⟨?_, ?_, ?_, b7.ok a11⟩, ?_⟩
  · rw [b3 6 (by decide) (by decide)]; exact a1
  · rw [b3 7 (by decide) (by decide)]; exact a2
  · rw [b2 6 (by decide) (by decide) (by decide) (by omega)]; exact a3
  · rw [b2 58 (by decide) (by decide) (by decide) (by omega)]; exact a4
  · rw [b2 59 (by decide) (by decide) (by decide) (by omega)]; exact a5
  · rw [b2 7 (by decide) (by decide) (by decide) (by omega)]; exact a6
  · rw [b2 72 (by decide) (by decide) (by decide) (by omega)]; exact a7
  · rw [b7.2.2.2.1.2.2.1]; exact a8
  · rw [b7.2.2.2.1.2.2.2]; exact a9
  · rw [b7.2.2.1]; exact a10
  · have := b7.2.1.1; omega
/-- other scratch cells -/
theorem TS9.d {x0 x : XS} {G : Nat → Bool} {p r st M : Nat} (h : TS9 x0 G p r st M x) {d : DA} (h2 : d.2 = x.1.2) (hq : ∀ q, q ≠ 60 → q ≠ 68 → (q < 73 ∨ 80 < q) → d.1 q = x.1.1 q) (h68 : ∀ j, j ≠ 8 → d.1 68 j = x.1.1 68 j) : TS9 x0 G p r st M (xD x d) := by
  obtain ⟨b1, b2, b3, b4, b5, b6, b7⟩ := h
  have e71 : d.1 71 = x.1.1 71 := hq 71 (by decide) (by decide) (by omega)
  have b27 := b7.2.1.2
  refine ⟨h2.trans b1, fun q z1 z2 z3 z4 => (hq q z1 z2 z4).trans (b2 q z1 z2 z3 z4), fun j z1 z2 => (h68 j z2).trans (b3 j z1 z2), ⟨?_, b4.2⟩, fun q z => ?_, fun X z1 z2 => ?_, b7.tr (ZG9.rf b27 d)⟩
  · show d.1 68 2 = _
    rw [h68 2 (by decide)]; exact b4.1
  · show d.1 71 q = _
    rw [e71]; exact b5 q z
  · show d.1 71 _ = _
    rw [e71]; exact b6 X z1 z2

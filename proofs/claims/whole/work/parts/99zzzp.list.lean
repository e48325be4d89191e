/-! ===== list: the class adds a row ===== -/
/-- the room after the list has grown -/
def ZC9 (x x' : XS) : Prop := xzf x' = xzf x ∧ (xzc x ≤ xzc x' ∧ xzc x' ≤ 8192) ∧ xe x' = xe x ∧ (xrt x' = xrt x ∧ xrb x' = xrb x ∧ xtt x' = xtt x ∧ xtn x' = xtn x) ∧ (xc x ≤ xc x' ∧ xs x ≤ xs x') ∧ xc x' + xzc x ≤ xc x + xzc x' ∧ xs x' + 2 * xzc x ≤ xs x + 2 * xzc x'
theorem ZC9.rf {x : XS} (h : xzc x ≤ 8192) (d : DA) : ZC9 x (xD x d) := ⟨rfl, ⟨Nat.le_refl _, h⟩, rfl, ⟨rfl, rfl, rfl, rfl⟩, ⟨Nat.le_refl _, Nat.le_refl _⟩, Nat.le_refl _, Nat.le_refl _⟩
theorem ZC9.tr {x y z : XS} (h1 : ZC9 x y) (h2 : ZC9 y z) : ZC9 x z := by
  obtain ⟨a1, ⟨a2, a3⟩, a4, ⟨a5, a6, a7, a8⟩, ⟨a9, a10⟩, a11, a12⟩ := h1
  obtain ⟨b1, ⟨b2, b3⟩, b4, ⟨b5, b6, b7, b8⟩, ⟨b9, b10⟩, b11, b12⟩ := h2
  exact ⟨b1.trans a1, ⟨by omega, b3⟩, b4.trans a4, ⟨b5.trans a5, b6.trans a6, b7.trans a7, b8.trans a8⟩, ⟨by omega, by omega⟩, by omega, by omega⟩
theorem ZC9.ok {x y : XS} (h : ZC9 x y) (hk : xok9 x) : xok9 y := by
  obtain ⟨-, -, -, ⟨a5, a6, a7, a8⟩, -⟩ := h
  unfold xok9 at hk ⊢
  rw [a5, a6, a7, a8]
  exact hk
theorem x2_add {x : XS} {L lb am X : Nat} (h8 : x.1.1 46 8 = (L : Int)) (h1 : x.1.1 46 1 = (lb : Int)) (hl : lb ≤ 5) (h10 : L ≤ 10) (hr : ∀ g, g < L → x.1.1 51 g = (dg9 (lb + 1) X L g : Int)) (hX : X < (lb + 1) ^ L) (h2 : x.1.1 46 2 = (am : Int)) (hz : am ≤ xzc x) (h64 : 64 ≤ xzc x) (h81 : xzc x ≤ 8192) (ham : am < 4000) (hx : xe x = 0) (hk : xok9 x) : ∃ x', X2_addRow x = some (.inl (), x') ∧ x'.1.2 = x.1.2 ∧ (∀ q, q ≠ 46 → q ≠ 47 → x'.1.1 q = x.1.1 q) ∧ (∀ j, j ≠ 2 → x'.1.1 46 j = x.1.1 46 j) ∧ x'.1.1 46 2 = ((am + 1 : Nat) : Int) ∧ x'.1.1 47 am = (X : Int) ∧ (∀ q, q < am → x'.1.1 47 q = x.1.1 47 q) ∧ ZC9 x x' ∧ am + 1 ≤ xzc x' := by
  have e1 : X2_addRow x = X2_addRow_j34 (X : Int) x := by
    unfold X2_addRow
    have fin : ((X / (lb + 1) ^ (L - L) : Nat) : Int) = (X : Int) := by rw [Nat.sub_self, Nat.pow_zero, Nat.div_one]
    rw [← fin]
    refine lpE_for (fun i => (((X / (lb + 1) ^ (L - i) : Nat) : Int), (i : Int))) L _ ?_ (by omega) (fun i hi => ?_) ?_
    · show ((0 : Int), (0 : Int)) = (((X / (lb + 1) ^ (L - 0) : Nat) : Int), ((0 : Nat) : Int))
      rw [Nat.sub_zero, Nat.div_eq_of_lt hX]; rfl
    · show X2_addRow_b4 ((X / (lb + 1) ^ (L - i) : Nat) : Int) (i : Int) x = _
      unfold X2_addRow_b4
      rw [h8, gd_pos (by omega), if_neg (by omega), gd_pos (by omega), lt_pos, Int.toNat_natCast, h1, hr i hi]
      refine congrArg some (congrArg Sum.inl (Prod.ext ?_ rfl))
      show ((lb : Int) + 1) * ((X / (lb + 1) ^ (L - i) : Nat) : Int) + (dg9 (lb + 1) X L i : Int) = ((X / (lb + 1) ^ (L - (i + 1)) : Nat) : Int)
      unfold dg9
      have ep : L - i = (L - 1 - i) + 1 := by omega
      have ep2 : L - (i + 1) = L - 1 - i := by omega
      rw [ep, ep2, Nat.pow_succ, ← Nat.div_div_eq_div_mul]
      generalize X / (lb + 1) ^ (L - 1 - i) = Q
      have : (lb + 1) * (Q / (lb + 1)) + Q % (lb + 1) = Q := Nat.div_add_mod Q (lb + 1)
      exact_mod_cast this
    · show X2_addRow_b4 _ (L : Int) x = _
      unfold X2_addRow_b4
      rw [h8, gd_pos (by omega), if_pos (by omega)]
  have j64 : ∀ (y : XS) (v : Int), y.1.1 46 2 = am → am < xzc y → xzc y ≤ 8192 → X2_addRow_j64 v y = some (.inl (), xD y (wI (wI y.1 47 am v) 46 2 ((am : Int) + 1))) := fun y v hy hy2 hy3 => by
    unfold X2_addRow_j64
    rw [hy, gd_pos (by omega), gd_pos (by omega), lt_pos, lt_pos, Int.toNat_natCast]
    have : (xD y (wI y.1 47 am v)).1.1 46 2 = am := by
      show (wI y.1 47 am v).1 46 2 = am
      rw [wI_ne (by decide)]; exact hy
    rw [this, lt_pos, lt_pos]
    rfl
  rw [e1]
  unfold X2_addRow_j34
  rw [h2, gd_pos (by omega), gd_pos (by omega)]
  by_cases c : am < xzc x
  · rw [if_pos (by omega), j64 x _ h2 c h81]
    refine ⟨_, rfl, rfl, fun q z1 z2 => ?_, fun j hj => ?_, ?_, ?_, fun q hq => ?_, ZC9.rf h81 _, c⟩
    · show (wI (wI x.1 47 am _) 46 2 _).1 q = _
      rw [wI_ne z1, wI_ne z2]
    · show (wI (wI x.1 47 am _) 46 2 _).1 46 j = _
      rw [wI_at, fu_n hj, wI_ne (by decide)]
    · show (wI (wI x.1 47 am _) 46 2 _).1 46 2 = _
      rw [wI_at, fu_s]; rfl
    · show (wI (wI x.1 47 am _) 46 2 _).1 47 am = _
      rw [wI_ne (by decide), wI_at, fu_s]
    · show (wI (wI x.1 47 am _) 46 2 _).1 47 q = _
      rw [wI_ne (by decide), wI_at, fu_n (by omega)]
  · have ez : xzc x = am := by omega
    rw [if_neg (by omega), gd_pos (by omega), gd_pos (by omega), gd_pos ⟨rfl, h64, (by omega), hx, hk⟩, lt_pos]
    have go : ∀ q, q ≠ 47 → (xGC x).1.1 q = x.1.1 q := fun q z => by unfold xGC; exact fu_n z
    have g46 : (xGC x).1.1 46 = x.1.1 46 := go 46 (by decide)
    have gz : xzc (xGC x) = 2 * xzc x := rfl
    rw [j64 (xGC x) _ (by rw [g46]; exact h2) (by omega) (by omega)]
    have g47 : (xGC x).1.1 47 = fun k => if k < xzc x then x.1.1 47 k else 0 := by
      show fu x.1.1 47 (fun k => if k < xzc x then x.1.1 47 k else 0) 47 = _
      rw [fu_s]
    refine ⟨_, rfl, rfl, fun q z1 z2 => ?_, fun j hj => ?_, ?_, ?_, fun q hq => ?_, ?_, by show am + 1 ≤ 2 * xzc x; omega⟩
    · show (wI (wI (xGC x).1 47 am _) 46 2 _).1 q = _
      rw [wI_ne z1, wI_ne z2, go q z2]
    · show (wI (wI (xGC x).1 47 am _) 46 2 _).1 46 j = _
      rw [wI_at, fu_n hj, wI_ne (by decide), g46]
    · show (wI (wI (xGC x).1 47 am _) 46 2 _).1 46 2 = _
      rw [wI_at, fu_s]; rfl
    · show (wI (wI (xGC x).1 47 am _) 46 2 _).1 47 am = _
      rw [wI_ne (by decide), wI_at, fu_s]
    · show (wI (wI (xGC x).1 47 am _) 46 2 _).1 47 q = _
      rw [wI_ne (by decide), wI_at, fu_n (by omega), g47]
      exact if_pos (by omega)
    · have q1 : xc (xGC x) = xc x + 1 := rfl
      have q2 : xs (xGC x) = xs x + 2 * xzc x := rfl
      refine ⟨rfl, ⟨?_, ?_⟩, rfl, ⟨rfl, rfl, rfl, rfl⟩, ⟨?_, ?_⟩, ?_, ?_⟩
      · show xzc x ≤ 2 * xzc x; omega
      · show 2 * xzc x ≤ 8192; omega
      · show xc x ≤ xc x + 1; omega
      · show xs x ≤ xs x + 2 * xzc x; omega
      · show xc x + 1 + xzc x ≤ xc x + 2 * xzc x; omega
      · show xs x + 2 * xzc x + 2 * xzc x ≤ xs x + 2 * (2 * xzc x); omega
/-! ===== list: the class's search ===== -/
section
variable {lr w lb : Nat}
theorem lgN_lt {i j k l : Nat} (hq : (lr, w) ∈ lw5) (i1 : 1 ≤ i) (hi : i < lr) (j1 : 1 ≤ j) (hj : j < lr) (k1 : 1 ≤ k) (hk : k < lr) (l1 : 1 ≤ l) (hl : l < lr) : ∀ t, t ≤ lr - 1 → lgN lr w i j k l t < gcn lr w := fun t => by
  have gb := (gcn_bd hq).1
  induction t with
  | zero => intro _; unfold lgN; omega
  | succ t ih =>
    intro ht
    have i0 := ih (by omega)
    obtain ⟨d1, d2, -⟩ := dl9_bd hq (a := t + 1) (by omega)
    obtain ⟨d3, d4, -⟩ := dl9_bd hq hl
    have g1 := grp_lt hq i1 hi j1 hj (d2 (by omega)) d1
    have g2 := grp_lt hq (show 1 ≤ t + 1 by omega) (show t + 1 < lr by omega) k1 hk (d4 (by omega)) d3
    have g3 := grp_lt hq j1 hj k1 hk (d2 (by omega)) d1
    have g4 := grp_lt hq i1 hi (show 1 ≤ t + 1 by omega) (show t + 1 < lr by omega) (d4 (by omega)) d3
    unfold lgN
    omega
theorem FtN.agr {fg fg' : Nat → Int} {g : Nat} (h : ∀ q, q ≤ g → fg q = fg' q) : FtN lr w fg g ↔ FtN lr w fg' g := by
  unfold FtN
  constructor
  · intro hF i j k l i1 ik kl j1 jl l1 ll lg
    exact (AsN.agr (fun q hq9 => h q (by omega))).mp (hF i j k l i1 ik kl j1 jl l1 ll lg)
  · intro hF i j k l i1 ik kl j1 jl l1 ll lg
    exact (AsN.agr (fun q hq9 => h q (by omega))).mpr (hF i j k l i1 ik kl j1 jl l1 ll lg)
theorem FtN.all {fg : Nat → Int} (hq : (lr, w) ∈ lw5) : (∀ g, g < gcn lr w → FtN lr w fg g) ↔ ∀ i j k l, 1 ≤ i → i < k → k < lr → 1 ≤ j → j < lr → 1 ≤ l → l < lr → AsN lr w fg i j k l := by
  constructor
  · intro h i j k l i1 ik kl j1 jl l1 ll
    exact h _ (lgN_lt hq i1 (show i < lr by omega) j1 jl (show 1 ≤ k by omega) kl l1 ll _ (Nat.le_refl _)) i j k l i1 ik kl j1 jl l1 ll rfl
  · intro h g _ i j k l i1 ik kl j1 jl l1 ll _
    exact h i j k l i1 ik kl j1 jl l1 ll
theorem LstN.agr {fg fg' : Nat → Int} (hq : (lr, w) ∈ lw5) (h : ∀ q, q < gcn lr w → fg q = fg' q) : LstN lr w fg ↔ LstN lr w fg' := by
  have h4 := (lw5_bd hq).2.1
  have e : ∀ t, t < 6 → KDc lr w t → (Lw9 (gcn lr w) (rnG lr w fg (pm9 t)) fg ↔ Lw9 (gcn lr w) (rnG lr w fg' (pm9 t)) fg') := fun t ht hK => Lw9.cg (fun g hg => by
    obtain ⟨-, f1, f2, f3, f4, -, -⟩ := fst_of hq hg
    unfold rnG
    exact h _ (grp_lt hq (pm_bd ht f1 (by omega)).1 (hK _ f1 (by omega)).1 (pm_bd ht (show 1 ≤ fb9 lr w g by omega) (by omega)).1 (hK _ (by omega) (by omega)).1 (pm_bd ht (show 1 ≤ fc9 lr w g by omega) (by omega)).1 (hK _ (by omega) f4).1)) h
  constructor
  · intro hL t ht hK z
    exact hL t ht hK ((e t ht hK).mpr z)
  · intro hL t ht hK z
    exact hL t ht hK ((e t ht hK).mp z)
/-- what the search has found below M -/
def SL9 (x0 : XS) (G : Nat → Bool) (base M : Nat) (x : XS) : Prop := x.1.2 = x0.1.2 ∧ (∀ q, q ≠ 46 → q ≠ 47 → q ≠ 51 → x.1.1 q = x0.1.1 q) ∧ (∀ j, j ≠ 2 → x.1.1 46 j = x0.1.1 46 j) ∧ (x.1.1 46 2 = ((base + cn9 G M : Nat) : Int) ∧ base + cn9 G M ≤ xzc x) ∧ (∀ q, q < base → x.1.1 47 q = x0.1.1 47 q) ∧ (∀ X, X < M → G X = true → x.1.1 47 (base + cn9 G X) = (X : Nat)) ∧ ZC9 x0 x
theorem SL9.d {x0 x : XS} {G : Nat → Bool} {base M : Nat} (h : SL9 x0 G base M x) {d : DA} (h2 : d.2 = x.1.2) (hc : ∀ q, q ≠ 51 → d.1 q = x.1.1 q) : SL9 x0 G base M (xD x d) := by
  obtain ⟨b1, b2, b3, b4, b5, b6, b7⟩ := h
  have b81 := b7.2.1.2
  refine ⟨h2.trans b1, fun q z1 z2 z3 => (hc q z3).trans (b2 q z1 z2 z3), fun j z => by show d.1 46 j = _; rw [hc 46 (by decide)]; exact b3 j z, ⟨by show d.1 46 2 = _; rw [hc 46 (by decide)]; exact b4.1, b4.2⟩, fun q hq => by show d.1 47 q = _; rw [hc 47 (by decide)]; exact b5 q hq, fun X z1 z2 => by show d.1 47 _ = _; rw [hc 47 (by decide)]; exact b6 X z1 z2, b7.tr (ZC9.rf b81 d)⟩
theorem SL9.more {x0 x : XS} {G : Nat → Bool} {base M M' : Nat} (h : SL9 x0 G base M x) (hM : M ≤ M') (hn : ∀ X, M ≤ X → X < M' → ¬ G X = true) : SL9 x0 G base M' x := by
  obtain ⟨b1, b2, b3, b4, b5, b6, b7⟩ := h
  have e : cn9 G M' = cn9 G M := by
    have := cn9_none (G := G) (M' - M) M (fun X z1 z2 => hn X z1 (by omega))
    rw [show M + (M' - M) = M' by omega] at this
    exact this
  refine ⟨b1, b2, b3, by rw [e]; exact b4, b5, fun X z1 z2 => ?_, b7⟩
  by_cases c : X < M
  · exact b6 X c z2
  · exact absurd z2 (hn X (by omega) z1)
end

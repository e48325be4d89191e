/-! ===== shapes: the reference ===== -/
def pnS (n : Nat → Int) (x : Nat → Nat) : Bool := decide (n (ti (x 0) (x 1) (x 5)) = 1 ∧ n (ti (x 5) (x 2) (x 6)) = 1 ∧ n (ti (x 6) (x 3) (x 4)) = 1 ∧ n (ti (x 2) (x 3) (x 8)) = 1 ∧ n (ti (x 1) (x 8) (x 7)) = 1 ∧ n (ti (x 0) (x 7) (x 4)) = 1)
def pnM (n : Nat → Int) (i : Nat) (x : Nat → Nat) : Bool := if i = 5 then decide (n (ti (x 0) (x 1) (x 5)) = 1) else if i = 6 then decide (n (ti (x 5) (x 2) (x 6)) = 1 ∧ n (ti (x 6) (x 3) (x 4)) = 1) else if i = 7 then decide (n (ti (x 0) (x 7) (x 4)) = 1) else true
def pnB (F : Nat → Int) (p r : Nat) (x : Nat → Nat) : Bool := decide ((pnL F x - sm r (pnT F x)) % (p : Int) = 0)
def hxS (n : Nat → Int) (x : Nat → Nat) : Bool := decide (n (ti (x 0) (x 2) (x 4)) = 1 ∧ n (ti (x 4) (x 1) (x 3)) = 1 ∧ n (ti (x 1) (x 2) (x 5)) = 1 ∧ n (ti (x 0) (x 5) (x 3)) = 1)
def hxB (F R : Nat → Int) (p r : Nat) (x : Nat → Nat) : Bool := decide ((hxL F R x - sm r (hxT F R x)) % (p : Int) = 0)
theorem em0_iff {p : Nat} {a b : Int} : (a - b) % (p : Int) = 0 ↔ cgm p a b := ⟨fun h => Int.dvd_of_emod_eq_zero h, fun h => Int.emod_eq_zero_of_dvd h⟩
theorem pnB_iff {F : Nat → Int} {p r : Nat} {x : Nat → Nat} : pnB F p r x = true ↔ pnH F p r x := by unfold pnB pnH; rw [decide_eq_true_iff]; exact em0_iff
theorem hxB_iff {F R : Nat → Int} {p r : Nat} {x : Nat → Nat} : hxB F R p r x = true ↔ hxH F R p r x := by unfold hxB hxH; rw [decide_eq_true_iff]; exact em0_iff
theorem x12_of9 {d : DA} {n : Nat → Int} {a b c : Nat} (hn : d.1 114 = n) (ha : a < 5) (hb : b < 5) (hc : c < 5) : X12_of 113 a b c d = some (n (ti a b c)) := by
  rw [x12_of ha hb hc, ← hn]; rfl
theorem x12_isPent {d : DA} {n : Nat → Int} {r : Nat} {x : Nat → Nat} (hT : TG n r) (h14 : d.1 114 = n) (hx : ∀ q, q < 9 → d.1 136 q = (x q : Nat) ∧ x q < r) : X12_isPentagon 113 d = some (if pnS n x = true then 1 else 0) := by
  have h5 := hT.1.2
  have hx5 : ∀ q, q < 9 → x q < 5 := fun q hq => by have := (hx q hq).2; omega
  have of : ∀ {a b c : Nat}, a < 9 → b < 9 → c < 9 → X12_of 113 (x a) (x b) (x c) d = some (n (ti (x a) (x b) (x c))) := fun ha hb hc => x12_of9 h14 (hx5 _ ha) (hx5 _ hb) (hx5 _ hc)
  have bd : ∀ {a b c : Nat}, a < 9 → b < 9 → c < 9 → 0 ≤ n (ti (x a) (x b) (x c)) ∧ n (ti (x a) (x b) (x c)) ≤ 9 := fun ha hb hc => hT.2.1 _ (ti_lt (hx5 _ ha) (hx5 _ hb) (hx5 _ hc))
  have b1 := bd (a := 0) (b := 1) (c := 5) (by omega) (by omega) (by omega)
  have b2 := bd (a := 5) (b := 2) (c := 6) (by omega) (by omega) (by omega)
  have b3 := bd (a := 6) (b := 3) (c := 4) (by omega) (by omega) (by omega)
  have b4 := bd (a := 2) (b := 3) (c := 8) (by omega) (by omega) (by omega)
  have b5 := bd (a := 1) (b := 8) (c := 7) (by omega) (by omega) (by omega)
  have b6 := bd (a := 0) (b := 7) (c := 4) (by omega) (by omega) (by omega)
  unfold X12_isPentagon X12_isPentagon_j166 pnS
  simp only [gd_pos (show ix 0 9 by decide), gd_pos (show ix 1 9 by decide), gd_pos (show ix 2 9 by decide), gd_pos (show ix 3 9 by decide), gd_pos (show ix 4 9 by decide), gd_pos (show ix 5 9 by decide), gd_pos (show ix 6 9 by decide), gd_pos (show ix 7 9 by decide), gd_pos (show ix 8 9 by decide), show (113 + 23 : Nat) = 136 from rfl, show Int.toNat 0 = 0 from rfl, show Int.toNat 1 = 1 from rfl, show Int.toNat 2 = 2 from rfl, show Int.toNat 3 = 3 from rfl, show Int.toNat 4 = 4 from rfl, show Int.toNat 5 = 5 from rfl, show Int.toNat 6 = 6 from rfl, show Int.toNat 7 = 7 from rfl, show Int.toNat 8 = 8 from rfl, (hx 0 (by omega)).1, (hx 1 (by omega)).1, (hx 2 (by omega)).1, (hx 3 (by omega)).1, (hx 4 (by omega)).1, (hx 5 (by omega)).1, (hx 6 (by omega)).1, (hx 7 (by omega)).1, (hx 8 (by omega)).1, decide_eq_true_iff]
  rw [b1_pos (of (by omega) (by omega) (by omega)), gd_pos (by omega)]
  by_cases c1 : n (ti (x 0) (x 1) (x 5)) = 1
  · rw [if_pos c1, b1_pos (of (by omega) (by omega) (by omega)), gd_pos (by omega)]
    by_cases c2 : n (ti (x 5) (x 2) (x 6)) = 1
    · rw [if_pos c2, b1_pos (of (by omega) (by omega) (by omega)), gd_pos (by omega)]
      by_cases c3 : n (ti (x 6) (x 3) (x 4)) = 1
      · rw [if_pos c3, b1_pos (of (by omega) (by omega) (by omega)), gd_pos (by omega)]
        by_cases c4 : n (ti (x 2) (x 3) (x 8)) = 1
        · rw [if_pos c4, b1_pos (of (by omega) (by omega) (by omega)), gd_pos (by omega)]
          by_cases c5 : n (ti (x 1) (x 8) (x 7)) = 1
          · rw [if_pos c5, b1_pos (of (by omega) (by omega) (by omega)), gd_pos (by omega)]
            by_cases c6 : n (ti (x 0) (x 7) (x 4)) = 1
            · rw [if_pos c6, if_pos ⟨c1, c2, c3, c4, c5, c6⟩]
            · rw [if_neg c6, if_neg (fun z => c6 z.2.2.2.2.2)]
          · rw [if_neg c5, if_neg (fun z => c5 z.2.2.2.2.1)]
        · rw [if_neg c4, if_neg (fun z => c4 z.2.2.2.1)]
      · rw [if_neg c3, if_neg (fun z => c3 z.2.2.1)]
    · rw [if_neg c2, if_neg (fun z => c2 z.2.1)]
  · rw [if_neg c1, if_neg (fun z => c1 z.1)]
theorem x12_isHex {d : DA} {n : Nat → Int} {r : Nat} {x : Nat → Nat} (hT : TG n r) (h14 : d.1 114 = n) (hx : ∀ q, q < 6 → d.1 136 q = (x q : Nat) ∧ x q < r) : X12_isHexagon 113 d = some (if hxS n x = true then 1 else 0) := by
  have h5 := hT.1.2
  have hx5 : ∀ q, q < 6 → x q < 5 := fun q hq => by have := (hx q hq).2; omega
  have of : ∀ {a b c : Nat}, a < 6 → b < 6 → c < 6 → X12_of 113 (x a) (x b) (x c) d = some (n (ti (x a) (x b) (x c))) := fun ha hb hc => x12_of9 h14 (hx5 _ ha) (hx5 _ hb) (hx5 _ hc)
  have bd : ∀ {a b c : Nat}, a < 6 → b < 6 → c < 6 → 0 ≤ n (ti (x a) (x b) (x c)) ∧ n (ti (x a) (x b) (x c)) ≤ 9 := fun ha hb hc => hT.2.1 _ (ti_lt (hx5 _ ha) (hx5 _ hb) (hx5 _ hc))
  have b1 := bd (a := 0) (b := 2) (c := 4) (by omega) (by omega) (by omega)
  have b2 := bd (a := 4) (b := 1) (c := 3) (by omega) (by omega) (by omega)
  have b3 := bd (a := 1) (b := 2) (c := 5) (by omega) (by omega) (by omega)
  have b4 := bd (a := 0) (b := 5) (c := 3) (by omega) (by omega) (by omega)
  unfold X12_isHexagon X12_isHexagon_j108 hxS
  simp only [gd_pos (show ix 0 9 by decide), gd_pos (show ix 1 9 by decide), gd_pos (show ix 2 9 by decide), gd_pos (show ix 3 9 by decide), gd_pos (show ix 4 9 by decide), gd_pos (show ix 5 9 by decide), show (113 + 23 : Nat) = 136 from rfl, show Int.toNat 0 = 0 from rfl, show Int.toNat 1 = 1 from rfl, show Int.toNat 2 = 2 from rfl, show Int.toNat 3 = 3 from rfl, show Int.toNat 4 = 4 from rfl, show Int.toNat 5 = 5 from rfl, (hx 0 (by omega)).1, (hx 1 (by omega)).1, (hx 2 (by omega)).1, (hx 3 (by omega)).1, (hx 4 (by omega)).1, (hx 5 (by omega)).1, decide_eq_true_iff]
  rw [b1_pos (of (by omega) (by omega) (by omega)), gd_pos (by omega)]
  by_cases c1 : n (ti (x 0) (x 2) (x 4)) = 1
  · rw [if_pos c1, b1_pos (of (by omega) (by omega) (by omega)), gd_pos (by omega)]
    by_cases c2 : n (ti (x 4) (x 1) (x 3)) = 1
    · rw [if_pos c2, b1_pos (of (by omega) (by omega) (by omega)), gd_pos (by omega)]
      by_cases c3 : n (ti (x 1) (x 2) (x 5)) = 1
      · rw [if_pos c3, b1_pos (of (by omega) (by omega) (by omega)), gd_pos (by omega)]
        by_cases c4 : n (ti (x 0) (x 5) (x 3)) = 1
        · rw [if_pos c4, if_pos ⟨c1, c2, c3, c4⟩]
        · rw [if_neg c4, if_neg (fun z => c4 z.2.2.2)]
      · rw [if_neg c3, if_neg (fun z => c3 z.2.2.1)]
    · rw [if_neg c2, if_neg (fun z => c2 z.2.1)]
  · rw [if_neg c1, if_neg (fun z => c1 z.1)]
/-- the reference's hexagon -/
theorem x12_hex {d : DA} {n f f9 s s9 : Nat → Int} {r p : Nat} {x : Nat → Nat} (hD : TrD n f f9 s s9 r p) (h14 : d.1 114 = n) (h17 : d.1 117 = f) (h18 : d.1 118 = s) (hr : d.1 113 1 = r) (hp : d.1 113 4 = p) (hx : ∀ q, q < 6 → d.1 136 q = (x q : Nat) ∧ x q < r) : (hxH f9 s9 p r x → X12_hexagonHolds 113 d = some 1) ∧ (¬ hxH f9 s9 p r x → X12_hexagonHolds 113 d = some 0) := by
  obtain ⟨h3, h2, h31⟩ : r ≤ 3 ∧ 2 ≤ p ∧ p ≤ 31 := ⟨hD.2.1, hD.2.2.1.1, hD.2.2.1.2⟩
  obtain ⟨y0, x0⟩ := hx 0 (by omega)
  obtain ⟨y1, x1⟩ := hx 1 (by omega)
  obtain ⟨y2, x2⟩ := hx 2 (by omega)
  obtain ⟨y3, x3⟩ := hx 3 (by omega)
  obtain ⟨y4, x4⟩ := hx 4 (by omega)
  obtain ⟨y5, x5⟩ := hx 5 (by omega)
  have tr : ∀ {a b c e g h : Nat}, a < r → b < r → c < r → e < r → g < r → h < r → X12_treeOf 113 a b c e g h d = some (f9 (six a b c e g h)) := fun ha hb hc he hg hh => x12_tree9 hD h14 h17 ha hb hc he hg hh
  have sw : ∀ {a b c : Nat}, a < r → b < r → c < r → X12_swapOf 113 a b c d = some (s9 (thr a b c)) := fun ha hb hc => x12_swap9 hD h14 h18 ha hb hc
  obtain ⟨t, ht⟩ : ∃ t : Nat → Int, t = fun k => (f9 (six (x 2) (x 0) (x 1) (x 3) (x 4) k) * s9 (thr k (x 2) (x 3))) % (p : Int) * f9 (six (x 0) (x 1) (x 2) (x 3) k (x 5)) % (p : Int) := ⟨_, rfl⟩
  have pb : ∀ k, k < r → 0 ≤ f9 (six (x 2) (x 0) (x 1) (x 3) (x 4) k) * s9 (thr k (x 2) (x 3)) ∧ f9 (six (x 2) (x 0) (x 1) (x 3) (x 4) k) * s9 (thr k (x 2) (x 3)) ≤ 30 * 30 := fun k hk => by
    have a1 := hD.f x2 x0 x1 x3 x4 hk
    have a2 := hD.s hk x2 x3
    exact mlb9 (u := 30) (v := 30) (by omega) (by omega)
  have pb2 : ∀ k, k < r → 0 ≤ (f9 (six (x 2) (x 0) (x 1) (x 3) (x 4) k) * s9 (thr k (x 2) (x 3))) % (p : Int) * f9 (six (x 0) (x 1) (x 2) (x 3) k (x 5)) ∧ (f9 (six (x 2) (x 0) (x 1) (x 3) (x 4) k) * s9 (thr k (x 2) (x 3))) % (p : Int) * f9 (six (x 0) (x 1) (x 2) (x 3) k (x 5)) ≤ 30 * 30 := fun k hk => by
    have a1 := em_bd (show 0 < p by omega) (f9 (six (x 2) (x 0) (x 1) (x 3) (x 4) k) * s9 (thr k (x 2) (x 3)))
    have a2 := hD.f x0 x1 x2 x3 hk x5
    exact mlb9 (u := 30) (v := 30) (by omega) (by omega)
  have tb : ∀ k, k < r → 0 ≤ t k ∧ t k ≤ 30 := fun k hk => by
    have := em_bd (show 0 < p by omega) ((f9 (six (x 2) (x 0) (x 1) (x 3) (x 4) k) * s9 (thr k (x 2) (x 3))) % (p : Int) * f9 (six (x 0) (x 1) (x 2) (x 3) k (x 5)))
    rw [ht]; show 0 ≤ _ % (p : Int) ∧ _ % (p : Int) ≤ 30
    omega
  have sb := sm_bd (lo := 0) (hi := 30) r tb
  have hs : 0 ≤ sm r t ∧ sm r t ≤ 90 := by omega
  have tc : cgm p (sm r t) (sm r (hxT f9 s9 x)) := cgm.sm9 r (fun k hk => by
    rw [ht]
    exact (cgm.em _).tr ((cgm.em _).mul (cgm.rf _)))
  have q0 := hD.s x0 x2 x4
  have q1 := hD.f x0 x2 x1 x3 x4 x5
  have q2 := hD.s x1 x2 x5
  have l1 : 0 ≤ s9 (thr (x 0) (x 2) (x 4)) * f9 (six (x 0) (x 2) (x 1) (x 3) (x 4) (x 5)) ∧ s9 (thr (x 0) (x 2) (x 4)) * f9 (six (x 0) (x 2) (x 1) (x 3) (x 4) (x 5)) ≤ 30 * 30 := mlb9 (u := 30) (v := 30) (by omega) (by omega)
  obtain ⟨L, hL⟩ : ∃ L : Int, L = (s9 (thr (x 0) (x 2) (x 4)) * f9 (six (x 0) (x 2) (x 1) (x 3) (x 4) (x 5))) % (p : Int) * s9 (thr (x 1) (x 2) (x 5)) := ⟨_, rfl⟩
  have l2 : 0 ≤ L ∧ L ≤ 30 * 30 := by
    have := em_bd (show 0 < p by omega) (s9 (thr (x 0) (x 2) (x 4)) * f9 (six (x 0) (x 2) (x 1) (x 3) (x 4) (x 5)))
    rw [hL]
    exact mlb9 (u := 30) (v := 30) (by omega) (by omega)
  have lc : cgm p L (hxL f9 s9 x) := by rw [hL]; exact (cgm.em _).mul (cgm.rf _)
  have eJ : X12_hexagonHolds 113 d = if Int.tmod (L - sm r t) (p : Int) = 0 then some 1 else some 0 := by
    unfold X12_hexagonHolds
    simp only [gd_pos (show ix 0 9 by decide), gd_pos (show ix 1 9 by decide), gd_pos (show ix 2 9 by decide), gd_pos (show ix 3 9 by decide), gd_pos (show ix 4 9 by decide), gd_pos (show ix 5 9 by decide), lt_pos, show (113 + 23 : Nat) = 136 from rfl, show Int.toNat 0 = 0 from rfl, show Int.toNat 1 = 1 from rfl, show Int.toNat 2 = 2 from rfl, show Int.toNat 3 = 3 from rfl, show Int.toNat 4 = 4 from rfl, show Int.toNat 5 = 5 from rfl, y0, y1, y2, y3, y4, y5]
    refine (lpS9 (r := r) t (by omega) (fun i hi => ?_) ?_).trans ?_
    · show X12_hexagonHolds_b51 113 _ _ _ _ _ _ (sm i t) (i : Int) d = _
      unfold X12_hexagonHolds_b51
      have g1 := pb i hi
      have g2 := pb2 i hi
      rw [hr, gd_pos (by omega), if_neg (by omega), b1_pos (tr x2 x0 x1 x3 x4 hi), b1_pos (sw hi x2 x3), hp, gd_pos (by unfold dvg; omega), b1_pos (tr x0 x1 x2 x3 hi x5), tm_em g1.1, gd_pos (by unfold dvg; omega), lt_pos, tm_em g2.1]
      rw [ht]
      rfl
    · show X12_hexagonHolds_b51 113 _ _ _ _ _ _ (sm r t) (r : Int) d = _
      unfold X12_hexagonHolds_b51
      rw [hr, gd_pos (by omega), if_pos (by omega)]
    · unfold X12_hexagonHolds_j118
      have tmb := tm_bd (show 0 < p by omega) (L - sm r t)
      rw [b1_pos (sw x0 x2 x4), b1_pos (tr x0 x2 x1 x3 x4 x5), hp, gd_pos (by unfold dvg; omega), b1_pos (sw x1 x2 x5), tm_em l1.1, ← hL, gd_pos (by unfold dvg; omega), gd_pos (by omega)]
  rw [eJ]
  have iff : Int.tmod (L - sm r t) (p : Int) = 0 ↔ hxH f9 s9 p r x := by
    rw [tm_iff]
    unfold hxH
    constructor
    · intro z
      have : cgm p L (sm r t) := by unfold cgm at z ⊢; rwa [Int.sub_zero] at z
      exact lc.sy.tr (this.tr tc)
    · intro z
      have := (lc.tr z).tr tc.sy
      unfold cgm at this ⊢
      rwa [Int.sub_zero]
  exact ⟨fun z => if_pos (iff.mpr z), fun z => if_neg (fun y => z (iff.mp y))⟩
/-- a shape is wrong: noted -/
theorem x12_wrong {d : DA} {g : Int → Int → DA → Option (Unit × DA)} {M w : Nat} {x : Nat → Nat} (hM : M ≤ 9) (hw : d.1 113 51 = w) (hw9 : w ≤ 100001) (hx : ∀ q, q < M → d.1 136 q = (x q : Nat)) : ∃ h, X12_shapeOn_j128 113 g M d = some ((), wI (wA d 137 h) 113 51 ((w : Int) + 1)) ∧ (w = 0 → ∀ q, q < M → h q = (x q : Nat)) ∧ (w ≠ 0 → h = d.1 137) := by
  by_cases c : w = 0
  · refine ⟨pre (d.1 137) (fun q => (x q : Nat)) M, ?_, fun _ q hq => pre_lt hq, fun z => absurd c z⟩
    unfold X12_shapeOn_j128
    refine (lpE_row (d := d) 137 M (fun q => ((x q : Nat) : Int)) (by omega) (fun i hi => ?_) ?_).trans ?_
    · show X12_shapeOn_b130 113 g M (i : Int) _ = _
      unfold X12_shapeOn_b130
      have e1 : (wA d 137 (pre (d.1 137) (fun q => ((x q : Nat) : Int)) i)).1 113 51 = w := by rw [wA_ne (by decide)]; exact hw
      have e2 : (wA d 137 (pre (d.1 137) (fun q => ((x q : Nat) : Int)) i)).1 (113 + 23) i = (x i : Nat) := by
        show (wA d 137 (pre (d.1 137) (fun q => ((x q : Nat) : Int)) i)).1 136 i = _
        rw [wA_ne (by decide)]; exact hx i hi
      rw [gd_pos (by omega), if_neg (by omega), e1, gd_pos (by omega), if_pos (by omega), gd_pos (by omega), gd_pos (by omega), lt_pos, Int.toNat_natCast, e2]
    · show X12_shapeOn_b130 113 g M (M : Int) _ = _
      unfold X12_shapeOn_b130
      rw [gd_pos (by omega), if_pos (by omega)]
    · unfold X12_shapeOn_j160
      have e1 : (wA d 137 (pre (d.1 137) (fun q => ((x q : Nat) : Int)) M)).1 113 51 = w := by rw [wA_ne (by decide)]; exact hw
      rw [lt_pos, e1]
  · refine ⟨d.1 137, ?_, fun z => absurd z c, fun _ => rfl⟩
    rw [wA_same]
    unfold X12_shapeOn_j128
    refine (lpE_for (fun _ => ((0 : Int), d)) 0 d rfl (by omega) (fun i hi => absurd hi (Nat.not_lt_zero _)) ?_).trans ?_
    · show X12_shapeOn_b130 113 g M 0 d = _
      unfold X12_shapeOn_b130
      rw [gd_pos (by omega)]
      by_cases cM : M = 0
      · rw [if_pos (by omega)]
      · rw [if_neg (by omega), hw, gd_pos (by omega), if_neg (by omega)]
    · unfold X12_shapeOn_j160
      rw [lt_pos, hw]
theorem RA9.wrong {M w : Nat} {d D : DA} {s : Ac9} {x : Nat → Nat} {h : Nat → Int} (hR : RA9 M d s) (hD : D = wI d 113 50 ((s.1 : Int) + 1)) (h0 : s.2.1 = 0 → ∀ q, q < M → h q = (x q : Nat)) (h1 : s.2.1 ≠ 0 → h = D.1 137) : RA9 M (wI (wA D 137 h) 113 51 ((s.2.1 : Int) + 1)) (lf9a true false x s) := by
  obtain ⟨a1, a2, a3⟩ := hR
  refine ⟨?_, ?_, fun _ q hq => ?_⟩
  · rw [wI_at, fu_n (by decide), wA_ne (by decide), hD, wI_at, fu_s]
    show (s.1 : Int) + 1 = ((s.1 + 1 : Nat) : Int)
    omega
  · rw [wI_at, fu_s]
    show (s.2.1 : Int) + 1 = ((s.2.1 + 1 : Nat) : Int)
    omega
  · rw [wI_ne (by decide), wA_at]
    show h q = (((if s.2.1 = 0 then x else s.2.2) q : Nat) : Int)
    by_cases c : s.2.1 = 0
    · rw [if_pos c]; exact h0 c q hq
    · rw [if_neg c, h1 c, hD, wI_ne (by decide)]
      exact a3 c q hq
theorem RA9.right {M : Nat} {d : DA} {s : Ac9} {x : Nat → Nat} (hR : RA9 M d s) : RA9 M (wI d 113 50 ((s.1 : Int) + 1)) (lf9a true true x s) := by
  obtain ⟨a1, a2, a3⟩ := hR
  refine ⟨?_, ?_, fun z q hq => ?_⟩
  · rw [wI_at, fu_s]
    show (s.1 : Int) + 1 = ((s.1 + 1 : Nat) : Int)
    omega
  · rw [wI_at, fu_n (by decide)]; exact a2
  · rw [wI_ne (by decide)]; exact a3 z q hq

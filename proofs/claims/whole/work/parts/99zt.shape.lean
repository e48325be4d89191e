/-! ===== pentagons and hexagons: what both sides count ===== -/
def TrD (n f f9 s s9 : Nat → Int) (r p : Nat) : Prop := TG n r ∧ r ≤ 3 ∧ (2 ≤ p ∧ p ≤ 31) ∧ FG n f f9 r ∧ RG n s s9 r ∧ (∀ q, q < 729 → 0 ≤ f q ∧ f q < p) ∧ (∀ q, q < 27 → 0 ≤ s q ∧ s q < p)
theorem TrD.f {n f f9 s s9 : Nat → Int} {r p : Nat} (h : TrD n f f9 s s9 r p) {a b c d e g : Nat} (ha : a < r) (hb : b < r) (hc : c < r) (hd : d < r) (he : e < r) (hg : g < r) : 0 ≤ f9 (six a b c d e g) ∧ f9 (six a b c d e g) < p := h.2.2.2.1.bd h.2.2.1.1 h.2.2.2.2.2.1 h.2.1 ha hb hc hd he hg
theorem TrD.s {n f f9 s s9 : Nat → Int} {r p : Nat} (h : TrD n f f9 s s9 r p) {a b c : Nat} (ha : a < r) (hb : b < r) (hc : c < r) : 0 ≤ s9 (thr a b c) ∧ s9 (thr a b c) < p := h.2.2.2.2.1.bd h.2.2.1.1 h.2.2.2.2.2.2 h.2.1 ha hb hc
theorem x12_tree9 {d : DA} {n f f9 s s9 : Nat → Int} {r p a b c e g h : Nat} (hD : TrD n f f9 s s9 r p) (h14 : d.1 114 = n) (h17 : d.1 117 = f) (ha : a < r) (hb : b < r) (hc : c < r) (he : e < r) (hg : g < r) (hh : h < r) : X12_treeOf 113 a b c e g h d = some (f9 (six a b c e g h)) := by
  have h3 := hD.2.1
  have hn : Nb d 113 := fun j hj => by show 0 ≤ d.1 114 j ∧ d.1 114 j ≤ 9; rw [h14]; exact hD.1.2.1 j hj
  obtain ⟨x1, x2⟩ := x12_treeOf (d := d) (a := a) (b := b) (c := c) (e := e) (g := g) (h := h) hn (by omega) (by omega) (by omega) (by omega) (by omega) (by omega)
  obtain ⟨y1, y2⟩ := hD.2.2.2.1 a b c e g h ha hb hc he hg hh
  rw [h14, h17] at x1
  rw [h14] at x2
  by_cases cs : isTr n a b c e g h
  · rw [x1 cs, y1 cs]
  · rw [x2 cs, y2 cs]
theorem x12_swap9 {d : DA} {n f f9 s s9 : Nat → Int} {r p a b c : Nat} (hD : TrD n f f9 s s9 r p) (h14 : d.1 114 = n) (h18 : d.1 118 = s) (ha : a < r) (hb : b < r) (hc : c < r) : X12_swapOf 113 a b c d = some (s9 (thr a b c)) := by
  have h3 := hD.2.1
  have hn : Nb d 113 := fun j hj => by show 0 ≤ d.1 114 j ∧ d.1 114 j ≤ 9; rw [h14]; exact hD.1.2.1 j hj
  obtain ⟨x1, x2⟩ := x12_swapOf (d := d) (a := a) (b := b) (c := c) hn (by omega) (by omega) (by omega)
  obtain ⟨y1, y2⟩ := hD.2.2.2.2.1 a b c ha hb hc
  rw [h14, h18] at x1
  rw [h14] at x2
  by_cases cs : n (ti a b c) = 1
  · rw [x1 cs, y1 cs]
  · rw [x2 cs, y2 cs]
def pnL (F : Nat → Int) (x : Nat → Nat) : Int := F (six (x 5) (x 2) (x 3) (x 4) (x 6) (x 8)) * F (six (x 0) (x 1) (x 8) (x 4) (x 5) (x 7))
def pnT (F : Nat → Int) (x : Nat → Nat) (h : Nat) : Int := F (six (x 0) (x 1) (x 2) (x 6) (x 5) h) * F (six (x 0) h (x 3) (x 4) (x 6) (x 7)) * F (six (x 1) (x 2) (x 3) (x 7) h (x 8))
def pnH (F : Nat → Int) (p r : Nat) (x : Nat → Nat) : Prop := cgm p (pnL F x) (sm r (pnT F x))
def hxL (F R : Nat → Int) (x : Nat → Nat) : Int := R (thr (x 0) (x 2) (x 4)) * F (six (x 0) (x 2) (x 1) (x 3) (x 4) (x 5)) * R (thr (x 1) (x 2) (x 5))
def hxT (F R : Nat → Int) (x : Nat → Nat) (k : Nat) : Int := F (six (x 2) (x 0) (x 1) (x 3) (x 4) k) * R (thr k (x 2) (x 3)) * F (six (x 0) (x 1) (x 2) (x 3) k (x 5))
def hxH (F R : Nat → Int) (p r : Nat) (x : Nat → Nat) : Prop := cgm p (hxL F R x) (sm r (hxT F R x))
theorem tri_bd {a b c : Int} {p : Nat} (h31 : p ≤ 31) (ha : 0 ≤ a ∧ a < p) (hb : 0 ≤ b ∧ b < p) (hc : 0 ≤ c ∧ c < p) : 0 ≤ a * b * c ∧ a * b * c ≤ 27000 := by
  have h1 := mlb9 (u := 30) (v := 30) (show 0 ≤ a ∧ a ≤ 30 by omega) (show 0 ≤ b ∧ b ≤ 30 by omega)
  have h2 := mlb9 (u := 900) (v := 30) (show 0 ≤ a * b ∧ a * b ≤ 900 by omega) (show 0 ≤ c ∧ c ≤ 30 by omega)
  omega
/-- the class's pentagon -/
theorem x9_pent {d : DA} {o a1 n1 fr r p : Nat} {F : Nat → Int} {x : Nat → Nat} (hr : d.1 (o - 6) 0 = r) (h3 : r ≤ 3) (hp : d.1 58 0 = p) (h2 : 2 ≤ p) (h31 : p ≤ 31) (hF : d.1 (o + 1) = F) (hb : ∀ a b c e g h, a < r → b < r → c < r → e < r → g < r → h < r → 0 ≤ F (six a b c e g h) ∧ F (six a b c e g h) < p) (hx : ∀ q, q < 9 → x q < r) (hn : fr + 4 < n1) (hn2 : n1 < 2147483648)
    (p0 : d.1 a1 fr = (six (x 5) (x 2) (x 3) (x 4) (x 6) (x 8) : Nat)) (p1 : d.1 a1 (fr + 1) = (six (x 0) (x 1) (x 8) (x 4) (x 5) (x 7) : Nat)) (p2 : d.1 a1 (fr + 2) = (six (x 0) (x 1) (x 2) (x 6) (x 5) 0 : Nat)) (p3 : d.1 a1 (fr + 3) = (six (x 0) 0 (x 3) (x 4) (x 6) (x 7) : Nat)) (p4 : d.1 a1 (fr + 4) = (six (x 1) (x 2) (x 3) (x 7) 0 (x 8) : Nat)) :
    (pnH F p r x → X9_pentagonHolds o a1 n1 58 fr d = some 1) ∧ (¬ pnH F p r x → X9_pentagonHolds o a1 n1 58 fr d = some 0) := by
  have x0 := hx 0 (by omega)
  have x1 := hx 1 (by omega)
  have x2 := hx 2 (by omega)
  have x3 := hx 3 (by omega)
  have x4 := hx 4 (by omega)
  have x5 := hx 5 (by omega)
  have x6 := hx 6 (by omega)
  have x7 := hx 7 (by omega)
  have x8 := hx 8 (by omega)
  have tb : ∀ h, h < r → 0 ≤ pnT F x h ∧ pnT F x h ≤ 27000 := fun h hh => tri_bd h31 (hb _ _ _ _ _ _ x0 x1 x2 x6 x5 hh) (hb _ _ _ _ _ _ x0 hh x3 x4 x6 x7) (hb _ _ _ _ _ _ x1 x2 x3 x7 hh x8)
  have eL : X9_pentagonHolds o a1 n1 58 fr d = X9_pentagonHolds_j75 o a1 n1 58 fr (sm r (pnT F x)) d := by
    unfold X9_pentagonHolds
    refine lpS9 (pnT F x) (by omega) (fun i hi => ?_) ?_
    · show X9_pentagonHolds_b6 o a1 n1 58 fr (sm i (pnT F x)) (i : Int) d = _
      unfold X9_pentagonHolds_b6
      have e2 : ((fr : Int) + 2).toNat = fr + 2 := by omega
      have e3 : ((fr : Int) + 3).toNat = fr + 3 := by omega
      have e4 : ((fr : Int) + 4).toNat = fr + 4 := by omega
      have s2 : ((six (x 0) (x 1) (x 2) (x 6) (x 5) 0 : Nat) : Int) + (i : Int) = ((six (x 0) (x 1) (x 2) (x 6) (x 5) i : Nat) : Int) := by unfold six; omega
      have s3 : ((six (x 0) 0 (x 3) (x 4) (x 6) (x 7) : Nat) : Int) + 81 * (i : Int) = ((six (x 0) i (x 3) (x 4) (x 6) (x 7) : Nat) : Int) := by unfold six; omega
      have s4 : ((six (x 1) (x 2) (x 3) (x 7) 0 (x 8) : Nat) : Int) + 3 * (i : Int) = ((six (x 1) (x 2) (x 3) (x 7) i (x 8) : Nat) : Int) := by unfold six; omega
      have l2 : six (x 0) (x 1) (x 2) (x 6) (x 5) i < 729 := by unfold six; omega
      have l3 : six (x 0) i (x 3) (x 4) (x 6) (x 7) < 729 := by unfold six; omega
      have l4 : six (x 1) (x 2) (x 3) (x 7) i (x 8) < 729 := by unfold six; omega
      rw [hr, gd_pos (by omega), if_neg (by omega), gd_pos (by omega), e2, p2, s2, gd_pos (by omega), gd_pos (by omega), e3, p3, s3, gd_pos (by omega), gd_pos (by omega), e4, p4, s4, gd_pos (by omega), lt_pos, hF, Int.toNat_natCast, Int.toNat_natCast, Int.toNat_natCast]
      rfl
    · show X9_pentagonHolds_b6 o a1 n1 58 fr (sm r (pnT F x)) (r : Int) d = _
      unfold X9_pentagonHolds_b6
      rw [hr, gd_pos (by omega), if_pos (by omega)]
  have sb := sm_bd (lo := 0) (hi := 27000) r tb
  have l0 : six (x 5) (x 2) (x 3) (x 4) (x 6) (x 8) < 729 := by unfold six; omega
  have l1 : six (x 0) (x 1) (x 8) (x 4) (x 5) (x 7) < 729 := by unfold six; omega
  have q0 := hb _ _ _ _ _ _ x5 x2 x3 x4 x6 x8
  have q1 := hb _ _ _ _ _ _ x0 x1 x8 x4 x5 x7
  have lb : 0 ≤ pnL F x ∧ pnL F x ≤ 30 * 30 := mlb9 (u := 30) (v := 30) (by omega) (by omega)
  have e1 : ((fr : Int) + 1).toNat = fr + 1 := by omega
  have hpl : F (six (x 5) (x 2) (x 3) (x 4) (x 6) (x 8)) * F (six (x 0) (x 1) (x 8) (x 4) (x 5) (x 7)) = pnL F x := rfl
  have hs : 0 ≤ sm r (pnT F x) ∧ sm r (pnT F x) ≤ 81000 := by
    have : (r : Int) * 27000 ≤ 81000 := by omega
    omega
  have eJ : X9_pentagonHolds o a1 n1 58 fr d = if pnL F x % (p : Int) = sm r (pnT F x) % (p : Int) then some 1 else some 0 := by
    rw [eL]
    unfold X9_pentagonHolds_j75
    have b1 := em_bd (show 0 < p by omega) (pnL F x)
    have b2 := em_bd (show 0 < p by omega) (sm r (pnT F x))
    rw [gd_pos (by omega), Int.toNat_natCast, p0, gd_pos (by omega), gd_pos (by omega), e1, p1, gd_pos (by omega), Int.toNat_natCast, Int.toNat_natCast, hF, hpl, b1_pos (x3_reduce hp h2 h31 (by omega) (by omega)), b1_pos (x3_reduce hp h2 h31 (by omega) (by omega)), gd_pos (by omega)]
  rw [eJ]
  exact ⟨fun z => if_pos ((em_iff (by omega)).mpr z), fun z => if_neg (fun y => z ((em_iff (by omega)).mp y))⟩
/-- the reference's pentagon -/
theorem x12_pent {d : DA} {n f f9 s s9 : Nat → Int} {r p : Nat} {x : Nat → Nat} (hD : TrD n f f9 s s9 r p) (h14 : d.1 114 = n) (h17 : d.1 117 = f) (hr : d.1 113 1 = r) (hp : d.1 113 4 = p) (hx : ∀ q, q < 9 → d.1 136 q = x q ∧ x q < r) : (pnH f9 p r x → X12_pentagonHolds 113 d = some 1) ∧ (¬ pnH f9 p r x → X12_pentagonHolds 113 d = some 0) := by
  obtain ⟨h3, h2, h31⟩ : r ≤ 3 ∧ 2 ≤ p ∧ p ≤ 31 := ⟨hD.2.1, hD.2.2.1.1, hD.2.2.1.2⟩
  obtain ⟨y0, x0⟩ := hx 0 (by omega)
  obtain ⟨y1, x1⟩ := hx 1 (by omega)
  obtain ⟨y2, x2⟩ := hx 2 (by omega)
  obtain ⟨y3, x3⟩ := hx 3 (by omega)
  obtain ⟨y4, x4⟩ := hx 4 (by omega)
  obtain ⟨y5, x5⟩ := hx 5 (by omega)
  obtain ⟨y6, x6⟩ := hx 6 (by omega)
  obtain ⟨y7, x7⟩ := hx 7 (by omega)
  obtain ⟨y8, x8⟩ := hx 8 (by omega)
  have tr : ∀ {a b c e g h : Nat}, a < r → b < r → c < r → e < r → g < r → h < r → X12_treeOf 113 a b c e g h d = some (f9 (six a b c e g h)) := fun ha hb hc he hg hh => x12_tree9 hD h14 h17 ha hb hc he hg hh
  obtain ⟨t, ht⟩ : ∃ t : Nat → Int, t = fun h => (f9 (six (x 0) (x 1) (x 2) (x 6) (x 5) h) * f9 (six (x 0) h (x 3) (x 4) (x 6) (x 7))) % (p : Int) * f9 (six (x 1) (x 2) (x 3) (x 7) h (x 8)) % (p : Int) := ⟨_, rfl⟩
  have pb : ∀ h, h < r → (0 ≤ f9 (six (x 0) (x 1) (x 2) (x 6) (x 5) h) * f9 (six (x 0) h (x 3) (x 4) (x 6) (x 7)) ∧ f9 (six (x 0) (x 1) (x 2) (x 6) (x 5) h) * f9 (six (x 0) h (x 3) (x 4) (x 6) (x 7)) ≤ 30 * 30) := fun h hh => by
    have a1 := hD.f x0 x1 x2 x6 x5 hh
    have a2 := hD.f x0 hh x3 x4 x6 x7
    exact mlb9 (u := 30) (v := 30) (by omega) (by omega)
  have pb2 : ∀ h, h < r → (0 ≤ (f9 (six (x 0) (x 1) (x 2) (x 6) (x 5) h) * f9 (six (x 0) h (x 3) (x 4) (x 6) (x 7))) % (p : Int) * f9 (six (x 1) (x 2) (x 3) (x 7) h (x 8)) ∧ (f9 (six (x 0) (x 1) (x 2) (x 6) (x 5) h) * f9 (six (x 0) h (x 3) (x 4) (x 6) (x 7))) % (p : Int) * f9 (six (x 1) (x 2) (x 3) (x 7) h (x 8)) ≤ 30 * 30) := fun h hh => by
    have a1 := em_bd (show 0 < p by omega) (f9 (six (x 0) (x 1) (x 2) (x 6) (x 5) h) * f9 (six (x 0) h (x 3) (x 4) (x 6) (x 7)))
    have a2 := hD.f x1 x2 x3 x7 hh x8
    exact mlb9 (u := 30) (v := 30) (by omega) (by omega)
  have tb : ∀ h, h < r → 0 ≤ t h ∧ t h ≤ 30 := fun h hh => by
    have := em_bd (show 0 < p by omega) ((f9 (six (x 0) (x 1) (x 2) (x 6) (x 5) h) * f9 (six (x 0) h (x 3) (x 4) (x 6) (x 7))) % (p : Int) * f9 (six (x 1) (x 2) (x 3) (x 7) h (x 8)))
    rw [ht]; show 0 ≤ _ % (p : Int) ∧ _ % (p : Int) ≤ 30
    omega
  have sb := sm_bd (lo := 0) (hi := 30) r tb
  have hs : 0 ≤ sm r t ∧ sm r t ≤ 90 := by omega
  have tc : cgm p (sm r t) (sm r (pnT f9 x)) := cgm.sm9 r (fun h hh => by
    rw [ht]
    exact (cgm.em _).tr ((cgm.em _).mul (cgm.rf _)))
  have q0 := hD.f x5 x2 x3 x4 x6 x8
  have q1 := hD.f x0 x1 x8 x4 x5 x7
  have lb : 0 ≤ pnL f9 x ∧ pnL f9 x ≤ 30 * 30 := mlb9 (u := 30) (v := 30) (by omega) (by omega)
  have eJ : X12_pentagonHolds 113 d = if Int.tmod (pnL f9 x - sm r t) (p : Int) = 0 then some 1 else some 0 := by
    unfold X12_pentagonHolds
    simp only [gd_pos (show ix 0 9 by decide), gd_pos (show ix 1 9 by decide), gd_pos (show ix 2 9 by decide), gd_pos (show ix 3 9 by decide), gd_pos (show ix 4 9 by decide), gd_pos (show ix 5 9 by decide), gd_pos (show ix 6 9 by decide), gd_pos (show ix 7 9 by decide), gd_pos (show ix 8 9 by decide), lt_pos, show (113 + 23 : Nat) = 136 from rfl, show Int.toNat 0 = 0 from rfl, show Int.toNat 1 = 1 from rfl, show Int.toNat 2 = 2 from rfl, show Int.toNat 3 = 3 from rfl, show Int.toNat 4 = 4 from rfl, show Int.toNat 5 = 5 from rfl, show Int.toNat 6 = 6 from rfl, show Int.toNat 7 = 7 from rfl, show Int.toNat 8 = 8 from rfl, y0, y1, y2, y3, y4, y5, y6, y7, y8]
    refine (lpS9 (r := r) t (by omega) (fun i hi => ?_) ?_).trans ?_
    · show X12_pentagonHolds_b78 113 _ _ _ _ _ _ _ _ _ (sm i t) (i : Int) d = _
      unfold X12_pentagonHolds_b78
      have g1 := pb i hi
      have g2 := pb2 i hi
      rw [hr, gd_pos (by omega), if_neg (by omega), b1_pos (tr x0 x1 x2 x6 x5 hi), b1_pos (tr x0 hi x3 x4 x6 x7), hp, gd_pos (by unfold dvg; omega), b1_pos (tr x1 x2 x3 x7 hi x8), tm_em g1.1, gd_pos (by unfold dvg; omega), lt_pos, tm_em g2.1]
      rw [ht]
      rfl
    · show X12_pentagonHolds_b78 113 _ _ _ _ _ _ _ _ _ (sm r t) (r : Int) d = _
      unfold X12_pentagonHolds_b78
      rw [hr, gd_pos (by omega), if_pos (by omega)]
    · unfold X12_pentagonHolds_j152
      have hpl : f9 (six (x 5) (x 2) (x 3) (x 4) (x 6) (x 8)) * f9 (six (x 0) (x 1) (x 8) (x 4) (x 5) (x 7)) = pnL f9 x := rfl
      have tmb : -2147483648 ≤ Int.tmod (pnL f9 x - sm r t) (p : Int) ∧ Int.tmod (pnL f9 x - sm r t) (p : Int) < 2147483648 := by
        have w1 := tm_bd (show 0 < p by omega) (pnL f9 x - sm r t)
        omega
      rw [b1_pos (tr x5 x2 x3 x4 x6 x8), b1_pos (tr x0 x1 x8 x4 x5 x7), hpl, hp, gd_pos (by unfold dvg; omega), gd_pos (by omega)]
  rw [eJ]
  have iff : Int.tmod (pnL f9 x - sm r t) (p : Int) = 0 ↔ pnH f9 p r x := by
    rw [tm_iff]
    unfold pnH
    constructor
    · intro z
      have : cgm p (pnL f9 x) (sm r t) := by unfold cgm at z ⊢; rwa [Int.sub_zero] at z
      exact this.tr tc
    · intro z
      have := z.tr tc.sy
      unfold cgm at this ⊢
      rwa [Int.sub_zero]
  exact ⟨fun z => if_pos (iff.mpr z), fun z => if_neg (fun y => z (iff.mp y))⟩

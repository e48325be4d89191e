/-! ===== the class's token ===== -/
def CT9 (B : Nat → Int) (n s : Nat) (f : Nat → Int) : Prop := f 2 = tE B n s ∧ f 3 = s ∧ (tR B n s = 0 → f 4 = 0) ∧ (tR B n s = 1 → (tW B s (tE B n s) 0 → f 4 = 1) ∧ (¬ tW B s (tE B n s) 0 → tW B s (tE B n s) 1 → f 4 = 2) ∧ (¬ tW B s (tE B n s) 0 → ¬ tW B s (tE B n s) 1 → f 4 = 6)) ∧ (tR B n s = 2 → (tE B n s - s ≤ 3 → f 4 = 3 ∧ f 5 = nV B s (tE B n s - s)) ∧ (¬ tE B n s - s ≤ 3 → f 4 = 4)) ∧ (tR B n s = 3 → f 4 = 5 ∧ f 5 = B s) ∧ (tR B n s = 4 → f 4 = 6)
theorem x4_readWord {B : Nat → Int} {n s : Nat} {d : DA} (hB : Tp9 B n) (h44 : ∀ j, j < n → d.1 44 j = B j) (h1 : d.1 45 1 = n) (h2 : d.1 45 2 = s) (h3 : d.1 45 3 = s) (hs : s < n) (hl : bL (B s) = true) : ∃ f, X4_readWord 45 d = some ((), wA d 45 f) ∧ f 2 = (aeN (fun j => bL (B j)) n s : Nat) ∧ (∀ j, j ≠ 2 → j ≠ 4 → f j = d.1 45 j) ∧ (tW B s (aeN (fun j => bL (B j)) n s) 0 → f 4 = 1) ∧ (¬ tW B s (aeN (fun j => bL (B j)) n s) 0 → tW B s (aeN (fun j => bL (B j)) n s) 1 → f 4 = 2) ∧ (¬ tW B s (aeN (fun j => bL (B j)) n s) 0 → ¬ tW B s (aeN (fun j => bL (B j)) n s) 1 → f 4 = 6) := by
  have hn := hB.1
  have hv := hB.2 s hs
  have eL : aeN (fun j => bL (B j)) n s = aeN (fun j => bL (B j)) n (s + 1) := aeN_in ⟨hs, hl⟩
  obtain ⟨a1, a2, -, -⟩ := aeN_sp (P := fun j => bL (B j)) (n := n) (q := s + 1) (by omega)
  have e1 : X4_readWord 45 d = X4_readWord_j39 45 (wA (wI d 45 2 ((s : Int) + 1)) 45 (fu ((wI d 45 2 ((s : Int) + 1)).1 45) 2 (aeN (fun j => bL (B j)) n (s + 1) : Int))) := by
    unfold X4_readWord
    have e44 : d.1 (45 - 1) (Int.toNat (s : Int)) = B s := by rw [Int.toNat_natCast]; exact h44 s hs
    rw [h1, h2, gd_pos (by omega), if_neg (by omega), gd_pos (by omega), e44, b1_pos (x4_isL (by omega)), if_pos hl, gd_pos (by decide), if_neg (by decide), lt_pos]
    refine lp_ae (P := fun j => bL (B j)) (q := s + 1) hn (by rw [wI_at, fu_s]; omega) (by omega) (fun u hu => ?_)
    generalize hD : wA (wI d 45 2 ((s : Int) + 1)) 45 (fu ((wI d 45 2 ((s : Int) + 1)).1 45) 2 (u : Int)) = D
    have D2 : D.1 45 2 = u := by rw [← hD, wA_at, fu_s]
    have D1 : D.1 45 1 = n := by rw [← hD, wA_at, fu_n (by decide), wI_at, fu_n (by decide)]; exact h1
    have D44 : D.1 (45 - 1) (Int.toNat (u : Int)) = d.1 44 u := by rw [← hD, wA_ne (by decide), wI_ne (by decide), Int.toNat_natCast]
    unfold X4_readWord_b0
    rw [D1, D2, D44, gd_pos (by omega)]
    by_cases c : u < n
    · have hw := hB.2 u c
      rw [if_neg (by omega), gd_pos (by omega), h44 u c, b1_pos (x4_isL (by omega))]
      by_cases c2 : bL (B u) = true
      · rw [if_pos c2, gd_pos (by decide), if_neg (by decide), lt_pos, if_pos ⟨c, c2⟩]
      · rw [if_neg c2, gd_pos (by decide), if_pos rfl, if_neg (fun z => c2 z.2)]
    · rw [if_pos (by omega), if_neg (fun z => c z.1)]
  rw [eL, e1]
  generalize aeN (fun j => bL (B j)) n (s + 1) = e at a1 a2
  generalize hD : wA (wI d 45 2 ((s : Int) + 1)) 45 (fu ((wI d 45 2 ((s : Int) + 1)).1 45) 2 (e : Int)) = D
  have hD' : D = wA d 45 (fu (d.1 45) 2 (e : Int)) := by
    rw [← hD, wI_A, wA_wA, wA_at]
    congr 1
    funext j
    by_cases z : j = 2
    · subst z; rw [fu_s, fu_s]
    · rw [fu_n z, fu_n z, fu_n z]
  have D2 : D.1 45 2 = e := by rw [hD', wA_at, fu_s]
  have D3 : D.1 45 3 = s := by rw [hD', wA_at, fu_n (by decide)]; exact h3
  have D44 : ∀ j, j < n → D.1 44 j = B j := fun j hj => by rw [hD', wA_ne (by decide)]; exact h44 j hj
  obtain ⟨v0, w0, y0⟩ := x4_isWord (a := 0) hB (by decide) D44 D3 D2 (by omega)
  obtain ⟨v1, w1, y1⟩ := x4_isWord (a := 1) hB (by decide) D44 D3 D2 (by omega)
  have fin : ∀ t : Int, wI D 45 4 t = wA d 45 (fu (fu (d.1 45) 2 (e : Int)) 4 t) := fun t => by rw [hD', wA_wI]
  unfold X4_readWord_j39
  rw [b1_pos w0]
  rcases y0 with ⟨rfl, y0⟩ | ⟨rfl, y0⟩
  · rw [gd_pos (by decide), if_neg (by decide), lt_pos, fin]
    exact ⟨_, rfl, rfl, fun j z2 z4 => by rw [fu_n z4, fu_n z2], fun _ => rfl, fun z => absurd y0 z, fun z => absurd y0 z⟩
  · rw [gd_pos (by decide), if_pos rfl, b1_pos w1]
    rcases y1 with ⟨rfl, y1⟩ | ⟨rfl, y1⟩
    · rw [gd_pos (by decide), if_neg (by decide), lt_pos, fin]
      exact ⟨_, rfl, rfl, fun j z2 z4 => by rw [fu_n z4, fu_n z2], fun z => absurd z y0, fun _ _ => rfl, fun _ z => absurd y1 z⟩
    · rw [gd_pos (by decide), if_pos rfl, lt_pos, fin]
      exact ⟨_, rfl, rfl, fun j z2 z4 => by rw [fu_n z4, fu_n z2], fun z => absurd z y0, fun _ z => absurd z y1, fun _ _ => rfl⟩
def nG (B : Nat → Int) (s : Nat) (f : Nat → Int) (t : Nat) : Nat → Int := fu (fu f 5 (nV B s (min t 3))) 2 ((s + t : Nat) : Int)
theorem x4_readNumber {B : Nat → Int} {n s : Nat} {d : DA} (hB : Tp9 B n) (h44 : ∀ j, j < n → d.1 44 j = B j) (h1 : d.1 45 1 = n) (h2 : d.1 45 2 = s) (h3 : d.1 45 3 = s) (hs : s ≤ n) : ∃ f, X4_readNumber 45 d = some ((), wA d 45 f) ∧ f 2 = (aeN (fun j => bD (B j)) n s : Nat) ∧ (∀ j, j ≠ 2 → j ≠ 4 → j ≠ 5 → f j = d.1 45 j) ∧ (aeN (fun j => bD (B j)) n s - s ≤ 3 → f 4 = 3 ∧ f 5 = nV B s (aeN (fun j => bD (B j)) n s - s)) ∧ (¬ aeN (fun j => bD (B j)) n s - s ≤ 3 → f 4 = 4) := by
  have hn := hB.1
  obtain ⟨a1, a2, a3, a4⟩ := aeN_sp (P := fun j => bD (B j)) (n := n) (q := s) hs
  generalize aeN (fun j => bD (B j)) n s = e at a1 a2 a3 a4
  have n1 : ∀ t, nG B s (d.1 45) t 1 = n := fun t => by unfold nG; rw [fu_n (by decide), fu_n (by decide)]; exact h1
  have n2 : ∀ t, nG B s (d.1 45) t 2 = ((s + t : Nat) : Int) := fun t => by unfold nG; rw [fu_s]
  have n3 : ∀ t, nG B s (d.1 45) t 3 = s := fun t => by unfold nG; rw [fu_n (by decide), fu_n (by decide)]; exact h3
  have n5 : ∀ t, nG B s (d.1 45) t 5 = nV B s (min t 3) := fun t => by unfold nG; rw [fu_n (by decide), fu_s]
  have no : ∀ t j, j ≠ 2 → j ≠ 5 → nG B s (d.1 45) t j = d.1 45 j := fun t j z2 z5 => by unfold nG; rw [fu_n z2, fu_n z5]
  have st : ∀ t, fu (nG B s (d.1 45) t) 2 ((s + t : Nat) + 1 : Int) = fu (fu (nG B s (d.1 45) t) 5 (nV B s (min t 3))) 2 ((s + t : Nat) + 1 : Int) := fun t => by
    congr 1
    funext j
    by_cases z : j = 5
    · subst z; rw [fu_s, n5]
    · rw [fu_n z]
  have e1 : X4_readNumber 45 d = X4_readNumber_j81 45 (wA d 45 (nG B s (d.1 45) (e - s))) := by
    unfold X4_readNumber
    rw [lt_pos]
    refine lpE_for (fun t => wA d 45 (nG B s (d.1 45) t)) (e - s) _ ?_ (by omega) (fun t ht => ?_) ?_
    · rw [wI_A]
      show wA d 45 (fu (d.1 45) 5 0) = wA d 45 (nG B s (d.1 45) 0)
      congr 1
      funext j
      unfold nG
      by_cases z : j = 2
      · subst z; rw [fu_s, fu_n (by decide), h2]; rfl
      · rw [fu_n z]; rfl
    · show X4_readNumber_b5 45 (wA d 45 (nG B s (d.1 45) t)) = some (.inl (wA d 45 (nG B s (d.1 45) (t + 1))))
      have hd := a3 (s + t) (by omega) (by omega)
      have hw := hB.2 (s + t) (by omega)
      unfold X4_readNumber_b5 X4_readNumber_j68_5
      have e44 : (wA d 45 (nG B s (d.1 45) t)).1 (45 - 1) (Int.toNat ((s + t : Nat) : Int)) = B (s + t) := by rw [wA_ne (by decide), Int.toNat_natCast]; exact h44 _ (by omega)
      have key : ∀ v : Int, v = nV B s (min (t + 1) 3) → wA d 45 (fu (fu (nG B s (d.1 45) t) 5 v) 2 (((s + t : Nat) : Int) + 1)) = wA d 45 (nG B s (d.1 45) (t + 1)) := fun v hv => by
        congr 1
        funext j
        by_cases z : j = 2
        · subst z; rw [fu_s, n2]; omega
        · rw [fu_n z]
          by_cases z5 : j = 5
          · subst z5; rw [fu_s, n5, hv]
          · rw [fu_n z5, no _ _ z z5, no _ _ z z5]
      rw [wA_at, n1, n2, n3, n5, gd_pos (by omega), if_neg (by omega), gd_pos (by omega), e44, b1_pos (x4_isD (by omega)), if_pos hd.2, gd_pos (by decide), if_neg (by decide), gd_pos (by omega)]
      by_cases c3 : 3 ≤ t
      · rw [if_pos (by omega), lt_pos, wA_wI, st, key _ (by rw [Nat.min_eq_right c3, Nat.min_eq_right (by omega)])]
      · rw [if_neg (by omega), gd_pos (by omega), lt_pos, lt_pos, wA_wI, wA_at, fu_n (by decide), n2, wA_wI, key _ (by rw [Nat.min_eq_left (by omega), Nat.min_eq_left (by omega)]; rfl)]
    · show X4_readNumber_b5 45 (wA d 45 (nG B s (d.1 45) (e - s))) = _
      unfold X4_readNumber_b5
      rw [wA_at, n1, n2, gd_pos (by omega)]
      by_cases c : n ≤ e
      · rw [if_pos (by omega)]
      · have hw := hB.2 e (by omega)
        have e44 : (wA d 45 (nG B s (d.1 45) (e - s))).1 (45 - 1) (Int.toNat ((s + (e - s) : Nat) : Int)) = B e := by rw [wA_ne (by decide), Int.toNat_natCast, show s + (e - s) = e by omega]; exact h44 _ (by omega)
        rw [if_neg (by omega), gd_pos (by omega), e44, b1_pos (x4_isD (by omega)), if_neg (fun z => a4 ⟨by omega, z⟩), gd_pos (by decide), if_pos rfl]
  rw [e1]
  unfold X4_readNumber_j81
  rw [wA_at, n2, n3, gd_pos (by omega)]
  by_cases c : e - s ≤ 3
  · rw [if_neg (by omega), lt_pos, wA_wI]
    refine ⟨_, rfl, by rw [fu_n (by decide), n2]; omega, fun j z2 z4 z5 => by rw [fu_n z4, no _ _ z2 z5], fun _ => ⟨rfl, ?_⟩, fun z => absurd c z⟩
    rw [fu_n (by decide), n5, Nat.min_eq_left c]
  · rw [if_pos (by omega), lt_pos, wA_wI]
    exact ⟨_, rfl, by rw [fu_n (by decide), n2]; omega, fun j z2 z4 z5 => by rw [fu_n z4, no _ _ z2 z5], fun z => absurd z c, fun _ => rfl⟩
theorem x4_token {B : Nat → Int} {n q : Nat} {d : DA} (hB : Tp9 B n) (h44 : ∀ j, j < n → d.1 44 j = B j) (h1 : d.1 45 1 = n) (h2 : d.1 45 2 = q) (hq : q ≤ n) : ∃ f, X4_readToken 45 d = some ((), wA d 45 f) ∧ CT9 B n (tS B n q) f ∧ ∀ j, j ≠ 2 → j ≠ 3 → j ≠ 4 → j ≠ 5 → f j = d.1 45 j := by
  have hn := hB.1
  obtain ⟨s1, s2, s3⟩ := tS_bd (B := B) hq
  have e1 : X4_readToken 45 d = X4_readToken_j39 45 (wA d 45 (fu (d.1 45) 2 (tS B n q : Int))) := by
    unfold X4_readToken
    rw [h1, h2, gd_pos (by omega)]
    by_cases c : q < n
    · have hw := hB.2 q c
      have e44 : d.1 (45 - 1) (Int.toNat (q : Int)) = B q := by rw [Int.toNat_natCast]; exact h44 q c
      rw [if_neg (by omega), gd_pos (by omega), e44, b1_pos (x4_isB (by omega))]
      by_cases c2 : bB (B q) = true
      · rw [if_pos c2, gd_pos (by decide), if_neg (by decide), lt_pos]
        have : tS B n q = aeN (fun j => bB (B j)) n (q + 1) := aeN_in ⟨c, c2⟩
        rw [this]
        refine (lp_ae (P := fun j => bB (B j)) (q := q + 1) hn (by rw [wI_at, fu_s]; omega) (by omega) (fun u hu => ?_)).trans ?_
        · generalize hD : wA (wI d 45 2 ((q : Int) + 1)) 45 (fu ((wI d 45 2 ((q : Int) + 1)).1 45) 2 (u : Int)) = D
          have D2 : D.1 45 2 = u := by rw [← hD, wA_at, fu_s]
          have D1 : D.1 45 1 = n := by rw [← hD, wA_at, fu_n (by decide), wI_at, fu_n (by decide)]; exact h1
          have D44 : D.1 (45 - 1) (Int.toNat (u : Int)) = d.1 44 u := by rw [← hD, wA_ne (by decide), wI_ne (by decide), Int.toNat_natCast]
          unfold X4_readToken_b0
          rw [D1, D2, D44, gd_pos (by omega)]
          by_cases c : u < n
          · have hw := hB.2 u c
            rw [if_neg (by omega), gd_pos (by omega), h44 u c, b1_pos (x4_isB (by omega))]
            by_cases c2 : bB (B u) = true
            · rw [if_pos c2, gd_pos (by decide), if_neg (by decide), lt_pos, if_pos ⟨c, c2⟩]
            · rw [if_neg c2, gd_pos (by decide), if_pos rfl, if_neg (fun z => c2 z.2)]
          · rw [if_pos (by omega), if_neg (fun z => c z.1)]
        · congr 1
          rw [wI_A, wA_wA, wA_at]
          congr 1
          funext j
          by_cases z : j = 2
          · subst z; rw [fu_s, fu_s]
          · rw [fu_n z, fu_n z, fu_n z]
      · rw [if_neg c2, gd_pos (by decide), if_pos rfl]
        have : tS B n q = q := aeN_out (fun z => c2 z.2)
        rw [this, ← h2, show fu (d.1 45) 2 (d.1 45 2) = d.1 45 from funext fun j => by
          by_cases z : j = 2
          · subst z; rw [fu_s]
          · rw [fu_n z], wA_same]
    · rw [if_pos (by omega)]
      have : tS B n q = q := aeN_out (fun z => c z.1)
      rw [this, ← h2, show fu (d.1 45) 2 (d.1 45 2) = d.1 45 from funext fun j => by
          by_cases z : j = 2
          · subst z; rw [fu_s]
          · rw [fu_n z], wA_same]
  rw [e1]
  generalize tS B n q = s at s1 s2 s3
  unfold X4_readToken_j39
  rw [lt_pos, show (wA d 45 (fu (d.1 45) 2 (s : Int))).1 45 2 = (s : Int) by rw [wA_at, fu_s], wA_wI]
  generalize hf0 : fu (fu (d.1 45) 2 (s : Int)) 3 (s : Int) = f0
  have f01 : f0 1 = n := by rw [← hf0, fu_n (by decide), fu_n (by decide)]; exact h1
  have f02 : f0 2 = s := by rw [← hf0, fu_n (by decide), fu_s]
  have f03 : f0 3 = s := by rw [← hf0, fu_s]
  have f0o : ∀ j, j ≠ 2 → j ≠ 3 → f0 j = d.1 45 j := fun j z2 z3 => by rw [← hf0, fu_n z3, fu_n z2]
  have p44 : ∀ j, j < n → (wA d 45 f0).1 44 j = B j := fun j hj => by rw [wA_ne (by decide)]; exact h44 j hj
  rw [wA_at, f01, f02, gd_pos (by omega)]
  unfold CT9
  by_cases c0 : n ≤ s
  · have r0 : tR B n s = 0 := by unfold tR; rw [if_pos c0]
    have t0 : tE B n s = s := by unfold tE; rw [if_pos c0]
    rw [if_neg (by omega), lt_pos, wA_wI, r0, t0]
    exact ⟨_, rfl, ⟨by rw [fu_n (by decide)]; exact f02, by rw [fu_n (by decide)]; exact f03, fun _ => rfl, fun z => absurd z (by decide), fun z => absurd z (by decide), fun z => absurd z (by decide), fun z => absurd z (by decide)⟩, fun j z2 z3 z4 z5 => by rw [fu_n z4, f0o j z2 z3]⟩
  · have hw := hB.2 s (by omega)
    have e44 : (wA d 45 f0).1 (45 - 1) (Int.toNat (s : Int)) = B s := by rw [Int.toNat_natCast]; exact p44 s (by omega)
    rw [if_pos (by omega), gd_pos (by omega), lt_pos, e44, b1_pos (x4_isL (by omega))]
    by_cases c1 : bL (B s) = true
    · have r0 : tR B n s = 1 := by unfold tR; rw [if_neg c0, if_pos c1]
      have t0 : tE B n s = aeN (fun j => bL (B j)) n s := by unfold tE; rw [if_neg c0, if_pos c1]
      rw [if_pos c1, gd_pos (by decide), if_neg (by decide), r0, t0]
      obtain ⟨f, w1, w2, w3, w4, w5, w6⟩ := x4_readWord (d := wA d 45 f0) hB p44 (by rw [wA_at]; exact f01) (by rw [wA_at]; exact f02) (by rw [wA_at]; exact f03) (by omega) c1
      rw [bd_pos w1, wA_wA]
      rw [wA_at] at w3
      exact ⟨f, rfl, ⟨w2, by rw [w3 3 (by decide) (by decide)]; exact f03, fun z => absurd z (by decide), fun _ => ⟨w4, w5, w6⟩, fun z => absurd z (by decide), fun z => absurd z (by decide), fun z => absurd z (by decide)⟩, fun j z2 z3 z4 z5 => by rw [w3 j z2 z4, f0o j z2 z3]⟩
    · rw [if_neg c1, gd_pos (by decide), if_pos rfl, b1_pos (x4_isD (by omega))]
      by_cases c2 : bD (B s) = true
      · have r0 : tR B n s = 2 := by unfold tR; rw [if_neg c0, if_neg c1, if_pos c2]
        have t0 : tE B n s = aeN (fun j => bD (B j)) n s := by unfold tE; rw [if_neg c0, if_neg c1, if_pos c2]
        rw [if_pos c2, gd_pos (by decide), if_neg (by decide), r0, t0]
        obtain ⟨f, w1, w2, w3, w4, w5⟩ := x4_readNumber (d := wA d 45 f0) hB p44 (by rw [wA_at]; exact f01) (by rw [wA_at]; exact f02) (by rw [wA_at]; exact f03) s2
        rw [bd_pos w1, wA_wA]
        rw [wA_at] at w3
        exact ⟨f, rfl, ⟨w2, by rw [w3 3 (by decide) (by decide) (by decide)]; exact f03, fun z => absurd z (by decide), fun z => absurd z (by decide), fun _ => ⟨w4, w5⟩, fun z => absurd z (by decide), fun z => absurd z (by decide)⟩, fun j z2 z3 z4 z5 => by rw [w3 j z2 z4 z5, f0o j z2 z3]⟩
      · have t0 : tE B n s = s + 1 := by unfold tE; rw [if_neg c0, if_neg c1, if_neg c2]
        rw [if_neg c2, gd_pos (by decide), if_pos rfl, t0]
        have fin : ∀ t : Int, X4_readToken_j127 45 (B s) t (wA d 45 f0) = some ((), wA d 45 (fu (fu (fu f0 4 t) 5 (B s)) 2 ((s + 1 : Nat) : Int))) := fun t => by
          unfold X4_readToken_j127
          rw [lt_pos, lt_pos, lt_pos, wA_wI, wA_wI, wA_at, fu_n (by decide), fu_n (by decide), f02, wA_wI]
          rfl
        have fo : ∀ (t : Int) (j : Nat), j ≠ 2 → j ≠ 3 → j ≠ 4 → j ≠ 5 → fu (fu (fu f0 4 t) 5 (B s)) 2 ((s + 1 : Nat) : Int) j = d.1 45 j := fun t j z2 z3 z4 z5 => by rw [fu_n z2, fu_n z5, fu_n z4, f0o j z2 z3]
        by_cases c3 : B s = 61 ∨ B s = 43 ∨ B s = 59
        · have r0 : tR B n s = 3 := by unfold tR; rw [if_neg c0, if_neg c1, if_neg c2, if_pos c3]
          rw [r0]
          refine ⟨_, (?_ : _ = some ((), wA d 45 (fu (fu (fu f0 4 5) 5 (B s)) 2 ((s + 1 : Nat) : Int)))), ⟨rfl, by rw [fu_n (by decide), fu_n (by decide), fu_n (by decide)]; exact f03, fun z => absurd z (by decide), fun z => absurd z (by decide), fun z => absurd z (by decide), fun _ => ⟨rfl, rfl⟩, fun z => absurd z (by decide)⟩, fo 5⟩
          rw [gd_pos (by omega)]
          by_cases y1 : B s = 61
          · rw [if_pos y1]; exact fin 5
          · rw [if_neg y1, gd_pos (by omega)]
            by_cases y2 : B s = 43
            · rw [if_pos y2]; exact fin 5
            · rw [if_neg y2, gd_pos (by omega), if_pos (by omega)]; exact fin 5
        · have r0 : tR B n s = 4 := by unfold tR; rw [if_neg c0, if_neg c1, if_neg c2, if_neg c3]
          rw [r0]
          refine ⟨_, (?_ : _ = some ((), wA d 45 (fu (fu (fu f0 4 6) 5 (B s)) 2 ((s + 1 : Nat) : Int)))), ⟨rfl, by rw [fu_n (by decide), fu_n (by decide), fu_n (by decide)]; exact f03, fun z => absurd z (by decide), fun z => absurd z (by decide), fun z => absurd z (by decide), fun z => absurd z (by decide), fun _ => rfl⟩, fo 6⟩
          rw [gd_pos (by omega), if_neg (by omega), gd_pos (by omega), if_neg (by omega), gd_pos (by omega), if_neg (by omega)]; exact fin 6

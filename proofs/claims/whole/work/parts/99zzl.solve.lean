/-! ===== solve: what both sides tell ===== -/
section
variable {n : Nat → Int} {p : Nat} {iv : Int → Int} {G : Nat → Bool}
theorem sol_trd (hT : TG n 2) (h2 : 2 ≤ p) (h31 : p ≤ 31) : ∀ (f : Nat → Int) X, X < p ^ cn9 (trq n) 8 → (∀ q, q < 729 → 0 ≤ f q ∧ f q < p) → (∀ j, j < cn9 (trq n) 8 → f (Uq n j) = (dg9 p X (cn9 (trq n) 8) j : Int)) → TrD n f (FX9 n p X) (fun _ => 0) (sZ9 n) 2 p := fun f X hX hb hU => by
  refine ⟨hT, by decide, ⟨h2, h31⟩, fun a b c d e g ha hb hc hd he hg => ?_, sZ9_g (by decide), hb, fun q hq => by show (0 : Int) ≤ 0 ∧ (0 : Int) < p; omega⟩
  have fx := FX9_at (n := n) (p := p) (X := X) (a := a) (b := b) (c := c) (d := d) (e := e) (g := g) (by omega) (by omega) (by omega) (by omega) (by omega) (by omega)
  refine ⟨fun t => ?_, fx.2⟩
  rw [fx.1 t]
  by_cases z : a = 0 ∨ b = 0 ∨ c = 0
  · rw [if_pos z, if_pos z]
  · have q1 : a = 1 := by omega
    have q2 : b = 1 := by omega
    have q3 : c = 1 := by omega
    subst q1 q2 q3
    obtain ⟨u1, u2⟩ := Uq_of hd he hg t
    rw [if_neg z, if_neg z, ← u2, hU _ u1]
theorem sol_ref2 (hT : TG n 2) (hf : fre n 2) (h2 : 2 ≤ p) (h13 : p ≤ 13) (hiv : IvG p iv) (hG : ∀ X, X < p ^ cn9 (trq n) 8 → (G X = true ↔ SoA n (FX9 n p X) 2 p iv)) (hN : p ^ cn9 (trq n) 8 ≤ 400000) {fst : Nat → Int} (hfst : cn9 G (p ^ cn9 (trq n) 8) ≠ 0 → ∀ j, j < cn9 (trq n) 8 → fst j = (dg9 p (pk9 G (p ^ cn9 (trq n) 8) 0) (cn9 (trq n) 8) j : Int)) : ∀ d, RfT n 2 p d → ∀ i : Int, inR i → (i = -1 → MA9 (X12_solve 113 i d) d 0 (cn9 G (p ^ cn9 (trq n) 8) : Int)) ∧ (i ≠ -1 → ((0 ≤ i ∧ i < (cn9 (trq n) 8 : Int) ∧ (cn9 G (p ^ cn9 (trq n) 8) : Int) ≠ 0) → MA9 (X12_solve 113 i d) d 0 (fst i.toNat)) ∧ (¬ (0 ≤ i ∧ i < (cn9 (trq n) 8 : Int) ∧ (cn9 G (p ^ cn9 (trq n) 8) : Int) ≠ 0) → MA9 (X12_solve 113 i d) d 1 0)) := fun d hR i hi => by
  have hu5 := trq_5 hT
  have kN := cn9_le (P := G) (p ^ cn9 (trq n) 8)
  refine x12_solA (u := cn9 (trq n) 8) (am := cn9 G (p ^ cn9 (trq n) 8)) (fst := fst) hT (by decide) hf h13 hR hu5 (by omega) hi (fun e e14 er ep eb => ?_)
  obtain ⟨e6, t1, t2, t3, t4, t5⟩ := x12_unk2 (d0 := e) hT e14 er
  generalize hd7 : wI e6 113 59 0 = d7
  have o7 : ∀ q, q ≠ 113 → d7.1 q = e6.1 q := fun q z => by rw [← hd7, wI_ne z]
  have n7 : ∀ j, j ≠ 59 → d7.1 113 j = e6.1 113 j := fun j z => by rw [← hd7, wI_at, fu_n z]
  have z59 : d7.1 113 59 = 0 := by rw [← hd7, wI_at, fu_s]
  have e117 : d7.1 117 = e.1 117 := by rw [o7 117 (by decide)]; exact funext fun j => t3 117 j (by decide) (Or.inl (by decide))
  have x1 : 0 * p ^ cn9 (trq n) 8 = 0 := Nat.zero_mul _
  obtain ⟨e8, s1, s2⟩ := x12_son (d0 := d7) (n := n) (p := p) (u := cn9 (trq n) 8) (U := Uq n) (iv := iv) (G := G) (by rw [o7 114 (by decide), ← e14]; exact funext fun j => t3 114 j (by decide) (Or.inl (by decide))) (by rw [n7 1 (by decide), t3 113 1 (by decide) (Or.inr (by decide))]; exact er) (by rw [n7 4 (by decide), t3 113 4 (by decide) (Or.inr (by decide))]; exact ep) h2 h13 hiv (by rw [n7 58 (by decide)]; exact t4) hu5 (fun j hj => ⟨by rw [o7 140 (by decide)]; exact t5 j hj, Uq_lt⟩) Uq_inj (sol_trd hT h2 (by omega)) hG hN (cn9 (trq n) 8) 0 0 12 d7 (Nat.zero_add _) (by omega) (by rw [Nat.pow_zero]; decide) ⟨FrV.rf d7, fun _ _ => rfl, fun q hq => by rw [e117]; exact eb q hq, fun j hj => absurd hj (Nat.not_lt_zero _), by rw [x1]; exact z59, fun z => by rw [x1] at z; exact absurd rfl z⟩
  rw [Nat.zero_add, Nat.one_mul] at s2
  obtain ⟨a1, a2, a3, a4, a5, a6⟩ := s2
  refine ⟨e6, e8, t1, by rw [hd7]; exact s1, ?_, fun c j z1 z2 z3 => ?_, ?_, a5, fun z j hj => by rw [a6 z j hj, hfst z j hj]⟩
  · rw [a1.1, ← hd7]; exact t2
  · by_cases e9 : c = 117
    · subst e9
      rw [a2 j (fun q hq => by have := Uq_lt (n := n) (j := q); omega), e117]
    · rw [a1.2 c j e9 (by omega) (by omega)]
      by_cases e3 : c = 113
      · subst e3
        rw [n7 j (by omega), t3 113 j (by decide) (by omega)]
      · rw [o7 c e3]
        exact t3 c j (by omega) (Or.inl e3)
  · rw [a1.n (by decide), n7 58 (by decide)]; exact t4
theorem sol_ref1 (hT : TG n 1) (hf : fre n 1) (h2 : 2 ≤ p) (h13 : p ≤ 13) (hiv : IvG p iv) {fst : Nat → Int} : ∀ d, RfT n 1 p d → ∀ i : Int, inR i → (i = -1 → MA9 (X12_solve 113 i d) d 0 1) ∧ (i ≠ -1 → ((0 ≤ i ∧ i < 0 ∧ (1 : Int) ≠ 0) → MA9 (X12_solve 113 i d) d 0 (fst i.toNat)) ∧ (¬ (0 ≤ i ∧ i < 0 ∧ (1 : Int) ≠ 0) → MA9 (X12_solve 113 i d) d 1 0)) := fun d hR i hi => by
  refine x12_solA (u := 0) (am := 1) (fst := fst) hT (by decide) hf h13 hR (by decide) (by decide) hi (fun e e14 er ep eb => ?_)
  have t1 := x12_unk1 (d0 := e) er
  generalize hd7 : wI (wI e 113 58 0) 113 59 0 = d7
  have o7 : ∀ q, q ≠ 113 → d7.1 q = e.1 q := fun q z => by rw [← hd7, wI_ne z, wI_ne z]
  have n7 : ∀ j, j ≠ 58 → j ≠ 59 → d7.1 113 j = e.1 113 j := fun j z1 z2 => by rw [← hd7, wI_at, fu_n z2, wI_at, fu_n z1]
  have z59 : d7.1 113 59 = 0 := by rw [← hd7, wI_at, fu_s]
  have z58 : d7.1 113 58 = 0 := by rw [← hd7, wI_at, fu_n (by decide), wI_at, fu_s]
  have hF := FX9_z (n := n) (p := p) (X := 0) (show 1 ≤ 3 by decide)
  have hRS : RS9 d7 n (d7.1 117) (FX9 n p 0) (fun _ => 0) (sZ9 n) 1 p := by
    refine ⟨by rw [o7 114 (by decide)]; exact e14, rfl, by rw [n7 1 (by decide) (by decide)]; exact er, by rw [n7 4 (by decide) (by decide)]; exact ep, hT, by decide, ⟨h2, by omega⟩, fun a b c d e g ha hb hc hd he hg => ?_, sZ9_g (by decide), by rw [o7 117 (by decide)]; exact eb, fun q hq => by show (0 : Int) ≤ 0 ∧ (0 : Int) < p; omega⟩
    have fx := FX9_at (n := n) (p := p) (X := 0) (a := a) (b := b) (c := c) (d := d) (e := e) (g := g) (by omega) (by omega) (by omega) (by omega) (by omega) (by omega)
    have z : a = 0 ∨ b = 0 ∨ c = 0 := by omega
    refine ⟨fun t => by rw [fx.1 t, if_pos z, if_pos z], fx.2⟩
  have so : SoA n (FX9 n p 0) 1 p iv := ⟨fun a ha b hb c hc dd hd => sOk_0 hT hF h2 hiv ha hb hc hd (by omega), fun y hy hs => pent0 hT hF hy hs (Or.inl (by have := hy 0 (by omega); omega))⟩
  obtain ⟨e8, u1, u2, u3, u4, -⟩ := x12_leafS (d := d7) (u := 0) (A := 0) (U := fun _ => 0) (v1 := 0) (g := X12_solveOn 113 11) hRS hiv z58 (by decide) (Int.le_refl _) (by decide) (fun j hj => absurd hj (Nat.not_lt_zero _)) z59 (by decide)
  refine ⟨wI e 113 58 0, e8, t1, by rw [hd7]; exact u1, ?_, fun c j z1 z2 z3 => ?_, ?_, (u4 so).1, fun _ j hj => absurd hj (Nat.not_lt_zero _)⟩
  · rw [u2.1, ← hd7]; rfl
  · by_cases e9 : c = 117
    · subst e9
      rw [u3, o7 117 (by decide)]
    · rw [u2.2 c j e9 (by omega) (by omega)]
      by_cases e3 : c = 113
      · subst e3
        exact n7 j (by omega) (by omega)
      · rw [o7 c e3]
  · rw [u2.n (by decide)]; exact z58
/-- a table of two kinds without unknowns -/
theorem so_0 (hT : TG n 2) (h2 : 2 ≤ p) (hiv : IvG p iv) (hu : cn9 (trq n) 8 = 0) (X : Nat) : SoA n (FX9 n p X) 2 p iv := by
  refine (SoA_iff hT (FX9_z (by decide)) h2 hiv).mpr ⟨fun y hy hz => ?_, fun dd hd => ?_⟩
  · exfalso
    have a := ls9_nn hT hy hz
    have b := (ls9_ge (u := cn9 (trq n) 8) (U := Uq n) (x := xq9 y)).2.2
    omega
  · have noP : ∀ x, x < 2 → ¬ sP9 n 1 1 1 dd x = true := fun x hx z => by
      have s := of_decide_eq_true (show decide _ = true from z)
      have t : isTr n 1 1 1 dd x x := ⟨s.1, s.2, s.1, by rw [← sy9 hT hx hd]; exact s.2⟩
      have := (Uq_of hd hx hx t).1
      omega
    have a1 := cn9_no (P := sP9 n 1 1 1 dd) (r := 2) noP
    have a2 := cn9_no (P := sQ9 n 1 1 1 dd) (r := 2) (fun x hx z => noP x hx (by rw [sPQ hT hd hx]; exact z))
    unfold sOk
    rw [a1, a2]
    exact ⟨rfl, rfl⟩
end
theorem sol_bd {p u : Nat} (hP : PG p) (h13 : p ≤ 13) (hu : u ≤ 5) : p ^ u ≤ 400000 ∧ (1 ≤ u → p * stp9 p (u - 1) + 1 < 1000000) := by
  have hp := hP.bd
  have a1 : p ^ u ≤ 13 ^ u := Nat.pow_le_pow_left h13 _
  have a2 : 13 ^ u ≤ 13 ^ 5 := Nat.pow_le_pow_right (by decide) hu
  have a3 : 13 ^ 5 = 371293 := rfl
  refine ⟨by omega, fun h1 => ?_⟩
  have mono : ∀ m, stp9 p m ≤ stp9 13 m := by
    intro m
    induction m with
    | zero => exact Nat.le_refl _
    | succ m ih =>
      have := Nat.mul_le_mul h13 ih
      show 1 + (p * stp9 p m + 1) ≤ 1 + (13 * stp9 13 m + 1)
      omega
  have b1 := mono (u - 1)
  have b2 : stp9 13 (u - 1) ≤ 33321 := by
    rcases (show u - 1 = 0 ∨ u - 1 = 1 ∨ u - 1 = 2 ∨ u - 1 = 3 ∨ u - 1 = 4 by omega) with e | e | e | e | e <;> rw [e] <;> decide
  have b3 := Nat.mul_le_mul h13 b1
  omega
/-- the class's solver -/
theorem x5_find {d0 : DA} {n : Nat → Int} {r p : Nat} {iv : Int → Int} (hT : TG n r) (h2r : r ≤ 2) (hf : fre n r) (hr : d0.1 5 0 = r) (hn : d0.1 6 = n) (hp : d0.1 58 0 = p) (hP : PG p) (h13 : p ≤ 13) (hiv : IvG p iv) (h59 : ∀ j : Nat, 1 ≤ j → j < p → d0.1 59 j = iv j) : ∃ d, X5_find 81 5 58 d0 = some ((), d) ∧ FrO d0 d ∧ d.1 81 0 = 1 ∧ VI9 (d.1 81 0) (d.1 81 1) (d.1 81 2) (d.1 82) n r p := by
  have h2 := hP.bd.1
  have r1 := hT.1.1
  have cp := x8_copy (d := d0) (o := 81 + 4) (a := 5)
  generalize hd1 : wA (wI d0 (81 + 4) 0 (d0.1 5 0)) (81 + 4 + 1) (pre ((wI d0 (81 + 4) 0 (d0.1 5 0)).1 (81 + 4 + 1)) ((wI d0 (81 + 4) 0 (d0.1 5 0)).1 (5 + 1)) 125) = d1 at cp
  have o1 : ∀ c, c ≠ 85 → c ≠ 86 → d1.1 c = d0.1 c := fun c z1 z2 => by rw [← hd1, wA_ne (show c ≠ 81 + 4 + 1 from z2), wI_ne (show c ≠ 81 + 4 from z1)]
  have a85 : d1.1 85 0 = r := by
    rw [← hd1]
    show (wA (wI d0 85 0 (d0.1 5 0)) 86 _).1 85 0 = _
    rw [wA_ne (by decide), wI_at, fu_s]; exact hr
  have a86 : ∀ q, q < 125 → d1.1 86 q = n q := fun q hq => by
    rw [← hd1]
    show (wA (wI d0 85 0 (d0.1 5 0)) 86 (pre _ ((wI d0 85 0 (d0.1 5 0)).1 6) 125)).1 86 q = _
    rw [wA_at, pre_lt hq, wI_ne (by decide), hn]
  have f1 : d1.2 = d0.2 := by rw [← hd1]; rfl
  obtain ⟨q2, g1, ⟨g2, g3⟩, g4⟩ := x9_begin (d := d1) (o := 81 + 10) (r := r) (by decide) a85 (by omega) (fun q hq => by
    show 0 ≤ d1.1 86 q ∧ d1.1 86 q ≤ 9
    rw [a86 q hq]; exact hT.2.1 q hq)
  obtain ⟨w, d2⟩ := q2
  have g3' : ∀ c, c ≠ 92 → c ≠ 93 → d2.1 c = d1.1 c := fun c z1 z2 => g3 c z1 z2
  have hTB : TrB (d1.1 86) r 27 (d2.1 92) (d2.1 93) := g4 (by omega)
  have hFG := hTB.FG (f := fun _ => 0) (by omega) (fun _ _ => rfl)
  have trE : ∀ a b c d e g, a < r → b < r → c < r → d < r → e < r → g < r → (isTr (d1.1 86) a b c d e g ↔ isTr n a b c d e g) := fun a b c d e g ha hb hc hd he hg => by
    unfold isTr
    have w9 : ∀ a b c, a < r → b < r → c < r → d1.1 86 (ti a b c) = n (ti a b c) := fun a b c ha hb hc => a86 _ (by unfold ti; omega)
    rw [w9 a b e ha hb he, w9 e c d he hc hd, w9 b c g hb hc hg, w9 a g d ha hg hd]
  generalize hd5 : wI (wI (wI d2 81 1 0) 81 2 0) 81 10 0 = d5
  have o5 : ∀ c, c ≠ 81 → d5.1 c = d2.1 c := fun c z => by rw [← hd5, wI_ne z, wI_ne z, wI_ne z]
  have n1 : d5.1 81 1 = 0 := by rw [← hd5, wI_at, fu_n (by decide), wI_at, fu_n (by decide), wI_at, fu_s]
  have n2 : d5.1 81 2 = 0 := by rw [← hd5, wI_at, fu_n (by decide), wI_at, fu_s]
  have n10 : d5.1 81 10 = 0 := by rw [← hd5, wI_at, fu_s]
  have b85 : d5.1 85 0 = r := by rw [o5 85 (by decide), g3' 85 (by decide) (by decide)]; exact a85
  have b86 : ∀ q, q < 125 → d5.1 86 q = n q := fun q hq => by rw [o5 86 (by decide), g3' 86 (by decide) (by decide)]; exact a86 q hq
  have fO5 : FrO d0 d5 := ⟨by rw [← hd5]; show d2.2 = _; rw [g2, f1], fun c z1 z2 => by rw [o5 c (by omega), g3' c (by omega) (by omega), o1 c (by omega) (by omega)]⟩
  have head : X5_find 81 5 58 d0 = (gd (inR (d5.1 (81 + 4) 0) ∧ inR 2) <| if (d5.1 (81 + 4) 0) = 2 then (bd (X5_gatherUnknowns 81 d5) fun _ d10 => bd (X5_gatherPentagons 81 d10) fun _ d11 => X5_find_j49 81 5 58 d11) else X5_find_j49 81 5 58 d5) := by
    unfold X5_find
    rw [bd_pos cp, bd_pos g1, lt_pos, lt_pos, lt_pos, hd5]
  have b85' : d5.1 (81 + 4) 0 = r := b85
  rw [head, b85', gd_pos (by omega)]
  -- nothing is unknown
  have none9 : ∀ e : DA, FrO d0 e → e.1 81 2 = 0 → (∀ fst : Nat → Int, ∀ d, RfT n r p d → ∀ i : Int, inR i → (i = -1 → MA9 (X12_solve 113 i d) d 0 1) ∧ (i ≠ -1 → ((0 ≤ i ∧ i < 0 ∧ (1 : Int) ≠ 0) → MA9 (X12_solve 113 i d) d 0 (fst i.toNat)) ∧ (¬ (0 ≤ i ∧ i < 0 ∧ (1 : Int) ≠ 0) → MA9 (X12_solve 113 i d) d 1 0))) → ∃ d, X5_find_j49 81 5 58 e = some ((), d) ∧ FrO d0 d ∧ d.1 81 0 = 1 ∧ VI9 (d.1 81 0) (d.1 81 1) (d.1 81 2) (d.1 82) n r p := fun e fe e2 href => by
    unfold X5_find_j49
    rw [e2, gd_pos (by decide), if_pos rfl, lt_pos, gd_pos (Or.inr rfl), lt_pos]
    have v0 : (wI (wI e 81 1 1) 81 0 1).1 81 0 = 1 := by rw [wI_at, fu_s]
    have v1 : (wI (wI e 81 1 1) 81 0 1).1 81 1 = 1 := by rw [wI_at, fu_n (by decide), wI_at, fu_s]
    have v2 : (wI (wI e 81 1 1) 81 0 1).1 81 2 = 0 := by rw [wI_at, fu_n (by decide), wI_at, fu_n (by decide)]; exact e2
    refine ⟨_, rfl, ⟨fe.1, fun c z1 z2 => by rw [wI_ne (by omega), wI_ne (by omega)]; exact fe.2 c z1 z2⟩, v0, ?_⟩
    rw [v0, v1, v2]
    exact Or.inr ⟨rfl, by decide, by decide, fun _ q hq => by omega, fun _ d hR i hi => href _ d hR i hi⟩
  by_cases c2 : r = 2
  · subst c2
    rw [if_pos (show ((2 : Nat) : Int) = 2 from rfl)]
    have hST : ST9 d5 n := ⟨b85, b86⟩
    have hu5 := trq_5 hT
    obtain ⟨d10, t1, t2, t3, t4, t5⟩ := x5_unk hT hST n2
    have fO10 : FrO d0 d10 := fO5.tr ⟨t2, fun c z1 z2 => funext fun j => t3 c j (by omega) (Or.inl (by omega))⟩
    have hST10 : ST9 d10 n := ⟨by rw [t3 85 0 (by decide) (Or.inl (by decide))]; exact b85, fun q hq => by rw [t3 86 q (by decide) (Or.inl (by decide))]; exact b86 q hq⟩
    obtain ⟨d11, p1, p2, p3, p4, p5⟩ := x5_pens (u := cn9 (trq n) 8) (U := Uq n) hT hST10 t4 hu5 (fun j hj => ⟨t5 j hj, Uq_lt⟩) (by rw [t3 81 10 (by decide) (Or.inr (by decide))]; exact n10)
    have fO11 : FrO d0 d11 := fO10.tr ⟨p2, fun c z1 z2 => funext fun j => p3 c j (by omega) (by omega) (by omega) (by omega) (Or.inl (by omega))⟩
    rw [bd_pos t1, bd_pos p1]
    have u11 : d11.1 81 2 = (cn9 (trq n) 8 : Int) := by rw [p3 81 2 (by decide) (by decide) (by decide) (by decide) (Or.inr (by decide))]; exact t4
    obtain ⟨G, hG⟩ : ∃ G : Nat → Bool, ∀ X, X < p ^ cn9 (trq n) 8 → (G X = true ↔ SoA n (FX9 n p X) 2 p iv) := ⟨fun X => @decide (SoA n (FX9 n p X) 2 p iv) (Classical.propDecidable _), fun X _ => @decide_eq_true_iff _ (Classical.propDecidable _)⟩
    obtain ⟨bN, bM⟩ := sol_bd hP h13 hu5
    by_cases cu : cn9 (trq n) 8 = 0
    · refine none9 d11 fO11 (by rw [u11, cu]; rfl) (fun fst d hR i hi => ?_)
      have cg : cn9 G (p ^ cn9 (trq n) 8) = 1 := by
        rw [cu, Nat.pow_zero]
        show 0 + (if G 0 = true then 1 else 0) = 1
        rw [if_pos ((hG 0 (by rw [cu, Nat.pow_zero]; decide)).mpr (so_0 hT h2 hiv cu 0))]
      have := sol_ref2 (fst := fst) hT hf h2 h13 hiv hG bN (fun _ j hj => by omega) d hR i hi
      rw [cg, cu] at this
      exact this
    · have fbase : F09 n (d11.1 92) := fun a b c d e g ha hb hc hd he hg => by
        have e92 : d11.1 92 = d2.1 92 := by
          have z1 : d11.1 92 = d10.1 92 := funext fun j => p3 92 j (by decide) (by decide) (by decide) (by decide) (Or.inl (by decide))
          have z2 : d10.1 92 = d5.1 92 := funext fun j => t3 92 j (by decide) (Or.inl (by decide))
          rw [z1, z2, o5 92 (by decide)]
        obtain ⟨k1, k2⟩ := hFG a b c d e g ha hb hc hd he hg
        rw [trE a b c d e g ha hb hc hd he hg] at k1 k2
        rw [e92]
        exact ⟨fun t z => by rw [k1 t, if_pos z], k2⟩
      have fzero : ∀ j, j < cn9 (trq n) 8 → d11.1 92 (Uq n j) = 0 := fun j hj => by
        have k := pk9_ok (P := trq n) hj
        have t := trq_iff.mp k.2.1
        have l8 := k.1
        have e92 : d11.1 92 = d2.1 92 := by
          have z1 : d11.1 92 = d10.1 92 := funext fun j => p3 92 j (by decide) (by decide) (by decide) (by decide) (Or.inl (by decide))
          have z2 : d10.1 92 = d5.1 92 := funext fun j => t3 92 j (by decide) (Or.inl (by decide))
          rw [z1, z2, o5 92 (by decide)]
        obtain ⟨k1, k2⟩ := hFG 1 1 1 (pk9 (trq n) 8 j / 4) (pk9 (trq n) 8 j / 2 % 2) (pk9 (trq n) 8 j % 2) (by decide) (by decide) (by decide) (by omega) (by omega) (by omega)
        rw [trE _ _ _ _ _ _ (by decide) (by decide) (by decide) (by omega) (by omega) (by omega)] at k1
        rw [e92]
        show d2.1 92 (six 1 1 1 _ _ _) = 0
        rw [k1 t, if_neg (by decide)]
      have hSX : SX9 d11 n p (cn9 (trq n) 8) (Uq n) iv := by
        refine ⟨⟨by rw [p3 85 0 (by decide) (by decide) (by decide) (by decide) (Or.inl (by decide))]; exact hST10.1, fun q hq => by rw [p3 86 q (by decide) (by decide) (by decide) (by decide) (Or.inl (by decide))]; exact hST10.2 q hq⟩, by rw [fO11.2 58 (by decide) (by decide)]; exact hp, by rw [fO11.2 59 (by decide) (by decide)]; exact h59, u11, fun j hj => by rw [p3 83 j (by decide) (by decide) (by decide) (by decide) (Or.inl (by decide))]; exact t5 j hj, p4, p5⟩
      have n11 : d11.1 81 1 = 0 := by rw [p3 81 1 (by decide) (by decide) (by decide) (by decide) (Or.inr (by decide)), t3 81 1 (by decide) (Or.inr (by decide))]; exact n1
      obtain ⟨d6, s1, s2, s3, s4, s5⟩ := x5_srch (G := G) hT hSX h2 h13 hiv (by omega) fbase fzero n11 hG bN (bM (by omega))
      have kN := cn9_le (P := G) (p ^ cn9 (trq n) 8)
      unfold X5_find_j49
      rw [u11, gd_pos (by omega), if_neg (by omega), bd_pos s1, gd_pos (Or.inr rfl), lt_pos]
      have v0 : (wI d6 81 0 1).1 81 0 = 1 := by rw [wI_at, fu_s]
      have v1 : (wI d6 81 0 1).1 81 1 = (cn9 G (p ^ cn9 (trq n) 8) : Int) := by rw [wI_at, fu_n (by decide)]; exact s4
      have v2 : (wI d6 81 0 1).1 81 2 = (cn9 (trq n) 8 : Int) := by rw [wI_at, fu_n (by decide), s3 81 2 (by decide) (by decide) (by decide) (by decide) (by decide) (by decide) (Or.inr (by decide))]; exact u11
      have v82 : (wI d6 81 0 1).1 82 = d6.1 82 := wI_ne (by decide)
      refine ⟨_, rfl, fO11.tr ⟨s2, fun c z1 z2 => ?_⟩, v0, ?_⟩
      · rw [wI_ne (by omega)]
        exact funext fun j => s3 c j z1 (by omega) (by omega) (by omega) (by omega) (by omega) (Or.inl (by omega))
      · rw [v0, v1, v2, v82]
        refine Or.inr ⟨rfl, ⟨by omega, by omega⟩, ⟨by omega, by omega⟩, fun z q hq => ?_, fun _ d hR i hi => sol_ref2 hT hf h2 h13 hiv hG bN s5 d hR i hi⟩
        have := dg_lt (B := p) (c := pk9 G (p ^ cn9 (trq n) 8) 0) (n := cn9 (trq n) 8) (g := q) (by omega)
        rw [s5 (by omega) q (by omega)]
        omega
  · have e1 : r = 1 := by omega
    subst e1
    rw [if_neg (by decide)]
    exact none9 d5 fO5 n2 (fun fst d hR i hi => sol_ref1 (fst := fst) hT hf h2 h13 hiv d hR i hi)

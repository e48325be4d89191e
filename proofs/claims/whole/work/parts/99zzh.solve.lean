/-! ===== solve: the class gathers pentagons ===== -/
def pnq (n : Nat → Int) (q : Nat) : Bool := pnS n (xq9 q)
theorem fv9_lt {q : Nat} (hq : q < 32) (t : Nat) : fv9 (xq9 q) t < 729 := by
  have h := xq9_lt hq
  have h0 := h 0 (by omega)
  have h1 := h 1 (by omega)
  have h2 := h 2 (by omega)
  have h3 := h 3 (by omega)
  have h4 := h 4 (by omega)
  have h5 := h 5 (by omega)
  have h6 := h 6 (by omega)
  have h7 := h 7 (by omega)
  have h8 := h 8 (by omega)
  unfold fv9 six
  split
  · omega
  · split
    · omega
    · split
      · omega
      · split <;> omega
/-- the class adds a pentagon -/
theorem x5_addP {d : DA} {u q m : Nat} {U : Nat → Nat} (hu : d.1 81 2 = u) (h5 : u ≤ 5) (hU : ∀ j, j < u → d.1 83 j = (U j : Int) ∧ U j < 729) (hq : q < 32) (hx : ∀ i, i < 9 → d.1 94 i = (xq9 q i : Nat)) (h10 : d.1 81 10 = m) (hm : m < 32) : ∃ d', X5_addPentagon 81 d = some ((), d') ∧ d'.2 = d.2 ∧ (∀ c j, c ≠ 95 → c ≠ 97 → c ≠ 98 → (c ≠ 81 ∨ j ≠ 10) → d'.1 c j = d.1 c j) ∧ d'.1 81 10 = ((m + 1 : Nat) : Int) ∧ (∀ j, j < 5 * m → d'.1 97 j = d.1 97 j) ∧ (∀ t, t < 5 → d'.1 97 (5 * m + t) = (fv9 (xq9 q) t : Int)) ∧ (∀ j, j ≠ m → d'.1 98 j = d.1 98 j) ∧ d'.1 98 m = ls9 u U (xq9 q) := by
  obtain ⟨h, p1, p2, p3, p4, p5, p6⟩ := x9_placeP (o := 81 + 10) (d := d) (x := xq9 q) hx
  have f0 : h 0 = (fv9 (xq9 q) 0 : Int) := p2
  have f1 : h 1 = (fv9 (xq9 q) 1 : Int) := p3
  have f2 : h 2 = (fv9 (xq9 q) 2 : Int) := p4
  have f3 : h 3 = (fv9 (xq9 q) 3 : Int) := p5
  have f4 : h 4 = (fv9 (xq9 q) 4 : Int) := p6
  generalize hd1 : wA d (81 + 10 + 4) h = d1 at p1
  have o1 : ∀ c, c ≠ 95 → d1.1 c = d.1 c := fun c z => by rw [← hd1]; exact wA_ne z
  have a95 : d1.1 (81 + 10 + 4) = h := by rw [← hd1]; exact wA_at
  have idx : ∀ Q : Nat, Q < 10000 → X5_indexOf 81 (Q : Int) d1 = some (li9 u U Q) := fun Q hQ => x5_idx (by rw [o1 81 (by decide)]; exact hu) h5 (fun j hj => by rw [o1 83 (by decide)]; exact hU j hj) hQ
  have l0 := fv9_lt hq 0
  have l1 := fv9_lt hq 1
  have l2 := fv9_lt hq 2
  have l3 := fv9_lt hq 3
  have l4 := fv9_lt hq 4
  have b0 := li9_bd (u := u) (U := U) (Q := fv9 (xq9 q) 0)
  have b1 := li9_bd (u := u) (U := U) (Q := fv9 (xq9 q) 1)
  have mb := mmax_ge (li9 u U (fv9 (xq9 q) 0)) (li9 u U (fv9 (xq9 q) 1))
  have t0 : Int.toNat 0 = 0 := rfl
  have t1 : Int.toNat 1 = 1 := rfl
  have t2 : Int.toNat 2 = 2 := rfl
  have t3 : Int.toNat 3 = 3 := rfl
  have t4 : Int.toNat 4 = 4 := rfl
  have lsb := ls9_ge (u := u) (U := U) (x := xq9 q)
  have body : ∀ (v : Nat) (m0 : Int), v < 2 → -1 ≤ m0 ∧ m0 < u → X5_addPentagon_b35 81 m0 (v : Int) d1 = some (.inl (lsh u U (xq9 q) v m0, (v : Int) + 1)) := fun v m0 hv hm0 => by
    have c1 := li9_bd (u := u) (U := U) (Q := fv9 (xq9 q) 2 + v)
    have c2 := li9_bd (u := u) (U := U) (Q := fv9 (xq9 q) 3 + 81 * v)
    have c3 := li9_bd (u := u) (U := U) (Q := fv9 (xq9 q) 4 + 3 * v)
    have m1 := mmax_ge m0 (li9 u U (fv9 (xq9 q) 2 + v))
    have m2 := mmax_ge (mmax m0 (li9 u U (fv9 (xq9 q) 2 + v))) (li9 u U (fv9 (xq9 q) 3 + 81 * v))
    have i1 := idx (fv9 (xq9 q) 2 + v) (by omega)
    have i2 := idx (fv9 (xq9 q) 3 + 81 * v) (by omega)
    have i3 := idx (fv9 (xq9 q) 4 + 3 * v) (by omega)
    have e2 : (fv9 (xq9 q) 2 : Int) + (v : Int) = ((fv9 (xq9 q) 2 + v : Nat) : Int) := by omega
    have e3 : (fv9 (xq9 q) 3 : Int) + 81 * (v : Int) = ((fv9 (xq9 q) 3 + 81 * v : Nat) : Int) := by omega
    have e4 : (fv9 (xq9 q) 4 : Int) + 3 * (v : Int) = ((fv9 (xq9 q) 4 + 3 * v : Nat) : Int) := by omega
    unfold X5_addPentagon_b35
    rw [gd_pos (by omega), if_neg (by omega), gd_pos (by decide), a95, t2, f2, e2, b1_pos i1, gd_pos (by omega), lt_pos, gd_pos (by decide), t3, f3, e3, b1_pos i2, gd_pos (by omega), lt_pos, gd_pos (by decide), t4, f4, e4, b1_pos i3, gd_pos (by omega), lt_pos]
    rfl
  have g0 := (lsh_ge (u := u) (U := U) (x := xq9 q) (h := 0) (m := mmax (li9 u U (fv9 (xq9 q) 0)) (li9 u U (fv9 (xq9 q) 1))) (by omega)).2
  have loop : lpE (fun q => X5_addPentagon_b35 81 q.1 q.2 d1) (mmax (li9 u U (fv9 (xq9 q) 0)) (li9 u U (fv9 (xq9 q) 1)), 0) (fun e => X5_addPentagon_j93 81 e d1) = X5_addPentagon_j93 81 (ls9 u U (xq9 q)) d1 := by
    refine lpE_for (fun i => if i = 0 then (mmax (li9 u U (fv9 (xq9 q) 0)) (li9 u U (fv9 (xq9 q) 1)), (0 : Int)) else if i = 1 then (lsh u U (xq9 q) 0 (mmax (li9 u U (fv9 (xq9 q) 0)) (li9 u U (fv9 (xq9 q) 1))), (1 : Int)) else (ls9 u U (xq9 q), (2 : Int))) 2 _ rfl (by decide) (fun i hi => ?_) ?_
    · rcases (show i = 0 ∨ i = 1 by omega) with rfl | rfl
      · exact body 0 (mmax (li9 u U (fv9 (xq9 q) 0)) (li9 u U (fv9 (xq9 q) 1))) (by decide) (by omega)
      · exact body 1 (lsh u U (xq9 q) 0 (mmax (li9 u U (fv9 (xq9 q) 0)) (li9 u U (fv9 (xq9 q) 1)))) (by decide) g0
    · show X5_addPentagon_b35 81 (ls9 u U (xq9 q)) 2 d1 = _
      unfold X5_addPentagon_b35
      rw [gd_pos (by decide), if_pos (by decide)]
  have e10 : d1.1 81 10 = m := by rw [o1 81 (by decide)]; exact h10
  generalize hd2 : cpI d1 (81 + 10 + 4) 0 (81 + 16) (5 * (d1.1 81 10)) 5 = d2
  have o2 : ∀ c, c ≠ 97 → d2.1 c = d1.1 c := fun c z => by
    rw [← hd2]
    unfold cpI
    exact wA_ne z
  have e97 : ∀ j, d2.1 97 j = if 5 * m ≤ j ∧ j < 5 * m + 5 then h (j - 5 * m) else d1.1 97 j := fun j => by
    rw [← hd2, e10]
    unfold cpI
    show (wA d1 97 _).1 97 j = _
    rw [wA_at, a95]
    unfold cpF
    have z1 : (5 * (m : Int)).toNat = 5 * m := by omega
    have z5 : Int.toNat 5 = 5 := rfl
    rw [z1, z5, t0]
    by_cases c : 5 * m ≤ j ∧ j < 5 * m + 5
    · rw [if_pos c, if_pos c, Nat.zero_add]
    · rw [if_neg c, if_neg c]
  have g10 : d2.1 81 10 = m := by rw [o2 81 (by decide)]; exact e10
  refine ⟨wI (wI d2 98 m (ls9 u U (xq9 q))) 81 10 ((m : Int) + 1), ?_, ?_, fun c j z1 z2 z3 z4 => ?_, ?_, fun j hj => ?_, fun t ht => ?_, fun j hj => ?_, ?_⟩
  · unfold X5_addPentagon
    rw [bd_pos p1, gd_pos (by decide), a95, t0, f0, b1_pos (idx _ (by omega)), gd_pos (by decide), t1, f1, b1_pos (idx _ (by omega)), gd_pos (by omega), lt_pos]
    rw [loop]
    unfold X5_addPentagon_j93
    have cg : cpg 0 5 (5 * (d1.1 81 10)) 160 5 := by rw [e10]; unfold cpg; omega
    rw [gd_pos cg, lt_pos, hd2, g10, gd_pos (by omega), lt_pos, Int.toNat_natCast, lt_pos]
    have : (wI d2 (81 + 17) m (ls9 u U (xq9 q))).1 81 10 = m := by rw [wI_ne (by decide)]; exact g10
    rw [this]
  · show d2.2 = _
    rw [← hd2]
    show d1.2 = _
    rw [← hd1]; rfl
  · by_cases e : c = 81
    · subst e
      rw [wI_at, fu_n (by omega), wI_ne (by decide), o2 81 (by decide), o1 81 (by decide)]
    · rw [wI_ne e, wI_ne z3, o2 c z2, o1 c z1]
  · rw [wI_at, fu_s]; rfl
  · rw [wI_ne (by decide), wI_ne (by decide), e97, if_neg (by omega), o1 97 (by decide)]
  · rw [wI_ne (by decide), wI_ne (by decide), e97, if_pos (by omega), show 5 * m + t - 5 * m = t by omega]
    rcases (show t = 0 ∨ t = 1 ∨ t = 2 ∨ t = 3 ∨ t = 4 by omega) with rfl | rfl | rfl | rfl | rfl
    · exact f0
    · exact f1
    · exact f2
    · exact f3
    · exact f4
  · rw [wI_ne (by decide), wI_at, fu_n hj, o2 98 (by decide), o1 98 (by decide)]
  · rw [wI_ne (by decide), wI_at, fu_s]
/-- the class gathers all pentagons -/
theorem x5_pens {d0 : DA} {n : Nat → Int} {u : Nat} {U : Nat → Nat} (hT : TG n 2) (hS : ST9 d0 n) (hu : d0.1 81 2 = u) (h5 : u ≤ 5) (hU : ∀ j, j < u → d0.1 83 j = (U j : Int) ∧ U j < 729) (h0 : d0.1 81 10 = 0) : ∃ d, X5_gatherPentagons 81 d0 = some ((), d) ∧ d.2 = d0.2 ∧ (∀ c j, c ≠ 94 → c ≠ 95 → c ≠ 97 → c ≠ 98 → (c ≠ 81 ∨ j ≠ 10) → d.1 c j = d0.1 c j) ∧ d.1 81 10 = (cn9 (pnq n) 32 : Int) ∧ ∀ y, y < 32 → pnq n y = true → (∀ t, t < 5 → d.1 97 (5 * cn9 (pnq n) y + t) = (fv9 (xq9 y) t : Int)) ∧ d.1 98 (cn9 (pnq n) y) = ls9 u U (xq9 y) := by
  unfold X5_gatherPentagons
  have fl : J7_fill_53178 (81 + 10 + 3) 9 1 d0 = some ((), wA d0 94 (pre (d0.1 94) (fun _ => 1) 9)) := fillI (by omega)
  rw [bd_pos fl]
  have I0 : (wA d0 94 (pre (d0.1 94) (fun _ => 1) 9)).2 = d0.2 := rfl
  obtain ⟨d, l1, l2, l3, l4, l5, l6⟩ := lev9i (b := fun q => X5_gatherPentagons_b15 81 q.1 q.2) (P := fun q d => d.2 = d0.2 ∧ (∀ c j, c ≠ 94 → c ≠ 95 → c ≠ 97 → c ≠ 98 → (c ≠ 81 ∨ j ≠ 10) → d.1 c j = d0.1 c j) ∧ (∀ j, j < 4 → d.1 94 j = 1) ∧ d.1 81 10 = (cn9 (pnq n) q : Int) ∧ ∀ y, y < q → pnq n y = true → (∀ t, t < 5 → d.1 97 (5 * cn9 (pnq n) y + t) = (fv9 (xq9 y) t : Int)) ∧ d.1 98 (cn9 (pnq n) y) = ls9 u U (xq9 y)) (r := 32) (by decide) (fun q e hq hI => by
    obtain ⟨i1, i2, i3, i4, i5⟩ := hI
    have hSe : ST9 e n := ⟨by rw [i2 85 0 (by decide) (by decide) (by decide) (by decide) (Or.inl (by decide))]; exact hS.1, fun y hy => by rw [i2 86 y (by decide) (by decide) (by decide) (by decide) (Or.inl (by decide))]; exact hS.2 y hy⟩
    have kq := cn9_le (P := pnq n) q
    have x4 : xq9 q 4 = q / 16 := rfl
    have x5 : xq9 q 5 = q / 8 % 2 := rfl
    have x6 : xq9 q 6 = q / 4 % 2 := rfl
    have x7 : xq9 q 7 = q / 2 % 2 := rfl
    have x8 : xq9 q 8 = q % 2 := rfl
    have lt9' := xq9_lt hq
    have l4' := lt9' 4 (by omega)
    have l5' := lt9' 5 (by omega)
    have l6' := lt9' 6 (by omega)
    have l7' := lt9' 7 (by omega)
    have l8' := lt9' 8 (by omega)
    have one31 : ((2 ^ 1 - 1 : Nat) : Int) = 1 := rfl
    have y4 : ishr9 (q : Int) 4 = (xq9 q 4 : Int) := by rw [x4]; exact shr_nat9 (s := 4) (by omega) (by decide)
    have sh : ∀ s : Nat, s < 31 → iand9 (ishr9 (q : Int) (s : Int)) 1 = ((q / 2 ^ s % 2 : Nat) : Int) := fun s hs => by
      rw [shr_nat9 (by omega) (by omega), ← one31]
      exact mask_nat9 (s := 1) (Nat.lt_of_le_of_lt (Nat.div_le_self _ _) (by omega)) (by decide)
    have y5 : iand9 (ishr9 (q : Int) 3) 1 = (xq9 q 5 : Int) := sh 3 (by decide)
    have y6 : iand9 (ishr9 (q : Int) 2) 1 = (xq9 q 6 : Int) := sh 2 (by decide)
    have y7 : iand9 (ishr9 (q : Int) 1) 1 = (xq9 q 7 : Int) := sh 1 (by decide)
    have y8 : iand9 (q : Int) 1 = (xq9 q 8 : Int) := by
      rw [← one31]
      exact mask_nat9 (s := 1) (by omega) (by decide)
    have pq : pnq n q = true ↔ (n (ti 1 1 (xq9 q 5)) = 1 ∧ n (ti (xq9 q 5) 1 (xq9 q 6)) = 1 ∧ n (ti (xq9 q 6) 1 (xq9 q 4)) = 1 ∧ n (ti 1 1 (xq9 q 8)) = 1 ∧ n (ti 1 (xq9 q 8) (xq9 q 7)) = 1 ∧ n (ti 1 (xq9 q 7) (xq9 q 4)) = 1) := by
      unfold pnq pnS
      exact decide_eq_true_iff
    have nbd : ∀ a b c : Nat, a < 2 → b < 2 → c < 2 → 0 ≤ n (ti a b c) ∧ n (ti a b c) ≤ 9 := fun a b c ha hb hc => hT.2.1 _ (by unfold ti; omega)
    have stay : ¬ pnq n q = true → ∃ d', (some (Sum.inl ((q : Int) + 1, e)) : Option ((Int × DA) ⊕ DA)) = some (.inl ((q : Int) + 1, d')) ∧ (d'.2 = d0.2 ∧ (∀ c j, c ≠ 94 → c ≠ 95 → c ≠ 97 → c ≠ 98 → (c ≠ 81 ∨ j ≠ 10) → d'.1 c j = d0.1 c j) ∧ (∀ j, j < 4 → d'.1 94 j = 1) ∧ d'.1 81 10 = (cn9 (pnq n) (q + 1) : Int) ∧ ∀ y, y < q + 1 → pnq n y = true → (∀ t, t < 5 → d'.1 97 (5 * cn9 (pnq n) y + t) = (fv9 (xq9 y) t : Int)) ∧ d'.1 98 (cn9 (pnq n) y) = ls9 u U (xq9 y)) := fun z => ⟨e, rfl, i1, i2, i3, by rw [cn9_s, if_neg z]; exact i4, fun y hy hz => i5 y (by
      by_cases ey : y = q
      · rw [ey] at hz; exact absurd hz z
      · omega) hz⟩
    have a1 : X8_at (81 + 4) 1 1 (xq9 q 5 : Int) e = some (n (ti 1 1 (xq9 q 5))) := hSe.at (i := 1) (j := 1) (k := xq9 q 5) (by omega) (by omega) (by omega)
    have a2 : X8_at (81 + 4) (xq9 q 5 : Int) 1 (xq9 q 6 : Int) e = some (n (ti (xq9 q 5) 1 (xq9 q 6))) := hSe.at (i := xq9 q 5) (j := 1) (k := xq9 q 6) (by omega) (by omega) (by omega)
    have a3 : X8_at (81 + 4) (xq9 q 6 : Int) 1 (xq9 q 4 : Int) e = some (n (ti (xq9 q 6) 1 (xq9 q 4))) := hSe.at (i := xq9 q 6) (j := 1) (k := xq9 q 4) (by omega) (by omega) (by omega)
    have a4 : X8_at (81 + 4) 1 1 (xq9 q 8 : Int) e = some (n (ti 1 1 (xq9 q 8))) := hSe.at (i := 1) (j := 1) (k := xq9 q 8) (by omega) (by omega) (by omega)
    have a5 : X8_at (81 + 4) 1 (xq9 q 8 : Int) (xq9 q 7 : Int) e = some (n (ti 1 (xq9 q 8) (xq9 q 7))) := hSe.at (i := 1) (j := xq9 q 8) (k := xq9 q 7) (by omega) (by omega) (by omega)
    have a6 : X8_at (81 + 4) 1 (xq9 q 7 : Int) (xq9 q 4 : Int) e = some (n (ti 1 (xq9 q 7) (xq9 q 4))) := hSe.at (i := 1) (j := xq9 q 7) (k := xq9 q 4) (by omega) (by omega) (by omega)
    have b1' := nbd 1 1 (xq9 q 5) (by omega) (by omega) (by omega)
    have b2' := nbd (xq9 q 5) 1 (xq9 q 6) (by omega) (by omega) (by omega)
    have b3' := nbd (xq9 q 6) 1 (xq9 q 4) (by omega) (by omega) (by omega)
    have b4' := nbd 1 1 (xq9 q 8) (by omega) (by omega) (by omega)
    have b5' := nbd 1 (xq9 q 8) (xq9 q 7) (by omega) (by omega) (by omega)
    have b6' := nbd 1 (xq9 q 7) (xq9 q 4) (by omega) (by omega) (by omega)
    show ∃ d', X5_gatherPentagons_b15 81 (q : Int) e = _ ∧ _
    unfold X5_gatherPentagons_b15
    rw [gd_pos (by omega), if_neg (by omega), lt_pos, lt_pos, lt_pos, lt_pos, lt_pos, y4, y5, y6, y7, y8, b1_pos a1, gd_pos (by omega)]
    by_cases c1 : n (ti 1 1 (xq9 q 5)) = 1
    · rw [if_pos c1, b1_pos a2, gd_pos (by omega)]
      by_cases c2 : n (ti (xq9 q 5) 1 (xq9 q 6)) = 1
      · rw [if_pos c2, b1_pos a3, gd_pos (by omega)]
        by_cases c3 : n (ti (xq9 q 6) 1 (xq9 q 4)) = 1
        · rw [if_pos c3, b1_pos a4, gd_pos (by omega)]
          by_cases c4 : n (ti 1 1 (xq9 q 8)) = 1
          · rw [if_pos c4, b1_pos a5, gd_pos (by omega)]
            by_cases c5 : n (ti 1 (xq9 q 8) (xq9 q 7)) = 1
            · rw [if_pos c5, b1_pos a6, gd_pos (by omega)]
              by_cases c6 : n (ti 1 (xq9 q 7) (xq9 q 4)) = 1
              · have z := pq.mpr ⟨c1, c2, c3, c4, c5, c6⟩
                rw [if_pos c6, gd_pos (by decide), lt_pos, gd_pos (by decide), lt_pos, gd_pos (by decide), lt_pos, gd_pos (by decide), lt_pos, gd_pos (by decide), lt_pos]
                generalize hE : wI (wI (wI (wI (wI e (81 + 10 + 3) (Int.toNat 4) (xq9 q 4 : Int)) (81 + 10 + 3) (Int.toNat 5) (xq9 q 5 : Int)) (81 + 10 + 3) (Int.toNat 6) (xq9 q 6 : Int)) (81 + 10 + 3) (Int.toNat 7) (xq9 q 7 : Int)) (81 + 10 + 3) (Int.toNat 8) (xq9 q 8 : Int) = E
                have Eo : ∀ c, c ≠ 94 → E.1 c = e.1 c := fun c z => by
                  have z' : c ≠ 81 + 10 + 3 := z
                  rw [← hE, wI_ne z', wI_ne z', wI_ne z', wI_ne z', wI_ne z']
                have E94 : E.1 94 = fu (fu (fu (fu (fu (e.1 94) 4 (xq9 q 4 : Int)) 5 (xq9 q 5 : Int)) 6 (xq9 q 6 : Int)) 7 (xq9 q 7 : Int)) 8 (xq9 q 8 : Int) := by
                  rw [← hE]
                  show (wI (wI (wI (wI (wI e 94 4 (xq9 q 4 : Int)) 94 5 (xq9 q 5 : Int)) 94 6 (xq9 q 6 : Int)) 94 7 (xq9 q 7 : Int)) 94 8 (xq9 q 8 : Int)).1 94 = _
                  rw [wI_at, wI_at, wI_at, wI_at, wI_at]
                have hx : ∀ i, i < 9 → E.1 94 i = (xq9 q i : Nat) := fun i hi => by
                  rw [E94]
                  rcases (show i < 4 ∨ i = 4 ∨ i = 5 ∨ i = 6 ∨ i = 7 ∨ i = 8 by omega) with h | rfl | rfl | rfl | rfl | rfl
                  · rw [fu_n (by omega), fu_n (by omega), fu_n (by omega), fu_n (by omega), fu_n (by omega), i3 i h]
                    show (1 : Int) = ((if i < 4 then 1 else _ : Nat) : Int)
                    rw [if_pos h]; rfl
                  · rw [fu_n (by decide), fu_n (by decide), fu_n (by decide), fu_n (by decide), fu_s]
                  · rw [fu_n (by decide), fu_n (by decide), fu_n (by decide), fu_s]
                  · rw [fu_n (by decide), fu_n (by decide), fu_s]
                  · rw [fu_n (by decide), fu_s]
                  · rw [fu_s]
                obtain ⟨d', w1, w2, w3, w4, w5, w6, w7, w8⟩ := x5_addP (d := E) (u := u) (q := q) (m := cn9 (pnq n) q) (U := U) (by rw [Eo 81 (by decide), i2 81 2 (by decide) (by decide) (by decide) (by decide) (Or.inr (by decide))]; exact hu) h5 (fun j hj => by rw [Eo 83 (by decide), i2 83 j (by decide) (by decide) (by decide) (by decide) (Or.inl (by decide))]; exact hU j hj) hq hx (by rw [Eo 81 (by decide)]; exact i4) (by omega)
                rw [bd_pos w1]
                have E2 : E.2 = e.2 := by rw [← hE]; rfl
                refine ⟨d', rfl, by rw [w2, E2]; exact i1, fun c j z1 z2 z3 z4 z5 => by rw [w3 c j z2 z3 z4 z5, Eo c z1]; exact i2 c j z1 z2 z3 z4 z5, fun j hj => ?_, by rw [w4, cn9_s, if_pos z], fun y hy hz => ?_⟩
                · rw [w3 94 j (by decide) (by decide) (by decide) (Or.inl (by decide)), hx j (by omega)]
                  show ((if j < 4 then 1 else _ : Nat) : Int) = 1
                  rw [if_pos hj]; rfl
                · by_cases ey : y = q
                  · rw [ey]; exact ⟨w6, w8⟩
                  · have kl := cn9_lt (P := pnq n) (x := y) (m := q) (by omega) hz
                    obtain ⟨v1, v2⟩ := i5 y (by omega) hz
                    refine ⟨fun t ht => by rw [w5 _ (by omega), Eo 97 (by decide)]; exact v1 t ht, by rw [w7 _ (by omega), Eo 98 (by decide)]; exact v2⟩
              · rw [if_neg c6]; exact stay (fun z => c6 (pq.mp z).2.2.2.2.2)
            · rw [if_neg c5]; exact stay (fun z => c5 (pq.mp z).2.2.2.2.1)
          · rw [if_neg c4]; exact stay (fun z => c4 (pq.mp z).2.2.2.1)
        · rw [if_neg c3]; exact stay (fun z => c3 (pq.mp z).2.2.1)
      · rw [if_neg c2]; exact stay (fun z => c2 (pq.mp z).2.1)
    · rw [if_neg c1]; exact stay (fun z => c1 (pq.mp z).1)) (fun e hI => by
    show X5_gatherPentagons_b15 81 ((32 : Nat) : Int) e = _
    unfold X5_gatherPentagons_b15
    rw [gd_pos (by decide), if_pos (by decide)]) (d := wA d0 94 (pre (d0.1 94) (fun _ => 1) 9)) ⟨rfl, fun c j z1 z2 z3 z4 z5 => by rw [wA_ne z1], fun j hj => by rw [wA_at, pre_lt (by omega)], by rw [wA_ne (by decide)]; exact h0, fun y hy => absurd hy (Nat.not_lt_zero _)⟩
  rw [l1]
  exact ⟨d, rfl, l2, l3, l5, l6⟩

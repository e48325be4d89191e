/-! ===== braids: the reference tells letters ===== -/
def FrM (d0 d : DA) : Prop := d.2 = d0.2 ∧ (∀ q, q ≠ 113 → (q < 138 ∨ 154 < q) → q ≠ 162 → d.1 q = d0.1 q) ∧ ∀ j, j ≠ 74 → d.1 113 j = d0.1 113 j
theorem FrM.rf (d : DA) : FrM d d := ⟨rfl, fun _ _ _ _ => rfl, fun _ _ => rfl⟩
theorem FrM.tr {a b c : DA} (h1 : FrM a b) (h2 : FrM b c) : FrM a c := ⟨h2.1.trans h1.1, fun q z1 z2 z3 => (h2.2.1 q z1 z2 z3).trans (h1.2.1 q z1 z2 z3), fun j z => (h2.2.2 j z).trans (h1.2.2 j z)⟩
theorem FrM.i {a b : DA} (h : FrM a b) {c k : Nat} {v : Int} (hc : (138 ≤ c ∧ c ≤ 154) ∨ c = 162) : FrM a (wI b c k v) := ⟨h.1, fun q z1 z2 z3 => by rw [wI_ne (by omega)]; exact h.2.1 q z1 z2 z3, fun j z => by rw [wI_ne (by omega)]; exact h.2.2 j z⟩
theorem FrM.a {a b : DA} (h : FrM a b) {c : Nat} {f : Nat → Int} (hc : (138 ≤ c ∧ c ≤ 154) ∨ c = 162) : FrM a (wA b c f) := ⟨h.1, fun q z1 z2 z3 => by rw [wA_ne (by omega)]; exact h.2.1 q z1 z2 z3, fun j z => by rw [wA_ne (by omega)]; exact h.2.2 j z⟩
theorem FrM.n {a b : DA} (h : FrM a b) {v : Int} : FrM a (wI b 113 74 v) := ⟨h.1, fun q z1 z2 z3 => by rw [wI_ne z1]; exact h.2.1 q z1 z2 z3, fun j z => by rw [wI_at, fu_n z]; exact h.2.2 j z⟩
/-- what the reference's braids rest on -/
def BR9 (d : DA) (n f F s R : Nat → Int) (r p : Nat) (iv : Int → Int) (a : Nat) (w : Nat → Int) (L : Nat) : Prop := d.1 114 = n ∧ d.1 117 = f ∧ d.1 118 = s ∧ d.1 113 1 = r ∧ d.1 113 4 = p ∧ (d.1 113 13 = L ∧ L ≤ 12 ∧ ∀ j, j < L → d.1 120 j = w j ∧ Lt9 (w j)) ∧ TrD n f F s R r p ∧ BD9 n F R r p iv a
theorem BR9.fr {d0 d : DA} {n f F s R : Nat → Int} {r p : Nat} {iv : Int → Int} {a : Nat} {w : Nat → Int} {L : Nat} (h : BR9 d0 n f F s R r p iv a w L) (hF : FrM d0 d) : BR9 d n f F s R r p iv a w L := by
  unfold BR9 at h ⊢
  rw [hF.2.1 114 (by decide) (by omega) (by decide), hF.2.1 117 (by decide) (by omega) (by decide), hF.2.1 118 (by decide) (by omega) (by decide), hF.2.1 120 (by decide) (by omega) (by decide), hF.2.2 1 (by decide), hF.2.2 4 (by decide), hF.2.2 13 (by decide)]
  exact h
section
variable {n f F s R : Nat → Int} {r p a c : Nat} {iv : Int → Int} {w : Nat → Int} {L : Nat}
theorem BR9.of {d : DA} (h : BR9 d n f F s R r p iv a w L) {i j k : Nat} (hi : i < r) (hj : j < r) (hk : k < r) : X12_of 113 i j k d = some (n (ti i j k)) ∧ 0 ≤ n (ti i j k) ∧ n (ti i j k) ≤ 9 := by
  have h5 := h.2.2.2.2.2.2.1.1.1.2
  have := x12_of (d := d) (o := 113) (i := i) (j := j) (k := k) (by omega) (by omega) (by omega)
  have e : nn d 113 i j k = n (ti i j k) := by unfold nn ti; rw [← h.1]
  rw [e] at this
  refine ⟨this, h.2.2.2.2.2.2.1.1.2.1 _ ?_⟩
  unfold ti; omega
theorem x12_paths {d0 : DA} (h : BR9 d0 n f F s R r p iv a w L) (hc : c < r) : ∃ d, X12_tellPaths 113 a c d0 = some ((), d) ∧ FrM d0 d ∧ d.1 113 74 = (bm9 n r a c : Int) ∧ ∀ i, i < bm9 n r a c → d.1 148 i = (pk9 (ptB n a c) r i : Int) := by
  have h3 := h.2.2.2.2.2.2.2.2.1
  have ha := h.2.2.2.2.2.2.2.2.2.2.2.1
  have I0 : FrM d0 (wI d0 113 74 0) ∧ (wI d0 113 74 0).1 113 74 = (cn9 (ptB n a c) 0 : Int) ∧ Pl9 (ptB n a c) 0 ((wI d0 113 74 0).1 148) := ⟨(FrM.rf d0).n, by rw [wI_at, fu_s]; rfl, fun x hx => absurd hx (Nat.not_lt_zero _)⟩
  obtain ⟨d, l1, l2, l3, l4⟩ := lev9i (b := fun q => X12_tellPaths_b7 113 a c q.1 q.2) (P := fun x e => FrM d0 e ∧ e.1 113 74 = (cn9 (ptB n a c) x : Int) ∧ Pl9 (ptB n a c) x (e.1 148)) (r := r) (by omega) (fun x e hx hI => by
    obtain ⟨i1, i2, i3⟩ := hI
    have hB := h.fr i1
    have er := hB.2.2.2.1
    obtain ⟨o1, o2⟩ := hB.of ha ha hx
    obtain ⟨o3, o4⟩ := hB.of hx ha hc
    have k1 := cn9_le (P := ptB n a c) x
    show ∃ d', X12_tellPaths_b7 113 a c (x : Int) e = _ ∧ _
    unfold X12_tellPaths_b7
    rw [er, gd_pos (by omega), if_neg (by omega), b1_pos o1, gd_pos (by omega)]
    have skip : ¬ ptB n a c x = true → ∃ d', some (Sum.inl ((x : Int) + 1, e)) = (some (.inl ((x : Int) + 1, d')) : Option ((Int × DA) ⊕ DA)) ∧ (FrM d0 d' ∧ d'.1 113 74 = (cn9 (ptB n a c) (x + 1) : Int) ∧ Pl9 (ptB n a c) (x + 1) (d'.1 148)) := fun z => ⟨e, rfl, i1, by rw [cn9_s, if_neg z]; exact i2, i3.skip z⟩
    by_cases c1 : n (ti a a x) = 1
    · rw [if_pos c1, b1_pos o3, gd_pos (by omega)]
      by_cases c2 : n (ti x a c) = 1
      · have z : ptB n a c x = true := decide_eq_true ⟨c1, c2⟩
        rw [if_pos c2, i2, gd_pos (by omega), lt_pos, Int.toNat_natCast, lt_pos]
        have e74 : (wI e (113 + 35) (cn9 (ptB n a c) x) x).1 113 74 = (cn9 (ptB n a c) x : Int) := by rw [wI_ne (by decide)]; exact i2
        rw [e74]
        refine ⟨_, rfl, (i1.i (by omega)).n, ?_, ?_⟩
        · rw [wI_at, fu_s, cn9_s, if_pos z]; rfl
        · rw [wI_ne (by decide)]
          show Pl9 _ _ ((wI e 148 _ _).1 148)
          rw [wI_at]; exact i3.put z
      · rw [if_neg c2]
        exact skip (fun z => c2 (of_decide_eq_true z).2)
    · rw [if_neg c1]
      exact skip (fun z => c1 (of_decide_eq_true z).1)) (fun e hI => by
    have er := (h.fr hI.1).2.2.2.1
    show X12_tellPaths_b7 113 a c (r : Int) e = _
    unfold X12_tellPaths_b7
    rw [er, gd_pos (by omega), if_pos (by omega)]) I0
  refine ⟨d, ?_, l2, l3, fun i hi => l4.pk hi⟩
  unfold X12_tellPaths
  rw [lt_pos, l1]
theorem x12_cols {d0 : DA} (h : BR9 d0 n f F s R r p iv a w L) (hc : c < r) : ∃ d, X12_columnsOf 113 a c d0 = some ((113 + 41), d) ∧ FrM d0 d ∧ (∀ q, q ≠ 154 → d.1 q = d0.1 q) ∧ ∀ i, i < cn9 (pcB n a c) r → d.1 154 i = (pk9 (pcB n a c) r i : Int) := by
  have h3 := h.2.2.2.2.2.2.2.2.1
  have ha := h.2.2.2.2.2.2.2.2.2.2.2.1
  unfold X12_columnsOf
  obtain ⟨e, e1, e2, e3, e4⟩ := lpE_inv (b := fun q : Int × Int × DA => X12_columnsOf_b5 113 a c q.1 q.2.1 q.2.2) (k := fun e : DA => some (((113 + 41 : Nat)), e)) (s0 := (0, 0, d0)) (fun x t => t.2.1 = (x : Int) ∧ t.1 = (cn9 (pcB n a c) x : Int) ∧ FrM d0 t.2.2 ∧ (∀ q, q ≠ 154 → t.2.2.1 q = d0.1 q) ∧ Pl9 (pcB n a c) x (t.2.2.1 154)) (fun e => FrM d0 e ∧ (∀ q, q ≠ 154 → e.1 q = d0.1 q) ∧ Pl9 (pcB n a c) r (e.1 154)) r (by omega) ⟨rfl, rfl, FrM.rf d0, fun _ _ => rfl, fun x hx => absurd hx (Nat.not_lt_zero _)⟩ (fun x t hx hI => by
    obtain ⟨v3, v4, e⟩ := t
    obtain ⟨i0, i1, i2, i3, i4⟩ := hI
    dsimp only at i0 i1 i2 i3 i4 ⊢
    subst i0 i1
    have hB := h.fr i2
    have er := hB.2.2.2.1
    obtain ⟨o1, o2⟩ := hB.of ha ha hx
    obtain ⟨o3, o4⟩ := hB.of ha hx hc
    have k1 := cn9_le (P := pcB n a c) x
    unfold X12_columnsOf_b5
    rw [er, gd_pos (by omega), if_neg (by omega), b1_pos o1, gd_pos (by omega)]
    have skip : ¬ pcB n a c x = true → ∃ s', some (Sum.inl ((cn9 (pcB n a c) x : Int), (x : Int) + 1, e)) = (some (.inl s') : Option ((Int × Int × DA) ⊕ DA)) ∧ (s'.2.1 = ((x + 1 : Nat) : Int) ∧ s'.1 = (cn9 (pcB n a c) (x + 1) : Int) ∧ FrM d0 s'.2.2 ∧ (∀ q, q ≠ 154 → s'.2.2.1 q = d0.1 q) ∧ Pl9 (pcB n a c) (x + 1) (s'.2.2.1 154)) := fun z => ⟨_, rfl, rfl, by rw [cn9_s, if_neg z]; rfl, i2, i3, i4.skip z⟩
    by_cases c1 : n (ti a a x) = 1
    · rw [if_pos c1, b1_pos o3, gd_pos (by omega)]
      by_cases c2 : n (ti a x c) = 1
      · have z : pcB n a c x = true := decide_eq_true ⟨c1, c2⟩
        rw [if_pos c2, gd_pos (by omega), lt_pos, Int.toNat_natCast]
        refine ⟨_, rfl, rfl, ?_, i2.i (by omega), fun q hq => ?_, ?_⟩
        · rw [cn9_s, if_pos z]; rfl
        · exact (wI_ne (show q ≠ 113 + 41 from hq)).trans (i3 q hq)
        · show Pl9 _ _ ((wI e 154 _ _).1 154)
          rw [wI_at]; exact i4.put z
      · rw [if_neg c2]
        exact skip (fun z => c2 (of_decide_eq_true z).2)
    · rw [if_neg c1]
      exact skip (fun z => c1 (of_decide_eq_true z).1)) (fun t hI => by
    obtain ⟨v3, v4, e⟩ := t
    obtain ⟨i0, i1, i2, i3, i4⟩ := hI
    dsimp only at i0 i1 i2 i3 i4 ⊢
    subst i0 i1
    have er := (h.fr i2).2.2.2.1
    refine ⟨e, ?_, i2, i3, i4⟩
    unfold X12_columnsOf_b5
    rw [er, gd_pos (by omega), if_pos (by omega)])
  rw [e1]
  exact ⟨e, rfl, e2, e3, fun i hi => e4.pk hi⟩
/-- the reference lays the trees of a path's rows by columns -/
def TlI (d0 : DA) (n F R : Nat → Int) (r a c x : Nat) (t : Int × Int × DA) : Prop := t.2.1 = (x : Int) ∧ t.1 = (cn9 (pcB n a c) x : Int) ∧ FrM d0 t.2.2 ∧ (∀ q, q ≠ 153 → t.2.2.1 q = d0.1 q) ∧ (∀ i y, i < bm9 n r a c → y < x → pcB n a c y = true → t.2.2.1 153 (5 * i + cn9 (pcB n a c) y) = F (six a a a c (pk9 (ptB n a c) r i) y)) ∧ ∀ y, y < x → pcB n a c y = true → R (thr a a y) ≠ 0
theorem x12_tlS {d0 : DA} (h : BR9 d0 n f F s R r p iv a w L) (hc : c < r) (h74 : d0.1 113 74 = (bm9 n r a c : Int)) (h148 : ∀ i, i < bm9 n r a c → d0.1 148 i = (pk9 (ptB n a c) r i : Int)) {x : Nat} (hx : x < r) {t : Int × Int × DA} (hI : TlI d0 n F R r a c x t) : (∃ s', X12_tellLetters_b11 113 a c t.1 t.2.1 t.2.2 = some (.inl s') ∧ TlI d0 n F R r a c (x + 1) s') ∨ (∃ y, X12_tellLetters_b11 113 a c t.1 t.2.1 t.2.2 = some (.inr (.inr y)) ∧ (y.1 = 0 ∧ FrM d0 y.2 ∧ ¬ ∀ y, y < r → pcB n a c y = true → R (thr a a y) ≠ 0)) := by
  obtain ⟨v3, v4, e⟩ := t
  obtain ⟨i0, i1, i2, i3, i4, i5⟩ := hI
  dsimp only at i0 i1 i2 i3 i4 i5 ⊢
  subst i0 i1
  have h3 := h.2.2.2.2.2.2.2.2.1
  have ha := h.2.2.2.2.2.2.2.2.2.2.2.1
  have hm := bm9_le (n := n) (r := r) (a := a) (c := c)
  have hB := h.fr i2
  have er := hB.2.2.2.1
  have hT := hB.2.2.2.2.2.2.1
  have h31 := hT.2.2.1.2
  obtain ⟨o1, o2⟩ := hB.of ha ha hx
  obtain ⟨o3, o4⟩ := hB.of ha hx hc
  have k1 := cn9_le (P := pcB n a c) x
  have os := x12_swap9 hT hB.1 hB.2.2.1 ha ha hx
  have ob := hT.s ha ha hx
  unfold X12_tellLetters_b11
  rw [er, gd_pos (by omega), if_neg (by omega), b1_pos o1, gd_pos (by omega)]
  have skip : ¬ pcB n a c x = true → ∃ s', some (Sum.inl ((cn9 (pcB n a c) x : Int), (x : Int) + 1, e)) = (some (.inl s') : Option ((Int × Int × DA) ⊕ ((Int × DA) ⊕ (Int × DA)))) ∧ TlI d0 n F R r a c (x + 1) s' := fun z => ⟨_, rfl, rfl, by rw [cn9_s, if_neg z]; rfl, i2, i3, fun i y hi hy hz => i4 i y hi (by
    by_cases ey : y = x
    · rw [ey] at hz; exact absurd hz z
    · omega) hz, fun y hy hz => i5 y (by
    by_cases ey : y = x
    · rw [ey] at hz; exact absurd hz z
    · omega) hz⟩
  by_cases c1 : n (ti a a x) = 1
  · rw [if_pos c1, b1_pos o3, gd_pos (by omega)]
    by_cases c2 : n (ti a x c) = 1
    · have z : pcB n a c x = true := decide_eq_true ⟨c1, c2⟩
      rw [if_pos c2, b1_pos os, gd_pos (by omega)]
      by_cases c3 : R (thr a a x) = 0
      · rw [if_pos c3]
        exact Or.inr ⟨_, rfl, rfl, i2, fun y => y x hx z c3⟩
      · rw [if_neg c3]
        left
        obtain ⟨e', l1, l2, l3, l4⟩ := lev9i (b := fun q => X12_tellLetters_b63 113 a c (cn9 (pcB n a c) x : Int) x q.1 q.2) (P := fun m g => FrM d0 g ∧ (∀ q, q ≠ 153 → g.1 q = d0.1 q) ∧ ∀ i y, (y < x ∧ i < bm9 n r a c ∨ y = x ∧ i < m) → pcB n a c y = true → g.1 153 (5 * i + cn9 (pcB n a c) y) = F (six a a a c (pk9 (ptB n a c) r i) y)) (r := bm9 n r a c) (by omega) (fun m g hm9 hJ => by
          obtain ⟨j1, j2, j3⟩ := hJ
          have hBg := h.fr j1
          have k2 := (pk9_ok (P := ptB n a c) (m := r) (i := m) hm9).1
          have g74 : g.1 113 74 = (bm9 n r a c : Int) := by rw [j2 113 (by decide)]; exact h74
          have g148 : g.1 (113 + 35) m = (pk9 (ptB n a c) r m : Int) := by show g.1 148 m = _; rw [j2 148 (by decide)]; exact h148 m hm9
          have ot := x12_tree9 hBg.2.2.2.2.2.2.1 hBg.1 hBg.2.1 ha ha ha hc k2 hx
          refine ⟨wI g 153 (5 * m + cn9 (pcB n a c) x) (F (six a a a c (pk9 (ptB n a c) r m) x)), ?_, j1.i (by omega), fun q hq => by rw [wI_ne hq]; exact j2 q hq, fun i y hiy hz => ?_⟩
          · show X12_tellLetters_b63 113 a c (cn9 (pcB n a c) x : Int) x (m : Int) g = _
            unfold X12_tellLetters_b63
            rw [g74, gd_pos (by omega), if_neg (by omega), gd_pos (by omega), Int.toNat_natCast, g148, b1_pos ot, gd_pos (by omega), lt_pos, show (5 * (m : Int) + (cn9 (pcB n a c) x : Int)).toNat = 5 * m + cn9 (pcB n a c) x by omega]
          · rw [wI_at, fu_app]
            by_cases ey : y = x
            · subst ey
              by_cases ei : i = m
              · subst ei; rw [if_pos rfl]
              · rw [if_neg (by omega)]
                exact j3 i y (Or.inr ⟨rfl, by omega⟩) hz
            · have hy : y < x := by omega
              have := cn9_lt (P := pcB n a c) hy hz
              rw [if_neg (by omega)]
              exact j3 i y (Or.inl ⟨hy, by omega⟩) hz) (fun g hJ => by
          have g74 : g.1 113 74 = (bm9 n r a c : Int) := by rw [hJ.2.1 113 (by decide)]; exact h74
          show X12_tellLetters_b63 113 a c (cn9 (pcB n a c) x : Int) x (bm9 n r a c : Int) g = _
          unfold X12_tellLetters_b63
          rw [g74, gd_pos (by omega), if_pos (by omega)]) (d := e) ⟨i2, i3, fun i y hiy hz => i4 i y (by omega) (by omega) hz⟩
        rw [l1]
        refine ⟨_, rfl, rfl, ?_, l2, l3, fun i y hi hy hz => l4 i y (by omega) hz, fun y hy hz => ?_⟩
        · rw [cn9_s, if_pos z]; rfl
        · by_cases ey : y = x
          · rw [ey]; exact c3
          · exact i5 y (by omega) hz
    · rw [if_neg c2]
      exact Or.inl (skip (fun z => c2 (of_decide_eq_true z).2))
  · rw [if_neg c1]
    exact Or.inl (skip (fun z => c1 (of_decide_eq_true z).1))
end

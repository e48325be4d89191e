/-! ===== braids: the class finds paths ===== -/
/-- all but the braids' own cells from lo on, and the field's scratch square, as it was -/
def FrB (lo : Nat) (d0 d : DA) : Prop := d.2 = d0.2 ∧ ∀ c, c ≠ 60 → (c < lo ∨ 112 < c) → d.1 c = d0.1 c
theorem FrB.rf (lo : Nat) (d : DA) : FrB lo d d := ⟨rfl, fun _ _ _ => rfl⟩
theorem FrB.tr {lo : Nat} {a b c : DA} (h1 : FrB lo a b) (h2 : FrB lo b c) : FrB lo a c := ⟨h2.1.trans h1.1, fun q z1 z2 => (h2.2 q z1 z2).trans (h1.2 q z1 z2)⟩
theorem FrB.lo {lo lo' : Nat} {a b : DA} (h : FrB lo' a b) (hl : lo ≤ lo') : FrB lo a b := ⟨h.1, fun q z1 z2 => h.2 q z1 (by omega)⟩
theorem FrB.i {lo : Nat} {a b : DA} (h : FrB lo a b) {c k : Nat} {v : Int} (hc : c = 60 ∨ (lo ≤ c ∧ c ≤ 112)) : FrB lo a (wI b c k v) := ⟨h.1, fun q z1 z2 => by rw [wI_ne (by omega)]; exact h.2 q z1 z2⟩
theorem FrB.a {lo : Nat} {a b : DA} (h : FrB lo a b) {c : Nat} {f : Nat → Int} (hc : c = 60 ∨ (lo ≤ c ∧ c ≤ 112)) : FrB lo a (wA b c f) := ⟨h.1, fun q z1 z2 => by rw [wA_ne (by omega)]; exact h.2 q z1 z2⟩
theorem x9_swp {d : DA} {a b c : Nat} (ha : a < 3) (hb : b < 3) (hc : c < 3) : X9_swapPlace a b c d = some ((thr a b c : Nat) : Int) := by
  unfold X9_swapPlace thr
  refine congrArg some ?_
  omega
def o19 (b : Bool) : Int := if b = true then 1 else 0
theorem o19_f : o19 false = 0 := rfl
theorem o19_t : o19 true = 1 := rfl
/-- the class looks whether a kind is a path, a column -/
theorem x0_fpB {d : DA} {n : Nat → Int} {r a c x : Nat} {v4 : Int} (hr : d.1 5 0 = r) (hn : d.1 6 = n) (hT : TG n r) (h3 : r ≤ 3) (ha : a < r) (hc : c < r) (hx : x < r) : X0_findPaths_b11 101 2 a c v4 x d = X0_findPaths_j95_11 101 2 a c v4 x (o19 (ptB n a c x)) (o19 (pcB n a c x)) d := by
  have nb : Nb d 5 := fun j hj => by show 0 ≤ d.1 6 j ∧ d.1 6 j ≤ 9; rw [hn]; exact hT.2.1 j hj
  have at9 : ∀ i j k : Nat, i < r → j < r → k < r → X8_at (2 + 3) i j k d = some (n (ti i j k)) ∧ (0 ≤ n (ti i j k) ∧ n (ti i j k) ≤ 9) := fun i j k hi hj hk => by
    have := x8_at (d := d) (o := 5) (i := i) (j := j) (k := k) (by omega) (by omega) (by omega)
    have e : nn d 5 i j k = n (ti i j k) := by unfold nn ti; rw [← hn]
    rw [e] at this
    refine ⟨this, hT.2.1 _ ?_⟩
    unfold ti; omega
  obtain ⟨e1, b1'⟩ := at9 a a x ha ha hx
  obtain ⟨e2, b2'⟩ := at9 x a c hx ha hc
  obtain ⟨e3, b3'⟩ := at9 a x c ha hx hc
  have hr' : d.1 (2 + 3) 0 = r := hr
  unfold X0_findPaths_b11
  rw [hr', gd_pos (by omega), if_neg (by omega), b1_pos e1, gd_pos (by omega)]
  have tail : ∀ s0 : Int, X0_findPaths_j58_11 101 2 a c v4 x s0 d = X0_findPaths_j95_11 101 2 a c v4 x s0 (o19 (pcB n a c x)) d := fun s0 => by
    unfold X0_findPaths_j58_11
    rw [b1_pos e1, gd_pos (by omega)]
    by_cases c1 : n (ti a a x) = 1
    · rw [if_pos c1, b1_pos e3, gd_pos (by omega)]
      by_cases c2 : n (ti a x c) = 1
      · rw [if_pos c2, show pcB n a c x = true from decide_eq_true ⟨c1, c2⟩]; rfl
      · rw [if_neg c2, show pcB n a c x = false from decide_eq_false (fun z => c2 z.2)]; rfl
    · rw [if_neg c1, show pcB n a c x = false from decide_eq_false (fun z => c1 z.1)]; rfl
  by_cases c1 : n (ti a a x) = 1
  · rw [if_pos c1, b1_pos e2, gd_pos (by omega)]
    by_cases c2 : n (ti x a c) = 1
    · rw [if_pos c2, tail, show ptB n a c x = true from decide_eq_true ⟨c1, c2⟩]; rfl
    · rw [if_neg c2, show ptB n a c x = false from decide_eq_false (fun z => c2 z.2)]
      unfold X0_findPaths_j57_11
      rw [tail]; rfl
  · rw [if_neg c1, show ptB n a c x = false from decide_eq_false (fun z => c1 z.1)]
    unfold X0_findPaths_j57_11
    rw [tail]; rfl
/-- what finding paths keeps up -/
def FpI (d0 : DA) (n R : Nat → Int) (a c x : Nat) (s : Int × Int × DA) : Prop := s.2.1 = (x : Int) ∧ s.1 = (cn9 (pcB n a c) x : Int) ∧ s.2.2.1 101 2 = (cn9 (ptB n a c) x : Int) ∧ Pl9 (ptB n a c) x (s.2.2.1 103) ∧ Pl9 (pcB n a c) x (s.2.2.1 104) ∧ (s.2.2.2 = d0.2 ∧ (∀ q, q ≠ 101 → q ≠ 103 → q ≠ 104 → s.2.2.1 q = d0.1 q) ∧ ∀ j, j ≠ 2 → s.2.2.1 101 j = d0.1 101 j) ∧ ∀ y, y < x → (ptB n a c y = true ∨ pcB n a c y = true) → R (thr a a y) ≠ 0
theorem x0_fpS {d0 : DA} {n R : Nat → Int} {r a c x : Nat} {s : Int × Int × DA} (hr : d0.1 5 0 = r) (hn : d0.1 6 = n) (hR : d0.1 13 = R) (hT : TG n r) (h3 : r ≤ 3) (ha : a < r) (hc : c < r) (hx : x < r) (hRb : ∀ a b c, a < r → b < r → c < r → 0 ≤ R (thr a b c) ∧ R (thr a b c) < 32) (hI : FpI d0 n R a c x s) : (∃ s', X0_findPaths_b11 101 2 a c s.1 s.2.1 s.2.2 = some (.inl s') ∧ FpI d0 n R a c (x + 1) s') ∨ (∃ y, X0_findPaths_b11 101 2 a c s.1 s.2.1 s.2.2 = some (.inr (.inr y)) ∧ (y.1 = 0 ∧ FrB 101 d0 y.2 ∧ ¬ ∀ y, y < r → (ptB n a c y = true ∨ pcB n a c y = true) → R (thr a a y) ≠ 0)) := by
  obtain ⟨v4, v5, d⟩ := s
  obtain ⟨i1, i2, i3, i4, i5, ⟨i6, i7, i8⟩, i9⟩ := hI
  dsimp only at i1 i2 i3 i4 i5 i6 i7 i8 ⊢
  subst i1 i2
  have hr' : d.1 5 0 = r := by rw [i7 5 (by decide) (by decide) (by decide)]; exact hr
  have hn' : d.1 6 = n := by rw [i7 6 (by decide) (by decide) (by decide)]; exact hn
  have hR' : d.1 13 = R := by rw [i7 13 (by decide) (by decide) (by decide)]; exact hR
  have eS := x9_swp (d := d) (a := a) (b := a) (c := x) (by omega) (by omega) (by omega)
  have bS := hRb a a x ha ha hx
  have l27 : thr a a x < 27 := by unfold thr; omega
  have k1 := cn9_le (P := ptB n a c) x
  have k2 := cn9_le (P := pcB n a c) x
  have fr : FrB 101 d0 d := ⟨i6, fun q z1 z2 => i7 q (by omega) (by omega) (by omega)⟩
  rw [x0_fpB hr' hn' hT h3 ha hc hx]
  have j107 : ∀ v6 v7 : Int, X0_findPaths_j107_11 101 2 a c (cn9 (pcB n a c) x : Int) x v6 v7 d = if R (thr a a x) = 0 then some (.inr (.inr (0, d))) else X0_findPaths_j127_11 101 2 a c (cn9 (pcB n a c) x : Int) x v6 v7 d := fun v6 v7 => by
    unfold X0_findPaths_j107_11
    have e13 : d.1 ((2 + 9) + 2) (thr a a x) = R (thr a a x) := by show d.1 13 _ = _; rw [hR']
    rw [b1_pos eS, gd_pos (by omega), Int.toNat_natCast, e13, gd_pos (by omega)]
  have hfa : (ptB n a c x = true ∨ pcB n a c x = true) → R (thr a a x) = 0 → ¬ ∀ y, y < r → (ptB n a c y = true ∨ pcB n a c y = true) → R (thr a a y) ≠ 0 := fun z1 z2 z3 => z3 x hx z1 z2
  have nx : ((ptB n a c x = true ∨ pcB n a c x = true) → R (thr a a x) ≠ 0) → ∀ y, y < x + 1 → (ptB n a c y = true ∨ pcB n a c y = true) → R (thr a a y) ≠ 0 := fun z y hy hy2 => by
    by_cases e : y = x
    · rw [e] at hy2 ⊢; exact z hy2
    · exact i9 y (by omega) hy2
  cases hP : ptB n a c x with
  | false =>
    cases hC : pcB n a c x with
    | false =>
      refine Or.inl ⟨((cn9 (pcB n a c) x : Int), (x : Int) + 1, d), ?_, rfl, ?_, ?_, i4.skip (by rw [hP]; decide), i5.skip (by rw [hC]; decide), ⟨i6, i7, i8⟩, nx (fun z => by rw [hP, hC] at z; rcases z with z | z <;> cases z)⟩
      · rw [o19_f]
        unfold X0_findPaths_j95_11
        rw [gd_pos (by decide), if_pos rfl, gd_pos (by decide), if_pos rfl]
        unfold X0_findPaths_j127_11
        rw [gd_pos (by decide), if_pos rfl]
        unfold X0_findPaths_j153_11
        rw [gd_pos (by decide), if_pos rfl]
      · rw [cn9_s, hC]; rfl
      · rw [cn9_s, hP]; exact i3
    | true =>
      rw [o19_f, o19_t]
      unfold X0_findPaths_j95_11
      rw [gd_pos (by decide), if_pos rfl, gd_pos (by decide), if_neg (by decide), j107]
      by_cases z : R (thr a a x) = 0
      · rw [if_pos z]
        exact Or.inr ⟨_, rfl, rfl, fr, hfa (Or.inr hC) z⟩
      · rw [if_neg z]
        refine Or.inl ⟨((cn9 (pcB n a c) x : Int) + 1, (x : Int) + 1, wI d 104 (cn9 (pcB n a c) x) x), ?_, rfl, ?_, ?_, ?_, ?_, ⟨i6, fun q z1 z2 z3 => by rw [wI_ne z3]; exact i7 q z1 z2 z3, fun j hj => by rw [wI_ne (by decide)]; exact i8 j hj⟩, nx (fun _ => z)⟩
        · unfold X0_findPaths_j127_11
          rw [gd_pos (by decide), if_pos rfl]
          unfold X0_findPaths_j153_11
          rw [gd_pos (by decide), if_neg (by decide), gd_pos (by omega), lt_pos, Int.toNat_natCast]
        · rw [cn9_s, hC]; rfl
        · rw [wI_ne (by decide), cn9_s, hP]; exact i3
        · rw [wI_ne (by decide)]; exact i4.skip (by rw [hP]; decide)
        · rw [wI_at]; exact i5.put hC
  | true =>
    rw [o19_t]
    unfold X0_findPaths_j95_11
    rw [gd_pos (by decide), if_neg (by decide), j107]
    by_cases z : R (thr a a x) = 0
    · rw [if_pos z]
      exact Or.inr ⟨_, rfl, rfl, fr, hfa (Or.inl hP) z⟩
    · rw [if_neg z]
      unfold X0_findPaths_j127_11
      rw [gd_pos (by decide), if_neg (by decide), i3, gd_pos (by omega), lt_pos, Int.toNat_natCast, lt_pos]
      have e101 : (wI d (101 + 2) (cn9 (ptB n a c) x) x).1 101 2 = (cn9 (ptB n a c) x : Int) := by rw [wI_ne (by decide)]; exact i3
      rw [e101]
      generalize hD : wI (wI d (101 + 2) (cn9 (ptB n a c) x) x) 101 2 ((cn9 (ptB n a c) x : Int) + 1) = D
      have D103 : D.1 103 = fu (d.1 103) (cn9 (ptB n a c) x) x := by rw [← hD, wI_ne (by decide)]; exact wI_at
      have D104 : D.1 104 = d.1 104 := by rw [← hD, wI_ne (by decide), wI_ne (by decide)]
      have D101 : D.1 101 2 = (cn9 (ptB n a c) x : Int) + 1 := by rw [← hD, wI_at, fu_s]
      have Do : ∀ q, q ≠ 101 → q ≠ 103 → D.1 q = d.1 q := fun q z1 z2 => by rw [← hD, wI_ne z1]; exact wI_ne z2
      have Dj : ∀ j, j ≠ 2 → D.1 101 j = d.1 101 j := fun j hj => by rw [← hD, wI_at, fu_n hj, wI_ne (by decide)]
      have D2 : D.2 = d0.2 := by rw [← hD]; exact i6
      cases hC : pcB n a c x with
      | false =>
        refine Or.inl ⟨((cn9 (pcB n a c) x : Int), (x : Int) + 1, D), ?_, rfl, ?_, ?_, ?_, ?_, ⟨D2, fun q z1 z2 z3 => by rw [Do q z1 z2]; exact i7 q z1 z2 z3, fun j hj => by rw [Dj j hj]; exact i8 j hj⟩, nx (fun _ => z)⟩
        · unfold X0_findPaths_j153_11
          rw [o19_f, gd_pos (by decide), if_pos rfl]
        · rw [cn9_s, hC]; rfl
        · rw [D101, cn9_s, hP]; rfl
        · rw [D103]; exact i4.put hP
        · rw [D104]; exact i5.skip (by rw [hC]; decide)
      | true =>
        refine Or.inl ⟨((cn9 (pcB n a c) x : Int) + 1, (x : Int) + 1, wI D 104 (cn9 (pcB n a c) x) x), ?_, rfl, ?_, ?_, ?_, ?_, ⟨D2, fun q z1 z2 z3 => by rw [wI_ne z3, Do q z1 z2]; exact i7 q z1 z2 z3, fun j hj => by rw [wI_ne (by decide), Dj j hj]; exact i8 j hj⟩, nx (fun _ => z)⟩
        · unfold X0_findPaths_j153_11
          rw [o19_t, gd_pos (by decide), if_neg (by decide), gd_pos (by omega), lt_pos, Int.toNat_natCast]
        · rw [cn9_s, hC]; rfl
        · rw [wI_ne (by decide), D101, cn9_s, hP]; rfl
        · rw [wI_ne (by decide), D103]; exact i4.put hP
        · rw [wI_at, D104]; exact i5.put hC
/-- the class finds the paths and columns -/
theorem x0_fp {d0 : DA} {n R : Nat → Int} {r a c : Nat} (hr : d0.1 5 0 = r) (hn : d0.1 6 = n) (hR : d0.1 13 = R) (hT : TG n r) (h3 : r ≤ 3) (ha : a < r) (hc : c < r) (hRb : ∀ a b c, a < r → b < r → c < r → 0 ≤ R (thr a b c) ∧ R (thr a b c) < 32) : ∃ v d, X0_findPaths 101 2 a c d0 = some (v, d) ∧ FrB 101 d0 d ∧ ((v = 1 ∧ d.1 102 = d0.1 102 ∧ d.1 101 1 = d0.1 101 1 ∧ d.1 101 2 = (bm9 n r a c : Int) ∧ (∀ i, i < bm9 n r a c → d.1 103 i = (pk9 (ptB n a c) r i : Int) ∧ d.1 104 i = (pk9 (pcB n a c) r i : Int)) ∧ cn9 (pcB n a c) r = bm9 n r a c ∧ ∀ x, x < r → (ptB n a c x = true ∨ pcB n a c x = true) → R (thr a a x) ≠ 0) ∨ (v = 0 ∧ ¬ (cn9 (pcB n a c) r = bm9 n r a c ∧ ∀ x, x < r → (ptB n a c x = true ∨ pcB n a c x = true) → R (thr a a x) ≠ 0))) := by
  unfold X0_findPaths
  rw [lt_pos]
  have h0 : FpI d0 n R a c 0 (0, 0, wI d0 101 2 0) := ⟨rfl, rfl, by rw [wI_at, fu_s]; rfl, fun x hx => absurd hx (Nat.not_lt_zero _), fun x hx => absurd hx (Nat.not_lt_zero _), ⟨rfl, fun q z1 _ _ => wI_ne z1, fun j hj => by rw [wI_at, fu_n hj]⟩, fun y hy => absurd hy (Nat.not_lt_zero _)⟩
  have key := lpR_ei (b := fun q : Int × Int × DA => X0_findPaths_b11 101 2 a c q.1 q.2.1 q.2.2) (k := fun e : Int × DA => X0_findPaths_j176 101 2 e.1 e.2) (j := fun r : Int × DA => some r) (s0 := (0, 0, wI d0 101 2 0)) (FpI d0 n R a c) (fun e => FpI d0 n R a c r (e.1, (r : Int), e.2)) (fun y => y.1 = 0 ∧ FrB 101 d0 y.2 ∧ ¬ ∀ y, y < r → (ptB n a c y = true ∨ pcB n a c y = true) → R (thr a a y) ≠ 0) r (by omega) h0 (fun i s hi hI => x0_fpS hr hn hR hT h3 ha hc hi hRb hI) (fun s hI => by
    obtain ⟨v4, v5, d⟩ := s
    have i1 : v5 = (r : Int) := hI.1
    subst i1
    refine ⟨(v4, d), ?_, hI⟩
    have hr' : d.1 (2 + 3) 0 = r := by
      have := hI.2.2.2.2.2.1.2.1 5 (by decide) (by decide) (by decide)
      show d.1 5 0 = r
      rw [this]; exact hr
    show X0_findPaths_b11 101 2 a c v4 (r : Int) d = _
    unfold X0_findPaths_b11
    rw [hr', gd_pos (by omega), if_pos (by omega)])
  rcases key with ⟨e, e1, e2⟩ | ⟨y, e1, e2, e3, e4⟩
  · rw [e1]
    obtain ⟨v4, d⟩ := e
    obtain ⟨-, i2, i3, i4, i5, ⟨i6, i7, i8⟩, i9⟩ := e2
    dsimp only at i2 i3 i4 i5 i6 i7 i8 ⊢
    subst i2
    have k1 := cn9_le (P := ptB n a c) r
    have k2 := cn9_le (P := pcB n a c) r
    unfold X0_findPaths_j176
    rw [i3, gd_pos (by omega)]
    have fr : FrB 101 d0 d := ⟨i6, fun q z1 z2 => i7 q (by omega) (by omega) (by omega)⟩
    by_cases ce : cn9 (pcB n a c) r = bm9 n r a c
    · rw [if_pos (by unfold bm9 at ce; omega)]
      exact ⟨1, d, rfl, fr, Or.inl ⟨rfl, i7 102 (by decide) (by decide) (by decide), i8 1 (by decide), i3, fun i hi => ⟨i4.pk hi, i5.pk (by rw [ce]; exact hi)⟩, ce, i9⟩⟩
    · rw [if_neg (by unfold bm9 at ce; omega)]
      exact ⟨0, d, rfl, fr, Or.inr ⟨rfl, fun z => ce z.1⟩⟩
  · rw [e1]
    obtain ⟨v, d⟩ := y
    exact ⟨v, d, rfl, e3, Or.inr ⟨e2, fun z => e4 z.2⟩⟩

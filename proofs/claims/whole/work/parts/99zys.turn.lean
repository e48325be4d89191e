/-! ===== turns: the class's search ===== -/
theorem TS9.skip {x0 x : XS} {G : Nat → Bool} {p r st M : Nat} (h : TS9 x0 G p r st M x) (hG : ¬ G M = true) : TS9 x0 G p r st (M + 1) x := by
  obtain ⟨b1, b2, b3, b4, b5, b6, b7⟩ := h
  have e : cn9 G (M + 1) = cn9 G M := by rw [cn9_s, if_neg hG]; rfl
  refine ⟨b1, b2, b3, by rw [e]; exact b4, b5, fun X z1 z2 => ?_, b7⟩
  by_cases c : X = M
  · rw [c] at z2; exact absurd z2 hG
  · exact b6 X (by omega) z2
theorem TS9.add {x0 x : XS} {n c : Nat → Int} {iv : Int → Int} {du : Nat → Nat} {G : Nat → Bool} {p r st M : Nat} (h1 : 1 ≤ r) (h4 : r ≤ 4) (hC : TC9 x0 n c r p iv du) (h : TS9 x0 G p r st M x) (hG : G M = true) (hst : st ≤ 108000) (hM : M < 27000) (ht : ∀ k, k < r → x.1.1 73 k = tX9 p r M k) : ∃ x', X10_addFound x = some (.inl (), x') ∧ TS9 x0 G p r st (M + 1) x' ∧ (xc x ≤ xc x' ∧ xs x ≤ xs x') ∧ ∀ j, x'.1.1 74 j = x.1.1 74 j := by
  have hCx := hC.ts h
  obtain ⟨b1, b2, b3, ⟨b4, b4'⟩, b5, b6, b7⟩ := h
  obtain ⟨⟨a1, -⟩, ⟨-, -, a10, a11⟩, a12⟩ := hCx
  have kM := cn9_le (P := G) M
  obtain ⟨x', e1, e2, e3, e4, e5, e6, e7, e8, e9⟩ := x10_add (x := x) (r := r) (fi := st + cn9 G M) (t := tX9 p r M) h1 h4 a1 b4 b4' a12 b7.2.1.2 (by omega) ht a10 a11
  have e : cn9 G (M + 1) = cn9 G M + 1 := by rw [cn9_s, if_pos hG]
  refine ⟨x', e1, ⟨e2.trans b1, fun q z1 z2 z3 z4 => (e3 q z2 z3).trans (b2 q z1 z2 z3 z4), fun j z1 z2 => (e4 j z1).trans (b3 j z1 z2), ⟨?_, ?_⟩, fun q z => ?_, fun X z1 z2 => ?_, b7.tr e8⟩, e8.2.2.2.2.1, fun j => by rw [e3 74 (by decide) (by decide)]⟩
  · rw [e5, e]; congr 1
  · rw [e]; omega
  · rw [e7 q (by omega)]; exact b5 q z
  · by_cases c : X = M
    · rw [c]; exact e6
    · have := cn9_lt (P := G) (x := X) (m := M) (by omega) z2
      rw [e7 _ (by omega)]; exact b6 X (by omega) z2
theorem x10_try {x0 x : XS} {n c : Nat → Int} {l p Y st : Nat} {iv : Int → Int} {du : Nat → Nat} {G : Nat → Bool} (h1 : 1 ≤ l) (h3 : l ≤ 3) (hT : TG n (l + 1)) (hC : TC9 x0 n c (l + 1) p iv du) (hb : Cb p (l + 1) c) (h2 : 2 ≤ p) (h31 : p ≤ 31) (hiv : IvG p iv) (hdu : ∀ i, i < l + 1 → ptn (fun j => n (ti i j 0)) (l + 1) = (du i : Nat) ∧ du i < l + 1) (hG : ∀ X, X < (p - 1) ^ l → (G X = true ↔ Tn9 n (l + 1) p iv du c (tX9 p (l + 1) X))) (hN : (p - 1) ^ l ≤ 27000) (hst : st ≤ 108000) (hY : (Y + 1) * (p - 1) ≤ (p - 1) ^ l) (hS : TS9 x0 G p (l + 1) st (Y * (p - 1)) x) (hτ : ∀ j, j < l → x.1.1 74 j = tX9 p l Y j) : ∃ x', X10_tryLast x = some (.inl (), x') ∧ TS9 x0 G p (l + 1) st ((Y + 1) * (p - 1)) x' ∧ (xc x ≤ xc x' ∧ xs x ≤ xs x') ∧ ∀ j, j < l → x'.1.1 74 j = x.1.1 74 j := by
  have hp0 : 0 < p := by omega
  have hY' : Y * (p - 1) + (p - 1) ≤ (p - 1) ^ l := by rw [Nat.add_mul, Nat.one_mul] at hY; exact hY
  have tbY := tX9_b (p := p) (r := l) (X := Y) h2
  rw [x10_sums (n := n) (c := c) (τ := tX9 p l Y) h1 h3 hT (hC.ts hS) hb h2 h31 hiv (fun j hj => ⟨hτ j hj, tbY j hj⟩)]
  obtain ⟨w, hw⟩ : ∃ w : Int, w = (n (ti l 1 l) * c l * c l + sm l fun i => sm l fun k => tlP n c (tX9 p l Y) p l iv i k) % (p : Int) := ⟨_, rfl⟩
  obtain ⟨b, hb9⟩ : ∃ b : Int, b = (sm l fun i => tlB n c (tX9 p l Y) p l iv i) % (p : Int) := ⟨_, rfl⟩
  obtain ⟨dv, hdv⟩ : ∃ dv : Int, dv = (sm l fun i => tlD n c (tX9 p l Y) l i) % (p : Int) := ⟨_, rfl⟩
  rw [← hw, ← hb9, ← hdv]
  have wb : 0 ≤ w ∧ w < p := by rw [hw]; exact em_bd hp0 _
  have bb : 0 ≤ b ∧ b < p := by rw [hb9]; exact em_bd hp0 _
  have db : 0 ≤ dv ∧ dv < p := by rw [hdv]; exact em_bd hp0 _
  -- what must hold of the last turn
  have must : ∀ i, i < p - 1 → G (Y * (p - 1) + i) = true → (w + b * ((i : Int) + 1) + dv * iv ((i : Int) + 1)) % (p : Int) = 0 := fun i hi hg => by
    have hX : Y * (p - 1) + i < (p - 1) ^ l := by omega
    have tb := tX9_b (p := p) (r := l + 1) (X := Y * (p - 1) + i) h2
    have t0 : tX9 p (l + 1) (Y * (p - 1) + i) 0 = 1 := rfl
    have z := Tn9.w0 hT h2 hiv hb tb t0 (by omega) hdu ((hG _ hX).mp hg)
    have lt := tX9_la (p := p) (k := l) (Y := Y) (i := i) hi h1
    have z2 := tl_cg (n := n) (c := c) (τ := tX9 p l Y) (t := tX9 p (l + 1) (Y * (p - 1) + i)) (p := p) (l := l) (iv := iv) (x := (i : Int) + 1) hiv (by omega) (fun j hj => tX9_ch hi h1 hj) (by rw [lt]; omega)
    have z3 : cgm p (w + b * ((i : Int) + 1) + dv * iv ((i : Int) + 1)) ((n (ti l 1 l) * c l * c l + sm l fun i => sm l fun k => tlP n c (tX9 p l Y) p l iv i k) + (sm l fun i => tlB n c (tX9 p l Y) p l iv i) * ((i : Int) + 1) + (sm l fun i => tlD n c (tX9 p l Y) l i) * iv ((i : Int) + 1)) := by
      rw [hw, hb9, hdv]
      exact ((cgm.em _).add ((cgm.em _).mul (cgm.rf _))).add ((cgm.em _).mul (cgm.rf _))
    have z4 := (z3.tr z2.sy).tr z
    have z5 := (em_iff hp0).mpr z4
    rw [Int.zero_emod] at z5
    exact z5
  obtain ⟨e, k1, k2, k3, k4⟩ := lpE_inv (b := fun q : Int × XS => X10_tryLast_b252 l w b dv q.1 q.2) (k := fun e : XS => some ((Sum.inl (), e) : (Unit ⊕ Nat) × XS)) (s0 := (1, x)) (fun i s => s.1 = (i : Int) + 1 ∧ TS9 x0 G p (l + 1) st (Y * (p - 1) + i) s.2 ∧ (xc x ≤ xc s.2 ∧ xs x ≤ xs s.2) ∧ ∀ j, j < l → s.2.1.1 74 j = x.1.1 74 j) (fun e => TS9 x0 G p (l + 1) st (Y * (p - 1) + (p - 1)) e ∧ (xc x ≤ xc e ∧ xs x ≤ xs e) ∧ ∀ j, j < l → e.1.1 74 j = x.1.1 74 j) (p - 1) (by omega) ⟨rfl, hS, ⟨Nat.le_refl _, Nat.le_refl _⟩, fun _ _ => rfl⟩ (fun i s hi hI => by
    obtain ⟨v, y⟩ := s
    obtain ⟨i1, i2, i3, i4⟩ := hI
    dsimp only at i1 i2 i3 i4 ⊢
    subst i1
    have hCy := hC.ts i2
    obtain ⟨⟨a1, a2, a3, a4, a5, a6, a7⟩, ⟨a8, a9, a10, a11⟩, a12⟩ := hCy
    have hX : Y * (p - 1) + i < (p - 1) ^ l := by omega
    have e59 : y.1.1 59 ((i : Int) + 1).toNat = iv ((i : Int) + 1) := by
      rw [show ((i : Int) + 1).toNat = i + 1 by omega]
      exact a5 (i + 1) (by omega) (by omega)
    have ivb := (hiv ((i : Int) + 1) (by omega) (by omega)).1
    have m1 := mlb9 (u := 30) (v := 30) (show 0 ≤ b ∧ b ≤ 30 by omega) (show 0 ≤ (i : Int) + 1 ∧ (i : Int) + 1 ≤ 30 by omega)
    have m2 := mlb9 (u := 30) (v := 30) (show 0 ≤ dv ∧ dv ≤ 30 by omega) (show 0 ≤ iv ((i : Int) + 1) ∧ iv ((i : Int) + 1) ≤ 30 by omega)
    have er : X3_reduce 58 (w + b * ((i : Int) + 1) + dv * iv ((i : Int) + 1)) y.1 = some ((w + b * ((i : Int) + 1) + dv * iv ((i : Int) + 1)) % (p : Int)) := x3_reduce a4 h2 h31 (by omega) (by omega)
    have eb := em_bd hp0 (w + b * ((i : Int) + 1) + dv * iv ((i : Int) + 1))
    unfold X10_tryLast_b252
    rw [gd_pos a9, a4, gd_pos (by omega), if_neg (by omega), gd_pos a9, gd_pos a9, gd_pos (by omega), e59, b1_pos er, gd_pos (by omega)]
    by_cases cE : (w + b * ((i : Int) + 1) + dv * iv ((i : Int) + 1)) % (p : Int) = 0
    · rw [if_pos cE, gd_pos (by omega), lt_pos, Int.toNat_natCast, lt_pos]
      have tb := tX9_b (p := p) (r := l + 1) (X := Y * (p - 1) + i) h2
      have lt := tX9_la (p := p) (k := l) (Y := Y) (i := i) hi h1
      generalize hd1 : wI y.1 74 l ((i : Int) + 1) = d1
      have o1 : ∀ q, q ≠ 74 → d1.1 q = y.1.1 q := fun q z => by rw [← hd1, wI_ne z]
      have t74 : ∀ k, k < l + 1 → d1.1 74 k = tX9 p (l + 1) (Y * (p - 1) + i) k := fun k hk => by
        rw [← hd1, wI_at, fu_app]
        by_cases ek : k = l
        · rw [if_pos ek, ek, lt]; omega
        · rw [if_neg ek, i4 k (by omega), hτ k (by omega), tX9_ch hi h1 (by omega)]
      obtain ⟨f, g, s, f1, f2, f3⟩ := x10_fill (d := d1) (n := n) (r := l + 1) (p := p) (a1 := 74) (n1 := 5) (iv := iv) (c := c) (t := tX9 p (l + 1) (Y * (p - 1) + i)) (by rw [o1 68 (by decide)]; exact a1) hT (by rw [o1 6 (by decide)]; exact a3) (by rw [o1 58 (by decide)]; exact a4) h2 h31 hiv (by rw [o1 59 (by decide)]; exact a5) (by rw [o1 72 (by decide)]; exact a7) hb t74 tb (by decide) (Nat.le_refl _) (by omega)
      generalize hd2 : wA (wI (wA (wA d1 73 f) 75 g) 68 8 (Pq9 p (l + 1) c (tX9 p (l + 1) (Y * (p - 1) + i)))) 76 s = d2 at f1
      have o2 : ∀ q, q ≠ 68 → q ≠ 73 → q ≠ 74 → q ≠ 75 → q ≠ 76 → d2.1 q = y.1.1 q := fun q z1 z2 z3 z4 z5 => by rw [← hd2, wA_ne z5, wI_ne z1, wA_ne z4, wA_ne z2, o1 q z3]
      have n2 : ∀ j, j ≠ 8 → d2.1 68 j = y.1.1 68 j := fun j z => by rw [← hd2, wA_ne (by decide), wI_at, fu_n z, wA_ne (by decide), wA_ne (by decide), o1 68 (by decide)]
      have q73 : ∀ k, k < l + 1 → d2.1 73 k = tX9 p (l + 1) (Y * (p - 1) + i) k := fun k hk => by rw [← hd2, wA_ne (by decide), wI_ne (by decide), wA_ne (by decide), wA_at]; exact f2 k hk
      have q74 : ∀ k, d2.1 74 k = d1.1 74 k := fun k => by rw [← hd2, wA_ne (by decide), wI_ne (by decide), wA_ne (by decide), wA_ne (by decide)]
      obtain ⟨d3, v3, g1, g2, g3, g4⟩ := x10_all (d := d2) (n := n) (r := l + 1) (p := p) (iv := iv) (du := du) (D := Dq9 p (l + 1) c) (P := Pq9 p (l + 1) c (tX9 p (l + 1) (Y * (p - 1) + i))) (S := sS9 n (l + 1) p iv c (tX9 p (l + 1) (Y * (p - 1) + i))) (t := tX9 p (l + 1) (Y * (p - 1) + i)) hT (by rw [n2 6 (by decide)]; exact a1) (by rw [n2 7 (by decide)]; exact a2) (em_bd hp0 _) (by rw [← hd2, wA_ne (by decide), wI_at, fu_s]) (em_bd hp0 _) (by rw [o2 6 (by decide) (by decide) (by decide) (by decide) (by decide)]; exact a3) (by rw [o2 58 (by decide) (by decide) (by decide) (by decide) (by decide)]; exact a4) h2 h31 hiv (by rw [o2 59 (by decide) (by decide) (by decide) (by decide) (by decide)]; exact a5) (by rw [o2 7 (by decide) (by decide) (by decide) (by decide) (by decide)]; exact a6) (by rw [← hd2, wA_at]; exact f3) (sS9_b hp0) q73 tb
      have f1' : X10_fill 68 74 5 (xD y d1).1 = some ((), d2) := f1
      have g1' : X10_allHold 68 (xD (xD y d1) d2).1 = some (v3, d3) := g1
      have vb := g4.or
      have hSd : TS9 x0 G p (l + 1) st (Y * (p - 1) + i) (xD y d3) := i2.d (d := d3) (by rw [g2, ← hd2]; show d1.2 = _; rw [← hd1]; rfl) (fun q z1 z2 z3 => by rw [g3 q z1 (by omega), o2 q z2 (by omega) (by omega) (by omega) (by omega)]) (fun j z => by rw [g3 68 (by decide) (by omega), n2 j z])
      have r74 : ∀ j, j < l → d3.1 74 j = x.1.1 74 j := fun j hj => by rw [g3 74 (by decide) (by omega), q74 j, ← hd1, wI_at, fu_n (by omega)]; exact i4 j hj
      rw [gd_pos (show xtt (xD y d1) = 5 ∧ xtn (xD y d1) = 58 from ⟨a8, a9⟩), bd_pos f1', lt_pos, gd_pos (show xtt (xD (xD y d1) d2) = 5 ∧ xtn (xD (xD y d1) d2) = 58 from ⟨a8, a9⟩), bd_pos g1', lt_pos, gd_pos (by omega)]
      have ex : xD (xD (xD y d1) d2) d3 = xD y d3 := rfl
      rw [ex]
      by_cases cv : v3 = 0
      · rw [if_pos cv]
        refine ⟨_, rfl, by show (i : Int) + 1 + 1 = ((i + 1 : Nat) : Int) + 1; omega, ?_, i3, r74⟩
        refine hSd.skip (fun hg => ?_)
        have := g4.1 ((hG _ hX).mp hg)
        omega
      · rw [if_neg cv]
        have hg : G (Y * (p - 1) + i) = true := by
          refine (hG _ hX).mpr ?_
          by_cases cc : Tn9 n (l + 1) p iv du c (tX9 p (l + 1) (Y * (p - 1) + i))
          · exact cc
          · exact absurd (g4.2 cc) cv
        obtain ⟨y', u1, u2, u3, u4⟩ := TS9.add (by omega) (by omega) hC hSd hg hst (by omega) (fun k hk => by
          show d3.1 73 k = _
          rw [g3 73 (by decide) (by omega)]; exact q73 k hk)
        rw [xb_ok u1 u3]
        refine ⟨_, rfl, by show (i : Int) + 1 + 1 = ((i + 1 : Nat) : Int) + 1; omega, u2, ⟨?_, ?_⟩, fun j hj => ?_⟩
        · have z : xc (xD y d3) ≤ xc y' := u3.1
          have z' : xc (xD y d3) = xc y := rfl
          show xc x ≤ xc y'
          omega
        · have z : xs (xD y d3) ≤ xs y' := u3.2
          have z' : xs (xD y d3) = xs y := rfl
          show xs x ≤ xs y'
          omega
        · show y'.1.1 74 j = _
          rw [u4 j]; exact r74 j hj
    · rw [if_neg cE]
      exact ⟨_, rfl, by show (i : Int) + 1 + 1 = ((i + 1 : Nat) : Int) + 1; omega, i2.skip (fun hg => cE (must i hi hg)), i3, i4⟩) (fun s hI => by
    obtain ⟨v, y⟩ := s
    obtain ⟨i1, i2, i3, i4⟩ := hI
    dsimp only at i1 i2 i3 i4 ⊢
    subst i1
    obtain ⟨⟨-, -, -, a4, -⟩, ⟨-, a9, -⟩, -⟩ := hC.ts i2
    refine ⟨y, ?_, i2, i3, i4⟩
    unfold X10_tryLast_b252
    rw [gd_pos a9, a4, gd_pos (by omega), if_pos (by omega)])
  rw [k1]
  refine ⟨e, rfl, ?_, k3, k4⟩
  rw [Nat.add_mul, Nat.one_mul]; exact k2
/-- a table of one kind -/
theorem x10_try1 {x0 x : XS} {n c : Nat → Int} {p st : Nat} {iv : Int → Int} {du : Nat → Nat} {G : Nat → Bool} (hT : TG n 1) (hC : TC9 x0 n c 1 p iv du) (hb : Cb p 1 c) (h2 : 2 ≤ p) (h31 : p ≤ 31) (hiv : IvG p iv) (hG : G 0 = true) (hst : st ≤ 108000) (hS : TS9 x0 G p 1 st 0 x) (h74 : x.1.1 74 0 = 1) : ∃ x', X10_tryLast x = some (.inl (), x') ∧ TS9 x0 G p 1 st 1 x' ∧ (xc x ≤ xc x' ∧ xs x ≤ xs x') := by
  have hp0 : 0 < p := by omega
  obtain ⟨⟨a1, a2, a3, a4, a5, a6, a7⟩, ⟨a8, a9, a10, a11⟩, a12⟩ := hC.ts hS
  have tb := tX9_b (p := p) (r := 1) (X := 0) h2
  obtain ⟨f, g, s, f1, f2, f3⟩ := x10_fill (d := x.1) (n := n) (r := 1) (p := p) (a1 := 74) (n1 := 5) (iv := iv) (c := c) (t := tX9 p 1 0) a1 hT a3 a4 h2 h31 hiv a5 a7 hb (fun k hk => by
    have : k = 0 := by omega
    subst this
    rw [h74]; rfl) tb (by decide) (Nat.le_refl _) (by omega)
  generalize hd2 : wA (wI (wA (wA x.1 73 f) 75 g) 68 8 (Pq9 p 1 c (tX9 p 1 0))) 76 s = d2 at f1
  have hSd : TS9 x0 G p 1 st 0 (xD x d2) := hS.d (d := d2) (by rw [← hd2]; rfl) (fun q z1 z2 z3 => by rw [← hd2, wA_ne (by omega), wI_ne z2, wA_ne (by omega), wA_ne (by omega)]) (fun j z => by rw [← hd2, wA_ne (by decide), wI_at, fu_n z, wA_ne (by decide), wA_ne (by decide)])
  obtain ⟨y', u1, u2, u3, u4⟩ := TS9.add (by decide) (by decide) hC hSd hG hst (by decide) (fun k hk => by
    show d2.1 73 k = _
    rw [← hd2, wA_ne (by decide), wI_ne (by decide), wA_ne (by decide), wA_at]; exact f2 k hk)
  refine ⟨y', ?_, u2, u3⟩
  unfold X10_tryLast
  have el : x.1.1 68 6 - 1 = 0 := by rw [a1]; rfl
  rw [lt_pos, el, gd_pos (by decide), if_pos rfl, gd_pos ⟨a8, a9⟩, bd_pos f1, lt_pos, xb_ok u1 u3]

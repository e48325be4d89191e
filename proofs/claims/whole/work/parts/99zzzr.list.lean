/-! ===== list: the class's answer ===== -/
section
variable {lr w lb : Nat}
theorem x2_half {x : XS} {G : Nat → Bool} {base : Nat} (hq : (lr, w) ∈ lw5) (hl : 1 ≤ lb ∧ lb ≤ 5 ∧ (lr = 4 → lb ≤ 2)) (h0 : x.1.1 46 0 = (lr : Int)) (h1 : x.1.1 46 1 = (lb : Int)) (h2 : x.1.1 46 2 = (base : Int)) (hz : base ≤ xzc x) (h64 : 64 ≤ xzc x) (h81 : xzc x ≤ 8192) (hx : xe x = 0) (hk : xok9 x) (hG : ∀ X, X < (lb + 1) ^ gcn lr w → (G X = true ↔ GdN lr w lb X)) (hb : base + cn9 G ((lb + 1) ^ gcn lr w) ≤ 4000) {Y : Type} (K : Unit → XS → Option Y) : ∃ x', (bd (X2_arrange 46 w x.1) fun _ d7 => lt9 (xD x d7) fun x8 => xb x8 (X2_search x8) K (fun _ _ => none)) = K () x' ∧ x'.1.2 = x.1.2 ∧ (∀ q, (q < 46 ∨ 53 < q) → x'.1.1 q = x.1.1 q) ∧ (∀ j, j ≠ 2 → j ≠ 8 → x'.1.1 46 j = x.1.1 46 j) ∧ x'.1.1 46 2 = ((base + cn9 G ((lb + 1) ^ gcn lr w) : Nat) : Int) ∧ base + cn9 G ((lb + 1) ^ gcn lr w) ≤ xzc x' ∧ (∀ q, q < base → x'.1.1 47 q = x.1.1 47 q) ∧ (∀ i, i < cn9 G ((lb + 1) ^ gcn lr w) → x'.1.1 47 (base + i) = (pk9 G ((lb + 1) ^ gcn lr w) i : Nat)) ∧ ZC9 x x' := by
  obtain ⟨fd, g, u, e1, e2, e3, e4⟩ := x2_arr (d := x.1) h0 hq
  obtain ⟨N1, N2, -⟩ := row_n hq hl
  generalize hd7 : lsG (wA x.1 48 fd) (g, u, gcn lr w) = d7 at e1
  have o7 : ∀ c, c ≠ 46 → c ≠ 48 → c ≠ 49 → c ≠ 50 → d7.1 c = x.1.1 c := fun c y1 y2 y3 y4 => by rw [← hd7, lsG_o y1 y3 y4, wA_ne y2]
  have o46 : ∀ j, j ≠ 8 → d7.1 46 j = x.1.1 46 j := fun j y => by rw [← hd7, lsG_46 y, wA_ne (by decide)]
  have a48 : d7.1 48 = fd := by rw [← hd7, lsG_o (by decide) (by decide) (by decide), wA_at]
  have a49 : d7.1 49 = g := by rw [← hd7]; exact lsG_49
  have a50 : d7.1 50 = u := by rw [← hd7]; exact lsG_50
  have a8 : d7.1 46 8 = (gcn lr w : Int) := by rw [← hd7]; exact lsG_8
  have hL : LsA d7 lr w := ⟨by rw [o46 0 (by decide)]; exact h0, fun a ha => by rw [a48]; exact e2 a ha, fun a b c y1 y2 y3 y4 y5 y6 => by rw [a49]; exact e3 a b c y1 y2 y3 y4 y5 y6⟩
  obtain ⟨d8, s1, s2, s3, s4⟩ := x2_sort hq hL a8
  obtain ⟨x0, hx0⟩ : ∃ x0, x0 = xD x (wI d8 51 0 (-1)) := ⟨_, rfl⟩
  have p1 : x0.1 = wI d8 51 0 (-1) := by rw [hx0]; rfl
  have p2 : ∀ c, c ≠ 51 → x0.1.1 c = d8.1 c := fun c z => by rw [p1, wI_ne z]
  have p3 : x0.2 = x.2 := by rw [hx0]; rfl
  have hC : SC9 x0 lr w lb := by
    refine ⟨?_, ?_, ?_, ?_, fun q hq9 => ?_, ?_, ?_, ?_⟩
    · unfold LsA at hL ⊢
      rw [p2 46 (by decide), p2 48 (by decide), p2 49 (by decide), s3 46 (by decide) (by decide), s3 48 (by decide) (by decide), s3 49 (by decide) (by decide)]
      exact hL
    · unfold EqT at s4 ⊢
      rw [p2 52 (by decide), p2 53 (by decide)]
      exact s4
    · rw [p2 46 (by decide), s3 46 (by decide) (by decide)]; exact a8
    · rw [p2 46 (by decide), s3 46 (by decide) (by decide), o46 1 (by decide)]; exact h1
    · rw [p2 50 (by decide), s3 50 (by decide) (by decide), a50]; exact e4 q hq9
    · unfold xe; rw [p3]; exact hx
    · unfold xok9 xrt xrb xtt xtn; rw [p3]; exact hk
    · unfold xzc; rw [p3]; exact h64
  have zc0 : xzc x0 = xzc x := by unfold xzc; rw [p3]
  obtain ⟨x', k1, k2⟩ := x2_srch (x0 := x0) (G := G) (base := base) hq hl.2.1 hC N1 N2 hG hb (by rw [p2 46 (by decide), s3 46 (by decide) (by decide), o46 2 (by decide)]; exact h2) (by rw [zc0]; exact hz) (by rw [zc0]; exact h81) (by rw [p1, wI_at, fu_s])
  have eS : X2_search (xD x d7) = some (.inl (), x') := by
    unfold X2_search
    have s1' : X2_sortEquations 46 (xD x d7).1 = some ((), d8) := s1
    rw [bd_pos s1', lt_pos, gd_pos (by decide), lt_pos, lt_pos]
    have : xD (xD (xD x d7) d8) (wI (xD (xD x d7) d8).1 51 (Int.toNat 0) (-1)) = x0 := by rw [hx0]; rfl
    rw [this]
    exact k1
  obtain ⟨b1', b2', b3', ⟨b4', b4''⟩, b5', b6', b7'⟩ := k2
  have bz : ZC9 x x0 := by rw [hx0]; exact ZC9.rf h81 _
  have zz := bz.tr b7'
  have all : ∀ q, (q < 46 ∨ 53 < q) → x'.1.1 q = x.1.1 q := fun q hq9 => by
    rw [b2' q (by omega) (by omega) (by omega), p2 q (by omega), s3 q (by omega) (by omega), o7 q (by omega) (by omega) (by omega) (by omega)]
  refine ⟨x', ?_, ?_, all, fun j z1 z2 => ?_, b4', b4'', fun q hq9 => ?_, fun i hi => ?_, zz⟩
  · rw [bd_pos e1, lt_pos, xb_ok eS ?_]
    have : xc (xD x d7) = xc x ∧ xs (xD x d7) = xs x := ⟨rfl, rfl⟩
    rw [this.1, this.2]
    exact zz.2.2.2.2.1
  · rw [b1', p1]
    show d8.2 = _
    rw [s2, ← hd7]; rfl
  · rw [b3' j z1, p2 46 (by decide), s3 46 (by decide) (by decide), o46 j z2]
  · rw [b5' q hq9, p2 47 (by decide), s3 47 (by decide) (by decide), o7 47 (by decide) (by decide) (by decide) (by decide)]
  · have k := pk9_ok (P := G) hi
    have := b6' _ k.1 k.2.1
    rw [k.2.2] at this
    exact this
end
def LX9 (x x' : XS) (lr lb a0 a1 : Nat) (C0 C1 : Nat → Nat) : Prop := x'.1.2 = x.1.2 ∧ (∀ q, (q < 46 ∨ 53 < q) → x'.1.1 q = x.1.1 q) ∧ (x'.1.1 46 0 = (lr : Int) ∧ x'.1.1 46 1 = (lb : Int) ∧ x'.1.1 46 2 = ((a0 + a1 : Nat) : Int) ∧ x'.1.1 46 3 = (a0 : Int)) ∧ a0 + a1 ≤ xzc x' ∧ (∀ i, i < a0 → x'.1.1 47 i = (C0 i : Nat)) ∧ (∀ i, i < a1 → x'.1.1 47 (a0 + i) = (C1 i : Nat)) ∧ ZC9 x x'
theorem x2_find {x : XS} {lr lb : Nat} {G0 G1 : Nat → Bool} (h2 : 2 ≤ lr) (h4 : lr ≤ 4) (hl : 1 ≤ lb ∧ lb ≤ 5 ∧ (lr = 4 → lb ≤ 2)) (hG0 : ∀ X, X < (lb + 1) ^ gcn lr 0 → (G0 X = true ↔ GdN lr 0 lb X)) (hG1 : lr ≠ 2 → ∀ X, X < (lb + 1) ^ gcn lr 1 → (G1 X = true ↔ GdN lr 1 lb X)) {a1 : Nat} (ha : a1 = if lr = 2 then 0 else cn9 G1 ((lb + 1) ^ gcn lr 1)) (h4000 : cn9 G0 ((lb + 1) ^ gcn lr 0) + a1 ≤ 4000) (h64 : 64 ≤ xzc x) (h81 : xzc x ≤ 8192) (hx : xe x = 0) (hk : xok9 x) : ∃ x', X2_find lr lb x = some (.inl (), x') ∧ LX9 x x' lr lb (cn9 G0 ((lb + 1) ^ gcn lr 0)) a1 (pk9 G0 ((lb + 1) ^ gcn lr 0)) (pk9 G1 ((lb + 1) ^ gcn lr 1)) := by
  have q0 : (lr, 0) ∈ lw5 := lw5_of h2 h4 (by decide) (fun _ => rfl)
  obtain ⟨y, hy⟩ : ∃ y, y = xD x (wI (wI (wI x.1 46 0 (lr : Int)) 46 1 (lb : Int)) 46 2 0) := ⟨_, rfl⟩
  have y1 : y.1 = wI (wI (wI x.1 46 0 (lr : Int)) 46 1 (lb : Int)) 46 2 0 := by rw [hy]; rfl
  have y2 : y.2 = x.2 := by rw [hy]; rfl
  have yo : ∀ c, c ≠ 46 → y.1.1 c = x.1.1 c := fun c z => by rw [y1, wI_ne z, wI_ne z, wI_ne z]
  have y46 : y.1.1 46 0 = (lr : Int) ∧ y.1.1 46 1 = (lb : Int) ∧ y.1.1 46 2 = ((0 : Nat) : Int) := by
    refine ⟨?_, ?_, ?_⟩
    · rw [y1, wI_at, fu_n (by decide), wI_at, fu_n (by decide), wI_at, fu_s]
    · rw [y1, wI_at, fu_n (by decide), wI_at, fu_s]
    · rw [y1, wI_at, fu_s]; rfl
  have yzc : xzc y = xzc x := by unfold xzc; rw [y2]
  have bz : ZC9 x y := by rw [hy]; exact ZC9.rf h81 _
  obtain ⟨K, hK⟩ : ∃ K : Unit → XS → Option ((Unit ⊕ Nat) × XS), K = fun _ x9 =>
    lt9 (wI x9.1 46 3 (x9.1.1 46 2)) fun d10 =>
    lt9 (xD x9 d10) fun x11 =>
    gd (inR (x11.1.1 46 0) ∧ inR 2) <|
    if (x11.1.1 46 0) ≤ 2 then (some ((.inl (), x11))) else
    bd (X2_arrange 46 1 x11.1) fun _ d12 =>
    lt9 (xD x11 d12) fun x13 =>
    xb x13 (X2_search x13) (fun _ x14 =>
    some ((.inl (), x14))) (fun _ _ => none) := ⟨_, rfl⟩
  obtain ⟨z, e1, b1', b2', b3', b4', b5', b6', b7', b8'⟩ := x2_half (x := y) (G := G0) (base := 0) q0 hl y46.1 y46.2.1 y46.2.2 (Nat.zero_le _) (by rw [yzc]; exact h64) (by rw [yzc]; exact h81) (by unfold xe; rw [y2]; exact hx) (by unfold xok9 xrt xrb xtt xtn; rw [y2]; exact hk) hG0 (by omega) K
  rw [Nat.zero_add] at b4' b5'
  have head : X2_find lr lb x = K () z := by
    rw [← e1]
    unfold X2_find
    rw [lt_pos, lt_pos, lt_pos, lt_pos, lt_pos, lt_pos, hK]
    have : xD (xD (xD x (wI x.1 46 0 (lr : Int))) (wI (xD x (wI x.1 46 0 (lr : Int))).1 46 1 (lb : Int))) (wI (xD (xD x (wI x.1 46 0 (lr : Int))) (wI (xD x (wI x.1 46 0 (lr : Int))).1 46 1 (lb : Int))).1 46 2 0) = y := by rw [hy]; rfl
    rw [this]
    rfl
  have b7'' : ∀ i, i < cn9 G0 ((lb + 1) ^ gcn lr 0) → z.1.1 47 i = (pk9 G0 ((lb + 1) ^ gcn lr 0) i : Nat) := fun i hi => by
    have := b7' i hi
    rw [Nat.zero_add] at this
    exact this
  obtain ⟨u, hu⟩ : ∃ u, u = xD z (wI z.1 46 3 (z.1.1 46 2)) := ⟨_, rfl⟩
  have u1 : u.1 = wI z.1 46 3 (z.1.1 46 2) := by rw [hu]; rfl
  have u2 : u.2 = z.2 := by rw [hu]; rfl
  have uo : ∀ c, c ≠ 46 → u.1.1 c = z.1.1 c := fun c y => by rw [u1, wI_ne y]
  have un : ∀ j, j ≠ 3 → u.1.1 46 j = z.1.1 46 j := fun j y => by rw [u1, wI_at, fu_n y]
  have u3 : u.1.1 46 3 = ((cn9 G0 ((lb + 1) ^ gcn lr 0) : Nat) : Int) := by rw [u1, wI_at, fu_s]; exact b4'
  have u46 : u.1.1 46 0 = (lr : Int) ∧ u.1.1 46 1 = (lb : Int) ∧ u.1.1 46 2 = ((cn9 G0 ((lb + 1) ^ gcn lr 0) : Nat) : Int) := ⟨by rw [un 0 (by decide), b3' 0 (by decide) (by decide)]; exact y46.1, by rw [un 1 (by decide), b3' 1 (by decide) (by decide)]; exact y46.2.1, by rw [un 2 (by decide)]; exact b4'⟩
  have zu : ZC9 z u := by rw [hu]; exact ZC9.rf b8'.2.1.2 _
  have xu : ZC9 x u := (bz.tr b8').tr zu
  have uzc : xzc u = xzc z := by unfold xzc; rw [u2]
  have us : u.1.2 = x.1.2 := by
    rw [u1]
    show z.1.2 = _
    rw [b1', y1]; rfl
  have uall : ∀ q, (q < 46 ∨ 53 < q) → u.1.1 q = x.1.1 q := fun q hq9 => by
    rw [uo q (by omega), b2' q hq9, yo q (by omega)]
  rw [head, hK]
  dsimp only
  rw [lt_pos, lt_pos, ← hu, u46.1, gd_pos (by omega)]
  by_cases c2 : lr = 2
  · rw [if_pos c2] at ha
    subst ha
    rw [if_pos (by omega)]
    exact ⟨u, rfl, us, uall, ⟨u46.1, u46.2.1, u46.2.2, u3⟩, by rw [uzc]; exact b5', fun i hi => by rw [uo 47 (by decide)]; exact b7'' i hi, fun i hi => absurd hi (Nat.not_lt_zero _), xu⟩
  · rw [if_neg c2] at ha
    subst ha
    have q1 : (lr, 1) ∈ lw5 := lw5_of h2 h4 (by decide) (fun z => absurd z c2)
    rw [if_neg (by omega)]
    have x64 := xu.2.1.1
    obtain ⟨v, f1, c1', c2', c3', c4', c5', c6', c7', c8'⟩ := x2_half (x := u) (G := G1) (base := cn9 G0 ((lb + 1) ^ gcn lr 0)) q1 hl u46.1 u46.2.1 u46.2.2 (by rw [uzc]; exact b5') (by omega) xu.2.1.2 (by rw [xu.2.2.1]; exact hx) (xu.ok hk) (hG1 c2) h4000 (fun _ x14 => some ((Sum.inl () : Unit ⊕ Nat), x14))
    have f1' : (bd (X2_arrange 46 1 u.1) fun _ d12 => lt9 (xD u d12) fun x13 => xb x13 (X2_search x13) (fun _ x14 => some ((Sum.inl () : Unit ⊕ Nat), x14)) (fun _ _ => none)) = some (.inl (), v) := f1
    rw [f1']
    refine ⟨v, rfl, c1'.trans us, fun q hq9 => (c2' q hq9).trans (uall q hq9), ⟨?_, ?_, c4', ?_⟩, c5', fun i hi => ?_, c7', xu.tr c8'⟩
    · rw [c3' 0 (by decide) (by decide)]; exact u46.1
    · rw [c3' 1 (by decide) (by decide)]; exact u46.2.1
    · rw [c3' 3 (by decide) (by decide)]; exact u3
    · rw [c6' i hi, uo 47 (by decide)]; exact b7'' i hi

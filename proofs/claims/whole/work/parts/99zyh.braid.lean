/-! ===== braids: the reference's relation ===== -/
def Zx9 (x x' : XS) (u v : Nat) : Prop := (xzc x' = xzc x ∧ xzf x' = xzf x ∧ xe x' = 0 ∧ xok9 x') ∧ (xc x ≤ xc x' ∧ xc x' ≤ xc x + u) ∧ (xs x ≤ xs x' ∧ xs x' ≤ xs x + v)
theorem Zx9.rf {x : XS} (h1 : xe x = 0) (h2 : xok9 x) (d : DA) : Zx9 x (xD x d) 0 0 := ⟨⟨rfl, rfl, h1, h2⟩, ⟨Nat.le_refl _, Nat.le_refl _⟩, Nat.le_refl _, Nat.le_refl _⟩
theorem Zx9.tr {x y z : XS} {u v u' v' : Nat} (h1 : Zx9 x y u v) (h2 : Zx9 y z u' v') : Zx9 x z (u + u') (v + v') := by
  obtain ⟨⟨a1, a2, a3, a4⟩, ⟨a5, a6⟩, a7, a8⟩ := h1
  obtain ⟨⟨b1, b2, b3, b4⟩, ⟨b5, b6⟩, b7, b8⟩ := h2
  exact ⟨⟨b1.trans a1, b2.trans a2, b3, b4⟩, ⟨by omega, by omega⟩, by omega, by omega⟩
theorem Zx9.up {x y : XS} {u v u' v' : Nat} (h : Zx9 x y u v) (h1 : u ≤ u') (h2 : v ≤ v') : Zx9 x y u' v' := by
  obtain ⟨a, ⟨a5, a6⟩, a7, a8⟩ := h
  exact ⟨a, ⟨a5, by omega⟩, a7, by omega⟩
section
variable {n f F s R : Nat → Int} {r p a c : Nat} {iv : Int → Int} {w : Nat → Int} {L : Nat}
theorem x12_rl {x : XS} (h : BR9 x.1 n f F s R r p iv a w L) (hc : c < r) (hO : bOk n F R r p iv a c) (hx : xe x = 0) (hk : xok9 x) : ∃ v x', X12_isRelated a c x = some (.inl v, x') ∧ FrM x.1 x'.1 ∧ Zx9 x x' 1 25 ∧ Wb (rl9 n F R r p iv a c) v 1 := by
  have hD := h.2.2.2.2.2.2.2
  have h3 := hD.2.1
  have hp := hD.2.2.1.1
  have h31 := hD.2.2.1.2
  have hp0 : 0 < p := by omega
  have hm := bm9_le (n := n) (r := r) (a := a) (c := c)
  have bA := b1m_b hD hO
  have bB := b2m_b (c := c) hD
  obtain ⟨v, d1, t1, t2, t3⟩ := x12_tl h hc
  rcases t3 with ⟨rfl, -, t3⟩ | ⟨-, t3⟩
  · -- 1 2 1
    have s1 : sqL n F R r p iv a c 1 = b1m n R r a c := if_pos rfl
    have s2 : sqL n F R r p iv a c 2 = b2m n F R r p iv a c := by unfold sqL; rw [if_neg (by decide), if_pos rfl]
    obtain ⟨g1, u1, u2⟩ := x12_bb (d := d1) (m := bm9 n r a c) (by omega)
    have fr1 := t2.a (c := 151) (f := g1) (by omega)
    have ml1 : ML9 (wA d1 151 g1) n F R r p iv a c := t3.fr (fun q z => by rw [wA_ne (by omega)])
    obtain ⟨d2, q1, q2, q3, q4⟩ := x12_bo (h.fr fr1) hc hO ml1 (l := 1) (Or.inl rfl) (A := id9) (by rw [wA_at]; exact u2) (id9_b hp)
    have fr2 := fr1.tr q2
    have ml2 := ml1.fr (fun q z => q3 q (by omega) (by omega) (by omega) (by omega))
    obtain ⟨d3, q5, q6, q7, q8⟩ := x12_bo (h.fr fr2) hc hO ml2 (l := 2) (Or.inr (Or.inl rfl)) q4 (mm9_b hp0)
    have fr3 := fr2.tr q6
    have ml3 := ml2.fr (fun q z => q7 q (by omega) (by omega) (by omega) (by omega))
    obtain ⟨d4, q9, q10, q11, q12⟩ := x12_bo (h.fr fr3) hc hO ml3 (l := 1) (Or.inl rfl) q8 (mm9_b hp0)
    have fr4 := fr3.tr q10
    have ml4 := ml3.fr (fun q z => q11 q (by omega) (by omega) (by omega) (by omega))
    -- kept
    obtain ⟨x12, hx12⟩ : ∃ x12, x12 = xN (xD x d4) := ⟨_, rfl⟩
    have n1 : ∀ q, q ≠ 162 → x12.1.1 q = d4.1 q := fun q z => by rw [hx12]; exact fu_n z
    have n2 : x12.1.2 = d4.2 := by rw [hx12]; rfl
    have e13 : lpE (fun q => X12_isRelated_b34 q.1 q.2) (0, x12) (fun e => X12_isRelated_j58 e) = X12_isRelated_j58 (xD x12 (wA x12.1 162 (pre (x12.1.1 162) (x12.1.1 151) 25))) := by
      refine lpE_for (fun i => ((i : Int), xD x12 (wA x12.1 162 (pre (x12.1.1 162) (x12.1.1 151) i)))) 25 _ ?_ (by omega) (fun i hi => ?_) ?_
      · show _ = (((0 : Nat) : Int), xD x12 (wA x12.1 162 (pre (x12.1.1 162) (x12.1.1 151) 0)))
        rw [pre_0, wA_same]; rfl
      · show X12_isRelated_b34 (i : Int) (xD x12 (wA x12.1 162 (pre (x12.1.1 162) (x12.1.1 151) i))) = _
        have xe1 : xe (xD x12 (wA x12.1 162 (pre (x12.1.1 162) (x12.1.1 151) i))) = 1 := by rw [hx12]; rfl
        have e151 : (xD x12 (wA x12.1 162 (pre (x12.1.1 162) (x12.1.1 151) i))).1.1 151 i = x12.1.1 151 i := by
          show (wA x12.1 162 _).1 151 i = _
          rw [wA_ne (by decide)]
        unfold X12_isRelated_b34
        rw [gd_pos (by omega), if_neg (by omega), gd_pos (by omega), gd_pos xe1, gd_pos (by omega), Int.toNat_natCast, e151, lt_pos, lt_pos]
        have : wI (xD x12 (wA x12.1 162 (pre (x12.1.1 162) (x12.1.1 151) i))).1 162 i (x12.1.1 151 i) = wA x12.1 162 (pre (x12.1.1 162) (x12.1.1 151) (i + 1)) := by
          show wI (wA x12.1 162 _) 162 i _ = _
          rw [wA_wI, pre_s]
        rw [this]
        rfl
      · show X12_isRelated_b34 ((25 : Nat) : Int) _ = _
        unfold X12_isRelated_b34
        rw [gd_pos (by omega), if_pos (by omega)]
    generalize hd5 : wA x12.1 162 (pre (x12.1.1 162) (x12.1.1 151) 25) = d5 at e13
    have o5 : ∀ q, q ≠ 162 → d5.1 q = d4.1 q := fun q z => by rw [← hd5, wA_ne z, n1 q z]
    have e162 : Ms (bm9 n r a c) (d5.1 162) (mm9 p (bm9 n r a c) (mm9 p (bm9 n r a c) (mm9 p (bm9 n r a c) id9 (sqL n F R r p iv a c 1)) (sqL n F R r p iv a c 2)) (sqL n F R r p iv a c 1)) := by
      rw [← hd5, wA_at]
      refine Ms.cp ?_ (by omega)
      rw [n1 151 (by decide)]
      exact q12
    have fr5 : FrM x.1 d5 := ⟨by rw [← hd5]; show x12.1.2 = _; rw [n2]; exact fr4.1, fun q z1 z2 z3 => by rw [o5 q z3]; exact fr4.2.1 q z1 z2 z3, fun j z => by rw [o5 113 (by decide)]; exact fr4.2.2 j z⟩
    have ml5 : ML9 d5 n F R r p iv a c := ml4.fr (fun q z => o5 q (by omega))
    -- 2 1 2
    obtain ⟨g6, u6, u7⟩ := x12_bb (d := d5) (m := bm9 n r a c) (by omega)
    have fr6 := fr5.a (c := 151) (f := g6) (by omega)
    have ml6 : ML9 (wA d5 151 g6) n F R r p iv a c := ml5.fr (fun q z => by rw [wA_ne (by omega)])
    obtain ⟨d7, p1, p2, p3, p4⟩ := x12_bo (h.fr fr6) hc hO ml6 (l := 2) (Or.inr (Or.inl rfl)) (A := id9) (by rw [wA_at]; exact u7) (id9_b hp)
    have fr7 := fr6.tr p2
    have ml7 := ml6.fr (fun q z => p3 q (by omega) (by omega) (by omega) (by omega))
    obtain ⟨d8, p5, p6, p7, p8⟩ := x12_bo (h.fr fr7) hc hO ml7 (l := 1) (Or.inl rfl) p4 (mm9_b hp0)
    have fr8 := fr7.tr p6
    have ml8 := ml7.fr (fun q z => p7 q (by omega) (by omega) (by omega) (by omega))
    obtain ⟨d9, p9, p10, p11, p12⟩ := x12_bo (h.fr fr8) hc hO ml8 (l := 2) (Or.inr (Or.inl rfl)) p8 (mm9_b hp0)
    have fr9 := fr8.tr p10
    have ml9 := ml8.fr (fun q z => p11 q (by omega) (by omega) (by omega) (by omega))
    have o9 : ∀ q, q ≠ 138 → q ≠ 139 → q ≠ 144 → q ≠ 151 → d9.1 q = d5.1 q := fun q z1 z2 z3 z4 => by rw [p11 q z1 z2 z3 z4, p7 q z1 z2 z3 z4, p3 q z1 z2 z3 z4, wA_ne z4]
    rw [s1, s2] at e162 p12
    have k1 : ∀ i j, i < bm9 n r a c → j < bm9 n r a c → d9.1 162 (5 * i + j) = mm9 p (bm9 n r a c) (mm9 p (bm9 n r a c) (b1m n R r a c) (b2m n F R r p iv a c)) (b1m n R r a c) i j := fun i j hi hj => by
      rw [o9 162 (by decide) (by decide) (by decide) (by decide), e162 i j hi hj]
      exact mm_cong (fun k hk => mm_cong (fun l hl => mm_id hp0 bA hi hl) (fun l hl => rfl)) (fun k hk => rfl)
    have k2 : ∀ i j, i < bm9 n r a c → j < bm9 n r a c → d9.1 151 (5 * i + j) = mm9 p (bm9 n r a c) (b2m n F R r p iv a c) (mm9 p (bm9 n r a c) (b1m n R r a c) (b2m n F R r p iv a c)) i j := fun i j hi hj => by
      rw [p12 i j hi hj, ← mm_as hi hj]
      exact mm_cong (fun k hk => mm_cong (fun l hl => mm_id hp0 bB hi hl) (fun l hl => rfl)) (fun k hk => rfl)
    unfold rl9
    have m74 : d9.1 113 74 = (bm9 n r a c : Int) := ml9.1
    generalize bm9 n r a c = m at *
    generalize b1m n R r a c = A at *
    generalize b2m n F R r p iv a c = B at *
    obtain ⟨x22, hx22⟩ : ∃ x22, x22 = xD x12 d9 := ⟨_, rfl⟩
    have y1 : x22.1 = d9 := by rw [hx22]; rfl
    have ye : xe x22 = 1 := by rw [hx22, hx12]; rfl
    have e80 : lpR (fun q => X12_isRelated_b80 q x22) 0 (fun e => some ((.inl 1, xO x22))) (fun r => some r) = (s29 ((.inl (0 : Int), xO x22) : (Int ⊕ Nat) × XS) m (fun i j => mm9 p m (mm9 p m A B) A i j = mm9 p m B (mm9 p m A B) i j)).elim (some ((.inl (1 : Int), xO x22) : (Int ⊕ Nat) × XS)) some := by
      unfold s29
      refine lpR_cnt m _ (by omega) (fun i hi => ?_) ?_
      · unfold X12_isRelated_b80
        rw [y1, m74, gd_pos (by omega), if_neg (by omega)]
        refine (lpR_cnt m (fun j => if mm9 p m (mm9 p m A B) A i j = mm9 p m B (mm9 p m A B) i j then none else some ((.inl (0 : Int), xO x22) : (Int ⊕ Nat) × XS)) (by omega) (fun j hj => ?_) ?_).trans ?_
        · unfold X12_isRelated_b92
          have ei : ((5 * (i : Int)) + (j : Int)).toNat = 5 * i + j := by omega
          have c1 := mm9_b (r := m) (A := mm9 p m A B) (B := A) hp0 i j hi hj
          have c2 := mm9_b (r := m) (A := B) (B := mm9 p m A B) hp0 i j hi hj
          rw [y1, m74, gd_pos (by omega), if_neg (by omega), gd_pos ye, gd_pos (by omega), gd_pos (by omega), ei, k1 i j hi hj, k2 i j hi hj, gd_pos (by omega)]
          by_cases ce : mm9 p m (mm9 p m A B) A i j = mm9 p m B (mm9 p m A B) i j
          · rw [if_pos ce, if_pos ce]; rfl
          · rw [if_neg ce, if_neg ce]; rfl
        · unfold X12_isRelated_b92
          rw [y1, m74, gd_pos (by omega), if_pos (by omega)]
        · cases fs9 m (fun j => if mm9 p m (mm9 p m A B) A i j = mm9 p m B (mm9 p m A B) i j then none else some ((.inl (0 : Int), xO x22) : (Int ⊕ Nat) × XS)) <;> rfl
      · unfold X12_isRelated_b80
        rw [y1, m74, gd_pos (by omega), if_pos (by omega)]
    have all : X12_isRelated a c x = (s29 ((.inl (0 : Int), xO x22) : (Int ⊕ Nat) × XS) m (fun i j => mm9 p m (mm9 p m A B) A i j = mm9 p m B (mm9 p m A B) i j)).elim (some ((.inl (1 : Int), xO x22) : (Int ⊕ Nat) × XS)) some := by
      rw [← e80]
      unfold X12_isRelated
      have u1' : X12_beginBraid 113 (xD x d1).1 = some ((), wA d1 151 g1) := u1
      have q1' : X12_braidOn 113 1 (xD (xD x d1) (wA d1 151 g1)).1 = some ((), d2) := q1
      have q5' : X12_braidOn 113 2 (xD (xD (xD x d1) (wA d1 151 g1)) d2).1 = some ((), d3) := q5
      have q9' : X12_braidOn 113 1 (xD (xD (xD (xD x d1) (wA d1 151 g1)) d2) d3).1 = some ((), d4) := q9
      rw [bd_pos t1, lt_pos, bd_pos u1', lt_pos, bd_pos q1', lt_pos, bd_pos q5', lt_pos, bd_pos q9', lt_pos]
      rw [gd_pos (show xe (xD (xD (xD (xD (xD x d1) (wA d1 151 g1)) d2) d3) d4) = 0 ∧ xok9 (xD (xD (xD (xD (xD x d1) (wA d1 151 g1)) d2) d3) d4) from ⟨hx, hk⟩), lt_pos]
      have ex : xN (xD (xD (xD (xD (xD x d1) (wA d1 151 g1)) d2) d3) d4) = x12 := by rw [hx12]; rfl
      rw [ex, e13]
      unfold X12_isRelated_j58
      have u6' : X12_beginBraid 113 (xD x12 d5).1 = some ((), wA d5 151 g6) := u6
      have p1' : X12_braidOn 113 2 (xD (xD x12 d5) (wA d5 151 g6)).1 = some ((), d7) := p1
      have p5' : X12_braidOn 113 1 (xD (xD (xD x12 d5) (wA d5 151 g6)) d7).1 = some ((), d8) := p5
      have p9' : X12_braidOn 113 2 (xD (xD (xD (xD x12 d5) (wA d5 151 g6)) d7) d8).1 = some ((), d9) := p9
      rw [bd_pos u6', lt_pos, bd_pos p1', lt_pos, bd_pos p5', lt_pos, bd_pos p9', lt_pos]
      rw [hx22]
      rfl
    have fz : FrM x.1 (xO x22).1 := by
      show FrM x.1 x22.1
      rw [y1]; exact fr9
    have zz : Zx9 x (xO x22) 1 25 := by
      rw [hx22, hx12]
      exact ⟨⟨rfl, rfl, rfl, hk⟩, ⟨Nat.le_succ _, Nat.le_refl _⟩, Nat.le_add_right _ _, Nat.le_refl _⟩
    rcases s29_c (x := ((.inl (0 : Int), xO x22) : (Int ⊕ Nat) × XS)) (r := m) (G := fun i j => mm9 p m (mm9 p m A B) A i j = mm9 p m B (mm9 p m A B) i j) with ⟨z1, z2⟩ | ⟨z1, z2⟩
    · rw [z1] at all
      exact ⟨1, _, all, fz, zz, fun _ => rfl, fun y => absurd z2 y⟩
    · rw [z1] at all
      exact ⟨0, _, all, fz, zz, fun y => absurd y z2, fun _ => rfl⟩
  · exact absurd hO t3
end

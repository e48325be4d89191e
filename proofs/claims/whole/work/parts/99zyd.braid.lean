/-! ===== braids: the class runs words ===== -/
section
variable {n F R : Nat → Int} {r p a c : Nat} {iv : Int → Int} {w : Nat → Int} {L : Nat}
/-- the class's squares of letters -/
def BS9 (d : DA) (n F R : Nat → Int) (r p : Nat) (iv : Int → Int) (a c : Nat) : Prop := Ms (bm9 n r a c) (d.1 107) (b1m n R r a c) ∧ Ms (bm9 n r a c) (d.1 108) (b2m n F R r p iv a c) ∧ Ms (bm9 n r a c) (d.1 109) (b1b n R r iv a c) ∧ Ms (bm9 n r a c) (d.1 110) (b2b n F R r p iv a c)
theorem BS9.fr {d0 d : DA} {lo : Nat} (h : BS9 d0 n F R r p iv a c) (hF : FrB lo d0 d) (hl : 111 ≤ lo) : BS9 d n F R r p iv a c := by
  unfold BS9 at h ⊢
  rw [hF.2 107 (by decide) (by omega), hF.2 108 (by decide) (by omega), hF.2 109 (by decide) (by omega), hF.2 110 (by decide) (by omega)]
  exact h
theorem x0_sq {d : DA} {l : Int} (hl : Lt9 l) (hS : BS9 d n F R r p iv a c) : ∃ q, X0_squareOf 101 l d = some q ∧ (q = 101 + 6 ∨ q = 101 + 7 ∨ q = 101 + 8 ∨ q = 101 + 9) ∧ Ms (bm9 n r a c) (d.1 q) (sqL n F R r p iv a c l) := by
  obtain ⟨s1, s2, s3, s4⟩ := hS
  unfold X0_squareOf sqL
  rcases hl with rfl | rfl | rfl | rfl
  · rw [gd_pos (by decide), if_pos rfl, if_pos rfl]
    exact ⟨_, rfl, Or.inl rfl, s1⟩
  · rw [gd_pos (by decide), if_neg (by decide), gd_pos (by decide), if_pos rfl, if_neg (by decide), if_pos rfl]
    exact ⟨_, rfl, Or.inr (Or.inl rfl), s2⟩
  · rw [gd_pos (by decide), if_neg (by decide), gd_pos (by decide), if_neg (by decide), gd_pos (by decide), if_pos rfl, if_neg (by decide), if_neg (by decide), if_pos rfl]
    exact ⟨_, rfl, Or.inr (Or.inr (Or.inl rfl)), s3⟩
  · rw [gd_pos (by decide), if_neg (by decide), gd_pos (by decide), if_neg (by decide), gd_pos (by decide), if_neg (by decide), if_neg (by decide), if_neg (by decide), if_neg (by decide)]
    exact ⟨_, rfl, Or.inr (Or.inr (Or.inr rfl)), s4⟩
theorem x0_tr {d : DA} (h : BD9 n F R r p iv a) (hO : bOk n F R r p iv a c) (hX : BX9 d n F R r p iv w L) (hP : BP9 d n r a c) (hS : BS9 d n F R r p iv a c) : ∃ d', X0_traceOf 101 2 58 d = some (trc9 n F R r p iv a w L c, d') ∧ FrB 111 d d' := by
  have hm := bm9_le (n := n) (r := r) (a := a) (c := c)
  have hp := h.2.2.1.1
  have h31 := h.2.2.1.2
  have h3 := h.2.1
  have hp0 : 0 < p := by omega
  have hb := sqL_b h hO
  have y1 := hP.1
  obtain ⟨u, u1, u2⟩ := x3_unit (D := d) (c0 := 101 + 10) (n0 := 25) (n := bm9 n r a c) (f := d.1 (101 + 10)) (by omega) (by decide) (by decide)
  rw [wA_same] at u1
  obtain ⟨d1, hd1⟩ : ∃ d1, d1 = wA d (101 + 10) u := ⟨_, rfl⟩
  rw [← hd1] at u1
  have I0 : FrB 111 d d1 ∧ Ms (bm9 n r a c) (d1.1 111) (wrd9 p (bm9 n r a c) (sqL n F R r p iv a c) w 0) := ⟨by rw [hd1]; exact (FrB.rf 111 d).a (by omega), by rw [hd1]; rw [show (wA d (101 + 10) u).1 111 = u from wA_at]; exact u2⟩
  obtain ⟨d2, l1, l2, l3⟩ := lev9i (b := fun q => X0_traceOf_b13 101 2 58 q.1 q.2) (P := fun k e => FrB 111 d e ∧ Ms (bm9 n r a c) (e.1 111) (wrd9 p (bm9 n r a c) (sqL n F R r p iv a c) w k)) (r := L) (by have := hX.2.2.2.2.2.2.2.2; omega) (fun k e hk hI => by
    have hXe := hX.fr hI.1 (by decide)
    have hSe := hS.fr hI.1 (by decide)
    have hPe := hP.fr hI.1 (by decide)
    obtain ⟨q, q1, q2, q3⟩ := x0_sq (hXe.2.2.2.2.2.2.1 k hk).2 hSe
    have q4 : q ≠ 112 := by omega
    obtain ⟨g, k1, k2⟩ := x3_mul (d := e) (a1 := 101 + 10) (n1 := 25) (a2 := q) (n2 := 25) (a4 := 101 + 11) (n4 := 25) (r := bm9 n r a c) (p := p) (by omega) (by decide) (by decide) (by decide) hI.2 q3 (wrd9_b hp _) (hb _) hXe.2.2.2.2.1 hp h31 (by decide) q4 (by decide)
    refine ⟨wA (wA e 112 g) 111 (pre ((wA e 112 g).1 111) ((wA e 112 g).1 112) 25), ?_, (hI.1.a (by omega)).a (by omega), ?_⟩
    · show X0_traceOf_b13 101 2 58 (k : Int) e = _
      unfold X0_traceOf_b13
      have eL : e.1 2 4 = L := hXe.2.2.2.2.2.2.2.1
      have hL := hXe.2.2.2.2.2.2.2.2
      have ew : e.1 (2 + 2) k = w k := (hXe.2.2.2.2.2.2.1 k hk).1
      have em : e.1 101 2 = (bm9 n r a c : Int) := hPe.1
      rw [eL, gd_pos (by omega), if_neg (by omega), gd_pos (by omega), Int.toNat_natCast, ew, b1_pos q1, gd_pos q2, em, bd_pos k1, gd_pos (by decide), lt_pos, cp_A]
    · rw [wA_at]
      refine Ms.cp ?_ (by omega)
      rw [wA_at]
      exact k2) (fun e hI => by
    have hXe := hX.fr hI.1 (by decide)
    have eL : e.1 2 4 = L := hXe.2.2.2.2.2.2.2.1
    have hL := hXe.2.2.2.2.2.2.2.2
    show X0_traceOf_b13 101 2 58 (L : Int) e = _
    unfold X0_traceOf_b13
    rw [eL, gd_pos (by omega), if_pos (by omega)]) I0
  refine ⟨d2, ?_, l2⟩
  have hX2 := hX.fr l2 (by decide)
  have em : d2.1 101 2 = (bm9 n r a c : Int) := (hP.fr l2 (by decide)).1
  unfold X0_traceOf
  rw [y1, bd_pos u1, l1]
  unfold X0_traceOf_j71
  have bW := wrd9_b (p := p) (m := bm9 n r a c) (sq := sqL n F R r p iv a c) (w := w) hp L
  have sb := sm_bd (f := fun i => wrd9 p (bm9 n r a c) (sqL n F R r p iv a c) w L i i) (lo := 0) (hi := 30) (bm9 n r a c) (fun i hi => by have := bW i i hi hi; omega)
  have rd : X3_reduce 58 (sm (bm9 n r a c) fun i => wrd9 p (bm9 n r a c) (sqL n F R r p iv a c) w L i i) d2 = some (trc9 n F R r p iv a w L c) := x3_reduce hX2.2.2.2.2.1 hp h31 (by have := sb.1; omega) (by have := sb.2; omega)
  refine (lpS9 (r := bm9 n r a c) (fun i => wrd9 p (bm9 n r a c) (sqL n F R r p iv a c) w L i i) (by omega) (fun i hi => ?_) ?_).trans ?_
  · show X0_traceOf_b76 101 2 58 (sm i _) (i : Int) d2 = _
    unfold X0_traceOf_b76
    have e11 : d2.1 (101 + 10) (5 * i + i) = wrd9 p (bm9 n r a c) (sqL n F R r p iv a c) w L i i := l3 i i hi hi
    rw [em, gd_pos (by omega), if_neg (by omega), gd_pos (by omega), lt_pos, show (5 * (i : Int) + (i : Int)).toNat = 5 * i + i by omega, e11]
    rfl
  · show X0_traceOf_b76 101 2 58 (sm (bm9 n r a c) _) (bm9 n r a c : Int) d2 = _
    unfold X0_traceOf_b76
    rw [em, gd_pos (by omega), if_pos (by omega)]
  · show X0_traceOf_j106 101 2 58 _ d2 = _
    unfold X0_traceOf_j106
    rw [b1_pos rd]
theorem x0_rl {d : DA} (h : BD9 n F R r p iv a) (hO : bOk n F R r p iv a c) (hX : BX9 d n F R r p iv w L) (hP : BP9 d n r a c) (hS : BS9 d n F R r p iv a c) : ∃ v d', X0_isRelated 101 58 d = some (v, d') ∧ FrB 105 d d' ∧ Wb (rl9 n F R r p iv a c) v 1 := by
  have hm := bm9_le (n := n) (r := r) (a := a) (c := c)
  have hp := h.2.2.1.1
  have h31 := h.2.2.1.2
  have h3 := h.2.1
  have hp0 : 0 < p := by omega
  have y1 := hP.1
  have b1 := b1m_b h hO
  have b2 := b2m_b (c := c) h
  have x58 := hX.2.2.2.2.1
  obtain ⟨s1, s2, s3, s4⟩ := hS
  unfold rl9
  generalize bm9 n r a c = m at *
  generalize b1m n R r a c = A at *
  generalize b2m n F R r p iv a c = B at *
  obtain ⟨g1, k1, k2⟩ := x3_mul (d := d) (a1 := 101 + 6) (n1 := 25) (a2 := 101 + 7) (n2 := 25) (a4 := 101 + 11) (n4 := 25) (r := m) (p := p) (by omega) (by decide) (by decide) (by decide) s1 s2 b1 b2 x58 hp h31 (by decide) (by decide) (by decide)
  obtain ⟨g2, k3, k4⟩ := x3_mul (d := wA d (101 + 11) g1) (a1 := 101 + 11) (n1 := 25) (a2 := 101 + 6) (n2 := 25) (a4 := 101 + 10) (n4 := 25) (r := m) (p := p) (by omega) (by decide) (by decide) (by decide) (by rw [wA_at]; exact k2) (by rw [wA_ne (by decide)]; exact s1) (mm9_b hp0) b1 (by rw [wA_ne (by decide)]; exact x58) hp h31 (by decide) (by decide) (by decide)
  obtain ⟨g3, k5, k6⟩ := x3_mul (d := wA (wA d (101 + 11) g1) (101 + 10) g2) (a1 := 101 + 7) (n1 := 25) (a2 := 101 + 11) (n2 := 25) (a4 := 101 + 4) (n4 := 25) (r := m) (p := p) (by omega) (by decide) (by decide) (by decide) (by rw [wA_ne (by decide), wA_ne (by decide)]; exact s2) (by rw [wA_ne (by decide), wA_at]; exact k2) b2 (mm9_b hp0) (by rw [wA_ne (by decide), wA_ne (by decide)]; exact x58) hp h31 (by decide) (by decide) (by decide)
  generalize hE : wA (wA (wA d (101 + 11) g1) (101 + 10) g2) (101 + 4) g3 = E at k5
  have fr : FrB 105 d E := by rw [← hE]; exact (((FrB.rf 105 d).a (by omega)).a (by omega)).a (by omega)
  have E6 : E.1 101 2 = m := by rw [fr.2 101 (by decide) (by omega)]; exact y1
  have E11 : ∀ i j, i < m → j < m → E.1 (101 + 10) (5 * i + j) = mm9 p m (mm9 p m A B) A i j := fun i j hi hj => by rw [← hE, wA_ne (by decide), wA_at]; exact k4 i j hi hj
  have E5 : ∀ i j, i < m → j < m → E.1 (101 + 4) (5 * i + j) = mm9 p m B (mm9 p m A B) i j := fun i j hi hj => by rw [← hE, wA_at]; exact k6 i j hi hj
  have e2 : X0_isRelated 101 58 d = (s29 ((0 : Int), E) m (fun i j => mm9 p m (mm9 p m A B) A i j = mm9 p m B (mm9 p m A B) i j)).elim (some (1, E)) some := by
    unfold X0_isRelated s29
    have q7 : (wA d (101 + 11) g1).1 101 2 = m := by rw [wA_ne (by decide)]; exact y1
    have q8 : (wA (wA d (101 + 11) g1) (101 + 10) g2).1 101 2 = m := by rw [wA_ne (by decide)]; exact q7
    rw [y1, bd_pos k1, q7, bd_pos k3, q8, bd_pos k5]
    refine lpR_cnt m _ (by omega) (fun i hi => ?_) ?_
    · unfold X0_isRelated_b62
      rw [E6, gd_pos (by omega), if_neg (by omega)]
      refine (lpR_cnt m (fun j => if mm9 p m (mm9 p m A B) A i j = mm9 p m B (mm9 p m A B) i j then none else some ((0 : Int), E)) (by omega) (fun j hj => ?_) ?_).trans ?_
      · unfold X0_isRelated_b72
        have ei : ((5 * (i : Int)) + (j : Int)).toNat = 5 * i + j := by omega
        have c1 := mm9_b (r := m) (A := mm9 p m A B) (B := A) hp0 i j hi hj
        have c2 := mm9_b (r := m) (A := B) (B := mm9 p m A B) hp0 i j hi hj
        rw [E6, gd_pos (by omega), if_neg (by omega), gd_pos (by omega), gd_pos (by omega), ei, E11 i j hi hj, E5 i j hi hj, gd_pos (by omega)]
        by_cases ce : mm9 p m (mm9 p m A B) A i j = mm9 p m B (mm9 p m A B) i j
        · rw [if_pos ce, if_pos ce]; rfl
        · rw [if_neg ce, if_neg ce]; rfl
      · unfold X0_isRelated_b72
        rw [E6, gd_pos (by omega), if_pos (by omega)]
      · cases fs9 m (fun j => if mm9 p m (mm9 p m A B) A i j = mm9 p m B (mm9 p m A B) i j then none else some ((0 : Int), E)) <;> rfl
    · unfold X0_isRelated_b62
      rw [E6, gd_pos (by omega), if_pos (by omega)]
  rcases s29_c (x := ((0 : Int), E)) (r := m) (G := fun i j => mm9 p m (mm9 p m A B) A i j = mm9 p m B (mm9 p m A B) i j) with ⟨z1, z2⟩ | ⟨z1, z2⟩
  · rw [z1] at e2
    exact ⟨1, E, e2, fr, fun _ => rfl, fun y => absurd z2 y⟩
  · rw [z1] at e2
    exact ⟨0, E, e2, fr, fun y => absurd y z2, fun _ => rfl⟩
/-- the class's whole run -/
def RnI (d0 : DA) (n F R : Nat → Int) (r p : Nat) (iv : Int → Int) (a : Nat) (w : Nat → Int) (L c : Nat) (s : Int × DA) : Prop := s.1 = (c : Int) ∧ FrB 101 d0 s.2 ∧ (∀ y, y < c → bOk n F R r p iv a y ∧ s.2.1 102 y = trc9 n F R r p iv a w L y) ∧ Wb (∀ y, y < c → rl9 n F R r p iv a y) (s.2.1 101 1) 1
theorem x0_runS {d0 : DA} (h : BD9 n F R r p iv a) (hX : BX9 d0 n F R r p iv w L) (hc : c < r) {s : Int × DA} (hI : RnI d0 n F R r p iv a w L c s) : (∃ s', X0_run_b8 101 2 58 a s.1 s.2 = some (.inl s') ∧ RnI d0 n F R r p iv a w L (c + 1) s') ∨ (∃ y, X0_run_b8 101 2 58 a s.1 s.2 = some (.inr (.inr y)) ∧ (y.1 = 0 ∧ FrB 101 d0 y.2 ∧ ¬ ∀ y, y < r → bOk n F R r p iv a y)) := by
  obtain ⟨v, d⟩ := s
  obtain ⟨i1, i2, i3, i4⟩ := hI
  dsimp only at i1 i2 i3 i4 ⊢
  subst i1
  have hXd := hX.fr i2 (by decide)
  have h3 := h.2.1
  have er : d.1 (2 + 3) 0 = r := hXd.1
  have h31 := h.2.2.1.2
  have h5 := h.1.1.2
  unfold X0_run_b8
  rw [er, gd_pos (by omega), if_neg (by omega)]
  obtain ⟨v1, d1, p1, p2, p3⟩ := x0_fp (d0 := d) (n := n) (R := R) (r := r) (a := a) (c := c) hXd.1 hXd.2.1 hXd.2.2.2.1 h.1 h3 h.2.2.2.2.1 hc (fun a b c ha hb hc => by have := h.2.2.2.2.2.2 a b c ha hb hc; omega)
  have bad : ∀ {q : DA}, FrB 101 d0 q → ¬ bOk n F R r p iv a c → (((0 : Int), q).1 = 0 ∧ FrB 101 d0 ((0 : Int), q).2 ∧ ¬ ∀ y, y < r → bOk n F R r p iv a y) := fun z1 z2 => ⟨rfl, z1, fun z3 => z2 (z3 c hc)⟩
  rw [bd_pos p1]
  rcases p3 with ⟨rfl, q1, q2, q3, q4, q5, q6⟩ | ⟨rfl, q1⟩
  · rw [gd_pos (by decide), if_neg (by decide)]
    have fr1 := i2.tr p2
    have hX1 := hX.fr fr1 (by decide)
    have hP1 : BP9 d1 n r a c := ⟨q3, q4, q5⟩
    obtain ⟨d2, t1, t2, t3, t4⟩ := x0_lt h hc hX1 hP1
    have fr2 := fr1.tr (t2.lo (by decide))
    have hX2 := hX.fr fr2 (by decide)
    have hP2 := hP1.fr t2 (by decide)
    rw [bd_pos t1]
    by_cases g : (bG9 n F r p iv a c).1 = true
    · have hO : bOk n F R r p iv a c := ⟨q6, q5, g⟩
      rw [if_pos g, gd_pos (by decide), if_neg (by decide)]
      obtain ⟨d3, l1, l2, l3⟩ := x0_ll h hc hO hX2 hP2 t3 (t4 g)
      have fr3 := fr2.tr (l2.lo (by decide))
      have hX3 := hX.fr fr3 (by decide)
      have hP3 := hP2.fr l2 (by decide)
      obtain ⟨d4, r1, r2⟩ := x0_tr h hO hX3 hP3 l3
      have fr4 := fr3.tr (r2.lo (by decide))
      have hP4 := hP3.fr r2 (by decide)
      have hS4 := BS9.fr (n := n) (F := F) (R := R) (r := r) (p := p) (iv := iv) (a := a) (c := c) l3 r2 (by decide)
      have trb : FrB 101 d0 (wI d4 (101 + 1) c (trc9 n F R r p iv a w L c)) := fr4.i (by omega)
      rw [bd_pos l1, bd_pos r1, gd_pos (by omega), lt_pos, Int.toNat_natCast]
      generalize hd5 : wI d4 (101 + 1) c (trc9 n F R r p iv a w L c) = d5 at trb
      have o5 : ∀ q, q ≠ 102 → d5.1 q = d4.1 q := fun q z => by rw [← hd5]; exact wI_ne z
      have e102 : d5.1 102 = fu (d.1 102) c (trc9 n F R r p iv a w L c) := by
        rw [← hd5]
        show (wI d4 102 c _).1 102 = _
        rw [wI_at, r2.2 102 (by decide) (by omega), l2.2 102 (by decide) (by omega), t2.2 102 (by decide) (by omega), q1]
      have e101 : d5.1 101 1 = d.1 101 1 := by
        rw [o5 101 (by decide), r2.2 101 (by decide) (by omega), l2.2 101 (by decide) (by omega), t2.2 101 (by decide) (by omega)]; exact q2
      have hX5 := hX.fr trb (by decide)
      have hP5 : BP9 d5 n r a c := by
        unfold BP9 at hP4 ⊢
        rw [o5 101 (by decide), o5 103 (by decide), o5 104 (by decide)]
        exact hP4
      have hS5 : BS9 d5 n F R r p iv a c := by
        unfold BS9 at hS4 ⊢
        rw [o5 107 (by decide), o5 108 (by decide), o5 109 (by decide), o5 110 (by decide)]
        exact hS4
      have tr5 : ∀ (e : DA), e.1 102 = d5.1 102 → ∀ y, y < c + 1 → bOk n F R r p iv a y ∧ e.1 102 y = trc9 n F R r p iv a w L y := fun e he y hy => by
        rw [he, e102]
        by_cases ey : y = c
        · subst ey; rw [fu_s]; exact ⟨hO, rfl⟩
        · rw [fu_n ey]; exact i3 y (by omega)
      have no : ∀ (e : DA), FrB 101 d0 e → e.1 102 = d5.1 102 → (¬ ∀ y, y < c + 1 → rl9 n F R r p iv a y) → (∃ s', X0_run_j91_8 101 2 58 a (c : Int) e = some (.inl s') ∧ RnI d0 n F R r p iv a w L (c + 1) s') := fun e fe he z => by
        unfold X0_run_j91_8
        rw [gd_pos (Or.inl rfl), lt_pos]
        refine ⟨((c : Int) + 1, wI e 101 1 0), rfl, rfl, fe.i (by omega), tr5 _ (by rw [wI_ne (by decide)]; exact he), fun y => absurd y z, fun _ => by rw [wI_at, fu_s]⟩
      have wb := i4.or
      rw [e101, gd_pos (by omega)]
      by_cases c0 : d.1 101 1 = 0
      · rw [if_pos c0]
        refine Or.inl (no d5 trb rfl (fun z => ?_))
        have := i4.1 (fun y hy => z y (by omega))
        omega
      · rw [if_neg c0]
        obtain ⟨v6, d6, u1, u2, u3⟩ := x0_rl h hO hX5 hP5 hS5
        have ub := u3.or
        rw [bd_pos u1, gd_pos (by omega)]
        have fr6 := trb.tr (u2.lo (by decide))
        have e6 : d6.1 102 = d5.1 102 := u2.2 102 (by decide) (by omega)
        by_cases c1 : v6 = 0
        · rw [if_pos c1]
          refine Or.inl (no d6 fr6 e6 (fun z => ?_))
          have := u3.1 (z c (by omega))
          omega
        · rw [if_neg c1, gd_pos (Or.inr rfl), lt_pos]
          refine Or.inl ⟨((c : Int) + 1, wI d6 101 1 1), rfl, rfl, fr6.i (by omega), tr5 _ (by rw [wI_ne (by decide)]; exact e6), fun _ => by rw [wI_at, fu_s], fun z => ?_⟩
          exfalso
          apply z
          intro y hy
          by_cases ey : y = c
          · subst ey
            by_cases cc : rl9 n F R r p iv a y
            · exact cc
            · exact absurd (u3.2 cc) c1
          · by_cases cc : ∀ y, y < c → rl9 n F R r p iv a y
            · exact cc y (by omega)
            · exact absurd (i4.2 cc) c0
    · rw [if_neg g, gd_pos (by decide), if_pos rfl]
      exact Or.inr ⟨_, rfl, bad fr2 (fun z => g z.2.2)⟩
  · rw [gd_pos (by decide), if_pos rfl]
    exact Or.inr ⟨_, rfl, bad (i2.tr p2) (fun z => q1 ⟨z.2.1, z.1⟩)⟩
theorem x0_run {d0 : DA} (h : BD9 n F R r p iv a) (hX : BX9 d0 n F R r p iv w L) : ∃ v d, X0_run 101 2 58 a d0 = some (v, d) ∧ FrB 101 d0 d ∧ ((v = 1 ∧ (∀ y, y < r → bOk n F R r p iv a y ∧ d.1 102 y = trc9 n F R r p iv a w L y) ∧ Wb (∀ y, y < r → rl9 n F R r p iv a y) (d.1 101 1) 1) ∨ (v = 0 ∧ ¬ ∀ y, y < r → bOk n F R r p iv a y)) := by
  unfold X0_run
  rw [gd_pos (Or.inr rfl), lt_pos]
  have h3 := h.2.1
  have h0 : RnI d0 n F R r p iv a w L 0 (0, wI d0 101 1 1) := ⟨rfl, (FrB.rf 101 d0).i (by omega), fun y hy => absurd hy (Nat.not_lt_zero _), fun _ => by rw [wI_at, fu_s], fun z => absurd (fun y hy => absurd hy (Nat.not_lt_zero _)) z⟩
  have key := lpR_ei (b := fun q : Int × DA => X0_run_b8 101 2 58 a q.1 q.2) (k := fun e : DA => some ((1 : Int), e)) (j := fun r : Int × DA => some r) (s0 := (0, wI d0 101 1 1)) (RnI d0 n F R r p iv a w L) (fun e => RnI d0 n F R r p iv a w L r ((r : Int), e)) (fun y => y.1 = 0 ∧ FrB 101 d0 y.2 ∧ ¬ ∀ y, y < r → bOk n F R r p iv a y) r (by omega) h0 (fun i s hi hI => x0_runS h hX hi hI) (fun s hI => by
    obtain ⟨v, d⟩ := s
    have i1 : v = (r : Int) := hI.1
    subst i1
    refine ⟨d, ?_, hI⟩
    have hr' : d.1 (2 + 3) 0 = r := (hX.fr hI.2.1 (by decide)).1
    show X0_run_b8 101 2 58 a (r : Int) d = _
    unfold X0_run_b8
    rw [hr', gd_pos (by omega), if_pos (by omega)])
  rcases key with ⟨e, e1, e2⟩ | ⟨y, e1, e2, e3, e4⟩
  · rw [e1]
    exact ⟨1, e, rfl, e2.2.1, Or.inl ⟨rfl, e2.2.2.1, e2.2.2.2⟩⟩
  · rw [e1]
    obtain ⟨v, d⟩ := y
    exact ⟨v, d, rfl, e3, Or.inr ⟨e2, e4⟩⟩
end

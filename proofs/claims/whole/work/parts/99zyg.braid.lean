/-! ===== braids: the reference runs words ===== -/
section
variable {n f F s R : Nat → Int} {r p a c : Nat} {iv : Int → Int} {w : Nat → Int} {L : Nat}
theorem x12_bo58 {d : DA} {m q0 : Nat} {l : Int} {A B : Mx} (hp : d.1 113 4 = p) (h2 : 2 ≤ p) (h31 : p ≤ 31) (hm : d.1 113 74 = m) (hm3 : m ≤ 3) (hA : Ms m (d.1 151) A) (bA : Mb p m A) (hB : Ms m (d.1 (if 0 ≤ l then q0 else 139)) B) (bB : Mb p m B) (hq : q0 ≠ 144) (hl : inR l) : ∃ g h, X12_braidOn_j58 113 q0 l d = some ((), wA (wA d 144 g) 151 h) ∧ Ms m h (mm9 p m A B) := by
  have hp0 : 0 < p := by omega
  have e1 : X12_braidOn_j58 113 q0 l d = X12_braidOn_j176 113 (wA d 144 (pm (d.1 144) (mm9 p m A B) m m 0)) := by
    unfold X12_braidOn_j58
    refine lpE_sq (bi := fun (i : Nat) q => X12_braidOn_b71 113 q0 l i q.1 q.2) 144 m (mm9 p m A B) (by omega) (fun i hi f => ?_) (fun f => ?_) (fun i j hi hj f hf => ?_) (fun i hi f => ?_)
    · show X12_braidOn_b60 113 q0 l (i : Int) (wA d 144 f) = _
      have e6 : (wA d 144 f).1 113 74 = m := by rw [wA_ne (by decide)]; exact hm
      unfold X12_braidOn_b60
      rw [e6, gd_pos (by omega), if_neg (by omega)]
    · show X12_braidOn_b60 113 q0 l (m : Int) (wA d 144 f) = _
      have e6 : (wA d 144 f).1 113 74 = m := by rw [wA_ne (by decide)]; exact hm
      unfold X12_braidOn_b60
      rw [e6, gd_pos (by omega), if_pos (by omega)]
    · show X12_braidOn_b71 113 q0 l i (j : Int) (wA d 144 f) = _
      generalize hE : wA d 144 f = E
      have Eo : ∀ q, q ≠ 144 → E.1 q = d.1 q := fun q z => by rw [← hE, wA_ne z]
      have e6 : E.1 113 74 = m := by rw [Eo 113 (by decide)]; exact hm
      have e4 : E.1 113 4 = p := by rw [Eo 113 (by decide)]; exact hp
      have ei : (5 * (i : Int) + (j : Int)).toNat = 5 * i + j := by omega
      have sb := mm_bd (p := p) (r := m) (A := A) (B := B) (i := i) (j := j) (by omega) h31 bA bB hi hj
      unfold X12_braidOn_b71
      rw [e6, gd_pos (by omega), if_neg (by omega)]
      refine (lpS9 (r := m) (fun k => A i k * B k j) (by omega) (fun k hk => ?_) ?_).trans ?_
      · show X12_braidOn_b86 113 q0 l i j (sm k _) (k : Int) E = _
        have z1 : ((5 * (i : Int)) + (k : Int)).toNat = 5 * i + k := by omega
        have z2 : ((5 * (k : Int)) + (j : Int)).toNat = 5 * k + j := by omega
        have t1 : E.1 (113 + 38) (5 * i + k) = A i k := by show E.1 151 _ = _; rw [Eo 151 (by decide)]; exact hA i k hi hk
        unfold X12_braidOn_b86
        rw [e6, gd_pos (by omega), if_neg (by omega), gd_pos (by omega), gd_pos hl]
        by_cases cl : 0 ≤ l
        · rw [if_pos cl] at hB
          have t2 : E.1 q0 (5 * k + j) = B k j := by rw [Eo q0 hq]; exact hB k j hk hj
          rw [if_pos cl, gd_pos (by omega), lt_pos, z1, z2, t1, t2]
          rfl
        · rw [if_neg cl] at hB
          have t2 : E.1 (113 + 26) (5 * k + j) = B k j := by show E.1 139 _ = _; rw [Eo 139 (by decide)]; exact hB k j hk hj
          rw [if_neg cl, gd_pos (by omega), lt_pos, z1, z2, t1, t2]
          rfl
      · show X12_braidOn_b86 113 q0 l i j (sm m _) (m : Int) E = _
        unfold X12_braidOn_b86
        rw [e6, gd_pos (by omega), if_pos (by omega)]
      · show X12_braidOn_j146_71 113 q0 l i j (sm m fun k => A i k * B k j) E = _
        unfold X12_braidOn_j146_71
        rw [e4, gd_pos (by unfold dvg; omega), gd_pos (by omega), lt_pos, ei, tm_em sb.1]
        rfl
    · show X12_braidOn_b71 113 q0 l i (m : Int) (wA d 144 f) = _
      have e6 : (wA d 144 f).1 113 74 = m := by rw [wA_ne (by decide)]; exact hm
      unfold X12_braidOn_b71
      rw [e6, gd_pos (by omega), if_pos (by omega)]
  have m0 : Ms m (pm (d.1 144) (mm9 p m A B) m m 0) (mm9 p m A B) := fun i j hi hj => pm_at hi hj (by omega)
  generalize pm (d.1 144) (mm9 p m A B) m m 0 = g at e1 m0
  refine ⟨g, pre ((wA d 144 g).1 151) ((wA d 144 g).1 144) 25, ?_, ?_⟩
  · rw [e1]
    unfold X12_braidOn_j176
    refine lpE_row (d := wA d 144 g) 151 25 ((wA d 144 g).1 144) (by omega) (fun i hi => ?_) ?_
    · show X12_braidOn_b178 113 (i : Int) _ = _
      unfold X12_braidOn_b178
      generalize wA d 144 g = E
      have : (wA E 151 (pre (E.1 151) (E.1 144) i)).1 (113 + 31) i = E.1 144 i := by
        show (wA E 151 _).1 144 i = _
        rw [wA_ne (by decide)]
      rw [gd_pos (by omega), if_neg (by omega), gd_pos (by omega), gd_pos (by omega), lt_pos, Int.toNat_natCast, this]
    · show X12_braidOn_b178 113 ((25 : Nat) : Int) _ = _
      unfold X12_braidOn_b178
      rw [gd_pos (by omega), if_pos (by omega)]
  · refine Ms.cp ?_ (by omega)
    rw [wA_at]; exact m0
theorem ML9.fr {d0 d : DA} (h : ML9 d0 n F R r p iv a c) (hF : ∀ q, q = 113 ∨ q = 149 ∨ q = 150 → d.1 q = d0.1 q) : ML9 d n F R r p iv a c := by
  unfold ML9 at h ⊢
  rw [hF 113 (by omega), hF 149 (by omega), hF 150 (by omega)]
  exact h
/-- a letter -/
theorem x12_bo {d : DA} (h : BR9 d n f F s R r p iv a w L) (hc : c < r) (hO : bOk n F R r p iv a c) (hM : ML9 d n F R r p iv a c) {l : Int} (hl : Lt9 l) {A : Mx} (hA : Ms (bm9 n r a c) (d.1 151) A) (bA : Mb p (bm9 n r a c) A) : ∃ d', X12_braidOn 113 l d = some ((), d') ∧ FrM d d' ∧ (∀ q, q ≠ 138 → q ≠ 139 → q ≠ 144 → q ≠ 151 → d'.1 q = d.1 q) ∧ Ms (bm9 n r a c) (d'.1 151) (mm9 p (bm9 n r a c) A (sqL n F R r p iv a c l)) := by
  have hD := h.2.2.2.2.2.2.2
  have hT := h.2.2.2.2.2.2.1
  have h3 := hT.2.1
  have hp := hT.2.2.1.1
  have h31 := hT.2.2.1.2
  have hm := bm9_le (n := n) (r := r) (a := a) (c := c)
  have hiv := hD.2.2.2.1
  have h4 := h.2.2.2.2.1
  have b1 := b1m_b hD hO
  have b2 := b2m_b (c := c) hD
  have b3 := b1b_b hD hO
  have b4 := b2b_b (c := c) hD
  -- a letter told as it is
  have pos : ∀ (q0 : Nat) (l : Int) (B : Mx), 0 ≤ l → inR l → q0 = 149 ∨ q0 = 150 → Ms (bm9 n r a c) (d.1 q0) B → Mb p (bm9 n r a c) B → ∃ d', X12_braidOn_j21 113 q0 l d = some ((), d') ∧ FrM d d' ∧ (∀ q, q ≠ 138 → q ≠ 139 → q ≠ 144 → q ≠ 151 → d'.1 q = d.1 q) ∧ Ms (bm9 n r a c) (d'.1 151) (mm9 p (bm9 n r a c) A B) := fun q0 l B l0 lr hq mB bB => by
    obtain ⟨g, h', u1, u2⟩ := x12_bo58 (d := d) (m := bm9 n r a c) (q0 := q0) (l := l) (A := A) (B := B) h4 hp h31 hM.1 (by omega) hA bA (by rw [if_pos l0]; exact mB) bB (by omega) lr
    refine ⟨wA (wA d 144 g) 151 h', ?_, ((FrM.rf d).a (by omega)).a (by omega), fun q z1 z2 z3 z4 => by rw [wA_ne z4, wA_ne z3], by rw [wA_at]; exact u2⟩
    unfold X12_braidOn_j21
    rw [gd_pos lr, if_pos l0]; exact u1
  -- a letter turned back
  have neg : ∀ (q0 : Nat) (l : Int) (B R9 : Mx), l < 0 → inR l → q0 = 149 ∨ q0 = 150 → Ms (bm9 n r a c) (d.1 q0) B → Mb p (bm9 n r a c) B → Mb p (bm9 n r a c) R9 → LI p (bm9 n r a c) R9 B → ∃ d', X12_braidOn_j21 113 q0 l d = some ((), d') ∧ FrM d d' ∧ (∀ q, q ≠ 138 → q ≠ 139 → q ≠ 144 → q ≠ 151 → d'.1 q = d.1 q) ∧ Ms (bm9 n r a c) (d'.1 151) (mm9 p (bm9 n r a c) A R9) := fun q0 l B R9 l0 lr hq mB bB bR li => by
    obtain ⟨gi1, gi2⟩ := g_inv hp hiv bB bR li
    have e1 : X12_braidOn_j21 113 q0 l d = X12_braidOn_j49 113 q0 l (wA d 138 (pre (d.1 138) (d.1 q0) 25)) := by
      unfold X12_braidOn_j21
      rw [gd_pos lr, if_neg (by omega)]
      refine lpE_row (d := d) 138 25 (d.1 q0) (by omega) (fun i hi => ?_) ?_
      · show X12_braidOn_b28 113 q0 l (i : Int) _ = _
        unfold X12_braidOn_b28
        have : (wA d 138 (pre (d.1 138) (d.1 q0) i)).1 q0 i = d.1 q0 i := by rw [wA_ne (by omega)]
        rw [gd_pos (by omega), if_neg (by omega), gd_pos (by omega), gd_pos (by omega), lt_pos, Int.toNat_natCast, this]
      · show X12_braidOn_b28 113 q0 l ((25 : Nat) : Int) _ = _
        unfold X12_braidOn_b28
        rw [gd_pos (by omega), if_pos (by omega)]
    have mB' : Ms (bm9 n r a c) ((wA d 138 (pre (d.1 138) (d.1 q0) 25)).1 138) B := by rw [wA_at]; exact mB.cp (by omega)
    generalize hd1 : wA d 138 (pre (d.1 138) (d.1 q0) 25) = d1 at e1 mB'
    have o1 : ∀ q, q ≠ 138 → d1.1 q = d.1 q := fun q z => by rw [← hd1, wA_ne z]
    obtain ⟨ff, gg, t1, t2⟩ := x12_turnB (d := d1) (n := bm9 n r a c) (p := p) (M := B) (iv := iv) (by omega) mB' bB (by rw [o1 113 (by decide)]; exact h4) hp h31 hiv
    have mg := t2 gi1
    generalize hd2 : wA (wA d1 138 ff) 139 gg = d2 at t1
    have o2 : ∀ q, q ≠ 138 → q ≠ 139 → d2.1 q = d.1 q := fun q z1 z2 => by rw [← hd2, wA_ne z2, wA_ne z1, o1 q z1]
    obtain ⟨g, h', u1, u2⟩ := x12_bo58 (d := d2) (m := bm9 n r a c) (q0 := q0) (l := l) (A := A) (B := R9) (by rw [o2 113 (by decide) (by decide)]; exact h4) hp h31 (by rw [o2 113 (by decide) (by decide)]; exact hM.1) (by omega) (by rw [o2 151 (by decide) (by decide)]; exact hA) bA (by
      rw [if_neg (by omega), ← hd2, wA_at]
      intro i j hi hj
      rw [mg i j hi hj]
      exact gi2 i j hi hj) bR (by omega) lr
    refine ⟨wA (wA d2 144 g) 151 h', ?_, ?_, fun q z1 z2 z3 z4 => by rw [wA_ne z4, wA_ne z3, o2 q z1 z2], by rw [wA_at]; exact u2⟩
    · rw [e1]
      unfold X12_braidOn_j49
      have : d1.1 113 74 = (bm9 n r a c : Int) := by rw [o1 113 (by decide)]; exact hM.1
      rw [this, bd_pos t1]; exact u1
    · rw [← hd2, ← hd1]
      exact (((((FrM.rf d).a (by omega)).a (by omega)).a (by omega)).a (by omega)).a (by omega)
  unfold X12_braidOn sqL
  rcases hl with rfl | rfl | rfl | rfl
  · rw [gd_pos (by decide), if_pos rfl, if_pos rfl]
    exact pos 149 1 _ (by decide) (by decide) (Or.inl rfl) hM.2.1 b1
  · rw [gd_pos (by decide), if_neg (by decide), gd_pos (by decide), if_neg (by decide), if_neg (by decide), if_pos rfl]
    exact pos 150 2 _ (by decide) (by decide) (Or.inr rfl) hM.2.2 b2
  · rw [gd_pos (by decide), if_neg (by decide), gd_pos (by decide), if_pos rfl, if_neg (by decide), if_neg (by decide), if_pos rfl]
    exact neg 149 (-1) _ _ (by decide) (by decide) (Or.inl rfl) hM.2.1 b1 b3 (one_back hD hO)
  · rw [gd_pos (by decide), if_neg (by decide), gd_pos (by decide), if_neg (by decide), if_neg (by decide), if_neg (by decide), if_neg (by decide)]
    exact neg 150 (-2) _ _ (by decide) (by decide) (Or.inr rfl) hM.2.2 b2 b4 (two_back hD hc hO)
theorem x12_bb {d : DA} {m : Nat} (hm : m ≤ 5) : ∃ g, X12_beginBraid 113 d = some ((), wA d 151 g) ∧ Ms m g id9 := by
  refine ⟨pm (d.1 151) id9 5 5 0, ?_, fun i j hi hj => pm_at (by omega) (by omega) (Nat.le_refl 5)⟩
  unfold X12_beginBraid
  refine lpE_sq (bi := fun (i : Nat) q => X12_beginBraid_b9 113 i q.1 q.2) 151 5 id9 (Nat.le_refl 5) (fun i hi f => ?_) (fun f => ?_) (fun i j hi hj f hf => ?_) (fun i hi f => ?_)
  · show X12_beginBraid_b2 113 (i : Int) (wA d 151 f) = _
    unfold X12_beginBraid_b2
    rw [gd_pos (by omega), if_neg (by omega)]
  · show X12_beginBraid_b2 113 ((5 : Nat) : Int) (wA d 151 f) = _
    unfold X12_beginBraid_b2
    rw [gd_pos (by omega), if_pos (by omega)]
  · show X12_beginBraid_b9 113 i (j : Int) (wA d 151 f) = _
    have ei : (5 * (i : Int) + (j : Int)).toNat = 5 * i + j := by omega
    unfold X12_beginBraid_b9 id9
    rw [gd_pos (by omega), if_neg (by omega), gd_pos (by omega)]
    by_cases e : i = j
    · rw [if_pos (by omega), gd_pos (by omega), lt_pos, ei, if_pos e]
    · rw [if_neg (by omega), gd_pos (by omega), lt_pos, ei, if_neg e]
  · show X12_beginBraid_b9 113 i ((5 : Nat) : Int) (wA d 151 f) = _
    unfold X12_beginBraid_b9
    rw [gd_pos (by omega), if_pos (by omega)]
theorem x12_tr {d0 : DA} (h : BR9 d0 n f F s R r p iv a w L) (hc : c < r) (hO : bOk n F R r p iv a c) : ∃ d, X12_traceOf 113 a c d0 = some (trc9 n F R r p iv a w L c, d) ∧ FrM d0 d := by
  have hD := h.2.2.2.2.2.2.2
  have h3 := hD.2.1
  have hp := hD.2.2.1.1
  have h31 := hD.2.2.1.2
  have hm := bm9_le (n := n) (r := r) (a := a) (c := c)
  obtain ⟨v, d1, t1, t2, t3⟩ := x12_tl h hc
  rcases t3 with ⟨rfl, -, t3⟩ | ⟨-, t3⟩
  · obtain ⟨g, u1, u2⟩ := x12_bb (d := d1) (m := bm9 n r a c) (by omega)
    have I0 : FrM d0 (wA d1 151 g) ∧ ML9 (wA d1 151 g) n F R r p iv a c ∧ Ms (bm9 n r a c) ((wA d1 151 g).1 151) (wrd9 p (bm9 n r a c) (sqL n F R r p iv a c) w 0) := ⟨t2.a (by omega), t3.fr (fun q z => by rw [wA_ne (by omega)]), by rw [wA_at]; exact u2⟩
    have hL := h.2.2.2.2.2.1.2.1
    obtain ⟨d2, l1, l2, l3, l4⟩ := lev9i (b := fun q => X12_traceOf_b13 113 q.1 q.2) (P := fun k e => FrM d0 e ∧ ML9 e n F R r p iv a c ∧ Ms (bm9 n r a c) (e.1 151) (wrd9 p (bm9 n r a c) (sqL n F R r p iv a c) w k)) (r := L) (by omega) (fun k e hk hI => by
      obtain ⟨i1, i2, i3⟩ := hI
      have hB := h.fr i1
      obtain ⟨e1, e2, e3⟩ := hB.2.2.2.2.2.1
      have ew := e3 k hk
      obtain ⟨d', q1, q2, q3, q4⟩ := x12_bo hB hc hO i2 ew.2 i3 (wrd9_b hp _)
      refine ⟨d', ?_, i1.tr q2, i2.fr (fun q z => q3 q (by omega) (by omega) (by omega) (by omega)), q4⟩
      show X12_traceOf_b13 113 (k : Int) e = _
      unfold X12_traceOf_b13
      have ew' : e.1 (113 + 7) k = w k := ew.1
      rw [e1, gd_pos (by omega), if_neg (by omega), gd_pos (by omega), Int.toNat_natCast, ew', bd_pos q1]) (fun e hI => by
      have hB := h.fr hI.1
      obtain ⟨e1, e2, e3⟩ := hB.2.2.2.2.2.1
      show X12_traceOf_b13 113 (L : Int) e = _
      unfold X12_traceOf_b13
      rw [e1, gd_pos (by omega), if_pos (by omega)]) I0
    refine ⟨d2, ?_, l2⟩
    unfold X12_traceOf
    rw [bd_pos t1, bd_pos u1, l1]
    unfold X12_traceOf_j37
    have bW := wrd9_b (p := p) (m := bm9 n r a c) (sq := sqL n F R r p iv a c) (w := w) hp L
    have sb := sm_bd (f := fun i => wrd9 p (bm9 n r a c) (sqL n F R r p iv a c) w L i i) (lo := 0) (hi := 30) (bm9 n r a c) (fun i hi => by have := bW i i hi hi; omega)
    have em := l3.1
    have e4 := (h.fr l2).2.2.2.2.1
    refine (lpS9 (r := bm9 n r a c) (fun i => wrd9 p (bm9 n r a c) (sqL n F R r p iv a c) w L i i) (by omega) (fun i hi => ?_) ?_).trans ?_
    · show X12_traceOf_b42 113 (sm i _) (i : Int) d2 = _
      unfold X12_traceOf_b42
      have e11 : d2.1 (113 + 38) (5 * i + i) = wrd9 p (bm9 n r a c) (sqL n F R r p iv a c) w L i i := l4 i i hi hi
      rw [em, gd_pos (by omega), if_neg (by omega), gd_pos (by omega), lt_pos, show (5 * (i : Int) + (i : Int)).toNat = 5 * i + i by omega, e11]
      rfl
    · show X12_traceOf_b42 113 (sm (bm9 n r a c) _) (bm9 n r a c : Int) d2 = _
      unfold X12_traceOf_b42
      rw [em, gd_pos (by omega), if_pos (by omega)]
    · have s0 : 0 ≤ sm (bm9 n r a c) fun i => wrd9 p (bm9 n r a c) (sqL n F R r p iv a c) w L i i := by have := sb.1; omega
      have s1 : (sm (bm9 n r a c) fun i => wrd9 p (bm9 n r a c) (sqL n F R r p iv a c) w L i i) ≤ 90 := by have := sb.2; omega
      rw [e4, gd_pos (by unfold dvg; omega), tm_em s0]
      rfl
  · exact absurd hO t3
/-- whether it can be -/
theorem x12_can {d0 : DA} (h : BR9 d0 n f F s R r p iv a w L) : ∃ v d, X12_canBraid 113 a d0 = some (v, d) ∧ FrM d0 d ∧ ((v = 1 ∧ ∀ y, y < r → bOk n F R r p iv a y) ∨ (v = 0 ∧ ¬ ∀ y, y < r → bOk n F R r p iv a y)) := by
  have h3 := h.2.2.2.2.2.2.2.2.1
  unfold X12_canBraid
  have key := lpR_ei (b := fun q : Int × DA => X12_canBraid_b2 113 a q.1 q.2) (k := fun e : DA => some ((1 : Int), e)) (j := fun r : Int × DA => some r) (s0 := (0, d0)) (fun x t => t.1 = (x : Int) ∧ FrM d0 t.2 ∧ ∀ y, y < x → bOk n F R r p iv a y) (fun e => FrM d0 e ∧ ∀ y, y < r → bOk n F R r p iv a y) (fun y => y.1 = 0 ∧ FrM d0 y.2 ∧ ¬ ∀ y, y < r → bOk n F R r p iv a y) r (by omega) ⟨rfl, FrM.rf d0, fun y hy => absurd hy (Nat.not_lt_zero _)⟩ (fun x t hx hI => by
    obtain ⟨v, e⟩ := t
    obtain ⟨i0, i1, i2⟩ := hI
    dsimp only at i0 i1 i2 ⊢
    subst i0
    have hB := h.fr i1
    have er := hB.2.2.2.1
    obtain ⟨v, d1, t1, t2, t3⟩ := x12_tl hB hx
    unfold X12_canBraid_b2
    rw [er, gd_pos (by omega), if_neg (by omega), bd_pos t1]
    rcases t3 with ⟨rfl, t3, -⟩ | ⟨rfl, t3⟩
    · rw [gd_pos (by decide), if_neg (by decide)]
      refine Or.inl ⟨_, rfl, rfl, i1.tr t2, fun y hy => ?_⟩
      by_cases ey : y = x
      · rw [ey]; exact t3
      · exact i2 y (by omega)
    · rw [gd_pos (by decide), if_pos rfl]
      exact Or.inr ⟨_, rfl, rfl, i1.tr t2, fun z => t3 (z x hx)⟩) (fun t hI => by
    obtain ⟨v, e⟩ := t
    obtain ⟨i0, i1, i2⟩ := hI
    dsimp only at i0 i1 i2 ⊢
    subst i0
    have er := (h.fr i1).2.2.2.1
    refine ⟨e, ?_, i1, i2⟩
    unfold X12_canBraid_b2
    rw [er, gd_pos (by omega), if_pos (by omega)])
  rcases key with ⟨e, e1, e2, e3⟩ | ⟨y, e1, e2, e3, e4⟩
  · rw [e1]; exact ⟨1, e, rfl, e2, Or.inl ⟨rfl, e3⟩⟩
  · rw [e1]
    obtain ⟨v, d⟩ := y
    exact ⟨v, d, rfl, e3, Or.inr ⟨e2, e4⟩⟩
end

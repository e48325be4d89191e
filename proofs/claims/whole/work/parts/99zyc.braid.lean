/-! ===== braids: the class lays squares ===== -/
theorem lpE_sq2 {Y : Type} {bo : Int × DA → Option ((Int × DA) ⊕ DA)} {bi : Nat → Int × DA → Option ((Int × DA) ⊕ DA)} {k : DA → Option Y} {d : DA} (c c' r : Nat) (G H : Nat → Nat → Int) (hcc : c ≠ c') (h5 : r ≤ 5)
    (ho : ∀ i, i < r → ∀ f g, bo ((i : Int), wA (wA d c f) c' g) = lpE (bi i) (0, wA (wA d c f) c' g) (fun e => some (.inl ((i : Int) + 1, e))))
    (hoe : ∀ f g, bo ((r : Int), wA (wA d c f) c' g) = some (.inr (wA (wA d c f) c' g)))
    (hi : ∀ i j, i < r → j < r → ∀ f g, bi i ((j : Int), wA (wA d c f) c' g) = some (.inl ((j : Int) + 1, wI (wI (wA (wA d c f) c' g) c (5 * i + j) (G i j)) c' (5 * i + j) (H i j))))
    (hie : ∀ i, i < r → ∀ f g, bi i ((r : Int), wA (wA d c f) c' g) = some (.inr (wA (wA d c f) c' g))) : lpE bo (0, d) k = k (wA (wA d c (pm (d.1 c) G r r 0)) c' (pm (d.1 c') H r r 0)) := by
  have ed : wA (wA d c (d.1 c)) c' (d.1 c') = d := by rw [wA_same, wA_same]
  refine lpE_for (fun i => ((i : Int), wA (wA d c (pm (d.1 c) G r i 0)) c' (pm (d.1 c') H r i 0))) r _ ?_ (by omega) (fun i hi9 => ?_) (hoe _ _)
  · show _ = (((0 : Nat) : Int), wA (wA d c (pm (d.1 c) G r 0 0)) c' (pm (d.1 c') H r 0 0))
    rw [pm_0, pm_0, ed]; rfl
  · show bo ((i : Int), _) = _
    rw [ho i hi9]
    refine (lpE_for (fun j => ((j : Int), wA (wA d c (pm (d.1 c) G r i j)) c' (pm (d.1 c') H r i j))) r _ rfl (by omega) (fun j hj => ?_) (hie i hi9 _ _)).trans ?_
    · show bi i ((j : Int), _) = _
      rw [hi i j hi9 hj, w2_wa hcc, w2_wb, pm_s hj h5, pm_s hj h5]; rfl
    · rw [pm_n, pm_n]; rfl
theorem x9_plc {d : DA} {a b c e g h : Nat} (ha : a < 3) (hb : b < 3) (hc : c < 3) (he : e < 3) (hg : g < 3) (hh : h < 3) : X9_place a b c e g h d = some ((six a b c e g h : Nat) : Int) := by
  unfold X9_place six
  refine congrArg some ?_
  omega
/-- what the class's braids rest on -/
def BX9 (d : DA) (n F R : Nat → Int) (r p : Nat) (iv : Int → Int) (w : Nat → Int) (L : Nat) : Prop := d.1 5 0 = r ∧ d.1 6 = n ∧ d.1 12 = F ∧ d.1 13 = R ∧ d.1 58 0 = p ∧ (∀ j : Nat, 1 ≤ j → j < p → d.1 59 j = iv j) ∧ (∀ j, j < L → d.1 4 j = w j ∧ Lt9 (w j)) ∧ d.1 2 4 = L ∧ L ≤ 12
theorem BX9.fr {d0 d : DA} {n F R : Nat → Int} {r p : Nat} {iv : Int → Int} {w : Nat → Int} {L lo : Nat} (h : BX9 d0 n F R r p iv w L) (hF : FrB lo d0 d) (hl : 101 ≤ lo) : BX9 d n F R r p iv w L := by
  unfold BX9 at h ⊢
  rw [hF.2 5 (by decide) (by omega), hF.2 6 (by decide) (by omega), hF.2 12 (by decide) (by omega), hF.2 13 (by decide) (by omega), hF.2 58 (by decide) (by omega), hF.2 59 (by decide) (by omega), hF.2 4 (by decide) (by omega), hF.2 2 (by decide) (by omega)]
  exact h
def BP9 (d : DA) (n : Nat → Int) (r a c : Nat) : Prop := d.1 101 2 = (bm9 n r a c : Int) ∧ (∀ i, i < bm9 n r a c → d.1 103 i = (pk9 (ptB n a c) r i : Int) ∧ d.1 104 i = (pk9 (pcB n a c) r i : Int)) ∧ cn9 (pcB n a c) r = bm9 n r a c
theorem BP9.fr {d0 d : DA} {n : Nat → Int} {r a c lo : Nat} (h : BP9 d0 n r a c) (hF : FrB lo d0 d) (hl : 105 ≤ lo) : BP9 d n r a c := by
  unfold BP9 at h ⊢
  rw [hF.2 101 (by decide) (by omega), hF.2 103 (by decide) (by omega), hF.2 104 (by decide) (by omega)]
  exact h
section
variable {n F R : Nat → Int} {r p a c : Nat} {iv : Int → Int} {w : Nat → Int} {L : Nat}
theorem x0_lt {d : DA} (h : BD9 n F R r p iv a) (hc : c < r) (hX : BX9 d n F R r p iv w L) (hP : BP9 d n r a c) : ∃ d', X0_layTrees 101 (2 + 9) 58 a c d = some ((if (bG9 n F r p iv a c).1 = true then 1 else 0), d') ∧ FrB 105 d d' ∧ Ms (bm9 n r a c) (d'.1 105) (bF9 n F r a c) ∧ ((bG9 n F r p iv a c).1 = true → Ms (bm9 n r a c) (d'.1 106) (bG9 n F r p iv a c).2.2) := by
  obtain ⟨hT, h3, ⟨hp, h31⟩, hiv, ha, hF, hR⟩ := h
  obtain ⟨x1, x2, x3, x4, x5, x6, x7, x8, x9⟩ := hX
  obtain ⟨y1, y2, y3⟩ := hP
  have hm := bm9_le (n := n) (r := r) (a := a) (c := c)
  have bF := bF9_b (F := F) (R := R) (p := p) (iv := iv) ⟨hT, h3, ⟨hp, h31⟩, hiv, ha, hF, hR⟩ hc y3
  unfold bG9
  generalize hm9 : bm9 n r a c = m at *
  have e1 : X0_layTrees 101 (2 + 9) 58 a c d = X0_layTrees_j75 101 (2 + 9) 58 (wA d 105 (pm (d.1 105) (bF9 n F r a c) m m 0)) := by
    unfold X0_layTrees
    refine lpE_sq (bi := fun (i : Nat) q => X0_layTrees_b15 101 (2 + 9) 58 a c i q.1 q.2) 105 m (bF9 n F r a c) (by omega) (fun i hi f => ?_) (fun f => ?_) (fun i j hi hj f hf => ?_) (fun i hi f => ?_)
    · show X0_layTrees_b3 101 (2 + 9) 58 a c (i : Int) (wA d 105 f) = _
      have e6 : (wA d 105 f).1 101 2 = m := by rw [wA_ne (by decide)]; exact y1
      unfold X0_layTrees_b3
      rw [e6, gd_pos (by omega), if_neg (by omega)]
    · show X0_layTrees_b3 101 (2 + 9) 58 a c (m : Int) (wA d 105 f) = _
      have e6 : (wA d 105 f).1 101 2 = m := by rw [wA_ne (by decide)]; exact y1
      unfold X0_layTrees_b3
      rw [e6, gd_pos (by omega), if_pos (by omega)]
    · show X0_layTrees_b15 101 (2 + 9) 58 a c i (j : Int) (wA d 105 f) = _
      have e6 : (wA d 105 f).1 101 2 = m := by rw [wA_ne (by decide)]; exact y1
      have k1 := pk9_ok (P := ptB n a c) (m := r) (i := i) (by show i < bm9 n r a c; rw [hm9]; exact hi)
      have k2 := pk9_ok (P := pcB n a c) (m := r) (i := j) (by rw [y3]; exact hj)
      have q1 : (wA d 105 f).1 (101 + 2) i = (pk9 (ptB n a c) r i : Int) := by
        show (wA d 105 f).1 103 i = _
        rw [wA_ne (by decide)]; exact (y2 i hi).1
      have q2 : (wA d 105 f).1 (101 + 3) j = (pk9 (pcB n a c) r j : Int) := by
        show (wA d 105 f).1 104 j = _
        rw [wA_ne (by decide)]; exact (y2 j hj).2
      have l7 : six a a a c (pk9 (ptB n a c) r i) (pk9 (pcB n a c) r j) < 729 := by unfold six; omega
      have q3 : (wA d 105 f).1 ((2 + 9) + 1) (six a a a c (pk9 (ptB n a c) r i) (pk9 (pcB n a c) r j)) = bF9 n F r a c i j := by
        show (wA d 105 f).1 12 _ = _
        rw [wA_ne (by decide), x3]; rfl
      unfold X0_layTrees_b15
      rw [e6, gd_pos (by omega), if_neg (by omega), gd_pos (by omega), gd_pos (by omega), Int.toNat_natCast, Int.toNat_natCast, q1, q2, b1_pos (x9_plc (by omega) (by omega) (by omega) (by omega) (by omega) (by omega)), gd_pos (by omega), gd_pos (by omega), lt_pos, Int.toNat_natCast, q3, show (5 * (i : Int) + (j : Int)).toNat = 5 * i + j by omega]
    · show X0_layTrees_b15 101 (2 + 9) 58 a c i (m : Int) (wA d 105 f) = _
      have e6 : (wA d 105 f).1 101 2 = m := by rw [wA_ne (by decide)]; exact y1
      unfold X0_layTrees_b15
      rw [e6, gd_pos (by omega), if_pos (by omega)]
  have m0 : Ms m (pm (d.1 105) (bF9 n F r a c) m m 0) (bF9 n F r a c) := fun i j hi hj => pm_at hi hj (by omega)
  generalize pm (d.1 105) (bF9 n F r a c) m m 0 = f at e1 m0
  obtain ⟨f', g', t1, t2⟩ := x3_turnB (d := wA d 105 f) (a1 := 105) (n1 := 25) (c0 := 106) (n0 := 25) (n := m) (p := p) (M := bF9 n F r a c) (iv := iv) (by omega) (by decide) (by decide) (by decide) (by decide) (by rw [wA_at]; exact m0) bF (by rw [wA_ne (by decide)]; exact x5) hp h31 (by decide) (by decide) (by decide) hiv (fun j h1 h2 => by rw [wA_ne (by decide)]; exact x6 j h1 h2)
  refine ⟨wA (wA (wA d 105 f) 60 f') 106 g', ?_, ?_, ?_, ?_⟩
  · rw [e1]
    unfold X0_layTrees_j75
    have e6 : (wA d 105 f).1 101 2 = m := by rw [wA_ne (by decide)]; exact y1
    rw [e6]
    have t1' : X3_turnBack 58 (101 + 4) 25 (101 + 5) 25 m (wA d 105 f) = _ := t1
    rw [bd_pos t1', gd_pos (by split <;> decide)]
  · exact (((FrB.rf 105 d).a (by omega)).a (by omega)).a (by omega)
  · rw [wA_ne (by decide), wA_ne (by decide), wA_at]; exact m0
  · intro z
    rw [wA_at]; exact t2 z
theorem x0_ll {d : DA} (h : BD9 n F R r p iv a) (hc : c < r) (hO : bOk n F R r p iv a c) (hX : BX9 d n F R r p iv w L) (hP : BP9 d n r a c) (h105 : Ms (bm9 n r a c) (d.1 105) (bF9 n F r a c)) (h106 : Ms (bm9 n r a c) (d.1 106) (bG9 n F r p iv a c).2.2) : ∃ d', X0_layLetters 101 (2 + 9) 58 a d = some ((), d') ∧ FrB 107 d d' ∧ Ms (bm9 n r a c) (d'.1 107) (b1m n R r a c) ∧ Ms (bm9 n r a c) (d'.1 108) (b2m n F R r p iv a c) ∧ Ms (bm9 n r a c) (d'.1 109) (b1b n R r iv a c) ∧ Ms (bm9 n r a c) (d'.1 110) (b2b n F R r p iv a c) := by
  have hpb : ∀ {i : Nat}, i < bm9 n r a c → 1 ≤ bRp n R r a c i ∧ bRp n R r a c i < p := fun hi => bRp_b h hO hi
  have hcb : ∀ {i : Nat}, i < bm9 n r a c → 1 ≤ bRc n R r a c i ∧ bRc n R r a c i < p := fun hi => bRc_b h hO hi
  have bF := bF9_b h hc hO.2.1
  have bG := bG9_b h hc hO.2.1
  obtain ⟨hT, h3, ⟨hp, h31⟩, hiv, ha, hF, hR⟩ := h
  obtain ⟨x1, x2, x3, x4, x5, x6, x7, x8, x9⟩ := hX
  obtain ⟨y1, y2, y3⟩ := hP
  have hp0 : 0 < p := by omega
  have hm := bm9_le (n := n) (r := r) (a := a) (c := c)
  unfold b2m b2b
  generalize hm9 : bm9 n r a c = m at *
  have kp : ∀ i, i < m → pk9 (ptB n a c) r i < r := fun i hi => (pk9_ok (P := ptB n a c) (m := r) (i := i) (by show i < bm9 n r a c; rw [hm9]; exact hi)).1
  have kc : ∀ i, i < m → pk9 (pcB n a c) r i < r := fun i hi => (pk9_ok (P := pcB n a c) (m := r) (i := i) (by rw [y3]; exact hi)).1
  -- one and its back
  have e1 : X0_layLetters 101 (2 + 9) 58 a d = X0_layLetters_j110 101 (2 + 9) 58 a (wA (wA d 107 (pm (d.1 107) (b1m n R r a c) m m 0)) 109 (pm (d.1 109) (b1b n R r iv a c) m m 0)) := by
    unfold X0_layLetters
    refine lpE_sq2 (bi := fun (i : Nat) q => X0_layLetters_b34 101 (2 + 9) 58 a i (bRp n R r a c i) q.1 q.2) 107 109 m (b1m n R r a c) (b1b n R r iv a c) (by decide) (by omega) (fun i hi f g => ?_) (fun f g => ?_) (fun i j hi hj f g => ?_) (fun i hi f g => ?_)
    · show X0_layLetters_b3 101 (2 + 9) 58 a (i : Int) (wA (wA d 107 f) 109 g) = _
      have e6 : (wA (wA d 107 f) 109 g).1 101 2 = m := by rw [wA_ne (by decide), wA_ne (by decide)]; exact y1
      have q1 : (wA (wA d 107 f) 109 g).1 (101 + 2) i = (pk9 (ptB n a c) r i : Int) := by
        show (wA (wA d 107 f) 109 g).1 103 i = _
        rw [wA_ne (by decide), wA_ne (by decide)]; exact (y2 i hi).1
      have k1 := kp i hi
      have l27 : thr a a (pk9 (ptB n a c) r i) < 27 := by unfold thr; omega
      have q3 : (wA (wA d 107 f) 109 g).1 ((2 + 9) + 2) (thr a a (pk9 (ptB n a c) r i)) = bRp n R r a c i := by
        show (wA (wA d 107 f) 109 g).1 13 _ = _
        rw [wA_ne (by decide), wA_ne (by decide), x4]; rfl
      unfold X0_layLetters_b3
      rw [e6, gd_pos (by omega), if_neg (by omega), gd_pos (by omega), Int.toNat_natCast, q1, b1_pos (x9_swp (by omega) (by omega) (by omega)), gd_pos (by omega), Int.toNat_natCast, q3, lt_pos]
    · show X0_layLetters_b3 101 (2 + 9) 58 a (m : Int) (wA (wA d 107 f) 109 g) = _
      have e6 : (wA (wA d 107 f) 109 g).1 101 2 = m := by rw [wA_ne (by decide), wA_ne (by decide)]; exact y1
      unfold X0_layLetters_b3
      rw [e6, gd_pos (by omega), if_pos (by omega)]
    · show X0_layLetters_b34 101 (2 + 9) 58 a i (bRp n R r a c i) (j : Int) (wA (wA d 107 f) 109 g) = _
      have e6 : (wA (wA d 107 f) 109 g).1 101 2 = m := by rw [wA_ne (by decide), wA_ne (by decide)]; exact y1
      have ei : (5 * (i : Int) + (j : Int)).toNat = 5 * i + j := by omega
      have vb := hpb hi
      obtain ⟨vn, hvn⟩ : ∃ vn : Nat, bRp n R r a c i = vn := ⟨(bRp n R r a c i).toNat, by omega⟩
      unfold X0_layLetters_b34
      rw [e6, gd_pos (by omega), if_neg (by omega), gd_pos (by omega)]
      unfold X0_layLetters_j67_34
      by_cases e : i = j
      · subst e
        have g59 : (wI (wA (wA d 107 f) 109 g) (101 + 6) (5 * i + i) (bRp n R r a c i)).1 (58 + 1) vn = iv (bRp n R r a c i) := by
          show (wI (wA (wA d 107 f) 109 g) 107 (5 * i + i) (bRp n R r a c i)).1 59 vn = _
          rw [wI_ne (by decide), wA_ne (by decide), wA_ne (by decide), hvn]
          exact x6 vn (by omega) (by omega)
        rw [if_pos rfl, gd_pos (by omega), lt_pos, gd_pos (by omega), if_pos rfl, gd_pos (by omega), gd_pos (by omega), lt_pos, ei]
        have : (bRp n R r a c i).toNat = vn := by omega
        rw [this, g59]
        unfold b1m b1b dg9m
        rw [if_pos rfl, if_pos rfl]
      · rw [if_neg (by omega), gd_pos (by omega), lt_pos, gd_pos (by omega), if_neg (by omega), gd_pos (by omega), lt_pos, ei]
        unfold b1m b1b dg9m
        rw [if_neg e, if_neg e]
    · show X0_layLetters_b34 101 (2 + 9) 58 a i (bRp n R r a c i) (m : Int) (wA (wA d 107 f) 109 g) = _
      have e6 : (wA (wA d 107 f) 109 g).1 101 2 = m := by rw [wA_ne (by decide), wA_ne (by decide)]; exact y1
      unfold X0_layLetters_b34
      rw [e6, gd_pos (by omega), if_pos (by omega)]
  have m1 : Ms m (pm (d.1 107) (b1m n R r a c) m m 0) (b1m n R r a c) := fun i j hi hj => pm_at hi hj (by omega)
  have m2 : Ms m (pm (d.1 109) (b1b n R r iv a c) m m 0) (b1b n R r iv a c) := fun i j hi hj => pm_at hi hj (by omega)
  generalize pm (d.1 107) (b1m n R r a c) m m 0 = f1 at e1 m1
  generalize pm (d.1 109) (b1b n R r iv a c) m m 0 = f2 at e1 m2
  generalize hd1 : wA (wA d 107 f1) 109 f2 = d1 at e1
  have o1 : ∀ q, q ≠ 107 → q ≠ 109 → d1.1 q = d.1 q := fun q z1 z2 => by rw [← hd1, wA_ne z2, wA_ne z1]
  have fr1 : FrB 107 d d1 := by rw [← hd1]; exact ((FrB.rf 107 d).a (by omega)).a (by omega)
  -- trees by swaps
  have e2 : X0_layLetters_j110 101 (2 + 9) 58 a d1 = X0_layLetters_j232 101 (2 + 9) 58 (wA (wA d1 111 (pm (d1.1 111) (st9m p (bF9 n F r a c) (bRc n R r a c)) m m 0)) 112 (pm (d1.1 112) (st9m p (bF9 n F r a c) (fun j => iv (bRc n R r a c j))) m m 0)) := by
    unfold X0_layLetters_j110
    refine lpE_sq2 (bi := fun (i : Nat) q => X0_layLetters_b125 101 (2 + 9) 58 a i q.1 q.2) 111 112 m (st9m p (bF9 n F r a c) (bRc n R r a c)) (st9m p (bF9 n F r a c) (fun j => iv (bRc n R r a c j))) (by decide) (by omega) (fun i hi f g => ?_) (fun f g => ?_) (fun i j hi hj f g => ?_) (fun i hi f g => ?_)
    · show X0_layLetters_b113 101 (2 + 9) 58 a (i : Int) (wA (wA d1 111 f) 112 g) = _
      have e6 : (wA (wA d1 111 f) 112 g).1 101 2 = m := by rw [wA_ne (by decide), wA_ne (by decide), o1 101 (by decide) (by decide)]; exact y1
      unfold X0_layLetters_b113
      rw [e6, gd_pos (by omega), if_neg (by omega)]
    · show X0_layLetters_b113 101 (2 + 9) 58 a (m : Int) (wA (wA d1 111 f) 112 g) = _
      have e6 : (wA (wA d1 111 f) 112 g).1 101 2 = m := by rw [wA_ne (by decide), wA_ne (by decide), o1 101 (by decide) (by decide)]; exact y1
      unfold X0_layLetters_b113
      rw [e6, gd_pos (by omega), if_pos (by omega)]
    · show X0_layLetters_b125 101 (2 + 9) 58 a i (j : Int) (wA (wA d1 111 f) 112 g) = _
      generalize hE : wA (wA d1 111 f) 112 g = E
      have Eo : ∀ q, q ≠ 107 → q ≠ 109 → q ≠ 111 → q ≠ 112 → E.1 q = d.1 q := fun q z1 z2 z3 z4 => by rw [← hE, wA_ne z4, wA_ne z3, o1 q z1 z2]
      have e6 : E.1 101 2 = m := by rw [Eo 101 (by decide) (by decide) (by decide) (by decide)]; exact y1
      have ei : (5 * (i : Int) + (j : Int)).toNat = 5 * i + j := by omega
      have q1 : E.1 (101 + 3) j = (pk9 (pcB n a c) r j : Int) := by
        show E.1 104 j = _
        rw [Eo 104 (by decide) (by decide) (by decide) (by decide)]; exact (y2 j hj).2
      have k1 := kc j hj
      have l27 : thr a a (pk9 (pcB n a c) r j) < 27 := by unfold thr; omega
      have q3 : E.1 ((2 + 9) + 2) (thr a a (pk9 (pcB n a c) r j)) = bRc n R r a c j := by
        show E.1 13 _ = _
        rw [Eo 13 (by decide) (by decide) (by decide) (by decide), x4]; rfl
      have vb := hcb hj
      obtain ⟨vn, hvn⟩ : ∃ vn : Nat, bRc n R r a c j = vn := ⟨(bRc n R r a c j).toNat, by omega⟩
      have fb := bF i j hi hj
      have q4 : E.1 (101 + 4) (5 * i + j) = bF9 n F r a c i j := by
        show E.1 105 _ = _
        rw [Eo 105 (by decide) (by decide) (by decide) (by decide)]; exact h105 i j hi hj
      have mb := mlb9 (u := 30) (v := 30) (show 0 ≤ bF9 n F r a c i j ∧ bF9 n F r a c i j ≤ 30 by omega) (show 0 ≤ bRc n R r a c j ∧ bRc n R r a c j ≤ 30 by omega)
      have ivb := (hiv _ vb.1 vb.2).1
      have mb2 := mlb9 (u := 30) (v := 30) (show 0 ≤ bF9 n F r a c i j ∧ bF9 n F r a c i j ≤ 30 by omega) (show 0 ≤ iv (bRc n R r a c j) ∧ iv (bRc n R r a c j) ≤ 30 by omega)
      have p58 : E.1 58 0 = p := by rw [Eo 58 (by decide) (by decide) (by decide) (by decide)]; exact x5
      have er : X3_reduce 58 (bF9 n F r a c i j * bRc n R r a c j) E = some (st9m p (bF9 n F r a c) (bRc n R r a c) i j) := x3_reduce p58 hp h31 (by omega) (by omega)
      unfold X0_layLetters_b125
      rw [e6, gd_pos (by omega), if_neg (by omega), gd_pos (by omega), Int.toNat_natCast, q1, b1_pos (x9_swp (by omega) (by omega) (by omega)), gd_pos (by omega), Int.toNat_natCast, q3, lt_pos, gd_pos (by omega), ei, q4, b1_pos er, gd_pos (by omega), lt_pos, gd_pos (by omega), gd_pos (by omega)]
      generalize hE2 : wI E (101 + 10) (5 * i + j) (st9m p (bF9 n F r a c) (bRc n R r a c) i j) = E2
      have r4 : E2.1 (101 + 4) (5 * i + j) = bF9 n F r a c i j := by rw [← hE2, wI_ne (by decide)]; exact q4
      have r59 : E2.1 (58 + 1) (bRc n R r a c j).toNat = iv (bRc n R r a c j) := by
        rw [hvn, Int.toNat_natCast, ← hE2, wI_ne (by decide)]
        show E.1 59 vn = _
        rw [Eo 59 (by decide) (by decide) (by decide) (by decide)]
        exact x6 vn (by omega) (by omega)
      have r58 : E2.1 58 0 = p := by rw [← hE2, wI_ne (by decide)]; exact p58
      have er2 : X3_reduce 58 (bF9 n F r a c i j * iv (bRc n R r a c j)) E2 = some (st9m p (bF9 n F r a c) (fun j => iv (bRc n R r a c j)) i j) := x3_reduce r58 hp h31 (by omega) (by omega)
      rw [r4, r59, b1_pos er2, gd_pos (by omega), lt_pos, ← hE2]
    · show X0_layLetters_b125 101 (2 + 9) 58 a i (m : Int) (wA (wA d1 111 f) 112 g) = _
      have e6 : (wA (wA d1 111 f) 112 g).1 101 2 = m := by rw [wA_ne (by decide), wA_ne (by decide), o1 101 (by decide) (by decide)]; exact y1
      unfold X0_layLetters_b125
      rw [e6, gd_pos (by omega), if_pos (by omega)]
  have m3 : Ms m (pm (d1.1 111) (st9m p (bF9 n F r a c) (bRc n R r a c)) m m 0) (st9m p (bF9 n F r a c) (bRc n R r a c)) := fun i j hi hj => pm_at hi hj (by omega)
  have m4 : Ms m (pm (d1.1 112) (st9m p (bF9 n F r a c) (fun j => iv (bRc n R r a c j))) m m 0) (st9m p (bF9 n F r a c) (fun j => iv (bRc n R r a c j))) := fun i j hi hj => pm_at hi hj (by omega)
  generalize pm (d1.1 111) (st9m p (bF9 n F r a c) (bRc n R r a c)) m m 0 = f3 at e2 m3
  generalize pm (d1.1 112) (st9m p (bF9 n F r a c) (fun j => iv (bRc n R r a c j))) m m 0 = f4 at e2 m4
  generalize hd2 : wA (wA d1 111 f3) 112 f4 = d2 at e2
  have o2 : ∀ q, q ≠ 107 → q ≠ 109 → q ≠ 111 → q ≠ 112 → d2.1 q = d.1 q := fun q z1 z2 z3 z4 => by rw [← hd2, wA_ne z4, wA_ne z3, o1 q z1 z2]
  have fr2 : FrB 107 d d2 := by rw [← hd2]; exact (fr1.a (by omega)).a (by omega)
  have bS : ∀ v, Mb p m (st9m p (bF9 n F r a c) v) := fun v _ _ _ _ => em_bd hp0 _
  obtain ⟨g1, k1, k2⟩ := x3_mul (d := d2) (a1 := 111) (n1 := 25) (a2 := 106) (n2 := 25) (a4 := 108) (n4 := 25) (r := m) (p := p) (A := st9m p (bF9 n F r a c) (bRc n R r a c)) (B := (bG9 n F r p iv a c).2.2) (by omega) (by decide) (by decide) (by decide) (by rw [← hd2, wA_ne (by decide), wA_at]; exact m3) (by rw [o2 106 (by decide) (by decide) (by decide) (by decide)]; exact h106) (bS _) bG (by rw [o2 58 (by decide) (by decide) (by decide) (by decide)]; exact x5) hp h31 (by decide) (by decide) (by decide)
  obtain ⟨g2, k3, k4⟩ := x3_mul (d := wA d2 108 g1) (a1 := 112) (n1 := 25) (a2 := 106) (n2 := 25) (a4 := 110) (n4 := 25) (r := m) (p := p) (A := st9m p (bF9 n F r a c) (fun j => iv (bRc n R r a c j))) (B := (bG9 n F r p iv a c).2.2) (by omega) (by decide) (by decide) (by decide) (by rw [wA_ne (by decide), ← hd2, wA_at]; exact m4) (by rw [wA_ne (by decide), o2 106 (by decide) (by decide) (by decide) (by decide)]; exact h106) (bS _) bG (by rw [wA_ne (by decide), o2 58 (by decide) (by decide) (by decide) (by decide)]; exact x5) hp h31 (by decide) (by decide) (by decide)
  refine ⟨wA (wA d2 108 g1) 110 g2, ?_, (fr2.a (by omega)).a (by omega), ?_, ?_, ?_, ?_⟩
  · rw [e1, e2]
    unfold X0_layLetters_j232
    have e6 : d2.1 101 2 = m := by rw [o2 101 (by decide) (by decide) (by decide) (by decide)]; exact y1
    have e7 : (wA d2 108 g1).1 101 2 = m := by rw [wA_ne (by decide)]; exact e6
    have k1' : X3_multiply 58 (101 + 10) 25 (101 + 5) 25 (101 + 7) 25 m d2 = some ((), wA d2 108 g1) := k1
    have k3' : X3_multiply 58 (101 + 11) 25 (101 + 5) 25 (101 + 9) 25 m (wA d2 108 g1) = some ((), wA (wA d2 108 g1) 110 g2) := k3
    rw [e6, bd_pos k1', e7, bd_pos k3']
  · rw [wA_ne (by decide), wA_ne (by decide), ← hd2, wA_ne (by decide), wA_ne (by decide), ← hd1, wA_ne (by decide), wA_at]; exact m1
  · rw [wA_ne (by decide), wA_at]; exact k2
  · rw [wA_ne (by decide), wA_ne (by decide), ← hd2, wA_ne (by decide), wA_ne (by decide), ← hd1, wA_at]; exact m2
  · rw [wA_at]; exact k4
end

/-! ===== laws of S: the reference's other two ===== -/
theorem st_mm {p r : Nat} {A S : Mx} {t : Nat → Int} (hp : 0 < p) (i j : Nat) : st9m p (mm9 p r A S) t i j = mm9 p r A (st9m p S t) i j := by
  unfold st9m mm9
  refine (em_iff hp).mpr ?_
  refine ((cgm.em _).mul (cgm.rf _)).tr ?_
  rw [← smR]
  refine cgm.sm9 r (fun k hk => ?_)
  rw [Int.mul_assoc]
  exact (cgm.rf _).mul (cgm.em _).sy
theorem x12_scl {E : DA} {n c t : Nat → Int} {r p tm : Nat} {A : Mx} (h5 : r ≤ 5) (hR : RD9 E n c t r p) (h2 : 2 ≤ p) (h31 : p ≤ 31) (tb : Tb p r t) (hA : Ms r (E.1 145) A) (bA : Mb p r A) : ∃ f, (∀ {Y : Type} (k : DA → Option Y), lpE (fun q => X12_isCubeOfST_b91 113 tm q.1 q.2) (0, E) k = k (wA E 145 f)) ∧ Ms r f (st9m p A t) := by
  refine ⟨_, fun {Y} k => lpE_sq (bi := fun (i : Nat) q => X12_isCubeOfST_b101 113 tm i q.1 q.2) 145 r (st9m p A t) h5 (fun i hi f => ?_) (fun f => ?_) (fun i j hi hj f hf => ?_) (fun i hi f => ?_), fun i j hi hj => pm_at hi hj h5⟩
  · show X12_isCubeOfST_b91 113 tm (i : Int) (wA E 145 f) = _
    have e1 : (wA E 145 f).1 113 1 = r := by rw [wA_ne (by decide)]; exact hR.2.1
    unfold X12_isCubeOfST_b91
    rw [e1, gd_pos (by omega), if_neg (by omega)]
  · show X12_isCubeOfST_b91 113 tm (r : Int) (wA E 145 f) = _
    have e1 : (wA E 145 f).1 113 1 = r := by rw [wA_ne (by decide)]; exact hR.2.1
    unfold X12_isCubeOfST_b91
    rw [e1, gd_pos (by omega), if_pos (by omega)]
  · show X12_isCubeOfST_b101 113 tm i (j : Int) (wA E 145 f) = _
    have e1 : (wA E 145 f).1 113 1 = r := by rw [wA_ne (by decide)]; exact hR.2.1
    have e4 : (wA E 145 f).1 113 4 = p := by rw [wA_ne (by decide)]; exact hR.2.2.1
    have ei : ((5 * (i : Int)) + (j : Int)).toNat = 5 * i + j := by omega
    have q1 : (wA E 145 f).1 (113 + 32) (5 * i + j) = A i j := by
      show (wA E 145 f).1 145 _ = _
      rw [wA_at, hf, pm_un (by omega)]; exact hA i j hi hj
    have q2 : (wA E 145 f).1 (113 + 6) j = t j := by
      show (wA E 145 f).1 119 _ = _
      rw [wA_ne (by decide)]; exact hR.2.2.2.2 j hj
    have b1 := bA i j hi hj
    have b2 := tb j hj
    have mb := mlb9 (u := 30) (v := 30) (show 0 ≤ A i j ∧ A i j ≤ 30 by omega) (show 0 ≤ t j ∧ t j ≤ 30 by omega)
    unfold X12_isCubeOfST_b101
    rw [e1, gd_pos (by omega), if_neg (by omega), gd_pos (by omega), gd_pos (by omega), ei, Int.toNat_natCast, q1, q2, e4, gd_pos (by unfold dvg; omega), gd_pos (by omega), lt_pos, tm_em mb.1]
    rfl
  · show X12_isCubeOfST_b101 113 tm i (r : Int) (wA E 145 f) = _
    have e1 : (wA E 145 f).1 113 1 = r := by rw [wA_ne (by decide)]; exact hR.2.1
    unfold X12_isCubeOfST_b101
    rw [e1, gd_pos (by omega), if_pos (by omega)]
theorem Ms.eqv {r : Nat} {f : Nat → Int} {M M' : Mx} (h : Ms r f M) (e : ∀ i j, i < r → j < r → M i j = M' i j) : Ms r f M' := fun i j hi hj => by rw [h i j hi hj, e i j hi hj]
/-- the squares that come by turns -/
def cb9 (p r : Nat) (S : Mx) (t : Nat → Int) : Nat → Mx
  | 0 => S
  | 1 => mm9 p r (st9m p S t) S
  | 2 => mm9 p r (mm9 p r (st9m p S t) (st9m p S t)) S
  | _ => mm9 p r (mm9 p r (st9m p S t) (st9m p S t)) (st9m p S t)
theorem x12_cube {d : DA} {n c t : Nat → Int} {r p : Nat} {S : Mx} (hT : TG n r) (hR : RD9 d n c t r p) (h2 : 2 ≤ p) (h31 : p ≤ 31) (hb : Cb p r c) (tb : Tb p r t) (hS : Ms r (d.1 143) S) (bS : Mb p r S) : ∃ E v, X12_isCubeOfST 113 d = some (v, E) ∧ E.2 = d.2 ∧ (∀ q, q ≠ 138 → q ≠ 144 → q ≠ 145 → E.1 q = d.1 q) ∧ (L3 p r (Pq9 p r c t) S (mm9 p r S S) t → v = 1) ∧ (¬ L3 p r (Pq9 p r c t) S (mm9 p r S S) t → v = 0) := by
  have h5 := hT.1.2
  have hp0 : 0 < p := by omega
  have bT : Mb p r (st9m p S t) := fun _ _ _ _ => em_bd hp0 _
  have e1 : X12_isCubeOfST 113 d = X12_isCubeOfST_j26 113 (wA d 145 (pre (d.1 145) (d.1 143) 25)) := by
    unfold X12_isCubeOfST
    refine lpE_row (d := d) 145 25 (d.1 143) (by omega) (fun i hi => ?_) ?_
    · show X12_isCubeOfST_b2 113 (i : Int) _ = _
      unfold X12_isCubeOfST_b2
      have q : (wA d 145 (pre (d.1 145) (d.1 143) i)).1 (113 + 30) = d.1 143 := wA_ne (by decide)
      rw [gd_pos (by omega), if_neg (by omega), gd_pos (by omega), gd_pos (by omega), lt_pos, Int.toNat_natCast, q]
    · show X12_isCubeOfST_b2 113 ((25 : Nat) : Int) _ = _
      unfold X12_isCubeOfST_b2
      rw [gd_pos (by omega), if_pos (by omega)]
  generalize hf : pre (d.1 145) (d.1 143) 25 = f at e1
  have m0 : Ms r f S := by rw [← hf]; exact hS.cp h5
  have hR1 : RD9 (wA d 145 f) n c t r p := hR.w (by omega)
  obtain ⟨g, g1, g2⟩ := x12_mul (d := wA d 145 f) h5 hR1 h2 h31 (by rw [wA_at]; exact m0) (by rw [wA_ne (by decide)]; exact hS) bS bS
  generalize hd2 : wA (wA d 145 f) 144 g = d2 at g1
  have o2 : ∀ q, q ≠ 144 → q ≠ 145 → d2.1 q = d.1 q := fun q z1 z2 => by rw [← hd2, wA_ne z1, wA_ne z2]
  have a2 : d2.1 144 = g := by rw [← hd2, wA_at]
  have hR2 : RD9 d2 n c t r p := by rw [← hd2]; exact hR1.w (by omega)
  have e2 : X12_isCubeOfST_j26 113 (wA d 145 f) = X12_isCubeOfST_j56 113 (wA d2 138 (pre (d2.1 138) (d2.1 144) 25)) := by
    unfold X12_isCubeOfST_j26
    rw [bd_pos g1]
    refine lpE_row (d := d2) 138 25 (d2.1 144) (by omega) (fun i hi => ?_) ?_
    · show X12_isCubeOfST_b32 113 (i : Int) _ = _
      unfold X12_isCubeOfST_b32
      have q : (wA d2 138 (pre (d2.1 138) (d2.1 144) i)).1 (113 + 31) = d2.1 144 := wA_ne (by decide)
      rw [gd_pos (by omega), if_neg (by omega), gd_pos (by omega), gd_pos (by omega), lt_pos, Int.toNat_natCast, q]
    · show X12_isCubeOfST_b32 113 ((25 : Nat) : Int) _ = _
      unfold X12_isCubeOfST_b32
      rw [gd_pos (by omega), if_pos (by omega)]
  generalize hl : pre (d2.1 138) (d2.1 144) 25 = l at e2
  have ml : Ms r l (mm9 p r S S) := by rw [← hl, a2]; exact g2.cp h5
  generalize hd3 : wA d2 138 l = d3 at e2
  have o3 : ∀ q, q ≠ 138 → q ≠ 144 → q ≠ 145 → d3.1 q = d.1 q := fun q z0 z1 z2 => by rw [← hd3, wA_ne z0]; exact o2 q z1 z2
  have a3 : d3.1 138 = l := by rw [← hd3, wA_at]
  have hR3 : RD9 d3 n c t r p := by rw [← hd3]; exact hR2.w (by omega)
  have e3 : X12_isCubeOfST_j56 113 d3 = X12_isCubeOfST_j82 113 (wA d3 145 (pre (d3.1 145) (d3.1 143) 25)) := by
    unfold X12_isCubeOfST_j56
    refine lpE_row (d := d3) 145 25 (d3.1 143) (by omega) (fun i hi => ?_) ?_
    · show X12_isCubeOfST_b58 113 (i : Int) _ = _
      unfold X12_isCubeOfST_b58
      have q : (wA d3 145 (pre (d3.1 145) (d3.1 143) i)).1 (113 + 30) = d3.1 143 := wA_ne (by decide)
      rw [gd_pos (by omega), if_neg (by omega), gd_pos (by omega), gd_pos (by omega), lt_pos, Int.toNat_natCast, q]
    · show X12_isCubeOfST_b58 113 ((25 : Nat) : Int) _ = _
      unfold X12_isCubeOfST_b58
      rw [gd_pos (by omega), if_pos (by omega)]
  have m143 : d3.1 143 = d.1 143 := o3 143 (by decide) (by decide) (by decide)
  have mf : Ms r (pre (d3.1 145) (d3.1 143) 25) S := by rw [m143]; exact hS.cp h5
  generalize pre (d3.1 145) (d3.1 143) 25 = f3 at e3 mf
  -- three times
  obtain ⟨E, k1, kR, k2, k2b, k3, k4⟩ := lev9i (b := fun q => X12_isCubeOfST_b84 113 q.1 q.2) (P := fun m E => RD9 E n c t r p ∧ E.2 = d.2 ∧ (∀ q, q ≠ 138 → q ≠ 144 → q ≠ 145 → E.1 q = d.1 q) ∧ E.1 138 = l ∧ Ms r (E.1 145) (cb9 p r S t m)) (r := 3) (by omega) (fun m E hm hP => by
    obtain ⟨p1, p2, p3, p4, p5⟩ := hP
    have bA : Mb p r (cb9 p r S t m) := by
      rcases (show m = 0 ∨ m = 1 ∨ m = 2 by omega) with rfl | rfl | rfl
      · exact bS
      · exact mm9_b hp0
      · exact mm9_b hp0
    obtain ⟨f, s1, s2⟩ := x12_scl (tm := m) h5 p1 h2 h31 tb p5 bA
    have p1' : RD9 (wA E 145 f) n c t r p := p1.w (by omega)
    by_cases c2 : m = 2
    · subst c2
      refine ⟨wA E 145 f, ?_, p1', p2, fun q z0 z1 z2 => by rw [wA_ne z2]; exact p3 q z0 z1 z2, by rw [wA_ne (by decide)]; exact p4, ?_⟩
      · show X12_isCubeOfST_b84 113 ((2 : Nat) : Int) E = _
        unfold X12_isCubeOfST_b84
        rw [gd_pos (by omega), if_neg (by omega), s1]
        unfold X12_isCubeOfST_j153_84
        rw [gd_pos (by omega), if_pos (by decide)]
      · rw [wA_at]
        exact s2.eqv (fun i j _ _ => st_mm hp0 i j)
    · -- what the scaling gave
      have sB : Ms r f (if m = 0 then st9m p S t else mm9 p r (st9m p S t) (st9m p S t)) := by
        rcases (show m = 0 ∨ m = 1 by omega) with rfl | rfl
        · exact s2
        · exact s2.eqv (fun i j _ _ => st_mm hp0 i j)
      have bB : Mb p r (if m = 0 then st9m p S t else mm9 p r (st9m p S t) (st9m p S t)) := by
        split
        · exact bT
        · exact mm9_b hp0
      obtain ⟨g, t1, t2⟩ := x12_mul (d := wA E 145 f) (A := if m = 0 then st9m p S t else mm9 p r (st9m p S t) (st9m p S t)) (S := S) h5 p1' h2 h31 (by rw [wA_at]; exact sB) (by rw [wA_ne (by decide), p3 143 (by decide) (by decide) (by decide)]; exact hS) bB bS
      generalize hG : wA (wA E 145 f) 144 g = G at t1
      have oG : ∀ q, q ≠ 144 → q ≠ 145 → G.1 q = E.1 q := fun q z1 z2 => by rw [← hG, wA_ne z1, wA_ne z2]
      have aG : G.1 144 = g := by rw [← hG, wA_at]
      have cp : ∀ {Y : Type} (k : DA → Option Y), lpE (fun q => X12_isCubeOfST_b167 113 m q.1 q.2) (0, G) k = k (wA G 145 (pre (G.1 145) (G.1 144) 25)) := fun {Y} k => by
        refine lpE_row (d := G) 145 25 (G.1 144) (by omega) (fun i hi => ?_) ?_
        · show X12_isCubeOfST_b167 113 m (i : Int) _ = _
          unfold X12_isCubeOfST_b167
          have q : (wA G 145 (pre (G.1 145) (G.1 144) i)).1 (113 + 31) = G.1 144 := wA_ne (by decide)
          rw [gd_pos (by omega), if_neg (by omega), gd_pos (by omega), gd_pos (by omega), lt_pos, Int.toNat_natCast, q]
        · show X12_isCubeOfST_b167 113 m ((25 : Nat) : Int) _ = _
          unfold X12_isCubeOfST_b167
          rw [gd_pos (by omega), if_pos (by omega)]
      refine ⟨wA G 145 (pre (G.1 145) (G.1 144) 25), ?_, ?_, ?_, fun q z0 z1 z2 => by rw [wA_ne z2, oG q z1 z2]; exact p3 q z0 z1 z2, by rw [wA_ne (by decide), oG 138 (by decide) (by decide)]; exact p4, ?_⟩
      · show X12_isCubeOfST_b84 113 (m : Int) E = _
        unfold X12_isCubeOfST_b84
        rw [gd_pos (by omega), if_neg (by omega), s1]
        unfold X12_isCubeOfST_j153_84
        rw [gd_pos (by omega), if_neg (by omega), bd_pos t1, cp]
      · rw [← hG]; exact (p1'.w (by omega)).w (by omega)
      · rw [← hG]; exact p2
      · rw [wA_at, aG]
        refine (t2.cp h5).eqv (fun i j _ _ => ?_)
        rcases (show m = 0 ∨ m = 1 by omega) with rfl | rfl
        · rfl
        · rfl) (fun E hP => by
    show X12_isCubeOfST_b84 113 ((3 : Nat) : Int) E = _
    unfold X12_isCubeOfST_b84
    rw [gd_pos (by omega), if_pos (by decide)]) (d := wA d3 145 f3) ⟨hR3.w (by omega), by rw [← hd3, ← hd2]; rfl, fun q z0 z1 z2 => by rw [wA_ne z2]; exact o3 q z0 z1 z2, by rw [wA_ne (by decide)]; exact a3, by rw [wA_at]; exact mf⟩
  have esum : X12_sumOf 113 1 E = some (Pq9 p r c t) := x12_sum (u := true) h5 kR h2 h31 hb tb
  have E145 : ∀ i j, i < r → j < r → E.1 (113 + 32) (5 * i + j) = mm9 p r (mm9 p r (st9m p S t) (st9m p S t)) (st9m p S t) i j := fun i j hi hj => k4 i j hi hj
  have E138 : ∀ i j, i < r → j < r → E.1 (113 + 25) (5 * i + j) = mm9 p r S S i j := fun i j hi hj => by
    show E.1 138 _ = _
    rw [k3]; exact ml i j hi hj
  have Pb : 0 ≤ Pq9 p r c t ∧ Pq9 p r c t < p := em_bd hp0 _
  have e4 : X12_isCubeOfST_j82 113 (wA d3 145 f3) = (s29 ((0 : Int), E) r (fun i j => mm9 p r (mm9 p r (st9m p S t) (st9m p S t)) (st9m p S t) i j = (Pq9 p r c t * mm9 p r S S i j) % (p : Int))).elim (some (1, E)) some := by
    unfold X12_isCubeOfST_j82
    rw [k1]
    unfold X12_isCubeOfST_j197 s29
    rw [b1_pos esum]
    refine lpR_cnt r _ (by omega) (fun i hi => ?_) ?_
    · unfold X12_isCubeOfST_b205
      rw [kR.2.1, gd_pos (by omega), if_neg (by omega)]
      refine (lpR_cnt r (fun j => if mm9 p r (mm9 p r (st9m p S t) (st9m p S t)) (st9m p S t) i j = (Pq9 p r c t * mm9 p r S S i j) % (p : Int) then none else some ((0 : Int), E)) (by omega) (fun j hj => ?_) ?_).trans ?_
      · unfold X12_isCubeOfST_b215
        have ei : ((5 * (i : Int)) + (j : Int)).toNat = 5 * i + j := by omega
        have b1 := mm9_b (r := r) (A := S) (B := S) hp0 i j hi hj
        have b2 := mm9_b (r := r) (A := mm9 p r (st9m p S t) (st9m p S t)) (B := st9m p S t) hp0 i j hi hj
        have mb := mlb9 (u := 30) (v := 30) (show 0 ≤ Pq9 p r c t ∧ Pq9 p r c t ≤ 30 by omega) (show 0 ≤ mm9 p r S S i j ∧ mm9 p r S S i j ≤ 30 by omega)
        have b3 := em_bd hp0 (Pq9 p r c t * mm9 p r S S i j)
        rw [kR.2.1, gd_pos (by omega), if_neg (by omega), gd_pos (by omega), gd_pos (by omega), ei, E138 i j hi hj, E145 i j hi hj, kR.2.2.1, gd_pos (by unfold dvg; omega), tm_em mb.1, gd_pos (by omega)]
        by_cases cc : mm9 p r (mm9 p r (st9m p S t) (st9m p S t)) (st9m p S t) i j = (Pq9 p r c t * mm9 p r S S i j) % (p : Int)
        · rw [if_pos cc, if_pos cc]; rfl
        · rw [if_neg cc, if_neg cc]; rfl
      · unfold X12_isCubeOfST_b215
        rw [kR.2.1, gd_pos (by omega), if_pos (by omega)]
      · cases fs9 r (fun j => if mm9 p r (mm9 p r (st9m p S t) (st9m p S t)) (st9m p S t) i j = (Pq9 p r c t * mm9 p r S S i j) % (p : Int) then none else some ((0 : Int), E)) <;> rfl
    · unfold X12_isCubeOfST_b205
      rw [kR.2.1, gd_pos (by omega), if_pos (by omega)]
  rcases s29_c (x := ((0 : Int), E)) (r := r) (G := fun i j => mm9 p r (mm9 p r (st9m p S t) (st9m p S t)) (st9m p S t) i j = (Pq9 p r c t * mm9 p r S S i j) % (p : Int)) with ⟨a, b⟩ | ⟨a, b⟩
  · rw [a] at e4
    exact ⟨E, 1, by rw [e1, e2, e3, e4]; rfl, k2, k2b, fun _ => rfl, fun z => absurd b z⟩
  · rw [a] at e4
    exact ⟨E, 0, by rw [e1, e2, e3, e4]; rfl, k2, k2b, fun z => absurd z b, fun _ => rfl⟩

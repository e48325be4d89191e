/-! ===== braids: the reference lays its squares ===== -/
section
variable {n f F s R : Nat → Int} {r p a c : Nat} {iv : Int → Int} {w : Nat → Int} {L : Nat}
/-- the squares of the reference's letters -/
def ML9 (d : DA) (n F R : Nat → Int) (r p : Nat) (iv : Int → Int) (a c : Nat) : Prop := d.1 113 74 = (bm9 n r a c : Int) ∧ Ms (bm9 n r a c) (d.1 149) (b1m n R r a c) ∧ Ms (bm9 n r a c) (d.1 150) (b2m n F R r p iv a c)
theorem x12_tl2 {d : DA} (h : BR9 d n f F s R r p iv a w L) (hc : c < r) (hO : bOk n F R r p iv a c) (h74 : d.1 113 74 = (bm9 n r a c : Int)) (h148 : ∀ i, i < bm9 n r a c → d.1 148 i = (pk9 (ptB n a c) r i : Int)) (h153 : Ms (bm9 n r a c) (d.1 153) (bF9 n F r a c)) (h152 : Ms (bm9 n r a c) (d.1 152) (bG9 n F r p iv a c).2.2) : ∃ d', X12_tellLetters_j232 113 a c d = some (1, d') ∧ FrM d d' ∧ ML9 d' n F R r p iv a c := by
  have hpb : ∀ {i : Nat}, i < bm9 n r a c → 1 ≤ bRp n R r a c i ∧ bRp n R r a c i < p := fun hi => bRp_b h.2.2.2.2.2.2.2 hO hi
  have hcb : ∀ {i : Nat}, i < bm9 n r a c → 1 ≤ bRc n R r a c i ∧ bRc n R r a c i < p := fun hi => bRc_b h.2.2.2.2.2.2.2 hO hi
  have bF := bF9_b h.2.2.2.2.2.2.2 hc hO.2.1
  have bG := bG9_b h.2.2.2.2.2.2.2 hc hO.2.1
  obtain ⟨d1, k1, k2, k3, k4⟩ := x12_cols h hc
  have hB := h.fr k2
  have hT := h.2.2.2.2.2.2.1
  have h3 := hT.2.1
  have ha := h.2.2.2.2.2.2.2.2.2.2.2.1
  have hp := hT.2.2.1.1
  have h31 := hT.2.2.1.2
  have hp0 : 0 < p := by omega
  have hm := bm9_le (n := n) (r := r) (a := a) (c := c)
  have y3 := hO.2.1
  unfold ML9
  have e74 : d1.1 113 74 = (bm9 n r a c : Int) := by rw [k3 113 (by decide)]; exact h74
  have e148 : ∀ i, i < bm9 n r a c → d1.1 148 i = (pk9 (ptB n a c) r i : Int) := fun i hi => by rw [k3 148 (by decide)]; exact h148 i hi
  have e154 : ∀ i, i < bm9 n r a c → d1.1 154 i = (pk9 (pcB n a c) r i : Int) := fun i hi => k4 i (by rw [y3]; exact hi)
  have e153 : Ms (bm9 n r a c) (d1.1 153) (bF9 n F r a c) := by rw [k3 153 (by decide)]; exact h153
  have e152 : Ms (bm9 n r a c) (d1.1 152) (bG9 n F r p iv a c).2.2 := by rw [k3 152 (by decide)]; exact h152
  unfold b2m
  have kp : ∀ i, i < bm9 n r a c → pk9 (ptB n a c) r i < r := fun i hi => (pk9_ok (P := ptB n a c) (m := r) (i := i) hi).1
  have kc : ∀ i, i < bm9 n r a c → pk9 (pcB n a c) r i < r := fun i hi => (pk9_ok (P := pcB n a c) (m := r) (i := i) (by rw [y3]; exact hi)).1
  generalize hG9 : (bG9 n F r p iv a c).2.2 = G at *
  generalize hm9 : bm9 n r a c = m at *
  refine ⟨wA (wA d1 149 (pm (d1.1 149) (b1m n R r a c) m m 0)) 150 (pm (d1.1 150) (mm9 p m (st9m p (bF9 n F r a c) (bRc n R r a c)) G) m m 0), ?_, (k2.a (by omega)).a (by omega), ?_, ?_, ?_⟩
  · unfold X12_tellLetters_j232
    rw [bd_pos k1, gd_pos rfl]
    refine lpE_sq2 (bi := fun (i : Nat) q => X12_tellLetters_b255 113 a i q.1 q.2) 149 150 m (b1m n R r a c) (mm9 p m (st9m p (bF9 n F r a c) (bRc n R r a c)) G) (by decide) (by omega) (fun i hi f1 g1 => ?_) (fun f1 g1 => ?_) (fun i j hi hj f1 g1 => ?_) (fun i hi f1 g1 => ?_)
    · show X12_tellLetters_b243 113 a (i : Int) (wA (wA d1 149 f1) 150 g1) = _
      have e6 : (wA (wA d1 149 f1) 150 g1).1 113 74 = m := by rw [wA_ne (by decide), wA_ne (by decide)]; exact e74
      unfold X12_tellLetters_b243
      rw [e6, gd_pos (by omega), if_neg (by omega)]
    · show X12_tellLetters_b243 113 a (m : Int) (wA (wA d1 149 f1) 150 g1) = _
      have e6 : (wA (wA d1 149 f1) 150 g1).1 113 74 = m := by rw [wA_ne (by decide), wA_ne (by decide)]; exact e74
      unfold X12_tellLetters_b243
      rw [e6, gd_pos (by omega), if_pos (by omega)]
    · show X12_tellLetters_b255 113 a i (j : Int) (wA (wA d1 149 f1) 150 g1) = _
      generalize hE : wA (wA d1 149 f1) 150 g1 = E
      have Eo : ∀ q, q ≠ 149 → q ≠ 150 → E.1 q = d1.1 q := fun q z1 z2 => by rw [← hE, wA_ne z2, wA_ne z1]
      have e6 : E.1 113 74 = m := by rw [Eo 113 (by decide) (by decide)]; exact e74
      have ei : (5 * (i : Int) + (j : Int)).toNat = 5 * i + j := by omega
      have vb := hpb hi
      have q1 : E.1 (113 + 35) i = (pk9 (ptB n a c) r i : Int) := by show E.1 148 i = _; rw [Eo 148 (by decide) (by decide)]; exact e148 i hi
      have os := x12_swap9 (d := E) hT (by rw [Eo 114 (by decide) (by decide)]; exact hB.1) (by rw [Eo 118 (by decide) (by decide)]; exact hB.2.2.1) ha ha (kp i hi)
      have tail : ∀ s2 : Int, s2 = b1m n R r a c i j → X12_tellLetters_j299_255 113 a i j (5 * (i : Int) + (j : Int)) s2 E = some (.inl ((j : Int) + 1, wI (wI E 149 (5 * i + j) (b1m n R r a c i j)) 150 (5 * i + j) (mm9 p m (st9m p (bF9 n F r a c) (bRc n R r a c)) G i j))) := fun s2 hs2 => by
        unfold X12_tellLetters_j299_255
        rw [gd_pos (by omega), lt_pos, ei, hs2]
        generalize hE2 : wI E (113 + 36) (5 * i + j) (b1m n R r a c i j) = E2
        have E2o : ∀ q, q ≠ 149 → q ≠ 150 → E2.1 q = d1.1 q := fun q z1 z2 => by rw [← hE2, wI_ne z1, Eo q z1 z2]
        have r6 : E2.1 113 74 = m := by rw [E2o 113 (by decide) (by decide)]; exact e74
        have r4 : E2.1 113 4 = p := by rw [E2o 113 (by decide) (by decide)]; exact hB.2.2.2.2.1
        have sb := mm_bd (p := p) (r := m) (A := st9m p (bF9 n F r a c) (bRc n R r a c)) (B := G) (i := i) (j := j) (by omega) h31 (fun _ _ _ _ => em_bd hp0 _) bG hi hj
        refine (lpS9 (r := m) (fun k => st9m p (bF9 n F r a c) (bRc n R r a c) i k * G k j) (by omega) (fun k hk => ?_) ?_).trans ?_
        · show X12_tellLetters_b306 113 a i j (sm k _) (k : Int) E2 = _
          have z1 : ((5 * (i : Int)) + (k : Int)).toNat = 5 * i + k := by omega
          have z2 : ((5 * (k : Int)) + (j : Int)).toNat = 5 * k + j := by omega
          have t1 : E2.1 (113 + 40) (5 * i + k) = bF9 n F r a c i k := by show E2.1 153 _ = _; rw [E2o 153 (by decide) (by decide)]; exact e153 i k hi hk
          have t2 : E2.1 (113 + 39) (5 * k + j) = G k j := by show E2.1 152 _ = _; rw [E2o 152 (by decide) (by decide)]; exact e152 k j hk hj
          have t3 : E2.1 (113 + 41) k = (pk9 (pcB n a c) r k : Int) := by show E2.1 154 _ = _; rw [E2o 154 (by decide) (by decide)]; exact e154 k hk
          have os2 := x12_swap9 (d := E2) hT (by rw [E2o 114 (by decide) (by decide)]; exact hB.1) (by rw [E2o 118 (by decide) (by decide)]; exact hB.2.2.1) ha ha (kc k hk)
          have os3 : X12_swapOf 113 a a (pk9 (pcB n a c) r k) E2 = some (bRc n R r a c k) := os2
          have fb := bF i k hi hk
          have cb := hcb hk
          have mb := mlb9 (u := 30) (v := 30) (show 0 ≤ bF9 n F r a c i k ∧ bF9 n F r a c i k ≤ 30 by omega) (show 0 ≤ bRc n R r a c k ∧ bRc n R r a c k ≤ 30 by omega)
          unfold X12_tellLetters_b306
          rw [r6, gd_pos (by omega), if_neg (by omega), gd_pos (by omega), gd_pos (by omega), Int.toNat_natCast, t3, b1_pos os3, z1, t1, r4, gd_pos (by unfold dvg; omega), gd_pos (by omega), lt_pos, z2, t2, tm_em mb.1]
          rfl
        · show X12_tellLetters_b306 113 a i j (sm m _) (m : Int) E2 = _
          unfold X12_tellLetters_b306
          rw [r6, gd_pos (by omega), if_pos (by omega)]
        · show X12_tellLetters_j368_255 113 a i j (sm m fun k => st9m p (bF9 n F r a c) (bRc n R r a c) i k * G k j) E2 = _
          unfold X12_tellLetters_j368_255
          rw [r4, gd_pos (by unfold dvg; omega), gd_pos (by omega), lt_pos, ei, tm_em sb.1, ← hE2]
          rfl
      unfold X12_tellLetters_b255
      rw [e6, gd_pos (by omega), if_neg (by omega), gd_pos (by omega)]
      by_cases e : i = j
      · rw [if_pos (by omega), gd_pos (by omega), Int.toNat_natCast, q1, b1_pos os]
        exact tail _ (by unfold b1m dg9m; rw [if_pos e]; rfl)
      · rw [if_neg (by omega)]
        exact tail _ (by unfold b1m dg9m; rw [if_neg e])
    · show X12_tellLetters_b255 113 a i (m : Int) (wA (wA d1 149 f1) 150 g1) = _
      have e6 : (wA (wA d1 149 f1) 150 g1).1 113 74 = m := by rw [wA_ne (by decide), wA_ne (by decide)]; exact e74
      unfold X12_tellLetters_b255
      rw [e6, gd_pos (by omega), if_pos (by omega)]
  · rw [wA_ne (by decide), wA_ne (by decide)]; exact e74
  · rw [wA_ne (by decide), wA_at]
    exact fun i j hi hj => pm_at hi hj (by omega)
  · rw [wA_at]
    exact fun i j hi hj => pm_at hi hj (by omega)
/-- the reference tells the letters -/
theorem x12_tl {d0 : DA} (h : BR9 d0 n f F s R r p iv a w L) (hc : c < r) : ∃ v d, X12_tellLetters 113 a c d0 = some (v, d) ∧ FrM d0 d ∧ ((v = 1 ∧ bOk n F R r p iv a c ∧ ML9 d n F R r p iv a c) ∨ (v = 0 ∧ ¬ bOk n F R r p iv a c)) := by
  have hT := h.2.2.2.2.2.2.1
  have h3 := hT.2.1
  have ha := h.2.2.2.2.2.2.2.2.2.2.2.1
  have hp := hT.2.2.1.1
  have h31 := hT.2.2.1.2
  have hm := bm9_le (n := n) (r := r) (a := a) (c := c)
  have hiv := h.2.2.2.2.2.2.2.2.2.2.1
  obtain ⟨d1, a1, a2, a3, a4⟩ := x12_paths h hc
  have hB1 := h.fr a2
  have h0 : TlI d1 n F R r a c 0 (0, 0, d1) := ⟨rfl, rfl, FrM.rf d1, fun _ _ => rfl, fun i y _ hy => absurd hy (Nat.not_lt_zero _), fun y hy => absurd hy (Nat.not_lt_zero _)⟩
  have key := lpR_ei (b := fun q : Int × Int × DA => X12_tellLetters_b11 113 a c q.1 q.2.1 q.2.2) (k := fun e : Int × DA => X12_tellLetters_j115 113 a c e.1 e.2) (j := fun r : Int × DA => some r) (s0 := (0, 0, d1)) (TlI d1 n F R r a c) (fun e => TlI d1 n F R r a c r (e.1, (r : Int), e.2)) (fun y => y.1 = 0 ∧ FrM d1 y.2 ∧ ¬ ∀ y, y < r → pcB n a c y = true → R (thr a a y) ≠ 0) r (by omega) h0 (fun i t hi hI => x12_tlS hB1 hc a3 a4 hi hI) (fun t hI => by
    obtain ⟨v3, v4, e⟩ := t
    have i1 : v4 = (r : Int) := hI.1
    subst i1
    refine ⟨(v3, e), ?_, hI⟩
    have er := (hB1.fr hI.2.2.1).2.2.2.1
    show X12_tellLetters_b11 113 a c v3 (r : Int) e = _
    unfold X12_tellLetters_b11
    rw [er, gd_pos (by omega), if_pos (by omega)])
  unfold X12_tellLetters
  rw [bd_pos a1]
  rcases key with ⟨e, e1, e2⟩ | ⟨y, e1, e2, e3, e4⟩
  · rw [e1]
    obtain ⟨v3, d2⟩ := e
    obtain ⟨-, i1, i2, i3, i4, i5⟩ := e2
    dsimp only at i1 i2 i3 i4 i5 ⊢
    subst i1
    have hB2 := hB1.fr i2
    have fr2 := a2.tr i2
    have b74 : d2.1 113 74 = (bm9 n r a c : Int) := by rw [i3 113 (by decide)]; exact a3
    have b148 : ∀ i, i < bm9 n r a c → d2.1 148 i = (pk9 (ptB n a c) r i : Int) := fun i hi => by rw [i3 148 (by decide)]; exact a4 i hi
    have kp : ∀ i, i < bm9 n r a c → pk9 (ptB n a c) r i < r ∧ ptB n a c (pk9 (ptB n a c) r i) = true := fun i hi => ⟨(pk9_ok (P := ptB n a c) (m := r) (i := i) hi).1, (pk9_ok (P := ptB n a c) (m := r) (i := i) hi).2.1⟩
    -- the swaps of the paths
    have e3 : X12_tellLetters_j115 113 a c (cn9 (pcB n a c) r : Int) d2 = (fs9 (bm9 n r a c) (fun i => if bRp n R r a c i = 0 then some ((0 : Int), d2) else none)).elim (X12_tellLetters_j151 113 a c (cn9 (pcB n a c) r : Int) d2) some := by
      unfold X12_tellLetters_j115
      refine lpR_cnt (bm9 n r a c) _ (by omega) (fun i hi => ?_) ?_
      · unfold X12_tellLetters_b118
        have os := x12_swap9 (d := d2) hT hB2.1 hB2.2.2.1 ha ha (kp i hi).1
        have os' : X12_swapOf 113 a a (pk9 (ptB n a c) r i) d2 = some (bRp n R r a c i) := os
        have ob := hT.s ha ha (kp i hi).1
        have ob' : 0 ≤ bRp n R r a c i ∧ bRp n R r a c i < p := ob
        have q1 : d2.1 (113 + 35) i = (pk9 (ptB n a c) r i : Int) := b148 i hi
        rw [b74, gd_pos (by omega), if_neg (by omega), gd_pos (by omega), Int.toNat_natCast, q1, b1_pos os', gd_pos (by omega)]
        by_cases z : bRp n R r a c i = 0
        · rw [if_pos z, if_pos z]; rfl
        · rw [if_neg z, if_neg z]; rfl
      · unfold X12_tellLetters_b118
        rw [b74, gd_pos (by omega), if_pos (by omega)]
    rw [e3]
    cases hf : fs9 (bm9 n r a c) (fun i => if bRp n R r a c i = 0 then some ((0 : Int), d2) else none) with
    | some y =>
      obtain ⟨i, f1, f2, -⟩ := (fs9_some _).mp hf
      have z : bRp n R r a c i = 0 := by
        by_cases z : bRp n R r a c i = 0
        · exact z
        · rw [if_neg z] at f2; cases f2
      rw [if_pos z] at f2
      cases f2
      exact ⟨0, d2, rfl, fr2, Or.inr ⟨rfl, fun hO => hO.1 _ (kp i f1).1 (Or.inl (kp i f1).2) z⟩⟩
    | none =>
      have hall : ∀ i, i < bm9 n r a c → bRp n R r a c i ≠ 0 := fun i hi z => by
        have := (fs9_none _).mp hf i hi
        rw [if_pos z] at this; cases this
      have sw : ∀ x, x < r → (ptB n a c x = true ∨ pcB n a c x = true) → R (thr a a x) ≠ 0 := fun x hx hz => by
        rcases hz with hz | hz
        · have := hall (cn9 (ptB n a c) x) (cn9_lt hx hz)
          unfold bRp at this
          rw [pk9_at hx hz] at this
          exact this
        · exact i5 x hx hz
      show ∃ v d, X12_tellLetters_j151 113 a c (cn9 (pcB n a c) r : Int) d2 = some (v, d) ∧ _
      have e4 : X12_tellLetters_j151 113 a c (cn9 (pcB n a c) r : Int) d2 = X12_tellLetters_j181 113 a c (cn9 (pcB n a c) r : Int) (wA d2 138 (pre (d2.1 138) (d2.1 153) 25)) := by
        unfold X12_tellLetters_j151
        refine lpE_row (d := d2) 138 25 (d2.1 153) (by omega) (fun i hi => ?_) ?_
        · show X12_tellLetters_b154 113 a c _ (i : Int) _ = _
          unfold X12_tellLetters_b154
          have : (wA d2 138 (pre (d2.1 138) (d2.1 153) i)).1 (113 + 40) i = d2.1 153 i := by
            show (wA d2 138 _).1 153 i = _
            rw [wA_ne (by decide)]
          rw [gd_pos (by omega), if_neg (by omega), gd_pos (by omega), gd_pos (by omega), lt_pos, Int.toNat_natCast, this]
        · show X12_tellLetters_b154 113 a c _ ((25 : Nat) : Int) _ = _
          unfold X12_tellLetters_b154
          rw [gd_pos (by omega), if_pos (by omega)]
      rw [e4]
      generalize hd3 : wA d2 138 (pre (d2.1 138) (d2.1 153) 25) = d3
      have o3 : ∀ q, q ≠ 138 → d3.1 q = d2.1 q := fun q z => by rw [← hd3, wA_ne z]
      have fr3 : FrM d0 d3 := by rw [← hd3]; exact fr2.a (by omega)
      have c74 : d3.1 113 74 = (bm9 n r a c : Int) := by rw [o3 113 (by decide)]; exact b74
      have kc9 := cn9_le (P := pcB n a c) r
      unfold X12_tellLetters_j181
      rw [c74, gd_pos (by omega)]
      by_cases ce : cn9 (pcB n a c) r = bm9 n r a c
      · rw [if_pos (by omega)]
        have m153 : Ms (bm9 n r a c) (d2.1 153) (bF9 n F r a c) := fun i j hi hj => by
          have k := pk9_ok (P := pcB n a c) (m := r) (i := j) (by rw [ce]; exact hj)
          have := i4 i _ hi k.1 k.2.1
          rw [k.2.2] at this
          exact this
        have bF := bF9_b (c := c) h.2.2.2.2.2.2.2 hc ce
        obtain ⟨ff, g9, t1, t2⟩ := x12_turnB (d := d3) (n := bm9 n r a c) (p := p) (M := bF9 n F r a c) (iv := iv) (by omega) (by rw [← hd3, wA_at]; exact m153.cp (by omega)) bF (h.fr fr3).2.2.2.2.1 hp h31 hiv
        rw [bd_pos t1]
        by_cases g : (bG9 n F r p iv a c).1 = true
        · have hO : bOk n F R r p iv a c := ⟨sw, ce, g⟩
          have g' : (gRun p (bm9 n r a c) iv (bm9 n r a c) 0 (bF9 n F r a c, id9)).1 = true := g
          rw [if_pos g', gd_pos (by decide), if_neg (by decide)]
          have mG := t2 g'
          generalize hd4 : wA (wA d3 138 ff) 139 g9 = d4
          have o4 : ∀ q, q ≠ 138 → q ≠ 139 → d4.1 q = d2.1 q := fun q z1 z2 => by rw [← hd4, wA_ne z2, wA_ne z1, o3 q z1]
          have e139 : d4.1 139 = g9 := by rw [← hd4, wA_at]
          have fr4 : FrM d0 d4 := by rw [← hd4]; exact (fr3.a (by omega)).a (by omega)
          have e5 : lpE (fun q => X12_tellLetters_b205 113 a c q.1 q.2) (0, d4) (fun e => X12_tellLetters_j232 113 a c e) = X12_tellLetters_j232 113 a c (wA d4 152 (pre (d4.1 152) (d4.1 139) 25)) := by
            refine lpE_row (d := d4) 152 25 (d4.1 139) (by omega) (fun i hi => ?_) ?_
            · show X12_tellLetters_b205 113 a c (i : Int) _ = _
              unfold X12_tellLetters_b205
              have : (wA d4 152 (pre (d4.1 152) (d4.1 139) i)).1 (113 + 26) i = d4.1 139 i := by
                show (wA d4 152 _).1 139 i = _
                rw [wA_ne (by decide)]
              rw [gd_pos (by omega), if_neg (by omega), gd_pos (by omega), gd_pos (by omega), lt_pos, Int.toNat_natCast, this]
            · show X12_tellLetters_b205 113 a c ((25 : Nat) : Int) _ = _
              unfold X12_tellLetters_b205
              rw [gd_pos (by omega), if_pos (by omega)]
          rw [e5]
          generalize hd5 : wA d4 152 (pre (d4.1 152) (d4.1 139) 25) = d5
          have o5 : ∀ q, q ≠ 138 → q ≠ 139 → q ≠ 152 → d5.1 q = d2.1 q := fun q z1 z2 z3 => by rw [← hd5, wA_ne z3, o4 q z1 z2]
          have fr5 : FrM d0 d5 := by rw [← hd5]; exact fr4.a (by omega)
          obtain ⟨d6, u1, u2, u3⟩ := x12_tl2 (h.fr fr5) hc hO (by rw [o5 113 (by decide) (by decide) (by decide)]; exact b74) (by rw [o5 148 (by decide) (by decide) (by decide)]; exact b148) (by rw [o5 153 (by decide) (by decide) (by decide)]; exact m153) (by rw [← hd5, wA_at, e139]; exact mG.cp (by omega))
          exact ⟨1, d6, u1, fr5.tr u2, Or.inl ⟨rfl, hO, u3⟩⟩
        · rw [if_neg (show ¬ (gRun p (bm9 n r a c) iv (bm9 n r a c) 0 (bF9 n F r a c, id9)).1 = true from g), gd_pos (by decide), if_pos rfl]
          exact ⟨0, _, rfl, (fr3.a (by omega)).a (by omega), Or.inr ⟨rfl, fun z => g z.2.2⟩⟩
      · rw [if_neg (by omega)]
        exact ⟨0, d3, rfl, fr3, Or.inr ⟨rfl, fun z => ce z.2.1⟩⟩
  · rw [e1]
    obtain ⟨v, d⟩ := y
    exact ⟨v, d, rfl, a2.tr e3, Or.inr ⟨e2, fun z => e4 (fun y hy hz => z.1 y hy (Or.inr hz))⟩⟩
end

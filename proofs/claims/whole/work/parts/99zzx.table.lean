/-! ===== the reference reads a line: the whole ===== -/
section
variable {B : Nat → Int} {n : Nat} {d0 c0 : DA} {q k : Nat} {T : Nat → Int} {a b td : Nat} {d : DA} {ft : Int} {pl : Nat}
theorem fq_sum {v w : Int} (h : FQ9 d0 ft pl d) : X12_readSum 113 v w d = some ((), d) := by
  obtain ⟨f, h28, hf, -⟩ := h
  unfold X12_readSum
  refine (lpR_seq (b := fun q => X12_readSum_b2 113 v w q.1 q.2) (k := fun e : DA => some ((), e)) (j := fun r : Unit × DA => some r) (fun _ => ((1 : Int), d)) 0 (by decide) (fun i hi => absurd hi (by omega))).2 d ?_
  show X12_readSum_b2 113 v w 1 d = _
  unfold X12_readSum_b2
  rw [gd_pos (by decide), if_neg (by decide), h28, gd_pos (by omega), if_neg (by omega)]
theorem rq_j79 {V v w : Int} (hB : Tp9 B n) (h126 : ∀ j, j < n → d0.1 126 j = B j) (h23 : d0.1 113 23 = n) (h : RQ9 B n d0 q k d) (hs : ¬ (tR B n (tS B n q) = 3 ∧ B (tS B n q) = 59)) : ∃ V' d', X12_readLine_j79 113 V v w d = some (V', d') ∧ FQ9 d0 1 (tS B n q) d' := by
  obtain ⟨d9, g1, g2⟩ := (rq_mark (c := 59) hB h126 h23 (by decide) h).2 hs
  obtain ⟨V', g3⟩ := fq_j79 (V := V) (v := v) (w := w) g2
  refine ⟨V', d9, ?_, g2⟩
  rw [← g3]
  unfold X12_readLine_j79
  rw [bd_pos g1, bd_pos (fq_mark g2)]
theorem rd_line {V : Nat} (hB : Tp9 B n) (h44 : ∀ j, j < n → c0.1 44 j = B j) (h126 : ∀ j, j < n → d0.1 126 j = B j) (h23 : d0.1 113 23 = n) (hQ : RQ9 B n d0 q k d) (h0 : tR B n (tS B n q) ≠ 0) (hT : TG T k) (hS : Sy9 T) (hU : ∀ q, q < 125 → d.1 116 q = T q) (hM : MV9 V td) : ∃ V' d', X12_readLine 113 V d = some (V', d') ∧ ((∃ q' T' a' b' td' W, V' = ((W : Nat) : Int) ∧ RQ9 B n d0 q' k d' ∧ q < q' ∧ TG T' k ∧ Sy9 T' ∧ (∀ q, q < 125 → d'.1 116 q = T' q) ∧ MV9 W td' ∧ ∀ ft pl k9 T9, Rr9 n c0 q' 3 k T' a' b' td' ft pl k9 T9 → Rr9 n c0 q 3 k T a b td ft pl k9 T9) ∨ (∃ ft pl, FQ9 d0 ft pl d' ∧ ∀ k9 T9, Rr9 n c0 q 3 k T a b td ft pl k9 T9)) := by
  have hn := hB.1
  have k5 := hT.1.2
  have hq := hQ.2.2.2.1
  obtain ⟨t1, t2⟩ := te_in (B := B) hq h0
  obtain ⟨r1, r2⟩ := rq_readKind (l := 1) hB h126 h23 (by decide) hT.1 hQ
  unfold X12_readLine
  by_cases hk1 : kf9 B n (tS B n q) 1 k = 0
  · obtain ⟨⟨d1, g1, g2, g3⟩, -, l1, l2⟩ := r1 hk1
    obtain ⟨a', ha'⟩ : ∃ v : Nat, tv9 B n (tS B n q) = v := ⟨(tv9 B n (tS B n q)).toNat, by omega⟩
    have g1' : X12_readKind 113 1 d = some ((a' : Int), d1) := by rw [← ha']; exact g1
    have R3 : ∀ ft pl k9 T9, Rr9 n c0 (tE B n (tS B n q)) 4 k T a' b td ft pl k9 T9 → Rr9 n c0 q 3 k T a b td ft pl k9 T9 := fun ft pl k9 T9 z => (rr_3 hB h44 hq h0).1 hk1 a' ha' z
    generalize tE B n (tS B n q) = q1 at g2 t1 t2 R3
    obtain ⟨s1, s2⟩ := rq_kind (l := 1) (by decide) hT.1 g2 hn
    have g28 := g2.2.1
    rw [bd_pos g1']
    by_cases hk2 : kf9 B n (tS B n q1) 1 k = 0
    · obtain ⟨k1, k2, k3, k4⟩ := s1 hk2
      obtain ⟨b', hb'⟩ : ∃ v : Nat, tv9 B n (tS B n q1) = v := ⟨(tv9 B n (tS B n q1)).toNat, by omega⟩
      have k1' : X12_kindNow 113 1 d1 = some ((b' : Int), d1) := by rw [← hb']; exact k1
      have a1 : 1 ≤ a' ∧ a' < k := by omega
      have b1 : 1 ≤ b' ∧ b' < k := by omega
      have bits := hM.2.2 a' b' (by omega) (by omega) (by omega) (by omega)
      have hr := bit_ref (V := V) (s := 5 * a' + b') hM.1 (by omega)
      have cst : (5 * (a' : Int) + (b' : Int)) = ((5 * a' + b' : Nat) : Int) := by omega
      rw [bd_pos k1', g28, gd_pos (by decide), if_pos rfl, cst, hr]
      by_cases hbit : V.testBit (5 * a' + b') = true
      · rw [if_pos hbit, gd_pos (by decide), if_pos rfl]
        obtain ⟨d9, w1, w2⟩ := rq_wrong (t := 4) g2 (by decide) hn
        have w28 := w2.2.1
        refine ⟨(V : Int), d9, ?_, Or.inr ⟨4, tS B n q1, w2, fun k9 T9 => R3 _ _ _ _ (((rr_4 (ft := 0) (pl := 0) hB h44 t2).1 hk2 b' hb').2 (by rw [← bits]; exact hbit))⟩⟩
        rw [bd_pos w1]
        unfold X12_readLine_j37
        rw [w28, gd_pos (by decide), if_neg (by decide)]
      · rw [if_neg hbit, gd_pos (by decide), if_neg (by decide)]
        have hbf : td.testBit (pb9 a' b') = false := by rw [← bits]; exact Bool.eq_false_iff.2 hbit
        have R4 : ∀ ft pl k9 T9, Rr9 n c0 (tE B n (tS B n q1)) 5 k T a' b' (td ||| 2 ^ pb9 a' b') ft pl k9 T9 → Rr9 n c0 q 3 k T a b td ft pl k9 T9 := fun ft pl k9 T9 z => R3 _ _ _ _ (((rr_4 hB h44 t2).1 hk2 b' hb').1 hbf z)
        have M' := hM.more (a := a') (b := b') (by omega) (by omega)
        obtain ⟨d5, w1, w2, w3⟩ := rq_step hB h126 h23 g2
        obtain ⟨u1, u2⟩ := te_in (B := B) t2 k2
        generalize tE B n (tS B n q1) = q2 at w2 u1 u2 R4
        unfold X12_readLine_j37
        rw [g28, gd_pos (by decide), if_pos rfl, bd_pos w1]
        obtain ⟨m1, m2⟩ := rq_mark (c := 61) hB h126 h23 (by decide) w2
        by_cases h61 : tR B n (tS B n q2) = 3 ∧ B (tS B n q2) = 61
        · obtain ⟨d6, y1, y2, y3⟩ := m1 h61
          obtain ⟨x1, x2⟩ := te_in (B := B) u2 (by rw [h61.1]; decide)
          have R5 : ∀ ft pl k9 T9, Rr9 n c0 (tE B n (tS B n q2)) 6 k T a' b' (td ||| 2 ^ pb9 a' b') ft pl k9 T9 → Rr9 n c0 q 3 k T a b td ft pl k9 T9 := fun ft pl k9 T9 z => R4 _ _ _ _ ((rr_sg hB h44 u2 (ex := 5) (ex' := 6) (c := 61) (by omega)).1 h61 z)
          generalize tE B n (tS B n q2) = q3 at y2 x1 x2 R5
          have U6 : SU9 a' b' T (d6.1 116) := fun i j v hi hj hv _ => by rw [y3, w3, g3]; exact hU _ (ti_lt5 hi hj hv)
          rw [bd_pos y1]
          obtain ⟨v, v1, v2⟩ := rq_is (a := 1) hB h126 (by decide) y2
          rw [b1_pos v1]
          rcases v2 with ⟨rfl, v2⟩ | ⟨rfl, v2⟩
          · rw [gd_pos (by decide), if_neg (by decide)]
            obtain ⟨d13, z1, z2, z3⟩ := rq_step hB h126 h23 y2
            obtain ⟨p1, p2⟩ := te_in (B := B) x2 (by rw [v2.1]; decide)
            have R6 : ∀ ft pl k9 T9, Rr9 n c0 (tE B n (tS B n q3)) 7 k T a' b' (td ||| 2 ^ pb9 a' b') ft pl k9 T9 → Rr9 n c0 q 3 k T a b td ft pl k9 T9 := fun ft pl k9 T9 z => R5 _ _ _ _ (rr_6 hB h44 x2 v2 z)
            generalize tE B n (tS B n q3) = q4 at z2 p1 p2 R6
            rw [bd_pos z1]
            by_cases hs : tR B n (tS B n q4) = 3 ∧ B (tS B n q4) = 59
            · obtain ⟨d', o1, o2, o3⟩ := rd_semi (V := V) (T := T) (a := a') (b := b') hB h126 h23 hM.1 (by omega) (by omega) z2 hs (by rw [z3]; exact U6) hS
              obtain ⟨i1, i2⟩ := te_in (B := B) p2 (by rw [hs.1]; decide)
              exact ⟨_, d', o1, Or.inl ⟨_, T, a', b', _, _, rfl, o2, by omega, hT, hS, o3, M', fun ft pl k9 T9 z => R6 _ _ _ _ ((rr_sg hB h44 p2 (ex := 7) (ex' := 3) (c := 59) (by omega)).1 hs z)⟩⟩
            · obtain ⟨V', d', o1, o2⟩ := rq_j79 (V := (V : Int)) (v := (a' : Int)) (w := (b' : Int)) hB h126 h23 z2 hs
              exact ⟨V', d', o1, Or.inr ⟨1, _, o2, fun k9 T9 => R6 _ _ _ _ ((rr_sg (ft := 0) (pl := 0) hB h44 p2 (ex := 7) (ex' := 3) (c := 59) (by omega)).2 hs)⟩⟩
          · rw [gd_pos (by decide), if_pos rfl]
            obtain ⟨d8, o1, o2⟩ := rd_sum (td := td ||| 2 ^ pb9 a' b') (ex := 6) hB h44 h126 h23 (Or.inl ⟨rfl, v2⟩) y2 hT hS U6 a1 b1
            rw [bd_pos o1]
            rcases o2 with ⟨q4, T', z2, z3, z4, z5, z6, z7, z8⟩ | ⟨ft, pl, z1, z2⟩
            · have p2 := z2.2.2.2.1
              by_cases hs : tR B n (tS B n q4) = 3 ∧ B (tS B n q4) = 59
              · obtain ⟨d', o1, o2, o3⟩ := rd_semi (V := V) (T := T') (a := a') (b := b') hB h126 h23 hM.1 (by omega) (by omega) z2 hs z6 z5
                obtain ⟨i1, i2⟩ := te_in (B := B) p2 (by rw [hs.1]; decide)
                exact ⟨_, d', o1, Or.inl ⟨_, T', a', b', _, _, rfl, o2, by omega, z4, z5, o3, M', fun ft pl k9 T9 z => R5 _ _ _ _ (z8 _ _ _ _ ((rr_8 hB h44 p2).2.1 hs z))⟩⟩
              · obtain ⟨V', d', o1, o2⟩ := rq_j79 (V := (V : Int)) (v := (a' : Int)) (w := (b' : Int)) hB h126 h23 z2 hs
                exact ⟨V', d', o1, Or.inr ⟨1, _, o2, fun k9 T9 => R5 _ _ _ _ (z8 _ _ _ _ ((rr_8 (ft := 0) (pl := 0) hB h44 p2).2.2 z7 hs))⟩⟩
            · obtain ⟨V', o1⟩ := fq_j79 (V := (V : Int)) (v := (a' : Int)) (w := (b' : Int)) z1
              exact ⟨V', d8, o1, Or.inr ⟨ft, pl, z1, fun k9 T9 => R5 _ _ _ _ (z2 k9 T9)⟩⟩
        · obtain ⟨d6, y1, y2⟩ := m2 h61
          obtain ⟨V', o1⟩ := fq_j79 (V := (V : Int)) (v := (a' : Int)) (w := (b' : Int)) y2
          refine ⟨V', d6, ?_, Or.inr ⟨1, _, y2, fun k9 T9 => R4 _ _ _ _ ((rr_sg (ft := 0) (pl := 0) hB h44 u2 (ex := 5) (ex' := 6) (c := 61) (by omega)).2 h61)⟩⟩
          rw [bd_pos y1, b1_pos (fq_is y2), gd_pos (by decide), if_pos rfl, bd_pos (fq_sum y2)]
          exact o1
    · obtain ⟨d9, w1, w2⟩ := s2 hk2
      have w28 := w2.2.1
      have wb := w2.2.2.1
      have hk2' : kf9 B n (tS B n q1) ((1 : Nat) : Int) k ≠ 0 := hk2
      refine ⟨(V : Int), d9, ?_, Or.inr ⟨_, _, w2, fun k9 T9 => R3 _ _ _ _ ((rr_4 (ft := 0) (pl := 0) hB h44 t2).2 hk2)⟩⟩
      rw [bd_pos (show X12_kindNow 113 1 d1 = some (0, d9) from w1), w28, gd_pos (by omega), if_neg hk2']
      unfold X12_readLine_j37
      rw [w28, gd_pos (by omega), if_neg hk2']
  · obtain ⟨d9, w1, w2⟩ := r2 hk1
    have w28 := w2.2.1
    have wb := w2.2.2.1
    have hk1' : kf9 B n (tS B n q) ((1 : Nat) : Int) k ≠ 0 := hk1
    refine ⟨(V : Int), d9, ?_, Or.inr ⟨_, _, w2, fun k9 T9 => (rr_3 (ft := 0) (pl := 0) hB h44 hq h0).2 hk1⟩⟩
    rw [bd_pos (show X12_readKind 113 1 d = some (0, d9) from w1), bd_pos (fq_kind w2), w28, gd_pos (by omega), if_neg hk1']
    unfold X12_readLine_j37
    rw [w28, gd_pos (by omega), if_neg hk1']
end

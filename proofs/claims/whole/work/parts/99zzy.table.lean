/-! ===== the reference reads a table ===== -/
section
variable {B : Nat → Int} {n : Nat} {d0 c0 : DA} {q k : Nat} {T : Nat → Int} {a b td : Nat} {d : DA} {ft : Int} {pl : Nat}
/-- read to the end, with no fault -/
def DQ9 (d0 : DA) (k : Nat) (T : Nat → Int) (d : DA) : Prop := Fd9 d0 d ∧ d.1 113 28 = 0 ∧ d.1 113 3 = k ∧ TG T k ∧ ∀ q, q < 125 → d.1 116 q = T q
theorem rd_all {Y : Type} {K : DA → Option Y} {V : Nat} (hB : Tp9 B n) (h44 : ∀ j, j < n → c0.1 44 j = B j) (h126 : ∀ j, j < n → d0.1 126 j = B j) (h23 : d0.1 113 23 = n) (hQ : RQ9 B n d0 q k d) (hT : TG T k) (hS : Sy9 T) (hU : ∀ q, q < 125 → d.1 116 q = T q) (hM : MV9 V td) : ∃ d', lpE (fun q => X12_table_b169 113 q.1 q.2) ((V : Int), d) K = K d' ∧ ((∃ T', DQ9 d0 k T' d' ∧ ∀ pl, Rr9 n c0 q 3 k T a b td 0 pl k T') ∨ (∃ ft pl, FQ9 d0 ft pl d' ∧ ∀ k9 T9, Rr9 n c0 q 3 k T a b td ft pl k9 T9)) := by
  have hn := hB.1
  refine lpE_may (b := fun q => X12_table_b169 113 q.1 q.2) (k := K) (s0 := ((V : Int), d)) (fun i s => (∃ q1 T1 a1 b1 td1 W, q + i ≤ q1 ∧ s.1 = ((W : Nat) : Int) ∧ RQ9 B n d0 q1 k s.2 ∧ TG T1 k ∧ Sy9 T1 ∧ (∀ q, q < 125 → s.2.1 116 q = T1 q) ∧ MV9 W td1 ∧ ∀ ft pl k9 T9, Rr9 n c0 q1 3 k T1 a1 b1 td1 ft pl k9 T9 → Rr9 n c0 q 3 k T a b td ft pl k9 T9) ∨ (∃ ft pl, FQ9 d0 ft pl s.2 ∧ ∀ k9 T9, Rr9 n c0 q 3 k T a b td ft pl k9 T9)) _ (n + 2) (by omega) (Or.inl ⟨q, T, a, b, td, V, by omega, rfl, hQ, hT, hS, hU, hM, fun _ _ _ _ z => z⟩) (fun i s hi hI => ?_) (fun s hI => ?_)
  · obtain ⟨v, e⟩ := s
    show (∃ s', X12_table_b169 113 v e = _ ∧ _) ∨ (∃ s', X12_table_b169 113 v e = _ ∧ _)
    unfold X12_table_b169
    rcases hI with ⟨q1, T1, a1, b1, td1, W, y1, y2, y3, y4, y5, y6, y7, y8⟩ | ⟨ft, pl, z1, z2⟩
    · have y2' : v = ((W : Nat) : Int) := y2
      subst y2'
      have y3' : RQ9 B n d0 q1 k e := y3
      have y6' : ∀ q, q < 125 → e.1 116 q = T1 q := y6
      have e24 : e.1 113 24 = tR B n (tS B n q1) := y3'.2.2.2.2.2.2.2.1
      have r4 := tR_4 (B := B) (n := n) (s := tS B n q1)
      rw [y3'.2.1, e24, gd_pos (by decide), if_pos rfl, gd_pos (by omega)]
      by_cases c : tR B n (tS B n q1) = 0
      · rw [if_pos (by omega)]
        exact Or.inr ⟨e, rfl, Or.inl ⟨T1, ⟨y3'.1, y3'.2.1, y3'.2.2.1 (by have := y4.1.1; omega), y4, y6'⟩, fun pl => y8 _ _ _ _ (rr_fin hB h44 c)⟩⟩
      · rw [if_neg (by omega)]
        obtain ⟨V', d', o1, o2⟩ := rd_line (a := a1) (b := b1) hB h44 h126 h23 y3' c y4 y5 y6' y7
        rw [bd_pos o1]
        refine Or.inl ⟨(V', d'), rfl, ?_⟩
        rcases o2 with ⟨q', T', a', b', td', W', p1, p2, p3, p4, p5, p6, p7, p8⟩ | ⟨ft, pl, p1, p2⟩
        · exact Or.inl ⟨q', T', a', b', td', W', by omega, p1, p2, p4, p5, p6, p7, fun ft pl k9 T9 z => y8 _ _ _ _ (p8 _ _ _ _ z)⟩
        · exact Or.inr ⟨ft, pl, p1, fun k9 T9 => y8 _ _ _ _ (p2 k9 T9)⟩
    · have z1' : FQ9 d0 ft pl e := z1
      have w28 := z1'.2.1
      have wb := z1'.2.2.1
      rw [w28, gd_pos (by omega), if_neg (by omega)]
      exact Or.inr ⟨e, rfl, Or.inr ⟨ft, pl, z1', z2⟩⟩
  · obtain ⟨v, e⟩ := s
    rcases hI with ⟨q1, T1, a1, b1, td1, W, y1, y2, y3, -⟩ | ⟨ft, pl, z1, z2⟩
    · have := y3.2.2.2.1
      omega
    · have z1' : FQ9 d0 ft pl e := z1
      have w28 := z1'.2.1
      have wb := z1'.2.2.1
      refine ⟨e, ?_, Or.inr ⟨ft, pl, z1', z2⟩⟩
      show X12_table_b169 113 v e = _
      unfold X12_table_b169
      rw [w28, gd_pos (by omega), if_neg (by omega)]
theorem fq_161 (h : FQ9 d0 ft pl d) : X12_table_j161 113 d = X12_table_j192 113 d := by
  have m := fq_mark (c := 59) h
  have w28 := h.2.1
  have wb := h.2.2.1
  unfold X12_table_j161
  rw [bd_pos m]
  refine lpE_for (fun _ => ((0 : Int), d)) 0 d rfl (by decide) (fun i hi => absurd hi (by omega)) ?_
  show X12_table_b169 113 0 d = _
  unfold X12_table_b169
  rw [w28, gd_pos (by omega), if_neg (by omega)]
theorem fq_119 (h : FQ9 d0 ft pl d) : ∃ d', X12_table_j119 113 d = X12_table_j192 113 d' ∧ FQ9 d0 ft pl d' := by
  obtain ⟨f, h28, hf, h29, hp⟩ := h
  obtain ⟨⟨u, d2⟩, g1, f9, g2, -⟩ := x12_begin (d := wI d 113 3 1) (r := 1) (by decide)
  have g2' : d2 = wA (wI d 113 3 1) 116 f9 := g2
  have h' : FQ9 d0 ft pl d2 := by
    rw [g2']
    have f3 := f.w (j := 3) (v := 1) rfl
    refine ⟨⟨fun c z1 z2 => by rw [wA_ne z2]; exact f3.1 c z1 z2, f3.2.1, fun j hj => by rw [wA_ne (by decide)]; exact f3.2.2 j hj⟩, ?_, hf, ?_, hp⟩
    · rw [wA_ne (by decide), wI_at, fu_n (by decide)]; exact h28
    · rw [wA_ne (by decide), wI_at, fu_n (by decide)]; exact h29
  refine ⟨d2, ?_, h'⟩
  rw [← fq_161 h']
  have w28 := h'.2.1
  unfold X12_table_j119 X12_table_j135
  rw [h28, gd_pos (by omega), if_neg (by omega), lt_pos, show (wI d 113 3 1).1 113 3 = 1 by rw [wI_at, fu_s], bd_pos (show X12_begin 113 (113 + 3) 125 1 (wI d 113 3 1) = some (u, d2) from g1), w28, gd_pos (by omega), if_neg (by omega)]
def tb0 (n : Nat) (d : DA) : DA := wI (wI (wI (wI (wI (wI d 113 0 0) 113 21 0) 113 23 (n : Int)) 113 22 0) 113 28 0) 113 30 (-1)
theorem rd_table {tp : Nat} (hB : Tp9 B n) (h44 : ∀ j, j < n → c0.1 44 j = B j) (h126 : ∀ j, j < n → d.1 126 j = B j) (h21 : d.1 113 21 = tp) (htp : n ≤ tp ∧ tp ≤ 400) : ∃ d', X12_table 113 n d = X12_table_j192 113 d' ∧ ((∃ k T', DQ9 (tb0 n d) k T' d' ∧ ∀ pl, Rr9 n c0 0 0 0 T 0 0 0 0 pl k T') ∨ (∃ ft pl, FQ9 (tb0 n d) ft pl d' ∧ ∀ k9 T9, Rr9 n c0 0 0 0 T 0 0 0 ft pl k9 T9)) := by
  have hn := hB.1
  have e0 : X12_table 113 n d = (bd (X12_stepOn 113 (tb0 n d)) fun _ d9 =>
      bd (X12_wordIs 113 0 d9) fun _ d10 =>
      gd (inR (d10.1 113 28)) <|
      if (d10.1 113 28) = 0 then (gd (inR (d10.1 113 24) ∧ inR 2) <|
      if (d10.1 113 24) = 2 then (X12_table_j82 113 d10) else
      bd (X12_wrong 113 1 d10) fun _ d22 =>
      X12_table_j119 113 d22) else
      X12_table_j82 113 d10) := by
    unfold X12_table
    have e21 : (wI d 113 0 0).1 113 21 = tp := by rw [wI_at, fu_n (by decide)]; exact h21
    rw [lt_pos, gd_pos (by omega), if_neg (by omega), e21, gd_pos (by omega), if_pos (by omega)]
    rfl
  have b126 : ∀ j, j < n → (tb0 n d).1 126 j = B j := fun j hj => h126 j hj
  have b23 : (tb0 n d).1 113 23 = n := rfl
  have b22 : (tb0 n d).1 113 22 = ((0 : Nat) : Int) := rfl
  have b28 : (tb0 n d).1 113 28 = 0 := rfl
  rw [e0]
  generalize tb0 n d = D at b126 b23 b22 b28
  obtain ⟨f, g1, g2, g3⟩ := x12_step (d := D) (q := 0) hB b126 b23 b22 (by omega)
  have Q9 : RQ9 B n D 0 0 (wA D 113 f) := by
    refine ⟨⟨fun c z1 z2 => by rw [wA_ne z1], rfl, fun j hj => ?_⟩, ?_, fun z => absurd rfl z, by omega, by rw [wA_at]; exact g2⟩
    · rw [wA_at, g3 j (fun e => by subst e; cases hj) (fun e => by subst e; cases hj) (fun e => by subst e; cases hj) (fun e => by subst e; cases hj) (fun e => by subst e; cases hj)]
    · rw [wA_at, g3 28 (by decide) (by decide) (by decide) (by decide) (by decide)]; exact b28
  rw [bd_pos g1]
  generalize wA D 113 f = d9 at Q9
  obtain ⟨v, v1, v2⟩ := rq_is (a := 0) hB b126 (by decide) Q9
  have q28 := Q9.2.1
  rcases v2 with ⟨rfl, v2⟩ | ⟨rfl, v2⟩
  · obtain ⟨d10, w1, w2, -⟩ := rq_step hB b126 b23 Q9
    obtain ⟨t1, t2⟩ := te_in (B := B) (q := 0) (by omega) (by rw [v2.1]; decide)
    have R0 : ∀ ft pl k9 T9, Rr9 n c0 (tE B n (tS B n 0)) 1 0 T 0 0 0 ft pl k9 T9 → Rr9 n c0 0 0 0 T 0 0 0 ft pl k9 T9 := fun ft pl k9 T9 z => (rr_0 hB h44 (by omega)).1 v2 z
    generalize tE B n (tS B n 0) = q1 at w2 t1 t2 R0
    have eW : X12_wordIs 113 0 d9 = some ((), d10) := by
      unfold X12_wordIs X12_wordIs_j20
      rw [q28, gd_pos (by decide), if_pos rfl, b1_pos v1, gd_pos (by decide), if_neg (by decide), gd_pos (by decide), if_pos rfl, bd_pos w1]
    obtain ⟨w3, w28, w5, w6, w22, w26, w27, w24, w25⟩ := id w2
    obtain ⟨s1, s2, -⟩ := tS_bd (B := B) t2
    obtain ⟨e1, e2, -⟩ := tE_bd (B := B) s2
    have r4 := tR_4 (B := B) (n := n) (s := tS B n q1)
    rw [bd_pos eW, w28, w24, gd_pos (by decide), if_pos rfl, gd_pos (by omega)]
    have R1 : ∀ k9 T9, rkf9 B n (tS B n q1) ≠ 0 → Rr9 n c0 0 0 0 T 0 0 0 (rkf9 B n (tS B n q1)) (tS B n q1) k9 T9 := fun k9 T9 z => R0 _ _ _ _ ((rr_1 (ft := 0) (pl := 0) hB h44 t2).2 z)
    have bad : ∀ t : Int, rkf9 B n (tS B n q1) = t → (1 ≤ t ∧ t ≤ 9) → ∃ d22, X12_wrong 113 t d10 = some ((), d22) ∧ ∃ d', X12_table_j119 113 d22 = X12_table_j192 113 d' ∧ ∃ ft pl, FQ9 D ft pl d' ∧ ∀ k9 T9, Rr9 n c0 0 0 0 T 0 0 0 ft pl k9 T9 := fun t ht hb => by
      obtain ⟨d22, x1, x2⟩ := rq_wrong w2 hb hn
      obtain ⟨d', x3, x4⟩ := fq_119 x2
      exact ⟨d22, x1, d', x3, t, _, x4, fun k9 T9 => by rw [← ht]; exact R1 k9 T9 (by omega)⟩
    by_cases c2 : tR B n (tS B n q1) = 2
    · rw [if_pos (show ((tR B n (tS B n q1) : Nat) : Int) = 2 by omega)]
      unfold X12_table_j82 X12_table_j114
      rw [w28, w26, w27, gd_pos (by decide), if_pos rfl, gd_pos (by omega)]
      by_cases c3 : tE B n (tS B n q1) - tS B n q1 ≤ 3
      · have v5 : d10.1 113 25 = tv9 B n (tS B n q1) := w25 c2 c3
        have vb := tv9_bd s2 c2 c3
        have hI := x12_isIn (d := d10) (v := tv9 B n (tS B n q1)) (a := 1) (b := 5) (by omega) (by omega) (by omega)
        rw [if_neg (show ¬ 3 < ((tE B n (tS B n q1) : Nat) : Int) - (tS B n q1 : Nat) by omega), v5]
        by_cases c5 : 1 ≤ tv9 B n (tS B n q1) ∧ tv9 B n (tS B n q1) ≤ 5
        · rw [b1_pos (hI.1 c5), gd_pos (by decide), if_neg (by decide)]
          have rz : rkf9 B n (tS B n q1) = 0 := by unfold rkf9; rw [if_pos c2, if_pos c3, if_neg (by omega)]
          obtain ⟨k, hk⟩ : ∃ k : Nat, tv9 B n (tS B n q1) = k := ⟨(tv9 B n (tS B n q1)).toNat, by omega⟩
          have R2 : ∀ ft pl k9 T9, Rr9 n c0 (tE B n (tS B n q1)) 2 k (bT k) 0 0 0 ft pl k9 T9 → Rr9 n c0 0 0 0 T 0 0 0 ft pl k9 T9 := fun ft pl k9 T9 z => R0 _ _ _ _ ((rr_1 hB h44 t2).1 rz k hk z)
          obtain ⟨u1, u2⟩ := te_in (B := B) t2 (by rw [c2]; decide)
          obtain ⟨⟨u, d12⟩, b1, f9, b2, b3⟩ := x12_begin (d := wI d10 113 3 (k : Int)) (r := k) (by omega)
          have b2' : d12 = wA (wI d10 113 3 (k : Int)) 116 f9 := b2
          have Q12 : RQ9 B n D q1 k d12 := by
            rw [b2']
            have f3 := w3.w (j := 3) (v := (k : Int)) rfl
            refine ⟨⟨fun c z1 z2 => by rw [wA_ne z2]; exact f3.1 c z1 z2, f3.2.1, fun j hj => by rw [wA_ne (by decide)]; exact f3.2.2 j hj⟩, ?_, fun _ => ?_, t2, ?_⟩
            · rw [wA_ne (by decide), wI_at, fu_n (by decide)]; exact w28
            · rw [wA_ne (by decide), wI_at, fu_s]
            · rw [wA_ne (by decide), wI_at]
              refine ⟨?_, ?_, ?_, ?_, fun z1 z2 => ?_⟩
              · rw [fu_n (by decide)]; exact w22
              · rw [fu_n (by decide)]; exact w26
              · rw [fu_n (by decide)]; exact w27
              · rw [fu_n (by decide)]; exact w24
              · rw [fu_n (by decide)]; exact w25 z1 z2
          obtain ⟨d19, y1, y2, y3⟩ := rq_step hB b126 b23 Q12
          have e119 : X12_table_j119 113 d10 = X12_table_j161 113 d19 := by
            unfold X12_table_j119 X12_table_j135
            rw [w28, gd_pos (by decide), if_pos rfl, v5, hk, lt_pos, show (wI d10 113 3 (k : Int)).1 113 3 = (k : Int) by rw [wI_at, fu_s], bd_pos (show X12_begin 113 (113 + 3) 125 (k : Int) (wI d10 113 3 (k : Int)) = some (u, d12) from b1), Q12.2.1, gd_pos (by decide), if_pos rfl, bd_pos y1]
          rw [e119]
          have U19 : ∀ q, q < 125 → d19.1 116 q = bT k q := fun q hq => by rw [y3, b2', wA_at]; exact bT_of (by omega) b3 hq
          generalize tE B n (tS B n q1) = q2 at y2 u1 u2 R2
          obtain ⟨m1, m2⟩ := rq_mark (c := 59) hB b126 b23 (by decide) y2
          by_cases hs : tR B n (tS B n q2) = 3 ∧ B (tS B n q2) = 59
          · obtain ⟨d13, x1, x2, x3⟩ := m1 hs
            have R3 : ∀ ft pl k9 T9, Rr9 n c0 (tE B n (tS B n q2)) 3 k (bT k) 0 0 0 ft pl k9 T9 → Rr9 n c0 0 0 0 T 0 0 0 ft pl k9 T9 := fun ft pl k9 T9 z => R2 _ _ _ _ ((rr_sg hB h44 u2 (ex := 2) (ex' := 3) (c := 59) (by omega)).1 hs z)
            obtain ⟨bo1, bo2⟩ := bT_ok (k := k) (by omega) (by omega)
            obtain ⟨d', o1, o2⟩ := rd_all (c0 := c0) (a := 0) (b := 0) (td := 0) (V := 0) (K := fun e => X12_table_j192 113 e) hB h44 b126 b23 x2 bo1 bo2 (fun q hq => by rw [x3]; exact U19 q hq) ⟨by decide, by decide, fun a b _ _ _ _ => by rw [Nat.zero_testBit, Nat.zero_testBit]⟩
            refine ⟨d', ?_, ?_⟩
            · unfold X12_table_j161
              rw [bd_pos x1]; exact o1
            · rcases o2 with ⟨T', z1, z2⟩ | ⟨ft, pl, z1, z2⟩
              · exact Or.inl ⟨k, T', z1, fun pl => R3 _ _ _ _ (z2 pl)⟩
              · exact Or.inr ⟨ft, pl, z1, fun k9 T9 => R3 _ _ _ _ (z2 k9 T9)⟩
          · obtain ⟨d13, x1, x2⟩ := m2 hs
            refine ⟨d13, ?_, Or.inr ⟨1, _, x2, fun k9 T9 => R2 _ _ _ _ ((rr_sg (ft := 0) (pl := 0) hB h44 u2 (ex := 2) (ex' := 3) (c := 59) (by omega)).2 hs)⟩⟩
            rw [← fq_161 x2]
            unfold X12_table_j161
            rw [bd_pos x1, bd_pos (fq_mark x2)]
        · rw [b1_pos (hI.2 (by omega)), gd_pos (by decide), if_pos rfl]
          have rz : rkf9 B n (tS B n q1) = 2 := by unfold rkf9; rw [if_pos c2, if_pos c3, if_pos (by omega)]
          obtain ⟨d22, x1, d', x2, x3⟩ := bad 2 rz (by decide)
          exact ⟨d', by rw [bd_pos x1, x2], Or.inr x3⟩
      · rw [if_pos (show 3 < ((tE B n (tS B n q1) : Nat) : Int) - (tS B n q1 : Nat) by omega)]
        have rz : rkf9 B n (tS B n q1) = 2 := by unfold rkf9; rw [if_pos c2, if_neg c3]
        obtain ⟨d22, x1, d', x2, x3⟩ := bad 2 rz (by decide)
        exact ⟨d', by rw [bd_pos x1, x2], Or.inr x3⟩
    · rw [if_neg (show ¬ ((tR B n (tS B n q1) : Nat) : Int) = 2 by omega)]
      have rz : rkf9 B n (tS B n q1) = 1 := by unfold rkf9; rw [if_neg c2]
      obtain ⟨d22, x1, d', x2, x3⟩ := bad 1 rz (by decide)
      exact ⟨d', by rw [bd_pos x1, x2], Or.inr x3⟩
  · obtain ⟨d10, w1, w2⟩ := rq_wrong (t := 1) Q9 (by decide) hn
    have w28 := w2.2.1
    have eW : X12_wordIs 113 0 d9 = some ((), d10) := by
      unfold X12_wordIs X12_wordIs_j20
      rw [q28, gd_pos (by decide), if_pos rfl, b1_pos v1, gd_pos (by decide), if_pos rfl, bd_pos w1, w28, gd_pos (by decide), if_neg (by decide)]
    obtain ⟨d', x3, x4⟩ := fq_119 w2
    refine ⟨d', ?_, Or.inr ⟨1, _, x4, fun k9 T9 => (rr_0 (ft := 0) (pl := 0) hB h44 (by omega)).2 v2⟩⟩
    rw [bd_pos eW, w28, gd_pos (by decide), if_neg (by decide), ← x3]
    unfold X12_table_j82
    rw [w28, gd_pos (by decide), if_neg (by decide)]
end

/-! ===== the reference reads a sum ===== -/
def Sy9 (T : Nat → Int) : Prop := ∀ i j v, i < 5 → j < 5 → v < 5 → T (ti i j v) = T (ti j i v)
theorem ti_iff {i j w a b v : Nat} (hj : j < 5) (hw : w < 5) (hb : b < 5) (hv : v < 5) : ti i j w = ti a b v ↔ i = a ∧ j = b ∧ w = v := by
  unfold ti
  constructor
  · intro h; omega
  · rintro ⟨rfl, rfl, rfl⟩; rfl
theorem pt9_at {T : Nat → Int} {a b v i j w : Nat} (ha : a < 5) (hb : b < 5) (hv : v < 5) (hj : j < 5) (hw : w < 5) : pt9 T a b v (ti i j w) = if (i = b ∧ j = a ∧ w = v) ∨ (i = a ∧ j = b ∧ w = v) then T (ti a b v) + 1 else T (ti i j w) := by
  unfold pt9
  rw [fu_app, fu_app]
  by_cases c1 : ti i j w = ti b a v
  · rw [if_pos c1, if_pos (Or.inl ((ti_iff hj hw ha hv).1 c1))]
  · rw [if_neg c1]
    by_cases c2 : ti i j w = ti a b v
    · rw [if_pos c2, if_pos (Or.inr ((ti_iff hj hw hb hv).1 c2))]
    · rw [if_neg c2, if_neg (fun z => z.elim (fun y => c1 ((ti_iff hj hw ha hv).2 y)) (fun y => c2 ((ti_iff hj hw hb hv).2 y)))]
theorem pt9_ok {T : Nat → Int} {k a b v : Nat} (hT : TG T k) (hS : Sy9 T) (ha : 1 ≤ a ∧ a < k) (hb : 1 ≤ b ∧ b < k) (hv : v < k) (h9 : T (ti a b v) ≠ 9) : TG (pt9 T a b v) k ∧ Sy9 (pt9 T a b v) := by
  obtain ⟨⟨k1, k5⟩, t1, t2, t3, t4⟩ := hT
  have a5 : a < 5 := by omega
  have b5 : b < 5 := by omega
  have v5 : v < 5 := by omega
  have m := t1 (ti a b v) (ti_lt5 a5 b5 v5)
  refine ⟨⟨⟨k1, k5⟩, fun q hq => ?_, fun i j w hi hj hw h => ?_, fun j w hj hw => ?_, fun j w hj hw => ?_⟩, fun i j w hi hj hw => ?_⟩
  · have := t1 q hq
    unfold pt9
    rw [fu_app, fu_app]
    repeat' split
    all_goals omega
  · rw [pt9_at a5 b5 v5 hj hw, if_neg (by omega)]; exact t2 i j w hi hj hw h
  · rw [pt9_at a5 b5 v5 (by omega) (by omega), if_neg (by omega)]; exact t3 j w hj hw
  · rw [pt9_at a5 b5 v5 (by omega) (by omega), if_neg (by omega)]; exact t4 j w hj hw
  · rw [pt9_at a5 b5 v5 hj hw, pt9_at a5 b5 v5 hi hw]
    by_cases c : (i = b ∧ j = a ∧ w = v) ∨ (i = a ∧ j = b ∧ w = v)
    · rw [if_pos c, if_pos (by omega)]
    · rw [if_neg c, if_neg (by omega)]; exact hS i j w hi hj hw
theorem bT_ok {k : Nat} (h1 : 1 ≤ k) (h5 : k ≤ 5) : TG (bT k) k ∧ Sy9 (bT k) := by
  have at9 : ∀ i j w, i < 5 → j < 5 → w < 5 → bT k (ti i j w) = if w < k ∧ ((i = 0 ∧ j = w) ∨ (i = w ∧ j = 0)) then 1 else 0 := fun i j w hi hj hw => by
    unfold bT
    have e : ti i j w % 5 = w := by unfold ti; omega
    rw [e]
    by_cases c : w < k ∧ ((i = 0 ∧ j = w) ∨ (i = w ∧ j = 0))
    · rw [if_pos c, if_pos (by unfold ti; omega)]
    · rw [if_neg c, if_neg (by unfold ti; omega)]
  refine ⟨⟨⟨h1, h5⟩, fun q _ => bT_bd, fun i j w hi hj hw h => ?_, fun j w hj hw => ?_, fun j w hj hw => ?_⟩, fun i j w hi hj hw => ?_⟩
  · rw [at9 i j w hi hj hw, if_neg (by omega)]
  · rw [at9 0 j w (by omega) (by omega) (by omega)]
    by_cases c : j = w
    · rw [if_pos c, if_pos (by omega)]
    · rw [if_neg c, if_neg (by omega)]
  · rw [at9 j 0 w (by omega) (by omega) (by omega)]
    by_cases c : j = w
    · rw [if_pos c, if_pos (by omega)]
    · rw [if_neg c, if_neg (by omega)]
  · rw [at9 i j w hi hj hw, at9 j i w hj hi hw]
    by_cases c : w < k ∧ ((i = 0 ∧ j = w) ∨ (i = w ∧ j = 0))
    · rw [if_pos c, if_pos (by omega)]
    · rw [if_neg c, if_neg (by omega)]
/-- the reference's table while a sum is read -/
def SU9 (a b : Nat) (T U : Nat → Int) : Prop := ∀ i j v, i < 5 → j < 5 → v < 5 → (i = b ∧ j = a → a = b) → U (ti i j v) = T (ti i j v)
theorem SU9.pt {a b v : Nat} {T U : Nat → Int} (h : SU9 a b T U) (ha : a < 5) (hb : b < 5) (hv : v < 5) : SU9 a b (pt9 T a b v) (fu U (ti a b v) (U (ti a b v) + 1)) := by
  intro i j w hi hj hw hc
  have e := h a b v ha hb hv (by omega)
  rw [pt9_at ha hb hv hj hw, fu_app]
  by_cases c : ti i j w = ti a b v
  · rw [if_pos c, if_pos (Or.inr ((ti_iff hj hw hb hv).1 c)), e]
  · rw [if_neg c, if_neg (fun z => c ((ti_iff hj hw hb hv).2 (by omega)))]
    exact h i j w hi hj hw hc
theorem x12_cellN {a b v : Nat} {d : DA} : X12_cell (a : Int) (b : Int) (v : Int) d = some ((ti a b v : Nat) : Int) := by
  unfold X12_cell ti
  congr 1
  omega
theorem RQ9.w6 {B : Nat → Int} {n : Nat} {d0 : DA} {q k i : Nat} {v : Int} {d : DA} (h : RQ9 B n d0 q k d) : RQ9 B n d0 q k (wI d 116 i v) := by
  obtain ⟨f, h28, h3, hq, ht⟩ := h
  exact ⟨⟨fun c z1 z2 => by rw [wI_ne z2]; exact f.1 c z1 z2, f.2.1, fun j hj => by rw [wI_ne (by decide)]; exact f.2.2 j hj⟩, by rw [wI_ne (by decide)]; exact h28, fun z => by rw [wI_ne (by decide)]; exact h3 z, hq, by rw [wI_ne (by decide)]; exact ht⟩
section
variable {B : Nat → Int} {n : Nat} {d0 c0 : DA} {q k : Nat} {T : Nat → Int} {a b td : Nat} {d : DA}
theorem rd_sum (hB : Tp9 B n) (h44 : ∀ j, j < n → c0.1 44 j = B j) (h126 : ∀ j, j < n → d0.1 126 j = B j) (h23 : d0.1 113 23 = n) {ex : Nat} (hx : (ex = 6 ∧ ¬ (tR B n (tS B n q) = 1 ∧ tW B (tS B n q) (tE B n (tS B n q)) 1)) ∨ ex = 9) (hQ : RQ9 B n d0 q k d) (hT : TG T k) (hS : Sy9 T) (hU : SU9 a b T (d.1 116)) (ha : 1 ≤ a ∧ a < k) (hb : 1 ≤ b ∧ b < k) : ∃ d', X12_readSum 113 a b d = some ((), d') ∧ ((∃ q' T', RQ9 B n d0 q' k d' ∧ q < q' ∧ TG T' k ∧ Sy9 T' ∧ SU9 a b T' (d'.1 116) ∧ ¬ (tR B n (tS B n q') = 3 ∧ B (tS B n q') = 43) ∧ ∀ ft pl k9 T9, Rr9 n c0 q' 8 k T' a b td ft pl k9 T9 → Rr9 n c0 q ex k T a b td ft pl k9 T9) ∨ (∃ ft pl, FQ9 d0 ft pl d' ∧ ∀ k9 T9, Rr9 n c0 q ex k T a b td ft pl k9 T9)) := by
  have hn := hB.1
  have k5 := hT.1.2
  have a5 : a < 5 := by omega
  have b5 : b < 5 := by omega
  unfold X12_readSum
  have key := lpR_may (b := fun q => X12_readSum_b2 113 a b q.1 q.2) (k := fun e : DA => some ((), e)) (j := fun r : Unit × DA => some r) (s0 := ((1 : Int), d))
    (fun i s => (s.1 = 1 ∧ ∃ q1 T1 ex1, q + i ≤ q1 ∧ RQ9 B n d0 q1 k s.2 ∧ TG T1 k ∧ Sy9 T1 ∧ SU9 a b T1 (s.2.1 116) ∧ ((ex1 = 6 ∧ ¬ (tR B n (tS B n q1) = 1 ∧ tW B (tS B n q1) (tE B n (tS B n q1)) 1)) ∨ ex1 = 9) ∧ ∀ ft pl k9 T9, Rr9 n c0 q1 ex1 k T1 a b td ft pl k9 T9 → Rr9 n c0 q ex k T a b td ft pl k9 T9) ∨ (s.1 = 0 ∧ ∃ q' T', RQ9 B n d0 q' k s.2 ∧ q < q' ∧ TG T' k ∧ Sy9 T' ∧ SU9 a b T' (s.2.1 116) ∧ ¬ (tR B n (tS B n q') = 3 ∧ B (tS B n q') = 43) ∧ ∀ ft pl k9 T9, Rr9 n c0 q' 8 k T' a b td ft pl k9 T9 → Rr9 n c0 q ex k T a b td ft pl k9 T9))
    (fun e => match e with
      | .inl e => ∃ q' T', RQ9 B n d0 q' k e ∧ q < q' ∧ TG T' k ∧ Sy9 T' ∧ SU9 a b T' (e.1 116) ∧ ¬ (tR B n (tS B n q') = 3 ∧ B (tS B n q') = 43) ∧ ∀ ft pl k9 T9, Rr9 n c0 q' 8 k T' a b td ft pl k9 T9 → Rr9 n c0 q ex k T a b td ft pl k9 T9
      | .inr e => ∃ ft pl, FQ9 d0 ft pl e.2 ∧ ∀ k9 T9, Rr9 n c0 q ex k T a b td ft pl k9 T9)
    (n + 2) (by omega) (Or.inl ⟨rfl, q, T, ex, by omega, hQ, hT, hS, hU, hx, fun _ _ _ _ z => z⟩) (fun i s hi hI => by
      obtain ⟨v, e⟩ := s
      show (∃ s', X12_readSum_b2 113 a b v e = _ ∧ _) ∨ (∃ s', X12_readSum_b2 113 a b v e = _ ∧ _)
      rcases hI with ⟨hv, q1, T1, ex1, hq1, hQ1, hT1, hS1, hU1, hx1, hR⟩ | ⟨hv, hI⟩
      · have hv' : v = 1 := hv
        subst hv'
        have hQ1' : RQ9 B n d0 q1 k e := hQ1
        have hU1' : SU9 a b T1 (e.1 116) := hU1
        have qn := hQ1'.2.2.2.1
        have e28 := hQ1'.2.1
        have rp := fun (ft : Int) (pl k9 : Nat) (T9 : Nat → Int) => rr_p (d0 := c0) (k := k) (T := T1) (a := a) (b := b) (td := td) (ft := ft) (pl := pl) (k9 := k9) (T9 := T9) hB h44 qn hx1
        obtain ⟨kn1, kn2⟩ := rq_kind (l := 0) (by decide) hT.1 hQ1' hn
        unfold X12_readSum_b2
        rw [gd_pos (by decide), if_neg (by decide), e28, gd_pos (by decide), if_pos rfl]
        by_cases hk : kf9 B n (tS B n q1) 0 k = 0
        · obtain ⟨k1, k2, k3, k4⟩ := kn1 hk
          obtain ⟨v, hv⟩ : ∃ v : Nat, tv9 B n (tS B n q1) = v := ⟨(tv9 B n (tS B n q1)).toNat, by omega⟩
          have k1' : X12_kindNow 113 0 e = some ((v : Int), e) := by rw [← hv]; exact k1
          have v5 : v < 5 := by omega
          have tt := ti_lt5 a5 b5 v5
          have u := hU1' a b v a5 b5 v5 (by omega)
          have tb := hT1.2.1 (ti a b v) tt
          have u' : e.1 (113 + 3) (Int.toNat ((ti a b v : Nat) : Int)) = T1 (ti a b v) := by rw [Int.toNat_natCast]; exact u
          rw [bd_pos k1', e28, gd_pos (by decide), if_pos rfl, b1_pos x12_cellN, gd_pos (by omega), u', gd_pos (by omega)]
          by_cases h9 : T1 (ti a b v) = 9
          · rw [if_pos h9]
            obtain ⟨d9, w1, w2⟩ := rq_wrong (t := 2) hQ1' (by decide) hn
            have w28 := w2.2.1
            refine Or.inr ⟨.inr ((), d9), ?_, 2, tS B n q1, w2, fun k9 T9 => hR _ _ _ _ (((rp 0 0 k9 T9).1 hk v hv).2 h9)⟩
            rw [bd_pos w1]
            unfold X12_readSum_j49_2
            rw [w28, gd_pos (by decide), if_neg (by decide)]
          · rw [if_neg h9]
            obtain ⟨d3, w1, w2, w3⟩ := rq_step hB h126 h23 hQ1'
            obtain ⟨t1, t2⟩ := te_in (B := B) qn k2
            obtain ⟨p1, p2⟩ := pt9_ok hT1 hS1 ha hb (show v < k by omega) h9
            unfold X12_readSum_j49_2
            rw [e28, gd_pos (by decide), if_pos rfl, bd_pos w1, b1_pos x12_cellN, gd_pos (by omega), gd_pos (by omega), lt_pos, Int.toNat_natCast]
            show (∃ s', b1 (X12_isMarked 113 43 (wI d3 116 (ti a b v) (d3.1 116 (ti a b v) + 1))) _ = _ ∧ _) ∨ (∃ s', b1 (X12_isMarked 113 43 (wI d3 116 (ti a b v) (d3.1 116 (ti a b v) + 1))) _ = _ ∧ _)
            have Q5 : RQ9 B n d0 (tE B n (tS B n q1)) k (wI d3 116 (ti a b v) (d3.1 116 (ti a b v) + 1)) := w2.w6
            have U5 : SU9 a b (pt9 T1 a b v) ((wI d3 116 (ti a b v) (d3.1 116 (ti a b v) + 1)).1 116) := by rw [wI_at, w3]; exact hU1'.pt a5 b5 v5
            have R5 : ∀ ft pl k9 T9, Rr9 n c0 (tE B n (tS B n q1)) 8 k (pt9 T1 a b v) a b td ft pl k9 T9 → Rr9 n c0 q ex k T a b td ft pl k9 T9 := fun ft pl k9 T9 z => hR _ _ _ _ (((rp ft pl k9 T9).1 hk v hv).1 h9 z)
            have m := rq_marked (c := 43) hB h126 (by decide) Q5
            by_cases hm : tR B n (tS B n (tE B n (tS B n q1))) = 3 ∧ B (tS B n (tE B n (tS B n q1))) = 43
            · rw [if_pos hm] at m
              obtain ⟨d7, y1, y2, y3⟩ := rq_step hB h126 h23 Q5
              obtain ⟨x1, x2⟩ := te_in (B := B) t2 (by rw [hm.1]; decide)
              rw [b1_pos m, gd_pos (by decide), if_neg (by decide)]
              show (∃ s', bd (X12_stepOn 113 (wI d3 116 (ti a b v) (d3.1 116 (ti a b v) + 1))) _ = _ ∧ _) ∨ (∃ s', bd (X12_stepOn 113 (wI d3 116 (ti a b v) (d3.1 116 (ti a b v) + 1))) _ = _ ∧ _)
              rw [bd_pos y1]
              exact Or.inl ⟨(1, d7), rfl, Or.inl ⟨rfl, _, pt9 T1 a b v, 9, by omega, y2, p1, p2, by rw [y3]; exact U5, Or.inr rfl, fun ft pl k9 T9 z => R5 _ _ _ _ ((rr_8 hB h44 t2).1 hm z)⟩⟩
            · rw [if_neg hm] at m
              rw [b1_pos m, gd_pos (by decide), if_pos rfl]
              exact Or.inl ⟨(0, _), rfl, Or.inr ⟨rfl, _, pt9 T1 a b v, Q5, by omega, p1, p2, U5, hm, R5⟩⟩
        · obtain ⟨d9, w1, w2⟩ := kn2 hk
          have w28 := w2.2.1
          have wb := w2.2.2.1
          have hk' : kf9 B n (tS B n q1) ((0 : Nat) : Int) k ≠ 0 := hk
          refine Or.inr ⟨.inr ((), d9), ?_, _, _, w2, fun k9 T9 => hR _ _ _ _ ((rp 0 0 k9 T9).2 hk)⟩
          rw [bd_pos (show X12_kindNow 113 0 e = some (0, d9) from w1), w28, gd_pos (by omega), if_neg hk']
          unfold X12_readSum_j49_2
          rw [w28, gd_pos (by omega), if_neg hk']
      · have hv' : v = 0 := hv
        subst hv'
        refine Or.inr ⟨.inl e, ?_, hI⟩
        unfold X12_readSum_b2
        rw [gd_pos (by decide), if_pos rfl]) (fun s hI => by
      obtain ⟨v, e⟩ := s
      show ∃ s', X12_readSum_b2 113 a b v e = _ ∧ _
      rcases hI with ⟨hv, q1, T1, ex1, hq1, hQ1, -⟩ | ⟨hv, hI⟩
      · have := hQ1.2.2.2.1
        omega
      · have hv' : v = 0 := hv
        subst hv'
        refine ⟨.inl e, ?_, hI⟩
        unfold X12_readSum_b2
        rw [gd_pos (by decide), if_pos rfl])
  rcases key with ⟨e, g1, g2⟩ | ⟨⟨u, e⟩, g1, g2⟩
  · exact ⟨e, g1, Or.inl g2⟩
  · exact ⟨e, g1, Or.inr g2⟩
end

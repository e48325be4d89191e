/-! ===== the reference reads: its small steps ===== -/
theorem lpR_may {S E R Y : Type} {b : S → Option (S ⊕ (E ⊕ R))} {k : E → Option Y} {j : R → Option Y} {s0 : S} (I : Nat → S → Prop) (F : E ⊕ R → Prop) (r : Nat) (hr : r < 4000000) (h0 : I 0 s0) (hb : ∀ i s, i < r → I i s → (∃ s', b s = some (.inl s') ∧ I (i + 1) s') ∨ (∃ e, b s = some (.inr e) ∧ F e)) (he : ∀ s, I r s → ∃ e, b s = some (.inr e) ∧ F e) : (∃ e, lpR b s0 k j = k e ∧ F (.inl e)) ∨ (∃ e, lpR b s0 k j = j e ∧ F (.inr e)) := by
  obtain ⟨e, h1, h2⟩ := wl_may I F r hb he FUEL 0 s0 (Nat.zero_le _) (by unfold FUEL; omega) h0
  cases e with
  | inl e => exact Or.inl ⟨e, by unfold lpR; rw [h1], h2⟩
  | inr e => exact Or.inr ⟨e, by unfold lpR; rw [h1], h2⟩
def rdL (j : Nat) : Bool := j == 3 || j == 22 || j == 24 || j == 25 || j == 26 || j == 27 || j == 28 || j == 29
/-- what reading leaves -/
def Fd9 (d0 d : DA) : Prop := (∀ c, c ≠ 113 → c ≠ 116 → d.1 c = d0.1 c) ∧ d.2 = d0.2 ∧ ∀ j, rdL j = false → d.1 113 j = d0.1 113 j
theorem Fd9.w {d0 d : DA} (h : Fd9 d0 d) {j : Nat} {v : Int} (hj : rdL j = true) : Fd9 d0 (wI d 113 j v) := ⟨fun c z1 z2 => by rw [wI_ne z1]; exact h.1 c z1 z2, h.2.1, fun i hi => by rw [wI_at, fu_n (fun e => by subst e; rw [hj] at hi; cases hi)]; exact h.2.2 i hi⟩
/-- the token at q is read, and there is no fault -/
def RQ9 (B : Nat → Int) (n : Nat) (d0 : DA) (q k : Nat) (d : DA) : Prop := Fd9 d0 d ∧ d.1 113 28 = 0 ∧ (k ≠ 0 → d.1 113 3 = k) ∧ q ≤ n ∧ RT9 B n (tS B n q) (d.1 113)
/-- a fault -/
def FQ9 (d0 : DA) (ft : Int) (pl : Nat) (d : DA) : Prop := Fd9 d0 d ∧ d.1 113 28 = ft ∧ (1 ≤ ft ∧ ft ≤ 9) ∧ d.1 113 29 = pl ∧ pl ≤ 400
section
variable {B : Nat → Int} {n : Nat} {d0 : DA} {q k : Nat} {d : DA} {ft : Int} {pl : Nat}
theorem tR_4 {s : Nat} : tR B n s ≤ 4 := by
  unfold tR
  repeat' split
  all_goals omega
theorem rq_step (hB : Tp9 B n) (h126 : ∀ j, j < n → d0.1 126 j = B j) (h23 : d0.1 113 23 = n) (h : RQ9 B n d0 q k d) : ∃ d', X12_stepOn 113 d = some ((), d') ∧ RQ9 B n d0 (tE B n (tS B n q)) k d' ∧ d'.1 116 = d.1 116 := by
  obtain ⟨f, h28, h3, hq, ht⟩ := h
  obtain ⟨s1, s2, -⟩ := tS_bd (B := B) hq
  obtain ⟨e1, e2, -⟩ := tE_bd (B := B) s2
  obtain ⟨g, g1, g2, g3⟩ := x12_step (d := d) (q := tE B n (tS B n q)) hB (fun j hj => by rw [f.1 126 (by decide) (by decide)]; exact h126 j hj) (by rw [f.2.2 23 rfl]; exact h23) ht.1 e2
  refine ⟨_, g1, ⟨⟨fun c z1 z2 => by rw [wA_ne z1]; exact f.1 c z1 z2, f.2.1, fun j hj => ?_⟩, ?_, ?_, e2, ?_⟩, by rw [wA_ne (by decide)]⟩
  · rw [wA_at, g3 j (fun e => by subst e; cases hj) (fun e => by subst e; cases hj) (fun e => by subst e; cases hj) (fun e => by subst e; cases hj) (fun e => by subst e; cases hj)]; exact f.2.2 j hj
  · rw [wA_at, g3 28 (by decide) (by decide) (by decide) (by decide) (by decide)]; exact h28
  · intro z; rw [wA_at, g3 3 (by decide) (by decide) (by decide) (by decide) (by decide)]; exact h3 z
  · rw [wA_at]; exact g2
theorem rq_wrong {t : Int} (h : RQ9 B n d0 q k d) (ht : 1 ≤ t ∧ t ≤ 9) (hn : n ≤ 400) : ∃ d', X12_wrong 113 t d = some ((), d') ∧ FQ9 d0 t (tS B n q) d' := by
  obtain ⟨f, h28, h3, hq, hT⟩ := h
  refine ⟨wI (wI d 113 28 t) 113 29 (tS B n q : Nat), ?_, (f.w rfl).w rfl, ?_, ht, by rw [wI_at, fu_s], by have := tS_bd (B := B) hq; omega⟩
  · unfold X12_wrong
    rw [h28, gd_pos (by decide), if_pos rfl, lt_pos, lt_pos]
    have : (wI d 113 28 t).1 113 26 = (tS B n q : Nat) := by rw [wI_at, fu_n (by decide)]; exact hT.2.1
    rw [this]
  · rw [wI_at, fu_n (by decide), wI_at, fu_s]
theorem rq_is {a : Nat} (hB : Tp9 B n) (h126 : ∀ j, j < n → d0.1 126 j = B j) (ha : a < 2) (h : RQ9 B n d0 q k d) : ∃ v, X12_is 113 a d = some v ∧ (v = 1 ∧ (tR B n (tS B n q) = 1 ∧ tW B (tS B n q) (tE B n (tS B n q)) a) ∨ v = 0 ∧ ¬ (tR B n (tS B n q) = 1 ∧ tW B (tS B n q) (tE B n (tS B n q)) a)) := by
  obtain ⟨f, h28, h3, hq, t22, t26, t27, t24, t25⟩ := h
  have hn := hB.1
  obtain ⟨s1, s2, -⟩ := tS_bd (B := B) hq
  obtain ⟨e1, e2, -⟩ := tE_bd (B := B) s2
  have r4 := tR_4 (B := B) (n := n) (s := tS B n q)
  have no : ∃ v, X12_is_j35 113 a d = some v ∧ v = 0 := by
    refine ⟨0, ?_, rfl⟩
    unfold X12_is_j35 X12_is_j36
    refine (lpE_for (fun _ => ((0 : Int), (0 : Int))) 0 (0 : Int) rfl (by decide) (fun i hi => absurd hi (by omega)) ?_).trans (by rw [gd_pos (Or.inl rfl)])
    show X12_is_b39 113 a 0 0 d = _
    unfold X12_is_b39
    rw [gd_pos (by decide), if_pos rfl]
  unfold X12_is
  rw [h28, t24, t26, t27, gd_pos (by decide), if_pos rfl, gd_pos (by omega)]
  by_cases c1 : tR B n (tS B n q) = 1
  · rw [if_pos (by omega), gd_pos (by omega)]
    by_cases c4 : tE B n (tS B n q) = tS B n q + 4
    · rw [if_pos (by omega)]
      unfold X12_is_j36
      obtain ⟨e, g1, g2⟩ := lpE_may (b := fun q => X12_is_b39 113 a q.1 q.2 d) (k := fun e : Int => gd (e = 0 ∨ e = 1) (some e)) (s0 := ((1 : Int), (0 : Int))) (fun i v => v.2 = (i : Nat) ∧ (v.1 = 1 ∧ (∀ t, t < i → B (tS B n q + t) = strC a (t : Nat)) ∨ v.1 = 0 ∧ ¬ tW B (tS B n q) (tE B n (tS B n q)) a)) (fun e => e = 1 ∧ tW B (tS B n q) (tE B n (tS B n q)) a ∨ e = 0 ∧ ¬ tW B (tS B n q) (tE B n (tS B n q)) a) 4 (by decide) ⟨rfl, Or.inl ⟨rfl, fun t ht => absurd ht (by omega)⟩⟩ (fun i v hi hv => by
        obtain ⟨w, u⟩ := v
        obtain ⟨hu, hv⟩ := hv
        have hu' : u = (i : Nat) := hu
        subst hu'
        show (∃ s', X12_is_b39 113 a w (i : Int) d = _ ∧ _) ∨ (∃ e, X12_is_b39 113 a w (i : Int) d = _ ∧ _)
        unfold X12_is_b39
        rcases hv with ⟨hw, hv⟩ | ⟨hw, hv⟩
        · have hw' : w = 1 := hw
          subst hw'
          have ee : d.1 (113 + 13) (Int.toNat ((d.1 113 26) + (i : Int))) = B (tS B n q + i) := by
            rw [t26, show ((tS B n q : Nat) : Int) + (i : Int) = ((tS B n q + i : Nat) : Int) by omega, Int.toNat_natCast]
            show d.1 126 _ = _
            rw [f.1 126 (by decide) (by decide)]; exact h126 _ (by omega)
          have b1 := hB.2 (tS B n q + i) (by omega)
          have b2 := strC_bd a ha i hi
          rw [gd_pos (by decide), if_neg (by decide), gd_pos (by omega), if_neg (by omega), gd_pos (by omega), ee, t26, gd_pos (by omega), gd_pos (by omega)]
          by_cases ce : strC a (i : Nat) = B (tS B n q + i)
          · rw [if_pos ce]
            exact Or.inl ⟨_, rfl, by omega, Or.inl ⟨rfl, fun t ht => by
              by_cases z : t = i
              · rw [z]; exact ce.symm
              · exact hv t (by omega)⟩⟩
          · rw [if_neg ce]
            exact Or.inl ⟨_, rfl, by omega, Or.inr ⟨rfl, fun z => ce (z.2 i hi).symm⟩⟩
        · have hw' : w = 0 := hw
          subst hw'
          rw [gd_pos (by decide), if_pos rfl]
          exact Or.inr ⟨_, rfl, Or.inr ⟨rfl, hv⟩⟩) (fun v hv => by
        obtain ⟨w, u⟩ := v
        obtain ⟨hu, hv⟩ := hv
        have hu' : u = ((4 : Nat) : Int) := hu
        subst hu'
        show ∃ e, X12_is_b39 113 a w ((4 : Nat) : Int) d = _ ∧ _
        unfold X12_is_b39
        rcases hv with ⟨hw, hv⟩ | ⟨hw, hv⟩
        · have hw' : w = 1 := hw
          subst hw'
          rw [gd_pos (by decide), if_neg (by decide), gd_pos (by decide), if_pos (by decide)]
          exact ⟨_, rfl, Or.inl ⟨rfl, c4, hv⟩⟩
        · have hw' : w = 0 := hw
          subst hw'
          rw [gd_pos (by decide), if_pos rfl]
          exact ⟨_, rfl, Or.inr ⟨rfl, hv⟩⟩)
      rw [g1]
      rcases g2 with ⟨rfl, g2⟩ | ⟨rfl, g2⟩
      · exact ⟨1, by rw [gd_pos (Or.inr rfl)], Or.inl ⟨rfl, c1, g2⟩⟩
      · exact ⟨0, by rw [gd_pos (Or.inl rfl)], Or.inr ⟨rfl, fun z => g2 z.2⟩⟩
    · rw [if_neg (by omega)]
      obtain ⟨v, v1, v2⟩ := no
      exact ⟨v, v1, Or.inr ⟨v2, fun z => c4 z.2.1⟩⟩
  · rw [if_neg (by omega)]
    obtain ⟨v, v1, v2⟩ := no
    exact ⟨v, v1, Or.inr ⟨v2, fun z => c1 z.1⟩⟩
theorem fq_is {a : Nat} (h : FQ9 d0 ft pl d) : X12_is 113 a d = some 0 := by
  obtain ⟨f, h28, hf, -⟩ := h
  unfold X12_is X12_is_j35 X12_is_j36
  rw [h28, gd_pos (by omega), if_neg (by omega)]
  refine (lpE_for (fun _ => ((0 : Int), (0 : Int))) 0 (0 : Int) rfl (by decide) (fun i hi => absurd hi (by omega)) ?_).trans (by rw [gd_pos (Or.inl rfl)])
  show X12_is_b39 113 a 0 0 d = _
  unfold X12_is_b39
  rw [gd_pos (by decide), if_pos rfl]
theorem rq_marked {c : Int} (hB : Tp9 B n) (h126 : ∀ j, j < n → d0.1 126 j = B j) (hc : inR c) (h : RQ9 B n d0 q k d) : X12_isMarked 113 c d = some (if tR B n (tS B n q) = 3 ∧ B (tS B n q) = c then 1 else 0) := by
  obtain ⟨f, h28, h3, hq, t22, t26, t27, t24, t25⟩ := h
  have hn := hB.1
  obtain ⟨s1, s2, -⟩ := tS_bd (B := B) hq
  have r4 := tR_4 (B := B) (n := n) (s := tS B n q)
  unfold X12_isMarked X12_isMarked_j32
  rw [h28, t24, t26, gd_pos (by decide), if_pos rfl, gd_pos (by omega)]
  by_cases c3 : tR B n (tS B n q) = 3
  · have hs := tR_lt (B := B) (n := n) (s := tS B n q) (by omega)
    have b1 := hB.2 _ hs
    have ee : d.1 (113 + 13) (Int.toNat ((tS B n q : Nat) : Int)) = B (tS B n q) := by
      rw [Int.toNat_natCast]
      show d.1 126 _ = _
      rw [f.1 126 (by decide) (by decide)]; exact h126 _ hs
    rw [if_pos (by omega), gd_pos (by omega), ee, gd_pos (by omega)]
    by_cases y : B (tS B n q) = c
    · rw [if_pos y, if_pos ⟨c3, y⟩]
    · rw [if_neg y, if_neg (fun z => y z.2)]
  · rw [if_neg (by omega), if_neg (fun z => c3 z.1)]
theorem fq_marked {c : Int} (h : FQ9 d0 ft pl d) : X12_isMarked 113 c d = some 0 := by
  obtain ⟨f, h28, hf, -⟩ := h
  unfold X12_isMarked X12_isMarked_j32
  rw [h28, gd_pos (by omega), if_neg (by omega)]
theorem rq_mark {c : Int} (hB : Tp9 B n) (h126 : ∀ j, j < n → d0.1 126 j = B j) (h23 : d0.1 113 23 = n) (hc : inR c) (h : RQ9 B n d0 q k d) : (tR B n (tS B n q) = 3 ∧ B (tS B n q) = c → ∃ d', X12_mark 113 c d = some ((), d') ∧ RQ9 B n d0 (tE B n (tS B n q)) k d' ∧ d'.1 116 = d.1 116) ∧ (¬ (tR B n (tS B n q) = 3 ∧ B (tS B n q) = c) → ∃ d', X12_mark 113 c d = some ((), d') ∧ FQ9 d0 1 (tS B n q) d') := by
  have m := rq_marked hB h126 hc h
  have h28 := h.2.1
  refine ⟨fun hs => ?_, fun hs => ?_⟩
  · rw [if_pos hs] at m
    obtain ⟨d', g1, g2, g3⟩ := rq_step hB h126 h23 h
    refine ⟨d', ?_, g2, g3⟩
    unfold X12_mark X12_mark_j20
    rw [h28, gd_pos (by decide), if_pos rfl, b1_pos m, gd_pos (by decide), if_neg (by decide), gd_pos (by decide), if_pos rfl, bd_pos g1]
  · rw [if_neg hs] at m
    obtain ⟨d', g1, g2⟩ := rq_wrong (t := 1) h (by decide) hB.1
    refine ⟨d', ?_, g2⟩
    have g28 : d'.1 113 28 = 1 := g2.2.1
    unfold X12_mark X12_mark_j20
    rw [h28, gd_pos (by decide), if_pos rfl, b1_pos m, gd_pos (by decide), if_pos rfl, bd_pos g1, g28, gd_pos (by decide), if_neg (by decide)]
theorem fq_mark {c : Int} (h : FQ9 d0 ft pl d) : X12_mark 113 c d = some ((), d) := by
  obtain ⟨f, h28, hf, -⟩ := h
  unfold X12_mark X12_mark_j20
  rw [h28, gd_pos (by omega), if_neg (by omega), gd_pos (by omega), if_neg (by omega)]
theorem rq_kind {l : Nat} (hl : l ≤ 1) (hk5 : 1 ≤ k ∧ k ≤ 5) (h : RQ9 B n d0 q k d) (hn : n ≤ 400) : (kf9 B n (tS B n q) l k = 0 → X12_kindNow 113 l d = some (tv9 B n (tS B n q), d) ∧ tR B n (tS B n q) ≠ 0 ∧ (l : Int) ≤ tv9 B n (tS B n q) ∧ tv9 B n (tS B n q) < k) ∧ (kf9 B n (tS B n q) l k ≠ 0 → ∃ d', X12_kindNow 113 l d = some (0, d') ∧ FQ9 d0 (kf9 B n (tS B n q) l k) (tS B n q) d') := by
  have wr : ∀ t : Int, 1 ≤ t ∧ t ≤ 9 → ∃ d', X12_wrong 113 t d = some ((), d') ∧ X12_kindNow_j70 113 d' = some (0, d') ∧ FQ9 d0 t (tS B n q) d' := fun t ht => by
    obtain ⟨d', g1, g2⟩ := rq_wrong h ht hn
    refine ⟨d', g1, ?_, g2⟩
    have := g2.2.1
    unfold X12_kindNow_j70
    rw [this, gd_pos (by omega), if_neg (by omega)]
  obtain ⟨f, h28, h3, hq, t22, t26, t27, t24, t25⟩ := h
  have h3 := h3 (by omega)
  obtain ⟨s1, s2, -⟩ := tS_bd (B := B) hq
  obtain ⟨e1, e2, -⟩ := tE_bd (B := B) s2
  have r4 := tR_4 (B := B) (n := n) (s := tS B n q)
  unfold X12_kindNow X12_kindNow_j65
  rw [h28, t24, t26, t27, gd_pos (by decide), if_pos rfl, gd_pos (by omega)]
  unfold kf9
  by_cases c2 : tR B n (tS B n q) = 2
  · rw [if_pos (show ((tR B n (tS B n q) : Nat) : Int) = 2 by omega), if_pos c2, gd_pos (by omega)]
    by_cases c3 : tE B n (tS B n q) - tS B n q ≤ 3
    · have v := t25 c2 c3
      have v' : d.1 113 25 = tv9 B n (tS B n q) := v
      have vb := tv9_bd s2 c2 c3
      rw [if_pos (show ((tE B n (tS B n q) : Nat) : Int) - (tS B n q : Nat) ≤ 3 by omega), if_pos c3, v', h3, gd_pos (by omega)]
      by_cases y1 : tv9 B n (tS B n q) < l
      · rw [if_pos y1, if_pos (Or.inl y1)]
        refine ⟨fun z => absurd z (by decide), fun _ => ?_⟩
        obtain ⟨d', g1, g2, g3⟩ := wr 3 (by decide)
        exact ⟨d', by rw [bd_pos g1, g2], g3⟩
      · rw [if_neg y1, gd_pos (by omega)]
        by_cases y2 : tv9 B n (tS B n q) < k
        · rw [if_pos y2, if_neg (show ¬ (tv9 B n (tS B n q) < l ∨ (k : Int) ≤ tv9 B n (tS B n q)) by omega)]
          refine ⟨fun _ => ⟨?_, by omega, by omega, y2⟩, fun z => absurd rfl z⟩
          unfold X12_kindNow_j70
          rw [h28, gd_pos (by decide), if_pos rfl, v']
        · rw [if_neg y2, if_pos (show tv9 B n (tS B n q) < l ∨ (k : Int) ≤ tv9 B n (tS B n q) by omega)]
          refine ⟨fun z => absurd z (by decide), fun _ => ?_⟩
          obtain ⟨d', g1, g2, g3⟩ := wr 3 (by decide)
          exact ⟨d', by rw [bd_pos g1, g2], g3⟩
    · rw [if_neg (show ¬ ((tE B n (tS B n q) : Nat) : Int) - (tS B n q : Nat) ≤ 3 by omega), if_neg c3]
      refine ⟨fun z => absurd z (by decide), fun _ => ?_⟩
      obtain ⟨d', g1, g2, g3⟩ := wr 2 (by decide)
      exact ⟨d', by rw [bd_pos g1, g2], g3⟩
  · rw [if_neg (show ¬ ((tR B n (tS B n q) : Nat) : Int) = 2 by omega), if_neg c2]
    refine ⟨fun z => absurd z (by decide), fun _ => ?_⟩
    obtain ⟨d', g1, g2, g3⟩ := wr 1 (by decide)
    exact ⟨d', by rw [bd_pos g1, g2], g3⟩
theorem fq_kind {l : Int} (h : FQ9 d0 ft pl d) : X12_kindNow 113 l d = some (0, d) := by
  obtain ⟨f, h28, hf, -⟩ := h
  unfold X12_kindNow
  rw [h28, gd_pos (by omega), if_neg (by omega)]
end

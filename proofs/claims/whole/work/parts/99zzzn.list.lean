/-! ===== list: the reference's rows ===== -/
section
variable {lr w lb : Nat}
/-- the row with the number X is one of the list -/
def GdN (lr w lb X : Nat) : Prop := (∀ i j k l, 1 ≤ i → i < k → k < lr → 1 ≤ j → j < lr → 1 ≤ l → l < lr → AsN lr w (fg0 lb X (gcn lr w)) i j k l) ∧ LstN lr w (fg0 lb X (gcn lr w))
theorem fg0_bd {X n g : Nat} (hl : lb ≤ 5) : 0 ≤ fg0 lb X n g ∧ fg0 lb X n g ≤ 9 := by
  unfold fg0 dg9
  have := Nat.mod_lt (X / (lb + 1) ^ (n - 1 - g)) (show lb + 1 > 0 by omega)
  omega
theorem laid9 {X : Nat} {f0 f g : Nat → Int} (hq : (lr, w) ∈ lw5) (hl : lb ≤ 5) (s : St (pre g (fun _ => 0) 125) (bgS lr) f0) (h : Wt (tkV lr w (fg0 lb X (gcn lr w))) lr f0 (fun _ _ _ => True) f) : (∀ q, q < 125 → 0 ≤ f q ∧ f q ≤ 9) ∧ ∀ a b c, a < lr → b < lr → c < lr → f (ti a b c) = tkG lr w (fg0 lb X (gcn lr w)) a b c := by
  obtain ⟨h2, h4, -, -⟩ := lw5_bd hq
  have T := h.TG9 (show 1 ≤ lr by omega) (show lr ≤ 5 by omega) s (fun i j k _ => tkV_bd hl i j k)
  refine ⟨T.2.1, fun a b c ha hb hc => ?_⟩
  unfold tkG
  by_cases c1 : a = 0
  · rw [if_pos c1, c1]
    unfold dk9
    exact T.2.2.2.1 b c hb hc
  · rw [if_neg c1]
    by_cases c2 : b = 0
    · rw [if_pos c2, c2]
      unfold dk9
      exact T.2.2.2.2 a c ha hc
    · rw [if_neg c2]
      exact h.1 a b c ⟨⟨by omega, ha⟩, ⟨by omega, hb⟩, hc⟩ trivial
theorem asG_iff {fg : Nat → Int} {U : Nat → Int} (h : ∀ a b c, a < lr → b < lr → c < lr → U (ti a b c) = tkG lr w fg a b c) {i j k l : Nat} (hi : i < lr) (hj : j < lr) (hk : k < lr) (hl : l < lr) : AsG U lr i j k l ↔ AsN lr w fg i j k l := by
  unfold AsG AsN
  rw [sm_congr lr (fun e he => by rw [h i j e hi hj he, h e k l he hk hl, h j k e hj hk he, h i e l hi he hl])]
/-- how far the reference has come -/
def RW9 (d0 : DA) (G : Nat → Bool) (base w M : Nat) (d : DA) : Prop := d.2 = d0.2 ∧ (∀ c, c ≠ 113 → c ≠ 116 → c ≠ 129 → c ≠ 130 → c ≠ 132 → c ≠ 133 → c ≠ 134 → d.1 c = d0.1 c) ∧ (∀ j, j ≠ 3 → j ≠ 33 → d.1 113 j = d0.1 113 j) ∧ d.1 113 33 = ((base + cn9 G M : Nat) : Int) ∧ (∀ q, q < base → d.1 129 q = d0.1 129 q ∧ d.1 130 q = d0.1 130 q) ∧ ∀ X, X < M → G X = true → d.1 129 (base + cn9 G X) = (X : Nat) ∧ d.1 130 (base + cn9 G X) = (w : Nat)
theorem RW9.skip {d0 d d' : DA} {G : Nat → Bool} {base w M : Nat} (h : RW9 d0 G base w M d) (hG : ¬ G M = true) (h2 : d'.2 = d.2) (hc : ∀ c, c ≠ 113 → c ≠ 116 → c ≠ 132 → c ≠ 133 → c ≠ 134 → d'.1 c = d.1 c) (h13 : ∀ j, j ≠ 3 → d'.1 113 j = d.1 113 j) : RW9 d0 G base w (M + 1) d' := by
  obtain ⟨a1, a2, a3, a4, a5, a6⟩ := h
  have e : cn9 G (M + 1) = cn9 G M := by rw [cn9_s, if_neg hG]; rfl
  have e129 : d'.1 129 = d.1 129 := hc 129 (by decide) (by decide) (by decide) (by decide) (by decide)
  have e130 : d'.1 130 = d.1 130 := hc 130 (by decide) (by decide) (by decide) (by decide) (by decide)
  refine ⟨h2.trans a1, fun c z1 z2 z3 z4 z5 z6 z7 => (hc c z1 z2 z5 z6 z7).trans (a2 c z1 z2 z3 z4 z5 z6 z7), fun j z1 z2 => (h13 j z1).trans (a3 j z1 z2), by rw [h13 33 (by decide), e]; exact a4, fun q hq => by rw [e129, e130]; exact a5 q hq, fun X hX gX => ?_⟩
  rw [e129, e130]
  by_cases c : X = M
  · subst c; exact absurd gX hG
  · exact a6 X (by omega) gX
theorem x12_row {d0 d : DA} {G : Nat → Bool} {base X : Nat} {v3 : Int} (hq : (lr, w) ∈ lw5) (hl : lb ≤ 5) (hN : (lb + 1) ^ gcn lr w ≤ 100000) (h3 : v3 = (((lb + 1) ^ gcn lr w : Nat) : Int)) (hG : ∀ X, X < (lb + 1) ^ gcn lr w → (G X = true ↔ GdN lr w lb X)) (hb : base + cn9 G ((lb + 1) ^ gcn lr w) ≤ 4000) (hgr : ∀ a b c, 1 ≤ a → a < lr → 1 ≤ b → b < lr → 1 ≤ c → c < lr → d0.1 131 (cl9 a b c) = (grp lr w a b c : Int)) (h36 : d0.1 113 36 = (gcn lr w : Int)) (h43 : d0.1 113 43 = (w : Int)) (hX : X < (lb + 1) ^ gcn lr w) (hR : RW9 d0 G base w X d) : ∃ d', X12_list_b113 113 lr lb v3 X d = some (.inl ((X : Int) + 1, d')) ∧ RW9 d0 G base w (X + 1) d' := by
  obtain ⟨h2, h4, hw, -⟩ := lw5_bd hq
  obtain ⟨n1, n10⟩ := gcn_bd hq
  have hR' := hR
  obtain ⟨a1, a2, a3, a4, a5, a6⟩ := hR
  have e1 := x12_figs (d := d) (lb := lb) (code := X) (n := gcn lr w) (by rw [a3 36 (by decide) (by decide)]; exact h36) hl n10 n1 (by omega)
  generalize hd1 : wA d 132 (fgR (d.1 132) (lb + 1) X (gcn lr w) 0) = d1 at e1
  have o1 : ∀ c, c ≠ 132 → d1.1 c = d.1 c := fun c z => by rw [← hd1, wA_ne z]
  have x132 : d1.1 132 = fgR (d.1 132) (lb + 1) X (gcn lr w) 0 := by rw [← hd1, wA_at]
  have g1 : ∀ a b c, 1 ≤ a → a < lr → 1 ≤ b → b < lr → 1 ≤ c → c < lr → d1.1 131 (cl9 a b c) = (grp lr w a b c : Int) := fun a b c y1 y2 y3 y4 y5 y6 => by
    rw [o1 131 (by decide), a2 131 (by decide) (by decide) (by decide) (by decide) (by decide) (by decide) (by decide)]
    exact hgr a b c y1 y2 y3 y4 y5 y6
  have w1 : d1.1 113 43 = (w : Int) := by rw [o1 113 (by decide), a3 43 (by decide) (by decide)]; exact h43
  obtain ⟨⟨u2, d2⟩, e2, f0, f, hd2, hS, hW⟩ := x12_lay (d := d1) (fg := fgR (d.1 132) (lb + 1) X (gcn lr w) 0) hq g1 x132
  have hd2' : d2 = wA (wI d1 113 3 (lr : Int)) 116 f := hd2
  obtain ⟨t1, t2⟩ := laid9 hq hl hS (hW.cong (tkV_fg hq))
  have d2116 : d2.1 116 = f := by rw [hd2', wA_at]
  have o2 : ∀ c, c ≠ 113 → c ≠ 116 → d2.1 c = d1.1 c := fun c z1 z2 => by rw [hd2', wA_ne z2, wI_ne z1]
  have o213 : ∀ j, j ≠ 3 → d2.1 113 j = d1.1 113 j := fun j z => by rw [hd2', wA_ne (by decide), wI_at, fu_n z]
  have rs := x12_rdSum (d := d2) (r := lr) (by omega) (by rw [d2116]; exact t1)
  rw [d2116] at rs
  have sums : (∀ i, 1 ≤ i → i < lr → ∀ j, 1 ≤ j → j < lr → ∀ k, 1 ≤ k → k < lr → ∀ l, 0 ≤ l → l < lr → AsG f lr i j k l) ↔ ∀ i j k l, 1 ≤ i → i < k → k < lr → 1 ≤ j → j < lr → 1 ≤ l → l < lr → AsN lr w (fg0 lb X (gcn lr w)) i j k l := by
    constructor
    · intro h i j k l i1 ik kl j1 jl l1 ll
      exact (asG_iff t2 (show i < lr by omega) jl kl ll).mp (h i i1 (by omega) j j1 jl k (by omega) kl l (by omega) ll)
    · intro h i i1 il j j1 jl k k1 kl l _ ll
      exact (asG_iff t2 il jl kl ll).mpr (AsN.all hq h i1 il j1 jl k1 kl ll)
  rw [sums] at rs
  have fr2 : d2.2 = d.2 ∧ (∀ c, c ≠ 113 → c ≠ 116 → c ≠ 132 → c ≠ 133 → c ≠ 134 → d2.1 c = d.1 c) ∧ ∀ j, j ≠ 3 → d2.1 113 j = d.1 113 j := ⟨by rw [hd2', ← hd1]; rfl, fun c z1 z2 z3 z4 z5 => by rw [o2 c z1 z2, o1 c z3], fun j z => by rw [o213 j z, o1 113 (by decide)]⟩
  have gi := hG X hX
  unfold X12_list_b113
  rw [h3, gd_pos (by omega), if_neg (by omega), bd_pos e1, w1, bd_pos e2]
  rcases rs with ⟨s1, s2⟩ | ⟨s1, s2⟩
  · have hRf : RfL d2 lr w (fg0 lb X (gcn lr w)) := by
      refine ⟨fun a b c y1 y2 y3 y4 y5 y6 => ?_, fun g hg => ⟨?_, fg0_bd hl⟩, ?_, ?_⟩
      · rw [o2 131 (by decide) (by decide)]; exact g1 a b c y1 y2 y3 y4 y5 y6
      · rw [o2 132 (by decide) (by decide), x132]
        unfold fgR
        rw [if_pos ⟨Nat.zero_le _, hg⟩]; rfl
      · rw [o213 36 (by decide), o1 113 (by decide), a3 36 (by decide) (by decide)]; exact h36
      · rw [o213 43 (by decide)]; exact w1
    obtain ⟨v, d3, e3, q1, q2, q3⟩ := x12_least hq hRf
    have fr3 : d3.2 = d.2 ∧ (∀ c, c ≠ 113 → c ≠ 116 → c ≠ 132 → c ≠ 133 → c ≠ 134 → d3.1 c = d.1 c) ∧ ∀ j, j ≠ 3 → d3.1 113 j = d.1 113 j := ⟨q1.trans fr2.1, fun c z1 z2 z3 z4 z5 => by rw [q2 c z4 z5, fr2.2.1 c z1 z2 z3 z4 z5], fun j z => by rw [q2 113 (by decide) (by decide), fr2.2.2 j z]⟩
    rw [b1_pos s2, gd_pos (by decide), if_neg (by decide), bd_pos e3]
    rcases q3 with ⟨rfl, y⟩ | ⟨rfl, y⟩
    · -- the row is taken
      have gt : G X = true := gi.mpr ⟨s1, y⟩
      have hlt := cn9_lt (P := G) hX gt
      have e : cn9 G (X + 1) = cn9 G X + 1 := by rw [cn9_s, if_pos gt]
      have x33 : d3.1 113 33 = ((base + cn9 G X : Nat) : Int) := by rw [fr3.2.2 33 (by decide)]; exact a4
      have x43 : d3.1 113 43 = (w : Int) := by rw [fr3.2.2 43 (by decide), a3 43 (by decide) (by decide)]; exact h43
      rw [gd_pos (by decide), if_neg (by decide), x33, gd_pos (by omega), lt_pos, Int.toNat_natCast]
      generalize hd4 : wI d3 (113 + 16) (base + cn9 G X) (X : Int) = d4
      have d4' : wI d3 129 (base + cn9 G X) (X : Int) = d4 := hd4
      have y33 : d4.1 113 33 = ((base + cn9 G X : Nat) : Int) := by rw [← d4', wI_ne (by decide)]; exact x33
      have y43 : d4.1 113 43 = (w : Int) := by rw [← d4', wI_ne (by decide)]; exact x43
      rw [y33, gd_pos (by omega), lt_pos, y43, Int.toNat_natCast]
      generalize hd5 : wI d4 (113 + 17) (base + cn9 G X) (w : Int) = d5
      have d5' : wI d4 130 (base + cn9 G X) (w : Int) = d5 := hd5
      have z33 : d5.1 113 33 = ((base + cn9 G X : Nat) : Int) := by rw [← d5', wI_ne (by decide)]; exact y33
      rw [z33, lt_pos]
      have f129 : d5.1 129 = fu (d.1 129) (base + cn9 G X) (X : Int) := by
        rw [← d5', wI_ne (by decide), ← d4', wI_at, fr3.2.1 129 (by decide) (by decide) (by decide) (by decide) (by decide)]
      have f130 : d5.1 130 = fu (d.1 130) (base + cn9 G X) (w : Int) := by
        rw [← d5', wI_at, ← d4', wI_ne (by decide), fr3.2.1 130 (by decide) (by decide) (by decide) (by decide) (by decide)]
      have fo : ∀ c, c ≠ 129 → c ≠ 130 → d5.1 c = d3.1 c := fun c z1 z2 => by rw [← d5', wI_ne z2, ← d4', wI_ne z1]
      refine ⟨_, rfl, ?_, fun c z1 z2 z3 z4 z5 z6 z7 => ?_, fun j z1 z2 => ?_, ?_, fun q hq9 => ?_, fun Z hZ gZ => ?_⟩
      · show d5.2 = _
        rw [← d5', ← d4']
        exact fr3.1.trans a1
      · rw [wI_ne z1, fo c z3 z4, fr3.2.1 c z1 z2 z5 z6 z7, a2 c z1 z2 z3 z4 z5 z6 z7]
      · rw [wI_at, fu_n z2, fo 113 (by decide) (by decide), fr3.2.2 j z1, a3 j z1 z2]
      · rw [wI_at, fu_s, e]; omega
      · rw [wI_ne (by decide), wI_ne (by decide), f129, f130, fu_n (by omega), fu_n (by omega)]
        exact a5 q hq9
      · rw [wI_ne (by decide), wI_ne (by decide), f129, f130]
        by_cases c : Z = X
        · subst c
          rw [fu_s, fu_s]
          exact ⟨rfl, rfl⟩
        · have := cn9_lt (P := G) (x := Z) (m := X) (by omega) gZ
          rw [fu_n (by omega), fu_n (by omega)]
          exact a6 Z (by omega) gZ
    · rw [gd_pos (by decide), if_pos rfl]
      exact ⟨d3, rfl, hR'.skip (fun z => y (gi.mp z).2) fr3.1 fr3.2.1 fr3.2.2⟩
  · rw [b1_pos s2, gd_pos (by decide), if_pos rfl]
    exact ⟨d2, rfl, hR'.skip (fun z => s1 (gi.mp z).1) fr2.1 fr2.2.1 fr2.2.2⟩
/-- one half of the reference's list -/
theorem x12_half {d : DA} {G : Nat → Bool} {base : Nat} {s1 : Int} (hq : (lr, w) ∈ lw5) (hl : lb ≤ 5) (hN : (lb + 1) ^ gcn lr w ≤ 100000) (hG : ∀ X, X < (lb + 1) ^ gcn lr w → (G X = true ↔ GdN lr w lb X)) (hb : base + cn9 G ((lb + 1) ^ gcn lr w) ≤ 4000) (h33 : d.1 113 33 = (base : Int)) (h43 : d.1 113 43 = (w : Int)) (hs : (w : Int) < s1 ∧ s1 ≤ 2) : ∃ d', X12_list_j72_58 113 lr lb (d.1 113 43) s1 d = some (.inl d') ∧ d'.2 = d.2 ∧ (∀ c, c ≠ 113 → c ≠ 116 → c ≠ 129 → c ≠ 130 → c ≠ 131 → c ≠ 132 → c ≠ 133 → c ≠ 134 → d'.1 c = d.1 c) ∧ (∀ j, j ≠ 3 → j ≠ 33 → j ≠ 36 → j ≠ 43 → d'.1 113 j = d.1 113 j) ∧ d'.1 113 43 = (w : Int) + 1 ∧ d'.1 113 33 = ((base + cn9 G ((lb + 1) ^ gcn lr w) : Nat) : Int) ∧ (∀ q, q < base → d'.1 129 q = d.1 129 q ∧ d'.1 130 q = d.1 130 q) ∧ ∀ i, i < cn9 G ((lb + 1) ^ gcn lr w) → d'.1 129 (base + i) = (pk9 G ((lb + 1) ^ gcn lr w) i : Nat) ∧ d'.1 130 (base + i) = (w : Nat) := by
  obtain ⟨h2, h4, hw, -⟩ := lw5_bd hq
  obtain ⟨n1, n10⟩ := gcn_bd hq
  obtain ⟨g, e1, e2⟩ := x12_tg (d := d) hq
  generalize hd1 : mdG d (g, gcn lr w) = d1 at e1
  have o1 : ∀ c, c ≠ 113 → c ≠ 131 → d1.1 c = d.1 c := fun c y1 y2 => by rw [← hd1]; unfold mdG; rw [wA_ne y2, wI_ne y1]
  have o113 : ∀ j, j ≠ 36 → d1.1 113 j = d.1 113 j := fun j y => by rw [← hd1]; unfold mdG; rw [wA_ne (by decide), wI_at, fu_n y]
  have a36 : d1.1 113 36 = (gcn lr w : Int) := by rw [← hd1]; unfold mdG; rw [wA_ne (by decide), wI_at, fu_s]
  have a131 : d1.1 131 = g := by rw [← hd1]; unfold mdG; rw [wA_at]
  have a43 : d1.1 113 43 = (w : Int) := by rw [o113 43 (by decide)]; exact h43
  unfold X12_list_j72_58
  rw [h43, gd_pos (by omega), if_neg (by omega), bd_pos e1]
  have prod : lpE (fun q => X12_list_b89 113 lr lb q.1 q.2 d1) (1, 0) (fun e => X12_list_j110_58 113 lr lb e d1) = X12_list_j110_58 113 lr lb (((lb + 1) ^ gcn lr w : Nat) : Int) d1 := by
    refine lpE_for (fun m => ((((lb + 1) ^ m : Nat) : Int), (m : Int))) (gcn lr w) _ ?_ (by omega) (fun m hm => ?_) ?_
    · show ((1 : Int), (0 : Int)) = ((((lb + 1) ^ 0 : Nat) : Int), ((0 : Nat) : Int))
      rw [Nat.pow_zero]; rfl
    · show X12_list_b89 113 lr lb (((lb + 1) ^ m : Nat) : Int) (m : Int) d1 = _
      unfold X12_list_b89
      rw [a36, gd_pos (by omega), if_neg (by omega), lt_pos]
      refine congrArg some (congrArg Sum.inl (Prod.ext ?_ rfl))
      show (((lb + 1) ^ m : Nat) : Int) * ((lb : Int) + 1) = (((lb + 1) ^ (m + 1) : Nat) : Int)
      rw [Nat.pow_succ]
      exact (Int.natCast_mul _ _).symm
    · show X12_list_b89 113 lr lb (((lb + 1) ^ gcn lr w : Nat) : Int) (gcn lr w : Int) d1 = _
      unfold X12_list_b89
      rw [a36, gd_pos (by omega), if_pos (by omega)]
  rw [prod]
  unfold X12_list_j110_58
  obtain ⟨d2, k1, k2⟩ := lpE_inv (b := fun q : Int × DA => X12_list_b113 113 lr lb (((lb + 1) ^ gcn lr w : Nat) : Int) q.1 q.2) (k := fun e => X12_list_j196_58 113 lr lb e) (s0 := (0, d1)) (fun X s => s.1 = (X : Int) ∧ RW9 d1 G base w X s.2) (fun e => RW9 d1 G base w ((lb + 1) ^ gcn lr w) e) ((lb + 1) ^ gcn lr w) (by omega) ⟨rfl, rfl, fun _ _ _ _ _ _ _ _ => rfl, fun _ _ _ => rfl, by show d1.1 113 33 = _; rw [o113 33 (by decide), h33]; rfl, fun _ _ => ⟨rfl, rfl⟩, fun X hX => absurd hX (Nat.not_lt_zero _)⟩ (fun X s hX hI => by
    obtain ⟨v, e⟩ := s
    obtain ⟨y1, y2⟩ := hI
    dsimp only at y1 y2 ⊢
    subst y1
    obtain ⟨d', z1, z2⟩ := x12_row hq hl hN rfl hG hb (fun a b c y1 y2 y3 y4 y5 y6 => by rw [a131]; exact e2 a b c y1 y2 y3 y4 y5 y6) a36 a43 hX y2
    exact ⟨_, z1, by show (X : Int) + 1 = ((X + 1 : Nat) : Int); omega, z2⟩) (fun s hI => by
    obtain ⟨v, e⟩ := s
    obtain ⟨y1, y2⟩ := hI
    dsimp only at y1 y2 ⊢
    subst y1
    refine ⟨e, ?_, y2⟩
    unfold X12_list_b113
    rw [gd_pos (by omega), if_pos (by omega)])
  rw [k1]
  obtain ⟨a1, a2, a3, a4, a5, a6⟩ := k2
  have x43 : d2.1 113 43 = (w : Int) := by rw [a3 43 (by decide) (by decide)]; exact a43
  refine ⟨wI d2 113 43 ((w : Int) + 1), ?_, ?_, fun c z1 z2 z3 z4 z5 z6 z7 z8 => ?_, fun j z1 z2 z3 z4 => ?_, by rw [wI_at, fu_s], ?_, fun q hq9 => ?_, fun i hi => ?_⟩
  · unfold X12_list_j196_58
    rw [x43, lt_pos]
  · show d2.2 = _
    rw [a1, ← hd1]; rfl
  · rw [wI_ne z1, a2 c z1 z2 z3 z4 z6 z7 z8, o1 c z1 z5]
  · rw [wI_at, fu_n z4, a3 j z1 z2, o113 j z3]
  · rw [wI_at, fu_n (by decide)]; exact a4
  · rw [wI_ne (by decide), wI_ne (by decide), (a5 q hq9).1, (a5 q hq9).2, o1 129 (by decide) (by decide), o1 130 (by decide) (by decide)]
    exact ⟨rfl, rfl⟩
  · have k := pk9_ok (P := G) hi
    have := a6 _ k.1 k.2.1
    rw [k.2.2] at this
    rw [wI_ne (by decide), wI_ne (by decide)]
    exact this
end

/-! ===== solve: the class goes through the rows ===== -/
section
variable {n : Nat → Int} {p : Nat} {iv : Int → Int}
/-- what the search leaves alone, and what it has found below M -/
def SF9 (d0 : DA) (n : Nat → Int) (p : Nat) (G : Nat → Bool) (M : Nat) (d : DA) : Prop := d.2 = d0.2 ∧ (∀ c j, c ≠ 60 → c ≠ 82 → c ≠ 84 → c ≠ 92 → c ≠ 99 → c ≠ 100 → (c ≠ 81 ∨ j ≠ 1) → d.1 c j = d0.1 c j) ∧ d.1 81 1 = (cn9 G M : Int) ∧ (cn9 G M ≠ 0 → ∀ j, j < cn9 (trq n) 8 → d.1 82 j = (dg9 p (pk9 G (p ^ cn9 (trq n) 8) 0) (cn9 (trq n) 8) j : Int))
/-- how far the search has come -/
def SR9 (d0 : DA) (n : Nat → Int) (p : Nat) (G : Nat → Bool) (d : DA) (g Y t : Nat) : Prop := SF9 d0 n p G ((Y * p + t) * p ^ (cn9 (trq n) 8 - 1 - g)) d ∧ (∀ Q, (∀ j, j < cn9 (trq n) 8 → Q ≠ Uq n j) → d.1 92 Q = d0.1 92 Q) ∧ (∀ j, j < cn9 (trq n) 8 → 0 ≤ d.1 92 (Uq n j) ∧ d.1 92 (Uq n j) < p) ∧ (∀ j, j < g → d.1 84 j = (dg9 p Y g j : Int) ∧ d.1 92 (Uq n j) = (dg9 p Y g j : Int)) ∧ d.1 84 g = (t : Int) - 1 ∧ ∀ y, y < 32 → pnq n y = true → ls9 (cn9 (trq n) 8) (Uq n) (xq9 y) < (g : Int) → pnH (d.1 92) p 2 (xq9 y)
theorem SF9.sx {d0 d : DA} {G : Nat → Bool} {M : Nat} (h : SF9 d0 n p G M d) (hX : SX9 d0 n p (cn9 (trq n) 8) (Uq n) iv) : SX9 d n p (cn9 (trq n) 8) (Uq n) iv := by
  obtain ⟨a1, a2, a3, a4⟩ := h
  have w : ∀ c, c ≠ 60 → c ≠ 82 → c ≠ 84 → c ≠ 92 → c ≠ 99 → c ≠ 100 → c ≠ 81 → d.1 c = d0.1 c := fun c z1 z2 z3 z4 z5 z6 z7 => funext fun j => a2 c j z1 z2 z3 z4 z5 z6 (Or.inl z7)
  unfold SX9 ST9 at hX ⊢
  rw [w 85 (by decide) (by decide) (by decide) (by decide) (by decide) (by decide) (by decide), w 86 (by decide) (by decide) (by decide) (by decide) (by decide) (by decide) (by decide), w 58 (by decide) (by decide) (by decide) (by decide) (by decide) (by decide) (by decide), w 59 (by decide) (by decide) (by decide) (by decide) (by decide) (by decide) (by decide), w 83 (by decide) (by decide) (by decide) (by decide) (by decide) (by decide) (by decide), w 97 (by decide) (by decide) (by decide) (by decide) (by decide) (by decide) (by decide), w 98 (by decide) (by decide) (by decide) (by decide) (by decide) (by decide) (by decide), a2 81 2 (by decide) (by decide) (by decide) (by decide) (by decide) (by decide) (Or.inr (by decide)), a2 81 10 (by decide) (by decide) (by decide) (by decide) (by decide) (by decide) (Or.inr (by decide))]
  exact hX
theorem SF9.w {d0 d d' : DA} {G : Nat → Bool} {M : Nat} (h : SF9 d0 n p G M d) (h2 : d'.2 = d.2) (hq : ∀ c, c ≠ 60 → c ≠ 84 → c ≠ 92 → c ≠ 99 → c ≠ 100 → d'.1 c = d.1 c) : SF9 d0 n p G M d' := by
  obtain ⟨a1, a2, a3, a4⟩ := h
  refine ⟨h2.trans a1, fun c j z1 z2 z3 z4 z5 z6 z7 => by rw [hq c z1 z3 z4 z5 z6]; exact a2 c j z1 z2 z3 z4 z5 z6 z7, by rw [hq 81 (by decide) (by decide) (by decide) (by decide) (by decide)]; exact a3, by rw [hq 82 (by decide) (by decide) (by decide) (by decide) (by decide)]; exact a4⟩
theorem x5_addR {d : DA} {u A : Nat} (hu : d.1 81 2 = u) (h5 : u ≤ 5) (h1 : d.1 81 1 = A) (hA : A ≤ 1000000) : ∃ d', X5_addRow 81 d = some ((), d') ∧ d'.2 = d.2 ∧ (∀ c j, c ≠ 82 → (c ≠ 81 ∨ j ≠ 1) → d'.1 c j = d.1 c j) ∧ d'.1 81 1 = ((A + 1 : Nat) : Int) ∧ (A = 0 → ∀ j, j < u → d'.1 82 j = d.1 84 j) ∧ (A ≠ 0 → d'.1 82 = d.1 82) := by
  unfold X5_addRow
  rw [h1, gd_pos (by omega)]
  have j24 : ∀ e : DA, e.1 81 1 = A → X5_addRow_j24 81 e = some ((), wI e 81 1 ((A : Int) + 1)) := fun e he => by
    unfold X5_addRow_j24
    rw [he, lt_pos]
  by_cases c : A = 0
  · rw [if_pos (by omega), hu, gd_pos (by unfold cpg; omega), lt_pos]
    have e1 : cpI d (81 + 3) 0 (81 + 1) 0 ((u : Nat) : Int) = wA d 82 (pre (d.1 82) (d.1 84) u) := cp_A
    rw [e1, j24 _ (by rw [wA_ne (by decide)]; exact h1)]
    refine ⟨_, rfl, rfl, fun c j z1 z2 => ?_, by rw [wI_at, fu_s]; rfl, fun _ j hj => by rw [wI_ne (by decide), wA_at, pre_lt hj], fun z => absurd c z⟩
    by_cases e : c = 81
    · subst e; rw [wI_at, fu_n (by omega), wA_ne (by decide)]
    · rw [wI_ne e, wA_ne z1]
  · rw [if_neg (by omega), j24 d h1]
    refine ⟨_, rfl, rfl, fun c j z1 z2 => ?_, by rw [wI_at, fu_s]; rfl, fun z => absurd z c, fun _ => by rw [wI_ne (by decide)]⟩
    by_cases e : c = 81
    · subst e; rw [wI_at, fu_n (by omega)]
    · rw [wI_ne e]
theorem x5_srch {d0 : DA} {G : Nat → Bool} (hT : TG n 2) (hX : SX9 d0 n p (cn9 (trq n) 8) (Uq n) iv) (h2 : 2 ≤ p) (h13 : p ≤ 13) (hiv : IvG p iv) (hu : 1 ≤ cn9 (trq n) 8) (hF0 : F09 n (d0.1 92)) (hz : ∀ j, j < cn9 (trq n) 8 → d0.1 92 (Uq n j) = 0) (h1 : d0.1 81 1 = 0) (hG : ∀ X, X < p ^ cn9 (trq n) 8 → (G X = true ↔ SoA n (FX9 n p X) 2 p iv)) (hN : p ^ cn9 (trq n) 8 ≤ 400000) (hM : p * stp9 p (cn9 (trq n) 8 - 1) + 1 < 1000000) : ∃ d, X5_search 81 58 d0 = some ((), d) ∧ SF9 d0 n p G (p ^ cn9 (trq n) 8) d := by
  have hu5 := trq_5 hT
  have hp0 : 0 < p := by omega
  unfold X5_search
  rw [gd_pos (by decide), lt_pos]
  have t0 : Int.toNat 0 = 0 := rfl
  rw [t0]
  have c0 : cn9 G ((0 * p + 0) * p ^ (cn9 (trq n) 8 - 1 - 0)) = 0 := by rw [Nat.zero_mul, Nat.zero_add, Nat.zero_mul]; rfl
  have R0 : SR9 d0 n p G (wI d0 (81 + 3) 0 (-1)) 0 0 0 := by
    refine ⟨⟨rfl, fun c j z1 z2 z3 z4 z5 z6 z7 => by rw [wI_ne (show c ≠ 81 + 3 from z3)], ?_, fun z => absurd c0 z⟩, fun Q _ => by rw [wI_ne (by decide)], fun j hj => ?_, fun j hj => absurd hj (Nat.not_lt_zero _), ?_, fun y hy hz9 hl => ?_⟩
    · rw [c0, wI_ne (by decide)]; exact h1
    · rw [wI_ne (by decide), hz j hj]; omega
    · show (wI d0 84 0 (-1)).1 84 0 = _
      rw [wI_at, fu_s]; rfl
    · have := ls9_nn hT hy hz9
      omega
  have fbd : ∀ d : DA, (∀ Q, (∀ j, j < cn9 (trq n) 8 → Q ≠ Uq n j) → d.1 92 Q = d0.1 92 Q) → (∀ j, j < cn9 (trq n) 8 → 0 ≤ d.1 92 (Uq n j) ∧ d.1 92 (Uq n j) < p) → FB9 (d.1 92) p := fun d off on a b c e g h ha hb hc he hg hh => by
    by_cases t : isTr n a b c e g h
    · by_cases z : a = 0 ∨ b = 0 ∨ c = 0
      · rw [off _ (Uq_no ha hb hc he hg hh (fun y => y.2 z)), (hF0 a b c e g h ha hb hc he hg hh).1 t z]; omega
      · have q1 : a = 1 := by omega
        have q2 : b = 1 := by omega
        have q3 : c = 1 := by omega
        subst q1 q2 q3
        obtain ⟨u1, u2⟩ := Uq_of he hg hh t
        rw [← u2]; exact on _ u1
    · rw [off _ (Uq_no ha hb hc he hg hh (fun y => t y.1)), (hF0 a b c e g h ha hb hc he hg hh).2 t]; omega
  obtain ⟨d, k1, k2⟩ := dfs9 (b := fun q : Int × Int × DA => X5_search_b11 81 58 q.1 q.2.1 q.2.2) (k := fun e : DA => some ((), e)) p (cn9 (trq n) 8) (SR9 d0 n p G) (SF9 d0 n p G (p ^ cn9 (trq n) 8)) hu hM (fun g Y d s hg hY hR hs => by
    obtain ⟨r1, r2, r3, r4, r5, r6⟩ := hR
    have hXd := r1.sx hX
    have p58 : d.1 58 0 = p := hXd.2.1
    refine ⟨wI d (81 + 3) g (p : Int), ?_, fun e => ?_, fun g' Y' w eg eY hw => ?_⟩
    · show X5_search_b11 81 58 (g : Int) (s : Int) d = _
      unfold X5_search_b11
      have r5' : d.1 (81 + 3) g = (p : Int) - 1 := r5
      have e1 : (p : Int) - 1 + 1 = (p : Int) := by omega
      rw [gd_pos (by omega), if_neg (by omega), gd_pos (by omega), if_neg (by omega), gd_pos (by omega), gd_pos (by omega), Int.toNat_natCast, r5', e1, lt_pos, gd_pos (by omega)]
      have e2 : (wI d (81 + 3) g (p : Int)).1 (81 + 3) g = (p : Int) := by rw [wI_at, fu_s]
      have e3 : (wI d (81 + 3) g (p : Int)).1 58 0 = (p : Int) := by rw [wI_ne (by decide)]; exact p58
      rw [e2, e3, gd_pos (by omega), if_neg (by omega)]
    · subst e
      have eY : Y = 0 := by rw [Nat.pow_zero] at hY; omega
      have em : (Y * p + p) * p ^ (cn9 (trq n) 8 - 1 - 0) = p ^ cn9 (trq n) 8 := by
        rw [eY, Nat.zero_mul, Nat.zero_add, Nat.sub_zero, Nat.mul_comm, ← Nat.pow_succ, show (cn9 (trq n) 8 - 1).succ = cn9 (trq n) 8 by omega]
      rw [em] at r1
      exact r1.w rfl (fun c z1 z2 z3 z4 z5 => wI_ne z2)
    · subst eg eY
      have em := ac_up (B := p) (L := cn9 (trq n) 8) (g := g') (Y := Y' * p + w) hg
      rw [em] at r1
      refine ⟨?_, fun Q hQ => by rw [wI_ne (by decide)]; exact r2 Q hQ, fun j hj => by rw [wI_ne (by decide)]; exact r3 j hj, fun j hj => ?_, ?_, fun y hy hz9 hl => ?_⟩
      · rw [show Y' * p + (w + 1) = Y' * p + w + 1 by omega]
        exact r1.w rfl (fun c z1 z2 z3 z4 z5 => wI_ne z2)
      · obtain ⟨q1, q2⟩ := r4 j (by omega)
        rw [dg_ch hw hj] at q1 q2
        refine ⟨?_, by rw [wI_ne (by decide)]; exact q2⟩
        show (wI d 84 (g' + 1) (p : Int)).1 84 j = _
        rw [wI_at, fu_n (by omega)]; exact q1
      · obtain ⟨q1, q2⟩ := r4 g' (by omega)
        rw [dg_la hw] at q1
        show (wI d 84 (g' + 1) (p : Int)).1 84 g' = _
        rw [wI_at, fu_n (by omega), q1]; omega
      · have e92 : (wI d (81 + 3) (g' + 1) (p : Int)).1 92 = d.1 92 := wI_ne (by decide)
        rw [e92]
        exact r6 y hy hz9 (by omega)) (fun g Y t d s hg ht hY hR hs => by
    obtain ⟨r1, r2, r3, r4, r5, r6⟩ := hR
    have hXd := r1.sx hX
    have p58 : d.1 58 0 = p := hXd.2.1
    have r5' : d.1 (81 + 3) g = (t : Int) - 1 := r5
    have e1 : (t : Int) - 1 + 1 = (t : Int) := by omega
    generalize hd3 : wI (wI d (81 + 3) g (t : Int)) (81 + 10 + 1) (Uq n g) (t : Int) = d3
    have D84 : d3.1 84 = fu (d.1 84) g (t : Int) := by
      rw [← hd3]
      show (wI (wI d 84 g (t : Int)) 92 _ _).1 84 = _
      rw [wI_ne (by decide), wI_at]
    have D92 : d3.1 92 = fu (d.1 92) (Uq n g) (t : Int) := by
      rw [← hd3]
      show (wI (wI d 84 g (t : Int)) 92 _ _).1 92 = _
      rw [wI_at, wI_ne (by decide)]
    have Do : ∀ c, c ≠ 84 → c ≠ 92 → d3.1 c = d.1 c := fun c z1 z2 => by
      rw [← hd3, wI_ne (show c ≠ 81 + 10 + 1 from z2), wI_ne (show c ≠ 81 + 3 from z1)]
    have D2 : d3.2 = d.2 := by rw [← hd3]; rfl
    have s1 : SF9 d0 n p G ((Y * p + t) * p ^ (cn9 (trq n) 8 - 1 - g)) d3 := r1.w D2 (fun c z1 z2 z3 z4 z5 => Do c z2 z3)
    have off : ∀ Q, (∀ j, j < cn9 (trq n) 8 → Q ≠ Uq n j) → d3.1 92 Q = d0.1 92 Q := fun Q hQ => by rw [D92, fu_n (hQ g hg)]; exact r2 Q hQ
    have onb : ∀ j, j < cn9 (trq n) 8 → 0 ≤ d3.1 92 (Uq n j) ∧ d3.1 92 (Uq n j) < p := fun j hj => by
      rw [D92, fu_app]
      by_cases e : Uq n j = Uq n g
      · rw [if_pos e]; omega
      · rw [if_neg e]; exact r3 j hj
    have on : ∀ j, j ≤ g → d3.1 92 (Uq n j) = (dg9 p (Y * p + t) (g + 1) j : Int) := fun j hj => by
      rw [D92, fu_app]
      by_cases e : j = g
      · rw [if_pos (by rw [e]), e, dg_la ht]
      · rw [if_neg (fun z => e (Uq_inj j g (by omega) hg z)), (r4 j (by omega)).2, dg_ch ht (by omega)]
    have row : ∀ j, j ≤ g → d3.1 84 j = (dg9 p (Y * p + t) (g + 1) j : Int) := fun j hj => by
      rw [D84, fu_app]
      by_cases e : j = g
      · rw [if_pos e, e, dg_la ht]
      · rw [if_neg e, (r4 j (by omega)).1, dg_ch ht (by omega)]
    have hXd3 := s1.sx hX
    have hFB := fbd d3 off onb
    -- pentagons that were whole stay whole
    have old : ∀ y, y < 32 → pnq n y = true → ls9 (cn9 (trq n) 8) (Uq n) (xq9 y) < (g : Int) → pnH (d3.1 92) p 2 (xq9 y) := fun y hy hz9 hl => by
      refine (pn_agr (n := n) (F := d.1 92) (F' := d3.1 92) hy (fun a b c e f h ha hb hc he hf hh hli => ?_)).mp (r6 y hy hz9 hl)
      rw [D92, fu_app]
      by_cases e9 : six a b c e f h = Uq n g
      · exfalso
        rw [e9, li9_at Uq_inj hg] at hli
        omega
      · rw [if_neg e9]
    have agree : ∀ X, X / p ^ (cn9 (trq n) 8 - 1 - g) = Y * p + t → ∀ y, y < 32 → ls9 (cn9 (trq n) 8) (Uq n) (xq9 y) ≤ (g : Int) → (pnH (d3.1 92) p 2 (xq9 y) ↔ pnH (FX9 n p X) p 2 (xq9 y)) := fun X hX9 y hy hl => pn_agr (n := n) hy (fun a b c e f h ha hb hc he hf hh hli => agr9 hF0 off on hp0 hg hX9 ha hb hc he hf hh (by omega))
    have ph := x5_ph (d := d3) (g := g) hXd3 h2 (by omega) hu5 hg hFB
    have head : ∀ v, X5_pentagonsHold 81 58 g d3 = some v → inR v → X5_search_b11 81 58 (g : Int) (s : Int) d = if v = 0 then some (.inl ((g : Int), (s : Int) + 1, d3)) else (gd (inR (g : Int) ∧ inR ((d3.1 81 2) - 1)) <| if ((d3.1 81 2) - 1) ≤ (g : Int) then (bd (X5_squareTurnsBack 81 58 0 d3) fun x6 d5 => gd (inR x6) <| if x6 = 0 then (some (.inl ((g : Int), (s : Int) + 1, d5))) else bd (X5_squareTurnsBack 81 58 1 d5) fun x8 d7 => gd (inR x8) <| if x8 = 0 then (some (.inl ((g : Int), (s : Int) + 1, d7))) else bd (X5_addRow 81 d7) fun _ d9 => some (.inl ((g : Int), (s : Int) + 1, d9))) else gd (ix ((g : Int) + 1) 5) <| lt9 (wI d3 (81 + 3) (Int.toNat ((g : Int) + 1)) (-1)) fun d10 => some (.inl ((g : Int) + 1, (s : Int) + 1, d10))) := fun v hv hvR => by
      unfold X5_search_b11
      have e2 : (wI d (81 + 3) g (t : Int)).1 (81 + 3) g = (t : Int) := by rw [wI_at, fu_s]
      have e3 : (wI d (81 + 3) g (t : Int)).1 58 0 = (p : Int) := by rw [wI_ne (by decide)]; exact p58
      have e4 : (wI d (81 + 3) g (t : Int)).1 (81 + 2) g = (Uq n g : Int) := by
        rw [wI_ne (by decide)]
        exact hXd.2.2.2.2.1 g hg
      have ul := Uq_lt (n := n) (j := g)
      rw [gd_pos (by omega), if_neg (by omega), gd_pos (by omega), if_neg (by omega), gd_pos (by omega), gd_pos (by omega), Int.toNat_natCast, r5', e1, lt_pos, gd_pos (by omega), e2, e3, gd_pos (by omega), if_pos (by omega), gd_pos (by omega), gd_pos (by omega), e4, gd_pos (by omega), Int.toNat_natCast, lt_pos, hd3, b1_pos hv, gd_pos hvR]
    have u3 : d3.1 81 2 = ((cn9 (trq n) 8 : Nat) : Int) := hXd3.2.2.2.1
    have nextS : ∀ e : DA, SF9 d0 n p G ((Y * p + (t + 1)) * p ^ (cn9 (trq n) 8 - 1 - g)) e → e.1 92 = d3.1 92 → e.1 84 = d3.1 84 → SR9 d0 n p G e g Y (t + 1) := fun e he e92 e84 => by
      refine ⟨he, by rw [e92]; exact off, by rw [e92]; exact onb, fun j hj => ?_, ?_, by rw [e92]; exact old⟩
      · rw [e84, e92, row j (by omega), on j (by omega), dg_ch ht hj]; exact ⟨rfl, rfl⟩
      · rw [e84, row g (Nat.le_refl _), dg_la ht]; omega
    show (∃ H', X5_search_b11 81 58 (g : Int) (s : Int) d = _ ∧ _) ∨ _
    by_cases fit : ∀ y, y < 32 → pnq n y = true → ls9 (cn9 (trq n) 8) (Uq n) (xq9 y) = (g : Int) → pnH (d3.1 92) p 2 (xq9 y)
    · have hd9 := head 1 (ph.1 fit) (by decide)
      rw [if_neg (by decide), u3, gd_pos (by omega)] at hd9
      have good : ∀ y, y < 32 → pnq n y = true → ls9 (cn9 (trq n) 8) (Uq n) (xq9 y) ≤ (g : Int) → pnH (d3.1 92) p 2 (xq9 y) := fun y hy hz9 hl => by
        by_cases c : ls9 (cn9 (trq n) 8) (Uq n) (xq9 y) = (g : Int)
        · exact fit y hy hz9 c
        · exact old y hy hz9 (by omega)
      by_cases cl : g + 1 < cn9 (trq n) 8
      · right
        rw [if_neg (by omega), gd_pos (by omega), lt_pos, show ((g : Int) + 1).toNat = g + 1 by omega] at hd9
        refine ⟨cl, _, hd9, ?_⟩
        refine ⟨?_, fun Q hQ => by rw [wI_ne (by decide)]; exact off Q hQ, fun j hj => by rw [wI_ne (by decide)]; exact onb j hj, fun j hj => ⟨?_, by rw [wI_ne (by decide)]; exact on j (by omega)⟩, ?_, fun y hy hz9 hl => ?_⟩
        · rw [ac_dn cl]
          exact s1.w rfl (fun c z1 z2 z3 z4 z5 => wI_ne z2)
        · show (wI d3 84 (g + 1) (-1)).1 84 j = _
          rw [wI_at, fu_n (by omega)]; exact row j (by omega)
        · show (wI d3 84 (g + 1) (-1)).1 84 (g + 1) = _
          rw [wI_at, fu_s]; rfl
        · have e92 : (wI d3 (81 + 3) (g + 1) (-1)).1 92 = d3.1 92 := wI_ne (by decide)
          rw [e92]
          exact good y hy hz9 (by omega)
      · -- a whole row
        left
        have eg : cn9 (trq n) 8 - 1 - g = 0 := by omega
        rw [if_pos (by omega)] at hd9
        have hXl : Y * p + t < p ^ cn9 (trq n) 8 := by
          have : (Y + 1) * p ≤ p ^ g * p := Nat.mul_le_mul_right _ hY
          rw [← Nat.pow_succ, Nat.add_mul, Nat.one_mul, show g.succ = cn9 (trq n) 8 by omega] at this
          omega
        have hX0 : (Y * p + t) / p ^ (cn9 (trq n) 8 - 1 - g) = Y * p + t := by rw [eg, Nat.pow_zero, Nat.div_one]
        have FE : ∀ a b c e f h, a < 2 → b < 2 → c < 2 → e < 2 → f < 2 → h < 2 → d3.1 92 (six a b c e f h) = FX9 n p (Y * p + t) (six a b c e f h) := fun a b c e f h ha hb hc he hf hh => agr9 hF0 off on hp0 hg hX0 ha hb hc he hf hh (by have := (li9_bd (u := cn9 (trq n) 8) (U := Uq n) (Q := six a b c e f h)).2; omega)
        have pens : ∀ y, y < 32 → pnq n y = true → pnH (FX9 n p (Y * p + t)) p 2 (xq9 y) := fun y hy hz9 => by
          have lb := (ls9_ge (u := cn9 (trq n) 8) (U := Uq n) (x := xq9 y)).2.2
          exact (agree _ hX0 y hy (by omega)).mp (good y hy hz9 (by omega))
        have so := SoA_iff (iv := iv) hT (FX9_z (n := n) (p := p) (X := Y * p + t) (show 2 ≤ 3 by decide)) h2 hiv
        have gi := hG _ hXl
        have sqE : ∀ dd, dd < 2 → (sOk n (d3.1 92) 2 p iv 1 1 1 dd ↔ sOk n (FX9 n p (Y * p + t)) 2 p iv 1 1 1 dd) := fun dd hd => sOk_cong (fun e f he hf => FE 1 1 1 dd e f (by decide) (by decide) (by decide) hd he hf)
        rw [eg, Nat.pow_zero, Nat.mul_one] at s1
        have noG : ∀ e : DA, e.2 = d3.2 → (∀ c, c ≠ 60 → c ≠ 99 → c ≠ 100 → e.1 c = d3.1 c) → ¬ G (Y * p + t) = true → SR9 d0 n p G e g Y (t + 1) := fun e he2 heq hg9 => by
          refine nextS e ?_ (heq 92 (by decide) (by decide) (by decide)) (heq 84 (by decide) (by decide) (by decide))
          rw [eg, Nat.pow_zero, Nat.mul_one]
          have e1 : SF9 d0 n p G (Y * p + t) e := s1.w he2 (fun c z1 z2 z3 z4 z5 => heq c z1 z4 z5)
          have ec : cn9 G (Y * p + (t + 1)) = cn9 G (Y * p + t) := by
            show cn9 G (Y * p + t + 1) = _
            rw [cn9_s, if_neg hg9]; rfl
          unfold SF9 at e1 ⊢
          rw [ec]; exact e1
        obtain ⟨v5, d5, q1, q2, q3, q4⟩ := x5_sq (dd := 0) hXd3 hT hiv h2 (by omega) (by decide) hFB
        have q1' : X5_squareTurnsBack 81 58 0 d3 = some (v5, d5) := q1
        have q4b := q4.or
        rw [bd_pos q1', gd_pos (by omega)] at hd9
        by_cases cv5 : v5 = 0
        · rw [if_pos cv5] at hd9
          refine ⟨d5, hd9, noG d5 q2 q3 (fun z => ?_)⟩
          have := q4.1 ((sqE 0 (by decide)).mpr ((so.mp (gi.mp z)).2 0 (by decide)))
          omega
        · rw [if_neg cv5] at hd9
          have ok0 : sOk n (d3.1 92) 2 p iv 1 1 1 0 := by
            by_cases z : sOk n (d3.1 92) 2 p iv 1 1 1 0
            · exact z
            · exact absurd (q4.2 z) cv5
          have e592 : d5.1 92 = d3.1 92 := q3 92 (by decide) (by decide) (by decide)
          have hXd5 : SX9 d5 n p (cn9 (trq n) 8) (Uq n) iv := by
            have : SF9 d0 n p G (Y * p + t) d5 := s1.w q2 (fun c z1 z2 z3 z4 z5 => q3 c z1 z4 z5)
            exact this.sx hX
          obtain ⟨v7, d7, w1, w2, w3, w4⟩ := x5_sq (dd := 1) hXd5 hT hiv h2 (by omega) (by decide) (by rw [e592]; exact hFB)
          rw [e592] at w4
          have w1' : X5_squareTurnsBack 81 58 1 d5 = some (v7, d7) := w1
          have w4b := w4.or
          have w3' : ∀ c, c ≠ 60 → c ≠ 99 → c ≠ 100 → d7.1 c = d3.1 c := fun c z1 z2 z3 => by rw [w3 c z1 z2 z3, q3 c z1 z2 z3]
          have w2' : d7.2 = d3.2 := w2.trans q2
          rw [bd_pos w1', gd_pos (by omega)] at hd9
          by_cases cv7 : v7 = 0
          · rw [if_pos cv7] at hd9
            refine ⟨d7, hd9, noG d7 w2' w3' (fun z => ?_)⟩
            have := w4.1 ((sqE 1 (by decide)).mpr ((so.mp (gi.mp z)).2 1 (by decide)))
            omega
          · rw [if_neg cv7] at hd9
            have ok1 : sOk n (d3.1 92) 2 p iv 1 1 1 1 := by
              by_cases z : sOk n (d3.1 92) 2 p iv 1 1 1 1
              · exact z
              · exact absurd (w4.2 z) cv7
            have gt : G (Y * p + t) = true := gi.mpr (so.mpr ⟨pens, fun dd hd => (sqE dd hd).mp (by
              rcases (show dd = 0 ∨ dd = 1 by omega) with rfl | rfl
              · exact ok0
              · exact ok1)⟩)
            have s7 : SF9 d0 n p G (Y * p + t) d7 := s1.w w2' (fun c z1 z2 z3 z4 z5 => w3' c z1 z4 z5)
            have kA := cn9_le (P := G) (Y * p + t)
            obtain ⟨d9, x1, x2, x3, x4, x5, x6⟩ := x5_addR (d := d7) (u := cn9 (trq n) 8) (A := cn9 G (Y * p + t)) (s7.sx hX).2.2.2.1 hu5 s7.2.2.1 (by omega)
            rw [bd_pos x1] at hd9
            refine ⟨d9, hd9, nextS d9 ?_ ?_ ?_⟩
            · rw [eg, Nat.pow_zero, Nat.mul_one]
              have ec : cn9 G (Y * p + (t + 1)) = cn9 G (Y * p + t) + 1 := by
                show cn9 G (Y * p + t + 1) = _
                rw [cn9_s, if_pos gt]
              refine ⟨x2.trans s7.1, fun c j z1 z2 z3 z4 z5 z6 z7 => by rw [x3 c j z2 z7]; exact s7.2.1 c j z1 z2 z3 z4 z5 z6 z7, by rw [x4, ec], fun _ j hj => ?_⟩
              by_cases cA : cn9 G (Y * p + t) = 0
              · rw [x5 cA j hj, w3' 84 (by decide) (by decide) (by decide), row j (by omega)]
                have := pk9_at (P := G) (m := p ^ cn9 (trq n) 8) hXl gt
                rw [cA] at this
                rw [this, show g + 1 = cn9 (trq n) 8 by omega]
              · rw [x6 cA]; exact s7.2.2.2 cA j hj
            · exact (funext fun j => x3 92 j (by decide) (Or.inl (by decide))).trans (w3' 92 (by decide) (by decide) (by decide))
            · exact (funext fun j => x3 84 j (by decide) (Or.inl (by decide))).trans (w3' 84 (by decide) (by decide) (by decide))
    · have hd9 := head 0 (ph.2 fit) (by decide)
      rw [if_pos rfl] at hd9
      refine Or.inl ⟨d3, hd9, nextS d3 ?_ rfl rfl⟩
      have em : (Y * p + (t + 1)) * p ^ (cn9 (trq n) 8 - 1 - g) = (Y * p + t) * p ^ (cn9 (trq n) 8 - 1 - g) + p ^ (cn9 (trq n) 8 - 1 - g) := by
        rw [← Nat.add_assoc, Nat.add_mul, Nat.one_mul]
      have ec : cn9 G ((Y * p + (t + 1)) * p ^ (cn9 (trq n) 8 - 1 - g)) = cn9 G ((Y * p + t) * p ^ (cn9 (trq n) 8 - 1 - g)) := by
        rw [em]
        refine cn9_none _ _ (fun X a1 a2 hg9 => fit (fun y hy hz9 hl => ?_))
        have hX9 : X / p ^ (cn9 (trq n) 8 - 1 - g) = Y * p + t := iv_div hp0 a1 (by rw [Nat.add_mul, Nat.one_mul]; exact a2)
        have hXN : X < p ^ cn9 (trq n) 8 := by
          have b1 : (Y * p + t + 1) * p ^ (cn9 (trq n) 8 - 1 - g) ≤ p ^ (g + 1) * p ^ (cn9 (trq n) 8 - 1 - g) := by
            refine Nat.mul_le_mul_right _ ?_
            have : (Y + 1) * p ≤ p ^ g * p := Nat.mul_le_mul_right _ hY
            rw [← Nat.pow_succ, Nat.add_mul, Nat.one_mul] at this
            have z : p ^ (g + 1) = p ^ g.succ := rfl
            omega
          rw [← Nat.pow_add, show g + 1 + (cn9 (trq n) 8 - 1 - g) = cn9 (trq n) 8 by omega, Nat.add_mul, Nat.one_mul] at b1
          omega
        have so := SoA_iff (iv := iv) hT (FX9_z (n := n) (p := p) (X := X) (show 2 ≤ 3 by decide)) h2 hiv
        exact (agree X hX9 y hy (by omega)).mpr ((so.mp ((hG X hXN).mp hg9)).1 y hy hz9)
      unfold SF9 at s1 ⊢
      rw [ec]; exact s1) (fun d s hs hF => by
    show X5_search_b11 81 58 (-1) (s : Int) d = _
    unfold X5_search_b11
    rw [gd_pos (by omega), if_neg (by omega), gd_pos (by decide), if_pos (by decide)]) R0
  rw [k1]
  exact ⟨d, rfl, k2⟩
end

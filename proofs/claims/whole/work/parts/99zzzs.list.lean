/-! ===== list: the step ===== -/
def chZ9 (c j : Nat) : Bool := c == 46 || c == 47 || c == 129 || c == 130 || (c == 113 && (j == 33 || j == 34 || j == 35))
theorem Inv.lsN {k : Nat} {x x' : XS} (h : Inv k x) (hS : ∀ c j, rel c j = true → chZ9 c j = false → x'.1.1 c j = x.1.1 c j) {la : Nat} (hL : LI9 x'.1.1 la (xzc x')) (hZ : ZC9 x x') : Inv k x' := by
  obtain ⟨⟨z1, z2, z3, z4, z5, z6, z7⟩, r0, p0, m, D, U, tp, kr, la0, hS9, hH, hP, hK9, -, hN, hC, hT, hV, hI⟩ := h
  have hAg : Ag9 chZ9 (vw x.1.1) (vw x'.1.1) := Ag9.of hS
  have hok := hZ.ok z5
  obtain ⟨g1, ⟨g2, g3⟩, g4, -, ⟨g9, g10⟩, g11, g12⟩ := hZ
  refine ⟨⟨z1, ⟨by omega, g3⟩, by rw [g1]; exact z3, by rw [g4]; exact z4, hok, by rw [g1]; omega, by rw [g1]; omega⟩, r0, p0, m, D, U, tp, kr, la, ?_⟩
  rw [g1]
  refine ⟨hS9.cg hAg ⟨fun _ => rfl, fun _ => rfl, fun _ => rfl, fun _ => rfl, fun _ => rfl, fun _ => rfl, fun _ => rfl, fun _ => rfl, fun _ => rfl, fun _ => rfl, fun _ => rfl⟩ ⟨rfl, rfl, rfl, rfl, rfl, rfl, rfl, rfl⟩, hH.cg hAg ⟨fun _ => rfl, fun _ => rfl, fun _ => rfl, fun _ => rfl, fun _ => rfl, fun _ => rfl, fun _ => rfl, fun _ => rfl⟩ ⟨rfl, rfl, rfl, rfl⟩, hP.cg hAg ⟨fun _ => rfl, fun _ => rfl⟩ ⟨rfl, rfl, rfl, rfl⟩, hK9.cg hAg ⟨fun _ => rfl, fun _ => rfl⟩ ⟨rfl, rfl, rfl⟩, ?_, hN.cg hAg (fun _ => rfl) rfl, CI.cg hC hAg ⟨fun _ => rfl, fun _ => rfl⟩ ⟨rfl, rfl⟩, hT.cg hAg ⟨fun _ => rfl, fun _ => rfl, fun _ => rfl, fun _ => rfl⟩ rfl, VI9.cg hV hAg ⟨rfl, rfl, rfl⟩ ⟨fun _ => rfl, fun _ => rfl⟩, hI.cg hAg ⟨fun _ => rfl, fun _ => rfl, fun _ => rfl, fun _ => rfl, fun _ => rfl, fun _ => rfl, fun _ => rfl, fun _ => rfl, fun _ => rfl, fun _ => rfl, fun _ => rfl, fun _ => rfl, fun _ => rfl⟩ ⟨rfl, rfl, rfl, rfl, rfl⟩⟩
  exact hL
theorem st_12 {Ln k : Nat} {sc : Int → Int} {x : XS} (h : Inv k x) (hk : k < 512) (h0 : 0 ≤ 8 * (k : Int) ∧ 8 * (k : Int) + 8 ≤ (Ln : Int)) (hL : Ln ≤ 4096) (hsc : ScR sc) (hop : iand9 (sc (8 * (k : Int))) 31 = 12) : Step9 Ln sc k x := by
  unfold Step9
  rw [br_12 h0 hL hop]
  simp only [gd_pos (show ix (8 * (k : Int) + 1) Ln from (by omega)), gd_pos (show ix (8 * (k : Int) + 2) Ln from (by omega))]
  have hu := hsc (8 * (k : Int) + 1)
  have hu2 := hsc (8 * (k : Int) + 2)
  generalize sc (8 * (k : Int) + 1) = u at hu
  generalize sc (8 * (k : Int) + 2) = u2 at hu2
  obtain ⟨z1, ⟨z64, z81⟩, -, hxe, hok, -, -⟩ := h.z
  by_cases c : (2 ≤ u ∧ u ≤ 4) ∧ 1 ≤ u2 ∧ u2 ≤ 5 ∧ (u = 4 → u2 ≤ 2)
  · obtain ⟨lr, rfl⟩ : ∃ lr : Nat, u = lr := ⟨u.toNat, by omega⟩
    obtain ⟨lb, rfl⟩ : ∃ lb : Nat, u2 = lb := ⟨u2.toNat, by omega⟩
    have h2 : 2 ≤ lr := by omega
    have h4 : lr ≤ 4 := by omega
    have hl : 1 ≤ lb ∧ lb ≤ 5 ∧ (lr = 4 → lb ≤ 2) := ⟨by omega, by omega, fun e => by have := c.2.2.2 (by omega); omega⟩
    obtain ⟨G0, hG0⟩ : ∃ G : Nat → Bool, ∀ X, X < (lb + 1) ^ gcn lr 0 → (G X = true ↔ GdN lr 0 lb X) := ⟨fun X => @decide (GdN lr 0 lb X) (Classical.propDecidable _), fun X _ => @decide_eq_true_iff _ (Classical.propDecidable _)⟩
    obtain ⟨G1, hG1⟩ : ∃ G : Nat → Bool, ∀ X, X < (lb + 1) ^ gcn lr 1 → (G X = true ↔ GdN lr 1 lb X) := ⟨fun X => @decide (GdN lr 1 lb X) (Classical.propDecidable _), fun X _ => @decide_eq_true_iff _ (Classical.propDecidable _)⟩
    have q0 : (lr, 0) ∈ lw5 := lw5_of h2 h4 (by decide) (fun _ => rfl)
    obtain ⟨a1, ha⟩ : ∃ a1, a1 = if lr = 2 then 0 else cn9 G1 ((lb + 1) ^ gcn lr 1) := ⟨_, rfl⟩
    have n0 := (row_c q0 hl hG0).1
    have p0 := (row_n q0 hl).1
    have m1 : a1 ≤ 1296 ∧ (lr ≠ 2 → (lb + 1) ^ gcn lr 1 ≤ 59049) ∧ (lr = 2 → a1 = 0) ∧ (lr ≠ 2 → a1 = cn9 G1 ((lb + 1) ^ gcn lr 1)) := by
      by_cases c2 : lr = 2
      · rw [if_pos c2] at ha
        exact ⟨by omega, fun z => absurd c2 z, fun _ => ha, fun z => absurd c2 z⟩
      · rw [if_neg c2] at ha
        have q1 : (lr, 1) ∈ lw5 := lw5_of h2 h4 (by decide) (fun z => absurd z c2)
        have := (row_c q1 hl hG1).2 (fun z => by
          have e2 : (1 : Nat) = 0 := congrArg Prod.snd z
          exact absurd e2 (by decide))
        exact ⟨by rw [ha]; exact this, fun _ => (row_n q1 hl).1, fun z => absurd z c2, fun _ => ha⟩
    generalize hA : cn9 G0 ((lb + 1) ^ gcn lr 0) = a0 at n0
    have h4000 : a0 + a1 ≤ 4000 := by omega
    have h4000' : cn9 G0 ((lb + 1) ^ gcn lr 0) + a1 ≤ 4000 := by rw [hA]; exact h4000
    obtain ⟨y, e1, f1, f2, ⟨f3, f4, f5, f6⟩, f7, f8, f9, f10⟩ := x2_find (x := x) h2 h4 hl hG0 (fun _ => hG1) ha h4000' z64 z81 hxe hok
    rw [hA] at f5 f6 f7 f8 f9
    have eC : X11_list (lr : Int) (lb : Int) x = some (.inl ((a0 + a1 : Nat) : Int), y) := by
      have j10 : ∀ s : Int, (lb : Int) ≤ s → inR s → X11_list_j10 (lr : Int) (lb : Int) s x = some (.inl ((a0 + a1 : Nat) : Int), y) := fun s hs hs2 => by
        unfold X11_list_j10
        rw [gd_pos (by omega), if_neg (by omega), gd_pos (by omega), if_neg (by omega), gd_pos (by omega), if_neg (by omega), gd_pos (by omega), if_pos hs, xb_ok e1 f10.2.2.2.2.1, f5]
      unfold X11_list
      rw [gd_pos (by omega)]
      by_cases c4 : lr = 4
      · rw [if_pos (by omega)]
        have := hl.2.2 c4
        exact j10 2 (by omega) (by omega)
      · rw [if_neg (by omega)]
        exact j10 5 (by omega) (by omega)
    refine both2 (en := 0) (f := fun x => L_law__j879_23 Ln sc (8 * (k : Int)) x) (M := fun d => X12_list 113 (lr : Int) (lb : Int) d) (x2 := y) (v := ((a0 + a1 : Nat) : Int)) ⟨Or.inl ⟨rfl, eC⟩, f10.2.2.2.2.1.1, f10.2.2.2.2.1.2⟩ (by omega) (Or.inl rfl) (w := ((a0 + a1 : Nat) : Int)) (by omega) (fun _ => rfl) (fun x3 hx3 hx4 => ?_)
    obtain ⟨d', r1, r2, r3, r4, r5, r6, r7, r8, r9, r10⟩ := x12_list (d := x3.1) h2 h4 hl hG0 (fun _ => hG1) ha h4000'
    rw [hA] at r1 r6 r9 r10
    refine ⟨d', r1, r5, by rw [r2], ?_⟩
    have zz : ZC9 x (xD x3 d') := by
      have e : (xD x3 d').2 = y.2 := hx4
      unfold ZC9 xzc xzf xe xrt xrb xtt xtn xc xs at f10 ⊢
      rw [e]
      exact f10
    have x3q : ∀ q, x3.1.1 q = y.1.1 q := fun q => by rw [hx3]
    have k46 : ∀ j, d'.1 46 j = y.1.1 46 j := fun j => by rw [r3 46 (by decide) (by decide) (by decide) (by decide) (by decide) (by decide) (by decide) (by decide), x3q]
    have k47 : ∀ j, d'.1 47 j = y.1.1 47 j := fun j => by rw [r3 47 (by decide) (by decide) (by decide) (by decide) (by decide) (by decide) (by decide) (by decide), x3q]
    have hLI : LI9 (xD x3 d').1.1 (a0 + a1) (xzc (xD x3 d')) := by
      show LI9 d'.1 (a0 + a1) (xzc x3)
      have ez : xzc x3 = xzc y := by unfold xzc; rw [hx4]
      rw [ez]
      refine ⟨by rw [k46]; exact f5, r6, h4000, f7, fun _ => ⟨lr, lb, a0, by rw [k46]; exact f3, r7, by rw [k46]; exact f4, r8, ⟨h2, h4⟩, hl, by rw [k46]; exact f6, ⟨fun e => by have := m1.2.2.1 e; omega, by omega⟩, fun i hi => ?_⟩⟩
      by_cases ci : i < a0
      · have t1 := f8 i ci
        obtain ⟨t2, t3⟩ := r9 i ci
        have t4 := (pk9_ok (P := G0) (m := (lb + 1) ^ gcn lr 0) (i := i) (by rw [hA]; exact ci)).1
        rw [k47, t1, t2, t3, if_pos ci]
        exact ⟨rfl, by omega, by omega, rfl⟩
      · have ne2 : lr ≠ 2 := fun e => by have := m1.2.2.1 e; omega
        have t1 := f9 (i - a0) (by omega)
        obtain ⟨t2, t3⟩ := r10 (i - a0) (by omega)
        have t5 := m1.2.1 ne2
        have t4 := (pk9_ok (P := G1) (m := (lb + 1) ^ gcn lr 1) (i := i - a0) (by rw [← m1.2.2.2 ne2]; omega)).1
        rw [show a0 + (i - a0) = i by omega] at t1 t2 t3
        rw [k47, t1, t2, t3, if_neg ci]
        exact ⟨rfl, by omega, by omega, rfl⟩
    have hI9 : Inv k (xD x3 d') := h.lsN (fun cc j hr hc => by
      unfold chZ9 at hc
      simp only [Bool.or_eq_false_iff, Bool.and_eq_false_iff, beq_eq_false_iff_ne, ne_eq] at hc
      show d'.1 cc j = x.1.1 cc j
      by_cases e113 : cc = 113
      · subst e113
        have hr' : relL.contains j = true := hr
        have h3 : j ≠ 33 ∧ j ≠ 34 ∧ j ≠ 35 := by
          rcases hc.2 with z | z
          · exact absurd rfl z
          · exact ⟨z.1.1, z.1.2, z.2⟩
        rw [r4 j (fun e => by subst e; cases hr') (fun e => by subst e; cases hr') h3.1 h3.2.1 h3.2.2 (fun e => by subst e; cases hr') (fun e => by subst e; cases hr'), x3q, f2 113 (by omega)]
      · have hw : cc < 46 ∨ 53 < cc := by
          rcases Nat.lt_or_ge cc 46 with u | u
          · exact Or.inl u
          · rcases Nat.lt_or_ge 53 cc with u2 | u2
            · exact Or.inr u2
            · exfalso
              rcases (show cc = 46 ∨ cc = 47 ∨ cc = 48 ∨ cc = 49 ∨ cc = 50 ∨ cc = 51 ∨ cc = 52 ∨ cc = 53 by omega) with rfl | rfl | rfl | rfl | rfl | rfl | rfl | rfl
              · exact hc.1.1.1.1 rfl
              · exact hc.1.1.1.2 rfl
              all_goals cases hr
        rw [r3 cc e113 (fun e => by subst e; cases hr) hc.1.1.2 hc.1.2 (fun e => by subst e; cases hr) (fun e => by subst e; cases hr) (fun e => by subst e; cases hr) (fun e => by subst e; cases hr), x3q, f2 cc hw]) hLI zz
    exact hI9.fr hk (Sm.rf _) ⟨rfl, rfl, hI9.z.2.2.2.1, hI9.z.2.2.2.2.1⟩ ⟨by omega, by omega⟩
  · -- not so many kinds, or not so high a bound
    refine both (en := 0) (f := fun x => L_law__j879_23 Ln sc (8 * (k : Int)) x) h hk (x2 := xT x) (v := 0) ⟨Or.inr ⟨rfl, ?_⟩, Nat.le_succ _, Nat.le_add_right _ _⟩ (by omega) (Kp.T x) (Or.inr rfl) (w := 0) (by omega) (fun h9 => by omega) (M := fun d => X12_list 113 u u2 d) (fun d hd => ?_)
    · have j10 : ∀ s : Int, inR s → (s = if u = 4 then 2 else 5) → X11_list_j10 u u2 s x = some (.inr 0, xT x) := fun s hs2 es => by
        unfold X11_list_j10
        rw [gd_pos (by omega)]
        by_cases d1 : u < 2
        · rw [if_pos d1]
        · rw [if_neg d1, gd_pos (by omega)]
          by_cases d2 : 4 < u
          · rw [if_pos d2]
          · rw [if_neg d2, gd_pos (by omega)]
            by_cases d3 : u2 < 1
            · rw [if_pos d3]
            · rw [if_neg d3, gd_pos (by omega)]
              by_cases c4 : u = 4
              · rw [if_pos c4] at es
                rw [if_neg (fun z => c ⟨by omega, by omega, by omega, fun _ => by omega⟩)]
              · rw [if_neg c4] at es
                rw [if_neg (fun z => c ⟨by omega, by omega, by omega, fun e => absurd e c4⟩)]
      unfold X11_list
      rw [gd_pos (by omega)]
      by_cases c4 : u = 4
      · rw [if_pos c4]; exact j10 2 (by omega) (by rw [if_pos c4])
      · rw [if_neg c4]; exact j10 5 (by omega) (by rw [if_neg c4])
    · refine ⟨wI (wI d 113 0 0) 113 0 1, ?_, rfl, (Sm.wI rfl).tr (Sm.wI rfl), rfl⟩
      have hI1 := x12_isIn (d := wI d 113 0 0) (v := u) (a := 2) (b := 4) (by omega) (by omega) (by omega)
      have j26 : ∀ s : Int, inR s → (2 ≤ u ∧ u ≤ 4) → (s = if u = 4 then 2 else 5) → X12_list_j26 113 u u2 u2 1 s (wI d 113 0 0) = some (0, wI (wI d 113 0 0) 113 0 1) := fun s hs2 hu9 es => by
        have hI2 := (x12_isIn (d := wI d 113 0 0) (v := u2) (a := 1) (b := s) (by omega) (by omega) hs2).2 (fun z => by
          by_cases c4 : u = 4
          · rw [if_pos c4] at es
            exact c ⟨hu9, by omega, by omega, fun _ => by omega⟩
          · rw [if_neg c4] at es
            exact c ⟨hu9, by omega, by omega, fun e => absurd e c4⟩)
        unfold X12_list_j26
        rw [b1_pos hI2, gd_pos (by omega), if_pos rfl]
        rfl
      show X12_list 113 u u2 d = _
      unfold X12_list
      rw [lt_pos]
      by_cases d1 : 2 ≤ u ∧ u ≤ 4
      · rw [b1_pos (hI1.1 d1), gd_pos (by omega), if_neg (by decide), gd_pos (by omega)]
        by_cases c4 : u = 4
        · rw [if_pos c4]; exact j26 2 (by omega) d1 (by rw [if_pos c4])
        · rw [if_neg c4]; exact j26 5 (by omega) d1 (by rw [if_neg c4])
      · rw [b1_pos (hI1.2 d1), gd_pos (by omega), if_pos rfl]
        rfl

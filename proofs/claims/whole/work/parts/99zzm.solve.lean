/-! ===== solve: the step ===== -/
def chV (c j : Nat) : Bool := c == 81 || c == 82
theorem Inv.vi {k : Nat} {x : XS} (h : Inv k x) {r p : Nat} (hr : x.1.1 113 1 = r) (hp : x.1.1 113 4 = p) : VI9 (x.1.1 81 0) (x.1.1 81 1) (x.1.1 81 2) (x.1.1 82) (x.1.1 114) r p ∧ PG p := by
  obtain ⟨-, r0, p0, m, D, U, tp, kr, la, hS, -, -, -, -, -, -, -, hV, -⟩ := h
  have t2 : x.1.1 113 1 = r0 := hS.1.2.1
  have p2 : x.1.1 113 4 = p0 := hS.2.1.2.1
  have er : r0 = r := by rw [hr] at t2; omega
  have ep : p0 = p := by rw [hp] at p2; omega
  subst er ep
  exact ⟨hV, hS.2.1.2.2⟩
theorem Inv.slv {k : Nat} {x : XS} {d : DA} (h : Inv k x) {r p : Nat} (hr : x.1.1 113 1 = r) (hp : x.1.1 113 4 = p) (hF : FrO x.1 d) (hV : VI9 (d.1 81 0) (d.1 81 1) (d.1 81 2) (d.1 82) (x.1.1 114) r p) : Inv k (xD x d) := by
  obtain ⟨⟨z1, z2, z3, z4, z5, z6, z7⟩, r0, p0, m, D, U, tp, kr, la, hS9, hH, hP, hK9, hLi, hN, hC, hT, -, hI⟩ := h
  have t2 : x.1.1 113 1 = r0 := hS9.1.2.1
  have p2 : x.1.1 113 4 = p0 := hS9.2.1.2.1
  have er : r0 = r := by rw [hr] at t2; omega
  have ep : p0 = p := by rw [hp] at p2; omega
  subst er ep
  have hAg : Ag9 chV (vw x.1.1) (vw d.1) := Ag9.of (fun c j hrel hc => by
    unfold chV at hc
    simp only [Bool.or_eq_false_iff, beq_eq_false_iff_ne, ne_eq] at hc
    refine congrFun (hF.2 c (fun e => by subst e; cases hrel) ?_) j
    rcases Nat.lt_or_ge c 81 with u | u
    · exact Or.inl u
    · rcases Nat.lt_or_ge 100 c with u2 | u2
      · exact Or.inr u2
      · exfalso
        rcases (show c = 83 ∨ c = 84 ∨ c = 85 ∨ c = 86 ∨ c = 87 ∨ c = 88 ∨ c = 89 ∨ c = 90 ∨ c = 91 ∨ c = 92 ∨ c = 93 ∨ c = 94 ∨ c = 95 ∨ c = 96 ∨ c = 97 ∨ c = 98 ∨ c = 99 ∨ c = 100 by omega) with rfl | rfl | rfl | rfl | rfl | rfl | rfl | rfl | rfl | rfl | rfl | rfl | rfl | rfl | rfl | rfl | rfl | rfl <;> cases hrel)
  refine ⟨⟨z1, z2, z3, z4, z5, z6, z7⟩, r0, p0, m, D, U, tp, kr, la, ?_⟩
  refine ⟨hS9.cg hAg ⟨fun _ => rfl, fun _ => rfl, fun _ => rfl, fun _ => rfl, fun _ => rfl, fun _ => rfl, fun _ => rfl, fun _ => rfl, fun _ => rfl, fun _ => rfl, fun _ => rfl⟩ ⟨rfl, rfl, rfl, rfl, rfl, rfl, rfl, rfl⟩, hH.cg hAg ⟨fun _ => rfl, fun _ => rfl, fun _ => rfl, fun _ => rfl, fun _ => rfl, fun _ => rfl, fun _ => rfl, fun _ => rfl⟩ ⟨rfl, rfl, rfl, rfl⟩, hP.cg hAg ⟨fun _ => rfl, fun _ => rfl⟩ ⟨rfl, rfl, rfl, rfl⟩, hK9.cg hAg ⟨fun _ => rfl, fun _ => rfl⟩ ⟨rfl, rfl, rfl⟩, hLi.cg hAg ⟨fun _ => rfl, fun _ => rfl, fun _ => rfl⟩ ⟨rfl, rfl, rfl, rfl, rfl, rfl, rfl⟩, hN.cg hAg (fun _ => rfl) rfl, CI.cg hC hAg ⟨fun _ => rfl, fun _ => rfl⟩ ⟨rfl, rfl⟩, hT.cg hAg ⟨fun _ => rfl, fun _ => rfl, fun _ => rfl, fun _ => rfl⟩ rfl, ?_, hI.cg hAg ⟨fun _ => rfl, fun _ => rfl, fun _ => rfl, fun _ => rfl, fun _ => rfl, fun _ => rfl, fun _ => rfl, fun _ => rfl, fun _ => rfl, fun _ => rfl, fun _ => rfl, fun _ => rfl, fun _ => rfl⟩ ⟨rfl, rfl, rfl, rfl, rfl⟩⟩
  show VI9 (d.1 81 0) (d.1 81 1) (d.1 81 2) (d.1 82) (d.1 114) r0 p0
  rw [hF.2 114 (by decide) (by decide)]
  exact hV
/-- solutions that are known: both sides -/
theorem sol_go {Z : Type} {k : Nat} {x y : XS} {r p : Nat} {i : Int} (hy : Inv k y) (hk : k < 512) (hcx : xc x ≤ xc y ∧ xs x ≤ xs y) (eC : X11_solve i x = X11_solve_j77 i 1 y) (hr : y.1.1 113 1 = r) (hp : y.1.1 113 4 = p) (h0 : y.1.1 81 0 = 1) (ht : r ≤ 2 ∧ fre (y.1.1 114) r ∧ p ≤ 13) (hi : inR i) {f : XS → Option Z} {bad : XS → Option Z} :
    ∃ x', (bd (L_solve i x) fun r7 x8 =>
      gd (xc x ≤ xc x8 ∧ xs x ≤ xs x8) <|
      bd (X12_solve 113 i x8.1) fun x10 d9 =>
      lt9 (xD x8 d9) fun x11 =>
      b1 (X12_thrown 113 x11.1) fun x12 =>
      gd (inR x12 ∧ inR r7) <|
      if x12 = r7 then (gd (inR r7) <|
      if r7 = 0 then (gd (ix 0 1) <|
      gd (inR x10) <|
      gd (inR64 (x11.1.2 161 (Int.toNat 0)) ∧ inR64 x10) <|
      gd (inR (lcmp9 (x11.1.2 161 (Int.toNat 0)) x10)) <|
      if (lcmp9 (x11.1.2 161 (Int.toNat 0)) x10) = 0 then f x11 else bad x11) else f x11) else bad x11) = f x' ∧ Inv (k + 1) x' := by
  have hR := hy.ti9 hr hp
  have hT9 : xc y ≤ xc (xT y) ∧ xs y ≤ xs (xT y) := ⟨Nat.le_succ _, Nat.le_add_right _ _⟩
  rcases (hy.vi hr hp).1 with z | ⟨-, ⟨a1, a2⟩, ⟨a3, a4⟩, a5, a6⟩
  · omega
  · have ref := fun d hd => a6 ht d (hR.eq hd) i hi
    by_cases c1 : i = -1
    · have e1 : X11_solve i x = some (.inl (y.1.1 81 1), y) := by
        rw [eC]
        unfold X11_solve_j77
        rw [gd_pos (by omega), if_pos c1, gd_pos (by decide), if_neg (by decide)]
      refine both3 (x1 := y) (en := 1) (f := f) (bad := bad) hy hk (x2 := y) (v := y.1.1 81 1) (c := 0) ⟨Or.inl ⟨rfl, e1⟩, hcx.1, hcx.2⟩ (by omega) (Kp.rf y) (Or.inl rfl) (w := y.1.1 81 1) (by omega) (fun _ => rfl) (M := fun d => X12_solve 113 i d) (fun d hd => ?_)
      exact (ref d hd).1 c1
    · by_cases c2 : 0 ≤ i ∧ i < y.1.1 81 2 ∧ y.1.1 81 1 ≠ 0
      · have vb := a5 c2.2.2 i.toNat (by omega)
        have e1 : X11_solve i x = some (.inl (y.1.1 82 i.toNat), y) := by
          rw [eC]
          unfold X11_solve_j77
          rw [gd_pos (by omega), if_neg c1, gd_pos (by decide), if_neg (by decide), gd_pos hi, if_neg (by omega), gd_pos (by omega), if_neg c2.2.2, gd_pos (by omega), if_pos c2.2.1, gd_pos (by omega)]
        refine both3 (x1 := y) (en := 1) (f := f) (bad := bad) hy hk (x2 := y) (v := y.1.1 82 i.toNat) (c := 0) ⟨Or.inl ⟨rfl, e1⟩, hcx.1, hcx.2⟩ vb (Kp.rf y) (Or.inl rfl) (w := y.1.1 82 i.toNat) vb (fun _ => rfl) (M := fun d => X12_solve 113 i d) (fun d hd => ?_)
        exact ((ref d hd).2 c1).1 c2
      · have e1 : X11_solve i x = some (.inr 1, xT y) := by
          rw [eC]
          unfold X11_solve_j77
          rw [gd_pos (by omega), if_neg c1, gd_pos (by decide), if_neg (by decide), gd_pos hi]
          by_cases z1 : i < 0
          · rw [if_pos z1]
          · rw [if_neg z1, gd_pos (by omega)]
            by_cases z2 : y.1.1 81 1 = 0
            · rw [if_pos z2]
            · rw [if_neg z2, gd_pos (by omega), if_neg (fun z3 => c2 ⟨by omega, z3, z2⟩)]
        refine both3 (x1 := y) (en := 1) (f := f) (bad := bad) hy hk (x2 := xT y) (v := 0) (c := 1) ⟨Or.inr ⟨rfl, e1⟩, Nat.le_trans hcx.1 hT9.1, Nat.le_trans hcx.2 hT9.2⟩ (by decide) (Kp.T y) (Or.inr rfl) (w := 0) (by decide) (fun h9 => by omega) (M := fun d => X12_solve 113 i d) (fun d hd => ?_)
        exact ((ref d hd).2 c1).2 c2
theorem st_22 {Ln k : Nat} {sc : Int → Int} {x : XS} (h : Inv k x) (hk : k < 512) (h0 : 0 ≤ 8 * (k : Int) ∧ 8 * (k : Int) + 8 ≤ (Ln : Int)) (hL : Ln ≤ 4096) (hsc : ScR sc) (hop : iand9 (sc (8 * (k : Int))) 31 = 22) : Step9 Ln sc k x := by
  unfold Step9
  rw [br_22 h0 hL hop]
  simp only [gd_pos (show ix (8 * (k : Int) + 1) Ln from (by omega))]
  have hu := hsc (8 * (k : Int) + 1)
  generalize sc (8 * (k : Int) + 1) = u at hu
  obtain ⟨r, p, iv, a1, a2, a3, a4, a5, a6, -, -⟩ := h.ivs
  have h5 := a1.1
  have le0 : xc x ≤ xc x ∧ xs x ≤ xs x := ⟨Nat.le_refl _, Nat.le_refl _⟩
  have nb5 : Nb x.1 5 := fun j hj => by show 0 ≤ x.1.1 6 j ∧ x.1.1 6 j ≤ 9; rw [a6.2.1]; exact a1.2.1 j hj
  have fre5 := x8_free (d := x.1) (o := 5) (r := r) a6.1 h5.2 nb5
  have e6 : x.1.1 (5 + 1) = x.1.1 114 := a6.2.1
  rw [e6] at fre5
  have p58 : x.1.1 58 0 = p := a6.2.2.1
  by_cases ht : r ≤ 2 ∧ fre (x.1.1 114) r ∧ p ≤ 13
  · have eC0 : X11_solve u x = X11_solve_j44 u 1 x := by
      unfold X11_solve
      rw [a6.1, gd_pos (by omega), if_neg (by omega), b1_pos (fre5.1 ht.2.1), gd_pos (by decide), if_neg (by decide), p58, gd_pos (by omega), if_neg (by omega)]
    obtain ⟨hV, hPG⟩ := h.vi a3 a4
    by_cases c0 : x.1.1 81 0 = 0
    · obtain ⟨d, t1, t2, t3, t4⟩ := x5_find (d0 := x.1) a1 ht.1 ht.2.1 a6.1 a6.2.1 p58 hPG ht.2.2 a5 a6.2.2.2
      have hI := h.slv a3 a4 t2 t4
      have eC : X11_solve u x = X11_solve_j77 u 1 (xD x d) := by
        rw [eC0]
        unfold X11_solve_j44
        rw [gd_pos (by decide), if_neg (by decide), c0, gd_pos (by decide), if_pos rfl, bd_pos t1, lt_pos]
      exact sol_go (y := xD x d) (r := r) (p := p) (f := fun x => L_law__j1652_23 Ln sc (8 * (k : Int)) x) hI hk le0 eC (by show d.1 113 1 = r; rw [t2.2 113 (by decide) (by decide)]; exact a3) (by show d.1 113 4 = p; rw [t2.2 113 (by decide) (by decide)]; exact a4) t3 (by show r ≤ 2 ∧ fre (d.1 114) r ∧ p ≤ 13; rw [t2.2 114 (by decide) (by decide)]; exact ht) hu
    · have c1 : x.1.1 81 0 = 1 := by
        rcases hV with z | z
        · exact absurd z c0
        · exact z.1
      have eC : X11_solve u x = X11_solve_j77 u 1 x := by
        rw [eC0]
        unfold X11_solve_j44
        rw [gd_pos (by decide), if_neg (by decide), c1, gd_pos (by decide), if_neg (by decide)]
      exact sol_go (y := x) (r := r) (p := p) (f := fun x => L_law__j1652_23 Ln sc (8 * (k : Int)) x) h hk le0 eC a3 a4 c1 ht hu
  · -- it isn't as told there
    have eC0 : X11_solve u x = X11_solve_j77 u 0 x := by
      have j43 : X11_solve_j43 u x = X11_solve_j77 u 0 x := by
        unfold X11_solve_j43 X11_solve_j44
        rw [gd_pos (by decide), if_pos rfl]
      unfold X11_solve
      rw [a6.1, gd_pos (by omega)]
      by_cases c1 : r ≤ 2
      · rw [if_neg (by omega)]
        by_cases c2 : fre (x.1.1 114) r
        · rw [b1_pos (fre5.1 c2), gd_pos (by decide), if_neg (by decide), p58, gd_pos (by omega), if_pos (by have c3 : ¬ p ≤ 13 := fun z => ht ⟨c1, c2, z⟩; omega)]; exact j43
        · rw [b1_pos (fre5.2 c2), gd_pos (by decide), if_pos rfl]; exact j43
      · rw [if_pos (by omega)]; exact j43
    have ref : ∀ d : DA, d.1 = x.1.1 → X12_solve 113 u d = X12_solve_j29 113 u (wI d 113 0 0) := fun d hd => by
      have q1 : (wI d 113 0 0).1 113 1 = r := by rw [wI_at, fu_n (by decide), hd]; exact a3
      have q4 : (wI d 113 0 0).1 113 4 = p := by rw [wI_at, fu_n (by decide), hd]; exact a4
      have q114 : (wI d 113 0 0).1 114 = x.1.1 114 := by rw [wI_ne (by decide), hd]
      have fr := x12_free (d := wI d 113 0 0) (r := r) (by rw [q114]; exact a1)
      rw [q114] at fr
      unfold X12_solve
      rw [lt_pos, q1, gd_pos (by omega)]
      by_cases c1 : r ≤ 2
      · rw [if_neg (by omega)]
        by_cases c2 : fre (x.1.1 114) r
        · rw [b1_pos (fr.1 c2), gd_pos (by decide), if_neg (by decide), q4, gd_pos (by omega), if_neg (by have c3 : ¬ p ≤ 13 := fun z => ht ⟨c1, c2, z⟩; omega)]
        · rw [b1_pos (fr.2 c2), gd_pos (by decide), if_pos rfl]
      · rw [if_pos (by omega)]
    have hT9 : xc x ≤ xc (xT x) ∧ xs x ≤ xs (xT x) := ⟨Nat.le_succ _, Nat.le_add_right _ _⟩
    by_cases c1 : u = -1
    · have e1 : X11_solve u x = some (.inl (-1), x) := by
        rw [eC0]
        unfold X11_solve_j77
        rw [gd_pos (by omega), if_pos c1, gd_pos (by decide), if_pos rfl]
      refine both3 (x1 := x) (en := 1) (f := fun x => L_law__j1652_23 Ln sc (8 * (k : Int)) x) h hk (x2 := x) (v := -1) (c := 0) ⟨Or.inl ⟨rfl, e1⟩, le0.1, le0.2⟩ (by decide) (Kp.rf x) (Or.inl rfl) (w := -1) (by decide) (fun _ => rfl) (M := fun d => X12_solve 113 u d) (fun d hd => ?_)
      refine ⟨wI d 113 0 0, ?_, by rw [wI_at, fu_s], Sm.wI rfl, rfl⟩
      show X12_solve 113 u d = _
      rw [ref d hd]
      unfold X12_solve_j29
      rw [gd_pos (by omega), if_pos c1]
    · have e1 : X11_solve u x = some (.inr 1, xT x) := by
        rw [eC0]
        unfold X11_solve_j77
        rw [gd_pos (by omega), if_neg c1, gd_pos (by decide), if_pos rfl]
      refine both3 (x1 := x) (en := 1) (f := fun x => L_law__j1652_23 Ln sc (8 * (k : Int)) x) h hk (x2 := xT x) (v := 0) (c := 1) ⟨Or.inr ⟨rfl, e1⟩, hT9.1, hT9.2⟩ (by decide) (Kp.T x) (Or.inr rfl) (w := 0) (by decide) (fun h9 => by omega) (M := fun d => X12_solve 113 u d) (fun d hd => ?_)
      refine ⟨wI (wI d 113 0 0) 113 0 1, ?_, by rw [wI_at, fu_s], (Sm.wI rfl).tr (Sm.wI rfl), rfl⟩
      show X12_solve 113 u d = _
      rw [ref d hd]
      unfold X12_solve_j29
      rw [gd_pos (by omega), if_neg c1]
      rfl

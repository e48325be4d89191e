/-! ===== the steps of back and again ===== -/
/-- a letter taken back or told again -/
theorem move_let {k : Nat} {x x9 : XS} {D U D' U' m' : Nat} (h : Inv k x) (hk : k < 512) (h92 : x9.2 = x.2) (hD : x.1.1 54 3 = D) (hU : x.1.1 54 4 = U) (hs : D' + U' = D + U)
    (hF : ∀ c, c ≠ 2 → c ≠ 4 → c ≠ 54 → c ≠ 113 → c ≠ 120 → x9.1.1 c = x.1.1 c) (f0 : ∀ j, j ≠ 4 → x9.1.1 2 j = x.1.1 2 j) (f1 : ∀ j, j ≠ 3 → j ≠ 4 → x9.1.1 54 j = x.1.1 54 j) (f2 : x9.1.1 54 3 = D' ∧ x9.1.1 54 4 = U') (f3 : ∀ j, j ≠ 0 → j ≠ 13 → j ≠ 18 → j ≠ 19 → x9.1.1 113 j = x.1.1 113 j) (f4 : x9.1.1 113 18 = D' ∧ x9.1.1 113 19 = U')
    (f5 : x9.1.1 2 4 = m' ∧ x9.1.1 113 13 = m')
    (hT : ∀ m, LeC x.1.1 m → lc (x.1.1 122) D ≤ m → m + lc (x.1.1 122) (D + U) ≤ 12 + lc (x.1.1 122) D → m' ≤ 12 ∧ (∀ j, j < m' → x9.1.1 4 j = x9.1.1 120 j ∧ Lt9 (x9.1.1 120 j)) ∧ lc (x.1.1 122) D' ≤ m' ∧ m' + lc (x.1.1 122) (D + U) ≤ 12 + lc (x.1.1 122) D') : Inv (k + 1) x9 := by
  refine h.tell hk (fun c j hr hc => ?_) h92 (fun r p m D1 U1 q4 q3 q2 q1 hTr hTu hLe hH => ?_)
  · have hne : ∀ a, (∀ j, chT a j = true) → c ≠ a := fun a ha e => by rw [e, ha j] at hc; cases hc
    by_cases c113 : c = 113
    · subst c113
      exact f3 j (fun e => by subst e; cases hr) (fun e => by subst e; cases hc) (fun e => by subst e; cases hc) (fun e => by subst e; cases hc)
    · by_cases c54 : c = 54
      · subst c54
        exact f1 j (fun e => by subst e; cases hc) (fun e => by subst e; cases hc)
      · by_cases c2 : c = 2
        · subst c2
          exact f0 j (fun e => by subst e; cases hc)
        · rw [hF c c2 (hne 4 (fun _ => rfl)) c54 c113 (hne 120 (fun _ => rfl))]
  · have eD : D1 = D := by have : x.1.1 54 3 = D1 := hH.1; omega
    have eU : U1 = U := by have : x.1.1 54 4 = U1 := hH.2.2.1; omega
    subst eD; subst eU
    obtain ⟨h1, h2, h3, h4, h5, h6, h7, h8⟩ := hH
    obtain ⟨a1, a2, a3, a4⟩ := hT m hLe h7 h8
    refine ⟨m', D', U', ?_, ?_, ⟨f5.1, f5.2, a1, a2⟩, f2.1, f4.1, f2.2, f4.2, by omega, fun j hj => ?_, ?_, ?_⟩
    · unfold TrC at hTr ⊢
      rw [hF 114 (by decide) (by decide) (by decide) (by decide) (by decide), hF 117 (by decide) (by decide) (by decide) (by decide) (by decide), hF 118 (by decide) (by decide) (by decide) (by decide) (by decide), hF 12 (by decide) (by decide) (by decide) (by decide) (by decide), hF 13 (by decide) (by decide) (by decide) (by decide) (by decide)]
      exact hTr
    · unfold TuC at hTu ⊢
      rw [hF 3 (by decide) (by decide) (by decide) (by decide) (by decide), hF 119 (by decide) (by decide) (by decide) (by decide) (by decide)]
      exact hTu
    · show EG (x9.1.1 114) r p (x9.1.1 122 j) (x9.1.1 123 j) (x9.1.1 124 j) (x9.1.1 125 j) (x9.1.1 55 j) (x9.1.1 56 j) (x9.1.1 57 j)
      rw [hF 114 (by decide) (by decide) (by decide) (by decide) (by decide), hF 122 (by decide) (by decide) (by decide) (by decide) (by decide), hF 123 (by decide) (by decide) (by decide) (by decide) (by decide), hF 124 (by decide) (by decide) (by decide) (by decide) (by decide), hF 125 (by decide) (by decide) (by decide) (by decide) (by decide), hF 55 (by decide) (by decide) (by decide) (by decide) (by decide), hF 56 (by decide) (by decide) (by decide) (by decide) (by decide), hF 57 (by decide) (by decide) (by decide) (by decide) (by decide)]
      exact h6 j (by omega)
    · show lc (x9.1.1 122) D' ≤ m'
      rw [hF 122 (by decide) (by decide) (by decide) (by decide) (by decide)]; exact a3
    · show m' + lc (x9.1.1 122) (D' + U') ≤ 12 + lc (x9.1.1 122) D'
      rw [hF 122 (by decide) (by decide) (by decide) (by decide) (by decide), hs]; exact a4
/-- the entries of the story -/
theorem Inv.ent {k : Nat} {x : XS} (h : Inv k x) : ∃ r p m D U : Nat, PG p ∧ x.1.1 54 3 = D ∧ x.1.1 113 18 = D ∧ x.1.1 54 4 = U ∧ x.1.1 113 19 = U ∧ D + U ≤ 100 ∧ (∀ j, j < D + U → EG (x.1.1 114) r p (x.1.1 122 j) (x.1.1 123 j) (x.1.1 124 j) (x.1.1 125 j) (x.1.1 55 j) (x.1.1 56 j) (x.1.1 57 j)) ∧ lc (x.1.1 122) D ≤ m ∧ m + lc (x.1.1 122) (D + U) ≤ 12 + lc (x.1.1 122) D ∧ x.1.1 2 4 = m ∧ x.1.1 113 13 = m ∧ x.1.1 5 0 = r ∧ x.1.1 113 4 = p := by
  obtain ⟨-, r, p, m, D, U, tp, kr, la, ⟨⟨t1, -⟩, ⟨-, p2, p3⟩, -, -, ⟨l1, l2, -⟩, -⟩, ⟨h1, h2, h3, h4, h5, h6, h7, h8⟩, -⟩ := h
  exact ⟨r, p, m, D, U, p3, h1, h2, h3, h4, h5, h6, h7, h8, l1, l2, t1, p2⟩
theorem EG.letter {n : Nat → Int} {r p : Nat} {wh wr fro to pl be af : Int} (h : EG n r p wh wr fro to pl be af) (h3 : wh = 3) : af = to ∧ Lt9 to ∧ pl = 761 := by
  rcases h with ⟨-, -, e, -⟩ | ⟨-, -, e, -⟩ | ⟨-, -, e, -⟩ | ⟨e1, -, e2, e3⟩
  · omega
  · omega
  · omega
  · exact ⟨e1, e2, e3⟩
theorem EG.wh {n : Nat → Int} {r p : Nat} {wh wr fro to pl be af : Int} (h : EG n r p wh wr fro to pl be af) : 0 ≤ wh ∧ wh ≤ 3 := by
  rcases h with ⟨-, -, e, -⟩ | ⟨-, -, e, -⟩ | ⟨-, -, e, -⟩ | ⟨-, e, -⟩ <;> omega
theorem st_28 {Ln k : Nat} {sc : Int → Int} {x : XS} (h : Inv k x) (hk : k < 512) (h0 : 0 ≤ 8 * (k : Int) ∧ 8 * (k : Int) + 8 ≤ (Ln : Int)) (hL : Ln ≤ 4096) (hop : iand9 (sc (8 * (k : Int))) 31 = 28) : Step9 Ln sc k x := by
  unfold Step9
  rw [br_28 h0 hL hop]
  obtain ⟨r, p, m, D, U, p1, d1, d2, d3, d4, d5, hE, c1, c2, l1, l2, t1, p2⟩ := h.ent
  have hp := p1.bd
  by_cases cD : D = 0
  · have e1 : X11_back 1 x.1 = some (0, x.1) := by
      unfold X11_back
      have d1' : x.1.1 (1 + 53) 3 = D := d1
      rw [d1']
      simp (disch := omega) only [gd_pos, if_pos, if_neg, lt_pos, reduceIte]
    have e2 : X12_back 113 x.1 = some (0, wI x.1 113 0 0) := by
      unfold X12_back
      have d2' : (wI x.1 113 0 0).1 113 18 = D := d2
      rw [lt_pos, d2']
      simp (disch := omega) only [gd_pos, if_pos, if_neg, lt_pos, reduceIte]
    rw [bd_pos e1, lt_pos, show (xD x x.1).1 = x.1 from rfl, bd_pos e2, lt_pos, gd_pos (by omega), if_pos rfl]
    exact ⟨_, rfl, h.mono hk (Kp.D (Sm.rf x.1)) (Sm.wI rfl)⟩
  · obtain ⟨j, rfl⟩ : ∃ j, D = j + 1 := ⟨D - 1, by omega⟩
    have hEj := hE j (by omega)
    -- the class's first half
    generalize hA : wI (wI x.1 54 3 (j : Int)) 54 4 ((U : Int) + 1) = A
    have ao : ∀ c, c ≠ 54 → A.1 c = x.1.1 c := fun c z => by rw [← hA, wI_ne z, wI_ne z]
    have a54 : ∀ i, i ≠ 3 → i ≠ 4 → A.1 54 i = x.1.1 54 i := fun i z1 z2 => by rw [← hA, wI_at, fu_n z2, wI_at, fu_n z1]
    have a543 : A.1 54 3 = j := by rw [← hA]; rfl
    have a544 : A.1 54 4 = ((U + 1 : Nat) : Int) := by rw [← hA]; rfl
    have eb : X7_stepBack (1 + 53) x.1 = some ((), A) := by
      unfold X7_stepBack
      have d1' : x.1.1 (1 + 53) 3 = ((j + 1 : Nat) : Int) := d1
      rw [lt_pos, lt_pos, d1', show (((j + 1 : Nat) : Int) - 1) = (j : Int) by omega]
      have : (wI x.1 (1 + 53) 3 (j : Int)).1 (1 + 53) 4 = U := d3
      rw [this, ← hA]
    have eX : ∀ E : DA, X6_takeBack (1 + 1) (x.1.1 55 j) (x.1.1 56 j) A = some ((), E) → X11_back 1 x.1 = some (1, E) := fun E hT => by
      unfold X11_back
      have d1' : x.1.1 (1 + 53) 3 = ((j + 1 : Nat) : Int) := d1
      have a3' : A.1 (1 + 53) 3 = j := a543
      have q5 : A.1 (1 + 53 + 1) j = x.1.1 55 j := by show A.1 55 j = _; rw [ao 55 (by decide)]
      have q6 : A.1 (1 + 53 + 2) j = x.1.1 56 j := by show A.1 56 j = _; rw [ao 56 (by decide)]
      rw [d1', gd_pos (by omega), if_pos (by omega), bd_pos eb, a3', Int.toNat_natCast, q5, q6, gd_pos (by omega), gd_pos (by omega), bd_pos hT]
    -- the reference's first half, from any data that agrees
    have eM : ∀ B : DA, (∀ c, c = 113 ∨ c = 122 ∨ c = 123 ∨ c = 124 → B.1 c = x.1.1 c) → (x.1.1 122 j = 3 → X12_back 113 B = some (1, wI (wI (wI (wI B 113 0 0) 113 18 (j : Int)) 113 19 ((U : Int) + 1)) 113 13 ((m : Int) - 1))) ∧ (x.1.1 122 j ≠ 3 → ∀ G : DA, X12_put 113 (x.1.1 122 j) (x.1.1 123 j) (x.1.1 124 j) (wI (wI (wI B 113 0 0) 113 18 (j : Int)) 113 19 ((U : Int) + 1)) = some ((), G) → X12_back 113 B = some (1, G)) := fun B hB => by
      have b18 : (wI B 113 0 0).1 113 18 = ((j + 1 : Nat) : Int) := by show B.1 113 18 = _; rw [hB 113 (by omega)]; exact d2
      have b19 : (wI (wI B 113 0 0) 113 18 (j : Int)).1 113 19 = U := by show B.1 113 19 = U; rw [hB 113 (by omega)]; exact d4
      generalize hC : wI (wI (wI B 113 0 0) 113 18 (j : Int)) 113 19 ((U : Int) + 1) = C
      have c18 : C.1 113 18 = j := by rw [← hC]; rfl
      have cw : ∀ c, c = 122 ∨ c = 123 ∨ c = 124 → C.1 c = x.1.1 c := fun c z => by rw [← hC, wI_ne (by omega), wI_ne (by omega), wI_ne (by omega), hB c (by omega)]
      have c13 : C.1 113 13 = m := by rw [← hC]; show B.1 113 13 = m; rw [hB 113 (by omega)]; exact l2
      have w1 : C.1 (113 + 9) j = x.1.1 122 j := by show C.1 122 j = _; rw [cw 122 (by omega)]
      have w2 : C.1 (113 + 10) j = x.1.1 123 j := by show C.1 123 j = _; rw [cw 123 (by omega)]
      have w3 : C.1 (113 + 11) j = x.1.1 124 j := by show C.1 124 j = _; rw [cw 124 (by omega)]
      have hw := hEj.wh
      have head : X12_back 113 B = (gd (ix (C.1 113 18) 100) <| gd (inR (C.1 (113 + 9) (Int.toNat (C.1 113 18))) ∧ inR 3) <| if (C.1 (113 + 9) (Int.toNat (C.1 113 18))) = 3 then (lt9 (wI C 113 13 ((C.1 113 13) - 1)) fun d5 => some ((1, d5))) else gd (ix (C.1 113 18) 100) <| gd (ix (C.1 113 18) 100) <| gd (ix (C.1 113 18) 100) <| bd (X12_put 113 (C.1 (113 + 9) (Int.toNat (C.1 113 18))) (C.1 (113 + 10) (Int.toNat (C.1 113 18))) (C.1 (113 + 11) (Int.toNat (C.1 113 18))) C) fun _ d4 => some ((1, d4))) := by
        unfold X12_back
        rw [lt_pos, b18, gd_pos (by omega), if_neg (by omega), lt_pos, lt_pos, show (((j + 1 : Nat) : Int) - 1) = (j : Int) by omega, b19, hC]
      rw [head, c18, Int.toNat_natCast, w1, w2, w3, c13]
      refine ⟨fun z => ?_, fun z G hG => ?_⟩
      · rw [gd_pos (by omega), gd_pos (by omega), if_pos z, lt_pos]
      · rw [gd_pos (by omega), gd_pos (by omega), if_neg z, gd_pos (by omega), gd_pos (by omega), gd_pos (by omega), bd_pos hG]
    by_cases cw : x.1.1 122 j = 3
    · obtain ⟨-, -, hpl⟩ := hEj.letter cw
      have hm : 1 ≤ m := by
        have := lc_s (w := x.1.1 122) (j := j)
        rw [if_pos cw] at this
        omega
      have a24 : A.1 (1 + 1) 4 = m := by show A.1 2 4 = m; rw [ao 2 (by decide)]; exact l1
      have eT : X6_takeBack (1 + 1) (x.1.1 55 j) (x.1.1 56 j) A = some ((), wI A 2 4 ((m : Int) - 1)) := by
        unfold X6_takeBack
        rw [hpl, a24]
        have := lc_mono (w := x.1.1 122) (j + 1) (j + 1 + U) (by omega)
        simp (disch := omega) only [gd_pos, if_pos, if_neg, lt_pos, reduceIte]
      rw [bd_pos (eX _ eT), lt_pos]
      generalize hB : wI A 2 4 ((m : Int) - 1) = B
      have bo : ∀ c, c ≠ 2 → c ≠ 54 → B.1 c = x.1.1 c := fun c z1 z2 => by rw [← hB, wI_ne z1, ao c z2]
      rw [show (xD x B).1 = B from rfl, bd_pos ((eM B (fun c z => bo c (by omega) (by omega))).1 cw), lt_pos, gd_pos (by omega), if_pos rfl]
      refine ⟨_, rfl, ?_⟩
      generalize hF : wI (wI (wI (wI B 113 0 0) 113 18 (j : Int)) 113 19 ((U : Int) + 1)) 113 13 ((m : Int) - 1) = F
      have fo : ∀ c, c ≠ 113 → F.1 c = B.1 c := fun c z => by rw [← hF, wI_ne z, wI_ne z, wI_ne z, wI_ne z]
      have f113 : ∀ i, i ≠ 0 → i ≠ 13 → i ≠ 18 → i ≠ 19 → F.1 113 i = B.1 113 i := fun i z1 z2 z3 z4 => by rw [← hF, wI_at, fu_n z2, wI_at, fu_n z4, wI_at, fu_n z3, wI_at, fu_n z1]
      refine move_let (x9 := xD (xD x B) F) (D := j + 1) (U := U) (D' := j) (U' := U + 1) (m' := m - 1) h hk rfl d1 d3 (by omega) (fun c z1 z2 z3 z4 z5 => ?_) (fun i z => ?_) (fun i z1 z2 => ?_) ⟨?_, ?_⟩ (fun i z1 z2 z3 z4 => ?_) ⟨?_, ?_⟩ ⟨?_, ?_⟩ (fun m9 hLe q1 q2 => ?_)
      · show F.1 c = _
        rw [fo c z4, bo c z1 z3]
      · show F.1 2 i = _
        rw [fo 2 (by decide), ← hB, wI_at, fu_n z, ao 2 (by decide)]
      · show F.1 54 i = _
        rw [fo 54 (by decide), ← hB, wI_ne (by decide), a54 i z1 z2]
      · show F.1 54 3 = _
        rw [fo 54 (by decide), ← hB, wI_ne (by decide), a543]
      · show F.1 54 4 = _
        rw [fo 54 (by decide), ← hB, wI_ne (by decide), a544]
      · show F.1 113 i = _
        rw [f113 i z1 z2 z3 z4, bo 113 (by decide) (by decide)]
      · show F.1 113 18 = _
        rw [← hF]; rfl
      · show F.1 113 19 = _
        rw [← hF]; rfl
      · show F.1 2 4 = _
        rw [fo 2 (by decide), ← hB, wI_at, fu_s]; omega
      · show F.1 113 13 = _
        rw [← hF, wI_at, fu_s]; omega
      · have em : m9 = m := by have : x.1.1 2 4 = m9 := hLe.1; omega
        subst em
        have hs := lc_s (w := x.1.1 122) (j := j)
        rw [if_pos cw] at hs
        refine ⟨by have := hLe.2.2.1; omega, fun i hi => ?_, by omega, by omega⟩
        show F.1 4 i = F.1 120 i ∧ Lt9 (F.1 120 i)
        rw [fo 4 (by decide), fo 120 (by decide), bo 4 (by decide) (by decide), bo 120 (by decide) (by decide)]
        exact hLe.2.2.2 i (by omega)
    · obtain ⟨cc, cm, q, k1, k2, k3, k4, k5, k6, k7⟩ := put_EG (v := x.1.1 124 j) hEj cw (Or.inl rfl) hp.1
      have eT : X6_takeBack (1 + 1) (x.1.1 55 j) (x.1.1 56 j) A = some ((), wI A cc q (x.1.1 124 j)) := by
        unfold X6_takeBack
        rw [k5, gd_pos (by omega), if_neg (by omega), bd_pos (k3 A)]
      rw [bd_pos (eX _ eT), lt_pos]
      generalize hB : wI A cc q (x.1.1 124 j) = B
      have bo : ∀ c, c ≠ cc → c ≠ 54 → B.1 c = x.1.1 c := fun c z1 z2 => by rw [← hB, wI_ne z1, ao c z2]
      rw [show (xD x B).1 = B from rfl, bd_pos ((eM B (fun c z => bo c (by omega) (by omega))).2 cw _ (k4 _)), lt_pos, gd_pos (by omega), if_pos rfl]
      refine ⟨_, rfl, ?_⟩
      generalize hF : wI (wI (wI (wI B 113 0 0) 113 18 (j : Int)) 113 19 ((U : Int) + 1)) cm q (x.1.1 124 j) = F
      have fo : ∀ c, c ≠ 113 → c ≠ cm → F.1 c = B.1 c := fun c z z2 => by rw [← hF, wI_ne z2, wI_ne z, wI_ne z, wI_ne z]
      have f113 : ∀ i, i ≠ 0 → i ≠ 18 → i ≠ 19 → F.1 113 i = B.1 113 i := fun i z1 z3 z4 => by rw [← hF, wI_ne (by omega), wI_at, fu_n z4, wI_at, fu_n z3, wI_at, fu_n z1]
      have fcc : F.1 cc = fu (x.1.1 cc) q (x.1.1 124 j) := by rw [fo cc (by omega) (by omega), ← hB, wI_at, ao cc (by omega)]
      have fcm : F.1 cm = fu (x.1.1 cm) q (x.1.1 124 j) := by rw [← hF, wI_at, wI_ne (by omega), wI_ne (by omega), wI_ne (by omega), bo cm (by omega) (by omega)]
      have fgen : ∀ c, c ≠ cc → c ≠ cm → c ≠ 54 → c ≠ 113 → F.1 c = x.1.1 c := fun c z1 z2 z3 z4 => by rw [fo c z4 z2, bo c z1 z3]
      have hs := lc_s (w := x.1.1 122) (j := j)
      rw [if_neg cw] at hs
      refine move_put (x9 := xD (xD x B) F) (F := F) (D := j + 1) (U := U) (D' := j) (U' := U + 1) (v := x.1.1 124 j) h hk rfl rfl d1 d3 (by omega) k1 fgen (fun i z1 z2 => ?_) ⟨?_, ?_⟩ (fun i z1 z2 z3 => ?_) ⟨?_, ?_⟩ fcc fcm (by omega) (fun r' p' w1 w2 z1 z2 z3 z4 z5 => ?_)
      · rw [fo 54 (by decide) (by omega), ← hB, wI_ne (by omega), a54 i z1 z2]
      · rw [fo 54 (by decide) (by omega), ← hB, wI_ne (by omega), a543]
      · rw [fo 54 (by decide) (by omega), ← hB, wI_ne (by omega), a544]
      · rw [f113 i z1 z2 z3, bo 113 (by omega) (by decide)]
      · rw [← hF, wI_ne (by omega)]; rfl
      · rw [← hF, wI_ne (by omega)]; rfl
      · have er : r' = r := by omega
        have ep : p' = p := by omega
        subst er; subst ep
        exact k7 x.1.1 F.1 rfl (fun c z1 z2 z3 => fgen c z1 z2 (by omega) (by omega)) fcc fcm z3 z4

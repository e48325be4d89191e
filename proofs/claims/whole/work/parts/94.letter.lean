/-! ===== letter ===== -/
theorem st_26 {Ln k : Nat} {sc : Int → Int} {x : XS} (h : Inv k x) (hk : k < 512) (h0 : 0 ≤ 8 * (k : Int) ∧ 8 * (k : Int) + 8 ≤ (Ln : Int)) (hL : Ln ≤ 4096) (hsc : ScR sc) (hop : iand9 (sc (8 * (k : Int))) 31 = 26) : Step9 Ln sc k x := by
  unfold Step9
  rw [br_26 h0 hL hop]
  simp only [gd_pos (show ix (8 * (k : Int) + 1) Ln from (by omega))]
  have hv := hsc (8 * (k : Int) + 1)
  generalize sc (8 * (k : Int) + 1) = v at hv
  obtain ⟨r, p, m, t1, t2, t3, t4, p1, p2, p2', f1, f2, f3, s1, l1, l2, l3⟩ := h.trs
  obtain ⟨D, U, d1, d2, d3, d4, d5⟩ := h.dn
  have hI := x12_isIn (v := v) (a := -2) (b := 2) hv (by omega) (by omega) (d := x.1)
  by_cases ok : Lt9 v ∧ m < 12
  · obtain ⟨o1, o2⟩ := ok
    obtain ⟨⟨u, A⟩, e1, hA⟩ := x7_add (d := x.1) (pl := 761) (be := 0) (af := v) d1 (by omega)
    have hA' : Ad 54 3 4 55 56 57 D 761 0 v x.1 A := hA
    have a24 : A.1 2 4 = m := by rw [hA'.2.1 2 (by decide) (by decide) (by decide) (by decide)]; exact l1
    have eR : X11_remember 1 761 v x.1 = some (1, wI (wI A 4 m v) 2 4 ((m : Int) + 1)) := by
      unfold X11_remember
      have ev : X6_valueAt (1 + 1) 761 x.1 = some 0 := by
        unfold X6_valueAt
        simp (disch := omega) only [gd_pos, if_pos, if_neg, lt_pos, reduceIte]
      have ep : X6_put (1 + 1) 761 v A = some ((), wI (wI A 4 m v) 2 4 ((m : Int) + 1)) := by
        unfold X6_put
        have a24' : A.1 (1 + 1) 4 = m := a24
        rw [a24', Int.toNat_natCast]
        simp (disch := omega) only [gd_pos, if_pos, if_neg, lt_pos, reduceIte]
        have : (wI A (1 + 1 + 2) m v).1 (1 + 1) 4 = m := by show (wI A 4 m v).1 2 4 = m; rw [wI_ne (by decide)]; exact a24
        rw [this]
      have e1' : X7_add (1 + 53) 761 0 v x.1 = some (u, A) := e1
      rw [b1_pos ev, bd_pos e1', bd_pos ep]
    have eL : X11_letter 1 v x.1 = some ((m : Int) + 1, wI (wI A 4 m v) 2 4 ((m : Int) + 1)) := by
      have j26 : X11_letter_j26 1 v 1 x.1 = some ((m : Int) + 1, wI (wI A 4 m v) 2 4 ((m : Int) + 1)) := by
        unfold X11_letter_j26
        have l1' : x.1.1 (1 + 1) 4 = m := l1
        rw [l1']
        simp (disch := omega) only [gd_pos, if_pos, if_neg, lt_pos, reduceIte]
        rw [bd_pos eR]
        rfl
      unfold X11_letter X11_letter_j21
      unfold Lt9 at o1
      by_cases c1 : v = 1
      · simp (disch := omega) only [gd_pos, if_pos, if_neg, lt_pos, reduceIte]; exact j26
      · by_cases c2 : v = 2
        · simp (disch := omega) only [gd_pos, if_pos, if_neg, lt_pos, reduceIte]; exact j26
        · by_cases c3 : v = -1
          · simp (disch := omega) only [gd_pos, if_pos, if_neg, lt_pos, reduceIte]; exact j26
          · simp (disch := omega) only [gd_pos, if_pos, if_neg, lt_pos, reduceIte]; exact j26
    rw [bd_pos eL, lt_pos]
    generalize hB : wI (wI A 4 m v) 2 4 ((m : Int) + 1) = B
    have bo : ∀ i, i ≠ 2 → i ≠ 4 → i ≠ 54 → i ≠ 55 → i ≠ 56 → i ≠ 57 → B.1 i = x.1.1 i := fun i z1 z2 z3 z4 z5 z6 => by rw [← hB, wI_ne z1, wI_ne z2, hA'.2.1 i z3 z4 z5 z6]
    have b113 : B.1 113 = x.1.1 113 := bo 113 (by decide) (by decide) (by decide) (by decide) (by decide) (by decide)
    obtain ⟨⟨u2, C⟩, e2, hC⟩ := x12_log (d := wI B 113 0 0) (va := 3) (vb := (m : Int)) (vc := 0) (ve := v) (D := D) (by show B.1 113 18 = D; rw [b113]; exact d2) (by omega)
    have hC' : Al9 D 3 m 0 v (wI B 113 0 0) C := hC
    have c13 : C.1 113 13 = m := by rw [hC'.2.2.1 13 (by decide) (by decide)]; show B.1 113 13 = m; rw [b113]; exact l2
    have eM : X12_letter 113 v B = some ((m : Int) + 1, wI (wI C 120 m v) 113 13 ((m : Int) + 1)) := by
      unfold X12_letter
      have q13 : (wI B 113 0 0).1 113 13 = m := by show B.1 113 13 = m; rw [b113]; exact l2
      unfold Lt9 at o1
      have hI2 := x12_isIn (d := wI B 113 0 0) (v := v) (a := -2) (b := 2) hv (by omega) (by omega)
      rw [lt_pos, q13, gd_pos (by omega), if_neg (by omega), gd_pos hv, if_neg (by omega), b1_pos (hI2.1 (by omega)), gd_pos (by omega), if_neg (by decide), bd_pos e2, c13, gd_pos (by omega), lt_pos, lt_pos, Int.toNat_natCast]
      have : (wI C (113 + 7) m v).1 113 13 = m := by show (wI C 120 m v).1 113 13 = m; rw [wI_ne (by decide)]; exact c13
      rw [this]
      rfl
    rw [show (xD x B).1 = B from rfl, bd_pos eM, lt_pos, gd_pos (by omega), if_pos rfl]
    refine ⟨_, rfl, ?_⟩
    generalize hF : wI (wI C 120 m v) 113 13 ((m : Int) + 1) = F
    have fo : ∀ i, i ≠ 2 → i ≠ 4 → i ≠ 54 → i ≠ 55 → i ≠ 56 → i ≠ 57 → i ≠ 113 → i ≠ 120 → i ≠ 122 → i ≠ 123 → i ≠ 124 → i ≠ 125 → F.1 i = x.1.1 i := fun i z1 z2 z3 z4 z5 z6 z7 z8 z9 z10 z11 z12 => by
      rw [← hF, wI_ne z7, wI_ne z8, hC'.2.1 i z7 z9 z10 z11 z12, wI_ne z7, bo i z1 z2 z3 z4 z5 z6]
    have f113 : ∀ j, j ≠ 0 → j ≠ 13 → j ≠ 18 → j ≠ 19 → F.1 113 j = x.1.1 113 j := fun j z1 z2 z3 z4 => by
      rw [← hF, wI_at, fu_n z2, wI_ne (by decide), hC'.2.2.1 j z3 z4, wI_at, fu_n z1, b113]
    have fc : ∀ i, i = 54 ∨ i = 55 ∨ i = 56 ∨ i = 57 → F.1 i = A.1 i := fun i z => by
      rw [← hF, wI_ne (by omega), wI_ne (by omega), hC'.2.1 i (by omega) (by omega) (by omega) (by omega) (by omega), wI_ne (by omega), ← hB, wI_ne (by omega), wI_ne (by omega)]
    have f2j : ∀ j, j ≠ 4 → F.1 2 j = x.1.1 2 j := fun j z => by
      rw [← hF, wI_ne (by decide), wI_ne (by decide), hC'.2.1 2 (by decide) (by decide) (by decide) (by decide) (by decide), wI_ne (by decide), ← hB, wI_at, fu_n z, wI_ne (by decide), hA'.2.1 2 (by decide) (by decide) (by decide) (by decide)]
    have f24 : F.1 2 4 = (m : Int) + 1 := by
      rw [← hF, wI_ne (by decide), wI_ne (by decide), hC'.2.1 2 (by decide) (by decide) (by decide) (by decide) (by decide), wI_ne (by decide), ← hB, wI_at, fu_s]
    have f4 : F.1 4 = fu (x.1.1 4) m v := by
      rw [← hF, wI_ne (by decide), wI_ne (by decide), hC'.2.1 4 (by decide) (by decide) (by decide) (by decide) (by decide), wI_ne (by decide), ← hB, wI_ne (by decide), wI_at, hA'.2.1 4 (by decide) (by decide) (by decide) (by decide)]
    have f120 : F.1 120 = fu (x.1.1 120) m v := by
      rw [← hF, wI_ne (by decide), wI_at, hC'.2.1 120 (by decide) (by decide) (by decide) (by decide) (by decide), wI_ne (by decide), bo 120 (by decide) (by decide) (by decide) (by decide) (by decide) (by decide)]
    have f1313 : F.1 113 13 = (m : Int) + 1 := by rw [← hF, wI_at, fu_s]
    have lg : ∀ i, i = 122 ∨ i = 123 ∨ i = 124 ∨ i = 125 → F.1 i = C.1 i ∧ (wI B 113 0 0).1 i = x.1.1 i := fun i z => by
      refine ⟨by rw [← hF, wI_ne (by omega), wI_ne (by omega)], by rw [wI_ne (by omega), bo i (by omega) (by omega) (by omega) (by omega) (by omega) (by omega)]⟩
    refine h.tell hk (x' := xD (xD x B) F) (fun c j hr hc => ?_) rfl (fun r' p' m' D1 U1 q4 q3 q2 q1 hTr hTu hLe hH => ?_)
    · show F.1 c j = x.1.1 c j
      have hne : ∀ a, (∀ j, chT a j = true) → c ≠ a := fun a ha e => by rw [e, ha j] at hc; cases hc
      by_cases c113 : c = 113
      · subst c113
        exact f113 j (fun e => by subst e; cases hr) (fun e => by subst e; cases hc) (fun e => by subst e; cases hc) (fun e => by subst e; cases hc)
      · by_cases c54 : c = 54
        · subst c54
          rw [fc 54 (Or.inl rfl)]
          exact hA'.2.2.1 j (fun e => by subst e; cases hc) (fun e => by subst e; cases hc)
        · by_cases c2 : c = 2
          · subst c2
            exact f2j j (fun e => by subst e; cases hc)
          · rw [fo c c2 (hne 4 (fun _ => rfl)) c54 (hne 55 (fun _ => rfl)) (hne 56 (fun _ => rfl)) (hne 57 (fun _ => rfl)) c113 (hne 120 (fun _ => rfl)) (hne 122 (fun _ => rfl)) (hne 123 (fun _ => rfl)) (hne 124 (fun _ => rfl)) (hne 125 (fun _ => rfl))]
    · have em : m' = m := by have : x.1.1 2 4 = m' := hLe.1; omega
      have eD : D1 = D := by have : x.1.1 54 3 = D1 := hH.1; omega
      subst em; subst eD
      refine ⟨m' + 1, dn9 D1 + 1, 0, ?_, ?_, ⟨?_, ?_, by omega, fun j hj => ?_⟩, ?_⟩
      · show TrC F.1 r' p'
        unfold TrC at hTr ⊢
        rw [fo 114 (by decide) (by decide) (by decide) (by decide) (by decide) (by decide) (by decide) (by decide) (by decide) (by decide) (by decide) (by decide), fo 117 (by decide) (by decide) (by decide) (by decide) (by decide) (by decide) (by decide) (by decide) (by decide) (by decide) (by decide) (by decide), fo 118 (by decide) (by decide) (by decide) (by decide) (by decide) (by decide) (by decide) (by decide) (by decide) (by decide) (by decide) (by decide), fo 12 (by decide) (by decide) (by decide) (by decide) (by decide) (by decide) (by decide) (by decide) (by decide) (by decide) (by decide) (by decide), fo 13 (by decide) (by decide) (by decide) (by decide) (by decide) (by decide) (by decide) (by decide) (by decide) (by decide) (by decide) (by decide)]
        exact hTr
      · show TuC F.1 p'
        unfold TuC at hTu ⊢
        rw [fo 3 (by decide) (by decide) (by decide) (by decide) (by decide) (by decide) (by decide) (by decide) (by decide) (by decide) (by decide) (by decide), fo 119 (by decide) (by decide) (by decide) (by decide) (by decide) (by decide) (by decide) (by decide) (by decide) (by decide) (by decide) (by decide)]
        exact hTu
      · show F.1 2 4 = ((m' + 1 : Nat) : Int)
        rw [f24]; omega
      · show F.1 113 13 = ((m' + 1 : Nat) : Int)
        rw [f1313]; omega
      · show F.1 4 j = F.1 120 j ∧ Lt9 (F.1 120 j)
        rw [f4, f120, fu_app, fu_app]
        by_cases c : j = m'
        · rw [if_pos c, if_pos c]; exact ⟨rfl, o1⟩
        · rw [if_neg c, if_neg c]; exact hLe.2.2.2 j (by omega)
      · refine hH.add (va := 3) (vb := (m' : Int)) (vc := 0) (ve := v) (pl := 761) (be := 0) (af := v) (by omega) (by rw [if_pos rfl]; exact Nat.le_refl _) ?_ ?_ ?_ ?_ ?_ ?_ ?_ ?_ ?_ ?_ ?_ ?_ (Or.inr (Or.inr (Or.inr ⟨rfl, rfl, o1, rfl⟩)))
        · exact fo 114 (by decide) (by decide) (by decide) (by decide) (by decide) (by decide) (by decide) (by decide) (by decide) (by decide) (by decide) (by decide)
        · show F.1 54 3 = _
          rw [fc 54 (by omega)]; exact hA'.2.2.2.1
        · show F.1 54 4 = _
          rw [fc 54 (by omega)]; exact hA'.2.2.2.2.1
        · show F.1 55 = _
          rw [fc 55 (by omega)]; exact hA'.2.2.2.2.2.1
        · show F.1 56 = _
          rw [fc 56 (by omega)]; exact hA'.2.2.2.2.2.2.1
        · show F.1 57 = _
          rw [fc 57 (by omega)]; exact hA'.2.2.2.2.2.2.2
        · show F.1 113 18 = _
          rw [← hF, wI_at, fu_n (by decide), wI_ne (by decide)]; exact hC'.2.2.2.1
        · show F.1 113 19 = _
          rw [← hF, wI_at, fu_n (by decide), wI_ne (by decide)]; exact hC'.2.2.2.2.1
        · show F.1 122 = _
          rw [(lg 122 (by omega)).1, hC'.2.2.2.2.2.1, (lg 122 (by omega)).2]; rfl
        · show F.1 123 = _
          rw [(lg 123 (by omega)).1, hC'.2.2.2.2.2.2.1, (lg 123 (by omega)).2]; rfl
        · show F.1 124 = _
          rw [(lg 124 (by omega)).1, hC'.2.2.2.2.2.2.2.1, (lg 124 (by omega)).2]; rfl
        · show F.1 125 = _
          rw [(lg 125 (by omega)).1, hC'.2.2.2.2.2.2.2.2, (lg 125 (by omega)).2]; rfl
  · have eL : X11_letter 1 v x.1 = some (-1, wI x.1 2 7 (x.1.1 2 7 + 1)) := by
      have j43 : X11_letter_j43 1 x.1 = some (-1, wI x.1 2 7 (x.1.1 2 7 + 1)) := rfl
      have l1' : x.1.1 (1 + 1) 4 = m := l1
      unfold Lt9 at ok
      unfold X11_letter X11_letter_j21 X11_letter_j26
      rw [l1']
      by_cases c0 : m < 12
      · simp (disch := omega) only [gd_pos, if_pos, if_neg, lt_pos, reduceIte, j43]
      · by_cases c1 : v = 1
        · simp (disch := omega) only [gd_pos, if_pos, if_neg, lt_pos, reduceIte, j43]
        · by_cases c2 : v = 2
          · simp (disch := omega) only [gd_pos, if_pos, if_neg, lt_pos, reduceIte, j43]
          · by_cases c3 : v = -1
            · simp (disch := omega) only [gd_pos, if_pos, if_neg, lt_pos, reduceIte, j43]
            · by_cases c4 : v = -2
              · simp (disch := omega) only [gd_pos, if_pos, if_neg, lt_pos, reduceIte, j43]
              · simp (disch := omega) only [gd_pos, if_pos, if_neg, lt_pos, reduceIte, j43]
    rw [bd_pos eL, lt_pos]
    obtain ⟨d', g1, g2, g3, g4⟩ := refuse_fin (x3 := xD x (wI x.1 2 7 (x.1.1 2 7 + 1))) h hk rfl rfl
    have eM : X12_letter 113 v (wI x.1 2 7 (x.1.1 2 7 + 1)) = some (-1, d') := by
      have e9 := Option.some.inj g1
      have e9' : wI (wI (wI x.1 2 7 (x.1.1 2 7 + 1)) 113 0 0) 121 1 ((wI (wI x.1 2 7 (x.1.1 2 7 + 1)) 113 0 0).1 121 1 + 1) = d' := congrArg Prod.snd e9
      have j28 : X12_letter_j28 113 (wI (wI x.1 2 7 (x.1.1 2 7 + 1)) 113 0 0) = some (-1, d') := by
        unfold X12_letter_j28
        simp (disch := omega) only [gd_pos, if_pos, if_neg, lt_pos, reduceIte]
        rw [← e9']
        rfl
      have q13 : (wI (wI x.1 2 7 (x.1.1 2 7 + 1)) 113 0 0).1 113 13 = m := by show (wI x.1 2 7 (x.1.1 2 7 + 1)).1 113 13 = m; rw [wI_ne (by decide)]; exact l2
      unfold Lt9 at ok
      unfold X12_letter
      have hI2 := x12_isIn (d := wI (wI x.1 2 7 (x.1.1 2 7 + 1)) 113 0 0) (v := v) (a := -2) (b := 2) hv (by omega) (by omega)
      rw [lt_pos, q13]
      by_cases c0 : m = 12
      · simp (disch := omega) only [gd_pos, if_pos, if_neg, lt_pos, reduceIte, j28]
      · by_cases c1 : v = 0
        · simp (disch := omega) only [gd_pos, if_pos, if_neg, lt_pos, reduceIte, j28]
        · rw [b1_pos (hI2.2 (by omega))]
          simp (disch := omega) only [gd_pos, if_pos, if_neg, lt_pos, reduceIte, j28]
    rw [show (xD x (wI x.1 2 7 (x.1.1 2 7 + 1))).1 = wI x.1 2 7 (x.1.1 2 7 + 1) from rfl, bd_pos eM, lt_pos, gd_pos (by omega), if_pos rfl]
    exact ⟨_, rfl, g4⟩

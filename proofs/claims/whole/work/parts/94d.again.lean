/-! ===== the step of again ===== -/
theorem st_29 {Ln k : Nat} {sc : Int → Int} {x : XS} (h : Inv k x) (hk : k < 512) (h0 : 0 ≤ 8 * (k : Int) ∧ 8 * (k : Int) + 8 ≤ (Ln : Int)) (hL : Ln ≤ 4096) (hop : iand9 (sc (8 * (k : Int))) 31 = 29) : Step9 Ln sc k x := by
  unfold Step9
  rw [br_29 h0 hL hop]
  obtain ⟨r, p, m, D, U, p1, d1, d2, d3, d4, d5, hE, c1, c2, l1, l2, t1, p2⟩ := h.ent
  have hp := p1.bd
  by_cases cU : U = 0
  · have e1 : X11_again 1 x.1 = some (0, x.1) := by
      unfold X11_again
      have d3' : x.1.1 (1 + 53) 4 = U := d3
      rw [d3']
      simp (disch := omega) only [gd_pos, if_pos, if_neg, lt_pos, reduceIte]
    have e2 : X12_again 113 x.1 = some (0, wI x.1 113 0 0) := by
      unfold X12_again
      have d4' : (wI x.1 113 0 0).1 113 19 = U := d4
      rw [lt_pos, d4']
      simp (disch := omega) only [gd_pos, if_pos, if_neg, lt_pos, reduceIte]
    rw [bd_pos e1, lt_pos, show (xD x x.1).1 = x.1 from rfl, bd_pos e2, lt_pos, gd_pos (by omega), if_pos rfl]
    exact ⟨_, rfl, h.mono hk (Kp.D (Sm.rf x.1)) (Sm.wI rfl)⟩
  · obtain ⟨j, rfl⟩ : ∃ j, U = j + 1 := ⟨U - 1, by omega⟩
    have hED := hE D (by omega)
    have hw := hED.wh
    have hmo := lc_mono (w := x.1.1 122) (D + 1) (D + (j + 1)) (by omega)
    have hs := lc_s (w := x.1.1 122) (j := D)
    -- the class, from the data the put leaves
    have eX : ∀ A : DA, (∀ i, A.1 54 i = x.1.1 54 i) → X6_put 2 (x.1.1 55 D) (x.1.1 57 D) x.1 = some ((), A) → X11_again 1 x.1 = some (1, wI (wI A 54 3 ((D : Int) + 1)) 54 4 (j : Int)) := fun A h54 hT => by
      unfold X11_again
      have d1' : x.1.1 (1 + 53) 3 = D := d1
      have d3' : x.1.1 (1 + 53) 4 = ((j + 1 : Nat) : Int) := d3
      have hT' : X6_put (1 + 1) (x.1.1 (1 + 53 + 1) D) (x.1.1 (1 + 53 + 3) D) x.1 = some ((), A) := hT
      have es : X7_stepOn (1 + 53) A = some ((), wI (wI A 54 3 ((D : Int) + 1)) 54 4 (j : Int)) := by
        unfold X7_stepOn
        have a3 : A.1 (1 + 53) 3 = D := by show A.1 54 3 = D; rw [h54]; exact d1
        have a4 : (wI A (1 + 53) 3 ((D : Int) + 1)).1 (1 + 53) 4 = ((j + 1 : Nat) : Int) := by show A.1 54 4 = _; rw [h54]; exact d3
        rw [lt_pos, lt_pos, a3, a4, show (((j + 1 : Nat) : Int) - 1) = (j : Int) by omega]
      rw [d1', d3', Int.toNat_natCast, gd_pos (by omega), if_pos (by omega), gd_pos (by omega), gd_pos (by omega), bd_pos hT', bd_pos es]
    -- the reference
    have eJ : ∀ G : DA, G.1 113 18 = D → G.1 113 19 = ((j + 1 : Nat) : Int) → X12_again_j89 113 G = some (1, wI (wI G 113 18 ((D : Int) + 1)) 113 19 (j : Int)) := fun G g1 g2 => by
      unfold X12_again_j89
      have a4 : (wI G 113 18 ((D : Int) + 1)).1 113 19 = ((j + 1 : Nat) : Int) := g2
      rw [lt_pos, lt_pos, g1, a4, show (((j + 1 : Nat) : Int) - 1) = (j : Int) by omega]
    have eM : ∀ B : DA, (∀ c, c = 113 ∨ c = 122 ∨ c = 123 ∨ c = 125 → B.1 c = x.1.1 c) → (x.1.1 122 D = 3 → m < 12 → X12_again 113 B = some (1, wI (wI (wI (wI (wI B 113 0 0) 120 m (x.1.1 125 D)) 113 13 ((m : Int) + 1)) 113 18 ((D : Int) + 1)) 113 19 (j : Int))) ∧ (x.1.1 122 D ≠ 3 → ∀ G : DA, G.1 113 18 = D → G.1 113 19 = ((j + 1 : Nat) : Int) → X12_put 113 (x.1.1 122 D) (x.1.1 123 D) (x.1.1 125 D) (wI B 113 0 0) = some ((), G) → X12_again 113 B = some (1, wI (wI G 113 18 ((D : Int) + 1)) 113 19 (j : Int))) := fun B hB => by
      have b18 : (wI B 113 0 0).1 113 18 = D := by show B.1 113 18 = _; rw [hB 113 (by omega)]; exact d2
      have b19 : (wI B 113 0 0).1 113 19 = ((j + 1 : Nat) : Int) := by show B.1 113 19 = _; rw [hB 113 (by omega)]; exact d4
      have b13 : (wI B 113 0 0).1 113 13 = m := by show B.1 113 13 = _; rw [hB 113 (by omega)]; exact l2
      generalize hC : wI B 113 0 0 = C at b18 b19 b13
      have cw : ∀ c, c = 122 ∨ c = 123 ∨ c = 125 → C.1 c = x.1.1 c := fun c z => by rw [← hC, wI_ne (by omega), hB c (by omega)]
      have w1 : C.1 (113 + 9) D = x.1.1 122 D := by show C.1 122 D = _; rw [cw 122 (by omega)]
      have w2 : C.1 (113 + 10) D = x.1.1 123 D := by show C.1 123 D = _; rw [cw 123 (by omega)]
      have w3 : C.1 (113 + 12) D = x.1.1 125 D := by show C.1 125 D = _; rw [cw 125 (by omega)]
      refine ⟨fun z hm => ?_, fun z G g1 g2 hG => ?_⟩
      · have a13 : (wI C (113 + 7) m (x.1.1 125 D)).1 113 13 = m := by show (wI C 120 m (x.1.1 125 D)).1 113 13 = m; rw [wI_ne (by decide)]; exact b13
        have e9 := eJ (wI (wI C 120 m (x.1.1 125 D)) 113 13 ((m : Int) + 1)) (by show (wI C 120 m (x.1.1 125 D)).1 113 18 = D; rw [wI_ne (by decide)]; exact b18) (by show (wI C 120 m (x.1.1 125 D)).1 113 19 = _; rw [wI_ne (by decide)]; exact b19)
        unfold X12_again
        rw [lt_pos, hC, b19, b18, b13, Int.toNat_natCast, Int.toNat_natCast, w1, w3, gd_pos (by omega), if_neg (by omega), gd_pos (by omega), gd_pos (by omega), if_pos z, gd_pos (by omega), gd_pos (by omega), lt_pos, lt_pos, a13]
        exact e9
      · unfold X12_again
        rw [lt_pos, hC, b19, b18, Int.toNat_natCast, w1, w2, w3, gd_pos (by omega), if_neg (by omega), gd_pos (by omega), gd_pos (by omega), if_neg z, gd_pos (by omega), gd_pos (by omega), gd_pos (by omega), bd_pos hG]
        exact eJ G g1 g2
    by_cases cw : x.1.1 122 D = 3
    · obtain ⟨haf, hlt, hpl⟩ := hED.letter cw
      rw [if_pos cw] at hs
      have hm : m < 12 := by omega
      have eT : X6_put 2 (x.1.1 55 D) (x.1.1 57 D) x.1 = some ((), wI (wI x.1 4 m (x.1.1 125 D)) 2 4 ((m : Int) + 1)) := by
        unfold X6_put
        rw [hpl, haf, l1, Int.toNat_natCast]
        simp (disch := omega) only [gd_pos, if_pos, if_neg, lt_pos, reduceIte]
        have : (wI x.1 (2 + 2) m (x.1.1 125 D)).1 2 4 = m := l1
        rw [this]
      rw [bd_pos (eX (wI (wI x.1 4 m (x.1.1 125 D)) 2 4 ((m : Int) + 1)) (fun i => rfl) eT), lt_pos]
      generalize hB : wI (wI (wI (wI x.1 4 m (x.1.1 125 D)) 2 4 ((m : Int) + 1)) 54 3 ((D : Int) + 1)) 54 4 (j : Int) = B
      have bo : ∀ c, c ≠ 2 → c ≠ 4 → c ≠ 54 → B.1 c = x.1.1 c := fun c z1 z2 z3 => by rw [← hB, wI_ne z3, wI_ne z3, wI_ne z1, wI_ne z2]
      rw [show (xD x B).1 = B from rfl, bd_pos ((eM B (fun c z => bo c (by omega) (by omega) (by omega))).1 cw hm), lt_pos, gd_pos (by omega), if_pos rfl]
      refine ⟨_, rfl, ?_⟩
      generalize hF : wI (wI (wI (wI (wI B 113 0 0) 120 m (x.1.1 125 D)) 113 13 ((m : Int) + 1)) 113 18 ((D : Int) + 1)) 113 19 (j : Int) = F
      have fo : ∀ c, c ≠ 113 → c ≠ 120 → F.1 c = B.1 c := fun c z z2 => by rw [← hF, wI_ne z, wI_ne z, wI_ne z, wI_ne z2, wI_ne z]
      have f113 : ∀ i, i ≠ 0 → i ≠ 13 → i ≠ 18 → i ≠ 19 → F.1 113 i = B.1 113 i := fun i z1 z2 z3 z4 => by rw [← hF, wI_at, fu_n z4, wI_at, fu_n z3, wI_at, fu_n z2, wI_ne (by decide), wI_at, fu_n z1]
      have f120 : F.1 120 = fu (x.1.1 120) m (x.1.1 125 D) := by rw [← hF, wI_ne (by decide), wI_ne (by decide), wI_ne (by decide), wI_at, wI_ne (by decide), bo 120 (by decide) (by decide) (by decide)]
      have f4 : F.1 4 = fu (x.1.1 4) m (x.1.1 125 D) := by rw [fo 4 (by decide) (by decide), ← hB, wI_ne (by decide), wI_ne (by decide), wI_ne (by decide), wI_at]
      refine move_let (x9 := xD (xD x B) F) (D := D) (U := j + 1) (D' := D + 1) (U' := j) (m' := m + 1) h hk rfl d1 d3 (by omega) (fun c z1 z2 z3 z4 z5 => ?_) (fun i z => ?_) (fun i z1 z2 => ?_) ⟨?_, ?_⟩ (fun i z1 z2 z3 z4 => ?_) ⟨?_, ?_⟩ ⟨?_, ?_⟩ (fun m9 hLe q1 q2 => ?_)
      · show F.1 c = _
        rw [fo c z4 z5, bo c z1 z2 z3]
      · show F.1 2 i = _
        rw [fo 2 (by decide) (by decide), ← hB, wI_ne (by decide), wI_ne (by decide), wI_at, fu_n z]; rfl
      · show F.1 54 i = _
        rw [fo 54 (by decide) (by decide), ← hB, wI_at, fu_n z2, wI_at, fu_n z1]; rfl
      · show F.1 54 3 = _
        rw [fo 54 (by decide) (by decide), ← hB]; rfl
      · show F.1 54 4 = _
        rw [fo 54 (by decide) (by decide), ← hB]; rfl
      · show F.1 113 i = _
        rw [f113 i z1 z2 z3 z4, bo 113 (by decide) (by decide) (by decide)]
      · show F.1 113 18 = _
        rw [← hF]; rfl
      · show F.1 113 19 = _
        rw [← hF]; rfl
      · show F.1 2 4 = _
        rw [fo 2 (by decide) (by decide), ← hB]; rfl
      · show F.1 113 13 = _
        rw [← hF]; rfl
      · have em : m9 = m := by have : x.1.1 2 4 = m9 := hLe.1; omega
        subst em
        refine ⟨by omega, fun i hi => ?_, by omega, by rw [show D + (j + 1) = D + 1 + j by omega] at q2 ⊢; omega⟩
        show F.1 4 i = F.1 120 i ∧ Lt9 (F.1 120 i)
        rw [f4, f120, fu_app, fu_app]
        by_cases ci : i = m9
        · rw [if_pos ci, if_pos ci]; exact ⟨rfl, hlt⟩
        · rw [if_neg ci, if_neg ci]; exact hLe.2.2.2 i (by omega)
    · obtain ⟨cc, cm, q, k1, k2, k3, k4, k5, k6, k7⟩ := put_EG (v := x.1.1 125 D) hED cw (Or.inr rfl) hp.1
      rw [if_neg cw] at hs
      have eT : X6_put 2 (x.1.1 55 D) (x.1.1 57 D) x.1 = some ((), wI x.1 cc q (x.1.1 125 D)) := by
        rw [k6]; exact k3 x.1
      rw [bd_pos (eX _ (fun i => by rw [wI_ne (by omega)]) eT), lt_pos]
      generalize hB : wI (wI (wI x.1 cc q (x.1.1 125 D)) 54 3 ((D : Int) + 1)) 54 4 (j : Int) = B
      have bo : ∀ c, c ≠ cc → c ≠ 54 → B.1 c = x.1.1 c := fun c z1 z2 => by rw [← hB, wI_ne z2, wI_ne z2, wI_ne z1]
      have g1 : ∀ i, (wI (wI B 113 0 0) cm q (x.1.1 125 D)).1 113 i = (wI B 113 0 0).1 113 i := fun i => by rw [wI_ne (by omega)]
      have b113 : B.1 113 = x.1.1 113 := bo 113 (by omega) (by decide)
      rw [show (xD x B).1 = B from rfl, bd_pos ((eM B (fun c z => bo c (by omega) (by omega))).2 cw _ (by rw [g1]; show B.1 113 18 = D; rw [b113]; exact d2) (by rw [g1]; show B.1 113 19 = _; rw [b113]; exact d4) (k4 _)), lt_pos, gd_pos (by omega), if_pos rfl]
      refine ⟨_, rfl, ?_⟩
      generalize hF : wI (wI (wI (wI B 113 0 0) cm q (x.1.1 125 D)) 113 18 ((D : Int) + 1)) 113 19 (j : Int) = F
      have fo : ∀ c, c ≠ 113 → c ≠ cm → F.1 c = B.1 c := fun c z z2 => by rw [← hF, wI_ne z, wI_ne z, wI_ne z2, wI_ne z]
      have f113 : ∀ i, i ≠ 0 → i ≠ 18 → i ≠ 19 → F.1 113 i = B.1 113 i := fun i z1 z3 z4 => by rw [← hF, wI_at, fu_n z4, wI_at, fu_n z3, wI_ne (by omega), wI_at, fu_n z1]
      have fcc : F.1 cc = fu (x.1.1 cc) q (x.1.1 125 D) := by rw [fo cc (by omega) (by omega), ← hB, wI_ne (by omega), wI_ne (by omega), wI_at]
      have fcm : F.1 cm = fu (x.1.1 cm) q (x.1.1 125 D) := by rw [← hF, wI_ne (by omega), wI_ne (by omega), wI_at, wI_ne (by omega), bo cm (by omega) (by omega)]
      have fgen : ∀ c, c ≠ cc → c ≠ cm → c ≠ 54 → c ≠ 113 → F.1 c = x.1.1 c := fun c z1 z2 z3 z4 => by rw [fo c z4 z2, bo c z1 z3]
      refine move_put (x9 := xD (xD x B) F) (F := F) (D := D) (U := j + 1) (D' := D + 1) (U' := j) (v := x.1.1 125 D) h hk rfl rfl d1 d3 (by omega) k1 fgen (fun i z1 z2 => ?_) ⟨?_, ?_⟩ (fun i z1 z2 z3 => ?_) ⟨?_, ?_⟩ fcc fcm (by omega) (fun r' p' w1 w2 z1 z2 z3 z4 z5 => ?_)
      · rw [fo 54 (by decide) (by omega), ← hB, wI_at, fu_n z2, wI_at, fu_n z1, wI_ne (by omega)]
      · rw [fo 54 (by decide) (by omega), ← hB]; rfl
      · rw [fo 54 (by decide) (by omega), ← hB]; rfl
      · rw [f113 i z1 z2 z3, b113]
      · rw [← hF]; rfl
      · rw [← hF]; rfl
      · have er : r' = r := by omega
        have ep : p' = p := by omega
        subst er; subst ep
        exact k7 x.1.1 F.1 rfl (fun c z1 z2 z3 => fgen c z1 z2 (by omega) (by omega)) fcc fcm z3 z4

/-! ===== restore ===== -/
theorem x11_forget {d : DA} : ∃ G, X11_forgetFound 1 d = some ((), G) ∧ (∀ c, c ≠ 54 → c ≠ 61 → c ≠ 68 → c ≠ 69 → c ≠ 81 → G.1 c = d.1 c) ∧ (∀ i, i ≠ 3 → i ≠ 4 → G.1 54 i = d.1 54 i) ∧ (∀ i, i ≠ 0 → G.1 61 i = d.1 61 i) ∧ (∀ i, i ≠ 2 → G.1 68 i = d.1 68 i) ∧ (∀ i, i ≠ 0 → G.1 81 i = d.1 81 i) ∧ G.1 54 3 = 0 ∧ G.1 54 4 = 0 ∧ G.1 61 0 = 0 ∧ G.1 68 2 = 0 ∧ (∀ j, j < 5 → G.1 69 j = -1) ∧ G.1 81 0 = 0 := by
  let d1 := wI d 54 3 0
  let d2 := wI d1 54 4 0
  let d3 := wI d2 61 0 0
  let d4 := wA d3 69 (pre (d3.1 69) (fun _ => -1) 5)
  let d5 := wI d4 68 2 0
  let d6 := wI d5 81 0 0
  refine ⟨d6, ?_, fun c z1 z2 z3 z4 z5 => ?_, fun i z1 z2 => ?_, fun i z => ?_, fun i z => ?_, fun i z => ?_, rfl, rfl, rfl, rfl, fun j hj => ?_, rfl⟩
  · unfold X11_forgetFound
    have e1 : X7_forget (1 + 53) d = some ((), d2) := rfl
    have e2 : X10_forget (1 + 67) (wI d2 (1 + 60) 0 0) = some ((), d5) := x10_forget
    rw [bd_pos e1, gd_pos (Or.inl rfl), lt_pos, bd_pos e2, gd_pos (Or.inl rfl), lt_pos]
  · show (wI (wI (wA (wI (wI (wI d 54 3 0) 54 4 0) 61 0 0) 69 (pre (d3.1 69) (fun _ => -1) 5)) 68 2 0) 81 0 0).1 c = d.1 c
    rw [wI_ne z5, wI_ne z3, wA_ne z4, wI_ne z2, wI_ne z1, wI_ne z1]
  · show (wI (wI (wA (wI (wI (wI d 54 3 0) 54 4 0) 61 0 0) 69 (pre (d3.1 69) (fun _ => -1) 5)) 68 2 0) 81 0 0).1 54 i = d.1 54 i
    rw [wI_ne (by decide), wI_ne (by decide), wA_ne (by decide), wI_ne (by decide), wI_at, fu_n z2, wI_at, fu_n z1]
  · show (wI (wI (wA (wI (wI (wI d 54 3 0) 54 4 0) 61 0 0) 69 (pre (d3.1 69) (fun _ => -1) 5)) 68 2 0) 81 0 0).1 61 i = d.1 61 i
    rw [wI_ne (by decide), wI_ne (by decide), wA_ne (by decide), wI_at, fu_n z, wI_ne (by decide), wI_ne (by decide)]
  · show (wI (wI (wA (wI (wI (wI d 54 3 0) 54 4 0) 61 0 0) 69 (pre (d3.1 69) (fun _ => -1) 5)) 68 2 0) 81 0 0).1 68 i = d.1 68 i
    rw [wI_ne (by decide), wI_at, fu_n z, wA_ne (by decide), wI_ne (by decide), wI_ne (by decide), wI_ne (by decide)]
  · show (wI (wI (wA (wI (wI (wI d 54 3 0) 54 4 0) 61 0 0) 69 (pre (d3.1 69) (fun _ => -1) 5)) 68 2 0) 81 0 0).1 81 i = d.1 81 i
    rw [wI_at, fu_n z, wI_ne (by decide), wA_ne (by decide), wI_ne (by decide), wI_ne (by decide), wI_ne (by decide)]
  · show (wI (wI (wA (wI (wI (wI d 54 3 0) 54 4 0) 61 0 0) 69 (pre (d3.1 69) (fun _ => -1) 5)) 68 2 0) 81 0 0).1 69 j = -1
    rw [wI_ne (by decide), wI_ne (by decide), wA_at, pre_lt hj]
def chW (c j : Nat) : Bool := c == 2 || c == 3 || c == 4 || c == 5 || c == 6 || c == 12 || c == 13 || (c == 54 && (j == 3 || j == 4)) || c == 58 || c == 59 || (c == 61 && j == 0) || (c == 68 && j == 2) || c == 69 || (c == 81 && j == 0) || (c == 113 && (j == 1 || j == 4 || j == 13 || j == 18 || j == 19)) || c == 114 || c == 117 || c == 118 || c == 119 || c == 120 || c == 121
theorem st_31 {Ln k : Nat} {sc : Int → Int} {x : XS} (h : Inv k x) (hk : k < 512) (h0 : 0 ≤ 8 * (k : Int) ∧ 8 * (k : Int) + 8 ≤ (Ln : Int)) (hL : Ln ≤ 4096) (hop : iand9 (sc (8 * (k : Int))) 31 = 31) : Step9 Ln sc k x := by
  unfold Step9
  rw [br_31 h0 hL hop]
  have hh := h
  obtain ⟨⟨z1, z2, z3, z4, z5, z6, z7⟩, r, p, m, D, U, tp, kr, la, hS, hH, hP, hK, hLi, hN, hC, hT, hV, hI⟩ := hh
  obtain ⟨i1, i0, i2⟩ := hI
  have i1' : x.1.1 1 2 = x.1.1 113 76 := i1
  have i2' : x.1.1 1 2 = 0 ∨ (x.1.1 1 2 = 1 ∧ ∃ r p m, SI k (vw x.1.1) 17 77 78 79 155 156 157 158 159 160 r p m) := i2
  rcases i2' with i2 | ⟨i2, r', p', m', hJ⟩
  · have e1 : X11_restore 1 x.1 = some (0, x.1) := by
      unfold X11_restore
      rw [i2]
      simp (disch := omega) only [gd_pos, if_pos, if_neg, lt_pos, reduceIte]
    have e2 : X12_restore 113 x.1 = some (0, wI x.1 113 0 0) := by
      unfold X12_restore
      have d4' : (wI x.1 113 0 0).1 113 76 = 0 := by show x.1.1 113 76 = 0; omega
      rw [lt_pos, d4']
      simp (disch := omega) only [gd_pos, if_pos, if_neg, lt_pos, reduceIte]
    rw [bd_pos e1, lt_pos, show (xD x x.1).1 = x.1 from rfl, bd_pos e2, lt_pos, gd_pos (by omega), if_pos rfl]
    exact ⟨_, rfl, h.mono hk (Kp.D (Sm.rf x.1)) (Sm.wI rfl)⟩
  · have j2 : x.1.1 17 5 = p' := hJ.2.1.1
    have j3 : PG p' := hJ.2.1.2.2
    have j4 : x.1.1 21 = x.1.1 155 := hJ.1.2.2.1
    have j5 : m' ≤ 12 := hJ.2.2.2.2.1.2.2.1
    have hb := j3.bd
    obtain ⟨E, e1, hE, ege, eo, -, -⟩ := x6_copy (d := x.1) (o := 2) (a := 17) (Or.inr ⟨rfl, rfl⟩)
    have e25 : E.1 2 5 = p' := by
      have : E.1 2 5 = x.1.1 17 5 := hE.2.2.2.2.2.2.2.1
      rw [this]; exact j2
    obtain ⟨⟨u, Q⟩, e2, qo, q58, q2, q59⟩ := x3_begin (d := E) j3
    obtain ⟨G, e3, gO, g54, g61, g68, g81, v1, v2, v3, v4, v5, v6⟩ := x11_forget (d := Q)
    have eC : X11_restore 1 x.1 = some (1, G) := by
      unfold X11_restore
      have e1' : X6_copy (1 + 1) (1 + 16) x.1 = some ((), E) := e1
      have e25' : E.1 (1 + 1) 5 = p' := e25
      have e2' : X3_begin (1 + 57) (p' : Int) E = some (u, Q) := e2
      rw [i2, gd_pos (by omega), if_neg (by decide), bd_pos e1', e25', bd_pos e2', bd_pos e3]
    rw [bd_pos eC, lt_pos]
    have qo' : ∀ c, c ≠ 58 → c ≠ 59 → Q.1 c = E.1 c := qo
    have gx : ∀ c, c ≠ 2 → c ≠ 3 → c ≠ 4 → c ≠ 5 → c ≠ 6 → c ≠ 12 → c ≠ 13 → c ≠ 54 → c ≠ 58 → c ≠ 59 → c ≠ 61 → c ≠ 68 → c ≠ 69 → c ≠ 81 → G.1 c = x.1.1 c := fun c y1 y2 y3 y4 y5 y6 y7 y8 y9 w1 w2 w3 w4 w5 => by
      rw [gO c y8 w2 w3 w4 w5, qo' c y9 w1, eo c y1 y2 y3 y4 y5 y6 y7]
    have gE : ∀ c, c < 54 → G.1 c = E.1 c := fun c y => by rw [gO c (by omega) (by omega) (by omega) (by omega) (by omega), qo' c (by omega) (by omega)]
    have gh : ∀ c, 82 ≤ c → G.1 c = x.1.1 c := fun c y => gx c (by omega) (by omega) (by omega) (by omega) (by omega) (by omega) (by omega) (by omega) (by omega) (by omega) (by omega) (by omega) (by omega) (by omega)
    generalize hB : wI (wI (wI (wI G 113 0 0) 113 1 (x.1.1 113 77)) 113 4 (x.1.1 113 78)) 113 13 (x.1.1 113 79) = B
    obtain ⟨F, ek, f1, f2, f3, f4, f5, f6, f7, fo⟩ := bes (d := B) (Or.inr ⟨rfl, rfl, rfl, rfl, rfl, rfl, rfl, rfl, rfl, rfl, rfl, rfl⟩)
    have eM : X12_restore 113 G = some (1, wI (wI F 113 18 0) 113 19 0) := by
      have a113 : G.1 113 = x.1.1 113 := gh 113 (by omega)
      have y76 : (wI G 113 0 0).1 113 76 = 1 := by show G.1 113 76 = 1; rw [a113]; omega
      unfold X12_restore
      rw [lt_pos, y76, gd_pos (by omega), if_neg (by decide), lt_pos, lt_pos, lt_pos]
      have y1 : (wI G 113 0 0).1 113 77 = x.1.1 113 77 := by rw [← a113]; rfl
      have y2 : ∀ v, (wI (wI G 113 0 0) 113 1 v).1 113 78 = x.1.1 113 78 := fun v => by rw [← a113]; rfl
      have y3 : ∀ v w, (wI (wI (wI G 113 0 0) 113 1 v) 113 4 w).1 113 79 = x.1.1 113 79 := fun v w => by rw [← a113]; rfl
      rw [y1, y2, y3, hB]
      exact ek (fun d => lt9 (wI d 113 18 0) fun d11 => lt9 (wI d11 113 19 0) fun d12 => some (1, d12))
    rw [show (xD x G).1 = G from rfl, bd_pos eM, lt_pos, gd_pos (by omega), if_pos rfl]
    refine ⟨_, rfl, ?_⟩
    generalize hH9 : wI (wI F 113 18 0) 113 19 0 = H
    have ho : ∀ c, c ≠ 113 → H.1 c = F.1 c := fun c z => by rw [← hH9, wI_ne z, wI_ne z]
    have h113 : ∀ i, i ≠ 18 → i ≠ 19 → H.1 113 i = F.1 113 i := fun i y1 y2 => by rw [← hH9, wI_at, fu_n y2, wI_at, fu_n y1]
    have h18 : H.1 113 18 = 0 := by rw [← hH9]; rfl
    have h19 : H.1 113 19 = 0 := by rw [← hH9]; rfl
    have f113 : F.1 113 = B.1 113 := fo 113 (by decide) (by decide) (by decide) (by decide) (by decide) (by decide)
    have bo : ∀ c, c ≠ 113 → B.1 c = G.1 c := fun c z => by rw [← hB, wI_ne z, wI_ne z, wI_ne z, wI_ne z]
    have b113 : ∀ i, i ≠ 0 → i ≠ 1 → i ≠ 4 → i ≠ 13 → B.1 113 i = x.1.1 113 i := fun i y0 y1 y2 y3 => by rw [← hB, wI_at, fu_n y3, wI_at, fu_n y2, wI_at, fu_n y1, wI_at, fu_n y0, gh 113 (by omega)]
    have hb1 : H.1 113 1 = x.1.1 113 77 := by rw [h113 1 (by decide) (by decide), f113, ← hB]; rfl
    have hb4 : H.1 113 4 = x.1.1 113 78 := by rw [h113 4 (by decide) (by decide), f113, ← hB]; rfl
    have hb13 : H.1 113 13 = x.1.1 113 79 := by rw [h113 13 (by decide) (by decide), f113, ← hB]; rfl
    have bx : ∀ c, 114 ≤ c → B.1 c = x.1.1 c := fun c y => by rw [bo c (by omega), gh c (by omega)]
    have hl : ∀ c, c < 113 → H.1 c = G.1 c := fun c y => by rw [ho c (by omega), fo c (by omega) (by omega) (by omega) (by omega) (by omega) (by omega), bo c (by omega)]
    have hAg : Ag9 chW (vw x.1.1) (vw H.1) := Ag9.of (fun c j hr hc => by
      have hne : ∀ a, (∀ j, chW a j = true) → c ≠ a := fun a ha e => by rw [e, ha j] at hc; cases hc
      by_cases c113 : c = 113
      · subst c113
        rw [h113 j (fun e => by subst e; exact absurd hc (by decide)) (fun e => by subst e; exact absurd hc (by decide)), f113, b113 j (fun e => by subst e; cases hr) (fun e => by subst e; exact absurd hc (by decide)) (fun e => by subst e; exact absurd hc (by decide)) (fun e => by subst e; exact absurd hc (by decide))]
      · rw [ho c c113, fo c (hne 114 (fun _ => rfl)) (hne 117 (fun _ => rfl)) (hne 118 (fun _ => rfl)) (hne 119 (fun _ => rfl)) (hne 120 (fun _ => rfl)) (hne 121 (fun _ => rfl)), bo c c113]
        have n58 := hne 58 (fun _ => rfl)
        have n59 := hne 59 (fun _ => rfl)
        have n69 := hne 69 (fun _ => rfl)
        have en : ∀ c, (∀ a, (a = 2 ∨ a = 3 ∨ a = 4 ∨ a = 5 ∨ a = 6 ∨ a = 12 ∨ a = 13) → c ≠ a) → E.1 c = x.1.1 c := fun c y => eo c (y 2 (by omega)) (y 3 (by omega)) (y 4 (by omega)) (y 5 (by omega)) (y 6 (by omega)) (y 12 (by omega)) (y 13 (by omega))
        have ec : E.1 c = x.1.1 c := eo c (hne 2 (fun _ => rfl)) (hne 3 (fun _ => rfl)) (hne 4 (fun _ => rfl)) (hne 5 (fun _ => rfl)) (hne 6 (fun _ => rfl)) (hne 12 (fun _ => rfl)) (hne 13 (fun _ => rfl))
        have qc : Q.1 c = x.1.1 c := by rw [qo' c n58 n59, ec]
        by_cases c54 : c = 54
        · subst c54
          rw [g54 j (fun e => by subst e; exact absurd hc (by decide)) (fun e => by subst e; exact absurd hc (by decide)), qc]
        · by_cases c61 : c = 61
          · subst c61
            rw [g61 j (fun e => by subst e; exact absurd hc (by decide)), qc]
          · by_cases c68 : c = 68
            · subst c68
              rw [g68 j (fun e => by subst e; exact absurd hc (by decide)), qc]
            · by_cases c81 : c = 81
              · subst c81
                rw [g81 j (fun e => by subst e; exact absurd hc (by decide)), qc]
              · rw [gO c c54 c61 c68 n69 c81, qc])
    have hI' : II9 k (vw x.1.1) := ⟨i1, i0, Or.inr ⟨i2, r', p', m', hJ⟩⟩
    refine ⟨⟨(by omega), z2, z3, z4, z5, by show xc x ≤ _; have : xzc (xD (xD x G) H) = xzc x := rfl; have : xzf (xD (xD x G) H) = xzf x := rfl; omega, by show xs x ≤ _; have : xzc (xD (xD x G) H) = xzc x := rfl; have : xzf (xD (xD x G) H) = xzf x := rfl; omega⟩, r', p', m', 0, 0, tp, kr, la, ?_⟩
    have t3 : x.1.1 6 = x.1.1 114 := hS.1.2.2.1
    obtain ⟨c1, c2, c3, c4, c5, c6, c7, c8, c9, c10⟩ := hE
    have hEc : ∀ c, c < 54 → H.1 c = E.1 c := fun c y => by rw [hl c (by omega), gE c y]
    have hF : ∀ c, c ≠ 113 → H.1 c = F.1 c := ho
    have h6 : H.1 6 = H.1 114 := funext fun q => by
      rw [hEc 6 (by omega), hF 114 (by decide)]
      by_cases hq : q < 125
      · have : E.1 6 q = x.1.1 21 q := c2 q hq
        rw [this, f1 q hq, bx 155 (by omega), j4]
      · have : E.1 6 q = x.1.1 6 q := ege q hq
        rw [this, f2 q hq, bx 114 (by omega), t3]
    refine ⟨SI.up ?_, ⟨?_, h18, ?_, h19, (by omega), fun j hj => by omega, Nat.zero_le _, ?_⟩, hP.cg hAg ⟨fun _ => rfl, fun _ => rfl⟩ ⟨rfl, rfl, rfl, rfl⟩, hK.cg hAg ⟨fun _ => rfl, fun _ => rfl⟩ ⟨rfl, rfl, rfl⟩, hLi.cg hAg ⟨fun _ => rfl, fun _ => rfl, fun _ => rfl⟩ ⟨rfl, rfl, rfl, rfl, rfl, rfl, rfl⟩, ⟨?_, fun j j1 j2 => ?_⟩, Or.inl ?_, TI9.no ?_ (fun c hc => ?_), Or.inl ?_, (hI'.cg hAg ⟨fun _ => rfl, fun _ => rfl, fun _ => rfl, fun _ => rfl, fun _ => rfl, fun _ => rfl, fun _ => rfl, fun _ => rfl, fun _ => rfl, fun _ => rfl, fun _ => rfl, fun _ => rfl, fun _ => rfl⟩ ⟨rfl, rfl, rfl, rfl, rfl⟩).up⟩
    · refine SI.copy (o := 2) (cr := 1) (cp := 4) (cl := 13) (cn := 114) (cf := 117) (cs := 118) (ct := 119) (cw := 120) (cu := 121) hJ ⟨?_, fun q hq => ?_, fun q hq => ?_, fun q hq => ?_, fun q hq => ?_, fun q hq => ?_, ?_, ?_, ?_, ?_⟩ ⟨hb1, hb4, hb13, fun q hq => ?_, fun q hq => ?_, fun q hq => ?_, fun q hq => ?_, fun q hq => ?_, fun q hq => ?_⟩ h6
      · show H.1 5 0 = x.1.1 20 0
        rw [hEc 5 (by omega)]; exact c1
      · show H.1 6 q = x.1.1 21 q
        rw [hEc 6 (by omega)]; exact c2 q hq
      · show H.1 12 q = x.1.1 27 q
        rw [hEc 12 (by omega)]; exact c3 q hq
      · show H.1 13 q = x.1.1 28 q
        rw [hEc 13 (by omega)]; exact c4 q hq
      · show H.1 3 q = x.1.1 18 q
        rw [hEc 3 (by omega)]; exact c5 q hq
      · show H.1 4 q = x.1.1 19 q
        rw [hEc 4 (by omega)]; exact c6 q hq
      · show H.1 2 4 = x.1.1 17 4
        rw [hEc 2 (by omega)]; exact c7
      · show H.1 2 5 = x.1.1 17 5
        rw [hEc 2 (by omega)]; exact c8
      · show H.1 2 6 = x.1.1 17 6
        rw [hEc 2 (by omega)]; exact c9
      · show H.1 2 7 = x.1.1 17 7
        rw [hEc 2 (by omega)]; exact c10
      · show H.1 114 q = x.1.1 155 q
        rw [hF 114 (by decide), f1 q hq, bx 155 (by omega)]
      · show H.1 117 q = x.1.1 156 q
        rw [hF 117 (by decide), f3 q hq, bx 156 (by omega)]
      · show H.1 118 q = x.1.1 157 q
        rw [hF 118 (by decide), f4 q hq, bx 157 (by omega)]
      · show H.1 119 q = x.1.1 158 q
        rw [hF 119 (by decide), f5 q hq, bx 158 (by omega)]
      · show H.1 120 q = x.1.1 159 q
        rw [hF 120 (by decide), f6 q hq, bx 159 (by omega)]
      · show H.1 121 q = x.1.1 160 q
        rw [hF 121 (by decide), f7 q hq, bx 160 (by omega)]
    · show H.1 54 3 = 0
      rw [hl 54 (by omega)]; exact v1
    · show H.1 54 4 = 0
      rw [hl 54 (by omega)]; exact v2
    · show m' + 0 ≤ 12 + 0
      omega
    · show H.1 58 0 = p'
      rw [hl 58 (by omega), gO 58 (by decide) (by decide) (by decide) (by decide) (by decide)]
      have : Q.1 58 = fu (E.1 58) 0 (p' : Int) := q58
      rw [this, fu_s]
    · show (1 ≤ H.1 59 j ∧ H.1 59 j < p') ∧ (p' : Int) ∣ (j : Int) * H.1 59 j - 1
      rw [hl 59 (by omega), gO 59 (by decide) (by decide) (by decide) (by decide) (by decide)]
      exact q59 j j1 j2
    · show H.1 61 0 = 0
      rw [hl 61 (by omega)]; exact v3
    · show H.1 68 2 = 0
      rw [hl 68 (by omega)]; exact v4
    · show H.1 69 c = -1
      rw [hl 69 (by omega)]; exact v5 c hc
    · show H.1 81 0 = 0
      rw [hl 81 (by omega)]; exact v6

/-! ===== image: the step ===== -/
def bes9 {Y : Type} (cn cf cs ct cw cu bn bf bs bt bw bu : Nat) (d : DA) (k : DA → Option Y) : Option Y :=
  bd (X12_be cn 125 bn 125 d) fun _ d6 =>
  bd (X12_be cf 729 bf 729 d6) fun _ d7 =>
  bd (X12_be cs 27 bs 27 d7) fun _ d8 =>
  bd (X12_be ct 5 bt 5 d8) fun _ d9 =>
  bd (X12_be cw 12 bw 12 d9) fun _ d10 =>
  bd (X12_be cu 2 bu 2 d10) fun _ d11 => k d11
theorem bes {cn cf cs ct cw cu bn bf bs bt bw bu : Nat} {d : DA} (h : (cn = 155 ∧ cf = 156 ∧ cs = 157 ∧ ct = 158 ∧ cw = 159 ∧ cu = 160 ∧ bn = 114 ∧ bf = 117 ∧ bs = 118 ∧ bt = 119 ∧ bw = 120 ∧ bu = 121) ∨ (bn = 155 ∧ bf = 156 ∧ bs = 157 ∧ bt = 158 ∧ bw = 159 ∧ bu = 160 ∧ cn = 114 ∧ cf = 117 ∧ cs = 118 ∧ ct = 119 ∧ cw = 120 ∧ cu = 121)) : ∃ E : DA, (∀ {Y : Type} (k : DA → Option Y), bes9 cn cf cs ct cw cu bn bf bs bt bw bu d k = k E) ∧ (∀ q, q < 125 → E.1 cn q = d.1 bn q) ∧ (∀ q, ¬ q < 125 → E.1 cn q = d.1 cn q) ∧ (∀ q, q < 729 → E.1 cf q = d.1 bf q) ∧ (∀ q, q < 27 → E.1 cs q = d.1 bs q) ∧ (∀ q, q < 5 → E.1 ct q = d.1 bt q) ∧ (∀ q, q < 12 → E.1 cw q = d.1 bw q) ∧ (∀ q, q < 2 → E.1 cu q = d.1 bu q) ∧ ∀ c, c ≠ cn → c ≠ cf → c ≠ cs → c ≠ ct → c ≠ cw → c ≠ cu → E.1 c = d.1 c := by
  let d1 := wA d cn (pre (d.1 cn) (d.1 bn) 125)
  let d2 := wA d1 cf (pre (d1.1 cf) (d1.1 bf) 729)
  let d3 := wA d2 cs (pre (d2.1 cs) (d2.1 bs) 27)
  let d4 := wA d3 ct (pre (d3.1 ct) (d3.1 bt) 5)
  let d5 := wA d4 cw (pre (d4.1 cw) (d4.1 bw) 12)
  let d6 := wA d5 cu (pre (d5.1 cu) (d5.1 bu) 2)
  have n1 : ∀ c, c ≠ cn → d1.1 c = d.1 c := fun c z => wA_ne z
  have n2 : ∀ c, c ≠ cf → d2.1 c = d1.1 c := fun c z => wA_ne z
  have n3 : ∀ c, c ≠ cs → d3.1 c = d2.1 c := fun c z => wA_ne z
  have n4 : ∀ c, c ≠ ct → d4.1 c = d3.1 c := fun c z => wA_ne z
  have n5 : ∀ c, c ≠ cw → d5.1 c = d4.1 c := fun c z => wA_ne z
  have n6 : ∀ c, c ≠ cu → d6.1 c = d5.1 c := fun c z => wA_ne z
  have q1 : d1.1 cn = pre (d.1 cn) (d.1 bn) 125 := wA_at
  have q2 : d2.1 cf = pre (d1.1 cf) (d1.1 bf) 729 := wA_at
  have q3 : d3.1 cs = pre (d2.1 cs) (d2.1 bs) 27 := wA_at
  have q4 : d4.1 ct = pre (d3.1 ct) (d3.1 bt) 5 := wA_at
  have q5 : d5.1 cw = pre (d4.1 cw) (d4.1 bw) 12 := wA_at
  have q6 : d6.1 cu = pre (d5.1 cu) (d5.1 bu) 2 := wA_at
  refine ⟨d6, fun k => ?_, fun q hq => ?_, fun q hq => ?_, fun q hq => ?_, fun q hq => ?_, fun q hq => ?_, fun q hq => ?_, fun q hq => ?_, fun c z1 z2 z3 z4 z5 z6 => ?_⟩
  · unfold bes9
    rw [bd_pos (x12_be (by omega) (by omega) (by omega)), bd_pos (x12_be (by omega) (by omega) (by omega)), bd_pos (x12_be (by omega) (by omega) (by omega)), bd_pos (x12_be (by omega) (by omega) (by omega)), bd_pos (x12_be (by omega) (by omega) (by omega)), bd_pos (x12_be (by omega) (by omega) (by omega))]
  · rw [n6 _ (by omega), n5 _ (by omega), n4 _ (by omega), n3 _ (by omega), n2 _ (by omega), q1, pre_lt hq]
  · rw [n6 _ (by omega), n5 _ (by omega), n4 _ (by omega), n3 _ (by omega), n2 _ (by omega), q1, pre_ge hq]
  · rw [n6 _ (by omega), n5 _ (by omega), n4 _ (by omega), n3 _ (by omega), q2, pre_lt hq, n1 _ (by omega)]
  · rw [n6 _ (by omega), n5 _ (by omega), n4 _ (by omega), q3, pre_lt hq, n2 _ (by omega), n1 _ (by omega)]
  · rw [n6 _ (by omega), n5 _ (by omega), q4, pre_lt hq, n3 _ (by omega), n2 _ (by omega), n1 _ (by omega)]
  · rw [n6 _ (by omega), q5, pre_lt hq, n4 _ (by omega), n3 _ (by omega), n2 _ (by omega), n1 _ (by omega)]
  · rw [q6, pre_lt hq, n5 _ (by omega), n4 _ (by omega), n3 _ (by omega), n2 _ (by omega), n1 _ (by omega)]
  · rw [n6 c z6, n5 c z5, n4 c z4, n3 c z3, n2 c z2, n1 c z1]
def chI (c j : Nat) : Bool := (c == 1 && j == 2) || c == 17 || c == 18 || c == 19 || c == 20 || c == 21 || c == 27 || c == 28 || (c == 113 && (j == 76 || j == 77 || j == 78 || j == 79)) || c == 155 || c == 156 || c == 157 || c == 158 || c == 159 || c == 160
theorem st_30 {Ln k : Nat} {sc : Int → Int} {x : XS} (h : Inv k x) (hk : k < 512) (h0 : 0 ≤ 8 * (k : Int) ∧ 8 * (k : Int) + 8 ≤ (Ln : Int)) (hL : Ln ≤ 4096) (hop : iand9 (sc (8 * (k : Int))) 31 = 30) : Step9 Ln sc k x := by
  unfold Step9
  rw [br_30 h0 hL hop]
  obtain ⟨E, e1, hE, ege, eo, -, -⟩ := x6_copy (d := x.1) (o := 17) (a := 2) (Or.inl ⟨rfl, rfl⟩)
  have e1' : X11_image 1 x.1 = some ((), wI E 1 2 1) := by
    unfold X11_image
    have : X6_copy (1 + 16) (1 + 1) x.1 = some ((), E) := e1
    rw [bd_pos this, gd_pos (Or.inr rfl), lt_pos]
  rw [bd_pos e1', lt_pos]
  generalize hA : wI E 1 2 1 = A
  have ao : ∀ c, c ≠ 1 → A.1 c = E.1 c := fun c z => by rw [← hA, wI_ne z]
  have a1 : ∀ j, j ≠ 2 → A.1 1 j = x.1.1 1 j := fun j z => by rw [← hA, wI_at, fu_n z, eo 1 (by decide) (by decide) (by decide) (by decide) (by decide) (by decide) (by decide)]
  have a12 : A.1 1 2 = 1 := by rw [← hA]; rfl
  have ax : ∀ c, 29 ≤ c → A.1 c = x.1.1 c := fun c z => by rw [ao c (by omega), eo c (by omega) (by omega) (by omega) (by omega) (by omega) (by omega) (by omega)]
  generalize hB : wI (wI (wI (wI (wI A 113 0 0) 113 76 1) 113 77 (x.1.1 113 1)) 113 78 (x.1.1 113 4)) 113 79 (x.1.1 113 13) = B
  obtain ⟨F, ek, f1, f2, f3, f4, f5, f6, f7, fo⟩ := bes (d := B) (Or.inl ⟨rfl, rfl, rfl, rfl, rfl, rfl, rfl, rfl, rfl, rfl, rfl, rfl⟩)
  have e2 : X12_image 113 A = some ((), F) := by
    have a113 : A.1 113 = x.1.1 113 := ax 113 (by omega)
    unfold X12_image
    rw [lt_pos, gd_pos (Or.inr rfl), lt_pos, lt_pos, lt_pos, lt_pos]
    have y1 : (wI (wI A 113 0 0) 113 76 1).1 113 1 = x.1.1 113 1 := by rw [← a113]; rfl
    have y2 : ∀ v, (wI (wI (wI A 113 0 0) 113 76 1) 113 77 v).1 113 4 = x.1.1 113 4 := fun v => by rw [← a113]; rfl
    have y3 : ∀ v w, (wI (wI (wI (wI A 113 0 0) 113 76 1) 113 77 v) 113 78 w).1 113 13 = x.1.1 113 13 := fun v w => by rw [← a113]; rfl
    rw [y1, y2, y3, hB]
    exact ek (fun d => some ((), d))
  rw [show (xD x A).1 = A from rfl, bd_pos e2, lt_pos]
  refine ⟨_, rfl, ?_⟩
  have bo : ∀ c, c ≠ 113 → B.1 c = A.1 c := fun c z => by rw [← hB, wI_ne z, wI_ne z, wI_ne z, wI_ne z, wI_ne z]
  have b113 : ∀ i, i ≠ 0 → i ≠ 76 → i ≠ 77 → i ≠ 78 → i ≠ 79 → B.1 113 i = A.1 113 i := fun i z0 z1 z2 z3 z4 => by rw [← hB, wI_at, fu_n z4, wI_at, fu_n z3, wI_at, fu_n z2, wI_at, fu_n z1, wI_at, fu_n z0]
  have g76 : F.1 113 76 = 1 := by rw [fo 113 (by decide) (by decide) (by decide) (by decide) (by decide) (by decide), ← hB]; rfl
  have g77 : F.1 113 77 = x.1.1 113 1 := by rw [fo 113 (by decide) (by decide) (by decide) (by decide) (by decide) (by decide), ← hB]; rfl
  have g78 : F.1 113 78 = x.1.1 113 4 := by rw [fo 113 (by decide) (by decide) (by decide) (by decide) (by decide) (by decide), ← hB]; rfl
  have g79 : F.1 113 79 = x.1.1 113 13 := by rw [fo 113 (by decide) (by decide) (by decide) (by decide) (by decide) (by decide), ← hB]; rfl
  have fl : ∀ c, c < 113 → F.1 c = A.1 c := fun c z => by rw [fo c (by omega) (by omega) (by omega) (by omega) (by omega) (by omega), bo c (by omega)]
  have bx : ∀ c, 29 ≤ c → c ≠ 113 → B.1 c = x.1.1 c := fun c z z1 => by rw [bo c z1, ax c z]
  obtain ⟨⟨z1, z2, z3, z4, z5, z6, z7⟩, r, p, m, D, U, tp, kr, la, hS, hH, hP, hK, hLi, hN, hC, hT, hV, hI⟩ := h
  have hAg : Ag9 chI (vw x.1.1) (vw F.1) := Ag9.of (fun c j hr hc => by
    have hne : ∀ a, (∀ j, chI a j = true) → c ≠ a := fun a ha e => by rw [e, ha j] at hc; cases hc
    by_cases c113 : c = 113
    · subst c113
      rw [fo 113 (by decide) (by decide) (by decide) (by decide) (by decide) (by decide), b113 j (fun e => by subst e; cases hr) (fun e => by subst e; cases hc) (fun e => by subst e; cases hc) (fun e => by subst e; cases hc) (fun e => by subst e; cases hc), ax 113 (by omega)]
    · rw [fo c (hne 155 (fun _ => rfl)) (hne 156 (fun _ => rfl)) (hne 157 (fun _ => rfl)) (hne 158 (fun _ => rfl)) (hne 159 (fun _ => rfl)) (hne 160 (fun _ => rfl)), bo c c113]
      by_cases c1 : c = 1
      · subst c1
        exact a1 j (fun e => by subst e; cases hc)
      · rw [ao c c1, eo c (hne 17 (fun _ => rfl)) (hne 18 (fun _ => rfl)) (hne 19 (fun _ => rfl)) (hne 20 (fun _ => rfl)) (hne 21 (fun _ => rfl)) (hne 27 (fun _ => rfl)) (hne 28 (fun _ => rfl))])
  refine ⟨⟨(by omega), z2, z3, z4, z5, by show xc x ≤ _; have : xzc (xD (xD x A) F) = xzc x := rfl; have : xzf (xD (xD x A) F) = xzf x := rfl; omega, by show xs x ≤ _; have : xzc (xD (xD x A) F) = xzc x := rfl; have : xzf (xD (xD x A) F) = xzf x := rfl; omega⟩, r, p, m, D, U, tp, kr, la, ?_⟩
  refine ⟨(hS.cg hAg ⟨fun _ => rfl, fun _ => rfl, fun _ => rfl, fun _ => rfl, fun _ => rfl, fun _ => rfl, fun _ => rfl, fun _ => rfl, fun _ => rfl, fun _ => rfl, fun _ => rfl⟩ ⟨rfl, rfl, rfl, rfl, rfl, rfl, rfl, rfl⟩).up, hH.cg hAg ⟨fun _ => rfl, fun _ => rfl, fun _ => rfl, fun _ => rfl, fun _ => rfl, fun _ => rfl, fun _ => rfl, fun _ => rfl⟩ ⟨rfl, rfl, rfl, rfl⟩, hP.cg hAg ⟨fun _ => rfl, fun _ => rfl⟩ ⟨rfl, rfl, rfl, rfl⟩, hK.cg hAg ⟨fun _ => rfl, fun _ => rfl⟩ ⟨rfl, rfl, rfl⟩, hLi.cg hAg ⟨fun _ => rfl, fun _ => rfl, fun _ => rfl⟩ ⟨rfl, rfl, rfl, rfl, rfl, rfl, rfl⟩, hN.cg hAg (fun _ => rfl) rfl, CI.cg hC hAg ⟨fun _ => rfl, fun _ => rfl⟩ ⟨rfl, rfl⟩, hT.cg hAg ⟨fun _ => rfl, fun _ => rfl, fun _ => rfl, fun _ => rfl⟩ rfl, VI9.cg hV hAg ⟨rfl, rfl, rfl⟩ ⟨fun _ => rfl, fun _ => rfl⟩, ?_⟩
  obtain ⟨c1, c2, c3, c4, c5, c6, c7, c8, c9, c10⟩ := hE
  have fE : ∀ c, 2 ≤ c → c < 113 → F.1 c = E.1 c := fun c y1 y2 => by rw [fl c y2, ao c (by omega)]
  have hge : ∀ q, ¬ q < 125 → F.1 21 q = F.1 155 q := fun q hq => by
    rw [fE 21 (by omega) (by omega), ege q hq, f2 q hq, bx 155 (by omega) (by omega)]
    exact hI.2.1 q hq
  have t3 : x.1.1 6 = x.1.1 114 := hS.1.2.2.1
  have h21 : F.1 21 = F.1 155 := funext fun q => by
    by_cases hq : q < 125
    · have : E.1 21 q = x.1.1 6 q := c2 q hq
      rw [fE 21 (by omega) (by omega), this, f1 q hq, bx 114 (by omega) (by omega), t3]
    · exact hge q hq
  refine II9.up ⟨?_, hge, Or.inr ⟨?_, r, p, m, ?_⟩⟩
  · show F.1 1 2 = F.1 113 76
    rw [fl 1 (by omega), a12, g76]
  · show F.1 1 2 = 1
    rw [fl 1 (by omega), a12]
  · refine SI.copy (o := 17) (cr := 77) (cp := 78) (cl := 79) (cn := 155) (cf := 156) (cs := 157) (ct := 158) (cw := 159) (cu := 160) hS ⟨?_, fun q hq => ?_, fun q hq => ?_, fun q hq => ?_, fun q hq => ?_, fun q hq => ?_, ?_, ?_, ?_, ?_⟩ ⟨g77, g78, g79, fun q hq => ?_, fun q hq => ?_, fun q hq => ?_, fun q hq => ?_, fun q hq => ?_, fun q hq => ?_⟩ h21
    · show F.1 20 0 = x.1.1 5 0
      rw [fE 20 (by omega) (by omega)]; exact c1
    · show F.1 21 q = x.1.1 6 q
      rw [fE 21 (by omega) (by omega)]; exact c2 q hq
    · show F.1 27 q = x.1.1 12 q
      rw [fE 27 (by omega) (by omega)]; exact c3 q hq
    · show F.1 28 q = x.1.1 13 q
      rw [fE 28 (by omega) (by omega)]; exact c4 q hq
    · show F.1 18 q = x.1.1 3 q
      rw [fE 18 (by omega) (by omega)]; exact c5 q hq
    · show F.1 19 q = x.1.1 4 q
      rw [fE 19 (by omega) (by omega)]; exact c6 q hq
    · show F.1 17 4 = x.1.1 2 4
      rw [fE 17 (by omega) (by omega)]; exact c7
    · show F.1 17 5 = x.1.1 2 5
      rw [fE 17 (by omega) (by omega)]; exact c8
    · show F.1 17 6 = x.1.1 2 6
      rw [fE 17 (by omega) (by omega)]; exact c9
    · show F.1 17 7 = x.1.1 2 7
      rw [fE 17 (by omega) (by omega)]; exact c10
    · show F.1 155 q = x.1.1 114 q
      rw [f1 q hq, bx 114 (by omega) (by omega)]
    · show F.1 156 q = x.1.1 117 q
      rw [f3 q hq, bx 117 (by omega) (by omega)]
    · show F.1 157 q = x.1.1 118 q
      rw [f4 q hq, bx 118 (by omega) (by omega)]
    · show F.1 158 q = x.1.1 119 q
      rw [f5 q hq, bx 119 (by omega) (by omega)]
    · show F.1 159 q = x.1.1 120 q
      rw [f6 q hq, bx 120 (by omega) (by omega)]
    · show F.1 160 q = x.1.1 121 q
      rw [f7 q hq, bx 121 (by omega) (by omega)]

/-! ===== the story keeps what holds ===== -/
theorem lc_congr {v w : Nat → Int} : ∀ n, (∀ j, j < n → v j = w j) → lc v n = lc w n := by
  intro n
  induction n with
  | zero => intro _; rfl
  | succ n ih => intro h; unfold lc; rw [ih (fun j hj => h j (by omega)), h n (by omega)]
theorem lc_shift {w : Nat → Int} : ∀ n, lc (fun j => w (j + 1)) n + (if w 0 = 3 then 1 else 0) = lc w (n + 1) := by
  intro n
  induction n with
  | zero => show 0 + _ = 0 + _; rfl
  | succ n ih =>
    show lc (fun j => w (j + 1)) n + (if w (n + 1) = 3 then 1 else 0) + (if w 0 = 3 then 1 else 0) = lc w (n + 1) + (if w (n + 1) = 3 then 1 else 0)
    omega
theorem sh_old {f : Nat → Int} {D j : Nat} {v : Int} (h1 : D ≤ 100) (hj : j < dn9 D) : ∃ i, i < D ∧ sh f D v j = f i ∧ (D < 100 → i = j) ∧ (¬ D < 100 → i = j + 1) := by
  unfold dn9 at hj
  unfold sh dn9
  by_cases c : D < 100
  · rw [if_pos c] at hj ⊢
    exact ⟨j, hj, by rw [if_neg (by omega), if_pos c], fun _ => rfl, fun z => absurd c z⟩
  · rw [if_neg c] at hj ⊢
    exact ⟨j + 1, by omega, by rw [if_neg (by omega), if_neg c, if_pos hj], fun z => absurd z c, fun _ => rfl⟩
theorem sh_new {f : Nat → Int} {D : Nat} {v : Int} : sh f D v (dn9 D) = v := by
  unfold sh; rw [if_pos rfl]
theorem lc_sh {w : Nat → Int} {D : Nat} {v : Int} (h1 : D ≤ 100) : lc (sh w D v) (dn9 D + 1) ≤ lc w D + (if v = 3 then 1 else 0) := by
  show lc (sh w D v) (dn9 D) + (if sh w D v (dn9 D) = 3 then 1 else 0) ≤ _
  rw [sh_new]
  have : lc (sh w D v) (dn9 D) ≤ lc w D := by
    by_cases c : D < 100
    · have e : dn9 D = D := by unfold dn9; rw [if_pos c]
      rw [e, lc_congr D (fun j hj => by unfold sh; rw [e, if_neg (by omega), if_pos c])]
      exact Nat.le_refl _
    · have e : dn9 D = 99 := by unfold dn9; rw [if_neg c]
      have hD : D = 99 + 1 := by omega
      rw [e, lc_congr (w := fun j => w (j + 1)) 99 (fun j hj => by unfold sh; rw [e, if_neg (by omega), if_neg c, if_pos hj]), hD]
      have := lc_shift (w := w) 99
      omega
  omega
theorem HI.add {g g' : Nat → Nat → Int} {r p m m' D U : Nat} {va vb vc ve pl be af : Int} (h : HI g r p m D U) (hm : m' ≤ 12) (hm2 : m + (if va = 3 then 1 else 0) ≤ m') (h114 : g' 114 = g 114)
    (a1 : g' 54 3 = ((dn9 D + 1 : Nat) : Int)) (a2 : g' 54 4 = 0) (a3 : g' 55 = sh (g 55) D pl) (a4 : g' 56 = sh (g 56) D be) (a5 : g' 57 = sh (g 57) D af)
    (b1 : g' 113 18 = ((dn9 D + 1 : Nat) : Int)) (b2 : g' 113 19 = 0) (b3 : g' 122 = sh (g 122) D va) (b4 : g' 123 = sh (g 123) D vb) (b5 : g' 124 = sh (g 124) D vc) (b6 : g' 125 = sh (g 125) D ve)
    (hE : EG (g 114) r p va vb vc ve pl be af) : HI g' r p m' (dn9 D + 1) 0 := by
  obtain ⟨h1, h2, h3, h4, h5, h6, h7, h8⟩ := h
  have hd : dn9 D < 100 := by unfold dn9; split <;> omega
  refine ⟨a1, b1, a2, b2, (by omega), fun j hj => ?_, ?_, ?_⟩
  · rw [h114, a3, a4, a5, b3, b4, b5, b6]
    by_cases c : j = dn9 D
    · subst c
      rw [sh_new, sh_new, sh_new, sh_new, sh_new, sh_new, sh_new]
      exact hE
    · have hj' : j < dn9 D := by omega
      obtain ⟨i, i1, i2, i3, i4⟩ := sh_old (f := g 122) (v := va) (show D ≤ 100 by omega) hj'
      have key : ∀ (f : Nat → Int) (v : Int), sh f D v j = f i := fun f v => by
        obtain ⟨i', j1, j2, j3, j4⟩ := sh_old (f := f) (v := v) (show D ≤ 100 by omega) hj'
        rw [j2]
        by_cases cD : D < 100
        · rw [i3 cD, j3 cD]
        · rw [i4 cD, j4 cD]
      rw [key, key, key, key, key, key, key]
      exact h6 i (by omega)
  · rw [b3]
    have := lc_sh (w := g 122) (v := va) (show D ≤ 100 by omega)
    omega
  · show m' + lc (g' 122) (dn9 D + 1) ≤ 12 + lc (g' 122) (dn9 D + 1)
    omega
def chT (c j : Nat) : Bool := (c == 2 && j == 4) || c == 3 || c == 4 || c == 12 || c == 13 || (c == 54 && (j == 3 || j == 4)) || c == 55 || c == 56 || c == 57 || (c == 113 && (j == 13 || j == 18 || j == 19)) || c == 117 || c == 118 || c == 119 || c == 120 || c == 122 || c == 123 || c == 124 || c == 125
def TrC (g : Nat → Nat → Int) (r p : Nat) : Prop := (r ≤ 3 → fre (g 114) r → FG (g 114) (g 117) (g 12) r ∧ RG (g 114) (g 118) (g 13) r) ∧ (∀ q, q < 729 → 0 ≤ g 117 q ∧ g 117 q < p) ∧ (∀ q, q < 27 → 0 ≤ g 118 q ∧ g 118 q < p)
def TuC (g : Nat → Nat → Int) (p : Nat) : Prop := (∀ j, j < 5 → g 3 j = g 119 j ∧ 1 ≤ g 119 j ∧ g 119 j < p) ∧ g 119 0 = 1
def LeC (g : Nat → Nat → Int) (m : Nat) : Prop := g 2 4 = m ∧ g 113 13 = m ∧ m ≤ 12 ∧ ∀ j, j < m → g 4 j = g 120 j ∧ Lt9 (g 120 j)
theorem Inv.tell {k : Nat} {x x' : XS} (h : Inv k x) (hk : k < 512) (hA : ∀ c j, rel c j = true → chT c j = false → x'.1.1 c j = x.1.1 c j) (hz : x'.2 = x.2)
    (hnew : ∀ r p m D U, TG (x.1.1 114) r → PG p → x.1.1 113 4 = p → x.1.1 5 0 = r → TrC x.1.1 r p → TuC x.1.1 p → LeC x.1.1 m → HI (vw x.1.1) r p m D U → ∃ m' D' U', TrC x'.1.1 r p ∧ TuC x'.1.1 p ∧ LeC x'.1.1 m' ∧ HI (vw x'.1.1) r p m' D' U') : Inv (k + 1) x' := by
  obtain ⟨⟨z1, z2, z3, z4, z5, z6, z7⟩, r, p, m, D, U, tp, kr, la, ⟨⟨t1, t2, t3, t4⟩, ⟨p1, p2, p3⟩, hTr, hTu, hLe, hRf⟩, hH, hP, hK, hLi, hN, hC, hT, hV, hI⟩ := h
  have hAg : Ag9 chT (vw x.1.1) (vw x'.1.1) := Ag9.of hA
  obtain ⟨m', D', U', n1, n2, n3, n4⟩ := hnew r p m D U t4 p3 p2 t1 hTr hTu hLe hH
  have y1 : xzc x' = xzc x := by unfold xzc; rw [hz]
  have y2 : xzf x' = xzf x := by unfold xzf; rw [hz]
  have y3 : xe x' = xe x := by unfold xe; rw [hz]
  have y4 : xok9 x' ↔ xok9 x := by unfold xok9 xrt xrb xtt xtn; rw [hz]
  have y5 : xc x' = xc x := by unfold xc; rw [hz]
  have y6 : xs x' = xs x := by unfold xs; rw [hz]
  refine ⟨⟨(by omega), by rw [y1]; exact z2, by rw [y2]; exact z3, by rw [y3]; exact z4, y4.mpr z5, by rw [y1, y2, y5]; omega, by rw [y1, y2, y6]; omega⟩, r, p, m', D', U', tp, kr, la, ?_⟩
  rw [y1, y2]
  refine ⟨?_, n4, hP.cg hAg ⟨fun _ => rfl, fun _ => rfl⟩ ⟨rfl, rfl, rfl, rfl⟩, hK.cg hAg ⟨fun _ => rfl, fun _ => rfl⟩ ⟨rfl, rfl, rfl⟩, hLi.cg hAg ⟨fun _ => rfl, fun _ => rfl, fun _ => rfl⟩ ⟨rfl, rfl, rfl, rfl, rfl, rfl, rfl⟩, hN.cg hAg (fun _ => rfl) rfl, CI.cg hC hAg ⟨fun _ => rfl, fun _ => rfl⟩ ⟨rfl, rfl⟩, hT.cg hAg ⟨fun _ => rfl, fun _ => rfl, fun _ => rfl, fun _ => rfl⟩ rfl, VI9.cg hV hAg ⟨rfl, rfl, rfl⟩ ⟨fun _ => rfl, fun _ => rfl⟩, (hI.cg hAg ⟨fun _ => rfl, fun _ => rfl, fun _ => rfl, fun _ => rfl, fun _ => rfl, fun _ => rfl, fun _ => rfl, fun _ => rfl, fun _ => rfl, fun _ => rfl, fun _ => rfl, fun _ => rfl, fun _ => rfl⟩ ⟨rfl, rfl, rfl, rfl, rfl⟩).up⟩
  have w114 : x'.1.1 114 = x.1.1 114 := funext fun j => hA 114 j rfl rfl
  have w6 : x'.1.1 6 = x.1.1 6 := funext fun j => hA 6 j rfl rfl
  refine ⟨⟨?_, ?_, ?_, ?_⟩, ⟨?_, ?_, p3⟩, n1, n2, n3, ?_⟩
  · show x'.1.1 5 0 = r
    rw [hA 5 0 rfl rfl]; exact t1
  · show x'.1.1 113 1 = r
    rw [hA 113 1 rfl rfl]; exact t2
  · show x'.1.1 6 = x'.1.1 114
    rw [w6, w114]; exact t3
  · show TG (x'.1.1 114) r
    rw [w114]; exact t4
  · show x'.1.1 2 5 = p
    rw [hA 2 5 rfl rfl]; exact p1
  · show x'.1.1 113 4 = p
    rw [hA 113 4 rfl rfl]; exact p2
  · obtain ⟨a1, a2, a3, a4, a5, a6⟩ := hRf
    have w121 : x'.1.1 121 = x.1.1 121 := funext fun j => hA 121 j rfl rfl
    have a1' : x.1.1 2 6 = x.1.1 121 0 := a1
    have a2' : x.1.1 2 7 = x.1.1 121 1 := a2
    have a3' : 0 ≤ x.1.1 121 0 := a3
    have a4' : x.1.1 121 0 ≤ k := a4
    have a5' : 0 ≤ x.1.1 121 1 := a5
    have a6' : x.1.1 121 1 ≤ k := a6
    refine ⟨?_, ?_, ?_, ?_, ?_, ?_⟩
    · show x'.1.1 2 6 = x'.1.1 121 0
      rw [hA 2 6 rfl rfl, w121]; exact a1'
    · show x'.1.1 2 7 = x'.1.1 121 1
      rw [hA 2 7 rfl rfl, w121]; exact a2'
    · show 0 ≤ x'.1.1 121 0
      rw [w121]; exact a3'
    · show x'.1.1 121 0 ≤ ((k + 1 : Nat) : Int)
      rw [w121]; omega
    · show 0 ≤ x'.1.1 121 1
      rw [w121]; exact a5'
    · show x'.1.1 121 1 ≤ ((k + 1 : Nat) : Int)
      rw [w121]; omega
def chR (c j : Nat) : Bool := (c == 2 && (j == 6 || j == 7)) || c == 121
/-- one call more was refused -/
theorem Inv.refuse {k : Nat} {x x' : XS} (h : Inv k x) (hk : k < 512) (hA : ∀ c j, rel c j = true → chR c j = false → x'.1.1 c j = x.1.1 c j) (hz : x'.2 = x.2) (u0 u1 : Int) (hu : (u0 = 0 ∨ u0 = 1) ∧ (u1 = 0 ∨ u1 = 1)) (h6 : x'.1.1 2 6 = x.1.1 2 6 + u0 ∧ x'.1.1 121 0 = x.1.1 121 0 + u0) (h7 : x'.1.1 2 7 = x.1.1 2 7 + u1 ∧ x'.1.1 121 1 = x.1.1 121 1 + u1) : Inv (k + 1) x' := by
  obtain ⟨⟨z1, z2, z3, z4, z5, z6, z7⟩, r, p, m, D, U, tp, kr, la, ⟨⟨t1, t2, t3, t4⟩, ⟨p1, p2, p3⟩, hTr, hTu, hLe, a1, a2, a3, a4, a5, a6⟩, hH, hP, hK, hLi, hN, hC, hT, hV, hI⟩ := h
  have hAg : Ag9 chR (vw x.1.1) (vw x'.1.1) := Ag9.of hA
  have y1 : xzc x' = xzc x := by unfold xzc; rw [hz]
  have y2 : xzf x' = xzf x := by unfold xzf; rw [hz]
  have y3 : xe x' = xe x := by unfold xe; rw [hz]
  have y4 : xok9 x' ↔ xok9 x := by unfold xok9 xrt xrb xtt xtn; rw [hz]
  have y5 : xc x' = xc x := by unfold xc; rw [hz]
  have y6 : xs x' = xs x := by unfold xs; rw [hz]
  refine ⟨⟨(by omega), by rw [y1]; exact z2, by rw [y2]; exact z3, by rw [y3]; exact z4, y4.mpr z5, by rw [y1, y2, y5]; omega, by rw [y1, y2, y6]; omega⟩, r, p, m, D, U, tp, kr, la, ?_⟩
  rw [y1, y2]
  refine ⟨?_, hH.cg hAg ⟨fun _ => rfl, fun _ => rfl, fun _ => rfl, fun _ => rfl, fun _ => rfl, fun _ => rfl, fun _ => rfl, fun _ => rfl⟩ ⟨rfl, rfl, rfl, rfl⟩, hP.cg hAg ⟨fun _ => rfl, fun _ => rfl⟩ ⟨rfl, rfl, rfl, rfl⟩, hK.cg hAg ⟨fun _ => rfl, fun _ => rfl⟩ ⟨rfl, rfl, rfl⟩, hLi.cg hAg ⟨fun _ => rfl, fun _ => rfl, fun _ => rfl⟩ ⟨rfl, rfl, rfl, rfl, rfl, rfl, rfl⟩, hN.cg hAg (fun _ => rfl) rfl, CI.cg hC hAg ⟨fun _ => rfl, fun _ => rfl⟩ ⟨rfl, rfl⟩, hT.cg hAg ⟨fun _ => rfl, fun _ => rfl, fun _ => rfl, fun _ => rfl⟩ rfl, VI9.cg hV hAg ⟨rfl, rfl, rfl⟩ ⟨fun _ => rfl, fun _ => rfl⟩, (hI.cg hAg ⟨fun _ => rfl, fun _ => rfl, fun _ => rfl, fun _ => rfl, fun _ => rfl, fun _ => rfl, fun _ => rfl, fun _ => rfl, fun _ => rfl, fun _ => rfl, fun _ => rfl, fun _ => rfl, fun _ => rfl⟩ ⟨rfl, rfl, rfl, rfl, rfl⟩).up⟩
  have w : ∀ c, Un chR c → vw x'.1.1 c = vw x.1.1 c := fun c hc => hAg.w hc
  have a1' : x.1.1 2 6 = x.1.1 121 0 := a1
  have a2' : x.1.1 2 7 = x.1.1 121 1 := a2
  have a3' : 0 ≤ x.1.1 121 0 := a3
  have a4' : x.1.1 121 0 ≤ k := a4
  have a5' : 0 ≤ x.1.1 121 1 := a5
  have a6' : x.1.1 121 1 ≤ k := a6
  refine ⟨⟨?_, ?_, ?_, ?_⟩, ⟨?_, ?_, p3⟩, ?_, ?_, ?_, ?_, ?_, ?_, ?_, ?_, ?_⟩
  · show x'.1.1 5 0 = r
    rw [hA 5 0 rfl rfl]; exact t1
  · show x'.1.1 113 1 = r
    rw [hA 113 1 rfl rfl]; exact t2
  · show vw x'.1.1 6 = vw x'.1.1 114
    rw [w 6 (fun _ => rfl), w 114 (fun _ => rfl)]; exact t3
  · show TG (vw x'.1.1 114) r
    rw [w 114 (fun _ => rfl)]; exact t4
  · show x'.1.1 2 5 = p
    rw [hA 2 5 rfl rfl]; exact p1
  · show x'.1.1 113 4 = p
    rw [hA 113 4 rfl rfl]; exact p2
  · show (r ≤ 3 → fre (vw x'.1.1 114) r → FG (vw x'.1.1 114) (vw x'.1.1 117) (vw x'.1.1 12) r ∧ RG (vw x'.1.1 114) (vw x'.1.1 118) (vw x'.1.1 13) r) ∧ (∀ q, q < 729 → 0 ≤ vw x'.1.1 117 q ∧ vw x'.1.1 117 q < p) ∧ (∀ q, q < 27 → 0 ≤ vw x'.1.1 118 q ∧ vw x'.1.1 118 q < p)
    rw [w 114 (fun _ => rfl), w 117 (fun _ => rfl), w 118 (fun _ => rfl), w 12 (fun _ => rfl), w 13 (fun _ => rfl)]
    exact hTr
  · show (∀ j, j < 5 → vw x'.1.1 3 j = vw x'.1.1 119 j ∧ 1 ≤ vw x'.1.1 119 j ∧ vw x'.1.1 119 j < p) ∧ vw x'.1.1 119 0 = 1
    rw [w 3 (fun _ => rfl), w 119 (fun _ => rfl)]
    exact hTu
  · show x'.1.1 2 4 = m ∧ x'.1.1 113 13 = m ∧ m ≤ 12 ∧ ∀ j, j < m → vw x'.1.1 4 j = vw x'.1.1 120 j ∧ Lt9 (vw x'.1.1 120 j)
    rw [hA 2 4 rfl rfl, hA 113 13 rfl rfl, w 4 (fun _ => rfl), w 120 (fun _ => rfl)]
    exact hLe
  · show x'.1.1 2 6 = x'.1.1 121 0
    rw [h6.1, h6.2, a1']
  · show x'.1.1 2 7 = x'.1.1 121 1
    rw [h7.1, h7.2, a2']
  · show 0 ≤ x'.1.1 121 0
    rw [h6.2]; omega
  · show x'.1.1 121 0 ≤ ((k + 1 : Nat) : Int)
    rw [h6.2]; omega
  · show 0 ≤ x'.1.1 121 1
    rw [h7.2]; omega
  · show x'.1.1 121 1 ≤ ((k + 1 : Nat) : Int)
    rw [h7.2]; omega

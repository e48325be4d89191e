/-! ===== shapes: the reference's counts ===== -/
theorem FrS.D {d0 d : DA} (h : FrS d0 d) {n f : Nat → Int} {r p : Nat} (h14 : d0.1 114 = n) (h17 : d0.1 117 = f) (hr : d0.1 113 1 = r) (hp : d0.1 113 4 = p) : d.1 114 = n ∧ d.1 117 = f ∧ d.1 113 1 = r ∧ d.1 113 4 = p :=
  ⟨by rw [h.c (by decide) (by decide) (by decide)]; exact h14, by rw [h.c (by decide) (by decide) (by decide)]; exact h17, by rw [h.2 113 1 (by decide) (by decide) (Or.inr ⟨by decide, by decide⟩)]; exact hr, by rw [h.2 113 4 (by decide) (by decide) (Or.inr ⟨by decide, by decide⟩)]; exact hp⟩
theorem leaf9 {d0 : DA} {n f f9 s9 t : Nat → Int} {r p : Nat} (hD : TrD n f f9 t s9 r p) (h14 : d0.1 114 = n) (h17 : d0.1 117 = f) (hr : d0.1 113 1 = r) (hp : d0.1 113 4 = p) (g : Int → Int → DA → Option (Unit × DA)) (x : Nat → Nat) (s : Ac9) (d : DA) (m : Nat) (hm : m ≤ 100000) (hb : Bd9a m s) (hd : FrS d0 d) (hx : ∀ q, q < 9 → d.1 136 q = (x q : Nat) ∧ x q < r) (hR : RA9 9 d s) : ∃ d', X12_shapeOn_m 113 g (9 : Nat) (9 : Nat) d = some ((), d') ∧ FrS d0 d' ∧ RA9 9 d' (lf9a (pnS n x) (pnB f9 p r x) x s) ∧ d'.1 136 = d.1 136 := by
  obtain ⟨q1, q2, q3, q4⟩ := hd.D h14 h17 hr hp
  have hs := x12_isPent hD.1 q1 hx
  unfold X12_shapeOn_m
  rw [gd_pos (by omega), if_pos (by omega), gd_pos (by omega), if_pos (by decide), b1_pos hs]
  by_cases cS : pnS n x = true
  · rw [cS, if_pos rfl, gd_pos (by omega), if_neg (by decide)]
    unfold X12_shapeOn_j94
    rw [lt_pos, gd_pos (by omega), if_pos (by decide), hR.1]
    generalize hD2 : wI d 113 50 ((s.1 : Int) + 1) = D
    have hDf : FrS d0 D := by rw [← hD2]; exact hd.n (Or.inl rfl)
    obtain ⟨y1, y2, y3, y4⟩ := hDf.D h14 h17 hr hp
    have z136 : D.1 136 = d.1 136 := by rw [← hD2, wI_ne (by decide)]
    have hxD : ∀ q, q < 9 → D.1 136 q = (x q : Nat) ∧ x q < r := fun q hq => by rw [z136]; exact hx q hq
    obtain ⟨p1, p2⟩ := x12_pent hD y1 y2 y3 y4 hxD
    by_cases cB : pnB f9 p r x = true
    · rw [b1_pos (p1 (pnB_iff.mp cB)), gd_pos (by omega), if_neg (by decide), cB]
      exact ⟨D, rfl, hDf, by rw [← hD2]; exact hR.right, z136⟩
    · have cB' : pnB f9 p r x = false := by cases h : pnB f9 p r x; rfl; exact absurd h cB
      have w51 : D.1 113 51 = s.2.1 := by rw [← hD2, wI_at, fu_n (by decide)]; exact hR.2.1
      obtain ⟨h, e1, e2, e3⟩ := x12_wrong (d := D) (g := g) (M := 9) (x := x) (by omega) w51 (by obtain ⟨b1, b2⟩ := hb; omega) (fun q hq => (hxD q hq).1)
      rw [b1_pos (p2 (fun z => cB (pnB_iff.mpr z))), gd_pos (by omega), if_pos rfl, cB', e1]
      refine ⟨_, rfl, ?_, RA9.wrong (w := s.2.1) hR hD2.symm e2 e3, by rw [wI_ne (by decide), wA_ne (by decide)]; exact z136⟩
      refine FrS.n (d := wA D 137 h) ⟨hDf.1, fun c j z1 z2 z3 => ?_⟩ (Or.inr rfl)
      rw [wA_ne z2]; exact hDf.2 c j z1 z2 z3
  · have cS' : pnS n x = false := by cases h : pnS n x; rfl; exact absurd h cS
    rw [cS', if_neg (by decide), gd_pos (by omega), if_pos rfl]
    exact ⟨d, rfl, hd, hR, rfl⟩
theorem leaf6 {d0 : DA} {n f f9 s9 t : Nat → Int} {r p : Nat} (hD : TrD n f f9 t s9 r p) (h14 : d0.1 114 = n) (h17 : d0.1 117 = f) (h18 : d0.1 118 = t) (hr : d0.1 113 1 = r) (hp : d0.1 113 4 = p) (g : Int → Int → DA → Option (Unit × DA)) (x : Nat → Nat) (s : Ac9) (d : DA) (m : Nat) (hm : m ≤ 100000) (hb : Bd9a m s) (hd : FrS d0 d) (hx : ∀ q, q < 6 → d.1 136 q = (x q : Nat) ∧ x q < r) (hR : RA9 6 d s) : ∃ d', X12_shapeOn_m 113 g (6 : Nat) (6 : Nat) d = some ((), d') ∧ FrS d0 d' ∧ RA9 6 d' (lf9a (hxS n x) (hxB f9 s9 p r x) x s) ∧ d'.1 136 = d.1 136 := by
  obtain ⟨q1, q2, q3, q4⟩ := hd.D h14 h17 hr hp
  have hs := x12_isHex hD.1 q1 hx
  unfold X12_shapeOn_m
  rw [gd_pos (by omega), if_pos (by omega), gd_pos (by omega), if_neg (by decide), b1_pos hs]
  by_cases cS : hxS n x = true
  · rw [cS, if_pos rfl, gd_pos (by omega), if_neg (by decide)]
    unfold X12_shapeOn_j94
    rw [lt_pos, gd_pos (by omega), if_neg (by decide), hR.1]
    generalize hD2 : wI d 113 50 ((s.1 : Int) + 1) = D
    have hDf : FrS d0 D := by rw [← hD2]; exact hd.n (Or.inl rfl)
    obtain ⟨y1, y2, y3, y4⟩ := hDf.D h14 h17 hr hp
    have y18 : D.1 118 = t := by rw [hDf.c (by decide) (by decide) (by decide)]; exact h18
    have z136 : D.1 136 = d.1 136 := by rw [← hD2, wI_ne (by decide)]
    have hxD : ∀ q, q < 6 → D.1 136 q = (x q : Nat) ∧ x q < r := fun q hq => by rw [z136]; exact hx q hq
    obtain ⟨p1, p2⟩ := x12_hex hD y1 y2 y18 y3 y4 hxD
    by_cases cB : hxB f9 s9 p r x = true
    · rw [b1_pos (p1 (hxB_iff.mp cB)), gd_pos (by omega), if_neg (by decide), cB]
      exact ⟨D, rfl, hDf, by rw [← hD2]; exact hR.right, z136⟩
    · have cB' : hxB f9 s9 p r x = false := by cases h : hxB f9 s9 p r x; rfl; exact absurd h cB
      have w51 : D.1 113 51 = s.2.1 := by rw [← hD2, wI_at, fu_n (by decide)]; exact hR.2.1
      obtain ⟨h, e1, e2, e3⟩ := x12_wrong (d := D) (g := g) (M := 6) (x := x) (by omega) w51 (by obtain ⟨b1, b2⟩ := hb; omega) (fun q hq => (hxD q hq).1)
      rw [b1_pos (p2 (fun z => cB (hxB_iff.mpr z))), gd_pos (by omega), if_pos rfl, cB', e1]
      refine ⟨_, rfl, ?_, RA9.wrong (w := s.2.1) hR hD2.symm e2 e3, by rw [wI_ne (by decide), wA_ne (by decide)]; exact z136⟩
      refine FrS.n (d := wA D 137 h) ⟨hDf.1, fun c j z1 z2 z3 => ?_⟩ (Or.inr rfl)
      rw [wA_ne z2]; exact hDf.2 c j z1 z2 z3
  · have cS' : hxS n x = false := by cases h : hxS n x; rfl; exact absurd h cS
    rw [cS', if_neg (by decide), gd_pos (by omega), if_pos rfl]
    exact ⟨d, rfl, hd, hR, rfl⟩
theorem may9 {d : DA} {n : Nat → Int} {r i : Nat} {x : Nat → Nat} (hT : TG n r) (h14 : d.1 114 = n) (hi : i < 9) (hx : ∀ q, q ≤ i → d.1 136 q = (x q : Nat) ∧ x q < r) : X12_mayGoOn 113 i (9 : Nat) d = some (if pnM n i x = true then 1 else 0) := by
  have h5 := hT.1.2
  have hx5 : ∀ q, q ≤ i → x q < 5 := fun q hq => by have := (hx q hq).2; omega
  have of : ∀ {a b c : Nat}, a ≤ i → b ≤ i → c ≤ i → X12_of 113 (x a) (x b) (x c) d = some (n (ti (x a) (x b) (x c))) := fun ha hb hc => x12_of9 h14 (hx5 _ ha) (hx5 _ hb) (hx5 _ hc)
  have bd : ∀ {a b c : Nat}, a ≤ i → b ≤ i → c ≤ i → 0 ≤ n (ti (x a) (x b) (x c)) ∧ n (ti (x a) (x b) (x c)) ≤ 9 := fun ha hb hc => hT.2.1 _ (ti_lt (hx5 _ ha) (hx5 _ hb) (hx5 _ hc))
  unfold X12_mayGoOn pnM X12_mayGoOn_j116
  rw [gd_pos (by omega), if_pos (by decide), gd_pos (by omega)]
  by_cases c5 : 5 ≤ i
  · rw [if_pos (by omega), gd_pos (by omega)]
    simp only [gd_pos (show ix 0 9 by decide), gd_pos (show ix 1 9 by decide), gd_pos (show ix 2 9 by decide), gd_pos (show ix 3 9 by decide), gd_pos (show ix 4 9 by decide), gd_pos (show ix 5 9 by decide), gd_pos (show ix 6 9 by decide), gd_pos (show ix 7 9 by decide), show (113 + 23 : Nat) = 136 from rfl, show Int.toNat 0 = 0 from rfl, show Int.toNat 1 = 1 from rfl, show Int.toNat 2 = 2 from rfl, show Int.toNat 3 = 3 from rfl, show Int.toNat 4 = 4 from rfl, show Int.toNat 5 = 5 from rfl, show Int.toNat 6 = 6 from rfl, show Int.toNat 7 = 7 from rfl, (hx 0 (by omega)).1, (hx 1 (by omega)).1, (hx 2 (by omega)).1, (hx 3 (by omega)).1, (hx 4 (by omega)).1, (hx 5 (by omega)).1]
    by_cases e5 : i = 5
    · have b1 := bd (a := 0) (b := 1) (c := 5) (by omega) (by omega) (by omega)
      rw [if_pos (by omega), if_pos e5, b1_pos (of (by omega) (by omega) (by omega)), gd_pos (by omega)]
      by_cases c1 : n (ti (x 0) (x 1) (x 5)) = 1
      · rw [if_pos c1, if_pos (by simp [c1])]
      · rw [if_neg c1, if_neg (by simp [c1])]
    · rw [if_neg (by omega), if_neg e5, gd_pos (by omega)]
      by_cases e6 : i = 6
      · have x6 := (hx 6 (by omega)).1
        have b1 := bd (a := 5) (b := 2) (c := 6) (by omega) (by omega) (by omega)
        have b2 := bd (a := 6) (b := 3) (c := 4) (by omega) (by omega) (by omega)
        rw [if_pos (by omega), if_pos e6, x6, b1_pos (of (by omega) (by omega) (by omega)), gd_pos (by omega)]
        by_cases c1 : n (ti (x 5) (x 2) (x 6)) = 1
        · rw [if_pos c1, b1_pos (of (by omega) (by omega) (by omega)), gd_pos (by omega)]
          by_cases c2 : n (ti (x 6) (x 3) (x 4)) = 1
          · rw [if_pos c2, if_pos (by simp [c1, c2])]
          · rw [if_neg c2, if_neg (by simp [c2])]
        · rw [if_neg c1, if_neg (by simp [c1])]
      · rw [if_neg (by omega), if_neg e6, gd_pos (by omega)]
        by_cases e7 : i = 7
        · have x7 := (hx 7 (by omega)).1
          have b1 := bd (a := 0) (b := 7) (c := 4) (by omega) (by omega) (by omega)
          rw [if_pos (by omega), if_pos e7, x7, b1_pos (of (by omega) (by omega) (by omega)), gd_pos (by omega)]
          by_cases c1 : n (ti (x 0) (x 7) (x 4)) = 1
          · rw [if_pos c1, if_pos (by simp [c1])]
          · rw [if_neg c1, if_neg (by simp [c1])]
        · rw [if_neg (by omega), if_neg e7]; rfl
  · rw [if_neg (show ¬ (5 : Int) ≤ (i : Int) by omega), if_neg (show ¬ i = 5 by omega), if_neg (show ¬ i = 6 by omega), if_neg (show ¬ i = 7 by omega)]; rfl
theorem may6 {d : DA} {i : Nat} (hi : i < 6) : X12_mayGoOn 113 i (6 : Nat) d = some (if true = true then 1 else 0) := by
  unfold X12_mayGoOn
  rw [gd_pos (by omega), if_neg (by decide)]; rfl
/-- all shapes as the class and the reference count them -/
def pn9 (n F : Nat → Int) (p r : Nat) (stop : Bool) : Ac9 := sp9 r stop (pnM n) (pnS n) (pnB F p r) 9 0 (fun _ => 0) (0, 0, fun _ => 0)
def hx9 (n F R : Nat → Int) (p r : Nat) : Ac9 := sp9 r false (fun _ _ => true) (hxS n) (hxB F R p r) 6 0 (fun _ => 0) (0, 0, fun _ => 0)
theorem tell9 {d : DA} {n f f9 t s9 : Nat → Int} {r p : Nat} (stop : Bool) (hD : TrD n f f9 t s9 r p) (h14 : d.1 114 = n) (h17 : d.1 117 = f) (hr : d.1 113 1 = r) (hp : d.1 113 4 = p) : ∃ d', X12_tellShapes 113 (9 : Nat) (if stop = true then 1 else 0) d = some ((), d') ∧ Sm d d' ∧ d'.2 = d.2 ∧ (∀ c, c < 136 → c ≠ 113 → d'.1 c = d.1 c) ∧ (∀ c j, c ≠ 136 → c ≠ 137 → (c ≠ 113 ∨ (j ≠ 50 ∧ j ≠ 51 ∧ j ≠ 52)) → d'.1 c j = d.1 c j) ∧ RA9 9 d' (pn9 n f9 p r stop) := by
  generalize hd0 : wI (wI (wI d 113 52 (if stop = true then 1 else 0)) 113 50 0) 113 51 0 = d0
  have c113 : ∀ c, c ≠ 113 → d0.1 c = d.1 c := fun c z => by rw [← hd0, wI_ne z, wI_ne z, wI_ne z]
  have j113 : ∀ j, j ≠ 50 → j ≠ 51 → j ≠ 52 → d0.1 113 j = d.1 113 j := fun j z1 z2 z3 => by rw [← hd0, wI_at, fu_n z2, wI_at, fu_n z1, wI_at, fu_n z3]
  have a1 : d0.1 114 = n := (c113 114 (by decide)).trans h14
  have a2 : d0.1 117 = f := (c113 117 (by decide)).trans h17
  have a3 : d0.1 113 1 = r := (j113 1 (by decide) (by decide) (by decide)).trans hr
  have a4 : d0.1 113 4 = p := (j113 4 (by decide) (by decide) (by decide)).trans hp
  have a5 : d0.1 113 52 = if stop = true then 1 else 0 := by rw [← hd0, wI_at, fu_n (by decide), wI_at, fu_n (by decide), wI_at, fu_s]
  have a6 : RA9 9 d0 (0, 0, fun _ => 0) := ⟨by rw [← hd0, wI_at, fu_n (by decide), wI_at, fu_s]; rfl, by rw [← hd0, wI_at, fu_s]; rfl, fun z => absurd rfl z⟩
  obtain ⟨d', e1, e2, e3, -⟩ := shape_on (d0 := d0) (stop := stop) (may := pnM n) (S := pnS n) (H := pnB f9 p r) hD.2.1 (Nat.le_refl 9) a3 a5 (fun i x D hi hF hx => may9 hD.1 (hF.D a1 a2 a3 a4).1 hi hx) (fun g x s D m hm hb hF hx hR => leaf9 hD a1 a2 a3 a4 g x s D m hm hb hF hx hR) 9 0 12 (fun _ => 0) (0, 0, fun _ => 0) d0 0 rfl (by omega) (by omega) ⟨Nat.le_refl _, Nat.le_refl _⟩ (FrS.rf d0) (fun q hq => absurd hq (Nat.not_lt_zero _)) a6
  have fr : ∀ c j, c ≠ 136 → c ≠ 137 → (c ≠ 113 ∨ (j ≠ 50 ∧ j ≠ 51 ∧ j ≠ 52)) → d'.1 c j = d.1 c j := fun c j z1 z2 z3 => by
    rw [e2.2 c j z1 z2 (by omega)]
    by_cases e : c = 113
    · subst e; exact j113 j (by omega) (by omega) (by omega)
    · rw [c113 c e]
  refine ⟨d', ?_, fun c j hrel => ?_, by rw [e2.1, ← hd0]; rfl, fun c z1 z2 => funext fun j => fr c j (by omega) (by omega) (Or.inl z2), fr, e3⟩
  · unfold X12_tellShapes
    rw [gd_pos (by cases stop; exact Or.inl rfl; exact Or.inr rfl), lt_pos, lt_pos, lt_pos, hd0]
    have e1' : X12_shapeOn 113 12 0 (9 : Nat) d0 = some ((), d') := e1
    rw [bd_pos e1']
  · refine fr c j (fun e => by subst e; cases hrel) (fun e => by subst e; cases hrel) ?_
    by_cases e : c = 113
    · subst e
      have hrel' : relL.contains j = true := hrel
      exact Or.inr ⟨fun e => (by subst e; cases hrel'), fun e => (by subst e; cases hrel'), fun e => (by subst e; cases hrel')⟩
    · exact Or.inl e
theorem tell6 {d : DA} {n f f9 t s9 : Nat → Int} {r p : Nat} (hD : TrD n f f9 t s9 r p) (h14 : d.1 114 = n) (h17 : d.1 117 = f) (h18 : d.1 118 = t) (hr : d.1 113 1 = r) (hp : d.1 113 4 = p) : ∃ d', X12_tellShapes 113 (6 : Nat) 0 d = some ((), d') ∧ Sm d d' ∧ d'.2 = d.2 ∧ (∀ c j, c ≠ 136 → c ≠ 137 → (c ≠ 113 ∨ (j ≠ 50 ∧ j ≠ 51 ∧ j ≠ 52)) → d'.1 c j = d.1 c j) ∧ RA9 6 d' (hx9 n f9 s9 p r) := by
  generalize hd0 : wI (wI (wI d 113 52 0) 113 50 0) 113 51 0 = d0
  have c113 : ∀ c, c ≠ 113 → d0.1 c = d.1 c := fun c z => by rw [← hd0, wI_ne z, wI_ne z, wI_ne z]
  have j113 : ∀ j, j ≠ 50 → j ≠ 51 → j ≠ 52 → d0.1 113 j = d.1 113 j := fun j z1 z2 z3 => by rw [← hd0, wI_at, fu_n z2, wI_at, fu_n z1, wI_at, fu_n z3]
  have a1 : d0.1 114 = n := (c113 114 (by decide)).trans h14
  have a2 : d0.1 117 = f := (c113 117 (by decide)).trans h17
  have a7 : d0.1 118 = t := (c113 118 (by decide)).trans h18
  have a3 : d0.1 113 1 = r := (j113 1 (by decide) (by decide) (by decide)).trans hr
  have a4 : d0.1 113 4 = p := (j113 4 (by decide) (by decide) (by decide)).trans hp
  have a5 : d0.1 113 52 = if false = true then 1 else 0 := by rw [← hd0, wI_at, fu_n (by decide), wI_at, fu_n (by decide), wI_at, fu_s]; rfl
  have a6 : RA9 6 d0 (0, 0, fun _ => 0) := ⟨by rw [← hd0, wI_at, fu_n (by decide), wI_at, fu_s]; rfl, by rw [← hd0, wI_at, fu_s]; rfl, fun z => absurd rfl z⟩
  obtain ⟨d', e1, e2, e3, -⟩ := shape_on (d0 := d0) (M := 6) (stop := false) (may := fun _ _ => true) (S := hxS n) (H := hxB f9 s9 p r) hD.2.1 (by omega) a3 a5 (fun i x D hi hF hx => may6 hi) (fun g x s D m hm hb hF hx hR => leaf6 hD a1 a2 a7 a3 a4 g x s D m hm hb hF hx hR) 6 0 12 (fun _ => 0) (0, 0, fun _ => 0) d0 0 rfl (by omega) (by omega) ⟨Nat.le_refl _, Nat.le_refl _⟩ (FrS.rf d0) (fun q hq => absurd hq (Nat.not_lt_zero _)) a6
  have fr : ∀ c j, c ≠ 136 → c ≠ 137 → (c ≠ 113 ∨ (j ≠ 50 ∧ j ≠ 51 ∧ j ≠ 52)) → d'.1 c j = d.1 c j := fun c j z1 z2 z3 => by
    rw [e2.2 c j z1 z2 (by omega)]
    by_cases e : c = 113
    · subst e; exact j113 j (by omega) (by omega) (by omega)
    · rw [c113 c e]
  refine ⟨d', ?_, fun c j hrel => ?_, by rw [e2.1, ← hd0]; rfl, fr, e3⟩
  · unfold X12_tellShapes
    rw [gd_pos (Or.inl rfl), lt_pos, lt_pos, lt_pos, hd0]
    have e1' : X12_shapeOn 113 12 0 (6 : Nat) d0 = some ((), d') := e1
    rw [bd_pos e1']
  · refine fr c j (fun e => by subst e; cases hrel) (fun e => by subst e; cases hrel) ?_
    by_cases e : c = 113
    · subst e
      have hrel' : relL.contains j = true := hrel
      exact Or.inr ⟨fun e => (by subst e; cases hrel'), fun e => (by subst e; cases hrel'), fun e => (by subst e; cases hrel')⟩
    · exact Or.inl e

/-! ===== a new table on both sides: the step ===== -/
theorem both2 {Z : Type} {k : Nat} {x x2 : XS} {o : Option ((Int ⊕ Nat) × XS)} {en : Nat} {c v w : Int} (hA : Ans o x en c v x2) (hv : inR v) (hc : c = 0 ∨ c = 1) (hw : inR w) (hvw : c = 0 → v = w) {M : DA → Option (Int × DA)} (hM : ∀ x3 : XS, x3.1.1 = x2.1.1 → x3.2 = x2.2 → ∃ d', M x3.1 = some (w, d') ∧ d'.1 113 0 = c ∧ d'.2 161 = x3.1.2 161 ∧ Inv (k + 1) (xD x3 d')) {f : XS → Option Z} {bad : XS → Option Z} :
    ∃ x', (bd (LX o x en) fun r7 x8 =>
      gd (xc x ≤ xc x8 ∧ xs x ≤ xs x8) <|
      bd (M x8.1) fun x10 d9 =>
      lt9 (xD x8 d9) fun x11 =>
      b1 (X12_thrown 113 x11.1) fun x12 =>
      gd (inR x12 ∧ inR r7) <|
      if x12 = r7 then (gd (inR r7) <|
      if r7 = 0 then (gd (ix 0 1) <|
      gd (inR x10) <|
      gd (inR64 (x11.1.2 161 (Int.toNat 0)) ∧ inR64 x10) <|
      gd (inR (lcmp9 (x11.1.2 161 (Int.toNat 0)) x10)) <|
      if (lcmp9 (x11.1.2 161 (Int.toNat 0)) x10) = 0 then f x11 else bad x11) else f x11) else bad x11) = f x' ∧ Inv (k + 1) x' := by
  obtain ⟨x3, h1, h2, h3, h4, h5, h6⟩ := lx_ans hA hv
  obtain ⟨d', m1, m2, m4, m5⟩ := hM x3 h4 h5
  refine ⟨xD x3 d', ?_, m5⟩
  rw [bd_pos h1, gd_pos ⟨h2, h3⟩, bd_pos m1, lt_pos, b1_pos (show X12_thrown 113 (xD x3 d').1 = some (d'.1 113 0) from rfl)]
  exact law_tail (x := xD x3 d') m2 hc hw (fun hc0 => by
    show d'.2 161 0 = w
    rw [m4, h6 hc0]
    exact hvw hc0)
/-- what of field and tape a call finds -/
theorem Inv.fld {k : Nat} {x : XS} (h : Inv k x) : ∃ p tp : Nat, PG p ∧ x.1.1 2 5 = p ∧ x.1.1 113 4 = p ∧ NI9 x.1.1 p ∧ PI9 x.1.1 tp := by
  obtain ⟨-, r, p, m, D, U, tp, kr, la, ⟨-, ⟨p1, p2, p3⟩, -⟩, -, hP, -, -, hN, -⟩ := h
  exact ⟨p, tp, p3, p1, p2, hN, hP⟩
/-- the reference took the table f of rank r: what counts -/
def MNr (d d' : DA) (r : Nat) (f : Nat → Int) : Prop :=
  (∀ c j, rel c j = true → c ≠ 113 → c ≠ 114 → c ≠ 117 → c ≠ 118 → c ≠ 119 → d'.1 c j = d.1 c j) ∧
  (∀ j, relL.contains j = true → j ≠ 1 → j ≠ 3 → j ≠ 13 → j ≠ 18 → j ≠ 19 → d'.1 113 j = d.1 113 j) ∧ d'.1 113 1 = r ∧ d'.1 114 = f ∧
  (d'.1 113 13 = 0 ∧ d'.1 113 18 = 0 ∧ d'.1 113 19 = 0) ∧ (∀ j, j < 729 → d'.1 117 j = 0) ∧ (∀ j, j < 27 → d'.1 118 j = 0) ∧ (∀ j, j < 5 → d'.1 119 j = 1)
theorem MNew.rel {d e d' : DA} {r : Nat} {f : Nat → Int} (h : MNew e d' r f) (hS : Sm d e) : MNr d d' r f := by
  obtain ⟨g1, -, g3, g4⟩ := h
  exact ⟨fun c j hc a1 a2 a3 a4 a5 => by rw [g1 c j hc a1 a2 a3 a4 a5]; exact hS c j hc, fun j hj a1 a2 a3 a4 a5 => by rw [g3 j a1 a2 a3 a4 a5]; exact hS 113 j hj, g4⟩
theorem newT_of {x : XS} {d8 d4 d d' : DA} {r p : Nat} {f : Nat → Int} (h8 : ∀ c, c ≠ 5 → c ≠ 6 → d8.1 c = x.1.1 c) (h5 : d8.1 5 0 = r) (h6 : d8.1 6 = f) (hF : Fgt d8 d4 r) (hd : d.1 = d4.1) (hM : MNr d d' r f) (hT : TG f r) (hp : PG p ∧ x.1.1 2 5 = p ∧ x.1.1 113 4 = p ∧ NI9 x.1.1 p) : NewT x.1.1 d'.1 r p ∧ (∀ tp, PI9 x.1.1 tp → PI9 d'.1 tp) := by
  obtain ⟨a1, a2, ⟨a3, a4⟩, a5, a6, ⟨a7, a8⟩, a9, a10, a11, a12⟩ := hF
  obtain ⟨b1, b3, b4, b5, ⟨b6, b7, b8⟩, b9, b10, b11⟩ := hM
  obtain ⟨p1, p2, p3, p4, p5⟩ := hp
  have m : ∀ c j, rel c j = true → c ≠ 113 → c ≠ 114 → c ≠ 117 → c ≠ 118 → c ≠ 119 → d'.1 c j = d4.1 c j := fun c j z z1 z2 z3 z4 z5 => by rw [b1 c j z z1 z2 z3 z4 z5, hd]
  have q : ∀ c j, rel c j = true → c ≠ 2 → c ≠ 3 → c ≠ 5 → c ≠ 6 → c ≠ 12 → c ≠ 13 → c ≠ 54 → c ≠ 61 → c ≠ 68 → c ≠ 69 → c ≠ 81 → d4.1 c j = x.1.1 c j := fun c j z z1 z2 z3 z4 z5 z6 z7 z8 z9 z10 z11 => by rw [a1 c j z z1 z2 z5 z6 z7 z8 z9 z10 z11, h8 c z3 z4]
  have f13 : ∀ j, relL.contains j = true → j ≠ 1 → j ≠ 3 → j ≠ 13 → j ≠ 18 → j ≠ 19 → d'.1 113 j = x.1.1 113 j := fun j z z1 z2 z3 z4 z5 => by
    rw [b3 j z z1 z2 z3 z4 z5, hd, q 113 j z (by decide) (by decide) (by decide) (by decide) (by decide) (by decide) (by decide) (by decide) (by decide) (by decide) (by decide)]
  have c2 : ∀ j, j ≠ 4 → d'.1 2 j = x.1.1 2 j := fun j z => by rw [m 2 j rfl (by decide) (by decide) (by decide) (by decide) (by decide), a4 j z, h8 2 (by decide) (by decide)]
  have wq : ∀ c, (∀ j, rel c j = true) → c ≠ 113 → c ≠ 114 → c ≠ 117 → c ≠ 118 → c ≠ 119 → c ≠ 2 → c ≠ 3 → c ≠ 5 → c ≠ 6 → c ≠ 12 → c ≠ 13 → c ≠ 54 → c ≠ 61 → c ≠ 68 → c ≠ 69 → c ≠ 81 → d'.1 c = x.1.1 c := fun c z y1 y2 y3 y4 y5 z1 z2 z3 z4 z5 z6 z7 z8 z9 z10 z11 => funext fun j => by rw [m c j (z j) y1 y2 y3 y4 y5, q c j (z j) z1 z2 z3 z4 z5 z6 z7 z8 z9 z10 z11]
  have e1 : d'.1 1 = x.1.1 1 := wq 1 (fun _ => rfl) (by decide) (by decide) (by decide) (by decide) (by decide) (by decide) (by decide) (by decide) (by decide) (by decide) (by decide) (by decide) (by decide) (by decide) (by decide) (by decide)
  have e44 : d'.1 44 = x.1.1 44 := wq 44 (fun _ => rfl) (by decide) (by decide) (by decide) (by decide) (by decide) (by decide) (by decide) (by decide) (by decide) (by decide) (by decide) (by decide) (by decide) (by decide) (by decide) (by decide)
  have e126 : d'.1 126 = x.1.1 126 := wq 126 (fun _ => rfl) (by decide) (by decide) (by decide) (by decide) (by decide) (by decide) (by decide) (by decide) (by decide) (by decide) (by decide) (by decide) (by decide) (by decide) (by decide) (by decide)
  have e58 : d'.1 58 = x.1.1 58 := wq 58 (fun _ => rfl) (by decide) (by decide) (by decide) (by decide) (by decide) (by decide) (by decide) (by decide) (by decide) (by decide) (by decide) (by decide) (by decide) (by decide) (by decide) (by decide)
  have e59 : d'.1 59 = x.1.1 59 := wq 59 (fun _ => rfl) (by decide) (by decide) (by decide) (by decide) (by decide) (by decide) (by decide) (by decide) (by decide) (by decide) (by decide) (by decide) (by decide) (by decide) (by decide) (by decide)
  have e6 : d'.1 6 = f := by
    funext j
    rw [m 6 j rfl (by decide) (by decide) (by decide) (by decide) (by decide), a1 6 j rfl (by decide) (by decide) (by decide) (by decide) (by decide) (by decide) (by decide) (by decide) (by decide), h6]
  have mm : ∀ c, (∀ j, rel c j = true) → c ≠ 113 → c ≠ 114 → c ≠ 117 → c ≠ 118 → c ≠ 119 → d'.1 c = d4.1 c := fun c z y1 y2 y3 y4 y5 => funext fun j => m c j (z j) y1 y2 y3 y4 y5
  refine ⟨⟨fun c j z y => ?_, ⟨by rw [e1], by rw [e1], c2 6 (by decide), c2 7 (by decide), f13 2 rfl (by decide) (by decide) (by decide) (by decide) (by decide), f13 33 rfl (by decide) (by decide) (by decide) (by decide) (by decide), f13 34 rfl (by decide) (by decide) (by decide) (by decide) (by decide), f13 35 rfl (by decide) (by decide) (by decide) (by decide) (by decide), f13 76 rfl (by decide) (by decide) (by decide) (by decide) (by decide), f13 77 rfl (by decide) (by decide) (by decide) (by decide) (by decide), f13 78 rfl (by decide) (by decide) (by decide) (by decide) (by decide), f13 79 rfl (by decide) (by decide) (by decide) (by decide) (by decide)⟩, ⟨?_, b4, by rw [e6, b5], by rw [b5]; exact hT⟩, ⟨by rw [c2 5 (by decide)]; exact p2, by rw [f13 4 rfl (by decide) (by decide) (by decide) (by decide) (by decide)]; exact p3, p1, ?_⟩, ⟨?_, fun j hj => ?_, fun h3 => ?_, ?_, ?_, ?_, ?_, fun j hj => ?_, ?_⟩, b6, b7, b8, b9, b10, b11⟩, fun tp hP => ?_⟩
  · have ne : ∀ a, chL9.contains a = true → c ≠ a := fun a ha e => by rw [e, ha] at y; cases y
    rw [m c j z (ne 113 rfl) (ne 114 rfl) (ne 117 rfl) (ne 118 rfl) (ne 119 rfl), q c j z (ne 2 rfl) (ne 3 rfl) (ne 5 rfl) (ne 6 rfl) (ne 12 rfl) (ne 13 rfl) (ne 54 rfl) (ne 61 rfl) (ne 68 rfl) (ne 69 rfl) (ne 81 rfl)]
  · rw [m 5 0 rfl (by decide) (by decide) (by decide) (by decide) (by decide), a1 5 0 rfl (by decide) (by decide) (by decide) (by decide) (by decide) (by decide) (by decide) (by decide) (by decide), h5]
  · unfold NI9
    rw [e58, e59]
    exact ⟨p4, p5⟩
  · rw [m 2 4 rfl (by decide) (by decide) (by decide) (by decide) (by decide)]; exact a3
  · rw [m 3 j rfl (by decide) (by decide) (by decide) (by decide) (by decide)]; exact a5 j hj
  · rw [e6, mm 12 (fun _ => rfl) (by decide) (by decide) (by decide) (by decide) (by decide), mm 13 (fun _ => rfl) (by decide) (by decide) (by decide) (by decide) (by decide), ← h6]
    exact a6 h3
  · rw [m 54 3 rfl (by decide) (by decide) (by decide) (by decide) (by decide)]; exact a7
  · rw [m 54 4 rfl (by decide) (by decide) (by decide) (by decide) (by decide)]; exact a8
  · rw [m 61 0 rfl (by decide) (by decide) (by decide) (by decide) (by decide)]; exact a9
  · rw [m 68 2 rfl (by decide) (by decide) (by decide) (by decide) (by decide)]; exact a10
  · rw [m 69 j rfl (by decide) (by decide) (by decide) (by decide) (by decide)]; exact a11 j hj
  · rw [m 81 0 rfl (by decide) (by decide) (by decide) (by decide) (by decide)]; exact a12
  · unfold PI9 at hP ⊢
    rw [e1, e44, e126, f13 21 rfl (by decide) (by decide) (by decide) (by decide) (by decide), f13 30 rfl (by decide) (by decide) (by decide) (by decide) (by decide)]
    exact hP

/-! ===== table: the step ===== -/
/-- the class's reading -/
theorem x4_read {n : Nat} {x : XS} {T : Nat → Int} {ft : Int} {pl k : Nat} {T' : Nat → Int} (hn : n ≤ 400) (hR : Rr9 n x.1 0 0 0 T 0 0 0 ft pl k T') : ∃ d, X4_read n x = some (.inl ft, xD (xR2 (xR1 x)) d) ∧ ∀ ft' pl' k' T'', Rr9 n x.1 0 0 0 T 0 0 0 ft' pl' k' T'' → CF9 x.1 ft' pl' k' T'' d := by
  have hx : ∃ g, (wI (wI (wI (wI (wI (wI (wI x.1 45 1 (n : Int)) 45 2 0) 45 6 0) 45 7 0) 45 8 0) 45 9 (-1)) 45 13 0) = wA x.1 45 g ∧ g 1 = n ∧ g 2 = 0 ∧ g 6 = 0 ∧ g 7 = 0 ∧ g 8 = 0 ∧ g 9 = -1 ∧ g 13 = 0 := by
    refine ⟨fu (fu (fu (fu (fu (fu (fu (x.1.1 45) 1 (n : Int)) 2 0) 6 0) 7 0) 8 0) 9 (-1)) 13 0, ?_, rfl, rfl, rfl, rfl, rfl, rfl, rfl⟩
    rw [wI_A (d := x.1), wA_wI, wA_wI, wA_wI, wA_wI, wA_wI, wA_wI]
  obtain ⟨g, hg, g1, g2, g6, g7, g8, g9, g13⟩ := hx
  have hC : CD9 n x.1 0 0 0 T 0 0 0 (wA x.1 45 g) := by
    unfold CD9
    rw [wA_at]
    exact ⟨fun c z1 z2 z3 => by rw [wA_ne z1], rfl, ⟨g1, g2, by omega, g6, g7, g8, g9⟩, fun z => by omega, fun z => by omega, ⟨g13, by decide⟩, fun z => by omega⟩
  have run : ∀ ft' pl' k' T'', Rr9 n x.1 0 0 0 T 0 0 0 ft' pl' k' T'' → ∃ d, wl9 (fun q => X4_read_b48 n q.1 q.2) FUEL ((0 : Int), xD (xR2 (xR1 x)) (wA x.1 45 g)) = some (xD (xR2 (xR1 x)) d) ∧ CF9 x.1 ft' pl' k' T'' d := fun ft' pl' k' T'' h => by
    obtain ⟨d, r1, r2⟩ := h 0 FUEL (xD (xR2 (xR1 x)) (wA x.1 45 g)) hC ⟨rfl, rfl⟩ (by omega) (by unfold FUEL; omega)
    exact ⟨d, r1, r2⟩
  obtain ⟨d, r1, r2⟩ := run _ _ _ _ hR
  refine ⟨d, ?_, fun ft' pl' k' T'' h => ?_⟩
  · have e1 : X4_read n x = lpE (fun q => X4_read_b48 n q.1 q.2) (0, xD (xR2 (xR1 x)) (wA x.1 45 g)) (fun e => some ((.inl (e.1.1 45 8), e))) := by
      rw [← hg]
      unfold X4_read
      rw [lt_pos, lt_pos, lt_pos, lt_pos, lt_pos, lt_pos, lt_pos, gd_pos (Or.inl rfl), lt_pos, lt_pos, lt_pos, lt_pos, lt_pos, lt_pos, lt_pos, lt_pos, lt_pos]
      rfl
    rw [e1]
    unfold lpE
    rw [r1]
    show some (Sum.inl (d.1 45 8), xD (xR2 (xR1 x)) d) = _
    rw [r2.2.2.2.1]
  · obtain ⟨d2, s1, s2⟩ := run _ _ _ _ h
    have : some (xD (xR2 (xR1 x)) d) = some (xD (xR2 (xR1 x)) d2) := r1.symm.trans s1
    have e : d = d2 := congrArg (fun y : XS => y.1) (Option.some.inj this)
    rw [e]; exact s2
/-- another tape, the same time -/
theorem Inv.tape0 {k : Nat} {x x' : XS} (h : Inv k x) (hA : ∀ c j, rel c j = true → chP c j = false → x'.1.1 c j = x.1.1 c j) (hz : xzc x' = xzc x ∧ xzf x' = xzf x ∧ xe x' = 0 ∧ xok9 x') (hc : xc x' = xc x ∧ xs x' = xs x)
    (hnew : ∃ tp', PI9 (vw x'.1.1) tp') : Inv k x' := by
  obtain ⟨⟨z1, z2, z3, z4, z5, z6, z7⟩, r, p, m, D, U, tp, kr, la, hS, hH, hP, hK, hLi, hN, hC, hT, hV, hI⟩ := h
  have hAg : Ag9 chP (vw x.1.1) (vw x'.1.1) := Ag9.of hA
  obtain ⟨tp', hP'⟩ := hnew
  obtain ⟨e1, e2, e3, e4⟩ := hz
  refine ⟨⟨z1, by rw [e1]; exact z2, by rw [e2]; exact z3, e3, e4, by rw [e1, e2]; omega, by rw [e1, e2]; omega⟩, r, p, m, D, U, tp', kr, la, ?_⟩
  rw [e1, e2]
  exact ⟨hS.cg hAg ⟨fun _ => rfl, fun _ => rfl, fun _ => rfl, fun _ => rfl, fun _ => rfl, fun _ => rfl, fun _ => rfl, fun _ => rfl, fun _ => rfl, fun _ => rfl, fun _ => rfl⟩ ⟨rfl, rfl, rfl, rfl, rfl, rfl, rfl, rfl⟩, hH.cg hAg ⟨fun _ => rfl, fun _ => rfl, fun _ => rfl, fun _ => rfl, fun _ => rfl, fun _ => rfl, fun _ => rfl, fun _ => rfl⟩ ⟨rfl, rfl, rfl, rfl⟩, hP', hK.cg hAg ⟨fun _ => rfl, fun _ => rfl⟩ ⟨rfl, rfl, rfl⟩, hLi.cg hAg ⟨fun _ => rfl, fun _ => rfl, fun _ => rfl⟩ ⟨rfl, rfl, rfl, rfl, rfl, rfl, rfl⟩, hN.cg hAg (fun _ => rfl) rfl, CI.cg hC hAg ⟨fun _ => rfl, fun _ => rfl⟩ ⟨rfl, rfl⟩, hT.cg hAg ⟨fun _ => rfl, fun _ => rfl, fun _ => rfl, fun _ => rfl⟩ rfl, VI9.cg hV hAg ⟨rfl, rfl, rfl⟩ ⟨fun _ => rfl, fun _ => rfl⟩, hI.cg hAg ⟨fun _ => rfl, fun _ => rfl, fun _ => rfl, fun _ => rfl, fun _ => rfl, fun _ => rfl, fun _ => rfl, fun _ => rfl, fun _ => rfl, fun _ => rfl, fun _ => rfl, fun _ => rfl, fun _ => rfl⟩ ⟨rfl, rfl, rfl, rfl, rfl⟩⟩
/-- the tape is used up, its fault at pl -/
def ty9 (pl : Int) (d : DA) : DA := wI (wI (wI (wI d 1 7 0) 1 8 pl) 113 21 0) 113 30 pl
theorem ty9_o {pl : Int} {d : DA} {c j : Nat} (h1 : c = 1 → j ≠ 7 ∧ j ≠ 8) (h2 : c = 113 → j ≠ 21 ∧ j ≠ 30) : (ty9 pl d).1 c j = d.1 c j := by
  unfold ty9
  by_cases e1 : c = 113
  · subst e1
    rw [wI_at, fu_n (h2 rfl).2, wI_at, fu_n (h2 rfl).1, wI_ne (by decide), wI_ne (by decide)]
  · rw [wI_ne e1, wI_ne e1]
    by_cases e2 : c = 1
    · subst e2
      rw [wI_at, fu_n (h1 rfl).2, wI_at, fu_n (h1 rfl).1]
    · rw [wI_ne e2, wI_ne e2]
theorem Inv.used {k : Nat} {x : XS} (h : Inv k x) {pl : Int} (hp : -1 ≤ pl ∧ pl ≤ 400) : Inv k (xD (xR2 (xR1 x)) (ty9 pl x.1)) := by
  have z := h.z
  refine h.tape0 (x' := xD (xR2 (xR1 x)) (ty9 pl x.1)) (fun c j hr hc => ?_) ⟨rfl, rfl, z.2.2.2.1, ?_⟩ ⟨rfl, rfl⟩ ⟨0, ?_⟩
  · show (ty9 pl x.1).1 c j = _
    unfold chP at hc
    simp only [Bool.or_eq_false_iff, Bool.and_eq_false_iff, beq_eq_false_iff_ne, ne_eq] at hc
    exact ty9_o (fun e => by rcases hc.1.1.1 with y | y; exact absurd e y; exact y) (fun e => by rcases hc.1.2 with y | y; exact absurd e y; exact y)
  · have zo := z.2.2.2.2.1
    unfold xok9 at zo ⊢
    first | exact ⟨Or.inr rfl, Or.inr rfl, zo.2.2⟩ | exact ⟨rfl, rfl, zo.2.2⟩ | (simp_all [xrt, xrb, xtt, xtn, xD, xR1, xR2])
  · exact ⟨rfl, rfl, by omega, fun j hj => absurd hj (by omega), rfl, hp.1, hp.2⟩
theorem Fgt.w1 {d d' : DA} {r j : Nat} {v : Int} (h : Fgt d d' r) : Fgt (wI d 113 j v) (wI d' 113 j v) r := by
  obtain ⟨a1, a2, ⟨a3, a4⟩, a5, a6, ⟨a7, a8⟩, a9, a10, a11, a12⟩ := h
  refine ⟨fun c i hr z1 z2 z3 z4 z5 z6 z7 z8 z9 => ?_, a2, ⟨?_, fun i hi => ?_⟩, fun i hi => ?_, fun h3 => ?_, ⟨?_, ?_⟩, ?_, ?_, fun i hi => ?_, ?_⟩
  · by_cases e : c = 113
    · subst e
      rw [wI_at, wI_at]
      by_cases e2 : i = j
      · subst e2; rw [fu_s, fu_s]
      · rw [fu_n e2, fu_n e2]; exact a1 113 i hr z1 z2 z3 z4 z5 z6 z7 z8 z9
    · rw [wI_ne e, wI_ne e]; exact a1 c i hr z1 z2 z3 z4 z5 z6 z7 z8 z9
  · rw [wI_ne (by decide)]; exact a3
  · rw [wI_ne (by decide), wI_ne (by decide)]; exact a4 i hi
  · rw [wI_ne (by decide)]; exact a5 i hi
  · rw [wI_ne (by decide), wI_ne (by decide), wI_ne (by decide)]; exact a6 h3
  · rw [wI_ne (by decide)]; exact a7
  · rw [wI_ne (by decide)]; exact a8
  · rw [wI_ne (by decide)]; exact a9
  · rw [wI_ne (by decide)]; exact a10
  · rw [wI_ne (by decide)]; exact a11 i hi
  · rw [wI_ne (by decide)]; exact a12

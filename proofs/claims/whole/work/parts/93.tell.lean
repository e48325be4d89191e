/-! ===== twist, tell, swap ===== -/
theorem tell_fin {k : Nat} {x x3 : XS} {A C : DA} {D cc cm qc qm : Nat} {v va vb vc ve pl be af : Int} (h : Inv k x) (hk : k < 512) (hD : x.1.1 54 3 = D) (hA : Ad 54 3 4 55 56 57 D pl be af x.1 A) (h3 : x3.1.1 = (wI A cc qc v).1) (h32 : x3.2 = x.2) (hC : Al9 D va vb vc ve (wI x3.1 113 0 0) C) (hcc : (cc = 3 ∧ cm = 119) ∨ (cc = 12 ∧ cm = 117) ∨ (cc = 13 ∧ cm = 118)) (hva : va ≠ 3)
    (hE : ∀ r p, TG (x.1.1 114) r → PG p → x.1.1 113 4 = p → x.1.1 5 0 = r → TrC x.1.1 r p → TuC x.1.1 p → EG (x.1.1 114) r p va vb vc ve pl be af ∧ (∀ g : Nat → Nat → Int, (∀ c, c ≠ cc → c ≠ cm → (c = 3 ∨ c = 119 ∨ c = 12 ∨ c = 117 ∨ c = 13 ∨ c = 118 ∨ c = 114) → g c = x.1.1 c) → g cc = fu (x.1.1 cc) qc v → g cm = fu (x.1.1 cm) qm v → TrC g r p ∧ TuC g p)) : Inv (k + 1) (xD x3 (wI C cm qm v)) := by
  obtain ⟨a0, a1, a2, a3, a4, a5, a6, a7⟩ := hA
  obtain ⟨b0, b1, b2, b3, b4, b5, b6, b7, b8⟩ := hC
  have ncm : cm ≠ 113 ∧ cm ≠ 122 ∧ cm ≠ 123 ∧ cm ≠ 124 ∧ cm ≠ 125 ∧ cm ≠ 54 ∧ cm ≠ 55 ∧ cm ≠ 56 ∧ cm ≠ 57 ∧ cm ≠ 2 ∧ cm ≠ 4 ∧ cm ≠ 120 ∧ cm ≠ 114 := by omega
  have ncc : cc ≠ 113 ∧ cc ≠ 122 ∧ cc ≠ 123 ∧ cc ≠ 124 ∧ cc ≠ 125 ∧ cc ≠ 54 ∧ cc ≠ 55 ∧ cc ≠ 56 ∧ cc ≠ 57 ∧ cc ≠ 2 ∧ cc ≠ 4 ∧ cc ≠ 120 ∧ cc ≠ 114 ∧ cc ≠ cm := by omega
  -- the cells of the end
  have e3 : ∀ c, c ≠ cc → x3.1.1 c = A.1 c := fun c z => by rw [h3, wI_ne z]
  have eC : ∀ c, c ≠ 113 → c ≠ 122 → c ≠ 123 → c ≠ 124 → c ≠ 125 → C.1 c = x3.1.1 c := fun c z1 z2 z3 z4 z5 => by rw [b1 c z1 z2 z3 z4 z5, wI_ne z1]
  have eF : ∀ c, c ≠ cm → (wI C cm qm v).1 c = C.1 c := fun c z => wI_ne z
  have gen : ∀ c, c ≠ cc → c ≠ cm → c ≠ 113 → c ≠ 122 → c ≠ 123 → c ≠ 124 → c ≠ 125 → c ≠ 54 → c ≠ 55 → c ≠ 56 → c ≠ 57 → (wI C cm qm v).1 c = x.1.1 c := fun c z1 z2 z3 z4 z5 z6 z7 z8 z9 z10 z11 => by
    rw [eF c z2, eC c z3 z4 z5 z6 z7, e3 c z1, a1 c z8 z9 z10 z11]
  have g113 : ∀ j, j ≠ 0 → j ≠ 18 → j ≠ 19 → (wI C cm qm v).1 113 j = x.1.1 113 j := fun j z1 z2 z3 => by
    rw [eF 113 (by omega), b2 j z2 z3, wI_at, fu_n z1, e3 113 (by omega), a1 113 (by omega) (by omega) (by omega) (by omega)]
  have fcc : (wI C cm qm v).1 cc = fu (x.1.1 cc) qc v := by
    rw [eF cc (by omega), eC cc (by omega) (by omega) (by omega) (by omega) (by omega), h3, wI_at, a1 cc (by omega) (by omega) (by omega) (by omega)]
  have fcm : (wI C cm qm v).1 cm = fu (x.1.1 cm) qm v := by
    rw [wI_at, eC cm (by omega) (by omega) (by omega) (by omega) (by omega), e3 cm (by omega), a1 cm (by omega) (by omega) (by omega) (by omega)]
  have cls : ∀ c, c = 54 ∨ c = 55 ∨ c = 56 ∨ c = 57 → (wI C cm qm v).1 c = A.1 c := fun c z => by
    rw [eF c (by omega), eC c (by omega) (by omega) (by omega) (by omega) (by omega), e3 c (by omega)]
  have lg0 : ∀ c, c = 122 ∨ c = 123 ∨ c = 124 ∨ c = 125 → (wI x3.1 113 0 0).1 c = x.1.1 c := fun c z => by
    rw [wI_ne (by omega), e3 c (by omega), a1 c (by omega) (by omega) (by omega) (by omega)]
  refine h.tell hk (fun c j hr hc => ?_) h32 (fun r p m D1 U t4 p3 p2 t1 hTr hTu hLe hH => ?_)
  · show (wI C cm qm v).1 c j = x.1.1 c j
    have hne : ∀ a, (∀ j, chT a j = true) → c ≠ a := fun a ha e => by rw [e, ha j] at hc; cases hc
    have n3 := hne 3 (fun _ => rfl)
    have n12 := hne 12 (fun _ => rfl)
    have n13 := hne 13 (fun _ => rfl)
    have n117 := hne 117 (fun _ => rfl)
    have n118 := hne 118 (fun _ => rfl)
    have n119 := hne 119 (fun _ => rfl)
    have n55 := hne 55 (fun _ => rfl)
    have n56 := hne 56 (fun _ => rfl)
    have n57 := hne 57 (fun _ => rfl)
    have n122 := hne 122 (fun _ => rfl)
    have n123 := hne 123 (fun _ => rfl)
    have n124 := hne 124 (fun _ => rfl)
    have n125 := hne 125 (fun _ => rfl)
    by_cases c113 : c = 113
    · subst c113
      refine g113 j (fun e => ?_) (fun e => ?_) (fun e => ?_)
      · subst e; cases hr
      · subst e; cases hc
      · subst e; cases hc
    · by_cases c54 : c = 54
      · subst c54
        rw [cls 54 (Or.inl rfl)]
        exact congrFun (funext fun j => rfl) j |>.trans (a2 j (fun e => by subst e; cases hc) (fun e => by subst e; cases hc))
      · rw [gen c (by omega) (by omega) c113 n122 n123 n124 n125 c54 n55 n56 n57]
  · have hD1 : D1 = D := by
      have : x.1.1 54 3 = D1 := hH.1
      omega
    subst hD1
    obtain ⟨hEG, hTT⟩ := hE r p t4 p3 p2 t1 hTr hTu
    obtain ⟨c1, c2⟩ := hTT (wI C cm qm v).1 (fun c z1 z2 z3 => gen c z1 z2 (by omega) (by omega) (by omega) (by omega) (by omega) (by omega) (by omega) (by omega) (by omega)) fcc fcm
    refine ⟨m, dn9 D1 + 1, 0, c1, c2, ?_, ?_⟩
    · obtain ⟨l1, l2, l3, l4⟩ := hLe
      refine ⟨?_, ?_, l3, fun j hj => ?_⟩
      · show (wI C cm qm v).1 2 4 = m
        rw [gen 2 (by omega) (by omega) (by omega) (by omega) (by omega) (by omega) (by omega) (by omega) (by omega) (by omega) (by omega)]; exact l1
      · show (wI C cm qm v).1 113 13 = m
        rw [g113 13 (by decide) (by decide) (by decide)]; exact l2
      · show (wI C cm qm v).1 4 j = (wI C cm qm v).1 120 j ∧ Lt9 ((wI C cm qm v).1 120 j)
        rw [gen 4 (by omega) (by omega) (by omega) (by omega) (by omega) (by omega) (by omega) (by omega) (by omega) (by omega) (by omega), gen 120 (by omega) (by omega) (by omega) (by omega) (by omega) (by omega) (by omega) (by omega) (by omega) (by omega) (by omega)]
        exact l4 j hj
    · refine hH.add (va := va) (vb := vb) (vc := vc) (ve := ve) (pl := pl) (be := be) (af := af) hLe.2.2.1 (by rw [if_neg hva]; exact Nat.le_refl _) ?_ ?_ ?_ ?_ ?_ ?_ ?_ ?_ ?_ ?_ ?_ ?_ hEG
      · exact gen 114 (by omega) (by omega) (by omega) (by omega) (by omega) (by omega) (by omega) (by omega) (by omega) (by omega) (by omega)
      · show (wI C cm qm v).1 54 3 = _
        rw [cls 54 (by omega)]; exact a3
      · show (wI C cm qm v).1 54 4 = _
        rw [cls 54 (by omega)]; exact a4
      · show (wI C cm qm v).1 55 = _
        rw [cls 55 (by omega)]; exact a5
      · show (wI C cm qm v).1 56 = _
        rw [cls 56 (by omega)]; exact a6
      · show (wI C cm qm v).1 57 = _
        rw [cls 57 (by omega)]; exact a7
      · show (wI C cm qm v).1 113 18 = _
        rw [eF 113 (by omega)]; exact b3
      · show (wI C cm qm v).1 113 19 = _
        rw [eF 113 (by omega)]; exact b4
      · show (wI C cm qm v).1 122 = _
        rw [eF 122 (by omega), b5, lg0 122 (by omega)]; rfl
      · show (wI C cm qm v).1 123 = _
        rw [eF 123 (by omega), b6, lg0 123 (by omega)]; rfl
      · show (wI C cm qm v).1 124 = _
        rw [eF 124 (by omega), b7, lg0 124 (by omega)]; rfl
      · show (wI C cm qm v).1 125 = _
        rw [eF 125 (by omega), b8, lg0 125 (by omega)]; rfl
/-- remember, at a place of the kind that cc, q, off give -/
theorem x11_remember {d : DA} {D q : Nat} {v : Int} (hD : d.1 54 3 = D) (h1 : D ≤ 100) (cc : Nat) (off : Int) (hp : (cc = 12 ∧ off = 0 ∧ q < 729) ∨ (cc = 13 ∧ off = 729 ∧ q < 27) ∨ (cc = 3 ∧ off = 756 ∧ q < 5)) : ∃ A, X11_remember 1 (off + q) v d = some (1, wI A cc q v) ∧ Ad 54 3 4 55 56 57 D (off + q) (d.1 cc q) v d A := by
  obtain ⟨⟨u, A⟩, e1, hA⟩ := x7_add (d := d) (pl := off + q) (be := d.1 cc q) (af := v) hD h1
  refine ⟨A, ?_, hA⟩
  have ev : X6_valueAt (1 + 1) (off + q) d = some (d.1 cc q) := by
    unfold X6_valueAt
    rcases hp with ⟨rfl, rfl, hq⟩ | ⟨rfl, rfl, hq⟩ | ⟨rfl, rfl, hq⟩
    · rw [show ((0 : Int) + (q : Int)).toNat = q by omega]
      simp (disch := omega) only [gd_pos, if_pos, if_neg, lt_pos, reduceIte]
    · rw [show ((729 : Int) + (q : Int) - 729).toNat = q by omega]
      simp (disch := omega) only [gd_pos, if_pos, if_neg, lt_pos, reduceIte]
    · rw [show ((756 : Int) + (q : Int) - 756).toNat = q by omega]
      simp (disch := omega) only [gd_pos, if_pos, if_neg, lt_pos, reduceIte]
  have ep : X6_put (1 + 1) (off + q) v A = some ((), wI A cc q v) := by
    unfold X6_put
    rcases hp with ⟨rfl, rfl, hq⟩ | ⟨rfl, rfl, hq⟩ | ⟨rfl, rfl, hq⟩
    · rw [show ((0 : Int) + (q : Int)).toNat = q by omega]
      simp (disch := omega) only [gd_pos, if_pos, if_neg, lt_pos, reduceIte]
    · rw [show ((729 : Int) + (q : Int) - 729).toNat = q by omega]
      simp (disch := omega) only [gd_pos, if_pos, if_neg, lt_pos, reduceIte]
    · rw [show ((756 : Int) + (q : Int) - 756).toNat = q by omega]
      simp (disch := omega) only [gd_pos, if_pos, if_neg, lt_pos, reduceIte]
  have e1' : X7_add (1 + 53) (off + q) (d.1 cc q) v d = some (u, A) := e1
  unfold X11_remember
  rw [b1_pos ev, bd_pos e1', bd_pos ep]
theorem x12_telling {d : DA} {D q : Nat} {v : Int} (hD : d.1 113 18 = D) (h1 : D ≤ 100) (cm : Nat) (w : Int) (hp : (cm = 117 ∧ w = 0 ∧ q < 729) ∨ (cm = 118 ∧ w = 1 ∧ q < 27) ∨ (cm = 119 ∧ w = 2 ∧ q < 5)) : ∃ C, X12_telling 113 1 w q v d = some (1, wI C cm q v) ∧ Al9 D w q (d.1 cm q) v d C := by
  obtain ⟨⟨u, C⟩, e1, hC⟩ := x12_log (d := d) (va := w) (vb := q) (vc := d.1 cm q) (ve := v) hD h1
  refine ⟨C, ?_, hC⟩
  have ev : X12_valueAt 113 w q d = some (d.1 cm q) := by
    unfold X12_valueAt
    rw [Int.toNat_natCast]
    rcases hp with ⟨rfl, rfl, hq⟩ | ⟨rfl, rfl, hq⟩ | ⟨rfl, rfl, hq⟩
    · simp (disch := omega) only [gd_pos, if_pos, if_neg, lt_pos, reduceIte]
    · simp (disch := omega) only [gd_pos, if_pos, if_neg, lt_pos, reduceIte]
    · simp (disch := omega) only [gd_pos, if_pos, if_neg, lt_pos, reduceIte]
  have ep : X12_put 113 w q v C = some ((), wI C cm q v) := by
    unfold X12_put
    rw [Int.toNat_natCast]
    rcases hp with ⟨rfl, rfl, hq⟩ | ⟨rfl, rfl, hq⟩ | ⟨rfl, rfl, hq⟩
    · simp (disch := omega) only [gd_pos, if_pos, if_neg, lt_pos, reduceIte]
    · simp (disch := omega) only [gd_pos, if_pos, if_neg, lt_pos, reduceIte]
    · simp (disch := omega) only [gd_pos, if_pos, if_neg, lt_pos, reduceIte]
  unfold X12_telling
  rw [gd_pos (by omega), if_neg (by decide), b1_pos ev, bd_pos e1, bd_pos ep]
theorem x12_refused {d : DA} {w q v : Int} : X12_telling 113 0 w q v d = some (0, wI d 121 1 (d.1 121 1 + 1)) := by
  unfold X12_telling
  simp (disch := omega) only [gd_pos, if_pos, if_neg, lt_pos, reduceIte]
  rfl
theorem x11_isNumber {d : DA} {p : Nat} {v : Int} (hp : d.1 58 0 = p) (hp2 : p ≤ 31) (hv : inR v) : (0 ≤ v ∧ v < p → X11_isNumber 1 v d = some 1) ∧ (¬ (0 ≤ v ∧ v < p) → X11_isNumber 1 v d = some 0) := by
  have hp' : d.1 (1 + 57) 0 = p := hp
  unfold X11_isNumber X11_isNumber_j19
  rw [hp']
  refine ⟨fun z => ?_, fun z => ?_⟩
  · simp (disch := omega) only [gd_pos, if_pos, if_neg, lt_pos, reduceIte]
  · by_cases c : v < 0
    · simp (disch := omega) only [gd_pos, if_pos, if_neg, lt_pos, reduceIte]
    · simp (disch := omega) only [gd_pos, if_pos, if_neg, lt_pos, reduceIte]
def LZ (o : Option ((Int ⊕ Nat) × XS)) (x : XS) : Option (Int × XS) := xb x o (fun r1 x2 =>
  gd (inR r1) <|
  if r1 = 0 then (gd (ix 0 1) <|
  lt9 (wL x2.1 161 (Int.toNat 0) 0) fun d3 =>
  lt9 (xD x2 d3) fun x4 =>
  some ((0, x4))) else
  gd (ix 0 1) <|
  lt9 (wL x2.1 161 (Int.toNat 0) 1) fun d5 =>
  lt9 (xD x2 d5) fun x6 =>
  some ((0, x6))) (fun e x => gd (e = 1) (some (1, x)))
theorem lz_ans {o : Option ((Int ⊕ Nat) × XS)} {x x2 : XS} {c v : Int} (h : Ans o x 1 c v x2) (hv : v = 0 ∨ v = 1) : ∃ x3, LZ o x = some (c, x3) ∧ xc x ≤ xc x3 ∧ xs x ≤ xs x3 ∧ x3.1.1 = x2.1.1 ∧ x3.2 = x2.2 ∧ (c = 0 → x3.1.2 161 0 = v) := by
  obtain ⟨h | h, hm⟩ := h
  · obtain ⟨rfl, h⟩ := h
    refine ⟨xD x2 (wL x2.1 161 0 v), ?_, hm.1, hm.2, rfl, rfl, fun _ => ?_⟩
    · unfold LZ
      rw [xb_ok h hm]
      rcases hv with rfl | rfl
      · simp (disch := omega) only [gd_pos, if_pos, if_neg, lt_pos, reduceIte]
        rfl
      · simp (disch := omega) only [gd_pos, if_pos, if_neg, lt_pos, reduceIte]
        rfl
    · show (wL x2.1 161 0 v).2 161 0 = v
      rw [wL_at, fu_s]
  · obtain ⟨rfl, h⟩ := h
    refine ⟨x2, ?_, hm.1, hm.2, rfl, rfl, fun h9 => by omega⟩
    unfold LZ
    rw [xb_er h hm, gd_pos rfl]
theorem bothZ {Z : Type} {k : Nat} {x x2 : XS} {o : Option ((Int ⊕ Nat) × XS)} {c v : Int} (hA : Ans o x 1 c v x2) (hv : v = 0 ∨ v = 1) (hc : c = 0 ∨ c = 1) {M : DA → Option (Int × DA)} (hM : ∀ x3 : XS, x3.1.1 = x2.1.1 → x3.2 = x2.2 → ∃ d', M x3.1 = some (v, d') ∧ d'.1 113 0 = c ∧ d'.2 161 = x3.1.2 161 ∧ Inv (k + 1) (xD x3 d')) {f : XS → Option Z} {bad : XS → Option Z} {jj : Int → Int → XS → Option Z} (hj : ∀ s0 s1 x, jj s0 s1 x = (gd (inR64 s0 ∧ inR64 s1) <| gd (inR (lcmp9 s0 s1)) <| if (lcmp9 s0 s1) = 0 then f x else bad x)) :
    ∃ x', (bd (LZ o x) fun r7 x8 =>
      gd (xc x ≤ xc x8 ∧ xs x ≤ xs x8) <|
      bd (M x8.1) fun x10 d9 =>
      lt9 (xD x8 d9) fun x11 =>
      b1 (X12_thrown 113 x11.1) fun x12 =>
      gd (inR x12 ∧ inR r7) <|
      if x12 = r7 then (gd (inR r7) <|
      if r7 = 0 then (gd (ix 0 1) <|
      gd (inR x10) <|
      if x10 = 0 then (jj (x11.1.2 161 (Int.toNat 0)) 0 x11) else
      jj (x11.1.2 161 (Int.toNat 0)) 1 x11) else f x11) else bad x11) = f x' ∧ Inv (k + 1) x' := by
  obtain ⟨x3, h1, h2, h3, h4, h5, h6⟩ := lz_ans hA hv
  obtain ⟨d', m1, m2, m4, m5⟩ := hM x3 h4 h5
  refine ⟨xD x3 d', ?_, m5⟩
  rw [bd_pos h1, gd_pos ⟨h2, h3⟩, bd_pos m1, lt_pos, b1_pos (show X12_thrown 113 (xD x3 d').1 = some (d'.1 113 0) from rfl), m2]
  rcases hc with rfl | rfl
  · have e : (xD x3 d').1.2 161 (Int.toNat 0) = v := by
      show d'.2 161 0 = v
      rw [m4, h6 rfl]
    rw [e, hj, hj]
    unfold lcmp9
    rcases hv with rfl | rfl
    · simp (disch := omega) only [gd_pos, if_pos, if_neg, lt_pos, reduceIte]
    · simp (disch := omega) only [gd_pos, if_pos, if_neg, lt_pos, reduceIte]
  · simp (disch := omega) only [gd_pos, if_pos, if_neg, lt_pos, reduceIte]

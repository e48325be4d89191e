/-! ===== holds: the step itself ===== -/
theorem fwd_du {d : DA} {o r : Nat} {n : Nat → Int} (hn : d.1 (o + 1) = n) (h : fwd d o r = none) : ∃ du : Nat → Nat, ∀ i, i < r → ptn (fun j => n (ti i j 0)) r = (du i : Nat) ∧ du i < r := by
  refine ⟨fun i => (ptn (fun j => n (ti i j 0)) r).toNat, fun i hi => ?_⟩
  have hz := (fs9_none r).mp h i hi
  have b := ptn_bd (fun j => n (ti i j 0)) r
  have e : (fun j => nn d o i j 0) = fun j => n (ti i j 0) := funext fun j => by unfold nn; rw [hn]; rfl
  have hne : ptn (fun j => n (ti i j 0)) r ≠ -1 := fun z => by
    have : noD d o r i = true := by
      unfold noD
      rw [e, z]
      simp
    rw [this] at hz
    cases hz
  constructor
  · show _ = (((ptn (fun j => n (ti i j 0)) r).toNat : Nat) : Int)
    omega
  · show (ptn (fun j => n (ti i j 0)) r).toNat < r
    omega
theorem st_24 {Ln k : Nat} {sc : Int → Int} {x : XS} (h : Inv k x) (hk : k < 512) (h0 : 0 ≤ 8 * (k : Int) ∧ 8 * (k : Int) + 8 ≤ (Ln : Int)) (hL : Ln ≤ 4096) (hsc : ScR sc) (hop : iand9 (sc (8 * (k : Int))) 31 = 24) : Step9 Ln sc k x := by
  unfold Step9
  rw [br_24 h0 hL hop]
  simp only [gd_pos (show ix (8 * (k : Int) + 1) Ln from (by omega))]
  have hu := hsc (8 * (k : Int) + 1)
  generalize sc (8 * (k : Int) + 1) = u at hu
  obtain ⟨d1, q, r, p, iv, e1, h1, e2, e3, e4, e5, e6, e7, e8, e9, e10, e11⟩ := h.find
  have h5 := e6.1
  have hp0 : 0 < p := by omega
  have w9 : ∀ c, 68 ≤ c → d1.1 c = x.1.1 c := fun c hc => e2.2 c (by omega)
  have hX1 : XD9 d1 (x.1.1 114) r p iv := e2.D e11
  obtain ⟨tb, t3, t0⟩ := h.trn e8 e9
  by_cases c2 : 0 ≤ u ∧ u < q
  · obtain ⟨ui, rfl⟩ : ∃ i : Nat, u = i := ⟨u.toNat, by omega⟩
    obtain ⟨C, hC⟩ : ∃ C : Nat → Nat → Int, C = fun i k => d1.1 62 (5 * i + k) := ⟨_, rfl⟩
    rw [← hC] at e5
    have b4 : Cb p r (C ui) := fun k hk => (e5.1 ui (by omega)).2.1 k hk
    have nb5 : Nb d1 5 := fun j hj => by show 0 ≤ d1.1 6 j ∧ d1.1 6 j ≤ 9; rw [hX1.2.1]; exact e6.2.1 j hj
    have ef := x8_fwd (d := d1) (o := 5) hX1.1 h5.2 nb5
    -- the reference up to its duals
    have refd : ∀ d : DA, (∀ c, 100 ≤ c → d.1 c = x.1.1 c) → ∃ d6, X12_findCharacter 113 (ui : Int) (wI d 113 0 0) = some (1, d6) ∧ d6.2 = d.2 ∧ (∀ c j, c ≠ 135 → (c ≠ 113 ∨ (j ≠ 45 ∧ j ≠ 46 ∧ j ≠ 47)) → d6.1 c j = (wI d 113 0 0).1 c j) ∧ RD9 d6 (x.1.1 114) (C ui) (x.1.1 119) r p ∧ X12_hasDuals 113 d6 = (fwd d1 5 r).elim (some 1) (fun _ => some 0) := fun d hd => by
      have y1 : (wI d 113 0 0).1 113 1 = r := by rw [wI_at, fu_n (by decide), hd 113 (by omega)]; exact e8
      have y4 : (wI d 113 0 0).1 113 4 = p := by rw [wI_at, fu_n (by decide), hd 113 (by omega)]; exact e9
      have y14 : (wI d 113 0 0).1 114 = x.1.1 114 := by rw [wI_ne (by decide)]; exact hd 114 (by omega)
      obtain ⟨d6, f1, f2, f3, f4, -⟩ := x12_findC (d := wI d 113 0 0) (n := x.1.1 114) (w := (ui : Int)) e6 y14 y1 y4 e7.1 e7.2 (by omega) e4 e5
      rw [if_pos c2] at f1
      have f6 : ∀ c, c ≠ 135 → c ≠ 113 → d6.1 c = d.1 c := fun c z1 z2 => funext fun j => by rw [f3 c j z1 (Or.inl z2), wI_ne z2]
      have hR6 : RD9 d6 (x.1.1 114) (C ui) (x.1.1 119) r p := ⟨by rw [f6 114 (by decide) (by decide)]; exact hd 114 (by omega), by rw [f3 113 1 (by decide) (Or.inr ⟨by decide, by decide, by decide⟩)]; exact y1, by rw [f3 113 4 (by decide) (Or.inr ⟨by decide, by decide, by decide⟩)]; exact y4, fun k hk => by rw [f4 c2 k hk, Int.toNat_natCast], fun k hk => by rw [f6 119 (by decide) (by decide), hd 119 (by omega)]⟩
      refine ⟨d6, f1, f2, f3, hR6, ?_⟩
      have nb6 : Nb d6 113 := fun j hj => by show 0 ≤ d6.1 114 j ∧ d6.1 114 j ≤ 9; rw [hR6.1]; exact e6.2.1 j hj
      have em := x12_fwd (d := d6) (o := 113) hR6.2.1 h5.2 nb6
      have ee : fwd d6 113 r = fwd d1 5 r := fwd_eq (by
        funext i j k
        show d6.1 114 _ = d1.1 6 _
        rw [hR6.1, hX1.2.1])
      rw [ee] at em
      unfold X12_hasDuals
      cases hf : fwd d1 5 r with
      | none =>
        rw [hf] at em
        have em' : X12_firstWithoutDual 113 d6 = some (-1) := em
        rw [b1_pos em', gd_pos (by omega), if_pos rfl]
        rfl
      | some i =>
        rw [hf] at em
        have := fwd_bd hf
        have em' : X12_firstWithoutDual 113 d6 = some (125 * (i : Int)) := em
        rw [b1_pos em', gd_pos (by omega), if_neg (by omega)]
        rfl
    cases hf : fwd d1 5 r with
    | some i =>
      rw [hf] at ef
      have hi := fwd_bd hf
      have ef' : X8_firstWithoutDual 5 (xD x d1).1 = some ((i : Int), duD d1 5 r i) := ef
      have eC : X11_holds (ui : Int) x = some (.inl (-1), xD (xD x d1) (duD d1 5 r i)) := by
        unfold X11_holds
        rw [xb_ok (x := x) ((x11_needC e1 e3 e4 hu).1 c2) ⟨Nat.le_refl _, Nat.le_refl _⟩, bd_pos ef', lt_pos, gd_pos (by omega), if_neg (by omega)]
      refine both3 (x1 := xD x d1) (en := 1) (f := fun x => L_law__j1788_23 Ln sc (8 * (k : Int)) x) h1 hk (x2 := xD (xD x d1) (duD d1 5 r i)) (v := -1) ⟨Or.inl ⟨rfl, eC⟩, Nat.le_refl _, Nat.le_refl _⟩ (by omega) (Kp.D (Sm.wA (fun _ => rfl))) (Or.inl rfl) (w := -1) (by omega) (fun _ => rfl) (M := fun d => X12_holds 113 ui d) (fun d hd => ?_)
      have hd' : d.1 = (duD d1 5 r i).1 := hd
      obtain ⟨d6, f1, f2, f3, hR6, f5⟩ := refd d (fun c hc => by rw [hd']; unfold duD; rw [wA_ne (by omega)]; exact w9 c (by omega))
      rw [hf] at f5
      refine ⟨d6, ?_, by rw [f3 113 0 (by decide) (Or.inr ⟨by decide, by decide, by decide⟩)]; rfl, (Sm.wI rfl).tr (findC_sm f3), by rw [f2]⟩
      have f5' : X12_hasDuals 113 d6 = some 0 := f5
      show X12_holds 113 ui d = _
      unfold X12_holds
      rw [lt_pos, gd_pos (by omega), if_neg (by omega), bd_pos f1, gd_pos (by omega), if_neg (by decide), b1_pos f5', gd_pos (by omega), if_pos rfl]
    | none =>
      rw [hf] at ef
      obtain ⟨du, hdu⟩ := fwd_du (n := x.1.1 114) (d := d1) (o := 5) hX1.2.1 hf
      generalize hd2 : duD d1 5 r r = d2 at ef
      have o2 : ∀ c, c ≠ 7 → d2.1 c = d1.1 c := fun c z => by rw [← hd2]; unfold duD; rw [wA_ne z]
      have a7 : ∀ i, i < r → d2.1 7 i = (du i : Nat) ∧ du i < r := fun i hi => by
        refine ⟨?_, (hdu i hi).2⟩
        rw [← hd2]
        unfold duD
        rw [wA_at]
        show (if i < r then ptn (fun j => nn d1 5 i j 0) r else d1.1 (5 + 2) i) = _
        rw [if_pos hi, ← (hdu i hi).1]
        refine ptn_congr (fun j hj => ?_)
        show d1.1 6 _ = _
        rw [hX1.2.1]; rfl
      have ef' : X8_firstWithoutDual 5 (xD x d1).1 = some (-1, d2) := ef
      obtain ⟨y, hy⟩ : ∃ y, y = xD (xD x d1) d2 := ⟨_, rfl⟩
      have y1 : y.1 = d2 := by rw [hy]; rfl
      obtain ⟨f, b1, b3⟩ := x10_begin (x := y) (r := r) (p := p) (ci := ui) (c := C ui) (by rw [y1, o2 5 (by decide)]; exact hX1.1) h5.2 (by omega) (by rw [y1, o2 58 (by decide)]; exact hX1.2.2.1) e7.1 e7.2 (fun k hk => by rw [y1, o2 62 (by decide), hC]) b4
      rw [y1] at b1
      generalize hD : wI (wA (wI d2 68 6 (r : Int)) 72 f) 68 7 (Dq9 p r (C ui)) = D at b1
      have Do : ∀ c, c ≠ 68 → c ≠ 72 → D.1 c = d2.1 c := fun c z1 z2 => by rw [← hD, wI_ne z1, wA_ne z2, wI_ne z1]
      have D6 : D.1 68 6 = r := by rw [← hD, wI_at, fu_n (by decide), wA_ne (by decide), wI_at, fu_s]
      have D7 : D.1 68 7 = Dq9 p r (C ui) := by rw [← hD, wI_at, fu_s]
      have D72 : D.1 72 = f := by rw [← hD, wI_ne (by decide), wA_at]
      obtain ⟨f2, g2, S, s1, s2, s3⟩ := x10_fill (d := D) (n := x.1.1 114) (r := r) (p := p) (a1 := 3) (n1 := 5) (iv := iv) (c := C ui) (t := x.1.1 119) D6 e6 (by rw [Do 6 (by decide) (by decide), o2 6 (by decide)]; exact hX1.2.1) (by rw [Do 58 (by decide) (by decide), o2 58 (by decide)]; exact hX1.2.2.1) e7.1 e7.2 e10 (by rw [Do 59 (by decide) (by decide), o2 59 (by decide)]; exact hX1.2.2.2) (fun k hk => by rw [D72]; exact b3 k hk) b4 (fun k hk => by rw [Do 3 (by decide) (by decide), o2 3 (by decide), e2.2 3 (by omega)]; exact t3 k hk) tb (by decide) (Nat.le_refl _) (by omega)
      generalize hd4 : wA (wI (wA (wA D 73 f2) 75 g2) 68 8 (Pq9 p r (C ui) (x.1.1 119))) 76 S = d4 at s1
      have o4 : ∀ c, c ≠ 68 → c ≠ 72 → c ≠ 73 → c ≠ 75 → c ≠ 76 → d4.1 c = d2.1 c := fun c z1 z2 z3 z4 z5 => by rw [← hd4, wA_ne z5, wI_ne z1, wA_ne z4, wA_ne z3, Do c z1 z2]
      have a68 : ∀ j, j ≠ 8 → d4.1 68 j = D.1 68 j := fun j z => by rw [← hd4, wA_ne (by decide), wI_at, fu_n z, wA_ne (by decide), wA_ne (by decide)]
      obtain ⟨d5, w1, w2, w3, w4, l1, l2, l3, W1, W2, W3, W4⟩ := x10_laws (d := d4) (n := x.1.1 114) (r := r) (p := p) (iv := iv) (du := du) (D := Dq9 p r (C ui)) (P := Pq9 p r (C ui) (x.1.1 119)) (S := sS9 (x.1.1 114) r p iv (C ui) (x.1.1 119)) (t := x.1.1 119) e6 (by rw [a68 6 (by decide)]; exact D6) (by rw [a68 7 (by decide)]; exact D7) (em_bd hp0 _) (by rw [← hd4, wA_ne (by decide), wI_at, fu_s]) (em_bd hp0 _) (by rw [o4 6 (by decide) (by decide) (by decide) (by decide) (by decide), o2 6 (by decide)]; exact hX1.2.1) (by rw [o4 58 (by decide) (by decide) (by decide) (by decide) (by decide), o2 58 (by decide)]; exact hX1.2.2.1) e7.1 e7.2 e10 (by rw [o4 59 (by decide) (by decide) (by decide) (by decide) (by decide), o2 59 (by decide)]; exact hX1.2.2.2) (by rw [o4 7 (by decide) (by decide) (by decide) (by decide) (by decide)]; exact a7) (by rw [← hd4, wA_at]; exact s3) (sS9_b hp0) (fun k hk => by rw [← hd4, wA_ne (by decide), wI_ne (by decide), wA_ne (by decide), wA_at]; exact s2 k hk) tb
      have c1' := W1.or
      have c2' := W2.or
      have c3' := W3.or
      have c4' := W4.or
      have hVr : inR (w1 + w2 + w3 + w4) := by omega
      have eC : X11_holds (ui : Int) x = some (.inl (w1 + w2 + w3 + w4), xD (xD (xD (xR4 (xR3 y)) D) d4) d5) := by
        unfold X11_holds
        have s1' : X10_fill 68 3 5 (xD (xR4 (xR3 y)) D).1 = some ((), d4) := s1
        have l1' : X10_lawBits 68 (xD (xD (xR4 (xR3 y)) D) d4).1 = some (w1 + w2 + w3 + w4, d5) := l1
        rw [xb_ok (x := x) ((x11_needC e1 e3 e4 hu).1 c2) ⟨Nat.le_refl _, Nat.le_refl _⟩, bd_pos ef', lt_pos, gd_pos (by omega), if_pos rfl, ← hy, xb_ok (x := y) b1 ⟨Nat.le_refl _, Nat.le_refl _⟩, gd_pos ⟨rfl, rfl⟩, bd_pos s1', lt_pos, gd_pos ⟨rfl, rfl⟩, bd_pos l1', lt_pos]
      have hSm : Sm d1 d5 := fun c j hr => by
        rw [l3 c (fun e => by subst e; cases hr) (by
          rcases Nat.lt_or_ge c 77 with y | y
          · exact Or.inl y
          · rcases Nat.lt_or_ge 80 c with y2 | y2
            · exact Or.inr y2
            · exfalso
              rcases (show c = 77 ∨ c = 78 ∨ c = 79 ∨ c = 80 by omega) with rfl | rfl | rfl | rfl <;> cases hr)]
        have c7 : c ≠ 7 := fun e => by subst e; cases hr
        have c72 : c ≠ 72 := fun e => by subst e; cases hr
        have c73 : c ≠ 73 := fun e => by subst e; cases hr
        have c75 : c ≠ 75 := fun e => by subst e; cases hr
        have c76 : c ≠ 76 := fun e => by subst e; cases hr
        by_cases e : c = 68
        · subst e
          have ej : j = 2 := by
            have : decide (j = 2) = true := hr
            simpa using this
          subst ej
          rw [a68 2 (by decide), ← hD, wI_at, fu_n (by decide), wA_ne (by decide), wI_at, fu_n (by decide), o2 68 (by decide)]
        · rw [o4 c e c72 c73 c75 c76, o2 c c7]
      have hKp : Kp (xD x d1) (xD (xD (xD (xR4 (xR3 y)) D) d4) d5) := by
        rw [hy]
        exact ⟨hSm, ⟨rfl, rfl, rfl, fun z => ⟨z.1, z.2.1, Or.inr rfl, Or.inr rfl⟩⟩, Nat.le_add_right _ _, Nat.le_add_right _ _⟩
      refine both3 (x1 := xD x d1) (en := 1) (f := fun x => L_law__j1788_23 Ln sc (8 * (k : Int)) x) h1 hk (x2 := xD (xD (xD (xR4 (xR3 y)) D) d4) d5) (v := w1 + w2 + w3 + w4) ⟨Or.inl ⟨rfl, eC⟩, by rw [hy]; exact Nat.le_refl _, by rw [hy]; exact Nat.le_refl _⟩ hVr hKp (Or.inl rfl) (w := w1 + w2 + w3 + w4) hVr (fun _ => rfl) (M := fun d => X12_holds 113 ui d) (fun d hd => ?_)
      have hd' : d.1 = d5.1 := hd
      have wq : ∀ c, 100 ≤ c → d.1 c = x.1.1 c := fun c hc => by
        rw [hd', l3 c (by omega) (by omega), o4 c (by omega) (by omega) (by omega) (by omega) (by omega), o2 c (by omega), w9 c (by omega)]
      obtain ⟨d6, f1, f2', f3, hR6, f5⟩ := refd d wq
      rw [hf] at f5
      have f5' : X12_hasDuals 113 d6 = some 1 := f5
      obtain ⟨d7, v1, v2, v3, v4, m1, m2, m3, V1, V2, V3, V4⟩ := x12_laws (d := d6) (n := x.1.1 114) (c := C ui) (t := x.1.1 119) (r := r) (p := p) (iv := iv) (du := du) (S := sS9 (x.1.1 114) r p iv (C ui) (x.1.1 119)) e6 hR6 e7.1 e7.2 e10 b4 tb hdu rfl
      have u1 := W1.u V1
      have u2 := W2.u V2
      have u3 := W3.u V3
      have u4 := W4.u V4
      have hb9 : ior9 (ior9 (ior9 v1 v2) v3) v4 = w1 + w2 + w3 + w4 := by
        rw [← u1, ← u2, ← u3, ← u4]
        exact bits9 c1' c2' c3' c4'
      rw [hb9] at m1
      refine ⟨d7, ?_, ?_, ((Sm.wI rfl).tr (findC_sm f3)).tr (fun c j hr => ?_), by rw [m2, f2']⟩
      · show X12_holds 113 ui d = _
        unfold X12_holds
        rw [lt_pos, gd_pos (by omega), if_neg (by omega), bd_pos f1, gd_pos (by omega), if_neg (by decide), b1_pos f5', gd_pos (by omega), if_neg (by decide), bd_pos m1]
      · rw [m3 113 (by omega), f3 113 0 (by decide) (Or.inr ⟨by decide, by decide, by decide⟩)]; rfl
      · rw [m3 c (by
          rcases Nat.lt_or_ge c 138 with y | y
          · exact Or.inl y
          · rcases Nat.lt_or_ge 145 c with y2 | y2
            · exact Or.inr y2
            · exfalso
              rcases (show c = 138 ∨ c = 139 ∨ c = 140 ∨ c = 141 ∨ c = 142 ∨ c = 143 ∨ c = 144 ∨ c = 145 by omega) with rfl | rfl | rfl | rfl | rfl | rfl | rfl | rfl <;> cases hr)]
  · have eC : X11_holds u x = some (.inr 1, xT (xD x d1)) := by
      unfold X11_holds
      rw [xb_er (x := x) ((x11_needC e1 e3 e4 hu).2 c2) ⟨Nat.le_succ _, Nat.le_add_right _ _⟩]
    refine both3 (x1 := xD x d1) (en := 1) (f := fun x => L_law__j1788_23 Ln sc (8 * (k : Int)) x) h1 hk (x2 := xT (xD x d1)) (v := 0) ⟨Or.inr ⟨rfl, eC⟩, Nat.le_succ _, Nat.le_add_right _ _⟩ (by omega) (Kp.T _) (Or.inr rfl) (w := 0) (by omega) (fun h9 => by omega) (M := fun d => X12_holds 113 u d) (fun d hd => ?_)
    have hd' : d.1 = d1.1 := hd
    have j17 : ∀ D : DA, X12_holds_j17 113 D = some (0, wI D 113 0 1) := fun D => rfl
    show MA (X12_holds 113 u d) d 1 0
    unfold X12_holds
    rw [lt_pos, gd_pos hu]
    by_cases c6 : u < 0
    · rw [if_pos c6, j17]
      exact ⟨_, rfl, rfl, (Sm.wI rfl).tr (Sm.wI rfl), rfl⟩
    · obtain ⟨d', f1, f2, f3, -, -⟩ := x12_findC (d := wI d 113 0 0) (n := x.1.1 114) (w := u) e6 (by rw [wI_ne (by decide), hd']; exact w9 114 (by omega)) (by rw [wI_at, fu_n (by decide), hd', w9 113 (by omega)]; exact e8) (by rw [wI_at, fu_n (by decide), hd', w9 113 (by omega)]; exact e9) e7.1 e7.2 (by omega) e4 e5
      rw [if_neg c2] at f1
      rw [if_neg c6, bd_pos f1, gd_pos (by omega), if_pos rfl, j17]
      exact ⟨_, rfl, rfl, ((Sm.wI rfl).tr (findC_sm f3)).tr (Sm.wI rfl), by show d'.2 161 = _; rw [f2]; rfl⟩

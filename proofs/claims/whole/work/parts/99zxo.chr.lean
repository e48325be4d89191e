/-! ===== character: the step ===== -/
def chC (c j : Nat) : Bool := c == 61 || c == 62
/-- other cells known of characters, all else that counts as it was -/
theorem Inv.chr {k : Nat} {x : XS} {d : DA} (h : Inv k x) (hS : ∀ c j, rel c j = true → c ≠ 61 → c ≠ 62 → d.1 c j = x.1.1 c j) (hC9 : ∀ r p : Nat, x.1.1 113 1 = r → x.1.1 113 4 = p → CI (d.1 61 0) (d.1 61 1) (d.1 62) (x.1.1 114) r p) : Inv k (xD x d) := by
  obtain ⟨⟨z1, z2, z3, z4, z5, z6, z7⟩, r, p, m, D, U, tp, kr, la, hS9, hH, hP, hK, hLi, hN, hC, hT, hV, hI⟩ := h
  have hAg : Ag9 chC (vw x.1.1) (vw d.1) := Ag9.of (fun c j hr hc => by
    unfold chC at hc
    simp only [Bool.or_eq_false_iff, beq_eq_false_iff_ne, ne_eq] at hc
    exact hS c j hr hc.1 hc.2)
  refine ⟨⟨z1, z2, z3, z4, z5, z6, z7⟩, r, p, m, D, U, tp, kr, la, ?_⟩
  have t2 : x.1.1 113 1 = r := hS9.1.2.1
  have p2 : x.1.1 113 4 = p := hS9.2.1.2.1
  have w114 : d.1 114 = x.1.1 114 := funext fun j => hS 114 j rfl (by decide) (by decide)
  refine ⟨hS9.cg hAg ⟨fun _ => rfl, fun _ => rfl, fun _ => rfl, fun _ => rfl, fun _ => rfl, fun _ => rfl, fun _ => rfl, fun _ => rfl, fun _ => rfl, fun _ => rfl, fun _ => rfl⟩ ⟨rfl, rfl, rfl, rfl, rfl, rfl, rfl, rfl⟩, hH.cg hAg ⟨fun _ => rfl, fun _ => rfl, fun _ => rfl, fun _ => rfl, fun _ => rfl, fun _ => rfl, fun _ => rfl, fun _ => rfl⟩ ⟨rfl, rfl, rfl, rfl⟩, hP.cg hAg ⟨fun _ => rfl, fun _ => rfl⟩ ⟨rfl, rfl, rfl, rfl⟩, hK.cg hAg ⟨fun _ => rfl, fun _ => rfl⟩ ⟨rfl, rfl, rfl⟩, hLi.cg hAg ⟨fun _ => rfl, fun _ => rfl, fun _ => rfl⟩ ⟨rfl, rfl, rfl, rfl, rfl, rfl, rfl⟩, hN.cg hAg (fun _ => rfl) rfl, ?_, hT.cg hAg ⟨fun _ => rfl, fun _ => rfl, fun _ => rfl, fun _ => rfl⟩ rfl, VI9.cg hV hAg ⟨rfl, rfl, rfl⟩ ⟨fun _ => rfl, fun _ => rfl⟩, hI.cg hAg ⟨fun _ => rfl, fun _ => rfl, fun _ => rfl, fun _ => rfl, fun _ => rfl, fun _ => rfl, fun _ => rfl, fun _ => rfl, fun _ => rfl, fun _ => rfl, fun _ => rfl, fun _ => rfl, fun _ => rfl⟩ ⟨rfl, rfl, rfl, rfl, rfl⟩⟩
  show CI (d.1 61 0) (d.1 61 1) (d.1 62) (d.1 114) r p
  rw [w114]
  exact hC9 r p t2 p2
/-- what the field is to the class -/
theorem Inv.ivs {k : Nat} {x : XS} (h : Inv k x) : ∃ (r p : Nat) (iv : Int → Int), TG (x.1.1 114) r ∧ (2 ≤ p ∧ p ≤ 31) ∧ x.1.1 113 1 = r ∧ x.1.1 113 4 = p ∧ IvG p iv ∧ XD9 x.1 (x.1.1 114) r p iv ∧ CI (x.1.1 61 0) (x.1.1 61 1) (x.1.1 62) (x.1.1 114) r p ∧ ((∀ j, j < 5 → x.1.1 3 j = x.1.1 119 j ∧ 1 ≤ x.1.1 119 j ∧ x.1.1 119 j < p) ∧ x.1.1 119 0 = 1) := by
  obtain ⟨-, r, p, m, D, U, tp, kr, la, ⟨⟨t1, t2, t3, t4⟩, ⟨p1, p2, p3⟩, -, ⟨s1, s2⟩, -⟩, -, -, -, -, ⟨n1, n2⟩, hC, -⟩ := h
  have n2' : ∀ j, 1 ≤ j → j < p → (1 ≤ x.1.1 59 j ∧ x.1.1 59 j < p) ∧ (p : Int) ∣ (j : Int) * x.1.1 59 j - 1 := n2
  refine ⟨r, p, fun v => x.1.1 59 v.toNat, t4, p3.bd, t2, p2, fun v h1 h2 => ?_, ⟨t1, t3, n1, fun j h1 h2 => by show _ = x.1.1 59 ((j : Int).toNat); rw [Int.toNat_natCast]⟩, hC, s1, s2⟩
  obtain ⟨a, b⟩ := n2' v.toNat (by omega) (by omega)
  refine ⟨a, ?_⟩
  have e : ((v.toNat : Nat) : Int) = v := by omega
  rw [e] at b
  exact b
/-- the class has found all characters, and all else that counts is as it was -/
theorem Inv.find {k : Nat} {x : XS} (h : Inv k x) : ∃ (d : DA) (q r p : Nat) (iv : Int → Int), X1_find 61 5 58 x.1 = some ((), d) ∧ Inv k (xD x d) ∧ FrX x.1 d ∧ d.1 61 1 = (q : Int) ∧ q ≤ 5 ∧ ChL (x.1.1 114) r p q (fun i k => d.1 62 (5 * i + k)) ∧ TG (x.1.1 114) r ∧ (2 ≤ p ∧ p ≤ 31) ∧ x.1.1 113 1 = r ∧ x.1.1 113 4 = p ∧ IvG p iv ∧ XD9 x.1 (x.1.1 114) r p iv := by
  obtain ⟨r, p, iv, a1, a2, a3, a4, a5, a6, a7, -⟩ := h.ivs
  rcases a7 with c | ⟨c, q, c1, c2, c3⟩
  · obtain ⟨d, q, e1, e2, e3, e4, e5, e6⟩ := x1_find0 a6 a1 a2.1 a2.2 a5 c
    refine ⟨d, q, r, p, iv, e1, h.chr (fun c j hr z1 z2 => ?_) (fun r' p' b1 b2 => ?_), e2, e4, e5, e6, a1, a2, a3, a4, a5, a6⟩
    · rw [e2.2 c (by
        rcases Nat.lt_or_ge c 60 with y | y
        · exact Or.inl y
        · rcases Nat.lt_or_ge 67 c with y2 | y2
          · exact Or.inr y2
          · exfalso
            rcases (show c = 60 ∨ c = 61 ∨ c = 62 ∨ c = 63 ∨ c = 64 ∨ c = 65 ∨ c = 66 ∨ c = 67 by omega) with rfl | rfl | rfl | rfl | rfl | rfl | rfl | rfl
            · cases hr
            · exact z1 rfl
            · exact z2 rfl
            · cases hr
            · cases hr
            · cases hr
            · cases hr
            · cases hr)]
    · have : r' = r := by omega
      have : p' = p := by omega
      subst r' p'
      exact Or.inr ⟨e3, q, e4, e5, e6⟩
  · refine ⟨x.1, q, r, p, iv, ?_, ?_, FrX.rf _, c1, c2, c3, a1, a2, a3, a4, a5, a6⟩
    · unfold X1_find
      rw [c, gd_pos (by omega), if_neg (by decide)]
    · exact h
/-- both sides, where what is known of characters may be new -/
theorem both3 {Z : Type} {k : Nat} {x x1 x2 : XS} {o : Option ((Int ⊕ Nat) × XS)} {en : Nat} {c v w : Int} (h : Inv k x1) (hk : k < 512) (hA : Ans o x en c v x2) (hv : inR v) (hK : Kp x1 x2) (hc : c = 0 ∨ c = 1) (hw : inR w) (hvw : c = 0 → v = w) {M : DA → Option (Int × DA)} (hM : ∀ d, d.1 = x2.1.1 → MA (M d) d c w) {f : XS → Option Z} {bad : XS → Option Z} :
    ∃ x', (bd (LX o x en) fun r7 x8 =>
      gd (xc x ≤ xc x8 ∧ xs x ≤ xs x8) <|
      bd (M x8.1) fun x10 d9 =>
      lt9 (xD x8 d9) fun x11 =>
      b1 (X12_thrown 113 x11.1) fun x12 =>
      gd (inR x12 ∧ inR r7) <|
      if x12 = r7 then (gd (inR r7) <|
      if r7 = 0 then (gd (ix 0 1) <|
      gd (inR x10) <|
      gd (inR64 (x11.1.2 161 (Int.toNat 0)) ∧ inR64 x10) <|
      gd (inR (lcmp9 (x11.1.2 161 (Int.toNat 0)) x10)) <|
      if (lcmp9 (x11.1.2 161 (Int.toNat 0)) x10) = 0 then f x11 else bad x11) else f x11) else bad x11) = f x' ∧ Inv (k + 1) x' := by
  refine both2 hA hv hc hw hvw (fun x3 e1 e2 => ?_)
  obtain ⟨d', m1, m2, m3, m4⟩ := hM x3.1 e1
  refine ⟨d', m1, m2, m4, h.mono hk (x2 := x3) ?_ m3⟩
  obtain ⟨k1, ⟨k2, k3, k4, k5⟩, k6, k7⟩ := hK
  refine ⟨fun c j hr => by rw [e1]; exact k1 c j hr, ⟨?_, ?_, ?_, fun z => ?_⟩, ?_, ?_⟩
  · show x3.2.1 = _; rw [e2]; exact k2
  · show x3.2.2.1 = _; rw [e2]; exact k3
  · have : xe x3 = xe x2 := by unfold xe; rw [e2]
    rw [this]; exact k4
  · have : xok9 x3 ↔ xok9 x2 := by unfold xok9 xrt xrb xtt xtn; rw [e2]
    exact this.mpr (k5 z)
  · have : xc x3 = xc x2 := by unfold xc; rw [e2]
    rw [this]; exact k6
  · have : xs x3 = xs x2 := by unfold xs; rw [e2]
    rw [this]; exact k7
/-- the class asks for a character -/
theorem x11_needC {x : XS} {d : DA} {q : Nat} {v : Int} (e : X1_find 61 5 58 x.1 = some ((), d)) (hq : d.1 61 1 = (q : Int)) (h5 : q ≤ 5) (hv : inR v) : (0 ≤ v ∧ v < q → X11_needCharacter v x = some (.inl (), xD x d)) ∧ (¬ (0 ≤ v ∧ v < q) → X11_needCharacter v x = some (.inr 1, xT (xD x d))) := by
  unfold X11_needCharacter
  have q2 : (xD x d).1.1 61 1 = (q : Int) := hq
  rw [bd_pos e, lt_pos, gd_pos hv, q2]
  refine ⟨fun z => ?_, fun z => ?_⟩
  · rw [if_neg (by omega), gd_pos (by omega), if_pos (by omega)]
  · by_cases c : v < 0
    · rw [if_pos c]
    · rw [if_neg c, gd_pos (by omega), if_neg (by omega)]
/-- the reference's search leaves what counts -/
theorem findC_sm {d d' : DA} (h : ∀ c j, c ≠ 135 → (c ≠ 113 ∨ (j ≠ 45 ∧ j ≠ 46 ∧ j ≠ 47)) → d'.1 c j = d.1 c j) : Sm d d' := fun c j hr => h c j (fun e => by subst e; cases hr) (by
  by_cases e : c = 113
  · subst e
    have hr' : relL.contains j = true := hr
    exact Or.inr ⟨fun e => (by subst e; cases hr'), fun e => (by subst e; cases hr'), fun e => (by subst e; cases hr')⟩
  · exact Or.inl e)
theorem st_15 {Ln k : Nat} {sc : Int → Int} {x : XS} (h : Inv k x) (hk : k < 512) (h0 : 0 ≤ 8 * (k : Int) ∧ 8 * (k : Int) + 8 ≤ (Ln : Int)) (hL : Ln ≤ 4096) (hsc : ScR sc) (hop : iand9 (sc (8 * (k : Int))) 31 = 15) : Step9 Ln sc k x := by
  unfold Step9
  rw [br_15 h0 hL hop]
  simp only [gd_pos (show ix (8 * (k : Int) + 1) Ln from (by omega)), gd_pos (show ix (8 * (k : Int) + 2) Ln from (by omega))]
  have hu := hsc (8 * (k : Int) + 1)
  have hv := hsc (8 * (k : Int) + 2)
  generalize sc (8 * (k : Int) + 1) = u at hu
  generalize sc (8 * (k : Int) + 2) = v at hv
  obtain ⟨d1, q, r, p, iv, e1, h1, e2, e3, e4, e5, e6, e7, e8, e9, e10, e11⟩ := h.find
  have h5 := e6.1
  have w : ∀ c, 68 ≤ c → d1.1 c = x.1.1 c := fun c hc => e2.2 c (by omega)
  have fc : ∀ (d : DA) (wq : Int), d.1 = d1.1 → -1 ≤ wq ∧ wq < 2147483648 → ∃ d', X12_findCharacter 113 wq (wI d 113 0 0) = some ((if 0 ≤ wq ∧ wq < q then 1 else 0), d') ∧ d'.2 = d.2 ∧ (∀ c j, c ≠ 135 → (c ≠ 113 ∨ (j ≠ 45 ∧ j ≠ 46 ∧ j ≠ 47)) → d'.1 c j = (wI d 113 0 0).1 c j) ∧ ((0 ≤ wq ∧ wq < q) → ∀ j, j < r → d'.1 135 j = d1.1 62 (5 * wq.toNat + j)) ∧ (¬ (0 ≤ wq ∧ wq < q) → d'.1 113 45 = q) := fun d wq hd hw => x12_findC (d := wI d 113 0 0) (n := x.1.1 114) e6 (by rw [wI_ne (by decide), hd]; exact w 114 (by omega)) (by rw [wI_at, fu_n (by decide), hd, w 113 (by omega)]; exact e8) (by rw [wI_at, fu_n (by decide), hd, w 113 (by omega)]; exact e9) e7.1 e7.2 hw e4 e5
  by_cases c1 : u = -1
  · subst c1
    have eC : X11_character (-1) v x = some (.inl (q : Int), xD x d1) := by
      unfold X11_character
      have q2 : (xD x d1).1.1 61 1 = (q : Int) := e3
      rw [gd_pos (by omega), if_pos rfl, bd_pos e1, lt_pos, q2]
    refine both3 (x1 := xD x d1) (en := 1) (f := fun x => L_law__j1039_23 Ln sc (8 * (k : Int)) x) h1 hk (x2 := xD x d1) (v := (q : Int)) ⟨Or.inl ⟨rfl, eC⟩, Nat.le_refl _, Nat.le_refl _⟩ (by omega) (Kp.rf _) (Or.inl rfl) (w := (q : Int)) (by omega) (fun _ => rfl) (M := fun d => X12_character 113 (-1) v d) (fun d hd => ?_)
    obtain ⟨d', f1, f2, f3, -, f5⟩ := fc d (-1) hd (by omega)
    refine ⟨d', ?_, by rw [f3 113 0 (by decide) (Or.inr ⟨by decide, by decide, by decide⟩)]; rfl, (Sm.wI rfl).tr (findC_sm f3), by rw [f2]⟩
    show X12_character 113 (-1) v d = _
    unfold X12_character
    rw [lt_pos, gd_pos (by omega), if_pos rfl, bd_pos f1, f5 (by omega)]
  · by_cases c2 : (0 ≤ u ∧ u < q) ∧ kd r v
    · obtain ⟨c2, c3⟩ := c2
      have c3' : 0 ≤ v ∧ v < (r : Int) := c3
      obtain ⟨ui, rfl⟩ : ∃ i : Nat, u = i := ⟨u.toNat, by omega⟩
      obtain ⟨vi, rfl⟩ : ∃ i : Nat, v = i := ⟨v.toNat, by omega⟩
      obtain ⟨V, hV⟩ : ∃ V : Int, V = d1.1 62 (5 * ui + vi) := ⟨_, rfl⟩
      have vb := (e5.1 ui (by omega)).2.1 vi (by omega)
      have vb' : 0 ≤ V ∧ V < p := by rw [hV]; exact vb
      have eC : X11_character (ui : Int) (vi : Int) x = some (.inl V, xD x d1) := by
        unfold X11_character
        have k5 : (xD x d1).1.1 5 0 = r := by
          show d1.1 5 0 = _
          rw [e2.2 5 (by omega)]; exact e11.1
        have ea : X1_at 61 ui vi (xD x d1).1 = some V := by
          unfold X1_at
          have ei : ((5 * (ui : Int)) + (vi : Int)).toNat = 5 * ui + vi := by omega
          rw [gd_pos (by omega), ei, hV]; rfl
        rw [gd_pos (by omega), if_neg (by omega), xb_ok (x := x) ((x11_needC e1 e3 e4 hu).1 c2) ⟨Nat.le_refl _, Nat.le_refl _⟩, xb_ok (x := xD x d1) ((x11_needKind k5 (by omega) (by omega)).1 c3) ⟨Nat.le_refl _, Nat.le_refl _⟩, b1_pos ea]
      refine both3 (x1 := xD x d1) (en := 1) (f := fun x => L_law__j1039_23 Ln sc (8 * (k : Int)) x) h1 hk (x2 := xD x d1) (v := V) ⟨Or.inl ⟨rfl, eC⟩, Nat.le_refl _, Nat.le_refl _⟩ (by omega) (Kp.rf _) (Or.inl rfl) (w := V) (by omega) (fun _ => rfl) (M := fun d => X12_character 113 ui vi d) (fun d hd => ?_)
      obtain ⟨d', f1, f2, f3, f4, -⟩ := fc d ui hd (by omega)
      refine ⟨d', ?_, by rw [f3 113 0 (by decide) (Or.inr ⟨by decide, by decide, by decide⟩)]; rfl, (Sm.wI rfl).tr (findC_sm f3), by rw [f2]⟩
      have kk := (x12_isKind (d := wI d 113 0 0) (r := r) (v := (vi : Int)) (by rw [wI_at, fu_n (by decide), show d.1 = d1.1 from hd, w 113 (by omega)]; exact e8) (by omega) (by omega)).1 c3
      rw [if_pos (by omega)] at f1
      have f4' : d'.1 (113 + 22) vi = V := by
        show d'.1 135 vi = _
        rw [f4 (by omega) vi (by omega), Int.toNat_natCast, hV]
      show X12_character 113 ui vi d = _
      unfold X12_character
      rw [lt_pos, gd_pos (by omega), if_neg (by omega), b1_pos kk, gd_pos (by omega), if_neg (by decide), gd_pos (by omega), if_neg (by omega), bd_pos f1, gd_pos (by omega), if_neg (by decide), gd_pos (by omega), Int.toNat_natCast, f4']
    · have eC : X11_character u v x = some (.inr 1, xT (xD x d1)) := by
        unfold X11_character
        rw [gd_pos (by omega), if_neg c1]
        by_cases c3 : 0 ≤ u ∧ u < q
        · have k5 : (xD x d1).1.1 5 0 = r := by
            show d1.1 5 0 = _
            rw [e2.2 5 (by omega)]; exact e11.1
          rw [xb_ok (x := x) ((x11_needC e1 e3 e4 hu).1 c3) ⟨Nat.le_refl _, Nat.le_refl _⟩, xb_er (x := xD x d1) ((x11_needKind k5 (by omega) hv).2 (fun z => c2 ⟨c3, z⟩)) ⟨Nat.le_succ _, Nat.le_add_right _ _⟩]
        · rw [xb_er (x := x) ((x11_needC e1 e3 e4 hu).2 c3) ⟨Nat.le_succ _, Nat.le_add_right _ _⟩]
      refine both3 (x1 := xD x d1) (en := 1) (f := fun x => L_law__j1039_23 Ln sc (8 * (k : Int)) x) h1 hk (x2 := xT (xD x d1)) (v := 0) ⟨Or.inr ⟨rfl, eC⟩, Nat.le_succ _, Nat.le_add_right _ _⟩ (by omega) (Kp.T _) (Or.inr rfl) (w := 0) (by omega) (fun h9 => by omega) (M := fun d => X12_character 113 u v d) (fun d hd => ?_)
      have hd' : d.1 = d1.1 := hd
      have j50 : ∀ D : DA, X12_character_j50 113 D = some (0, wI D 113 0 1) := fun D => rfl
      have kk := x12_isKind (d := wI d 113 0 0) (r := r) (v := v) (by rw [wI_at, fu_n (by decide), hd', w 113 (by omega)]; exact e8) (by omega) hv
      show MA (X12_character 113 u v d) d 1 0
      unfold X12_character
      rw [lt_pos, gd_pos (by omega), if_neg c1]
      by_cases c4 : kd r v
      · rw [b1_pos (kk.1 c4), gd_pos (by omega), if_neg (by decide), gd_pos hu]
        by_cases c5 : u < 0
        · rw [if_pos c5, j50]
          exact ⟨_, rfl, rfl, (Sm.wI rfl).tr (Sm.wI rfl), rfl⟩
        · obtain ⟨d', f1, f2, f3, -, -⟩ := fc d u hd' (by omega)
          rw [if_neg (fun z => c2 ⟨z, c4⟩)] at f1
          rw [if_neg c5, bd_pos f1, gd_pos (by omega), if_pos rfl, j50]
          exact ⟨_, rfl, rfl, ((Sm.wI rfl).tr (findC_sm f3)).tr (Sm.wI rfl), by show d'.2 161 = _; rw [f2]⟩
      · rw [b1_pos (kk.2 c4), gd_pos (by omega), if_pos rfl, j50]
        exact ⟨_, rfl, rfl, (Sm.wI rfl).tr (Sm.wI rfl), rfl⟩

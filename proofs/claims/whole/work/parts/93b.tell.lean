/-! ===== the steps of twist, tell, swap ===== -/
/-- refused on both sides -/
theorem refuse_fin {k : Nat} {x x3 : XS} (h : Inv k x) (hk : k < 512) (h3 : x3.1.1 = (wI x.1 2 7 (x.1.1 2 7 + 1)).1) (h32 : x3.2 = x.2) : ∃ d', (fun d : DA => some ((0 : Int), wI d 121 1 (d.1 121 1 + 1))) (wI x3.1 113 0 0) = some (0, d') ∧ d'.1 113 0 = 0 ∧ d'.2 161 = x3.1.2 161 ∧ Inv (k + 1) (xD x3 d') := by
  refine ⟨_, rfl, rfl, rfl, ?_⟩
  have e121 : (wI x3.1 113 0 0).1 121 1 = x.1.1 121 1 := by
    rw [wI_ne (by decide), h3, wI_ne (by decide)]
  have g : ∀ c, c ≠ 2 → c ≠ 113 → c ≠ 121 → (wI (wI x3.1 113 0 0) 121 1 ((wI x3.1 113 0 0).1 121 1 + 1)).1 c = x.1.1 c := fun c z1 z2 z3 => by rw [wI_ne z3, wI_ne z2, h3, wI_ne z1]
  have g2 : ∀ j, j ≠ 7 → (wI (wI x3.1 113 0 0) 121 1 ((wI x3.1 113 0 0).1 121 1 + 1)).1 2 j = x.1.1 2 j := fun j z => by rw [wI_ne (by decide), wI_ne (by decide), h3, wI_at, fu_n z]
  have g121 : ∀ j, j ≠ 1 → (wI (wI x3.1 113 0 0) 121 1 ((wI x3.1 113 0 0).1 121 1 + 1)).1 121 j = x.1.1 121 j := fun j z => by rw [wI_at, fu_n z, wI_ne (by decide), h3, wI_ne (by decide)]
  refine h.refuse hk (fun c j hr hc => ?_) h32 0 1 ⟨Or.inl rfl, Or.inr rfl⟩ ⟨?_, ?_⟩ ⟨?_, ?_⟩
  · show (wI (wI x3.1 113 0 0) 121 1 ((wI x3.1 113 0 0).1 121 1 + 1)).1 c j = _
    by_cases c121 : c = 121
    · subst c121; cases hc
    · by_cases c2 : c = 2
      · subst c2
        exact g2 j (fun e => by subst e; cases hc)
      · by_cases c113 : c = 113
        · subst c113
          have j0 : j ≠ 0 := fun e => by subst e; cases hr
          rw [wI_ne (by decide), wI_at, fu_n j0, h3, wI_ne (by decide)]
        · rw [g c c2 c113 c121]
  · show (wI (wI x3.1 113 0 0) 121 1 ((wI x3.1 113 0 0).1 121 1 + 1)).1 2 6 = _
    rw [g2 6 (by decide)]; omega
  · show (wI (wI x3.1 113 0 0) 121 1 ((wI x3.1 113 0 0).1 121 1 + 1)).1 121 0 = _
    rw [g121 0 (by decide)]; omega
  · show (wI (wI x3.1 113 0 0) 121 1 ((wI x3.1 113 0 0).1 121 1 + 1)).1 2 7 = _
    rw [wI_ne (by decide), wI_ne (by decide), h3, wI_at, fu_s]
  · show (wI (wI x3.1 113 0 0) 121 1 ((wI x3.1 113 0 0).1 121 1 + 1)).1 121 1 = _
    rw [wI_at, fu_s, e121]
theorem x11_refuse {d : DA} : X11_refuse 1 d = some (0, wI d 2 7 (d.1 2 7 + 1)) := rfl
/-- the throw of both sides -/
theorem throw_fin {k : Nat} {x x3 : XS} (h : Inv k x) (hk : k < 512) (h3 : x3.1.1 = x.1.1) (h32 : x3.2 = (xT x).2) : Inv (k + 1) (xD x3 (wI (wI x3.1 113 0 0) 113 0 1)) := by
  have z := h.1
  refine h.fr hk (fun c j hr => ?_) ⟨?_, ?_, ?_, ?_⟩ ⟨?_, ?_⟩
  · show (wI (wI x3.1 113 0 0) 113 0 1).1 c j = _
    have := ((Sm.wI (d := x3.1) (c := 113) (k := 0) (v := 0) rfl).tr (Sm.wI (c := 113) (k := 0) (v := 1) rfl)) c j hr
    rw [this, h3]
  · show xzc x3 = xzc x; unfold xzc; rw [h32]; rfl
  · show xzf x3 = xzf x; unfold xzf; rw [h32]; rfl
  · show xe x3 = 0; unfold xe; rw [h32]; exact z.2.2.2.1
  · show xok9 x3; unfold xok9 xrt xrb xtt xtn; rw [h32]; exact z.2.2.2.2.1
  · show xc x3 ≤ _; unfold xc; rw [h32]; show xc x + 1 ≤ xc x + 100; omega
  · show xs x3 ≤ _; unfold xs; rw [h32]; show xs x + 6 ≤ xs x + 1000; omega
theorem Inv.dn {k : Nat} {x : XS} (h : Inv k x) : ∃ D U : Nat, x.1.1 54 3 = D ∧ x.1.1 113 18 = D ∧ x.1.1 54 4 = U ∧ x.1.1 113 19 = U ∧ D + U ≤ 100 := by
  obtain ⟨-, r, p, m, D, U, tp, kr, la, -, ⟨h1, h2, h3, h4, h5, -⟩, -⟩ := h
  exact ⟨D, U, h1, h2, h3, h4, h5⟩
theorem st_18 {Ln k : Nat} {sc : Int → Int} {x : XS} (h : Inv k x) (hk : k < 512) (h0 : 0 ≤ 8 * (k : Int) ∧ 8 * (k : Int) + 8 ≤ (Ln : Int)) (hL : Ln ≤ 4096) (hsc : ScR sc) (hop : iand9 (sc (8 * (k : Int))) 31 = 18) : Step9 Ln sc k x := by
  unfold Step9
  rw [br_18 h0 hL hop]
  simp only [gd_pos (show ix (8 * (k : Int) + 1) Ln from (by omega)), gd_pos (show ix (8 * (k : Int) + 2) Ln from (by omega))]
  have ha := hsc (8 * (k : Int) + 1)
  have hv := hsc (8 * (k : Int) + 2)
  generalize sc (8 * (k : Int) + 1) = a at ha
  generalize sc (8 * (k : Int) + 2) = v at hv
  obtain ⟨r, p, m, t1, t2, t3, t4, p1, p2, p2', f1, f2, f3, s1, -⟩ := h.trs
  obtain ⟨D, U, d1, d2, d3, d4, d5⟩ := h.dn
  have hp := p1.bd
  have h5 := t4.1
  have hK := x11_needKind (x := x) (a := a) t1 h5.2 ha
  have hN := x11_isNumber (d := x.1) (v := v) p2' hp.2 hv
  have m0 : xc x ≤ xc x ∧ xs x ≤ xs x := ⟨Nat.le_refl _, Nat.le_refl _⟩
  by_cases ck : kd r a
  · by_cases ok : 1 ≤ a ∧ 1 ≤ v ∧ v < p
    · have ck' := ck
      unfold kd at ck'
      obtain ⟨A, e1, hA⟩ := x11_remember (d := x.1) (D := D) (q := a.toNat) (v := v) d1 (by omega) 3 756 (Or.inr (Or.inr ⟨rfl, rfl, by omega⟩))
      rw [show ((a.toNat : Nat) : Int) = a by omega] at e1 hA
      refine bothZ (f := fun x => L_law__j1352_23 Ln sc (8 * (k : Int)) x) (bad := fun x => some (.inr (.inr (0, x)))) (jj := fun s0 s1 x => L_law__j1346_23 Ln sc (8 * (k : Int)) s0 s1 x) (M := fun d => X12_twist 113 a v d) (x2 := xD x (wI A 3 a.toNat v)) (v := 1) ⟨Or.inl ⟨rfl, ?_⟩, Nat.le_refl _, Nat.le_refl _⟩ (Or.inr rfl) (Or.inl rfl) (fun x3 h3 h32 => ?_) (fun _ _ _ => rfl)
      · unfold X11_twist
        rw [xb_ok (hK.1 ck) m0]
        simp (disch := omega) only [gd_pos, if_pos, if_neg, lt_pos, reduceIte]
        rw [b1_pos (hN.1 (by omega))]
        simp (disch := omega) only [gd_pos, if_pos, if_neg, lt_pos, reduceIte]
        rw [bd_pos e1, gd_pos (Or.inr rfl)]
      · have h3' : x3.1.1 = (wI A 3 a.toNat v).1 := h3
        have q113 : ∀ j, x3.1.1 113 j = x.1.1 113 j := fun j => by rw [h3', wI_ne (by decide), hA.2.1 113 (by decide) (by decide) (by decide) (by decide)]
        have q119 : x3.1.1 119 = x.1.1 119 := by rw [h3', wI_ne (by decide), hA.2.1 119 (by decide) (by decide) (by decide) (by decide)]
        obtain ⟨C, e2, hC⟩ := x12_telling (d := wI x3.1 113 0 0) (D := D) (q := a.toNat) (v := v) (by show x3.1.1 113 18 = D; rw [q113]; exact d2) (by omega) 119 2 (Or.inr (Or.inr ⟨rfl, rfl, by omega⟩))
        rw [show ((a.toNat : Nat) : Int) = a by omega] at e2 hC
        have hr0 : (wI x3.1 113 0 0).1 113 1 = r := by show x3.1.1 113 1 = r; rw [q113]; exact t2
        have hp0 : (wI x3.1 113 0 0).1 113 4 = p := by show x3.1.1 113 4 = p; rw [q113]; exact p2
        refine ⟨wI C 119 a.toNat v, ?_, ?_, ?_, tell_fin h hk d1 hA h3' h32 hC (Or.inl ⟨rfl, rfl⟩) (by decide) (fun r' p' z1 z2 z3 z4 z5 z6 => ⟨?_, fun g g1 g2 g3 => ?_⟩)⟩
        · show X12_twist 113 a v x3.1 = _
          unfold X12_twist X12_twist_j44
          rw [lt_pos, b1_pos ((x12_isKind hr0 h5.2 ha).1 ck), gd_pos (by omega), if_neg (by decide), gd_pos ha, if_neg (by omega), hp0, b1_pos ((x12_isIn (d := wI x3.1 113 0 0) (v := v) (a := 1) (b := (p : Int) - 1) hv (by omega) (by omega)).1 (by omega)), gd_pos (by omega), if_neg (by decide), bd_pos e2, gd_pos (by omega)]
        · show (wI C 119 a.toNat v).1 113 0 = 0
          rw [wI_ne (by decide), hC.2.2.1 0 (by decide) (by decide)]; rfl
        · show C.2 161 = _
          rw [hC.1]; rfl
        · have ep : p' = p := by omega
          subst ep
          right; right; left
          have s := s1 a.toNat (by omega)
          have e119 : (wI x3.1 113 0 0).1 119 a.toNat = x.1.1 119 a.toNat := by show x3.1.1 119 _ = _; rw [q119]
          rw [e119]
          exact ⟨s.1, rfl, rfl, s.2, by omega, a.toNat, by omega, by omega, by omega⟩
        · have ep : p' = p := by omega
          subst ep
          refine ⟨?_, fun j hj => ?_, ?_⟩
          · unfold TrC at z5 ⊢
            rw [g1 114 (by decide) (by decide) (by decide), g1 117 (by decide) (by decide) (by decide), g1 118 (by decide) (by decide) (by decide), g1 12 (by decide) (by decide) (by decide), g1 13 (by decide) (by decide) (by decide)]
            exact z5
          · have s := s1 j hj
            rw [g2, g3, fu_app, fu_app]
            by_cases c : j = a.toNat
            · rw [if_pos c, if_pos c]; omega
            · rw [if_neg c, if_neg c]; exact s
          · rw [g3, fu_n (by omega)]; exact z6.2
    · refine bothZ (f := fun x => L_law__j1352_23 Ln sc (8 * (k : Int)) x) (bad := fun x => some (.inr (.inr (0, x)))) (jj := fun s0 s1 x => L_law__j1346_23 Ln sc (8 * (k : Int)) s0 s1 x) (M := fun d => X12_twist 113 a v d) (x2 := xD x (wI x.1 2 7 (x.1.1 2 7 + 1))) (v := 0) ⟨Or.inl ⟨rfl, ?_⟩, Nat.le_refl _, Nat.le_refl _⟩ (Or.inl rfl) (Or.inl rfl) (fun x3 h3 h32 => ?_) (fun _ _ _ => rfl)
      · have j21 : X11_twist_j21 x = some (.inl 0, xD x (wI x.1 2 7 (x.1.1 2 7 + 1))) := rfl
        unfold X11_twist
        unfold kd at ck
        rw [xb_ok (hK.1 ck) m0]
        by_cases c0 : a = 0
        · simp (disch := omega) only [gd_pos, if_pos, if_neg, lt_pos, reduceIte, j21]
        · by_cases c1 : v = 0
          · simp (disch := omega) only [gd_pos, if_pos, if_neg, lt_pos, reduceIte, j21]
          · rw [b1_pos (hN.2 (by omega))]
            simp (disch := omega) only [gd_pos, if_pos, if_neg, lt_pos, reduceIte, j21]
      · obtain ⟨d', g1, g2, g3, g4⟩ := refuse_fin h hk h3 h32
        refine ⟨d', ?_, g2, g3, g4⟩
        have q113 : ∀ j, x3.1.1 113 j = x.1.1 113 j := fun j => by rw [h3]; exact congrFun (wI_ne (by decide)) j
        have hr0 : (wI x3.1 113 0 0).1 113 1 = r := by show x3.1.1 113 1 = r; rw [q113]; exact t2
        have hp0 : (wI x3.1 113 0 0).1 113 4 = p := by show x3.1.1 113 4 = p; rw [q113]; exact p2
        rw [← g1]
        show X12_twist 113 a v x3.1 = _
        unfold X12_twist X12_twist_j43 X12_twist_j44
        rw [lt_pos, b1_pos ((x12_isKind hr0 h5.2 ha).1 ck), gd_pos (by omega), if_neg (by decide), gd_pos ha, hp0]
        unfold kd at ck
        by_cases c0 : a ≤ 0
        · rw [if_pos c0, bd_pos x12_refused, gd_pos (by omega)]
        · rw [if_neg c0, b1_pos ((x12_isIn (d := wI x3.1 113 0 0) (v := v) (a := 1) (b := (p : Int) - 1) hv (by omega) (by omega)).2 (by omega)), gd_pos (by omega), if_pos rfl, bd_pos x12_refused, gd_pos (by omega)]
  · refine bothZ (f := fun x => L_law__j1352_23 Ln sc (8 * (k : Int)) x) (bad := fun x => some (.inr (.inr (0, x)))) (jj := fun s0 s1 x => L_law__j1346_23 Ln sc (8 * (k : Int)) s0 s1 x) (M := fun d => X12_twist 113 a v d) (x2 := xT x) (v := 0) ⟨Or.inr ⟨rfl, ?_⟩, Nat.le_succ _, Nat.le_add_right _ _⟩ (Or.inl rfl) (Or.inr rfl) (fun x3 h3 h32 => ?_) (fun _ _ _ => rfl)
    · unfold X11_twist
      rw [xb_er (hK.2 ck) ⟨Nat.le_succ _, Nat.le_add_right _ _⟩]
    · have hr0 : (wI x3.1 113 0 0).1 113 1 = r := by show x3.1.1 113 1 = r; rw [h3]; exact t2
      refine ⟨wI (wI x3.1 113 0 0) 113 0 1, ?_, rfl, rfl, throw_fin h hk h3 h32⟩
      show X12_twist 113 a v x3.1 = _
      unfold X12_twist
      rw [lt_pos, b1_pos ((x12_isKind hr0 h5.2 ha).2 ck), gd_pos (by omega), if_pos rfl, lt_pos]

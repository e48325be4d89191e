/-! ===== swap ===== -/
theorem st_17 {Ln k : Nat} {sc : Int → Int} {x : XS} (h : Inv k x) (hk : k < 512) (h0 : 0 ≤ 8 * (k : Int) ∧ 8 * (k : Int) + 8 ≤ (Ln : Int)) (hL : Ln ≤ 4096) (hsc : ScR sc) (hop : iand9 (sc (8 * (k : Int))) 31 = 17) : Step9 Ln sc k x := by
  unfold Step9
  rw [br_17 h0 hL hop]
  simp only [gd_pos (show ix (8 * (k : Int) + 1) Ln from (by omega)), gd_pos (show ix (8 * (k : Int) + 2) Ln from (by omega)), gd_pos (show ix (8 * (k : Int) + 3) Ln from (by omega)), gd_pos (show ix (8 * (k : Int) + 4) Ln from (by omega))]
  have ha := hsc (8 * (k : Int) + 1)
  have hb := hsc (8 * (k : Int) + 2)
  have hc := hsc (8 * (k : Int) + 3)
  have hv := hsc (8 * (k : Int) + 4)
  generalize sc (8 * (k : Int) + 1) = a at ha
  generalize sc (8 * (k : Int) + 2) = b at hb
  generalize sc (8 * (k : Int) + 3) = c at hc
  generalize sc (8 * (k : Int) + 4) = v at hv
  obtain ⟨r, p, m, t1, t2, t3, t4, p1, p2, p2', f1, f2, f3, s1, -⟩ := h.trs
  obtain ⟨D, U, d1, d2, d3, d4, d5⟩ := h.dn
  have hp := p1.bd
  have h5 := t4.1
  have hn5 : Nb x.1 5 := fun j hj => by show 0 ≤ x.1.1 6 j ∧ x.1.1 6 j ≤ 9; rw [t3]; exact t4.2.1 j hj
  have hK1 := x11_needKinds (x := x) (a := a) (b := b) (c := c) t1 h5.2 ha hb hc
  have hN := x11_isNumber (d := x.1) (v := v) p2' hp.2 hv
  have hTr9 := x6_hasTrees (d := x.1) t1 h5.2 hn5
  rw [t3] at hTr9
  have m0 : xc x ≤ xc x ∧ xs x ≤ xs x := ⟨Nat.le_refl _, Nat.le_refl _⟩
  have mT : xc x ≤ xc (xT x) ∧ xs x ≤ xs (xT x) := ⟨Nat.le_succ _, Nat.le_add_right _ _⟩
  by_cases ck : kd r a ∧ kd r b ∧ kd r c
  · have ck' := ck
    unfold kd at ck'
    have eAt : X8_at 5 a b c x.1 = some (x.1.1 114 (ti a.toNat b.toNat c.toNat)) := by
      have e := x8_at (d := x.1) (o := 5) (i := a.toNat) (j := b.toNat) (k := c.toNat) (by omega) (by omega) (by omega)
      rw [show ((a.toNat : Nat) : Int) = a by omega, show ((b.toNat : Nat) : Int) = b by omega, show ((c.toNat : Nat) : Int) = c by omega] at e
      rw [e, ← t3]; rfl
    have bn := t4.2.1 (ti a.toNat b.toNat c.toNat) (ti_lt (by omega) (by omega) (by omega))
    have hM : ∀ y : DA, y.1 113 = x.1.1 113 → y.1 114 = x.1.1 114 → (wI y 113 0 0).1 113 1 = r ∧ (wI y 113 0 0).1 113 4 = p ∧ TG ((wI y 113 0 0).1 114) r ∧ X12_of 113 a b c (wI y 113 0 0) = some (x.1.1 114 (ti a.toNat b.toNat c.toNat)) := fun y y1 y2 => by
      refine ⟨?_, ?_, ?_, ?_⟩
      · show y.1 113 1 = r; rw [y1]; exact t2
      · show y.1 113 4 = p; rw [y1]; exact p2
      · show TG (y.1 114) r; rw [y2]; exact t4
      · have e := x12_of (d := wI y 113 0 0) (o := 113) (i := a.toNat) (j := b.toNat) (k := c.toNat) (by omega) (by omega) (by omega)
        rw [show ((a.toNat : Nat) : Int) = a by omega, show ((b.toNat : Nat) : Int) = b by omega, show ((c.toNat : Nat) : Int) = c by omega] at e
        rw [e, ← y2]; rfl
    by_cases ok : hTr (x.1.1 114) r ∧ x.1.1 114 (ti a.toNat b.toNat c.toNat) = 1 ∧ 0 < a ∧ 0 < b ∧ 0 ≤ v ∧ v < p
    · obtain ⟨o1, o2, o3, o4, o6, o7⟩ := ok
      have h3r := o1.1
      have hq : thr a.toNat b.toNat c.toNat < 27 := by unfold thr; omega
      have es : 729 + (9 * a + 3 * b + c) = (729 : Int) + ((thr a.toNat b.toNat c.toNat : Nat) : Int) := by unfold thr; omega
      obtain ⟨A, e1, hA⟩ := x11_remember (d := x.1) (D := D) (q := thr a.toNat b.toNat c.toNat) (v := v) d1 (by omega) 13 729 (Or.inr (Or.inl ⟨rfl, rfl, hq⟩))
      refine bothZ (f := fun x => L_law__j1277_23 Ln sc (8 * (k : Int)) x) (bad := fun x => some (.inr (.inr (0, x)))) (jj := fun s0 s1 x => L_law__j1271_23 Ln sc (8 * (k : Int)) s0 s1 x) (M := fun y => X12_swap 113 a b c v y) (x2 := xD x (wI A 13 (thr a.toNat b.toNat c.toNat) v)) (v := 1) ⟨Or.inl ⟨rfl, ?_⟩, Nat.le_refl _, Nat.le_refl _⟩ (Or.inr rfl) (Or.inl rfl) (fun x3 h3 h32 => ?_) (fun _ _ _ => rfl)
      · unfold X11_swap X9_swapPlace
        rw [xb_ok (hK1.1 ck) m0, b1_pos (hTr9.1 o1), b1_pos (hN.1 ⟨o6, o7⟩), b1_pos eAt, b1_pos rfl, es]
        simp (disch := omega) only [gd_pos, if_pos, if_neg, lt_pos, reduceIte]
        rw [bd_pos e1, gd_pos (Or.inr rfl)]
      · have h3' : x3.1.1 = (wI A 13 (thr a.toNat b.toNat c.toNat) v).1 := h3
        have qq : ∀ i, i ≠ 13 → i ≠ 54 → i ≠ 55 → i ≠ 56 → i ≠ 57 → x3.1.1 i = x.1.1 i := fun i z1 z2 z3 z4 z5 => by rw [h3', wI_ne z1, hA.2.1 i z2 z3 z4 z5]
        obtain ⟨hr0, hp0, hT0, hOf⟩ := hM x3.1 (qq 113 (by decide) (by decide) (by decide) (by decide) (by decide)) (qq 114 (by decide) (by decide) (by decide) (by decide) (by decide))
        have e114 : (wI x3.1 113 0 0).1 114 = x.1.1 114 := qq 114 (by decide) (by decide) (by decide) (by decide) (by decide)
        obtain ⟨C, e2, hC⟩ := x12_telling (d := wI x3.1 113 0 0) (D := D) (q := thr a.toNat b.toNat c.toNat) (v := v) (by show x3.1.1 113 18 = D; rw [qq 113 (by decide) (by decide) (by decide) (by decide) (by decide)]; exact d2) (by omega) 118 1 (Or.inr (Or.inl ⟨rfl, rfl, hq⟩))
        have hH := x12_hasTrees (d := wI x3.1 113 0 0) hr0 hT0
        rw [e114] at hH
        refine ⟨wI C 118 (thr a.toNat b.toNat c.toNat) v, ?_, ?_, ?_, tell_fin h hk d1 hA h3' h32 hC (Or.inr (Or.inr ⟨rfl, rfl⟩)) (by decide) (fun r' p' z1 z2 z3 z4 z5 z6 => ⟨?_, fun g9 g1 g2 g3 => ?_⟩)⟩
        · show X12_swap 113 a b c v x3.1 = _
          unfold X12_swap X12_swap_j68 X12_swap_j92
          rw [lt_pos, b1_pos ((x12_areKinds hr0 h5.2 ha hb hc).1 ck), gd_pos (by omega), if_neg (by decide), b1_pos (hH.1 o1), gd_pos (by omega), if_neg (by decide), b1_pos hOf, gd_pos (by omega), if_pos o2, gd_pos ha, if_neg (by omega), gd_pos hb, if_neg (by omega), hp0, b1_pos ((x12_isIn (d := wI x3.1 113 0 0) (v := v) (a := 0) (b := (p : Int) - 1) hv (by omega) (by omega)).1 (by omega)), gd_pos (by omega), if_neg (by decide), gd_pos (by omega), if_neg (by decide), show (a * 3 + b) * 3 + c = ((thr a.toNat b.toNat c.toNat : Nat) : Int) by unfold thr; omega, bd_pos e2, gd_pos (Or.inr rfl)]
        · show (wI C 118 _ v).1 113 0 = 0
          rw [wI_ne (by decide), hC.2.2.1 0 (by decide) (by decide)]; rfl
        · show C.2 161 = _
          rw [hC.1]; rfl
        · have ep : p' = p := by omega
          have er : r' = r := by omega
          subst ep; subst er
          right; left
          have e118 : (wI x3.1 113 0 0).1 118 (thr a.toNat b.toNat c.toNat) = x.1.1 118 (thr a.toNat b.toNat c.toNat) := by
            show x3.1.1 118 _ = _
            rw [qq 118 (by decide) (by decide) (by decide) (by decide) (by decide)]
          have fg := ((f1 o1).2 a.toNat b.toNat c.toNat (by omega) (by omega) (by omega)).1 o2
          rw [if_neg (by omega)] at fg
          rw [e118]
          exact ⟨fg, rfl, rfl, o1.1, o1.2, f3 _ hq, ⟨o6, o7⟩, a.toNat, b.toNat, c.toNat, by omega, by omega, o2, rfl, by omega⟩
        · have ep : p' = p := by omega
          have er : r' = r := by omega
          subst ep; subst er
          obtain ⟨y1, y2, y3⟩ := z5
          refine ⟨⟨fun w1 w2 => ?_, fun q hq9 => ?_, fun q hq9 => ?_⟩, ?_⟩
          · rw [g1 114 (by decide) (by decide) (by decide)] at w2 ⊢
            rw [g2, g3, g1 117 (by decide) (by decide) (by decide), g1 12 (by decide) (by decide) (by decide)]
            exact ⟨(y1 w1 w2).1, (y1 w1 w2).2.put w1 (by omega) (by omega) o2⟩
          · rw [g1 117 (by decide) (by decide) (by decide)]; exact y2 q hq9
          · rw [g3, fu_app]
            by_cases cq : q = thr a.toNat b.toNat c.toNat
            · rw [if_pos cq]; exact ⟨o6, o7⟩
            · rw [if_neg cq]; exact y3 q hq9
          · unfold TuC at z6 ⊢
            rw [g1 3 (by decide) (by decide) (by decide), g1 119 (by decide) (by decide) (by decide)]
            exact z6
    · refine bothZ (f := fun x => L_law__j1277_23 Ln sc (8 * (k : Int)) x) (bad := fun x => some (.inr (.inr (0, x)))) (jj := fun s0 s1 x => L_law__j1271_23 Ln sc (8 * (k : Int)) s0 s1 x) (M := fun y => X12_swap 113 a b c v y) (x2 := xD x (wI x.1 2 7 (x.1.1 2 7 + 1))) (v := 0) ⟨Or.inl ⟨rfl, ?_⟩, Nat.le_refl _, Nat.le_refl _⟩ (Or.inl rfl) (Or.inl rfl) (fun x3 h3 h32 => ?_) (fun _ _ _ => rfl)
      · have j51 : X11_swap_j51 x = some (.inl 0, xD x (wI x.1 2 7 (x.1.1 2 7 + 1))) := rfl
        unfold X11_swap
        rw [xb_ok (hK1.1 ck) m0]
        by_cases c1 : hTr (x.1.1 114) r
        · rw [b1_pos (hTr9.1 c1)]
          by_cases c2 : 0 ≤ v ∧ v < p
          · rw [b1_pos (hN.1 c2)]
            by_cases c3 : a = 0
            · simp (disch := omega) only [gd_pos, if_pos, if_neg, lt_pos, reduceIte, j51]
            · by_cases c4 : b = 0
              · simp (disch := omega) only [gd_pos, if_pos, if_neg, lt_pos, reduceIte, j51]
              · have c5 : ¬ x.1.1 114 (ti a.toNat b.toNat c.toNat) = 1 := fun z => ok ⟨c1, z, by omega, by omega, c2⟩
                rw [b1_pos eAt]
                simp (disch := omega) only [gd_pos, if_pos, if_neg, lt_pos, reduceIte, j51]
          · rw [b1_pos (hN.2 c2)]
            simp (disch := omega) only [gd_pos, if_pos, if_neg, lt_pos, reduceIte, j51]
        · rw [b1_pos (hTr9.2 c1)]
          simp (disch := omega) only [gd_pos, if_pos, if_neg, lt_pos, reduceIte, j51]
      · obtain ⟨d', g1, g2, g3, g4⟩ := refuse_fin h hk h3 h32
        refine ⟨d', ?_, g2, g3, g4⟩
        have qq : ∀ i, i ≠ 2 → x3.1.1 i = x.1.1 i := fun i z1 => by rw [h3]; exact wI_ne z1
        obtain ⟨hr0, hp0, hT0, hOf⟩ := hM x3.1 (qq 113 (by decide)) (qq 114 (by decide))
        have e114 : (wI x3.1 113 0 0).1 114 = x.1.1 114 := qq 114 (by decide)
        have hH := x12_hasTrees (d := wI x3.1 113 0 0) hr0 hT0
        rw [e114] at hH
        have j67 : X12_swap_j67 113 a b c v (wI x3.1 113 0 0) = some (0, wI (wI x3.1 113 0 0) 121 1 ((wI x3.1 113 0 0).1 121 1 + 1)) := by
          unfold X12_swap_j67 X12_swap_j68 X12_swap_j92
          rw [gd_pos (by omega), if_pos rfl, bd_pos x12_refused, gd_pos (Or.inl rfl)]
        rw [← g1]
        show X12_swap 113 a b c v x3.1 = _
        unfold X12_swap
        rw [lt_pos, b1_pos ((x12_areKinds hr0 h5.2 ha hb hc).1 ck), gd_pos (by omega), if_neg (by decide), hp0]
        by_cases c1 : hTr (x.1.1 114) r
        · rw [b1_pos (hH.1 c1), b1_pos hOf]
          by_cases c2 : x.1.1 114 (ti a.toNat b.toNat c.toNat) = 1
          · by_cases c3 : a ≤ 0
            · simp (disch := omega) only [gd_pos, if_pos, if_neg, lt_pos, reduceIte, j67]
            · by_cases c4 : b ≤ 0
              · simp (disch := omega) only [gd_pos, if_pos, if_neg, lt_pos, reduceIte, j67]
              · rw [b1_pos ((x12_isIn (d := wI x3.1 113 0 0) (v := v) (a := 0) (b := (p : Int) - 1) hv (by omega) (by omega)).2 (fun z => ok ⟨c1, c2, by omega, by omega, by omega, by omega⟩))]
                simp (disch := omega) only [gd_pos, if_pos, if_neg, lt_pos, reduceIte, j67]
          · simp (disch := omega) only [gd_pos, if_pos, if_neg, lt_pos, reduceIte, j67]
        · rw [b1_pos (hH.2 c1)]
          simp (disch := omega) only [gd_pos, if_pos, if_neg, lt_pos, reduceIte, j67]
  · refine bothZ (f := fun x => L_law__j1277_23 Ln sc (8 * (k : Int)) x) (bad := fun x => some (.inr (.inr (0, x)))) (jj := fun s0 s1 x => L_law__j1271_23 Ln sc (8 * (k : Int)) s0 s1 x) (M := fun y => X12_swap 113 a b c v y) (x2 := xT x) (v := 0) ⟨Or.inr ⟨rfl, ?_⟩, Nat.le_succ _, Nat.le_add_right _ _⟩ (Or.inl rfl) (Or.inr rfl) (fun x3 h3 h32 => ?_) (fun _ _ _ => rfl)
    · unfold X11_swap
      rw [xb_er (hK1.2 ck) mT]
    · have hr0 : (wI x3.1 113 0 0).1 113 1 = r := by show x3.1.1 113 1 = r; rw [h3]; exact t2
      refine ⟨wI (wI x3.1 113 0 0) 113 0 1, ?_, rfl, rfl, throw_fin h hk h3 h32⟩
      show X12_swap 113 a b c v x3.1 = _
      unfold X12_swap
      rw [lt_pos, b1_pos ((x12_areKinds hr0 h5.2 ha hb hc).2 ck), gd_pos (by omega), if_pos rfl, lt_pos]

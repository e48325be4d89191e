/-! ===== tell ===== -/
theorem FG.put {n f f9 : Nat → Int} {r a b c d e g : Nat} {v : Int} (h : FG n f f9 r) (h3 : r ≤ 3) (hk : a < r ∧ b < r ∧ c < r ∧ d < r ∧ e < r ∧ g < r) (hz : a ≠ 0 ∧ b ≠ 0 ∧ c ≠ 0) (hT : isTr n a b c d e g) : FG n (fu f (six a b c d e g) v) (fu f9 (six a b c d e g) v) r := by
  intro a' b' c' d' e' g' ha hb hc hd he hg
  obtain ⟨h1, h2⟩ := h a' b' c' d' e' g' ha hb hc hd he hg
  by_cases q : six a' b' c' d' e' g' = six a b c d e g
  · have : a' = a ∧ b' = b ∧ c' = c ∧ d' = d ∧ e' = e ∧ g' = g := by unfold six at q; omega
    obtain ⟨rfl, rfl, rfl, rfl, rfl, rfl⟩ := this
    rw [fu_s, fu_s]
    refine ⟨fun _ => ?_, fun z => absurd hT z⟩
    rw [if_neg (by omega)]
  · rw [fu_n q, fu_n q]
    exact ⟨h1, h2⟩
theorem RG.put {n s s9 : Nat → Int} {r a b c : Nat} {v : Int} (h : RG n s s9 r) (h3 : r ≤ 3) (hk : a < r ∧ b < r ∧ c < r) (hz : a ≠ 0 ∧ b ≠ 0) (hT : n (ti a b c) = 1) : RG n (fu s (thr a b c) v) (fu s9 (thr a b c) v) r := by
  intro a' b' c' ha hb hc
  obtain ⟨h1, h2⟩ := h a' b' c' ha hb hc
  by_cases q : thr a' b' c' = thr a b c
  · have : a' = a ∧ b' = b ∧ c' = c := by unfold thr at q; omega
    obtain ⟨rfl, rfl, rfl⟩ := this
    rw [fu_s, fu_s]
    refine ⟨fun _ => ?_, fun z => absurd hT z⟩
    rw [if_neg (by omega)]
  · rw [fu_n q, fu_n q]
    exact ⟨h1, h2⟩
theorem st_16 {Ln k : Nat} {sc : Int → Int} {x : XS} (h : Inv k x) (hk : k < 512) (h0 : 0 ≤ 8 * (k : Int) ∧ 8 * (k : Int) + 8 ≤ (Ln : Int)) (hL : Ln ≤ 4096) (hsc : ScR sc) (hop : iand9 (sc (8 * (k : Int))) 31 = 16) : Step9 Ln sc k x := by
  unfold Step9
  rw [br_16 h0 hL hop]
  simp only [gd_pos (show ix (8 * (k : Int) + 1) Ln from (by omega)), gd_pos (show ix (8 * (k : Int) + 2) Ln from (by omega)), gd_pos (show ix (8 * (k : Int) + 3) Ln from (by omega)), gd_pos (show ix (8 * (k : Int) + 4) Ln from (by omega)), gd_pos (show ix (8 * (k : Int) + 5) Ln from (by omega)), gd_pos (show ix (8 * (k : Int) + 6) Ln from (by omega)), gd_pos (show ix (8 * (k : Int) + 7) Ln from (by omega))]
  have ha := hsc (8 * (k : Int) + 1)
  have hb := hsc (8 * (k : Int) + 2)
  have hc := hsc (8 * (k : Int) + 3)
  have hd := hsc (8 * (k : Int) + 4)
  have he := hsc (8 * (k : Int) + 5)
  have hg := hsc (8 * (k : Int) + 6)
  have hv := hsc (8 * (k : Int) + 7)
  generalize sc (8 * (k : Int) + 1) = a at ha
  generalize sc (8 * (k : Int) + 2) = b at hb
  generalize sc (8 * (k : Int) + 3) = c at hc
  generalize sc (8 * (k : Int) + 4) = d at hd
  generalize sc (8 * (k : Int) + 5) = e at he
  generalize sc (8 * (k : Int) + 6) = g at hg
  generalize sc (8 * (k : Int) + 7) = v at hv
  obtain ⟨r, p, m, t1, t2, t3, t4, p1, p2, p2', f1, f2, f3, s1, -⟩ := h.trs
  obtain ⟨D, U, d1, d2, d3, d4, d5⟩ := h.dn
  have hp := p1.bd
  have h5 := t4.1
  have hn5 : Nb x.1 5 := fun j hj => by show 0 ≤ x.1.1 6 j ∧ x.1.1 6 j ≤ 9; rw [t3]; exact t4.2.1 j hj
  have hK1 := x11_needKinds (x := x) (a := a) (b := b) (c := c) t1 h5.2 ha hb hc
  have hK2 := x11_needKinds (x := x) (a := d) (b := e) (c := g) t1 h5.2 hd he hg
  have hN := x11_isNumber (d := x.1) (v := v) p2' hp.2 hv
  have hTr9 := x6_hasTrees (d := x.1) t1 h5.2 hn5
  rw [t3] at hTr9
  have m0 : xc x ≤ xc x ∧ xs x ≤ xs x := ⟨Nat.le_refl _, Nat.le_refl _⟩
  have mT : xc x ≤ xc (xT x) ∧ xs x ≤ xs (xT x) := ⟨Nat.le_succ _, Nat.le_add_right _ _⟩
  by_cases ck : (kd r a ∧ kd r b ∧ kd r c) ∧ kd r d ∧ kd r e ∧ kd r g
  · have ck' := ck
    unfold kd at ck'
    have hT5 := x9_isThere (d := x.1) (o := 11) (a := a.toNat) (b := b.toNat) (c := c.toNat) (e := d.toNat) (g := e.toNat) (h := g.toNat) hn5 (by omega) (by omega) (by omega) (by omega) (by omega) (by omega)
    rw [show ((a.toNat : Nat) : Int) = a by omega, show ((b.toNat : Nat) : Int) = b by omega, show ((c.toNat : Nat) : Int) = c by omega, show ((d.toNat : Nat) : Int) = d by omega, show ((e.toNat : Nat) : Int) = e by omega, show ((g.toNat : Nat) : Int) = g by omega, show x.1.1 (11 - 6 + 1) = x.1.1 114 from t3] at hT5
    have hM : ∀ y : DA, y.1 113 = x.1.1 113 → y.1 114 = x.1.1 114 → (wI y 113 0 0).1 113 1 = r ∧ (wI y 113 0 0).1 113 4 = p ∧ TG ((wI y 113 0 0).1 114) r := fun y y1 y2 => by
      refine ⟨?_, ?_, ?_⟩
      · show y.1 113 1 = r; rw [y1]; exact t2
      · show y.1 113 4 = p; rw [y1]; exact p2
      · show TG (y.1 114) r; rw [y2]; exact t4
    by_cases ok : hTr (x.1.1 114) r ∧ isTr (x.1.1 114) a.toNat b.toNat c.toNat d.toNat e.toNat g.toNat ∧ 0 < a ∧ 0 < b ∧ 0 < c ∧ 0 ≤ v ∧ v < p
    · obtain ⟨o1, o2, o3, o4, o5, o6, o7⟩ := ok
      have h3r := o1.1
      have hq : six a.toNat b.toNat c.toNat d.toNat e.toNat g.toNat < 729 := by unfold six; omega
      have es : 243 * a + 81 * b + 27 * c + 9 * d + 3 * e + g = (0 : Int) + ((six a.toNat b.toNat c.toNat d.toNat e.toNat g.toNat : Nat) : Int) := by unfold six; omega
      obtain ⟨A, e1, hA⟩ := x11_remember (d := x.1) (D := D) (q := six a.toNat b.toNat c.toNat d.toNat e.toNat g.toNat) (v := v) d1 (by omega) 12 0 (Or.inl ⟨rfl, rfl, hq⟩)
      refine bothZ (f := fun x => L_law__j1178_23 Ln sc (8 * (k : Int)) x) (bad := fun x => some (.inr (.inr (0, x)))) (jj := fun s0 s1 x => L_law__j1172_23 Ln sc (8 * (k : Int)) s0 s1 x) (M := fun y => X12_tell 113 a b c d e g v y) (x2 := xD x (wI A 12 (six a.toNat b.toNat c.toNat d.toNat e.toNat g.toNat) v)) (v := 1) ⟨Or.inl ⟨rfl, ?_⟩, Nat.le_refl _, Nat.le_refl _⟩ (Or.inr rfl) (Or.inl rfl) (fun x3 h3 h32 => ?_) (fun _ _ _ => rfl)
      · unfold X11_tell X9_place
        rw [xb_ok (hK1.1 ck.1) m0, xb_ok (hK2.1 ck.2) m0, b1_pos (hTr9.1 o1), b1_pos (hN.1 ⟨o6, o7⟩), b1_pos (hT5.1 o2), b1_pos rfl, es]
        simp (disch := omega) only [gd_pos, if_pos, if_neg, lt_pos, reduceIte]
        rw [bd_pos e1, gd_pos (Or.inr rfl)]
      · have h3' : x3.1.1 = (wI A 12 (six a.toNat b.toNat c.toNat d.toNat e.toNat g.toNat) v).1 := h3
        have qq : ∀ i, i ≠ 12 → i ≠ 54 → i ≠ 55 → i ≠ 56 → i ≠ 57 → x3.1.1 i = x.1.1 i := fun i z1 z2 z3 z4 z5 => by rw [h3', wI_ne z1, hA.2.1 i z2 z3 z4 z5]
        obtain ⟨hr0, hp0, hT0⟩ := hM x3.1 (qq 113 (by decide) (by decide) (by decide) (by decide) (by decide)) (qq 114 (by decide) (by decide) (by decide) (by decide) (by decide))
        have e114 : (wI x3.1 113 0 0).1 114 = x.1.1 114 := qq 114 (by decide) (by decide) (by decide) (by decide) (by decide)
        obtain ⟨C, e2, hC⟩ := x12_telling (d := wI x3.1 113 0 0) (D := D) (q := six a.toNat b.toNat c.toNat d.toNat e.toNat g.toNat) (v := v) (by show x3.1.1 113 18 = D; rw [qq 113 (by decide) (by decide) (by decide) (by decide) (by decide)]; exact d2) (by omega) 117 0 (Or.inl ⟨rfl, rfl, hq⟩)
        have hT12 := x12_isTree (d := wI x3.1 113 0 0) (a := a.toNat) (b := b.toNat) (c := c.toNat) (e := d.toNat) (g := e.toNat) (h := g.toNat) (fun j hj => hT0.2.1 j hj) (by omega) (by omega) (by omega) (by omega) (by omega) (by omega)
        rw [show ((a.toNat : Nat) : Int) = a by omega, show ((b.toNat : Nat) : Int) = b by omega, show ((c.toNat : Nat) : Int) = c by omega, show ((d.toNat : Nat) : Int) = d by omega, show ((e.toNat : Nat) : Int) = e by omega, show ((g.toNat : Nat) : Int) = g by omega, e114] at hT12
        have hH := x12_hasTrees (d := wI x3.1 113 0 0) hr0 hT0
        rw [e114] at hH
        refine ⟨wI C 117 (six a.toNat b.toNat c.toNat d.toNat e.toNat g.toNat) v, ?_, ?_, ?_, tell_fin h hk d1 hA h3' h32 hC (Or.inr (Or.inl ⟨rfl, rfl⟩)) (by decide) (fun r' p' z1 z2 z3 z4 z5 z6 => ⟨?_, fun g9 g1 g2 g3 => ?_⟩)⟩
        · show X12_tell 113 a b c d e g v x3.1 = _
          unfold X12_tell X12_tell_j90 X12_tell_j117 X12_six
          rw [lt_pos, b1_pos ((x12_areKinds hr0 h5.2 ha hb hc).1 ck.1), gd_pos (by omega), if_neg (by decide), b1_pos ((x12_areKinds hr0 h5.2 hd he hg).1 ck.2), gd_pos (by omega), if_neg (by decide), b1_pos (hH.1 o1), gd_pos (by omega), if_neg (by decide), b1_pos (hT12.1 o2), gd_pos (by omega), if_neg (by decide), gd_pos ha, if_neg (by omega), gd_pos hb, if_neg (by omega), gd_pos hc, if_neg (by omega), hp0, b1_pos ((x12_isIn (d := wI x3.1 113 0 0) (v := v) (a := 0) (b := (p : Int) - 1) hv (by omega) (by omega)).1 (by omega)), gd_pos (by omega), if_neg (by decide), gd_pos (by omega), if_neg (by decide), b1_pos rfl, show ((((a * 3 + b) * 3 + c) * 3 + d) * 3 + e) * 3 + g = ((six a.toNat b.toNat c.toNat d.toNat e.toNat g.toNat : Nat) : Int) by unfold six; omega, bd_pos e2, gd_pos (Or.inr rfl)]
        · show (wI C 117 _ v).1 113 0 = 0
          rw [wI_ne (by decide), hC.2.2.1 0 (by decide) (by decide)]; rfl
        · show C.2 161 = _
          rw [hC.1]; rfl
        · have ep : p' = p := by omega
          have er : r' = r := by omega
          subst ep; subst er
          left
          have e117 : (wI x3.1 113 0 0).1 117 (six a.toNat b.toNat c.toNat d.toNat e.toNat g.toNat) = x.1.1 117 (six a.toNat b.toNat c.toNat d.toNat e.toNat g.toNat) := by
            show x3.1.1 117 _ = _
            rw [qq 117 (by decide) (by decide) (by decide) (by decide) (by decide)]
          have fg := ((f1 o1).1 a.toNat b.toNat c.toNat d.toNat e.toNat g.toNat (by omega) (by omega) (by omega) (by omega) (by omega) (by omega)).1 o2
          rw [if_neg (by omega)] at fg
          rw [e117]
          exact ⟨fg, rfl, rfl, o1.1, o1.2, f2 _ hq, ⟨o6, o7⟩, a.toNat, b.toNat, c.toNat, d.toNat, e.toNat, g.toNat, by omega, by omega, o2, rfl, by omega⟩
        · have ep : p' = p := by omega
          have er : r' = r := by omega
          subst ep; subst er
          obtain ⟨y1, y2, y3⟩ := z5
          refine ⟨⟨fun w1 w2 => ?_, fun q hq9 => ?_, fun q hq9 => ?_⟩, ?_⟩
          · rw [g1 114 (by decide) (by decide) (by decide)] at w2 ⊢
            rw [g2, g3, g1 118 (by decide) (by decide) (by decide), g1 13 (by decide) (by decide) (by decide)]
            exact ⟨(y1 w1 w2).1.put w1 (by omega) (by omega) o2, (y1 w1 w2).2⟩
          · rw [g3, fu_app]
            by_cases cq : q = six a.toNat b.toNat c.toNat d.toNat e.toNat g.toNat
            · rw [if_pos cq]; exact ⟨o6, o7⟩
            · rw [if_neg cq]; exact y2 q hq9
          · rw [g1 118 (by decide) (by decide) (by decide)]; exact y3 q hq9
          · unfold TuC at z6 ⊢
            rw [g1 3 (by decide) (by decide) (by decide), g1 119 (by decide) (by decide) (by decide)]
            exact z6
    · refine bothZ (f := fun x => L_law__j1178_23 Ln sc (8 * (k : Int)) x) (bad := fun x => some (.inr (.inr (0, x)))) (jj := fun s0 s1 x => L_law__j1172_23 Ln sc (8 * (k : Int)) s0 s1 x) (M := fun y => X12_tell 113 a b c d e g v y) (x2 := xD x (wI x.1 2 7 (x.1.1 2 7 + 1))) (v := 0) ⟨Or.inl ⟨rfl, ?_⟩, Nat.le_refl _, Nat.le_refl _⟩ (Or.inl rfl) (Or.inl rfl) (fun x3 h3 h32 => ?_) (fun _ _ _ => rfl)
      · have j70 : X11_tell_j70 x = some (.inl 0, xD x (wI x.1 2 7 (x.1.1 2 7 + 1))) := rfl
        unfold X11_tell
        rw [xb_ok (hK1.1 ck.1) m0, xb_ok (hK2.1 ck.2) m0]
        by_cases c1 : hTr (x.1.1 114) r
        · rw [b1_pos (hTr9.1 c1)]
          by_cases c2 : 0 ≤ v ∧ v < p
          · rw [b1_pos (hN.1 c2)]
            by_cases c3 : a = 0
            · simp (disch := omega) only [gd_pos, if_pos, if_neg, lt_pos, reduceIte, j70]
            · by_cases c4 : b = 0
              · simp (disch := omega) only [gd_pos, if_pos, if_neg, lt_pos, reduceIte, j70]
              · by_cases c5 : c = 0
                · simp (disch := omega) only [gd_pos, if_pos, if_neg, lt_pos, reduceIte, j70]
                · rw [b1_pos (hT5.2 (fun z => ok ⟨c1, z, by omega, by omega, by omega, c2⟩))]
                  simp (disch := omega) only [gd_pos, if_pos, if_neg, lt_pos, reduceIte, j70]
          · rw [b1_pos (hN.2 c2)]
            simp (disch := omega) only [gd_pos, if_pos, if_neg, lt_pos, reduceIte, j70]
        · rw [b1_pos (hTr9.2 c1)]
          simp (disch := omega) only [gd_pos, if_pos, if_neg, lt_pos, reduceIte, j70]
      · obtain ⟨d', g1, g2, g3, g4⟩ := refuse_fin h hk h3 h32
        refine ⟨d', ?_, g2, g3, g4⟩
        have qq : ∀ i, i ≠ 2 → x3.1.1 i = x.1.1 i := fun i z1 => by rw [h3]; exact wI_ne z1
        obtain ⟨hr0, hp0, hT0⟩ := hM x3.1 (qq 113 (by decide)) (qq 114 (by decide))
        have e114 : (wI x3.1 113 0 0).1 114 = x.1.1 114 := qq 114 (by decide)
        have hT12 := x12_isTree (d := wI x3.1 113 0 0) (a := a.toNat) (b := b.toNat) (c := c.toNat) (e := d.toNat) (g := e.toNat) (h := g.toNat) (fun j hj => hT0.2.1 j hj) (by omega) (by omega) (by omega) (by omega) (by omega) (by omega)
        rw [show ((a.toNat : Nat) : Int) = a by omega, show ((b.toNat : Nat) : Int) = b by omega, show ((c.toNat : Nat) : Int) = c by omega, show ((d.toNat : Nat) : Int) = d by omega, show ((e.toNat : Nat) : Int) = e by omega, show ((g.toNat : Nat) : Int) = g by omega, e114] at hT12
        have hH := x12_hasTrees (d := wI x3.1 113 0 0) hr0 hT0
        rw [e114] at hH
        have j89 : X12_tell_j89 113 a b c d e g v (wI x3.1 113 0 0) = some (0, wI (wI x3.1 113 0 0) 121 1 ((wI x3.1 113 0 0).1 121 1 + 1)) := by
          unfold X12_tell_j89 X12_tell_j90 X12_tell_j117
          rw [gd_pos (by omega), if_pos rfl, bd_pos x12_refused, gd_pos (Or.inl rfl)]
        rw [← g1]
        show X12_tell 113 a b c d e g v x3.1 = _
        unfold X12_tell
        rw [lt_pos, b1_pos ((x12_areKinds hr0 h5.2 ha hb hc).1 ck.1), gd_pos (by omega), if_neg (by decide), b1_pos ((x12_areKinds hr0 h5.2 hd he hg).1 ck.2), gd_pos (by omega), if_neg (by decide), hp0]
        by_cases c1 : hTr (x.1.1 114) r
        · rw [b1_pos (hH.1 c1)]
          by_cases c2 : isTr (x.1.1 114) a.toNat b.toNat c.toNat d.toNat e.toNat g.toNat
          · rw [b1_pos (hT12.1 c2)]
            by_cases c3 : a ≤ 0
            · simp (disch := omega) only [gd_pos, if_pos, if_neg, lt_pos, reduceIte, j89]
            · by_cases c4 : b ≤ 0
              · simp (disch := omega) only [gd_pos, if_pos, if_neg, lt_pos, reduceIte, j89]
              · by_cases c5 : c ≤ 0
                · simp (disch := omega) only [gd_pos, if_pos, if_neg, lt_pos, reduceIte, j89]
                · rw [b1_pos ((x12_isIn (d := wI x3.1 113 0 0) (v := v) (a := 0) (b := (p : Int) - 1) hv (by omega) (by omega)).2 (fun z => ok ⟨c1, c2, by omega, by omega, by omega, by omega, by omega⟩))]
                  simp (disch := omega) only [gd_pos, if_pos, if_neg, lt_pos, reduceIte, j89]
          · rw [b1_pos (hT12.2 c2)]
            simp (disch := omega) only [gd_pos, if_pos, if_neg, lt_pos, reduceIte, j89]
        · rw [b1_pos (hH.2 c1)]
          simp (disch := omega) only [gd_pos, if_pos, if_neg, lt_pos, reduceIte, j89]
  · refine bothZ (f := fun x => L_law__j1178_23 Ln sc (8 * (k : Int)) x) (bad := fun x => some (.inr (.inr (0, x)))) (jj := fun s0 s1 x => L_law__j1172_23 Ln sc (8 * (k : Int)) s0 s1 x) (M := fun y => X12_tell 113 a b c d e g v y) (x2 := xT x) (v := 0) ⟨Or.inr ⟨rfl, ?_⟩, Nat.le_succ _, Nat.le_add_right _ _⟩ (Or.inl rfl) (Or.inr rfl) (fun x3 h3 h32 => ?_) (fun _ _ _ => rfl)
    · unfold X11_tell
      by_cases c1 : kd r a ∧ kd r b ∧ kd r c
      · rw [xb_ok (hK1.1 c1) m0, xb_er (hK2.2 (fun z => ck ⟨c1, z⟩)) mT]
      · rw [xb_er (hK1.2 c1) mT]
    · have hr0 : (wI x3.1 113 0 0).1 113 1 = r := by show x3.1.1 113 1 = r; rw [h3]; exact t2
      refine ⟨wI (wI x3.1 113 0 0) 113 0 1, ?_, rfl, rfl, throw_fin h hk h3 h32⟩
      show X12_tell 113 a b c d e g v x3.1 = _
      unfold X12_tell
      by_cases c1 : kd r a ∧ kd r b ∧ kd r c
      · rw [lt_pos, b1_pos ((x12_areKinds hr0 h5.2 ha hb hc).1 c1), gd_pos (by omega), if_neg (by decide), b1_pos ((x12_areKinds hr0 h5.2 hd he hg).2 (fun z => ck ⟨c1, z⟩)), gd_pos (by omega), if_pos rfl, lt_pos]
      · rw [lt_pos, b1_pos ((x12_areKinds hr0 h5.2 ha hb hc).2 c1), gd_pos (by omega), if_pos rfl, lt_pos]

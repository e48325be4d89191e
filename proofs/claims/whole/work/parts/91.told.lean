/-! ===== told ===== -/
def hTr (n : Nat → Int) (r : Nat) : Prop := r ≤ 3 ∧ fre n r
theorem x6_hasTrees {d : DA} {r : Nat} (hr : d.1 5 0 = r) (h5 : r ≤ 5) (hn : Nb d 5) : (hTr (d.1 6) r → X6_hasTrees 2 d = some 1) ∧ (¬ hTr (d.1 6) r → X6_hasTrees 2 d = some 0) := by
  have hf : (fre (d.1 6) r → X8_isFree (2 + 3) d = some 1) ∧ (¬ fre (d.1 6) r → X8_isFree (2 + 3) d = some 0) := x8_free (o := 5) hr h5 hn
  have hr' : d.1 (2 + 3) 0 = r := hr
  unfold X6_hasTrees X6_hasTrees_j25 hTr
  rw [hr']
  refine ⟨fun h => ?_, fun h => ?_⟩
  · rw [b1_pos (hf.1 h.2)]
    have := h.1
    simp (disch := omega) only [gd_pos, if_pos, if_neg, lt_pos, reduceIte]
  · by_cases c : r ≤ 3
    · rw [b1_pos (hf.2 (fun z => h ⟨c, z⟩))]
      simp (disch := omega) only [gd_pos, if_pos, if_neg, lt_pos, reduceIte]
    · simp (disch := omega) only [gd_pos, if_pos, if_neg, lt_pos, reduceIte]
theorem x12_hasTrees {d : DA} {r : Nat} (hr : d.1 113 1 = r) (hT : TG (d.1 114) r) : (hTr (d.1 114) r → X12_hasTrees 113 d = some 1) ∧ (¬ hTr (d.1 114) r → X12_hasTrees 113 d = some 0) := by
  have hf := x12_free (d := d) hT
  have h5 := hT.1
  unfold X12_hasTrees X12_hasTrees_j19 hTr
  rw [hr]
  refine ⟨fun h => ?_, fun h => ?_⟩
  · rw [b1_pos (hf.1 h.2)]
    have := h.1
    simp (disch := omega) only [gd_pos, if_pos, if_neg, lt_pos, reduceIte]
  · by_cases c : r ≤ 3
    · rw [b1_pos (hf.2 (fun z => h ⟨c, z⟩))]
      simp (disch := omega) only [gd_pos, if_pos, if_neg, lt_pos, reduceIte]
    · simp (disch := omega) only [gd_pos, if_pos, if_neg, lt_pos, reduceIte]
theorem x12_areKinds {d : DA} {r : Nat} {a b c : Int} (hr : d.1 113 1 = r) (h5 : r ≤ 5) (ha : inR a) (hb : inR b) (hc : inR c) : (kd r a ∧ kd r b ∧ kd r c → X12_areKinds 113 a b c d = some 1) ∧ (¬ (kd r a ∧ kd r b ∧ kd r c) → X12_areKinds 113 a b c d = some 0) := by
  have h1 := x12_isKind (v := a) hr h5 ha
  have h2 := x12_isKind (v := b) hr h5 hb
  have h3 := x12_isKind (v := c) hr h5 hc
  unfold X12_areKinds X12_areKinds_j28
  refine ⟨fun h => ?_, fun h => ?_⟩
  · rw [b1_pos (h1.1 h.1), b1_pos (h2.1 h.2.1), b1_pos (h3.1 h.2.2)]
    simp (disch := omega) only [gd_pos, if_pos, if_neg, lt_pos, reduceIte]
  · by_cases c1 : kd r a
    · rw [b1_pos (h1.1 c1)]
      by_cases c2 : kd r b
      · rw [b1_pos (h2.1 c2)]
        by_cases c3 : kd r c
        · exact absurd ⟨c1, c2, c3⟩ h
        · rw [b1_pos (h3.2 c3)]
          simp (disch := omega) only [gd_pos, if_pos, if_neg, lt_pos, reduceIte]
      · rw [b1_pos (h2.2 c2)]
        simp (disch := omega) only [gd_pos, if_pos, if_neg, lt_pos, reduceIte]
    · rw [b1_pos (h1.2 c1)]
      simp (disch := omega) only [gd_pos, if_pos, if_neg, lt_pos, reduceIte]
theorem x12_isTree {d : DA} {a b c e g h : Nat} (hn : Nb d 113) (ha : a < 5) (hb : b < 5) (hc : c < 5) (he : e < 5) (hg : g < 5) (hh : h < 5) : (isTr (d.1 114) a b c e g h → X12_isTree 113 a b c e g h d = some 1) ∧ (¬ isTr (d.1 114) a b c e g h → X12_isTree 113 a b c e g h d = some 0) := by
  have h1 := hn.at ha hb hg
  have h2 := hn.at hg hc he
  have h3 := hn.at hb hc hh
  have h4 := hn.at ha hh he
  have e1 : d.1 114 (ti a b g) = nn d 113 a b g := rfl
  have e2 : d.1 114 (ti g c e) = nn d 113 g c e := rfl
  have e3 : d.1 114 (ti b c h) = nn d 113 b c h := rfl
  have e4 : d.1 114 (ti a h e) = nn d 113 a h e := rfl
  unfold X12_isTree X12_isTree_j54 isTr
  rw [b1_pos (x12_of ha hb hg), b1_pos (x12_of hg hc he), b1_pos (x12_of hb hc hh), b1_pos (x12_of ha hh he), e1, e2, e3, e4]
  refine ⟨fun z => ?_, fun z => ?_⟩
  · obtain ⟨z1, z2, z3, z4⟩ := z
    simp (disch := omega) only [gd_pos, if_pos, if_neg, lt_pos, reduceIte]
  · by_cases c1 : nn d 113 a b g = 1
    · by_cases c2 : nn d 113 g c e = 1
      · by_cases c3 : nn d 113 b c h = 1
        · have c4 : ¬ nn d 113 a h e = 1 := fun c4 => z ⟨c1, c2, c3, c4⟩
          simp (disch := omega) only [gd_pos, if_pos, if_neg, lt_pos, reduceIte]
        · simp (disch := omega) only [gd_pos, if_pos, if_neg, lt_pos, reduceIte]
      · simp (disch := omega) only [gd_pos, if_pos, if_neg, lt_pos, reduceIte]
    · simp (disch := omega) only [gd_pos, if_pos, if_neg, lt_pos, reduceIte]
theorem x12_treeOf {d : DA} {a b c e g h : Nat} (hn : Nb d 113) (ha : a < 3) (hb : b < 3) (hc : c < 3) (he : e < 3) (hg : g < 3) (hh : h < 3) : (isTr (d.1 114) a b c e g h → X12_treeOf 113 a b c e g h d = some (if a = 0 ∨ b = 0 ∨ c = 0 then 1 else d.1 117 (six a b c e g h))) ∧ (¬ isTr (d.1 114) a b c e g h → X12_treeOf 113 a b c e g h d = some 0) := by
  have hT := x12_isTree (d := d) (a := a) (b := b) (c := c) (e := e) (g := g) (h := h) hn (by omega) (by omega) (by omega) (by omega) (by omega) (by omega)
  unfold X12_treeOf X12_treeOf_j30 X12_six
  refine ⟨fun z => ?_, fun z => ?_⟩
  · rw [b1_pos (hT.1 z), b1_pos rfl, show ((((((((((a : Int) * 3) + (b : Int)) * 3) + (c : Int)) * 3) + (e : Int)) * 3 + (g : Int)) * 3) + (h : Int)).toNat = six a b c e g h by unfold six; omega]
    by_cases c0 : a = 0
    · simp (disch := omega) only [gd_pos, if_pos, if_neg, lt_pos, reduceIte]
    · by_cases c1 : b = 0
      · simp (disch := omega) only [gd_pos, if_pos, if_neg, lt_pos, reduceIte]
      · by_cases c2 : c = 0
        · simp (disch := omega) only [gd_pos, if_pos, if_neg, lt_pos, reduceIte]
        · simp (disch := omega) only [gd_pos, if_pos, if_neg, lt_pos, reduceIte]
  · rw [b1_pos (hT.2 z)]
    simp (disch := omega) only [gd_pos, if_pos, if_neg, lt_pos, reduceIte]
theorem x12_swapOf {d : DA} {a b c : Nat} (hn : Nb d 113) (ha : a < 3) (hb : b < 3) (hc : c < 3) : (d.1 114 (ti a b c) = 1 → X12_swapOf 113 a b c d = some (if a = 0 ∨ b = 0 then 1 else d.1 118 (thr a b c))) ∧ (d.1 114 (ti a b c) ≠ 1 → X12_swapOf 113 a b c d = some 0) := by
  have h1 := hn.at (i := a) (j := b) (k := c) (by omega) (by omega) (by omega)
  have e1 : d.1 114 (ti a b c) = nn d 113 a b c := rfl
  unfold X12_swapOf X12_swapOf_j21
  rw [b1_pos (x12_of (show a < 5 by omega) (show b < 5 by omega) (show c < 5 by omega)), e1, show (((a : Int) * 3 + (b : Int)) * 3 + (c : Int)).toNat = thr a b c by unfold thr; omega]
  refine ⟨fun z => ?_, fun z => ?_⟩
  · by_cases c0 : a = 0
    · simp (disch := omega) only [gd_pos, if_pos, if_neg, lt_pos, reduceIte]
    · by_cases c1 : b = 0
      · simp (disch := omega) only [gd_pos, if_pos, if_neg, lt_pos, reduceIte]
      · simp (disch := omega) only [gd_pos, if_pos, if_neg, lt_pos, reduceIte]
  · simp (disch := omega) only [gd_pos, if_pos, if_neg, lt_pos, reduceIte]
/-- what a call finds of the told -/
theorem Inv.trs {k : Nat} {x : XS} (h : Inv k x) : ∃ r p m : Nat, x.1.1 5 0 = r ∧ x.1.1 113 1 = r ∧ x.1.1 6 = x.1.1 114 ∧ TG (x.1.1 114) r ∧ PG p ∧ x.1.1 113 4 = p ∧ x.1.1 58 0 = p ∧ (hTr (x.1.1 114) r → FG (x.1.1 114) (x.1.1 117) (x.1.1 12) r ∧ RG (x.1.1 114) (x.1.1 118) (x.1.1 13) r) ∧ (∀ q, q < 729 → 0 ≤ x.1.1 117 q ∧ x.1.1 117 q < p) ∧ (∀ q, q < 27 → 0 ≤ x.1.1 118 q ∧ x.1.1 118 q < p) ∧ (∀ j, j < 5 → x.1.1 3 j = x.1.1 119 j ∧ 1 ≤ x.1.1 119 j ∧ x.1.1 119 j < p) ∧ x.1.1 2 4 = m ∧ x.1.1 113 13 = m ∧ m ≤ 12 := by
  obtain ⟨-, r, p, m, D, U, tp, kr, la, ⟨⟨t1, t2, t3, t4⟩, ⟨p1, p2, p3⟩, ⟨f1, f2, f3⟩, ⟨s1, s2⟩, ⟨l1, l2, l3, -⟩, -⟩, -, -, -, -, ⟨n1, -⟩, -⟩ := h
  exact ⟨r, p, m, t1, t2, t3, t4, p3, p2, n1, fun z => f1 z.1 z.2, f2, f3, s1, l1, l2, l3⟩
theorem FG.bd {n f f9 : Nat → Int} {r p a b c d e g : Nat} (h : FG n f f9 r) (hp : 2 ≤ p) (hf : ∀ q, q < 729 → 0 ≤ f q ∧ f q < p) (h3 : r ≤ 3) (ha : a < r) (hb : b < r) (hc : c < r) (hd : d < r) (he : e < r) (hg : g < r) : 0 ≤ f9 (six a b c d e g) ∧ f9 (six a b c d e g) < p := by
  obtain ⟨h1, h2⟩ := h a b c d e g ha hb hc hd he hg
  have hq : six a b c d e g < 729 := by unfold six; omega
  by_cases z : n (ti a b e) = 1 ∧ n (ti e c d) = 1 ∧ n (ti b c g) = 1 ∧ n (ti a g d) = 1
  · rw [h1 z]
    by_cases cu : a = 0 ∨ b = 0 ∨ c = 0
    · rw [if_pos cu]; omega
    · rw [if_neg cu]; exact hf _ hq
  · rw [h2 z]; omega
theorem RG.bd {n s s9 : Nat → Int} {r p a b c : Nat} (h : RG n s s9 r) (hp : 2 ≤ p) (hs : ∀ q, q < 27 → 0 ≤ s q ∧ s q < p) (h3 : r ≤ 3) (ha : a < r) (hb : b < r) (hc : c < r) : 0 ≤ s9 (thr a b c) ∧ s9 (thr a b c) < p := by
  obtain ⟨h1, h2⟩ := h a b c ha hb hc
  have hq : thr a b c < 27 := by unfold thr; omega
  by_cases z : n (ti a b c) = 1
  · rw [h1 z]
    by_cases cu : a = 0 ∨ b = 0
    · rw [if_pos cu]; omega
    · rw [if_neg cu]; exact hs _ hq
  · rw [h2 z]; omega
def toC (n : Nat → Int) (r : Nat) (w a b c d e g : Int) : Prop := (w = 2 ∧ kd r a) ∨ (w = 1 ∧ hTr n r ∧ kd r a ∧ kd r b ∧ kd r c) ∨ (w = 0 ∧ hTr n r ∧ (kd r a ∧ kd r b ∧ kd r c) ∧ kd r d ∧ kd r e ∧ kd r g)
def toV (x : XS) (w a b c d e g : Int) : Int := if w = 2 then x.1.1 3 a.toNat else if w = 1 then x.1.1 13 (thr a.toNat b.toNat c.toNat) else x.1.1 12 (six a.toNat b.toNat c.toNat d.toNat e.toNat g.toNat)
theorem c_told {x : XS} {w a b c d e g : Int} (hw : inR w) (ha : inR a) (hb : inR b) (hc : inR c) (hd : inR d) (he : inR e) (hg : inR g) {r : Nat} (hr : x.1.1 5 0 = r) (h5 : r ≤ 5) (hn : Nb x.1 5) : (toC (x.1.1 6) r w a b c d e g → X11_told w a b c d e g x = some (.inl (toV x w a b c d e g), x)) ∧ (¬ toC (x.1.1 6) r w a b c d e g → X11_told w a b c d e g x = some (.inr 1, xT x)) := by
  have hT := x6_hasTrees (d := x.1) hr h5 hn
  have k1 := x11_needKind (x := x) (a := a) hr h5 ha
  have k3 := x11_needKinds (x := x) (a := a) (b := b) (c := c) hr h5 ha hb hc
  have k6 := x11_needKinds (x := x) (a := d) (b := e) (c := g) hr h5 hd he hg
  have m0 : xc x ≤ xc x ∧ xs x ≤ xs x := ⟨Nat.le_refl _, Nat.le_refl _⟩
  have mT : xc x ≤ xc (xT x) ∧ xs x ≤ xs (xT x) := ⟨Nat.le_succ _, Nat.le_add_right _ _⟩
  unfold X11_told
  rw [gd_pos hw]
  refine ⟨fun z => ?_, fun z => ?_⟩
  · unfold toC at z
    unfold toV
    rcases z with ⟨rfl, z⟩ | ⟨rfl, z1, z⟩ | ⟨rfl, z1, z⟩
    · simp (disch := omega) only [gd_pos, if_pos, if_neg, lt_pos, reduceIte]
      unfold X11_told_j35 X6_valueAt
      have z' := z
      unfold kd at z'
      rw [xb_ok (k1.1 z) m0, show (756 + a - 756).toNat = a.toNat by omega]
      simp (disch := omega) only [gd_pos, if_pos, if_neg, lt_pos, reduceIte]
      rfl
    · simp (disch := omega) only [gd_pos, if_pos, if_neg, lt_pos, reduceIte]
      rw [b1_pos (hT.1 z1)]
      simp (disch := omega) only [gd_pos, if_pos, if_neg, lt_pos, reduceIte]
      unfold X11_told_j35 X6_valueAt X9_swapPlace
      have z' := z
      unfold kd at z'
      have z3 := z1.1
      rw [xb_ok (k1.1 z.1) m0]
      simp (disch := omega) only [gd_pos, if_pos, if_neg, lt_pos, reduceIte]
      rw [xb_ok (k3.1 z) m0, b1_pos rfl, show (729 + (9 * a + 3 * b + c) - 729).toNat = thr a.toNat b.toNat c.toNat by unfold thr; omega]
      simp (disch := omega) only [gd_pos, if_pos, if_neg, lt_pos, reduceIte]
      rfl
    · simp (disch := omega) only [gd_pos, if_pos, if_neg, lt_pos, reduceIte]
      rw [b1_pos (hT.1 z1)]
      simp (disch := omega) only [gd_pos, if_pos, if_neg, lt_pos, reduceIte]
      unfold X11_told_j35 X6_valueAt X9_place
      have z' := z
      unfold kd at z'
      have z3 := z1.1
      rw [xb_ok (k1.1 z.1.1) m0]
      simp (disch := omega) only [gd_pos, if_pos, if_neg, lt_pos, reduceIte]
      rw [xb_ok (k3.1 z.1) m0]
      rw [xb_ok (k6.1 z.2) m0, b1_pos rfl, show (243 * a + 81 * b + 27 * c + 9 * d + 3 * e + g).toNat = six a.toNat b.toNat c.toNat d.toNat e.toNat g.toNat by unfold six; omega]
      simp (disch := omega) only [gd_pos, if_pos, if_neg, lt_pos, reduceIte]
      rfl
  · by_cases w0 : w < 0
    · simp (disch := omega) only [gd_pos, if_pos, if_neg, lt_pos, reduceIte]
    · by_cases w2 : 2 < w
      · simp (disch := omega) only [gd_pos, if_pos, if_neg, lt_pos, reduceIte]
      · have j35 : w = 2 ∨ hTr (x.1.1 6) r → X11_told_j35 w a b c d e g x = some (.inr 1, xT x) := by
          intro hh
          unfold X11_told_j35
          by_cases ka : kd r a
          · rw [xb_ok (k1.1 ka) m0]
            by_cases ww : w = 2
            · exact absurd (Or.inl ⟨ww, ka⟩) z
            · have hTt := hh.resolve_left ww
              simp (disch := omega) only [gd_pos, if_pos, if_neg, lt_pos, reduceIte]
              by_cases kk : kd r a ∧ kd r b ∧ kd r c
              · rw [xb_ok (k3.1 kk) m0]
                by_cases w1 : w = 1
                · exact absurd (Or.inr (Or.inl ⟨w1, hTt, kk⟩)) z
                · simp (disch := omega) only [gd_pos, if_pos, if_neg, lt_pos, reduceIte]
                  by_cases k9 : kd r d ∧ kd r e ∧ kd r g
                  · exact absurd (Or.inr (Or.inr ⟨by omega, hTt, kk, k9⟩)) z
                  · rw [xb_er (k6.2 k9) mT]
              · rw [xb_er (k3.2 kk) mT]
          · rw [xb_er (k1.2 ka) mT]
        by_cases ww : w = 2
        · simp (disch := omega) only [gd_pos, if_pos, if_neg, lt_pos, reduceIte]
          exact j35 (Or.inl ww)
        · simp (disch := omega) only [gd_pos, if_pos, if_neg, lt_pos, reduceIte]
          by_cases hh : hTr (x.1.1 6) r
          · rw [b1_pos (hT.1 hh)]
            simp (disch := omega) only [gd_pos, if_pos, if_neg, lt_pos, reduceIte]
            exact j35 (Or.inr hh)
          · rw [b1_pos (hT.2 hh)]
            simp (disch := omega) only [gd_pos, if_pos, if_neg, lt_pos, reduceIte]
theorem m_told {d0 : DA} {w a b c d e g : Int} (hw : inR w) (ha : inR a) (hb : inR b) (hc : inR c) (hd : inR d) (he : inR e) (hg : inR g) {r p : Nat} (hr : d0.1 113 1 = r) (hT : TG (d0.1 114) r) {x : XS} (hp : 2 ≤ p) (h114 : d0.1 114 = x.1.1 114) (h117 : d0.1 117 = x.1.1 117) (h118 : d0.1 118 = x.1.1 118) (h119 : d0.1 119 = x.1.1 119) (hF : hTr (x.1.1 114) r → FG (x.1.1 114) (x.1.1 117) (x.1.1 12) r ∧ RG (x.1.1 114) (x.1.1 118) (x.1.1 13) r) (ht : ∀ j, j < 5 → x.1.1 3 j = x.1.1 119 j) : (toC (x.1.1 114) r w a b c d e g → MA (X12_told 113 w a b c d e g d0) d0 0 (toV x w a b c d e g)) ∧ (¬ toC (x.1.1 114) r w a b c d e g → MA (X12_told 113 w a b c d e g d0) d0 1 0) := by
  have h5 := hT.1
  have hS : Sm d0 (wI d0 113 0 0) := Sm.wI rfl
  have hr0 : (wI d0 113 0 0).1 113 1 = r := hr
  have hT0 : TG ((wI d0 113 0 0).1 114) r := hT
  have hn0 : Nb (wI d0 113 0 0) 113 := fun j hj => hT.2.1 j hj
  have k1 := x12_isKind (v := a) hr0 h5.2 ha
  have k3 := x12_areKinds (a := a) (b := b) (c := c) hr0 h5.2 ha hb hc
  have k6 := x12_areKinds (a := d) (b := e) (c := g) hr0 h5.2 hd he hg
  have hH := x12_hasTrees (d := wI d0 113 0 0) hr0 hT0
  have e114 : (wI d0 113 0 0).1 114 = x.1.1 114 := h114
  rw [e114] at hH
  have hF9 : MA (some (0, wI (wI d0 113 0 0) 113 0 1)) d0 1 0 := ⟨_, rfl, rfl, hS.tr (Sm.wI rfl), rfl⟩
  have f80 : ∀ D, X12_told_j80 113 D = some (0, wI D 113 0 1) := fun _ => rfl
  have f115 : ∀ D, X12_told_j115 113 D = some (0, wI D 113 0 1) := fun _ => rfl
  unfold X12_told
  rw [lt_pos, gd_pos hw]
  refine ⟨fun z => ?_, fun z => ?_⟩
  · unfold toC at z
    unfold toV
    rcases z with ⟨rfl, z⟩ | ⟨rfl, z1, z⟩ | ⟨rfl, z1, z⟩
    · simp (disch := omega) only [gd_pos, if_pos, if_neg, lt_pos, reduceIte]
      rw [b1_pos (k1.1 z)]
      unfold kd at z
      simp (disch := omega) only [gd_pos, if_pos, if_neg, lt_pos, reduceIte]
      refine ⟨_, ?_, rfl, hS, rfl⟩
      refine congrArg some (congrArg (fun q => (q, _)) ?_)
      show d0.1 119 (Int.toNat a) = _
      rw [h119, ht a.toNat (by omega)]
    · simp (disch := omega) only [gd_pos, if_pos, if_neg, lt_pos, reduceIte]
      rw [b1_pos (k3.1 z), b1_pos (hH.1 z1)]
      have z3 := z1.1
      have z' := z
      unfold kd at z'
      have hs := x12_swapOf (d := wI d0 113 0 0) (a := a.toNat) (b := b.toNat) (c := c.toNat) hn0 (by omega) (by omega) (by omega)
      rw [show ((a.toNat : Nat) : Int) = a by omega, show ((b.toNat : Nat) : Int) = b by omega, show ((c.toNat : Nat) : Int) = c by omega, e114] at hs
      obtain ⟨r1, r2⟩ := (hF z1).2 a.toNat b.toNat c.toNat (by omega) (by omega) (by omega)
      have e118 : (wI d0 113 0 0).1 118 = x.1.1 118 := h118
      simp (disch := omega) only [gd_pos, if_pos, if_neg, lt_pos, reduceIte]
      by_cases cn : x.1.1 114 (ti a.toNat b.toNat c.toNat) = 1
      · rw [b1_pos (hs.1 cn), r1 cn, e118]
        exact ⟨_, rfl, rfl, hS, rfl⟩
      · rw [b1_pos (hs.2 cn), r2 cn]
        exact ⟨_, rfl, rfl, hS, rfl⟩
    · simp (disch := omega) only [gd_pos, if_pos, if_neg, lt_pos, reduceIte]
      rw [b1_pos (k3.1 z.1), b1_pos (k6.1 z.2), b1_pos (hH.1 z1)]
      have z3 := z1.1
      have z' := z
      unfold kd at z'
      have hs := x12_treeOf (d := wI d0 113 0 0) (a := a.toNat) (b := b.toNat) (c := c.toNat) (e := d.toNat) (g := e.toNat) (h := g.toNat) hn0 (by omega) (by omega) (by omega) (by omega) (by omega) (by omega)
      rw [show ((a.toNat : Nat) : Int) = a by omega, show ((b.toNat : Nat) : Int) = b by omega, show ((c.toNat : Nat) : Int) = c by omega, show ((d.toNat : Nat) : Int) = d by omega, show ((e.toNat : Nat) : Int) = e by omega, show ((g.toNat : Nat) : Int) = g by omega, e114] at hs
      obtain ⟨r1, r2⟩ := (hF z1).1 a.toNat b.toNat c.toNat d.toNat e.toNat g.toNat (by omega) (by omega) (by omega) (by omega) (by omega) (by omega)
      have e117 : (wI d0 113 0 0).1 117 = x.1.1 117 := h117
      simp (disch := omega) only [gd_pos, if_pos, if_neg, lt_pos, reduceIte]
      by_cases cn : x.1.1 114 (ti a.toNat b.toNat e.toNat) = 1 ∧ x.1.1 114 (ti e.toNat c.toNat d.toNat) = 1 ∧ x.1.1 114 (ti b.toNat c.toNat g.toNat) = 1 ∧ x.1.1 114 (ti a.toNat g.toNat d.toNat) = 1
      · rw [b1_pos (hs.1 cn), r1 cn, e117]
        exact ⟨_, rfl, rfl, hS, rfl⟩
      · rw [b1_pos (hs.2 cn), r2 cn]
        exact ⟨_, rfl, rfl, hS, rfl⟩
  · unfold toC at z
    by_cases w0 : w = 0
    · rw [if_pos w0]
      by_cases kk : kd r a ∧ kd r b ∧ kd r c
      · rw [b1_pos (k3.1 kk)]
        by_cases k9 : kd r d ∧ kd r e ∧ kd r g
        · rw [b1_pos (k6.1 k9), b1_pos (hH.2 (fun hh => z (Or.inr (Or.inr ⟨w0, hh, kk, k9⟩))))]
          simp (disch := omega) only [gd_pos, if_pos, if_neg, lt_pos, reduceIte, f80]
          exact hF9
        · rw [b1_pos (k6.2 k9)]
          simp (disch := omega) only [gd_pos, if_pos, if_neg, lt_pos, reduceIte, f80]
          exact hF9
      · rw [b1_pos (k3.2 kk)]
        simp (disch := omega) only [gd_pos, if_pos, if_neg, lt_pos, reduceIte, f80]
        exact hF9
    · rw [if_neg w0]
      by_cases w1 : w = 1
      · rw [if_pos w1]
        by_cases kk : kd r a ∧ kd r b ∧ kd r c
        · rw [b1_pos (k3.1 kk), b1_pos (hH.2 (fun hh => z (Or.inr (Or.inl ⟨w1, hh, kk⟩))))]
          simp (disch := omega) only [gd_pos, if_pos, if_neg, lt_pos, reduceIte, f115]
          exact hF9
        · rw [b1_pos (k3.2 kk)]
          simp (disch := omega) only [gd_pos, if_pos, if_neg, lt_pos, reduceIte, f115]
          exact hF9
      · rw [if_neg w1]
        by_cases w2 : w = 2
        · rw [if_pos w2, b1_pos (k1.2 (fun hh => z (Or.inl ⟨w2, hh⟩)))]
          simp (disch := omega) only [gd_pos, if_pos, if_neg, lt_pos, reduceIte]
          rw [bd_pos m_fail]
          exact hF9
        · rw [if_neg w2, bd_pos m_fail]
          exact hF9
theorem st_19 {Ln k : Nat} {sc : Int → Int} {x : XS} (h : Inv k x) (hk : k < 512) (h0 : 0 ≤ 8 * (k : Int) ∧ 8 * (k : Int) + 8 ≤ (Ln : Int)) (hL : Ln ≤ 4096) (hsc : ScR sc) (hop : iand9 (sc (8 * (k : Int))) 31 = 19) : Step9 Ln sc k x := by
  unfold Step9
  rw [br_19 h0 hL hop]
  simp only [gd_pos (show ix (8 * (k : Int) + 1) Ln from (by omega)), gd_pos (show ix (8 * (k : Int) + 2) Ln from (by omega)), gd_pos (show ix (8 * (k : Int) + 3) Ln from (by omega)), gd_pos (show ix (8 * (k : Int) + 4) Ln from (by omega)), gd_pos (show ix (8 * (k : Int) + 5) Ln from (by omega)), gd_pos (show ix (8 * (k : Int) + 6) Ln from (by omega)), gd_pos (show ix (8 * (k : Int) + 7) Ln from (by omega))]
  obtain ⟨r, p, m, t1, t2, t3, t4, p1, p2, -, f1, f2, f3, s1, -⟩ := h.trs
  have hp := p1.bd
  have hn5 : Nb x.1 5 := fun j hj => by show 0 ≤ x.1.1 6 j ∧ x.1.1 6 j ≤ 9; rw [t3]; exact t4.2.1 j hj
  have hC := c_told (x := x) (hsc (8 * (k : Int) + 1)) (hsc (8 * (k : Int) + 2)) (hsc (8 * (k : Int) + 3)) (hsc (8 * (k : Int) + 4)) (hsc (8 * (k : Int) + 5)) (hsc (8 * (k : Int) + 6)) (hsc (8 * (k : Int) + 7)) t1 t4.1.2 hn5
  rw [t3] at hC
  have hM : ∀ d : DA, d.1 = x.1.1 → _ := fun d hd => m_told (d0 := d) (x := x) (p := p) (hsc (8 * (k : Int) + 1)) (hsc (8 * (k : Int) + 2)) (hsc (8 * (k : Int) + 3)) (hsc (8 * (k : Int) + 4)) (hsc (8 * (k : Int) + 5)) (hsc (8 * (k : Int) + 6)) (hsc (8 * (k : Int) + 7)) (by rw [hd]; exact t2) (by rw [hd]; exact t4) hp.1 (by rw [hd]) (by rw [hd]) (by rw [hd]) (by rw [hd]) f1 (fun j hj => (s1 j hj).1)
  by_cases c : toC (x.1.1 114) r (sc (8 * (k : Int) + 1)) (sc (8 * (k : Int) + 2)) (sc (8 * (k : Int) + 3)) (sc (8 * (k : Int) + 4)) (sc (8 * (k : Int) + 5)) (sc (8 * (k : Int) + 6)) (sc (8 * (k : Int) + 7))
  · have hb : 0 ≤ toV x (sc (8 * (k : Int) + 1)) (sc (8 * (k : Int) + 2)) (sc (8 * (k : Int) + 3)) (sc (8 * (k : Int) + 4)) (sc (8 * (k : Int) + 5)) (sc (8 * (k : Int) + 6)) (sc (8 * (k : Int) + 7)) ∧ toV x (sc (8 * (k : Int) + 1)) (sc (8 * (k : Int) + 2)) (sc (8 * (k : Int) + 3)) (sc (8 * (k : Int) + 4)) (sc (8 * (k : Int) + 5)) (sc (8 * (k : Int) + 6)) (sc (8 * (k : Int) + 7)) < p := by
      have h5 := t4.1
      unfold toC kd at c
      unfold toV
      rcases c with ⟨e, z⟩ | ⟨e, z1, z⟩ | ⟨e, z1, z⟩
      · rw [if_pos e]
        have := s1 (sc (8 * (k : Int) + 2)).toNat (by omega)
        omega
      · rw [if_neg (by omega), if_pos e]
        exact (f1 z1).2.bd hp.1 f3 z1.1 (by omega) (by omega) (by omega)
      · rw [if_neg (by omega), if_neg (by omega)]
        exact (f1 z1).1.bd hp.1 f2 z1.1 (by omega) (by omega) (by omega) (by omega) (by omega) (by omega)
    exact both (f := fun x => L_law__j1484_23 Ln sc (8 * (k : Int)) x) h hk ⟨Or.inl ⟨rfl, hC.1 c⟩, Nat.le_refl _, Nat.le_refl _⟩ (by omega) (Kp.rf x) (Or.inl rfl) (by omega) (fun _ => rfl) (fun d hd => (hM d hd).1 c)
  · exact both (f := fun x => L_law__j1484_23 Ln sc (8 * (k : Int)) x) h hk (v := 0) ⟨Or.inr ⟨rfl, hC.2 c⟩, Nat.le_succ _, Nat.le_add_right _ _⟩ (by omega) (Kp.T x) (Or.inr rfl) (by omega) (fun h9 => by omega) (fun d hd => (hM d hd).2 c)

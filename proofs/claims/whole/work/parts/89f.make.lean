/-! ===== make: the step ===== -/
def mkC (w n m : Int) : Prop := (w = 0 ∧ 1 ≤ n ∧ n ≤ 5) ∨ (w = 1 ∧ 0 ≤ n ∧ n ≤ 4) ∨ (w = 2 ∧ (1 ≤ n ∧ n ≤ 4) ∧ 0 ≤ m ∧ m ≤ 9)
theorem x11_can {d : DA} {w n m : Int} (hw : inR w) (hn : inR n) (hm : inR m) : (mkC w n m → X11_canMake w n m d = some 1) ∧ (¬ mkC w n m → X11_canMake w n m d = some 0) := by
  unfold X11_canMake X11_canMake_j69 X11_canMake_j38 X11_canMake_j18 mkC
  refine ⟨fun h => ?_, fun h => ?_⟩
  · rcases h with h | h | h
    · simp (disch := omega) only [gd_pos, if_pos, if_neg, lt_pos, reduceIte]
    · simp (disch := omega) only [gd_pos, if_pos, if_neg, lt_pos, reduceIte]
    · simp (disch := omega) only [gd_pos, if_pos, if_neg, lt_pos, reduceIte]
  · by_cases c0 : w = 0
    · by_cases c1 : n < 1
      · simp (disch := omega) only [gd_pos, if_pos, if_neg, lt_pos, reduceIte]
      · simp (disch := omega) only [gd_pos, if_pos, if_neg, lt_pos, reduceIte]
    · by_cases c1 : w = 1
      · by_cases c2 : n < 0
        · simp (disch := omega) only [gd_pos, if_pos, if_neg, lt_pos, reduceIte]
        · simp (disch := omega) only [gd_pos, if_pos, if_neg, lt_pos, reduceIte]
      · by_cases c2 : w = 2
        · by_cases c3 : n < 1
          · simp (disch := omega) only [gd_pos, if_pos, if_neg, lt_pos, reduceIte]
          · by_cases c4 : 5 ≤ n
            · simp (disch := omega) only [gd_pos, if_pos, if_neg, lt_pos, reduceIte]
            · by_cases c5 : m < 0
              · simp (disch := omega) only [gd_pos, if_pos, if_neg, lt_pos, reduceIte]
              · simp (disch := omega) only [gd_pos, if_pos, if_neg, lt_pos, reduceIte]
        · simp (disch := omega) only [gd_pos, if_pos, if_neg, lt_pos, reduceIte]
theorem m_makeF {d : DA} {w n m : Int} (hw : inR w) (hn : inR n) (hm : inR m) (h : ¬ mkC w n m) : X12_make 113 w n m d = some (0, wI (wI d 113 0 0) 113 0 1) := by
  have hf : ∀ w n m : Int, X12_make_j61 113 w n m 0 (wI d 113 0 0) = some (0, wI (wI d 113 0 0) 113 0 1) := fun w n m => by
    unfold X12_make_j61
    simp (disch := omega) only [gd_pos, if_pos, if_neg, lt_pos, reduceIte]
    rfl
  unfold X12_make X12_make_j60
  rw [lt_pos]
  unfold mkC at h
  by_cases c0 : w = 0
  · have hI := x12_isIn (d := wI d 113 0 0) (v := n) (a := 1) (b := 5) hn (by omega) (by omega)
    rw [gd_pos hw, if_pos c0, b1_pos (hI.2 (by omega)), hf]
  · by_cases c1 : w = 1
    · have hI := x12_isIn (d := wI d 113 0 0) (v := n) (a := 0) (b := 4) hn (by omega) (by omega)
      rw [gd_pos hw, if_neg c0, gd_pos (by omega), if_pos c1, b1_pos (hI.2 (by omega)), hf]
    · by_cases c2 : w = 2
      · have hI := x12_isIn (d := wI d 113 0 0) (v := n) (a := 1) (b := 4) hn (by omega) (by omega)
        have hJ := x12_isIn (d := wI d 113 0 0) (v := m) (a := 0) (b := 9) hm (by omega) (by omega)
        rw [gd_pos hw, if_neg c0, gd_pos (by omega), if_neg c1, gd_pos (by omega), if_pos c2]
        by_cases c3 : 1 ≤ n ∧ n ≤ 4
        · rw [b1_pos (hI.1 c3), gd_pos (by omega), if_neg (by decide), b1_pos (hJ.2 (by omega)), gd_pos (by omega), if_pos rfl, hf]
        · rw [b1_pos (hI.2 c3), gd_pos (by omega), if_pos rfl, hf]
      · rw [gd_pos hw, if_neg c0, gd_pos (by omega), if_neg c1, gd_pos (by omega), if_neg c2, hf]
theorem m_makeT {d : DA} {w n m : Int} (hw : inR w) (hn : inR n) (hm : inR m) (h : mkC w n m) : X12_make 113 w n m d = X12_make_j86 113 w n m (if w = 0 then n else n + 1) (wI d 113 0 0) := by
  have hf : X12_make_j61 113 w n m 1 (wI d 113 0 0) = X12_make_j86 113 w n m (if w = 0 then n else n + 1) (wI d 113 0 0) := by
    unfold X12_make_j61
    by_cases c : w = 0
    · simp (disch := omega) only [gd_pos, if_pos, if_neg, lt_pos, reduceIte]
    · simp (disch := omega) only [gd_pos, if_pos, if_neg, lt_pos, reduceIte]
  unfold X12_make
  rw [lt_pos]
  unfold mkC at h
  rcases h with h | h | h
  · have hI := x12_isIn (d := wI d 113 0 0) (v := n) (a := 1) (b := 5) hn (by omega) (by omega)
    rw [gd_pos hw, if_pos h.1, b1_pos (hI.1 (by omega)), hf]
  · have hI := x12_isIn (d := wI d 113 0 0) (v := n) (a := 0) (b := 4) hn (by omega) (by omega)
    rw [gd_pos hw, if_neg (by omega), gd_pos (by omega), if_pos h.1, b1_pos (hI.1 (by omega)), hf]
  · have hI := x12_isIn (d := wI d 113 0 0) (v := n) (a := 1) (b := 4) hn (by omega) (by omega)
    have hJ := x12_isIn (d := wI d 113 0 0) (v := m) (a := 0) (b := 9) hm (by omega) (by omega)
    rw [gd_pos hw, if_neg (by omega), gd_pos (by omega), if_neg (by omega), gd_pos (by omega), if_pos h.1, b1_pos (hI.1 (by omega)), gd_pos (by omega), if_neg (by decide), b1_pos (hJ.1 (by omega)), gd_pos (by omega), if_neg (by decide), hf]
theorem Mk.irr {w n : Nat} {m m' : Int} {f : Nat → Int} (h : Mk w n m f) (hw : w ≠ 2) : Mk w n m' f := fun i j k hi hj hk => by
  obtain ⟨a0, a1, a2⟩ := h i j k hi hj hk
  exact ⟨a0, a1, fun z => absurd z hw⟩
theorem c_make {x : XS} {w n m : Int} (hw : inR w) (hn : inR n) (hm : inR m) (h : mkC w n m) : ∃ (wn nn9 r : Nat) (m' : Int) (d8 d4 : DA), w = wn ∧ n = nn9 ∧ (wn = 2 → m' = m) ∧ (0 ≤ m' ∧ m' ≤ 9) ∧ ((wn = 0 ∧ 1 ≤ nn9 ∧ nn9 ≤ 5 ∧ r = nn9) ∨ (wn = 1 ∧ nn9 ≤ 4 ∧ r = nn9 + 1) ∨ (wn = 2 ∧ 1 ≤ nn9 ∧ nn9 ≤ 4 ∧ r = nn9 + 1)) ∧ X11_make w n m x = some (.inl (r : Int), xD (xD x d8) d4) ∧ (∀ c, c ≠ 5 → c ≠ 6 → d8.1 c = x.1.1 c) ∧ d8.1 5 0 = r ∧ Fgt d8 d4 r ∧ Mk wn nn9 m' (d8.1 6) ∧ (∀ q, ¬ q < 125 → d8.1 6 q = x.1.1 6 q) := by
  have tail : ∀ (r wn nn9 : Nat) (m' : Int) (f : Nat → Int), r ≤ 5 → TG f r → ∃ d4, X11_make_j68 (xD x (wA (wI x.1 5 0 r) 6 f)) = some (.inl (r : Int), xD (xD x (wA (wI x.1 5 0 r) 6 f)) d4) ∧ Fgt (wA (wI x.1 5 0 r) 6 f) d4 r := by
    intro r wn nn9 m' f h5 hT
    have hr : (wA (wI x.1 5 0 (r : Int)) 6 f).1 5 0 = r := rfl
    have hnb : Nb (wA (wI x.1 5 0 (r : Int)) 6 f) 5 := fun j hj => hT.2.1 j hj
    obtain ⟨⟨u, d4⟩, e1, hF⟩ := x11_begin hr h5 hnb
    refine ⟨d4, ?_, hF⟩
    unfold X11_make_j68
    rw [bd_pos (show X11_beginAgain 1 (xD x (wA (wI x.1 5 0 (r : Int)) 6 f)).1 = some (u, d4) from e1), lt_pos]
    have : d4.1 5 0 = r := by
      have := hF.1 5 0 rfl (by decide) (by decide) (by decide) (by decide) (by decide) (by decide) (by decide) (by decide) (by decide)
      rw [show d4.1 5 0 = _ from this]; exact hr
    show some (Sum.inl (d4.1 5 0), _) = _
    rw [this]
  have hcan := (x11_can (d := x.1) hw hn hm).1 h
  unfold X11_make
  rw [b1_pos hcan, gd_pos (by omega), if_neg (by decide), gd_pos hw]
  unfold mkC at h
  rcases h with h | h | h
  · obtain ⟨⟨u, D⟩, e1, f, hD, ho, hMk⟩ := x8_group (d := x.1) (o := 5) (n := n.toNat) (by omega) (by omega)
    rw [show ((n.toNat : Nat) : Int) = n by omega] at e1
    have hT : TG f n.toNat := hMk.TG (by omega) (by omega) (Or.inl ⟨rfl, by omega, by omega, rfl⟩)
    obtain ⟨d4, e2, hF⟩ := tail n.toNat 0 n.toNat 0 f (by omega) hT
    have hD' : D = wA (wI x.1 5 0 ((n.toNat : Nat) : Int)) 6 f := hD
    refine ⟨0, n.toNat, n.toNat, 0, D, d4, h.1, by omega, fun z => by omega, by omega, Or.inl ⟨rfl, by omega, by omega, rfl⟩, ?_, ?_, ?_, ?_, ?_, ?_⟩
    · rw [if_pos h.1, bd_pos e1, lt_pos, hD']; exact e2
    · intro c a1 a2; rw [hD', wA_ne a2, wI_ne a1]
    · rw [hD']; rfl
    · rw [hD']; exact hF
    · rw [hD', wA_at]; exact hMk
    · intro q hq; rw [hD', wA_at]; exact ho q hq
  · obtain ⟨⟨u, D⟩, e1, f, hD, ho, hMk⟩ := x8_level (d := x.1) (o := 5) (n := n.toNat) (by omega)
    rw [show ((n.toNat : Nat) : Int) = n by omega] at e1
    have hT : TG f (n.toNat + 1) := hMk.TG (by omega) (by omega) (Or.inr (Or.inl ⟨rfl, by omega, rfl⟩))
    obtain ⟨d4, e2, hF⟩ := tail (n.toNat + 1) 1 n.toNat 0 f (by omega) hT
    have hD' : D = wA (wI x.1 5 0 ((n.toNat + 1 : Nat) : Int)) 6 f := hD
    refine ⟨1, n.toNat, n.toNat + 1, 0, D, d4, h.1, by omega, fun z => by omega, by omega, Or.inr (Or.inl ⟨rfl, by omega, rfl⟩), ?_, ?_, ?_, ?_, ?_, ?_⟩
    · rw [if_neg (by omega), gd_pos (by omega), if_pos h.1, bd_pos e1, lt_pos, hD']; exact e2
    · intro c a1 a2; rw [hD', wA_ne a2, wI_ne a1]
    · rw [hD']; rfl
    · rw [hD']; exact hF
    · rw [hD', wA_at]; exact hMk
    · intro q hq; rw [hD', wA_at]; exact ho q hq
  · obtain ⟨⟨u, D⟩, e1, f, hD, ho, hMk⟩ := x8_near (d := x.1) (o := 5) (n := n.toNat) (m := m) (by omega) (by omega)
    rw [show ((n.toNat : Nat) : Int) = n by omega] at e1
    have hT : TG f (n.toNat + 1) := hMk.TG (by omega) (by omega) (Or.inr (Or.inr ⟨rfl, by omega, by omega, rfl⟩))
    obtain ⟨d4, e2, hF⟩ := tail (n.toNat + 1) 2 n.toNat m f (by omega) hT
    have hD' : D = wA (wI x.1 5 0 ((n.toNat + 1 : Nat) : Int)) 6 f := hD
    refine ⟨2, n.toNat, n.toNat + 1, m, D, d4, h.1, by omega, fun z => rfl, by omega, Or.inr (Or.inr ⟨rfl, by omega, by omega, rfl⟩), ?_, ?_, ?_, ?_, ?_, ?_⟩
    · rw [if_neg (by omega), gd_pos (by omega), if_neg (by omega), bd_pos e1, lt_pos, hD']; exact e2
    · intro c a1 a2; rw [hD', wA_ne a2, wI_ne a1]
    · rw [hD']; rfl
    · rw [hD']; exact hF
    · rw [hD', wA_at]; exact hMk
    · intro q hq; rw [hD', wA_at]; exact ho q hq
theorem st_3 {Ln k : Nat} {sc : Int → Int} {x : XS} (h : Inv k x) (hk : k < 512) (h0 : 0 ≤ 8 * (k : Int) ∧ 8 * (k : Int) + 8 ≤ (Ln : Int)) (hL : Ln ≤ 4096) (hsc : ScR sc) (hop : iand9 (sc (8 * (k : Int))) 31 = 3) : Step9 Ln sc k x := by
  unfold Step9
  rw [br_3 h0 hL hop]
  simp only [gd_pos (show ix (8 * (k : Int) + 1) Ln from (by omega)), gd_pos (show ix (8 * (k : Int) + 2) Ln from (by omega)), gd_pos (show ix (8 * (k : Int) + 3) Ln from (by omega))]
  have hw := hsc (8 * (k : Int) + 1)
  have hn := hsc (8 * (k : Int) + 2)
  have hm := hsc (8 * (k : Int) + 3)
  generalize sc (8 * (k : Int) + 1) = w at hw
  generalize sc (8 * (k : Int) + 2) = n at hn
  generalize sc (8 * (k : Int) + 3) = m at hm
  by_cases c : mkC w n m
  · obtain ⟨wn, n9, r, m', d8, d4, rfl, rfl, e3, e4, e5, e6, e7, e8, e9, e10, e11⟩ := c_make (x := x) hw hn hm c
    refine both2 (f := fun x => L_law__j403_23 Ln sc (8 * (k : Int)) x) (M := fun d => X12_make 113 wn n9 m d) (x2 := xD (xD x d8) d4) (v := (r : Int)) ⟨Or.inl ⟨rfl, e6⟩, Nat.le_refl _, Nat.le_refl _⟩ (by omega) (Or.inl rfl) (w := (r : Int)) (by omega) (fun _ => rfl) (fun x3 hx3 hx4 => ?_)
    have hx3' : x3.1.1 = d4.1 := hx3
    obtain ⟨d', f, m1, m2, m3⟩ := m_makeJ (d := wI x3.1 113 0 0) (w := wn) (n := n9) (r := r) (m := m') e4 e5
    have em : X12_make 113 wn n9 m x3.1 = some ((r : Int), d') := by
      rw [m_makeT hw hn hm c, ← m1]
      have er : (if (wn : Int) = 0 then (n9 : Int) else (n9 : Int) + 1) = (r : Int) := by
        rcases e5 with z | z | z
        · rw [if_pos (by omega)]; omega
        · rw [if_neg (by omega)]; omega
        · rw [if_neg (by omega)]; omega
      rw [er]
      by_cases c2 : wn = 2
      · rw [e3 c2]
      · -- the third number plays no part
        have irr : ∀ (a b : Int) (v5 v6 v7 : Int) (D : DA), X12_make_b128 113 wn n9 a v5 v6 v7 D = X12_make_b128 113 wn n9 b v5 v6 v7 D := fun a b v5 v6 v7 D => by
          unfold X12_make_b128
          rcases e5 with z | z | z
          · simp only [show ((wn : Int) = 0) = True from eq_true (by omega), if_true]
          · simp only [show ((wn : Int) = 0) = False from eq_false (by omega), if_false, show ((wn : Int) = 1) = True from eq_true (by omega), if_true]
          · exact absurd z.1 c2
        unfold X12_make_j86 X12_make_b104 X12_make_b116
        simp only [irr m m']
    have w114 : (wI x3.1 113 0 0).1 114 = x.1.1 114 := by
      show x3.1.1 114 = _
      rw [hx3']
      funext j
      rw [e9.1 114 j rfl (by decide) (by decide) (by decide) (by decide) (by decide) (by decide) (by decide) (by decide) (by decide), e7 114 (by decide) (by decide)]
    obtain ⟨r0, -, -, -, t4, -, -, -⟩ := h.tab
    have hf : d8.1 6 = pre ((wI x3.1 113 0 0).1 114) f 125 := by
      rw [w114]
      funext q
      by_cases cq : q < 125
      · rw [pre_lt cq]; exact e10.eq (by omega) m3 q cq
      · rw [pre_ge cq, e11 q cq, t4]
    have hT : TG (pre ((wI x3.1 113 0 0).1 114) f 125) r := by rw [← hf]; exact e10.TG (by omega) e4 e5
    obtain ⟨p, tp, p1, p2, p3, p4, p5⟩ := h.fld
    have m2' : MNr x3.1 d' r (pre ((wI x3.1 113 0 0).1 114) f 125) := m2.rel (Sm.wI rfl)
    obtain ⟨hN, hP⟩ := newT_of (x := x) e7 e8 hf e9 hx3' m2' hT ⟨p1, p2, p3, p4⟩
    refine ⟨d', em, ?_, by rw [m2.2.1]; rfl, ?_⟩
    · rw [m2.2.2.1 0 (by decide) (by decide) (by decide) (by decide) (by decide)]; rfl
    · have hz : x3.2 = x.2 := hx4
      have z := h.1
      exact h.newT hk (x' := xD x3 d') hN (hP tp p5) ⟨by show x3.2.1 = x.2.1; rw [hz], by show x3.2.2.1 = x.2.2.1; rw [hz], by show xe x3 = 0; unfold xe; rw [hz]; exact z.2.2.2.1, by show xok9 x3; unfold xok9 xrt xrb xtt xtn; rw [hz]; exact z.2.2.2.2.1⟩ ⟨by show xc x3 ≤ _; unfold xc; rw [hz]; omega, by show xs x3 ≤ _; unfold xs; rw [hz]; omega⟩
  · refine both (en := 0) (f := fun x => L_law__j403_23 Ln sc (8 * (k : Int)) x) h hk (x2 := xT x) (v := 0) ⟨Or.inr ⟨rfl, ?_⟩, Nat.le_succ _, Nat.le_add_right _ _⟩ (by omega) (Kp.T x) (Or.inr rfl) (w := 0) (by omega) (fun h9 => by omega) (fun d hd => ⟨_, m_makeF hw hn hm c, rfl, (Sm.wI rfl).tr (Sm.wI rfl), rfl⟩)
    unfold X11_make
    rw [b1_pos ((x11_can (d := x.1) hw hn hm).2 c)]
    simp (disch := omega) only [gd_pos, if_pos, if_neg, lt_pos, reduceIte]

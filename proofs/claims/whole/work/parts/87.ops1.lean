/-! ===== the calls that only look ===== -/
def kd (r : Nat) (v : Int) : Prop := 0 ≤ v ∧ v < (r : Int)
theorem x11_isKind {d : DA} {r : Nat} {v : Int} (hr : d.1 5 0 = r) (h5 : r ≤ 5) (hv : inR v) : (kd r v → X11_isKind 1 v d = some 1) ∧ (¬ kd r v → X11_isKind 1 v d = some 0) := by
  have hr' : d.1 (1 + 1 + 3) 0 = r := hr
  unfold X11_isKind X11_isKind_j22 kd
  rw [hr']
  refine ⟨fun h => ?_, fun h => ?_⟩
  · simp (disch := omega) only [gd_pos, if_pos, if_neg, lt_pos, reduceIte]
  · by_cases c : v < 0
    · simp (disch := omega) only [gd_pos, if_pos, if_neg, lt_pos, reduceIte]
    · simp (disch := omega) only [gd_pos, if_pos, if_neg, lt_pos, reduceIte]
theorem x12_isKind {d : DA} {r : Nat} {v : Int} (hr : d.1 113 1 = r) (h5 : r ≤ 5) (hv : inR v) : (kd r v → X12_isKind 113 v d = some 1) ∧ (¬ kd r v → X12_isKind 113 v d = some 0) := by
  unfold X12_isKind X12_isIn X12_isIn_j14 kd
  rw [hr]
  refine ⟨fun h => ?_, fun h => ?_⟩
  · simp (disch := omega) only [gd_pos, if_pos, if_neg, lt_pos, reduceIte]; rfl
  · by_cases c : v < 0
    · simp (disch := omega) only [gd_pos, if_pos, if_neg, lt_pos, reduceIte]; rfl
    · simp (disch := omega) only [gd_pos, if_pos, if_neg, lt_pos, reduceIte]; rfl
theorem x12_isIn {d : DA} {v a b : Int} (hv : inR v) (ha : inR a) (hb : inR b) : (a ≤ v ∧ v ≤ b → X12_isIn v a b d = some 1) ∧ (¬ (a ≤ v ∧ v ≤ b) → X12_isIn v a b d = some 0) := by
  unfold X12_isIn X12_isIn_j14
  refine ⟨fun h => ?_, fun h => ?_⟩
  · simp (disch := omega) only [gd_pos, if_pos, if_neg, lt_pos, reduceIte]
  · by_cases c : v < a
    · simp (disch := omega) only [gd_pos, if_pos, if_neg, lt_pos, reduceIte]
    · simp (disch := omega) only [gd_pos, if_pos, if_neg, lt_pos, reduceIte]
theorem x11_needKinds {x : XS} {r : Nat} {a b c : Int} (hr : x.1.1 5 0 = r) (h5 : r ≤ 5) (ha : inR a) (hb : inR b) (hc : inR c) : (kd r a ∧ kd r b ∧ kd r c → X11_needKinds a b c x = some (.inl (), x)) ∧ (¬ (kd r a ∧ kd r b ∧ kd r c) → X11_needKinds a b c x = some (.inr 1, xT x)) := by
  have h1 := x11_isKind (v := a) hr h5 ha
  have h2 := x11_isKind (v := b) hr h5 hb
  have h3 := x11_isKind (v := c) hr h5 hc
  unfold X11_needKinds
  refine ⟨fun h => ?_, fun h => ?_⟩
  · rw [b1_pos (h1.1 h.1), b1_pos (h2.1 h.2.1), b1_pos (h3.1 h.2.2)]
    simp (disch := omega) only [gd_pos, if_pos, if_neg, lt_pos, reduceIte]
  · by_cases c1 : kd r a
    · rw [b1_pos (h1.1 c1)]
      by_cases c2 : kd r b
      · rw [b1_pos (h2.1 c2)]
        by_cases c3 : kd r c
        · exact absurd ⟨c1, c2, c3⟩ h
        · rw [b1_pos (h3.2 c3)]
          simp (disch := omega) only [gd_pos, if_pos, if_neg, lt_pos, reduceIte]
      · rw [b1_pos (h2.2 c2)]
        simp (disch := omega) only [gd_pos, if_pos, if_neg, lt_pos, reduceIte]
    · rw [b1_pos (h1.2 c1)]
      simp (disch := omega) only [gd_pos, if_pos, if_neg, lt_pos, reduceIte]
theorem x11_needKind {x : XS} {r : Nat} {a : Int} (hr : x.1.1 5 0 = r) (h5 : r ≤ 5) (ha : inR a) : (kd r a → X11_needKind a x = some (.inl (), x)) ∧ (¬ kd r a → X11_needKind a x = some (.inr 1, xT x)) := by
  have h := x11_needKinds (a := a) (b := a) (c := a) hr h5 ha ha ha
  unfold X11_needKind
  refine ⟨fun c => ?_, fun c => ?_⟩
  · rw [xb_ok (h.1 ⟨c, c, c⟩) ⟨Nat.le_refl _, Nat.le_refl _⟩]
  · rw [xb_er (h.2 (fun z => c z.1)) ⟨Nat.le_succ _, Nat.le_add_right _ _⟩]
/-- the class's call left all that counts -/
def Kp (x x2 : XS) : Prop := Sm x.1 x2.1 ∧ (xzc x2 = xzc x ∧ xzf x2 = xzf x ∧ xe x2 = xe x ∧ (xok9 x → xok9 x2)) ∧ xc x2 ≤ xc x + 50 ∧ xs x2 ≤ xs x + 500
theorem Kp.rf (x : XS) : Kp x x := ⟨Sm.rf _, ⟨rfl, rfl, rfl, id⟩, (by omega), (by omega)⟩
theorem Kp.T (x : XS) : Kp x (xT x) := ⟨Sm.rf _, ⟨rfl, rfl, rfl, id⟩, by show xc x + 1 ≤ _; omega, by show xs x + 6 ≤ _; omega⟩
theorem Kp.D {x : XS} {d : DA} (h : Sm x.1 d) : Kp x (xD x d) := ⟨h, ⟨rfl, rfl, rfl, id⟩, Nat.le_add_right _ _, Nat.le_add_right _ _⟩
/-- the reference's call: it answers v, code c, and leaves all that counts -/
def MA (o : Option (Int × DA)) (d : DA) (c v : Int) : Prop := ∃ d', o = some (v, d') ∧ d'.1 113 0 = c ∧ Sm d d' ∧ d'.2 161 = d.2 161
theorem Inv.mono {k : Nat} {x x2 : XS} (h : Inv k x) (hk : k < 512) (h1 : Kp x x2) {d : DA} (h2 : Sm x2.1 d) : Inv (k + 1) (xD x2 d) :=
  h.fr hk (h1.1.tr h2) ⟨h1.2.1.1, h1.2.1.2.1, h1.2.1.2.2.1.trans h.1.2.2.2.1, h1.2.1.2.2.2 h.1.2.2.2.2.1⟩ ⟨by have := h1.2.2.1; show xc x2 ≤ _; omega, by have := h1.2.2.2; show xs x2 ≤ _; omega⟩
/-- both sides of a call that throws, joined -/
theorem both {Z : Type} {k : Nat} {x x2 : XS} {o : Option ((Int ⊕ Nat) × XS)} {en : Nat} {c v w : Int} (h : Inv k x) (hk : k < 512) (hA : Ans o x en c v x2) (hv : inR v) (hK : Kp x x2) (hc : c = 0 ∨ c = 1) (hw : inR w) (hvw : c = 0 → v = w) {M : DA → Option (Int × DA)} (hM : ∀ d, d.1 = x2.1.1 → MA (M d) d c w) {f : XS → Option Z} {bad : XS → Option Z} :
    ∃ x', (bd (LX o x en) fun r7 x8 =>
      gd (xc x ≤ xc x8 ∧ xs x ≤ xs x8) <|
      bd (M x8.1) fun x10 d9 =>
      lt9 (xD x8 d9) fun x11 =>
      b1 (X12_thrown 113 x11.1) fun x12 =>
      gd (inR x12 ∧ inR r7) <|
      if x12 = r7 then (gd (inR r7) <|
      if r7 = 0 then (gd (ix 0 1) <|
      gd (inR x10) <|
      gd (inR64 (x11.1.2 161 (Int.toNat 0)) ∧ inR64 x10) <|
      gd (inR (lcmp9 (x11.1.2 161 (Int.toNat 0)) x10)) <|
      if (lcmp9 (x11.1.2 161 (Int.toNat 0)) x10) = 0 then f x11 else bad x11) else f x11) else bad x11) = f x' ∧ Inv (k + 1) x' := by
  obtain ⟨x3, h1, h2, h3, h4, h5, h6⟩ := lx_ans hA hv
  obtain ⟨d', m1, m2, m3, m4⟩ := hM x3.1 h4
  refine ⟨xD x3 d', ?_, ?_⟩
  · rw [bd_pos h1, gd_pos ⟨h2, h3⟩, bd_pos m1, lt_pos, b1_pos (show X12_thrown 113 (xD x3 d').1 = some (d'.1 113 0) from rfl)]
    exact law_tail (x := xD x3 d') m2 hc hw (fun hc0 => by
      show d'.2 161 0 = w
      rw [m4, h6 hc0]
      exact hvw hc0)
  · have hK3 : Kp x x3 := by
      obtain ⟨a1, a2, a3, a4⟩ := hK
      refine ⟨fun i j hr => by rw [h4]; exact a1 i j hr, ?_, ?_, ?_⟩
      · have e : xzc x3 = xzc x2 := by unfold xzc; rw [h5]
        have e2 : xzf x3 = xzf x2 := by unfold xzf; rw [h5]
        have e3 : xe x3 = xe x2 := by unfold xe; rw [h5]
        have e4 : xok9 x3 ↔ xok9 x2 := by unfold xok9 xrt xrb xtt xtn; rw [h5]
        rw [e, e2, e3, e4]
        exact a2
      · have e : xc x3 = xc x2 := by unfold xc; rw [h5]
        rw [e]; exact a3
      · have e : xs x3 = xs x2 := by unfold xs; rw [h5]
        rw [e]; exact a4
    exact h.mono hk hK3 m3
/-! fuses -/
theorem c_fuses {k : Nat} {x : XS} {a b c : Int} (h : Inv k x) (ha : inR a) (hb : inR b) (hc : inR c) {r : Nat} (hr : x.1.1 5 0 = r) (h5 : r ≤ 5) (hn : Nb x.1 5) : (kd r a ∧ kd r b ∧ kd r c → Ans (X11_fuses a b c x) x 1 0 (nn x.1 5 a.toNat b.toNat c.toNat) x) ∧ (¬ (kd r a ∧ kd r b ∧ kd r c) → Ans (X11_fuses a b c x) x 1 1 0 (xT x)) := by
  have hK := x11_needKinds (x := x) hr h5 ha hb hc
  unfold X11_fuses
  refine ⟨fun z => ⟨Or.inl ⟨rfl, ?_⟩, Nat.le_refl _, Nat.le_refl _⟩, fun z => ⟨Or.inr ⟨rfl, ?_⟩, Nat.le_succ _, Nat.le_add_right _ _⟩⟩
  · rw [xb_ok (hK.1 z) ⟨Nat.le_refl _, Nat.le_refl _⟩]
    unfold kd at z
    have e := x8_at (d := x.1) (o := 5) (i := a.toNat) (j := b.toNat) (k := c.toNat) (by omega) (by omega) (by omega)
    rw [show ((a.toNat : Nat) : Int) = a by omega, show ((b.toNat : Nat) : Int) = b by omega, show ((c.toNat : Nat) : Int) = c by omega] at e
    rw [b1_pos e]
  · rw [xb_er (hK.2 z) ⟨Nat.le_succ _, Nat.le_add_right _ _⟩]
theorem m_fail {d : DA} : X12_fail 113 1 d = some (0, wI d 113 0 1) := rfl
theorem m_fuses {d : DA} {a b c : Int} (ha : inR a) (hb : inR b) (hc : inR c) {r : Nat} (hr : d.1 113 1 = r) (h5 : r ≤ 5) (hn : Nb d 113) : (kd r a ∧ kd r b ∧ kd r c → MA (X12_fuses 113 a b c d) d 0 (nn d 113 a.toNat b.toNat c.toNat)) ∧ (¬ (kd r a ∧ kd r b ∧ kd r c) → MA (X12_fuses 113 a b c d) d 1 0) := by
  have hr0 : (wI d 113 0 0).1 113 1 = r := hr
  have h1 := x12_isKind (v := a) hr0 h5 ha
  have h2 := x12_isKind (v := b) hr0 h5 hb
  have h3 := x12_isKind (v := c) hr0 h5 hc
  have hS : Sm d (wI d 113 0 0) := Sm.wI rfl
  have hf : ∀ d, X12_fuses_j39 113 d = some (0, wI d 113 0 1) := fun _ => rfl
  have hF : MA (some (0, wI (wI d 113 0 0) 113 0 1)) d 1 0 := ⟨_, rfl, rfl, hS.tr (Sm.wI rfl), rfl⟩
  unfold X12_fuses
  rw [lt_pos]
  refine ⟨fun z => ?_, fun z => ?_⟩
  · rw [b1_pos (h1.1 z.1), b1_pos (h2.1 z.2.1), b1_pos (h3.1 z.2.2)]
    unfold kd at z
    have e := x12_of (d := wI d 113 0 0) (o := 113) (i := a.toNat) (j := b.toNat) (k := c.toNat) (by omega) (by omega) (by omega)
    rw [show ((a.toNat : Nat) : Int) = a by omega, show ((b.toNat : Nat) : Int) = b by omega, show ((c.toNat : Nat) : Int) = c by omega] at e
    simp (disch := omega) only [gd_pos, if_pos, if_neg, lt_pos, reduceIte]
    rw [b1_pos e]
    exact ⟨_, rfl, rfl, hS, rfl⟩
  · by_cases c1 : kd r a
    · rw [b1_pos (h1.1 c1)]
      by_cases c2 : kd r b
      · rw [b1_pos (h2.1 c2)]
        by_cases c3 : kd r c
        · exact absurd ⟨c1, c2, c3⟩ z
        · rw [b1_pos (h3.2 c3)]
          simp (disch := omega) only [gd_pos, if_pos, if_neg, lt_pos, reduceIte, hf]
          exact hF
      · rw [b1_pos (h2.2 c2)]
        simp (disch := omega) only [gd_pos, if_pos, if_neg, lt_pos, reduceIte, hf]
        exact hF
    · rw [b1_pos (h1.2 c1)]
      simp (disch := omega) only [gd_pos, if_pos, if_neg, lt_pos, reduceIte, hf]
      exact hF

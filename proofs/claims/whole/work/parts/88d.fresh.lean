/-! ===== a new table keeps what holds ===== -/
theorem TrB.FG {n f f9 s9 : Nat → Int} {r : Nat} (h3 : r ≤ 3) (h : TrB n r 27 f9 s9) (hf : ∀ q, q < 729 → f q = 0) : FG n f f9 r := by
  intro a b c d e g ha hb hc hd he hg
  have hq : six a b c d e g < 729 := by unfold six; omega
  have h1 := h.1 (six a b c d e g)
  rw [pre_lt hq] at h1
  have inj : ∀ a' b' c' d' e' g', a' < r → b' < r → c' < r → d' < r → e' < r → g' < r → six a b c d e g = six a' b' c' d' e' g' → a = a' ∧ b = b' ∧ c = c' ∧ d = d' ∧ e = e' ∧ g = g' := fun a' b' c' d' e' g' z1 z2 z3 z4 z5 z6 z7 => by unfold six at z7; omega
  refine ⟨fun z => ?_, fun z => ?_⟩
  · by_cases cu : a = 0 ∨ b = 0 ∨ c = 0
    · rw [if_pos cu]
      exact h1.1 ⟨a, b, c, d, e, g, by unfold thr; omega, ⟨ha, hb, hc, hd, he, hg⟩, cu, rfl, z⟩
    · rw [if_neg cu, hf _ hq]
      refine h1.2 ?_
      rintro ⟨a', b', c', d', e', g', y1, y2, y3, y4, y5⟩
      obtain ⟨rfl, rfl, rfl, rfl, rfl, rfl⟩ := inj a' b' c' d' e' g' y2.1 y2.2.1 y2.2.2.1 y2.2.2.2.1 y2.2.2.2.2.1 y2.2.2.2.2.2 y4
      exact cu y3
  · refine h1.2 ?_
    rintro ⟨a', b', c', d', e', g', y1, y2, y3, y4, y5⟩
    obtain ⟨rfl, rfl, rfl, rfl, rfl, rfl⟩ := inj a' b' c' d' e' g' y2.1 y2.2.1 y2.2.2.1 y2.2.2.2.1 y2.2.2.2.2.1 y2.2.2.2.2.2 y4
    exact z y5
theorem TrB.RG {n s f9 s9 : Nat → Int} {r : Nat} (h3 : r ≤ 3) (hT : TG n r) (hF : fre n r) (h : TrB n r 27 f9 s9) (hs : ∀ q, q < 27 → s q = 0) : RG n s s9 r := by
  intro a b c ha hb hc
  have hq : thr a b c < 27 := by unfold thr; omega
  rw [h.2 a b c ha hb hc]
  have hn := hT.2.1 (ti a b c) (by unfold ti; omega)
  have hf := hF a b c ha hb hc
  refine ⟨fun z => ?_, fun z => ?_⟩
  · by_cases cu : a = 0 ∨ b = 0
    · rw [if_pos ⟨hq, cu⟩, if_pos cu, z]
    · rw [if_neg (fun y => cu y.2), if_neg cu, hs _ hq]
  · by_cases cu : a = 0 ∨ b = 0
    · rw [if_pos ⟨hq, cu⟩]; omega
    · rw [if_neg (fun y => cu y.2)]
/-- the cells that a new table changes -/
def chL9 : List Nat := [1, 2, 3, 5, 6, 12, 13, 44, 54, 58, 59, 61, 68, 69, 81, 113, 114, 117, 118, 119, 126]
def NewT (g g' : Nat → Nat → Int) (r p : Nat) : Prop :=
  (∀ c j, rel c j = true → chL9.contains c = false → g' c j = g c j) ∧
  (g' 1 2 = g 1 2 ∧ g' 1 4 = g 1 4 ∧ g' 2 6 = g 2 6 ∧ g' 2 7 = g 2 7 ∧ g' 113 2 = g 113 2 ∧ g' 113 33 = g 113 33 ∧ g' 113 34 = g 113 34 ∧ g' 113 35 = g 113 35 ∧ g' 113 76 = g 113 76 ∧ g' 113 77 = g 113 77 ∧ g' 113 78 = g 113 78 ∧ g' 113 79 = g 113 79) ∧
  (g' 5 0 = r ∧ g' 113 1 = r ∧ g' 6 = g' 114 ∧ TG (g' 114) r) ∧ (g' 2 5 = p ∧ g' 113 4 = p ∧ PG p ∧ NI9 g' p) ∧
  (g' 2 4 = 0 ∧ (∀ j, j < 5 → g' 3 j = 1) ∧ (r ≤ 3 → TrB (g' 6) r 27 (g' 12) (g' 13)) ∧ g' 54 3 = 0 ∧ g' 54 4 = 0 ∧ g' 61 0 = 0 ∧ g' 68 2 = 0 ∧ (∀ j, j < 5 → g' 69 j = -1) ∧ g' 81 0 = 0) ∧
  (g' 113 13 = 0 ∧ g' 113 18 = 0 ∧ g' 113 19 = 0 ∧ (∀ j, j < 729 → g' 117 j = 0) ∧ (∀ j, j < 27 → g' 118 j = 0) ∧ (∀ j, j < 5 → g' 119 j = 1))
theorem PG.bd {p : Nat} (h : PG p) : 2 ≤ p ∧ p ≤ 31 := by
  unfold PG at h
  simp at h
  omega
theorem SI.image {k : Nat} {g g' : Nat → Nat → Int} {r p m : Nat} (h : SI k g 17 77 78 79 155 156 157 158 159 160 r p m) (e : ∀ c j, (17 ≤ c ∧ c ≤ 31 ∨ 155 ≤ c ∧ c ≤ 160) → g' c j = g c j) (e7 : g' 113 77 = g 113 77 ∧ g' 113 78 = g 113 78 ∧ g' 113 79 = g 113 79) : SI k g' 17 77 78 79 155 156 157 158 159 160 r p m := by
  have w : ∀ c, (17 ≤ c ∧ c ≤ 31 ∨ 155 ≤ c ∧ c ≤ 160) → g' c = g c := fun c hc => funext fun j => e c j hc
  unfold SI at h ⊢
  rw [w (17 + 3) (by omega), w (17 + 4) (by omega), w 155 (by omega), w 156 (by omega), w 157 (by omega), w 158 (by omega), w 159 (by omega), w 160 (by omega), w 17 (by omega), w (17 + 10) (by omega), w (17 + 11) (by omega), w (17 + 1) (by omega), w (17 + 2) (by omega), e7.1, e7.2.1, e7.2.2]
  exact h
theorem Inv.newT {k : Nat} {x x' : XS} (h : Inv k x) (hk : k < 512) {r p tp : Nat} (hN : NewT x.1.1 x'.1.1 r p) (hP : PI9 x'.1.1 tp) (hz : xzc x' = xzc x ∧ xzf x' = xzf x ∧ xe x' = 0 ∧ xok9 x') (hc : xc x' ≤ xc x + 100 ∧ xs x' ≤ xs x + 1000) : Inv (k + 1) x' := by
  obtain ⟨⟨z1, z2, z3, z4, z5, z6, z7⟩, r0, p0, m0, D0, U0, tp0, kr, la, hS, hH, -, hK, hLi, -, -, hTu, -, hI⟩ := h
  obtain ⟨e1, e2, e3, e4⟩ := hz
  obtain ⟨n1, ⟨n2a, n2b, n2c, n2d, n2e, n2f, n2g, n2h, n2i, n2j, n2k, n2l⟩, ⟨t1, t2, t3, t4⟩, ⟨p1, p2, p3, p4⟩, ⟨f1, f2, f3, f4, f5, f6, f7, f8, f9⟩, m1, m2, m3, m4, m5, m6⟩ := hN
  have hp := p3.bd
  refine ⟨⟨(by omega), by rw [e1]; exact z2, by rw [e2]; exact z3, e3, e4, by rw [e1, e2]; omega, by rw [e1, e2]; omega⟩, r, p, 0, 0, 0, tp, kr, la, ?_⟩
  rw [e1, e2]
  have w : ∀ c, (∀ j, rel c j = true) → chL9.contains c = false → x'.1.1 c = x.1.1 c := fun c h1 h2 => funext fun j => n1 c j (h1 j) h2
  refine ⟨⟨⟨t1, t2, t3, t4⟩, ⟨p1, p2, p3⟩, ⟨fun h3 hF => ?_, fun q hq => ?_, fun q hq => ?_⟩, ⟨fun j hj => ⟨?_, ?_, ?_⟩, m6 0 (by omega)⟩, ⟨f1, m1, (by omega), fun j hj => by omega⟩, ?_⟩, ⟨f4, m2, f5, m3, (by omega), fun j hj => by omega, Nat.le_refl _, (by show (0 : Nat) + 0 ≤ 12 + 0; omega)⟩, hP, ?_, ?_, p4, Or.inl f6, ?_, Or.inl f9, ?_⟩
  · have t3' : x'.1.1 6 = x'.1.1 114 := t3
    have hT := f3 h3
    rw [t3'] at hT
    exact ⟨hT.FG h3 m4, hT.RG h3 t4 hF m5⟩
  · show 0 ≤ x'.1.1 117 q ∧ x'.1.1 117 q < p
    rw [m4 q hq]; omega
  · show 0 ≤ x'.1.1 118 q ∧ x'.1.1 118 q < p
    rw [m5 q hq]; omega
  · show x'.1.1 3 j = x'.1.1 119 j
    rw [f2 j hj, m6 j hj]
  · show 1 ≤ x'.1.1 119 j
    rw [m6 j hj]; omega
  · show x'.1.1 119 j < p
    rw [m6 j hj]; omega
  · obtain ⟨-, -, -, -, -, a1, a2, a3, a4, a5, a6⟩ := hS
    have w121 : x'.1.1 121 = x.1.1 121 := w 121 (fun _ => rfl) rfl
    have a1' : x.1.1 2 6 = x.1.1 121 0 := a1
    have a2' : x.1.1 2 7 = x.1.1 121 1 := a2
    have a3' : 0 ≤ x.1.1 121 0 := a3
    have a4' : x.1.1 121 0 ≤ k := a4
    have a5' : 0 ≤ x.1.1 121 1 := a5
    have a6' : x.1.1 121 1 ≤ k := a6
    refine ⟨?_, ?_, ?_, ?_, ?_, ?_⟩
    · show x'.1.1 2 6 = x'.1.1 121 0
      rw [n2c, w121]; exact a1'
    · show x'.1.1 2 7 = x'.1.1 121 1
      rw [n2d, w121]; exact a2'
    · show 0 ≤ x'.1.1 121 0
      rw [w121]; exact a3'
    · show x'.1.1 121 0 ≤ ((k + 1 : Nat) : Int)
      rw [w121]; omega
    · show 0 ≤ x'.1.1 121 1
      rw [w121]; exact a5'
    · show x'.1.1 121 1 ≤ ((k + 1 : Nat) : Int)
      rw [w121]; omega
  · obtain ⟨a1, a0, a2, a3⟩ := hK
    have a1' : x.1.1 113 2 = kr := a1
    have w33 : x'.1.1 33 = x.1.1 33 := w 33 (fun _ => rfl) rfl
    have w115 : x'.1.1 115 = x.1.1 115 := w 115 (fun _ => rfl) rfl
    refine ⟨?_, fun q hq => ?_, fun z => ?_, fun z => ?_⟩
    · show x'.1.1 113 2 = kr
      rw [n2e]; exact a1'
    · show x'.1.1 33 q = x'.1.1 115 q
      rw [w33, w115]; exact a0 q hq
    · show x'.1.1 1 4 = 0
      rw [n2b]; exact a2 z
    · obtain ⟨b1, b2, b3, b4⟩ := a3 z
      have w32 : x'.1.1 32 = x.1.1 32 := w 32 (fun _ => rfl) rfl
      refine ⟨?_, ?_, ?_, ?_⟩
      · show x'.1.1 1 4 = 1
        rw [n2b]; exact b1
      · show x'.1.1 32 0 = kr
        rw [w32]; exact b2
      · show x'.1.1 33 = x'.1.1 115
        rw [w33, w115]; exact b3
      · show TG (x'.1.1 115) kr
        rw [w115]; exact b4
  · obtain ⟨a1, a2, a3, a4, a5⟩ := hLi
    have q46 : ∀ j, j < 4 → x'.1.1 46 j = x.1.1 46 j := fun j hj => n1 46 j (by show decide (j < 4) = true; simp [hj]) rfl
    have a1' : x.1.1 46 2 = la := a1
    have a2' : x.1.1 113 33 = la := a2
    refine ⟨?_, ?_, a3, a4, fun z => ?_⟩
    · show x'.1.1 46 2 = la
      rw [q46 2 (by omega)]; exact a1'
    · show x'.1.1 113 33 = la
      rw [n2f]; exact a2'
    · obtain ⟨lr, lb, ow, b1, b2, b3, b4, b5, b6, b7, b8, b9⟩ := a5 z
      have w47 : x'.1.1 47 = x.1.1 47 := w 47 (fun _ => rfl) rfl
      have w129 : x'.1.1 129 = x.1.1 129 := w 129 (fun _ => rfl) rfl
      have w130 : x'.1.1 130 = x.1.1 130 := w 130 (fun _ => rfl) rfl
      have b9' : ∀ i, i < la → x.1.1 47 i = x.1.1 129 i ∧ 0 ≤ x.1.1 129 i ∧ x.1.1 129 i ≤ 100000 ∧ x.1.1 130 i = if i < ow then 0 else 1 := b9
      refine ⟨lr, lb, ow, ?_, ?_, ?_, ?_, b5, b6, ?_, b8, fun i hi => ?_⟩
      · show x'.1.1 46 0 = lr
        rw [q46 0 (by omega)]; exact b1
      · show x'.1.1 113 34 = lr
        rw [n2g]; exact b2
      · show x'.1.1 46 1 = lb
        rw [q46 1 (by omega)]; exact b3
      · show x'.1.1 113 35 = lb
        rw [n2h]; exact b4
      · show x'.1.1 46 3 = ow
        rw [q46 3 (by omega)]; exact b7
      · show x'.1.1 47 i = x'.1.1 129 i ∧ 0 ≤ x'.1.1 129 i ∧ x'.1.1 129 i ≤ 100000 ∧ x'.1.1 130 i = if i < ow then 0 else 1
        rw [w47, w129, w130]; exact b9' i hi
  · exact TI9.no f7 f8
  · obtain ⟨a1, a0, a2⟩ := hI
    have a1' : x.1.1 1 2 = x.1.1 113 76 := a1
    have w21 : x'.1.1 21 = x.1.1 21 := w 21 (fun _ => rfl) rfl
    have w155 : x'.1.1 155 = x.1.1 155 := w 155 (fun _ => rfl) rfl
    refine ⟨?_, fun q hq => ?_, ?_⟩
    · show x'.1.1 1 2 = x'.1.1 113 76
      rw [n2a, n2i]; exact a1'
    · show x'.1.1 21 q = x'.1.1 155 q
      rw [w21, w155]; exact a0 q hq
    · rcases a2 with a2 | ⟨a2, ri, pi, mi, a3⟩
      · left
        show x'.1.1 1 2 = 0
        rw [n2a]; exact a2
      · right
        refine ⟨?_, ri, pi, mi, SI.image a3.up (fun c j hc => ?_) ⟨n2j, n2k, n2l⟩⟩
        · show x'.1.1 1 2 = 1
          rw [n2a]; exact a2
        · unfold vw
          by_cases hr : rel c j = true
          · rw [if_pos hr, if_pos hr]
            refine n1 c j hr ?_
            rcases hc with hc | hc
            · rcases (show c = 17 ∨ c = 18 ∨ c = 19 ∨ c = 20 ∨ c = 21 ∨ c = 22 ∨ c = 23 ∨ c = 24 ∨ c = 25 ∨ c = 26 ∨ c = 27 ∨ c = 28 ∨ c = 29 ∨ c = 30 ∨ c = 31 by omega) with rfl | rfl | rfl | rfl | rfl | rfl | rfl | rfl | rfl | rfl | rfl | rfl | rfl | rfl | rfl <;> rfl
            · rcases (show c = 155 ∨ c = 156 ∨ c = 157 ∨ c = 158 ∨ c = 159 ∨ c = 160 by omega) with rfl | rfl | rfl | rfl | rfl | rfl <;> rfl
          · rw [if_neg hr, if_neg hr]

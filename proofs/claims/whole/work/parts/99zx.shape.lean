/-! ===== shapes: the class ===== -/
theorem b1_some {α β : Type} {a : α} {k : α → Option β} : b1 (some a) k = k a := rfl
theorem sp9_f {r : Nat} {may : Nat → (Nat → Nat) → Bool} {S H : (Nat → Nat) → Bool} {n i : Nat} {x : Nat → Nat} {s : Ac9} : sp9 r false may S H (n + 1) i x s = fo9 (fun v s => if may i (fu x i v) = true then sp9 r false may S H n (i + 1) (fu x i v) s else s) r s := rfl
theorem x9_placeP {o : Nat} {d : DA} {x : Nat → Nat} (hx : ∀ q, q < 9 → d.1 (o + 3) q = (x q : Nat)) : ∃ h, X9_placePentagon o d = some ((), wA d (o + 4) h) ∧ h 0 = (six (x 5) (x 2) (x 3) (x 4) (x 6) (x 8) : Nat) ∧ h 1 = (six (x 0) (x 1) (x 8) (x 4) (x 5) (x 7) : Nat) ∧ h 2 = (six (x 0) (x 1) (x 2) (x 6) (x 5) 0 : Nat) ∧ h 3 = (six (x 0) 0 (x 3) (x 4) (x 6) (x 7) : Nat) ∧ h 4 = (six (x 1) (x 2) (x 3) (x 7) 0 (x 8) : Nat) := by
  have sx : ∀ (a b c e g h : Nat), ((((((243 * (a : Int)) + (81 * (b : Int))) + (27 * (c : Int))) + (9 * (e : Int))) + (3 * (g : Int))) + (h : Int)) = ((six a b c e g h : Nat) : Int) := fun a b c e g h => by unfold six; omega
  have s2 := sx (x 0) (x 1) (x 2) (x 6) (x 5) 0
  have s3 := sx (x 0) 0 (x 3) (x 4) (x 6) (x 7)
  have s4 := sx (x 1) (x 2) (x 3) (x 7) 0 (x 8)
  rw [show ((0 : Nat) : Int) = 0 from rfl] at s2 s3 s4
  refine ⟨fu (fu (fu (fu (fu (d.1 (o + 4)) 0 (six (x 5) (x 2) (x 3) (x 4) (x 6) (x 8) : Nat)) 1 (six (x 0) (x 1) (x 8) (x 4) (x 5) (x 7) : Nat)) 2 (six (x 0) (x 1) (x 2) (x 6) (x 5) 0 : Nat)) 3 (six (x 0) 0 (x 3) (x 4) (x 6) (x 7) : Nat)) 4 (six (x 1) (x 2) (x 3) (x 7) 0 (x 8) : Nat), ?_, ?_, ?_, ?_, ?_, ?_⟩
  · unfold X9_placePentagon X9_place
    have ne : o + 3 ≠ o + 4 := by omega
    simp only [gd_pos (show ix 0 9 by decide), gd_pos (show ix 1 9 by decide), gd_pos (show ix 2 9 by decide), gd_pos (show ix 3 9 by decide), gd_pos (show ix 4 9 by decide), gd_pos (show ix 5 9 by decide), gd_pos (show ix 6 9 by decide), gd_pos (show ix 7 9 by decide), gd_pos (show ix 8 9 by decide), gd_pos (show ix 0 5 by decide), gd_pos (show ix 1 5 by decide), gd_pos (show ix 2 5 by decide), gd_pos (show ix 3 5 by decide), gd_pos (show ix 4 5 by decide), lt_pos, b1_some, wI_ne ne, show Int.toNat 0 = 0 from rfl, show Int.toNat 1 = 1 from rfl, show Int.toNat 2 = 2 from rfl, show Int.toNat 3 = 3 from rfl, show Int.toNat 4 = 4 from rfl, show Int.toNat 5 = 5 from rfl, show Int.toNat 6 = 6 from rfl, show Int.toNat 7 = 7 from rfl, show Int.toNat 8 = 8 from rfl, hx 0 (by omega), hx 1 (by omega), hx 2 (by omega), hx 3 (by omega), hx 4 (by omega), hx 5 (by omega), hx 6 (by omega), hx 7 (by omega), hx 8 (by omega), sx, s2, s3, s4]
    rw [wI_A (d := d) (c := o + 4) (k := 0), wA_wI, wA_wI, wA_wI, wA_wI]
  · simp [fu_app]
  · simp [fu_app]
  · simp [fu_app]
  · simp [fu_app]
  · simp [fu_app]
def FrC (d0 d : DA) : Prop := d.2 = d0.2 ∧ ∀ c j, c ≠ 14 → c ≠ 15 → c ≠ 16 → (c ≠ 11 ∨ (j ≠ 6 ∧ j ≠ 7)) → d.1 c j = d0.1 c j
theorem FrC.rf (d : DA) : FrC d d := ⟨rfl, fun _ _ _ _ _ _ => rfl⟩
theorem FrC.c {d0 d : DA} (h : FrC d0 d) {c : Nat} (h1 : c ≠ 14) (h2 : c ≠ 15) (h3 : c ≠ 16) (h4 : c ≠ 11) : d.1 c = d0.1 c := funext fun j => h.2 c j h1 h2 h3 (Or.inl h4)
theorem FrC.w {d0 d : DA} (h : FrC d0 d) {c : Nat} {f : Nat → Int} (hc : c = 14 ∨ c = 15 ∨ c = 16) : FrC d0 (wA d c f) := ⟨h.1, fun i j z1 z2 z3 z4 => by rw [wA_ne (by omega)]; exact h.2 i j z1 z2 z3 z4⟩
theorem FrC.n {d0 d : DA} (h : FrC d0 d) {k : Nat} {v : Int} (hk : k = 6 ∨ k = 7) : FrC d0 (wI d 11 k v) := ⟨h.1, fun c j z1 z2 z3 z4 => by
  by_cases e : c = 11
  · subst e
    rw [wI_at, fu_n (by rcases z4 with z | z; exact absurd rfl z; omega)]; exact h.2 11 j z1 z2 z3 z4
  · rw [wI_ne e]; exact h.2 c j z1 z2 z3 z4⟩
def CA9 (d : DA) (s : Ac9) : Prop := d.1 11 6 = s.1 ∧ d.1 11 7 = s.2.1 ∧ (s.2.1 ≠ 0 → ∀ q, q < 9 → d.1 16 q = s.2.2 q)
/-- the frame, the counts, the kinds that are put -/
def PN (d0 : DA) (m : Nat) (x : Nat → Nat) (s : Ac9) (d : DA) : Prop := FrC d0 d ∧ CA9 d s ∧ ∀ q, q < m → d.1 14 q = (x q : Nat)
/-- what the class's data are -/
def CD (d0 : DA) (n F R : Nat → Int) (r p : Nat) : Prop := d0.1 5 0 = r ∧ d0.1 6 = n ∧ d0.1 12 = F ∧ d0.1 13 = R ∧ d0.1 58 0 = p
theorem FrC.D {d0 d : DA} (h : FrC d0 d) {n F R : Nat → Int} {r p : Nat} (hD : CD d0 n F R r p) : CD d n F R r p := by
  unfold CD at hD ⊢
  rw [h.c (c := 5) (by decide) (by decide) (by decide) (by decide), h.c (c := 6) (by decide) (by decide) (by decide) (by decide), h.c (c := 12) (by decide) (by decide) (by decide) (by decide), h.c (c := 13) (by decide) (by decide) (by decide) (by decide), h.c (c := 58) (by decide) (by decide) (by decide) (by decide)]
  exact hD
theorem x8_at9 {d : DA} {n : Nat → Int} {a b c : Nat} (hn : d.1 6 = n) (ha : a < 5) (hb : b < 5) (hc : c < 5) : X8_at 5 a b c d = some (n (ti a b c)) := by
  rw [x8_at ha hb hc, ← hn]; rfl
theorem PN.nine {d0 d : DA} {m k v : Nat} {x : Nat → Nat} {s : Ac9} (h : PN d0 m x s d) (hk : m ≤ k) : PN d0 m x s (wI d 14 k v) := by
  obtain ⟨h1, h2, h3⟩ := h
  refine ⟨by rw [wI_A]; exact h1.w (Or.inl rfl), ?_, fun q hq => by rw [wI_at, fu_n (by omega)]; exact h3 q hq⟩
  unfold CA9
  rw [wI_ne (by decide), wI_ne (by decide)]
  exact h2
theorem PN.more {d0 d : DA} {m v : Nat} {x : Nat → Nat} {s : Ac9} (h : PN d0 m x s d) : PN d0 (m + 1) (fu x m v) s (wI d 14 m v) := by
  obtain ⟨h1, h2, h3⟩ := h.nine (k := m) (v := v) (Nat.le_refl _)
  refine ⟨h1, h2, fun q hq => ?_⟩
  by_cases c : q = m
  · subst c; rw [wI_at, fu_s, fu_app, if_pos rfl]
  · rw [h3 q (by omega), fu_app, if_neg c]
theorem PN.less {d0 d : DA} {m k : Nat} {x y : Nat → Nat} {s : Ac9} (h : PN d0 m x s d) (hk : k ≤ m) (hx : ∀ q, q < k → x q = y q) : PN d0 k y s d := ⟨h.1, h.2.1, fun q hq => by rw [← hx q hq]; exact h.2.2 q (by omega)⟩
theorem cpen {d0 d : DA} {n F R : Nat → Int} {r p : Nat} {x : Nat → Nat} {s : Ac9} (hD : CD d0 n F R r p) (h3 : r ≤ 3) (h2 : 2 ≤ p) (h31 : p ≤ 31) (hb : ∀ a b c e g h, a < r → b < r → c < r → e < r → g < r → h < r → 0 ≤ F (six a b c e g h) ∧ F (six a b c e g h) < p) (hx : ∀ q, q < 9 → x q < r) (hB : Bd9a 100000 s) (h : PN d0 9 x s d) : ∃ d', X9_checkPentagon 11 58 d = some ((), d') ∧ PN d0 9 x (lf9a true (pnB F p r x) x s) d' := by
  obtain ⟨f1, ⟨c1, c2, c3⟩, x1⟩ := h
  generalize hd1 : wI d 11 6 ((s.1 : Int) + 1) = d1
  have g1 : FrC d0 d1 := by rw [← hd1]; exact f1.n (Or.inl rfl)
  have x14 : ∀ q, q < 9 → d1.1 (11 + 3) q = (x q : Nat) := fun q hq => by
    show d1.1 14 q = _
    rw [← hd1, wI_ne (by decide)]; exact x1 q hq
  obtain ⟨h, p1, p2, p3, p4, p5, p6⟩ := x9_placeP x14
  generalize hd2 : wA d1 (11 + 4) h = d2 at p1
  have hd2' : wA d1 15 h = d2 := hd2
  have g2 : FrC d0 d2 := by rw [← hd2']; exact g1.w (Or.inr (Or.inl rfl))
  obtain ⟨k1, k2, k3, k4, k5⟩ := g2.D hD
  have q15 : d2.1 15 = h := by rw [← hd2', wA_at]
  have w7 : d2.1 11 7 = s.2.1 := by rw [← hd2', wA_ne (by decide), ← hd1, wI_at, fu_n (by decide)]; exact c2
  have w6 : d2.1 11 6 = ((s.1 + 1 : Nat) : Int) := by rw [← hd2', wA_ne (by decide), ← hd1, wI_at, fu_s]; omega
  have w14 : d2.1 14 = d.1 14 := by rw [← hd2', wA_ne (by decide), ← hd1, wI_ne (by decide)]
  have w16 : d2.1 16 = d.1 16 := by rw [← hd2', wA_ne (by decide), ← hd1, wI_ne (by decide)]
  obtain ⟨y1, y2⟩ := x9_pent (d := d2) (o := 11) (a1 := 11 + 4) (n1 := 5) (fr := 0) (x := x) k1 h3 k5 h2 h31 k3 hb hx (by omega) (by omega) (by show d2.1 15 0 = _; rw [q15]; exact p2) (by show d2.1 15 1 = _; rw [q15]; exact p3) (by show d2.1 15 2 = _; rw [q15]; exact p4) (by show d2.1 15 3 = _; rw [q15]; exact p5) (by show d2.1 15 4 = _; rw [q15]; exact p6)
  unfold X9_checkPentagon
  rw [lt_pos, c1, hd1, bd_pos p1]
  by_cases cB : pnB F p r x = true
  · have y1' : X9_pentagonHolds 11 (11 + 4) 5 58 0 d2 = some 1 := y1 (pnB_iff.mp cB)
    rw [b1_pos y1', gd_pos (by omega), if_neg (by decide), cB]
    exact ⟨d2, rfl, g2, ⟨w6, w7, fun z q hq => by rw [w16]; exact c3 z q hq⟩, fun q hq => by rw [w14]; exact x1 q hq⟩
  · have cB' : pnB F p r x = false := by cases h : pnB F p r x; rfl; exact absurd h cB
    have y2' : X9_pentagonHolds 11 (11 + 4) 5 58 0 d2 = some 0 := y2 (fun z => cB (pnB_iff.mpr z))
    have hs := hB.1
    have hs2 := hB.2
    rw [b1_pos y2', gd_pos (by omega), if_pos rfl, w7, gd_pos (by omega), cB']
    by_cases c0 : s.2.1 = 0
    · rw [if_pos (by omega), gd_pos (by unfold cpg; omega), lt_pos]
      have ecp : cpI d2 (11 + 3) 0 (11 + 5) 0 ((9 : Nat) : Int) = wA d2 16 (pre (d2.1 16) (fun q => d2.1 14 q) 9) := cp_A
      rw [ecp]
      unfold X9_checkPentagon_j52
      have w7' : (wA d2 16 (pre (d2.1 16) (fun q => d2.1 14 q) 9)).1 11 7 = s.2.1 := by rw [wA_ne (by decide)]; exact w7
      rw [lt_pos, w7']
      refine ⟨_, rfl, (g2.w (Or.inr (Or.inr rfl))).n (Or.inr rfl), ⟨?_, ?_, fun _ q hq => ?_⟩, fun q hq => ?_⟩
      · rw [wI_at, fu_n (by decide), wA_ne (by decide)]; exact w6
      · rw [wI_at, fu_s]; show (s.2.1 : Int) + 1 = ((s.2.1 + 1 : Nat) : Int); omega
      · rw [wI_ne (by decide), wA_at, pre_lt hq, w14, x1 q hq]
        show _ = (((if s.2.1 = 0 then x else s.2.2) q : Nat) : Int)
        rw [if_pos c0]
      · rw [wI_ne (by decide), wA_ne (by decide), w14]; exact x1 q hq
    · rw [if_neg (by omega)]
      unfold X9_checkPentagon_j52
      rw [lt_pos, w7]
      refine ⟨_, rfl, g2.n (Or.inr rfl), ⟨?_, ?_, fun _ q hq => ?_⟩, fun q hq => ?_⟩
      · rw [wI_at, fu_n (by decide)]; exact w6
      · rw [wI_at, fu_s]; show (s.2.1 : Int) + 1 = ((s.2.1 + 1 : Nat) : Int); omega
      · rw [wI_ne (by decide), w16, c3 c0 q hq]
        show _ = (((if s.2.1 = 0 then x else s.2.2) q : Nat) : Int)
        rw [if_neg c0]
      · rw [wI_ne (by decide), w14]; exact x1 q hq

/-! ===== holds: the step ===== -/
def Wb (P : Prop) (w a : Int) : Prop := (P → w = a) ∧ (¬ P → w = 0)
theorem Wb.u {P : Prop} {w w' a : Int} (h : Wb P w a) (h' : Wb P w' a) : w = w' := by
  by_cases c : P
  · rw [h.1 c, h'.1 c]
  · rw [h.2 c, h'.2 c]
theorem Wb.or {P : Prop} {w a : Int} (h : Wb P w a) : w = 0 ∨ w = a := by
  by_cases c : P
  · exact Or.inr (h.1 c)
  · exact Or.inl (h.2 c)
/-- the class's four bits -/
theorem x10_laws {d : DA} {n : Nat → Int} {r p : Nat} {iv : Int → Int} {du : Nat → Nat} {D P : Int} {S : Mx} {t : Nat → Int} (hT : TG n r) (h6 : d.1 68 6 = r) (h7 : d.1 68 7 = D) (hD : 0 ≤ D ∧ D < p) (h8 : d.1 68 8 = P) (hP : 0 ≤ P ∧ P < p) (hn6 : d.1 6 = n) (hp : d.1 58 0 = p) (h2 : 2 ≤ p) (h31 : p ≤ 31) (hiv : IvG p iv) (h9 : ∀ j : Nat, 1 ≤ j → j < p → d.1 59 j = iv j) (hdu : ∀ i, i < r → d.1 7 i = (du i : Nat) ∧ du i < r) (hS : Ms r (d.1 76) S) (bS : Mb p r S) (ht : ∀ k, k < r → d.1 73 k = t k) (tb : Tb p r t) : ∃ d' w1 w2 w3 w4, X10_lawBits 68 d = some (w1 + w2 + w3 + w4, d') ∧ d'.2 = d.2 ∧ (∀ c, c ≠ 60 → (c < 77 ∨ 80 < c) → d'.1 c = d.1 c) ∧ Wb ((gRun p r iv r 0 (S, id9)).1 = true) w1 1 ∧ Wb (L2 p r du D (mm9 p r S S)) w2 2 ∧ Wb (L3 p r P S (mm9 p r S S) t) w3 4 ∧ Wb (L4 n p r iv du D S) w4 8 := by
  have h5 := hT.1.2
  have hp0 : 0 < p := by omega
  obtain ⟨tw, m1, m2⟩ := x3_mul (d := d) (a1 := 76) (n1 := 25) (a2 := 76) (n2 := 25) (a4 := 77) (n4 := 25) (p := p) h5 (by decide) (by decide) (by decide) hS hS bS bS hp h2 h31 (by decide) (by decide) (by decide)
  generalize hd1 : wA d 77 tw = d1 at m1
  have o1 : ∀ c, c ≠ 77 → d1.1 c = d.1 c := fun c z => by rw [← hd1, wA_ne z]
  obtain ⟨f', g', t1, -⟩ := x3_turnB (d := d1) (a1 := 76) (n1 := 25) (c0 := 79) (n0 := 25) (n := r) (p := p) (M := S) (iv := iv) h5 (Nat.le_refl _) (by omega) (Nat.le_refl _) (by omega) (by rw [o1 76 (by decide)]; exact hS) bS (by rw [o1 58 (by decide)]; exact hp) h2 h31 (by decide) (by decide) (by decide) hiv (by rw [o1 59 (by decide)]; exact h9)
  generalize hd2 : wA (wA d1 60 f') 79 g' = d2 at t1
  have o2 : ∀ c, c ≠ 60 → c ≠ 77 → c ≠ 79 → d2.1 c = d.1 c := fun c z1 z2 z3 => by rw [← hd2, wA_ne z3, wA_ne z1, o1 c z2]
  have a77 : d2.1 77 = tw := by rw [← hd2, wA_ne (by decide), wA_ne (by decide), ← hd1, wA_at]
  have bt : Mb p r (mm9 p r S S) := mm9_b hp0
  have x68 : d2.1 68 = d.1 68 := o2 68 (by decide) (by decide) (by decide)
  have tt := x10_twice (d := d2) (p := p) (du := du) (D := D) h5 (by rw [x68]; exact h6) (by rw [x68]; exact h7) hD h31 (by rw [o2 7 (by decide) (by decide) (by decide)]; exact hdu) (by rw [a77]; exact m2) bt
  obtain ⟨f3, g3, k3, v3, e3, e3a, e3b⟩ := x10_thrice (d := d2) (p := p) (P := P) (S := S) (t := t) h5 (by rw [x68]; exact h6) (by rw [x68]; exact h8) hP (by rw [o2 58 (by decide) (by decide) (by decide)]; exact hp) h2 h31 (by rw [o2 76 (by decide) (by decide) (by decide)]; exact hS) bS (by rw [a77]; exact m2) bt (by rw [o2 73 (by decide) (by decide) (by decide)]; exact ht) tb
  generalize hd3 : wA (wA (wA d2 78 f3) 79 g3) 80 k3 = d3 at e3
  have o3 : ∀ c, c ≠ 60 → (c < 77 ∨ 80 < c) → d3.1 c = d.1 c := fun c z1 z2 => by rw [← hd3, wA_ne (by omega), wA_ne (by omega), wA_ne (by omega), o2 c z1 (by omega) (by omega)]
  have y68 : d3.1 68 = d.1 68 := o3 68 (by decide) (by omega)
  have ww := x10_wins (d := d3) (n := n) (p := p) (iv := iv) (du := du) (D := D) (S := S) hT (by rw [y68]; exact h6) (by rw [y68]; exact h7) hD (by rw [o3 6 (by decide) (by omega)]; exact hn6) (by rw [o3 58 (by decide) (by omega)]; exact hp) h2 h31 hiv (by rw [o3 59 (by decide) (by omega)]; exact h9) (by rw [o3 7 (by decide) (by omega)]; exact hdu) (by rw [o3 76 (by decide) (by omega)]; exact hS) bS
  -- the bits
  obtain ⟨w1, hw1⟩ : ∃ w1 : Int, w1 = if (gRun p r iv r 0 (S, id9)).1 = true then 1 else 0 := ⟨_, rfl⟩
  have W1 : Wb ((gRun p r iv r 0 (S, id9)).1 = true) w1 1 := ⟨fun z => by rw [hw1, if_pos z], fun z => by rw [hw1, if_neg z]⟩
  have v301 : v3 = 0 ∨ v3 = 1 := by
    by_cases c : L3 p r P S (mm9 p r S S) t
    · exact Or.inr (e3a c)
    · exact Or.inl (e3b c)
  obtain ⟨v4, hv4, hv4a⟩ : ∃ v4 : Int, X10_winsBack 68 d3 = some v4 ∧ Wb (L4 n p r iv du D S) v4 1 := by
    by_cases c : L4 n p r iv du D S
    · exact ⟨1, ww.1 c, fun _ => rfl, fun z => absurd c z⟩
    · exact ⟨0, ww.2 c, fun z => absurd z c, fun _ => rfl⟩
  obtain ⟨v2, hv2, hv2a⟩ : ∃ v2 : Int, X10_twiceIsDuals 68 d2 = some v2 ∧ Wb (L2 p r du D (mm9 p r S S)) v2 1 := by
    by_cases c : L2 p r du D (mm9 p r S S)
    · exact ⟨1, tt.1 c, fun _ => rfl, fun z => absurd c z⟩
    · exact ⟨0, tt.2 c, fun z => absurd z c, fun _ => rfl⟩
  have v401 := hv4a.or
  have v201 := hv2a.or
  have v101 := W1.or
  refine ⟨d3, w1, 2 * v2, 4 * v3, 8 * v4, ?_, by rw [← hd3, ← hd2, ← hd1]; rfl, o3, W1, ⟨fun z => by rw [hv2a.1 z]; rfl, fun z => by rw [hv2a.2 z]; rfl⟩, ⟨fun z => by rw [e3a z]; rfl, fun z => by rw [e3b z]; rfl⟩, ⟨fun z => by rw [hv4a.1 z]; rfl, fun z => by rw [hv4a.2 z]; rfl⟩⟩
  have j79 : ∀ a b : Int, X10_lawBits_j79 68 a b d3 = some (a + b + 8 * v4, d3) := fun a b => by
    unfold X10_lawBits_j79
    rw [lt_pos, b1_pos hv4, gd_pos (by omega)]
    rcases v401 with z | z
    · rw [if_pos z, z]; rfl
    · rw [if_neg (by omega), z]; rfl
  have j64 : ∀ a b : Int, X10_lawBits_j64 68 a b d2 = some (a + b + 4 * v3 + 8 * v4, d3) := fun a b => by
    unfold X10_lawBits_j64
    rw [lt_pos, bd_pos e3, gd_pos (by omega)]
    rcases v301 with z | z
    · rw [if_pos z, j79, z]; rfl
    · rw [if_neg (by omega), j79, z]; rfl
  have j50 : ∀ a : Int, X10_lawBits_j50 68 a d2 = some (a + 2 * v2 + 4 * v3 + 8 * v4, d3) := fun a => by
    unfold X10_lawBits_j50
    rw [b1_pos hv2, gd_pos (by omega)]
    rcases v201 with z | z
    · rw [if_pos z, j64, z]; rfl
    · rw [if_neg (by omega), j64, z]; rfl
  unfold X10_lawBits
  have m1' : X3_multiply (68 - 10) (68 + 8) 25 (68 + 8) 25 (68 + 9) 25 r d = some ((), d1) := m1
  have x1 : d1.1 68 6 = r := by rw [o1 68 (by decide)]; exact h6
  rw [← hw1] at t1
  have t1' : X3_turnBack (68 - 10) (68 + 8) 25 (68 + 11) 25 r d1 = some (w1, d2) := t1
  rw [h6, bd_pos m1', x1, bd_pos t1', gd_pos (by omega)]
  rcases v101 with z | z
  · rw [if_pos z, j50, z]
  · rw [if_neg (by omega), j50, z]
/-- the reference's four bits -/
theorem x12_laws {d : DA} {n c t : Nat → Int} {r p : Nat} {iv : Int → Int} {du : Nat → Nat} {S : Mx} (hT : TG n r) (hR : RD9 d n c t r p) (h2 : 2 ≤ p) (h31 : p ≤ 31) (hiv : IvG p iv) (hb : Cb p r c) (tb : Tb p r t) (hdu : ∀ i, i < r → ptn (fun j => n (ti i j 0)) r = (du i : Nat) ∧ du i < r) (hS : S = sS9 n r p iv c t) : ∃ d' w1 w2 w3 w4, X12_holdsOf 113 d = some (ior9 (ior9 (ior9 w1 w2) w3) w4, d') ∧ d'.2 = d.2 ∧ (∀ q, (q < 138 ∨ 145 < q) → d'.1 q = d.1 q) ∧ Wb ((gRun p r iv r 0 (S, id9)).1 = true) w1 1 ∧ Wb (L2 p r du (Dq9 p r c) (mm9 p r S S)) w2 2 ∧ Wb (L3 p r (Pq9 p r c t) S (mm9 p r S S) t) w3 4 ∧ Wb (L4 n p r iv du (Dq9 p r c) S) w4 8 := by
  have h5 := hT.1.2
  have hp0 : 0 < p := by omega
  obtain ⟨s, s1, s2⟩ := x12_tellS (d := d) (n := n) (iv := iv) (c := c) (t := t) hT hR.1 hR.2.1 hR.2.2.1 h2 h31 hiv hR.2.2.2.1 hb hR.2.2.2.2 tb
  rw [← hS] at s2
  have bS : Mb p r S := by rw [hS]; exact sS9_b hp0
  have hR1 : RD9 (wA d 143 s) n c t r p := hR.w (by omega)
  obtain ⟨f, g, t1⟩ := x12_sturn (d := wA d 143 s) (iv := iv) (S := S) h5 hR1 h2 h31 hiv (by rw [wA_at]; exact s2) bS
  generalize hd2 : wA (wA (wA d 143 s) 138 f) 139 g = d2 at t1
  have hR2 : RD9 d2 n c t r p := by rw [← hd2]; exact (hR1.w (by omega)).w (by omega)
  have a2 : d2.1 143 = s := by rw [← hd2, wA_ne (by decide), wA_ne (by decide), wA_at]
  obtain ⟨f2, g2, v2, e2, e2a, e2b⟩ := x12_sq (d := d2) (S := S) (du := du) hT hR2 h2 h31 hb tb hdu (by rw [a2]; exact s2) bS
  generalize hd3 : wA (wA d2 145 f2) 144 g2 = d3 at e2
  have hR3 : RD9 d3 n c t r p := by rw [← hd3]; exact (hR2.w (by omega)).w (by omega)
  have a3 : d3.1 143 = s := by rw [← hd3, wA_ne (by decide), wA_ne (by decide)]; exact a2
  obtain ⟨d4, v3, e3, e3o, e3f, e3a, e3b⟩ := x12_cube (d := d3) (S := S) hT hR3 h2 h31 hb tb (by rw [a3]; exact s2) bS
  have hR4 : RD9 d4 n c t r p := by
    unfold RD9 at hR3 ⊢
    rw [e3f 114 (by decide) (by decide) (by decide), e3f 113 (by decide) (by decide) (by decide), e3f 135 (by decide) (by decide) (by decide), e3f 119 (by decide) (by decide) (by decide)]
    exact hR3
  have a4 : d4.1 143 = s := by rw [e3f 143 (by decide) (by decide) (by decide)]; exact a3
  have ww := x12_won (d := d4) (iv := iv) (du := du) (S := S) hT hR4 h2 h31 hiv hb tb hdu (by rw [a4]; exact s2) bS
  obtain ⟨w1, hw1⟩ : ∃ w1 : Int, w1 = if (gRun p r iv r 0 (S, id9)).1 = true then 1 else 0 := ⟨_, rfl⟩
  have W1 : Wb ((gRun p r iv r 0 (S, id9)).1 = true) w1 1 := ⟨fun z => by rw [hw1, if_pos z], fun z => by rw [hw1, if_neg z]⟩
  have v301 : v3 = 0 ∨ v3 = 1 := by
    by_cases cc : L3 p r (Pq9 p r c t) S (mm9 p r S S) t
    · exact Or.inr (e3a cc)
    · exact Or.inl (e3b cc)
  have v201 : v2 = 0 ∨ v2 = 1 := by
    by_cases cc : L2 p r du (Dq9 p r c) (mm9 p r S S)
    · exact Or.inr (e2a cc)
    · exact Or.inl (e2b cc)
  obtain ⟨v4, hv4, hv4a⟩ : ∃ v4 : Int, X12_isWonBack 113 d4 = some v4 ∧ Wb (L4 n p r iv du (Dq9 p r c) S) v4 1 := by
    by_cases cc : L4 n p r iv du (Dq9 p r c) S
    · exact ⟨1, ww.1 cc, fun _ => rfl, fun z => absurd cc z⟩
    · exact ⟨0, ww.2 cc, fun z => absurd z cc, fun _ => rfl⟩
  have v401 := hv4a.or
  have v101 := W1.or
  refine ⟨d4, w1, 2 * v2, 4 * v3, 8 * v4, ?_, by rw [e3o, ← hd3, ← hd2]; rfl, fun q hq => by rw [e3f q (by omega) (by omega) (by omega), ← hd3, wA_ne (by omega), wA_ne (by omega), ← hd2, wA_ne (by omega), wA_ne (by omega), wA_ne (by omega)], W1, ⟨fun z => by rw [e2a z]; rfl, fun z => by rw [e2b z]; rfl⟩, ⟨fun z => by rw [e3a z]; rfl, fun z => by rw [e3b z]; rfl⟩, ⟨fun z => by rw [hv4a.1 z]; rfl, fun z => by rw [hv4a.2 z]; rfl⟩⟩
  have j41 : ∀ a b : Int, X12_holdsOf_j41 113 a b d4 = some (ior9 (ior9 a b) (8 * v4), d4) := fun a b => by
    unfold X12_holdsOf_j41
    rw [b1_pos hv4, gd_pos (by omega)]
    rcases v401 with z | z
    · rw [if_pos z, z]; rfl
    · rw [if_neg (by omega), z]; rfl
  have j28 : ∀ a b : Int, X12_holdsOf_j28 113 a b d3 = some (ior9 (ior9 (ior9 a b) (4 * v3)) (8 * v4), d4) := fun a b => by
    unfold X12_holdsOf_j28
    rw [bd_pos e3, gd_pos (by omega)]
    rcases v301 with z | z
    · rw [if_pos z, j41, z]; rfl
    · rw [if_neg (by omega), j41, z]; rfl
  have j16 : ∀ a : Int, X12_holdsOf_j16 113 a d2 = some (ior9 (ior9 (ior9 a (2 * v2)) (4 * v3)) (8 * v4), d4) := fun a => by
    unfold X12_holdsOf_j16
    rw [bd_pos e2, gd_pos (by omega)]
    rcases v201 with z | z
    · rw [if_pos z, j28, z]; rfl
    · rw [if_neg (by omega), j28, z]; rfl
  unfold X12_holdsOf
  rw [← hw1] at t1
  rw [bd_pos s1, bd_pos t1, gd_pos (by omega)]
  rcases v101 with z | z
  · rw [if_pos z, j16, z]
  · rw [if_neg (by omega), j16, z]
theorem bits9 {w1 w2 w3 w4 : Int} (h1 : w1 = 0 ∨ w1 = 1) (h2 : w2 = 0 ∨ w2 = 2) (h3 : w3 = 0 ∨ w3 = 4) (h4 : w4 = 0 ∨ w4 = 8) : ior9 (ior9 (ior9 w1 w2) w3) w4 = w1 + w2 + w3 + w4 := by
  rcases h1 with rfl | rfl <;> rcases h2 with rfl | rfl <;> rcases h3 with rfl | rfl <;> rcases h4 with rfl | rfl <;> decide

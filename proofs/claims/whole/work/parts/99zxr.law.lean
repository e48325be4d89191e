/-! ===== products of squares, and laws looked through row by row ===== -/
def mm9 (p r : Nat) (A B : Mx) : Mx := fun i j => (sm r fun k => A i k * B k j) % (p : Int)
theorem mm9_b {p r : Nat} {A B : Mx} (hp : 0 < p) : Mb p r (mm9 p r A B) := fun _ _ _ _ => em_bd hp _
theorem mm_bd {p r i j : Nat} {A B : Mx} (h5 : r ≤ 5) (h31 : p ≤ 31) (hA : Mb p r A) (hB : Mb p r B) (hi : i < r) (hj : j < r) : 0 ≤ (sm r fun k => A i k * B k j) ∧ (sm r fun k => A i k * B k j) ≤ 4500 := by
  have := sm_bd (lo := 0) (hi := 900) (f := fun k => A i k * B k j) r (fun k hk => by
    have b1 := hA i k hi hk
    have b2 := hB k j hk hj
    exact mlb9 (u := 30) (v := 30) (by omega) (by omega))
  omega
theorem x3_mul {d : DA} {a1 n1 a2 n2 a4 n4 r p : Nat} {A B : Mx} (h5 : r ≤ 5) (hn1 : 25 ≤ n1 ∧ n1 < 2147483648) (hn2 : 25 ≤ n2 ∧ n2 < 2147483648) (hn4 : 25 ≤ n4 ∧ n4 < 2147483648) (hA : Ms r (d.1 a1) A) (hB : Ms r (d.1 a2) B) (bA : Mb p r A) (bB : Mb p r B) (hp : d.1 58 0 = p) (h2 : 2 ≤ p) (h31 : p ≤ 31) (ha1 : a1 ≠ a4) (ha2 : a2 ≠ a4) (h58 : a4 ≠ 58) : ∃ h, X3_multiply 58 a1 n1 a2 n2 a4 n4 r d = some ((), wA d a4 h) ∧ Ms r h (mm9 p r A B) := by
  refine ⟨_, ?_, fun i j hi hj => pm_at (G := mm9 p r A B) (f := d.1 a4) hi hj h5⟩
  unfold X3_multiply
  refine lpE_sq (bi := fun (i : Nat) q => X3_multiply_b12 58 a1 n1 a2 n2 a4 n4 r i q.1 q.2) a4 r (mm9 p r A B) h5 (fun i hi f => ?_) (fun f => ?_) (fun i j hi hj f hf => ?_) (fun i hi f => ?_)
  · show X3_multiply_b3 58 a1 n1 a2 n2 a4 n4 r (i : Int) (wA d a4 f) = _
    unfold X3_multiply_b3
    rw [gd_pos (by omega), if_neg (by omega)]
  · show X3_multiply_b3 58 a1 n1 a2 n2 a4 n4 r (r : Int) (wA d a4 f) = _
    unfold X3_multiply_b3
    rw [gd_pos (by omega), if_pos (by omega)]
  · show X3_multiply_b12 58 a1 n1 a2 n2 a4 n4 r i (j : Int) (wA d a4 f) = _
    unfold X3_multiply_b12
    rw [gd_pos (by omega), if_neg (by omega)]
    have sb := mm_bd h5 h31 bA bB hi hj
    refine (lpS9 (r := r) (fun k => A i k * B k j) (by omega) (fun m hm => ?_) ?_).trans ?_
    · show X3_multiply_b24 58 a1 n1 a2 n2 a4 n4 r i j (sm m _) (m : Int) (wA d a4 f) = _
      have e1 : ((5 * (i : Int)) + (m : Int)).toNat = 5 * i + m := by omega
      have e2 : ((5 * (m : Int)) + (j : Int)).toNat = 5 * m + j := by omega
      unfold X3_multiply_b24
      rw [gd_pos (by omega), if_neg (by omega), gd_pos (by omega), gd_pos (by omega), lt_pos, e1, e2, wA_ne ha1, wA_ne ha2, hA i m hi hm, hB m j hm hj]
      rfl
    · show X3_multiply_b24 58 a1 n1 a2 n2 a4 n4 r i j (sm r _) (r : Int) (wA d a4 f) = _
      unfold X3_multiply_b24
      rw [gd_pos (by omega), if_pos (by omega)]
    · have p58 : (wA d a4 f).1 58 0 = p := by rw [wA_ne (Ne.symm h58)]; exact hp
      have ei : ((5 * (i : Int)) + (j : Int)).toNat = 5 * i + j := by omega
      show X3_multiply_j60_12 58 a1 n1 a2 n2 a4 n4 r i j (sm r fun k => A i k * B k j) (wA d a4 f) = _
      unfold X3_multiply_j60_12
      rw [b1_pos (x3_reduce p58 h2 h31 (by omega) (by omega)), gd_pos (by omega), lt_pos, ei]
      rfl
  · show X3_multiply_b12 58 a1 n1 a2 n2 a4 n4 r i (r : Int) (wA d a4 f) = _
    unfold X3_multiply_b12
    rw [gd_pos (by omega), if_pos (by omega)]
/-- a search whose rows answer nothing or x -/
theorem fs_x {R : Type} {x : R} {Q : Nat → Option R} (r : Nat) (h : ∀ i, i < r → Q i = none ∨ Q i = some x) : (fs9 r Q = none ∧ ∀ i, i < r → Q i = none) ∨ (fs9 r Q = some x ∧ ∃ i, i < r ∧ Q i = some x) := by
  cases hf : fs9 r Q with
  | none => exact Or.inl ⟨rfl, (fs9_none r).mp hf⟩
  | some y =>
    obtain ⟨i, h1, h2, -⟩ := (fs9_some r).mp hf
    rcases h i h1 with z | z
    · rw [z] at h2; cases h2
    · rw [z] at h2; cases h2
      exact Or.inr ⟨rfl, i, h1, z⟩
def s29 {R : Type} (x : R) (r : Nat) (G : Nat → Nat → Prop) [∀ i j, Decidable (G i j)] : Option R := fs9 r fun i => fs9 r fun j => if G i j then none else some x
theorem s29_c {R : Type} {x : R} {r : Nat} {G : Nat → Nat → Prop} [∀ i j, Decidable (G i j)] : (s29 x r G = none ∧ ∀ i j, i < r → j < r → G i j) ∨ (s29 x r G = some x ∧ ¬ ∀ i j, i < r → j < r → G i j) := by
  have one : ∀ i, (fs9 r (fun j => if G i j then none else some x) = none ∧ ∀ j, j < r → G i j) ∨ (fs9 r (fun j => if G i j then none else some x) = some x ∧ ∃ j, j < r ∧ ¬ G i j) := fun i => by
    rcases fs_x (x := x) (Q := fun j => if G i j then none else some x) r (fun j _ => by
      by_cases c : G i j
      · left; exact if_pos c
      · right; exact if_neg c) with ⟨a, b⟩ | ⟨a, j, b, c⟩
    · refine Or.inl ⟨a, fun j hj => ?_⟩
      have := b j hj
      by_cases c : G i j
      · exact c
      · rw [if_neg c] at this; cases this
    · refine Or.inr ⟨a, j, b, fun z => ?_⟩
      rw [if_pos z] at c; cases c
  unfold s29
  rcases fs_x (x := x) (Q := fun i => fs9 r (fun j => if G i j then none else some x)) r (fun i _ => by
    rcases one i with z | z
    · exact Or.inl z.1
    · exact Or.inr z.1) with ⟨a, b⟩ | ⟨a, i, b, c⟩
  · refine Or.inl ⟨a, fun i j hi hj => ?_⟩
    rcases one i with z | z
    · exact z.2 j hj
    · have := b i hi; rw [z.1] at this; cases this
  · refine Or.inr ⟨a, fun z => ?_⟩
    rcases one i with y | ⟨y, j, y1, y2⟩
    · rw [y.1] at c; cases c
    · exact y2 (z i j b y1)
def s39 {R : Type} (x : R) (r : Nat) (G : Nat → Nat → Nat → Prop) [∀ i j k, Decidable (G i j k)] : Option R := fs9 r fun i => s29 x r (G i)
theorem s39_c {R : Type} {x : R} {r : Nat} {G : Nat → Nat → Nat → Prop} [∀ i j k, Decidable (G i j k)] : (s39 x r G = none ∧ ∀ i j k, i < r → j < r → k < r → G i j k) ∨ (s39 x r G = some x ∧ ¬ ∀ i j k, i < r → j < r → k < r → G i j k) := by
  unfold s39
  rcases fs_x (x := x) (Q := fun i => s29 x r (G i)) r (fun i _ => by
    rcases s29_c (x := x) (r := r) (G := G i) with z | z
    · exact Or.inl z.1
    · exact Or.inr z.1) with ⟨a, b⟩ | ⟨a, i, b, c⟩
  · refine Or.inl ⟨a, fun i j k hi hj hk => ?_⟩
    rcases s29_c (x := x) (r := r) (G := G i) with z | z
    · exact z.2 j k hj hk
    · have := b i hi; rw [z.1] at this; cases this
  · refine Or.inr ⟨a, fun z => ?_⟩
    rcases s29_c (x := x) (r := r) (G := G i) with y | ⟨y1, y2⟩
    · rw [y.1] at c; cases c
    · exact y2 (fun j k hj hk => z i j k b hj hk)
/-! the laws -/
def L2 (p r : Nat) (du : Nat → Nat) (D : Int) (tw : Mx) : Prop := ∀ i j, i < r → j < r → tw i j = if du i = j then D else 0
def st9m (p : Nat) (S : Mx) (t : Nat → Int) : Mx := fun i j => (S i j * t j) % (p : Int)
def L3 (p r : Nat) (P : Int) (S tw : Mx) (t : Nat → Int) : Prop := ∀ i j, i < r → j < r → mm9 p r (mm9 p r (st9m p S t) (st9m p S t)) (st9m p S t) i j = (P * tw i j) % (p : Int)
def wn9 (p r : Nat) (iv : Int → Int) (S : Mx) (i j k : Nat) : Int := sm r fun l => S i l * S j l * S k l * iv (S 0 l)
def L4 (n : Nat → Int) (p r : Nat) (iv : Int → Int) (du : Nat → Nat) (D : Int) (S : Mx) : Prop := (∀ l, l < r → S 0 l ≠ 0) ∧ ∀ i j k, i < r → j < r → k < r → cgm p (wn9 p r iv S i j (du k)) (D * n (ti i j k))
/-- the class looks at S by S -/
theorem x10_twice {d : DA} {r p : Nat} {du : Nat → Nat} {D : Int} {tw : Mx} (h5 : r ≤ 5) (h6 : d.1 68 6 = r) (h7 : d.1 68 7 = D) (hD : 0 ≤ D ∧ D < p) (h31 : p ≤ 31) (hdu : ∀ i, i < r → d.1 7 i = (du i : Nat) ∧ du i < r) (htw : Ms r (d.1 77) tw) (bt : Mb p r tw) : (L2 p r du D tw → X10_twiceIsDuals 68 d = some 1) ∧ (¬ L2 p r du D tw → X10_twiceIsDuals 68 d = some 0) := by
  have e : X10_twiceIsDuals 68 d = (s29 (0 : Int) r (fun i j => tw i j = if du i = j then D else 0)).elim (some 1) some := by
    unfold X10_twiceIsDuals s29
    refine lpR_cnt r _ (by omega) (fun i hi => ?_) ?_
    · unfold X10_twiceIsDuals_b2
      rw [h6, gd_pos (by omega), if_neg (by omega)]
      refine (lpR_cnt r (fun j => if tw i j = (if du i = j then D else 0) then none else some 0) (by omega) (fun j hj => ?_) ?_).trans ?_
      · unfold X10_twiceIsDuals_b12
        have e77 : d.1 (68 + 9) ((5 * (i : Int)) + (j : Int)).toNat = tw i j := by
          rw [show ((5 * (i : Int)) + (j : Int)).toNat = 5 * i + j by omega]
          exact htw i j hi hj
        have e7 : d.1 (68 - 63 + 2) i = (du i : Nat) := (hdu i hi).1
        have b := bt i j hi hj
        have bd := (hdu i hi).2
        rw [h6, gd_pos (by omega), if_neg (by omega), gd_pos (by omega), gd_pos (by omega), Int.toNat_natCast, e7, gd_pos (by omega), e77]
        unfold X10_twiceIsDuals_j51_12
        by_cases c : du i = j
        · rw [if_pos (by omega), h7, gd_pos (by omega), if_pos c]
          by_cases c2 : tw i j = D
          · rw [if_pos c2, if_pos c2]; rfl
          · rw [if_neg c2, if_neg c2]; rfl
        · rw [if_neg (by omega), gd_pos (by omega), if_neg c]
          by_cases c2 : tw i j = 0
          · rw [if_pos c2, if_pos c2]; rfl
          · rw [if_neg c2, if_neg c2]; rfl
      · unfold X10_twiceIsDuals_b12
        rw [h6, gd_pos (by omega), if_pos (by omega)]
      · cases fs9 r (fun j => if tw i j = (if du i = j then D else 0) then none else some (0 : Int)) <;> rfl
    · unfold X10_twiceIsDuals_b2
      rw [h6, gd_pos (by omega), if_pos (by omega)]
  rw [e]
  rcases s29_c (x := (0 : Int)) (r := r) (G := fun i j => tw i j = if du i = j then D else 0) with ⟨a, b⟩ | ⟨a, b⟩
  · rw [a]; exact ⟨fun _ => rfl, fun z => absurd b z⟩
  · rw [a]; exact ⟨fun z => absurd z b, fun _ => rfl⟩
/-- the class looks at (S T)(S T)(S T) -/
theorem x10_thrice {d : DA} {r p : Nat} {P : Int} {S tw : Mx} {t : Nat → Int} (h5 : r ≤ 5) (h6 : d.1 68 6 = r) (h8 : d.1 68 8 = P) (hP : 0 ≤ P ∧ P < p) (hp : d.1 58 0 = p) (h2 : 2 ≤ p) (h31 : p ≤ 31) (hS : Ms r (d.1 76) S) (bS : Mb p r S) (htw : Ms r (d.1 77) tw) (bt : Mb p r tw) (ht : ∀ k, k < r → d.1 73 k = t k) (tb : Tb p r t) : ∃ f g h v, X10_thriceIsTwice 68 d = some (v, wA (wA (wA d 78 f) 79 g) 80 h) ∧ (L3 p r P S tw t → v = 1) ∧ (¬ L3 p r P S tw t → v = 0) := by
  have hp0 : 0 < p := by omega
  -- S T
  have e1 : X10_thriceIsTwice 68 d = X10_thriceIsTwice_j66 68 (wA d 78 (pm (d.1 78) (st9m p S t) r r 0)) := by
    unfold X10_thriceIsTwice
    refine lpE_sq (bi := fun (i : Nat) q => X10_thriceIsTwice_b12 68 i q.1 q.2) 78 r (st9m p S t) h5 (fun i hi f => ?_) (fun f => ?_) (fun i j hi hj f hf => ?_) (fun i hi f => ?_)
    · show X10_thriceIsTwice_b2 68 (i : Int) (wA d 78 f) = _
      have e6 : (wA d 78 f).1 68 6 = r := by rw [wA_ne (by decide)]; exact h6
      unfold X10_thriceIsTwice_b2
      rw [e6, gd_pos (by omega), if_neg (by omega)]
    · show X10_thriceIsTwice_b2 68 (r : Int) (wA d 78 f) = _
      have e6 : (wA d 78 f).1 68 6 = r := by rw [wA_ne (by decide)]; exact h6
      unfold X10_thriceIsTwice_b2
      rw [e6, gd_pos (by omega), if_pos (by omega)]
    · show X10_thriceIsTwice_b12 68 i (j : Int) (wA d 78 f) = _
      have e6 : (wA d 78 f).1 68 6 = r := by rw [wA_ne (by decide)]; exact h6
      have p58 : (wA d 78 f).1 58 0 = p := by rw [wA_ne (by decide)]; exact hp
      have ei : ((5 * (i : Int)) + (j : Int)).toNat = 5 * i + j := by omega
      have q1 : (wA d 78 f).1 (68 + 8) (5 * i + j) = S i j := by
        show (wA d 78 f).1 76 _ = _
        rw [wA_ne (by decide)]; exact hS i j hi hj
      have q2 : (wA d 78 f).1 (68 + 5) j = t j := by
        show (wA d 78 f).1 73 _ = _
        rw [wA_ne (by decide)]; exact ht j hj
      have b1 := bS i j hi hj
      have b2 := tb j hj
      have mb := mlb9 (u := 30) (v := 30) (show 0 ≤ S i j ∧ S i j ≤ 30 by omega) (show 0 ≤ t j ∧ t j ≤ 30 by omega)
      have er : X3_reduce (68 - 10) (S i j * t j) (wA d 78 f) = some (st9m p S t i j) := x3_reduce p58 h2 h31 (by omega) (by omega)
      unfold X10_thriceIsTwice_b12
      rw [e6, gd_pos (by omega), if_neg (by omega), gd_pos (by omega), gd_pos (by omega), ei, Int.toNat_natCast, q1, q2, b1_pos er, gd_pos (by omega), lt_pos]
    · show X10_thriceIsTwice_b12 68 i (r : Int) (wA d 78 f) = _
      have e6 : (wA d 78 f).1 68 6 = r := by rw [wA_ne (by decide)]; exact h6
      unfold X10_thriceIsTwice_b12
      rw [e6, gd_pos (by omega), if_pos (by omega)]
  have m0 : Ms r (pm (d.1 78) (st9m p S t) r r 0) (st9m p S t) := fun i j hi hj => pm_at hi hj h5
  generalize pm (d.1 78) (st9m p S t) r r 0 = f at e1 m0
  have bst : Mb p r (st9m p S t) := fun _ _ _ _ => em_bd hp0 _
  obtain ⟨g, g1, g2⟩ := x3_mul (d := wA d 78 f) (a1 := 78) (n1 := 25) (a2 := 78) (n2 := 25) (a4 := 79) (n4 := 25) (p := p) h5 (by decide) (by decide) (by decide) (by rw [wA_at]; exact m0) (by rw [wA_at]; exact m0) bst bst (by rw [wA_ne (by decide)]; exact hp) h2 h31 (by decide) (by decide) (by decide)
  obtain ⟨h, k1, k2⟩ := x3_mul (d := wA (wA d 78 f) 79 g) (a1 := 79) (n1 := 25) (a2 := 78) (n2 := 25) (a4 := 80) (n4 := 25) (p := p) h5 (by decide) (by decide) (by decide) (by rw [wA_at]; exact g2) (by rw [wA_ne (by decide), wA_at]; exact m0) (mm9_b hp0) bst (by rw [wA_ne (by decide), wA_ne (by decide)]; exact hp) h2 h31 (by decide) (by decide) (by decide)
  generalize hE : wA (wA (wA d 78 f) 79 g) 80 h = E at k1
  have E6 : E.1 68 6 = r := by rw [← hE, wA_ne (by decide), wA_ne (by decide), wA_ne (by decide)]; exact h6
  have E8 : E.1 68 8 = P := by rw [← hE, wA_ne (by decide), wA_ne (by decide), wA_ne (by decide)]; exact h8
  have E58 : E.1 58 0 = p := by rw [← hE, wA_ne (by decide), wA_ne (by decide), wA_ne (by decide)]; exact hp
  have E77 : ∀ i j, i < r → j < r → E.1 (68 + 9) (5 * i + j) = tw i j := fun i j hi hj => by
    show E.1 77 _ = _
    rw [← hE, wA_ne (by decide), wA_ne (by decide), wA_ne (by decide)]; exact htw i j hi hj
  have E80 : ∀ i j, i < r → j < r → E.1 (68 + 12) (5 * i + j) = mm9 p r (mm9 p r (st9m p S t) (st9m p S t)) (st9m p S t) i j := fun i j hi hj => by
    show E.1 80 _ = _
    rw [← hE, wA_at]; exact k2 i j hi hj
  have e2 : X10_thriceIsTwice_j66 68 (wA d 78 f) = (s29 ((0 : Int), E) r (fun i j => mm9 p r (mm9 p r (st9m p S t) (st9m p S t)) (st9m p S t) i j = (P * tw i j) % (p : Int))).elim (some (1, E)) some := by
    unfold X10_thriceIsTwice_j66 s29
    have q6 : (wA d 78 f).1 68 6 = r := by rw [wA_ne (by decide)]; exact h6
    have q7 : (wA (wA d 78 f) 79 g).1 68 6 = r := by rw [wA_ne (by decide)]; exact q6
    have g1' : X3_multiply (68 - 10) (68 + 10) 25 (68 + 10) 25 (68 + 11) 25 r (wA d 78 f) = some ((), wA (wA d 78 f) 79 g) := g1
    have k1' : X3_multiply (68 - 10) (68 + 11) 25 (68 + 10) 25 (68 + 12) 25 r (wA (wA d 78 f) 79 g) = some ((), E) := k1
    rw [q6, bd_pos g1', q7, bd_pos k1']
    refine lpR_cnt r _ (by omega) (fun i hi => ?_) ?_
    · unfold X10_thriceIsTwice_b114
      rw [E6, gd_pos (by omega), if_neg (by omega)]
      refine (lpR_cnt r (fun j => if mm9 p r (mm9 p r (st9m p S t) (st9m p S t)) (st9m p S t) i j = (P * tw i j) % (p : Int) then none else some ((0 : Int), E)) (by omega) (fun j hj => ?_) ?_).trans ?_
      · unfold X10_thriceIsTwice_b124
        have ei : ((5 * (i : Int)) + (j : Int)).toNat = 5 * i + j := by omega
        have b1 := bt i j hi hj
        have mb := mlb9 (u := 30) (v := 30) (show 0 ≤ P ∧ P ≤ 30 by omega) (show 0 ≤ tw i j ∧ tw i j ≤ 30 by omega)
        have er : X3_reduce (68 - 10) (P * tw i j) E = some ((P * tw i j) % (p : Int)) := x3_reduce E58 h2 h31 (by omega) (by omega)
        have b2 := mm9_b (r := r) (A := mm9 p r (st9m p S t) (st9m p S t)) (B := st9m p S t) hp0 i j hi hj
        have b3 := em_bd hp0 (P * tw i j)
        rw [E6, gd_pos (by omega), if_neg (by omega), gd_pos (by omega), gd_pos (by omega), ei, E8, E77 i j hi hj, b1_pos er, E80 i j hi hj, gd_pos (by omega)]
        by_cases c : mm9 p r (mm9 p r (st9m p S t) (st9m p S t)) (st9m p S t) i j = (P * tw i j) % (p : Int)
        · rw [if_pos c, if_pos c]; rfl
        · rw [if_neg c, if_neg c]; rfl
      · unfold X10_thriceIsTwice_b124
        rw [E6, gd_pos (by omega), if_pos (by omega)]
      · cases fs9 r (fun j => if mm9 p r (mm9 p r (st9m p S t) (st9m p S t)) (st9m p S t) i j = (P * tw i j) % (p : Int) then none else some ((0 : Int), E)) <;> rfl
    · unfold X10_thriceIsTwice_b114
      rw [E6, gd_pos (by omega), if_pos (by omega)]
  rcases s29_c (x := ((0 : Int), E)) (r := r) (G := fun i j => mm9 p r (mm9 p r (st9m p S t) (st9m p S t)) (st9m p S t) i j = (P * tw i j) % (p : Int)) with ⟨a, b⟩ | ⟨a, b⟩
  · rw [a] at e2
    exact ⟨f, g, h, 1, by rw [e1, e2, hE]; rfl, fun _ => rfl, fun z => absurd b z⟩
  · rw [a] at e2
    exact ⟨f, g, h, 0, by rw [e1, e2, hE]; rfl, fun z => absurd z b, fun _ => rfl⟩

/-! ===== the reference's token ===== -/
def RT9 (B : Nat → Int) (n s : Nat) (f : Nat → Int) : Prop := f 22 = tE B n s ∧ f 26 = s ∧ f 27 = tE B n s ∧ f 24 = tR B n s ∧ (tR B n s = 2 → tE B n s - s ≤ 3 → f 25 = nV B s (tE B n s - s))
def bA (B : Nat → Int) (n u : Nat) : Int := if n ≤ u then -1 else B u
theorem bA_bd {B : Nat → Int} {n u : Nat} (hB : Tp9 B n) : -1 ≤ bA B n u ∧ bA B n u ≤ 255 := by
  unfold bA
  by_cases c : n ≤ u
  · rw [if_pos c]; omega
  · rw [if_neg c]; have := hB.2 u (by omega); omega
theorem x12_byte {B : Nat → Int} {n u : Nat} {d : DA} (hB : Tp9 B n) (h126 : ∀ j, j < n → d.1 126 j = B j) (h23 : d.1 113 23 = n) (hu : u ≤ 400) : X12_byteAt 113 (u : Int) d = some (bA B n u) := by
  unfold X12_byteAt bA
  have hn := hB.1
  rw [h23, gd_pos (by omega)]
  by_cases c : n ≤ u
  · rw [if_pos (by omega), if_pos c]
  · rw [if_neg (by omega), if_neg c, gd_pos (by omega), Int.toNat_natCast]
    have := h126 u (by omega)
    rw [← this]
theorem bA_L {B : Nat → Int} {n u : Nat} : (bL (bA B n u) = true) ↔ (u < n ∧ bL (B u) = true) := by
  unfold bA
  by_cases c : n ≤ u
  · rw [if_pos c]; exact ⟨fun z => absurd z (by decide), fun z => by omega⟩
  · rw [if_neg c]; exact ⟨fun z => ⟨by omega, z⟩, fun z => z.2⟩
theorem bA_D {B : Nat → Int} {n u : Nat} : (bD (bA B n u) = true) ↔ (u < n ∧ bD (B u) = true) := by
  unfold bA
  by_cases c : n ≤ u
  · rw [if_pos c]; exact ⟨fun z => absurd z (by decide), fun z => by omega⟩
  · rw [if_neg c]; exact ⟨fun z => ⟨by omega, z⟩, fun z => z.2⟩
theorem bA_B {B : Nat → Int} {n u : Nat} : (bA B n u = 32 ∨ bA B n u = 10) ↔ (u < n ∧ bB (B u) = true) := by
  unfold bA bB
  simp only [decide_eq_true_eq]
  by_cases c : n ≤ u
  · rw [if_pos c]; exact ⟨fun z => by omega, fun z => by omega⟩
  · rw [if_neg c]; exact ⟨fun z => ⟨by omega, z⟩, fun z => z.2⟩
def rV (B : Nat → Int) (s : Nat) : Nat → Int
  | 0 => 0
  | m + 1 => mmin 10000 (10 * rV B s m + B (s + m) - 48)
theorem rV_bd {B : Nat → Int} {s : Nat} : ∀ m, (∀ i, i < m → bD (B (s + i)) = true) → (0 ≤ rV B s m ∧ rV B s m ≤ 10000) ∧ (m ≤ 3 → rV B s m = nV B s m) := by
  intro m
  induction m with
  | zero => intro _; unfold rV nV; omega
  | succ m ih =>
    intro h
    obtain ⟨a, b⟩ := ih (fun i hi => h i (by omega))
    have hd := h m (by omega)
    unfold bD at hd
    simp only [decide_eq_true_eq] at hd
    refine ⟨?_, fun h3 => ?_⟩
    · unfold rV mmin; split <;> omega
    · have b3 := b (by omega)
      have nb := nV_bd m (fun i hi => h i (by omega))
      have : (10 : Int) ^ m ≤ 100 := by
        rcases (show m = 0 ∨ m = 1 ∨ m = 2 by omega) with rfl | rfl | rfl <;> decide
      unfold rV nV mmin
      rw [b3]
      split <;> omega
def rG (B : Nat → Int) (s : Nat) (f : Nat → Int) (t : Nat) : Nat → Int := fu (fu f 25 (rV B s t)) 22 ((s + t : Nat) : Int)
theorem fu_id {f : Nat → Int} {i : Nat} {v : Int} (h : f i = v) : fu f i v = f := funext fun j => by
  by_cases z : j = i
  · subst z; rw [fu_s, h]
  · rw [fu_n z]
theorem fu_2 {f : Nat → Int} {i : Nat} {v w : Int} : fu (fu f i v) i w = fu f i w := funext fun j => by
  by_cases z : j = i
  · subst z; rw [fu_s, fu_s]
  · rw [fu_n z, fu_n z, fu_n z]
theorem x12_stepJ {B : Nat → Int} {n s : Nat} {d : DA} (hB : Tp9 B n) (h126 : ∀ j, j < n → d.1 126 j = B j) (h23 : d.1 113 23 = n) (h22 : d.1 113 22 = s) (hs : s ≤ n) : ∃ f, X12_stepOn_j39 113 d = some ((), wA d 113 f) ∧ RT9 B n s f ∧ ∀ j, j ≠ 22 → j ≠ 24 → j ≠ 25 → j ≠ 26 → j ≠ 27 → f j = d.1 113 j := by
  have hn := hB.1
  unfold X12_stepOn_j39
  rw [lt_pos, h22, wI_A]
  generalize hf0 : fu (d.1 113) 26 (s : Int) = f0
  have f02 : f0 22 = s := by rw [← hf0, fu_n (by decide)]; exact h22
  have f023 : f0 23 = n := by rw [← hf0, fu_n (by decide)]; exact h23
  have f026 : f0 26 = s := by rw [← hf0, fu_s]
  have f0o : ∀ j, j ≠ 26 → f0 j = d.1 113 j := fun j z => by rw [← hf0, fu_n z]
  have p126 : ∀ f : Nat → Int, ∀ j, j < n → (wA d 113 f).1 126 j = B j := fun f j hj => by rw [wA_ne (by decide)]; exact h126 j hj
  have bb := bA_bd (u := s) hB
  have dlp : ∀ {Y : Type} {b : DA → Option (DA ⊕ DA)} {K : DA → Option Y} {P : Nat → Bool}, (∀ u : Nat, u ≤ n → b (wA d 113 (fu f0 22 (u : Int))) = if u < n ∧ P u = true then some (.inl (wI (wA d 113 (fu f0 22 (u : Int))) 113 22 ((u : Int) + 1))) else some (.inr (wA d 113 (fu f0 22 (u : Int))))) → lpE b (wA d 113 f0) K = K (wA d 113 (fu f0 22 (aeN P n s : Int))) := fun {Y b K P} hb => by
    have := lp_ae (b := b) (K := K) (P := P) (n := n) (q := s) (c := 113) (i := 22) (d := wA d 113 f0) hn (by rw [wA_at]; exact f02) hs (fun u hu => by rw [wA_wA, wA_at]; exact hb u hu)
    rw [wA_wA, wA_at] at this
    exact this
  rw [wA_at, f02, b1_pos (x12_byte hB (p126 f0) (by rw [wA_at]; exact f023) (by omega)), gd_pos (by omega)]
  unfold RT9
  by_cases c0 : n ≤ s
  · have r0 : tR B n s = 0 := by unfold tR; rw [if_pos c0]
    have t0 : tE B n s = s := by unfold tE; rw [if_pos c0]
    have b0 : bA B n s = -1 := by unfold bA; rw [if_pos c0]
    rw [if_pos b0, lt_pos, lt_pos, wA_wI, wA_at, fu_n (by decide), f02, wA_wI, r0, t0]
    exact ⟨_, rfl, ⟨by rw [fu_n (by decide), fu_n (by decide)]; exact f02, by rw [fu_n (by decide), fu_n (by decide)]; exact f026, rfl, by rw [fu_n (by decide), fu_s]; rfl, fun z => absurd z (by decide)⟩, fun j z1 z2 z3 z4 z5 => by rw [fu_n z5, fu_n z2, f0o j z4]⟩
  · have b0 : bA B n s = B s := by unfold bA; rw [if_neg c0]
    have hw := hB.2 s (by omega)
    rw [b0, if_neg (by omega), b1_pos (x12_isL (by omega))]
    by_cases c1 : bL (B s) = true
    · have r0 : tR B n s = 1 := by unfold tR; rw [if_neg c0, if_pos c1]
      have t0 : tE B n s = aeN (fun j => bL (B j)) n s := by unfold tE; rw [if_neg c0, if_pos c1]
      rw [if_pos c1, gd_pos (by decide), if_neg (by decide), r0, t0]
      rw [dlp (P := fun j => bL (B j)) (fun u hu => ?_)]
      · unfold X12_stepOn_j103
        rw [lt_pos, lt_pos, wA_wI, wA_at, fu_n (by decide), fu_s, wA_wI]
        exact ⟨_, rfl, ⟨by rw [fu_n (by decide), fu_n (by decide), fu_s], by rw [fu_n (by decide), fu_n (by decide), fu_n (by decide)]; exact f026, rfl, by rw [fu_n (by decide), fu_s]; rfl, fun z => absurd z (by decide)⟩, fun j z1 z2 z3 z4 z5 => by rw [fu_n z5, fu_n z2, fu_n z1, f0o j z4]⟩
      · unfold X12_stepOn_b76
        have bu := bA_bd (u := u) hB
        rw [wA_at, fu_s, b1_pos (x12_byte hB (p126 _) (by rw [wA_at, fu_n (by decide)]; exact f023) (by omega)), b1_pos (x12_isL bu)]
        by_cases c : u < n ∧ bL (B u) = true
        · rw [if_pos (bA_L.2 c), gd_pos (by decide), if_neg (by decide), lt_pos, if_pos c]
        · rw [if_neg (fun z => c (bA_L.1 z)), gd_pos (by decide), if_pos rfl, if_neg c]
    · rw [if_neg c1, gd_pos (by decide), if_pos rfl, b1_pos (x12_isD (by omega))]
      by_cases c2 : bD (B s) = true
      · have r0 : tR B n s = 2 := by unfold tR; rw [if_neg c0, if_neg c1, if_pos c2]
        have t0 : tE B n s = aeN (fun j => bD (B j)) n s := by unfold tE; rw [if_neg c0, if_neg c1, if_pos c2]
        rw [if_pos c2, gd_pos (by decide), if_neg (by decide), r0, t0, lt_pos]
        obtain ⟨a1, a2, a3, a4⟩ := aeN_sp (P := fun j => bD (B j)) (n := n) (q := s) hs
        generalize aeN (fun j => bD (B j)) n s = e at a1 a2 a3 a4
        have n22 : ∀ t, rG B s f0 t 22 = ((s + t : Nat) : Int) := fun t => by unfold rG; rw [fu_s]
        have n25 : ∀ t, rG B s f0 t 25 = rV B s t := fun t => by unfold rG; rw [fu_n (by decide), fu_s]
        have no : ∀ t j, j ≠ 22 → j ≠ 25 → rG B s f0 t j = f0 j := fun t j z1 z2 => by unfold rG; rw [fu_n z1, fu_n z2]
        have rvb : ∀ t, t ≤ e - s → (0 ≤ rV B s t ∧ rV B s t ≤ 10000) ∧ (t ≤ 3 → rV B s t = nV B s t) := fun t ht => rV_bd t (fun i hi => (a3 (s + i) (by omega) (by omega)).2)
        have hl : ∀ {Y : Type} (K : DA → Option Y), lpE (fun q => X12_stepOn_b123 113 q) (wI (wA d 113 f0) 113 25 0) K = K (wA d 113 (rG B s f0 (e - s))) := fun {Y} K => by
          refine lpE_for (fun t => wA d 113 (rG B s f0 t)) (e - s) _ ?_ (by omega) (fun t ht => ?_) ?_
          · rw [wA_wI]
            show wA d 113 (fu f0 25 0) = wA d 113 (fu (fu f0 25 0) 22 ((s + 0 : Nat) : Int))
            have := fu_id (f := fu f0 25 0) (i := 22) (v := ((s + 0 : Nat) : Int)) (by rw [fu_n (by decide)]; exact f02)
            rw [this]
          · show X12_stepOn_b123 113 (wA d 113 (rG B s f0 t)) = some (.inl (wA d 113 (rG B s f0 (t + 1))))
            have hd := a3 (s + t) (by omega) (by omega)
            have hw := hB.2 (s + t) (by omega)
            have bu := bA_bd (u := s + t) hB
            have eb : bA B n (s + t) = B (s + t) := by unfold bA; rw [if_neg (by omega)]
            have hbd := rvb t (by omega)
            unfold X12_stepOn_b123
            rw [wA_at, n22, n25, b1_pos (x12_byte hB (p126 _) (by rw [wA_at, no _ _ (by decide) (by decide)]; exact f023) (by omega)), b1_pos (x12_isD bu), if_pos (bA_D.2 hd), gd_pos (by decide), if_neg (by decide)]
            rw [b1_pos (x12_byte hB (p126 _) (by rw [wA_at, no _ _ (by decide) (by decide)]; exact f023) (by omega)), eb, gd_pos (by omega), lt_pos, lt_pos, wA_wI, wA_at, fu_n (by decide), n22, wA_wI]
            congr 3
            funext j
            by_cases z : j = 22
            · subst z; rw [fu_s, n22]; omega
            · rw [fu_n z]
              by_cases z5 : j = 25
              · subst z5; rw [fu_s, n25]; rfl
              · rw [fu_n z5, no _ _ z z5, no _ _ z z5]
          · show X12_stepOn_b123 113 (wA d 113 (rG B s f0 (e - s))) = _
            have bu := bA_bd (u := s + (e - s)) hB
            unfold X12_stepOn_b123
            rw [wA_at, n22, b1_pos (x12_byte hB (p126 _) (by rw [wA_at, no _ _ (by decide) (by decide)]; exact f023) (by omega)), b1_pos (x12_isD bu), if_neg (fun z => a4 (by have := bA_D.1 z; rw [show s + (e - s) = e by omega] at this; exact this)), gd_pos (by decide), if_pos rfl]
        rw [hl]
        unfold X12_stepOn_j179
        rw [lt_pos, lt_pos, wA_wI, wA_at, fu_n (by decide), n22, wA_wI, show s + (e - s) = e by omega]
        refine ⟨_, rfl, ⟨by rw [fu_n (by decide), fu_n (by decide), n22]; omega, by rw [fu_n (by decide), fu_n (by decide), no _ _ (by decide) (by decide)]; exact f026, rfl, by rw [fu_n (by decide), fu_s]; rfl, fun _ h3 => ?_⟩, fun j z1 z2 z3 z4 z5 => by rw [fu_n z5, fu_n z2, no _ _ z1 z3, f0o j z4]⟩
        rw [fu_n (by decide), fu_n (by decide), n25]
        exact (rvb (e - s) (by omega)).2 h3
      · have t0 : tE B n s = s + 1 := by unfold tE; rw [if_neg c0, if_neg c1, if_neg c2]
        rw [if_neg c2, gd_pos (by decide), if_pos rfl, t0, lt_pos, wA_wI]
        have fin : ∀ t : Int, X12_stepOn_j221 113 t (wA d 113 (fu f0 22 ((s : Int) + 1))) = some ((), wA d 113 (fu (fu (fu f0 22 ((s : Int) + 1)) 24 t) 27 ((s : Int) + 1))) := fun t => by
          unfold X12_stepOn_j221
          rw [lt_pos, lt_pos, wA_wI, wA_at, fu_n (by decide), fu_s, wA_wI]
        have fa : ∀ (t : Nat), (tR B n s = t) → (t = 3 ∨ t = 4) → RT9 B n s (fu (fu (fu f0 22 ((s : Int) + 1)) 24 (t : Int)) 27 ((s : Int) + 1)) := fun t ht h34 => by
          unfold RT9
          rw [ht, t0]
          exact ⟨by rw [fu_n (by decide), fu_n (by decide), fu_s]; omega, by rw [fu_n (by decide), fu_n (by decide), fu_n (by decide)]; exact f026, by rw [fu_s]; omega, by rw [fu_n (by decide), fu_s], fun z => by omega⟩
        have fo : ∀ (t : Int) (j : Nat), j ≠ 22 → j ≠ 24 → j ≠ 25 → j ≠ 26 → j ≠ 27 → fu (fu (fu f0 22 ((s : Int) + 1)) 24 t) 27 ((s : Int) + 1) j = d.1 113 j := fun t j z1 z2 z3 z4 z5 => by rw [fu_n z5, fu_n z2, fu_n z1, f0o j z4]
        unfold RT9 at fa
        rw [t0] at fa
        by_cases c3 : B s = 61 ∨ B s = 43 ∨ B s = 59
        · have r0 : tR B n s = 3 := by unfold tR; rw [if_neg c0, if_neg c1, if_neg c2, if_pos c3]
          refine ⟨_, (?_ : _ = some ((), wA d 113 (fu (fu (fu f0 22 ((s : Int) + 1)) 24 ((3 : Nat) : Int)) 27 ((s : Int) + 1)))), fa 3 r0 (by omega), fo _⟩
          rw [gd_pos (by omega)]
          by_cases y1 : B s = 61
          · rw [if_pos y1]; exact fin 3
          · rw [if_neg y1, gd_pos (by omega)]
            by_cases y2 : B s = 43
            · rw [if_pos y2]; exact fin 3
            · rw [if_neg y2, gd_pos (by omega), if_pos (by omega)]; exact fin 3
        · have r0 : tR B n s = 4 := by unfold tR; rw [if_neg c0, if_neg c1, if_neg c2, if_neg c3]
          refine ⟨_, (?_ : _ = some ((), wA d 113 (fu (fu (fu f0 22 ((s : Int) + 1)) 24 ((4 : Nat) : Int)) 27 ((s : Int) + 1)))), fa 4 r0 (by omega), fo _⟩
          rw [gd_pos (by omega), if_neg (by omega), gd_pos (by omega), if_neg (by omega), gd_pos (by omega), if_neg (by omega)]; exact fin 4
theorem x12_step {B : Nat → Int} {n q : Nat} {d : DA} (hB : Tp9 B n) (h126 : ∀ j, j < n → d.1 126 j = B j) (h23 : d.1 113 23 = n) (h22 : d.1 113 22 = q) (hq : q ≤ n) : ∃ f, X12_stepOn 113 d = some ((), wA d 113 f) ∧ RT9 B n (tS B n q) f ∧ ∀ j, j ≠ 22 → j ≠ 24 → j ≠ 25 → j ≠ 26 → j ≠ 27 → f j = d.1 113 j := by
  have hn := hB.1
  obtain ⟨s1, s2, s3⟩ := tS_bd (B := B) hq
  have bb := bA_bd (u := q) hB
  by_cases c : q < n ∧ bB (B q) = true
  · have e1 : X12_stepOn 113 d = X12_stepOn_j39 113 (wA d 113 (fu (d.1 113) 22 (tS B n q : Int))) := by
      have e2 : X12_stepOn_j26 113 d = X12_stepOn_j39 113 (wA d 113 (fu (d.1 113) 22 (tS B n q : Int))) := by
        unfold X12_stepOn_j26
        rw [lt_pos, h22]
        have : tS B n q = aeN (fun j => bB (B j)) n (q + 1) := aeN_in c
        rw [this]
        refine (lp_ae (P := fun j => bB (B j)) (q := q + 1) hn (by rw [wI_at, fu_s]; omega) (by omega) (fun u hu => ?_)).trans ?_
        · rw [wI_A, wA_wA, wA_at, fu_2]
          have bu := bA_bd (u := u) hB
          have ey := x12_byte (d := wA d 113 (fu (d.1 113) 22 (u : Int))) (u := u) hB (fun j hj => by rw [wA_ne (by decide)]; exact h126 j hj) (by rw [wA_at, fu_n (by decide)]; exact h23) (by omega)
          unfold X12_stepOn_b0 X12_stepOn_j26_0
          rw [wA_at, fu_s, b1_pos ey, gd_pos (by omega)]
          by_cases c : u < n ∧ bB (B u) = true
          · rw [if_pos c]
            by_cases z : bA B n u = 32
            · rw [if_pos z, lt_pos]
            · rw [if_neg z, b1_pos ey, gd_pos (by omega), if_pos (by have := bA_B.2 c; omega), lt_pos]
          · have z := fun y => c (bA_B.1 y)
            rw [if_neg c, if_neg (fun y => z (Or.inl y)), b1_pos ey, gd_pos (by omega), if_neg (fun y => z (Or.inr y))]
        · rw [wI_A, wA_wA, wA_at, fu_2]
      unfold X12_stepOn
      have ey := x12_byte (d := d) (u := q) hB h126 h23 (by omega)
      rw [h22, b1_pos ey, gd_pos (by omega)]
      by_cases z : bA B n q = 32
      · rw [if_pos z]; exact e2
      · rw [if_neg z, b1_pos ey, gd_pos (by omega), if_pos (by have := bA_B.2 c; omega)]; exact e2
    rw [e1]
    obtain ⟨f, g1, g2, g3⟩ := x12_stepJ (d := wA d 113 (fu (d.1 113) 22 (tS B n q : Int))) hB (fun j hj => by rw [wA_ne (by decide)]; exact h126 j hj) (by rw [wA_at, fu_n (by decide)]; exact h23) (by rw [wA_at, fu_s]) s2
    rw [wA_wA] at g1
    rw [wA_at] at g3
    exact ⟨f, g1, g2, fun j z1 z2 z3 z4 z5 => by rw [g3 j z1 z2 z3 z4 z5, fu_n z1]⟩
  · have : tS B n q = q := aeN_out c
    rw [this]
    have e1 : X12_stepOn 113 d = X12_stepOn_j39 113 d := by
      have ey := x12_byte (d := d) (u := q) hB h126 h23 (by omega)
      have z := fun y => c (bA_B.1 y)
      unfold X12_stepOn
      rw [h22, b1_pos ey, gd_pos (by omega), if_neg (fun y => z (Or.inl y)), b1_pos ey, gd_pos (by omega), if_neg (fun y => z (Or.inr y)), ← h22]
      rfl
    rw [e1]
    exact x12_stepJ hB h126 h23 h22 hq

/-! ===== turns: the class's pieces ===== -/
theorem x10_can {d : DA} {c : Nat → Int} {r p : Nat} {D : Int} (h5 : r ≤ 5) (h6 : d.1 68 6 = r) (h7 : d.1 68 7 = D) (hD : 0 ≤ D ∧ D < p) (h31 : p ≤ 31) (hc : ∀ k, k < r → d.1 72 k = c k) (hb : Cb p r c) : (((∀ l, l < r → c l ≠ 0) ∧ D ≠ 0) → X10_canHold 68 d = some 1) ∧ (¬ ((∀ l, l < r → c l ≠ 0) ∧ D ≠ 0) → X10_canHold 68 d = some 0) := by
  have e : X10_canHold 68 d = (fs9 r (fun l => if c l = 0 then some (0 : Int) else none)).elim (X10_canHold_j27 68 d) some := by
    unfold X10_canHold
    refine lpR_cnt r _ (by omega) (fun i hi => ?_) ?_
    · unfold X10_canHold_b2
      have q : d.1 (68 + 4) i = c i := hc i hi
      have b := hb i hi
      rw [h6, gd_pos (by omega), if_neg (by omega), gd_pos (by omega), Int.toNat_natCast, q, gd_pos (by omega)]
      by_cases z : c i = 0
      · rw [if_pos z, if_pos z]; rfl
      · rw [if_neg z, if_neg z]; rfl
    · unfold X10_canHold_b2
      rw [h6, gd_pos (by omega), if_pos (by omega)]
  rw [e]
  cases hf : fs9 r (fun l => if c l = 0 then some (0 : Int) else none) with
  | some y =>
    obtain ⟨i, f1, f2, -⟩ := (fs9_some _).mp hf
    have z : c i = 0 := by
      by_cases z : c i = 0
      · exact z
      · rw [if_neg z] at f2; cases f2
    rw [if_pos z] at f2
    cases f2
    exact ⟨fun y => absurd z (y.1 i f1), fun _ => rfl⟩
  | none =>
    have hall : ∀ i, i < r → c i ≠ 0 := fun i hi z => by
      have := (fs9_none _).mp hf i hi
      rw [if_pos z] at this; cases this
    show (_ → X10_canHold_j27 68 d = some 1) ∧ (_ → X10_canHold_j27 68 d = some 0)
    unfold X10_canHold_j27
    rw [h7, gd_pos (by omega)]
    by_cases z : D = 0
    · rw [if_pos z]; exact ⟨fun y => absurd z y.2, fun _ => rfl⟩
    · rw [if_neg z]; exact ⟨fun _ => rfl, fun y => absurd ⟨hall, z⟩ y⟩
theorem x10_rows {d : DA} {r p : Nat} (h1 : 1 ≤ r) (h5 : r ≤ 4) (h6 : d.1 68 6 = r) (hp : d.1 58 0 = p) (h2 : 2 ≤ p) (h31 : p ≤ 31) : X10_rowsAheadOfLast 68 d = some (((p - 1) ^ (r - 2) : Nat) : Int) := by
  unfold X10_rowsAheadOfLast
  have e58 : d.1 (68 - 10) 0 = p := hp
  refine lpE_for (fun i => ((((p - 1) ^ i : Nat) : Int), (i : Int) + 1)) (r - 2) _ rfl (by omega) (fun i hi => ?_) ?_
  · show X10_rowsAheadOfLast_b4 68 _ ((i : Int) + 1) d = _
    unfold X10_rowsAheadOfLast_b4
    rw [h6, e58, gd_pos (by omega), if_neg (by omega), lt_pos]
    refine congrArg some (congrArg Sum.inl (Prod.ext ?_ ?_))
    · show (((p - 1) ^ i : Nat) : Int) * ((p : Int) - 1) = (((p - 1) ^ (i + 1) : Nat) : Int)
      rw [Nat.pow_succ, Int.natCast_mul]
      congr 1
      omega
    · show (i : Int) + 1 + 1 = ((i + 1 : Nat) : Int) + 1
      omega
  · show X10_rowsAheadOfLast_b4 68 _ (((r - 2 : Nat) : Int) + 1) d = _
    unfold X10_rowsAheadOfLast_b4
    rw [h6, gd_pos (by omega), if_pos (by omega)]
theorem lpR_seq {S E R Y : Type} {b : S → Option (S ⊕ (E ⊕ R))} {k : E → Option Y} {j : R → Option Y} (s : Nat → S) (m : Nat) (hm : m < 4000000) (hb : ∀ i, i < m → b (s i) = some (.inl (s (i + 1)))) : (∀ y, b (s m) = some (.inr (.inr y)) → lpR b (s 0) k j = j y) ∧ (∀ e, b (s m) = some (.inr (.inl e)) → lpR b (s 0) k j = k e) := by
  unfold lpR
  exact ⟨fun y hy => by rw [wl_for s m (.inr y) hb hy FUEL 0 (Nat.zero_le _) (by unfold FUEL; omega)], fun e he => by rw [wl_for s m (.inl e) hb he FUEL 0 (Nat.zero_le _) (by unfold FUEL; omega)]⟩
theorem dvs9 {B Y : Nat} (hB : 0 < B) : (Y % B = B - 1 → (Y + 1) % B = 0 ∧ (Y + 1) / B = Y / B + 1) ∧ (Y % B ≠ B - 1 → (Y + 1) % B = Y % B + 1 ∧ (Y + 1) / B = Y / B) := by
  have e := Nat.div_add_mod Y B
  have l := Nat.mod_lt Y hB
  refine ⟨fun z => ?_, fun z => ?_⟩
  · have e2 : Y + 1 = B * (Y / B + 1) := by rw [Nat.mul_add, Nat.mul_one]; omega
    rw [e2, Nat.mul_mod_right, Nat.mul_div_cancel_left _ hB]
    exact ⟨rfl, rfl⟩
  · have e2 : Y + 1 = B * (Y / B) + (Y % B + 1) := by omega
    refine ⟨?_, ?_⟩
    · have hlt : Y % B + 1 < B := by omega
      have e5 : (B * (Y / B) + (Y % B + 1)) % B = Y % B + 1 := by rw [Nat.mul_add_mod, Nat.mod_eq_of_lt hlt]
      rw [← e2] at e5
      exact e5
    · have e4 : (B * (Y / B) + (Y % B + 1)) / B = Y / B + 0 := by
        rw [Nat.mul_add_div hB, Nat.div_eq_of_lt (show Y % B + 1 < B by omega)]
      rw [← e2] at e4
      exact e4
/-- the next row ahead of the last -/
theorem x10_go {d : DA} {r p Y : Nat} (h1 : 1 ≤ r) (h4 : r ≤ 4) (h6 : d.1 68 6 = r) (hp : d.1 58 0 = p) (h2 : 2 ≤ p) (h31 : p ≤ 31) (ht : ∀ j, 1 ≤ j → j < r - 1 → d.1 74 j = tX9 p (r - 1) Y j) : ∃ f, X10_goOn 68 d = some ((), wA d 74 f) ∧ (∀ j, 1 ≤ j → j < r - 1 → f j = tX9 p (r - 1) (Y + 1) j) ∧ f 0 = d.1 74 0 := by
  have e58 : ∀ f, (wA d 74 f).1 (68 - 10) 0 = p := fun f => by show (wA d 74 f).1 58 0 = p; rw [wA_ne (by decide)]; exact hp
  have step : ∀ (v : Nat) f, 1 ≤ v → v < 5 → (f v = (p : Int) - 1 → X10_goOn_b7 68 v (wA d 74 f) = some (.inl ((v : Int) + (-1), wA d 74 (fu f v 1)))) ∧ (0 ≤ f v → f v < (p : Int) - 1 → X10_goOn_b7 68 v (wA d 74 f) = some (.inr (.inr ((), wA d 74 (fu f v (f v + 1)))))) := fun v f hv hv5 => by
    have q : (wA d 74 f).1 (68 + 6) v = f v := by show (wA d 74 f).1 74 v = f v; rw [wA_at]
    unfold X10_goOn_b7
    rw [gd_pos (by omega), if_neg (by omega), gd_pos (by omega), Int.toNat_natCast, q, e58]
    refine ⟨fun z => ?_, fun z0 z => ?_⟩
    · rw [gd_pos (by omega), if_pos (by omega), gd_pos (by omega), lt_pos]
      show some (Sum.inl (_, wI (wA d 74 f) 74 v 1)) = _
      rw [wA_wI]
    · rw [gd_pos (by omega), if_neg (by omega), gd_pos (by omega), gd_pos (by omega), lt_pos]
      show some (Sum.inr (Sum.inr ((), wI (wA d 74 f) 74 v _))) = _
      rw [wA_wI]
  have done : ∀ (v : Int) f, inR v → v ≤ 0 → X10_goOn_b7 68 v (wA d 74 f) = some (.inr (.inl (wA d 74 f))) := fun v f hv hv0 => by
    unfold X10_goOn_b7
    rw [gd_pos hv, if_pos hv0]
  have ed : d = wA d 74 (d.1 74) := by rw [wA_same]
  have dB := dvs9 (B := p - 1) (Y := Y) (by omega)
  have dB2 := dvs9 (B := p - 1) (Y := Y / (p - 1)) (by omega)
  have lB := Nat.mod_lt Y (show 0 < p - 1 by omega)
  have lB2 := Nat.mod_lt (Y / (p - 1)) (show 0 < p - 1 by omega)
  unfold X10_goOn
  rw [lt_pos, h6]
  rcases (show r = 1 ∨ r = 2 ∨ r = 3 ∨ r = 4 by omega) with rfl | rfl | rfl | rfl
  · refine ⟨d.1 74, ?_, fun j a b => by omega, rfl⟩
    have := (lpR_seq (b := fun q : Int × DA => X10_goOn_b7 68 q.1 q.2) (k := fun e : DA => some (((), e))) (j := fun r : Unit × DA => some r) (fun _ => (((1 : Nat) : Int) - 2, d)) 0 (by decide) (fun i hi => absurd hi (Nat.not_lt_zero _))).2 d (by
      have := done (((1 : Nat) : Int) - 2) (d.1 74) (by decide) (by decide)
      rw [← ed] at this
      exact this)
    rw [← ed]
    exact this
  · refine ⟨d.1 74, ?_, fun j a b => by omega, rfl⟩
    have := (lpR_seq (b := fun q : Int × DA => X10_goOn_b7 68 q.1 q.2) (k := fun e : DA => some (((), e))) (j := fun r : Unit × DA => some r) (fun _ => (((2 : Nat) : Int) - 2, d)) 0 (by decide) (fun i hi => absurd hi (Nat.not_lt_zero _))).2 d (by
      have := done (((2 : Nat) : Int) - 2) (d.1 74) (by decide) (by decide)
      rw [← ed] at this
      exact this)
    rw [← ed]
    exact this
  · have t1 : d.1 74 1 = 1 + ((Y % (p - 1) : Nat) : Int) := by
      rw [ht 1 (by decide) (by decide)]
      show (1 : Int) + ((Y / (p - 1) ^ 0 % (p - 1) : Nat) : Int) = _
      rw [Nat.pow_zero, Nat.div_one]
    have g1 : tX9 p (3 - 1) (Y + 1) 1 = 1 + (((Y + 1) % (p - 1) : Nat) : Int) := by
      show (1 : Int) + (((Y + 1) / (p - 1) ^ 0 % (p - 1) : Nat) : Int) = _
      rw [Nat.pow_zero, Nat.div_one]
    by_cases c : Y % (p - 1) = p - 1 - 1
    · refine ⟨fu (d.1 74) 1 1, ?_, fun j a b => ?_, by rw [fu_app, if_neg (by decide)]⟩
      · have s1 := (step 1 (d.1 74) (by decide) (by decide)).1 (by rw [t1]; omega)
        rw [← ed] at s1
        exact (lpR_seq (b := fun q : Int × DA => X10_goOn_b7 68 q.1 q.2) (k := fun e : DA => some (((), e))) (j := fun r : Unit × DA => some r) (fun i => if i = 0 then (((3 : Nat) : Int) - 2, d) else (((1 : Nat) : Int) + (-1), wA d 74 (fu (d.1 74) 1 1))) 1 (by decide) (fun i hi => by
          have : i = 0 := by omega
          subst this
          exact s1)).2 _ (done (((1 : Nat) : Int) + (-1)) _ (by decide) (by decide))
      · have : j = 1 := by omega
        subst this
        rw [fu_s, g1, (dB.1 c).1]; rfl
    · refine ⟨fu (d.1 74) 1 (d.1 74 1 + 1), ?_, fun j a b => ?_, by rw [fu_app, if_neg (by decide)]⟩
      · have s1 := (step 1 (d.1 74) (by decide) (by decide)).2 (by rw [t1]; omega) (by rw [t1]; omega)
        rw [← ed] at s1
        exact (lpR_seq (b := fun q : Int × DA => X10_goOn_b7 68 q.1 q.2) (k := fun e : DA => some (((), e))) (j := fun r : Unit × DA => some r) (fun _ => (((3 : Nat) : Int) - 2, d)) 0 (by decide) (fun i hi => absurd hi (Nat.not_lt_zero _))).1 _ s1
      · have : j = 1 := by omega
        subst this
        rw [fu_s, g1, (dB.2 c).1, t1]; omega
  · have t1 : d.1 74 1 = 1 + ((Y / (p - 1) % (p - 1) : Nat) : Int) := by
      rw [ht 1 (by decide) (by decide)]
      show (1 : Int) + ((Y / (p - 1) ^ 1 % (p - 1) : Nat) : Int) = _
      rw [Nat.pow_one]
    have t2 : d.1 74 2 = 1 + ((Y % (p - 1) : Nat) : Int) := by
      rw [ht 2 (by decide) (by decide)]
      show (1 : Int) + ((Y / (p - 1) ^ 0 % (p - 1) : Nat) : Int) = _
      rw [Nat.pow_zero, Nat.div_one]
    have g1 : tX9 p (4 - 1) (Y + 1) 1 = 1 + (((Y + 1) / (p - 1) % (p - 1) : Nat) : Int) := by
      show (1 : Int) + (((Y + 1) / (p - 1) ^ 1 % (p - 1) : Nat) : Int) = _
      rw [Nat.pow_one]
    have g2 : tX9 p (4 - 1) (Y + 1) 2 = 1 + (((Y + 1) % (p - 1) : Nat) : Int) := by
      show (1 : Int) + (((Y + 1) / (p - 1) ^ 0 % (p - 1) : Nat) : Int) = _
      rw [Nat.pow_zero, Nat.div_one]
    by_cases c : Y % (p - 1) = p - 1 - 1
    · have s1 := (step 2 (d.1 74) (by decide) (by decide)).1 (by rw [t2]; omega)
      rw [← ed] at s1
      have q1 : fu (d.1 74) 2 1 1 = d.1 74 1 := by rw [fu_app, if_neg (by decide)]
      by_cases c2 : Y / (p - 1) % (p - 1) = p - 1 - 1
      · refine ⟨fu (fu (d.1 74) 2 1) 1 1, ?_, fun j a b => ?_, by rw [fu_app, if_neg (by decide), fu_app, if_neg (by decide)]⟩
        · have s2 := (step 1 (fu (d.1 74) 2 1) (by decide) (by decide)).1 (by rw [q1, t1]; omega)
          exact (lpR_seq (b := fun q : Int × DA => X10_goOn_b7 68 q.1 q.2) (k := fun e : DA => some (((), e))) (j := fun r : Unit × DA => some r) (fun i => if i = 0 then (((4 : Nat) : Int) - 2, d) else if i = 1 then (((2 : Nat) : Int) + (-1), wA d 74 (fu (d.1 74) 2 1)) else (((1 : Nat) : Int) + (-1), wA d 74 (fu (fu (d.1 74) 2 1) 1 1))) 2 (by decide) (fun i hi => by
            rcases (show i = 0 ∨ i = 1 by omega) with rfl | rfl
            · exact s1
            · exact s2)).2 _ (done (((1 : Nat) : Int) + (-1)) _ (by decide) (by decide))
        · rcases (show j = 1 ∨ j = 2 by omega) with rfl | rfl
          · rw [fu_s, g1, (dB.1 c).2, (dB2.1 c2).1]; rfl
          · rw [fu_app, if_neg (by decide), fu_s, g2, (dB.1 c).1]; rfl
      · refine ⟨fu (fu (d.1 74) 2 1) 1 (d.1 74 1 + 1), ?_, fun j a b => ?_, by rw [fu_app, if_neg (by decide), fu_app, if_neg (by decide)]⟩
        · have s2 := (step 1 (fu (d.1 74) 2 1) (by decide) (by decide)).2 (by rw [q1, t1]; omega) (by rw [q1, t1]; omega)
          rw [q1] at s2
          exact (lpR_seq (b := fun q : Int × DA => X10_goOn_b7 68 q.1 q.2) (k := fun e : DA => some (((), e))) (j := fun r : Unit × DA => some r) (fun i => if i = 0 then (((4 : Nat) : Int) - 2, d) else (((2 : Nat) : Int) + (-1), wA d 74 (fu (d.1 74) 2 1))) 1 (by decide) (fun i hi => by
            have : i = 0 := by omega
            subst this
            exact s1)).1 _ (by show X10_goOn_b7 68 (((2 : Nat) : Int) + (-1)) (wA d 74 (fu (d.1 74) 2 1)) = _; exact s2)
        · rcases (show j = 1 ∨ j = 2 by omega) with rfl | rfl
          · rw [fu_s, g1, (dB.1 c).2, (dB2.2 c2).1, t1]; omega
          · rw [fu_app, if_neg (by decide), fu_s, g2, (dB.1 c).1]; rfl
    · refine ⟨fu (d.1 74) 2 (d.1 74 2 + 1), ?_, fun j a b => ?_, by rw [fu_app, if_neg (by decide)]⟩
      · have s1 := (step 2 (d.1 74) (by decide) (by decide)).2 (by rw [t2]; omega) (by rw [t2]; omega)
        rw [← ed] at s1
        exact (lpR_seq (b := fun q : Int × DA => X10_goOn_b7 68 q.1 q.2) (k := fun e : DA => some (((), e))) (j := fun r : Unit × DA => some r) (fun _ => (((4 : Nat) : Int) - 2, d)) 0 (by decide) (fun i hi => absurd hi (Nat.not_lt_zero _))).1 _ s1
      · rcases (show j = 1 ∨ j = 2 by omega) with rfl | rfl
        · rw [fu_app, if_neg (by decide), g1, (dB.2 c).2, t1]
        · rw [fu_s, g2, (dB.2 c).1, t2]; omega
/-- do all four laws hold: the class -/
theorem x10_all {d : DA} {n : Nat → Int} {r p : Nat} {iv : Int → Int} {du : Nat → Nat} {D P : Int} {S : Mx} {t : Nat → Int} (hT : TG n r) (h6 : d.1 68 6 = r) (h7 : d.1 68 7 = D) (hD : 0 ≤ D ∧ D < p) (h8 : d.1 68 8 = P) (hP : 0 ≤ P ∧ P < p) (hn6 : d.1 6 = n) (hp : d.1 58 0 = p) (h2 : 2 ≤ p) (h31 : p ≤ 31) (hiv : IvG p iv) (h9 : ∀ j : Nat, 1 ≤ j → j < p → d.1 59 j = iv j) (hdu : ∀ i, i < r → d.1 7 i = (du i : Nat) ∧ du i < r) (hS : Ms r (d.1 76) S) (bS : Mb p r S) (ht : ∀ k, k < r → d.1 73 k = t k) (tb : Tb p r t) : ∃ d' v, X10_allHold 68 d = some (v, d') ∧ d'.2 = d.2 ∧ (∀ c, c ≠ 60 → (c < 77 ∨ 80 < c) → d'.1 c = d.1 c) ∧ Wb ((gRun p r iv r 0 (S, id9)).1 = true ∧ L2 p r du D (mm9 p r S S) ∧ L3 p r P S (mm9 p r S S) t ∧ L4 n p r iv du D S) v 1 := by
  have h5 := hT.1.2
  have hp0 : 0 < p := by omega
  obtain ⟨tw, m1, m2⟩ := x3_mul (d := d) (a1 := 76) (n1 := 25) (a2 := 76) (n2 := 25) (a4 := 77) (n4 := 25) (p := p) h5 (by decide) (by decide) (by decide) hS hS bS bS hp h2 h31 (by decide) (by decide) (by decide)
  generalize hd1 : wA d 77 tw = d1 at m1
  have o1 : ∀ c, c ≠ 77 → d1.1 c = d.1 c := fun c z => by rw [← hd1, wA_ne z]
  have a77 : d1.1 77 = tw := by rw [← hd1, wA_at]
  have bt : Mb p r (mm9 p r S S) := mm9_b hp0
  have x68 : d1.1 68 = d.1 68 := o1 68 (by decide)
  have tt := x10_twice (d := d1) (p := p) (du := du) (D := D) h5 (by rw [x68]; exact h6) (by rw [x68]; exact h7) hD h31 (by rw [o1 7 (by decide)]; exact hdu) (by rw [a77]; exact m2) bt
  have m1' : X3_multiply (68 - 10) (68 + 8) 25 (68 + 8) 25 (68 + 9) 25 r d = some ((), d1) := m1
  have f1 : d1.2 = d.2 := by rw [← hd1]; rfl
  unfold X10_allHold
  rw [h6, bd_pos m1']
  by_cases c2 : L2 p r du D (mm9 p r S S)
  · rw [b1_pos (tt.1 c2), gd_pos (by decide), if_neg (by decide)]
    obtain ⟨f3, g3, k3, v3, e3, e3a, e3b⟩ := x10_thrice (d := d1) (p := p) (P := P) (S := S) (t := t) h5 (by rw [x68]; exact h6) (by rw [x68]; exact h8) hP (by rw [o1 58 (by decide)]; exact hp) h2 h31 (by rw [o1 76 (by decide)]; exact hS) bS (by rw [a77]; exact m2) bt (by rw [o1 73 (by decide)]; exact ht) tb
    generalize hd3 : wA (wA (wA d1 78 f3) 79 g3) 80 k3 = d3 at e3
    have o3 : ∀ c, c ≠ 60 → (c < 77 ∨ 80 < c) → d3.1 c = d.1 c := fun c z1 z2 => by rw [← hd3, wA_ne (by omega), wA_ne (by omega), wA_ne (by omega), o1 c (by omega)]
    have f3' : d3.2 = d.2 := by rw [← hd3]; exact f1
    rw [bd_pos e3]
    by_cases c3 : L3 p r P S (mm9 p r S S) t
    · rw [e3a c3, gd_pos (by decide), if_neg (by decide)]
      have y68 : d3.1 68 = d.1 68 := o3 68 (by decide) (by omega)
      have ww := x10_wins (d := d3) (n := n) (p := p) (iv := iv) (du := du) (D := D) (S := S) hT (by rw [y68]; exact h6) (by rw [y68]; exact h7) hD (by rw [o3 6 (by decide) (by omega)]; exact hn6) (by rw [o3 58 (by decide) (by omega)]; exact hp) h2 h31 hiv (by rw [o3 59 (by decide) (by omega)]; exact h9) (by rw [o3 7 (by decide) (by omega)]; exact hdu) (by rw [o3 76 (by decide) (by omega)]; exact hS) bS
      by_cases c4 : L4 n p r iv du D S
      · rw [b1_pos (ww.1 c4), gd_pos (by decide), if_neg (by decide)]
        obtain ⟨ff, gg, t1, -⟩ := x3_turnB (d := d3) (a1 := 76) (n1 := 25) (c0 := 79) (n0 := 25) (n := r) (p := p) (M := S) (iv := iv) h5 (Nat.le_refl _) (by omega) (Nat.le_refl _) (by omega) (by rw [o3 76 (by decide) (by omega)]; exact hS) bS (by rw [o3 58 (by decide) (by omega)]; exact hp) h2 h31 (by decide) (by decide) (by decide) hiv (by rw [o3 59 (by decide) (by omega)]; exact h9)
        have t1' : X3_turnBack (68 - 10) (68 + 8) 25 (68 + 11) 25 r d3 = some ((if (gRun p r iv r 0 (S, id9)).1 = true then 1 else 0), wA (wA d3 60 ff) 79 gg) := t1
        have q6 : d3.1 68 6 = r := by rw [y68]; exact h6
        have o4 : ∀ c, c ≠ 60 → (c < 77 ∨ 80 < c) → (wA (wA d3 60 ff) 79 gg).1 c = d.1 c := fun c z1 z2 => by rw [wA_ne (by omega), wA_ne z1, o3 c z1 z2]
        rw [q6, bd_pos t1']
        by_cases c1 : (gRun p r iv r 0 (S, id9)).1 = true
        · rw [if_pos c1, gd_pos (by decide), if_neg (by decide)]
          exact ⟨_, 1, rfl, f3', o4, fun _ => rfl, fun z => absurd ⟨c1, c2, c3, c4⟩ z⟩
        · rw [if_neg c1, gd_pos (by decide), if_pos rfl]
          exact ⟨_, 0, rfl, f3', o4, fun z => absurd z.1 c1, fun _ => rfl⟩
      · rw [b1_pos (ww.2 c4), gd_pos (by decide), if_pos rfl]
        exact ⟨d3, 0, rfl, f3', o3, fun z => absurd z.2.2.2 c4, fun _ => rfl⟩
    · rw [e3b c3, gd_pos (by decide), if_pos rfl]
      exact ⟨d3, 0, rfl, f3', o3, fun z => absurd z.2.2.1 c3, fun _ => rfl⟩
  · rw [b1_pos (tt.2 c2), gd_pos (by decide), if_pos rfl]
    exact ⟨d1, 0, rfl, f1, fun c z1 z2 => o1 c (by omega), fun z => absurd z.2.1 c2, fun _ => rfl⟩

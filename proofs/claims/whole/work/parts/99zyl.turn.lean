/-! ===== turns: rows told by numbers; the reference goes through them ===== -/
theorem dg_ch {B Y w k j : Nat} (hw : w < B) (hj : j < k) : dg9 B (Y * B + w) (k + 1) j = dg9 B Y k j := by
  unfold dg9
  have e : k + 1 - 1 - j = (k - 1 - j) + 1 := by omega
  have e2 : (Y * B + w) / B = Y := by
    rw [Nat.mul_comm Y B, Nat.mul_add_div (by omega), Nat.div_eq_of_lt hw, Nat.add_zero]
  rw [e, Nat.pow_succ, Nat.mul_comm (B ^ (k - 1 - j)) B, ← Nat.div_div_eq_div_mul, e2]
theorem dg_la {B Y w k : Nat} (hw : w < B) : dg9 B (Y * B + w) (k + 1) k = w := by
  unfold dg9
  rw [show k + 1 - 1 - k = 0 by omega, Nat.pow_zero, Nat.div_one, Nat.mul_comm Y B, Nat.mul_add_mod, Nat.mod_eq_of_lt hw]
theorem dg_lt {B c n g : Nat} (hB : 0 < B) : dg9 B c n g < B := Nat.mod_lt _ hB
/-- the row of turns with the number X -/
def tX9 (p r X : Nat) : Nat → Int := fun k => if k = 0 then 1 else 1 + (dg9 (p - 1) X (r - 1) (k - 1) : Int)
theorem tX9_b {p r X : Nat} (hp : 2 ≤ p) : Tb p r (tX9 p r X) := fun k hk => by
  unfold tX9
  have := dg_lt (c := X) (n := r - 1) (g := k - 1) (show 0 < p - 1 by omega)
  split <;> omega
/-- all four laws hold of these turns -/
def Tn9 (n : Nat → Int) (r p : Nat) (iv : Int → Int) (du : Nat → Nat) (c t : Nat → Int) : Prop := (gRun p r iv r 0 (sS9 n r p iv c t, id9)).1 = true ∧ L2 p r du (Dq9 p r c) (mm9 p r (sS9 n r p iv c t) (sS9 n r p iv c t)) ∧ L3 p r (Pq9 p r c t) (sS9 n r p iv c t) (mm9 p r (sS9 n r p iv c t) (sS9 n r p iv c t)) t ∧ L4 n p r iv du (Dq9 p r c) (sS9 n r p iv c t)
/-- all but what the search changes -/
def FrT (d0 d : DA) : Prop := d.2 = d0.2 ∧ ∀ c j, c ≠ 119 → (c < 138 ∨ 147 < c ∨ c = 146) → (c ≠ 113 ∨ (j ≠ 65 ∧ j ≠ 67)) → d.1 c j = d0.1 c j
theorem FrT.rf (d : DA) : FrT d d := ⟨rfl, fun _ _ _ _ _ => rfl⟩
theorem FrT.tr {a b c : DA} (h1 : FrT a b) (h2 : FrT b c) : FrT a c := ⟨h2.1.trans h1.1, fun q j z1 z2 z3 => (h2.2 q j z1 z2 z3).trans (h1.2 q j z1 z2 z3)⟩
theorem FrT.c {a b : DA} (h : FrT a b) {c : Nat} (h1 : c ≠ 119) (h2 : c < 138 ∨ 147 < c ∨ c = 146) (h3 : c ≠ 113) : b.1 c = a.1 c := funext fun j => h.2 c j h1 h2 (Or.inl h3)
theorem FrT.n {a b : DA} (h : FrT a b) {j : Nat} (h1 : j ≠ 65) (h2 : j ≠ 67) : b.1 113 j = a.1 113 j := h.2 113 j (by decide) (by decide) (Or.inr ⟨h1, h2⟩)
theorem FrT.i {a b : DA} (h : FrT a b) {c k : Nat} {v : Int} (hc : c = 119 ∨ (138 ≤ c ∧ c ≤ 147 ∧ c ≠ 146)) : FrT a (wI b c k v) := ⟨h.1, fun q j z1 z2 z3 => by rw [wI_ne (by omega)]; exact h.2 q j z1 z2 z3⟩
theorem FrT.a {a b : DA} (h : FrT a b) {c : Nat} {f : Nat → Int} (hc : c = 119 ∨ (138 ≤ c ∧ c ≤ 147 ∧ c ≠ 146)) : FrT a (wA b c f) := ⟨h.1, fun q j z1 z2 z3 => by rw [wA_ne (by omega)]; exact h.2 q j z1 z2 z3⟩
theorem FrT.m {a b : DA} (h : FrT a b) {k : Nat} {v : Int} (hk : k = 65 ∨ k = 67) : FrT a (wI b 113 k v) := ⟨h.1, fun q j z1 z2 z3 => by
  by_cases e : q = 113
  · subst e
    rw [wI_at, fu_n (by omega)]
    exact h.2 113 j z1 z2 z3
  · rw [wI_ne e]; exact h.2 q j z1 z2 z3⟩
/-- how a search over the numbers lo .. hi - 1 ends -/
def ToE (G : Nat → Bool) (N p r lo hi : Nat) (w : Int) (d' : DA) : Prop := (((cn9 G lo : Int) ≤ w ∧ w < (cn9 G hi : Int)) ∧ d'.1 113 67 = 1 ∧ ∀ j, j < r → d'.1 147 j = tX9 p r (pk9 G N w.toNat) j) ∨ (¬ ((cn9 G lo : Int) ≤ w ∧ w < (cn9 G hi : Int)) ∧ d'.1 113 67 = 0 ∧ d'.1 113 65 = (cn9 G hi : Int))
/-- one row of turns -/
theorem x12_leaf {d : DA} {n c : Nat → Int} {r p X N : Nat} {iv : Int → Int} {du : Nat → Nat} {G : Nat → Bool} {w : Int} {g : Int → DA → Option (Unit × DA)} (hT : TG n r) (h14 : d.1 114 = n) (hr : d.1 113 1 = r) (hp : d.1 113 4 = p) (h2 : 2 ≤ p) (h31 : p ≤ 31) (hiv : IvG p iv) (hc : ∀ k, k < r → d.1 135 k = c k) (hb : Cb p r c) (hdu : ∀ i, i < r → ptn (fun j => n (ti i j 0)) r = (du i : Nat) ∧ du i < r) (ht : ∀ k, k < r → d.1 119 k = tX9 p r X k) (hG : G X = true ↔ Tn9 n r p iv du c (tX9 p r X)) (hX : X < N) (hN : N ≤ 27000) (h65 : d.1 113 65 = (cn9 G X : Int)) (h66 : d.1 113 66 = w) (hw : -1 ≤ w ∧ w < 2147483648) (h67 : d.1 113 67 = 0) : ∃ d', X12_turnOn_m 113 g (r : Int) d = some ((), d') ∧ FrT d d' ∧ (∀ j, d'.1 119 j = d.1 119 j) ∧ ToE G N p r X (X + 1) w d' := by
  have h5 := hT.1
  have tb := tX9_b (r := r) (X := X) h2
  have hp0 : 0 < p := by omega
  have kN := cn9_le (P := G) X
  obtain ⟨s, s1, s2⟩ := x12_tellS (d := d) (n := n) (iv := iv) (c := c) (t := tX9 p r X) hT h14 hr hp h2 h31 hiv hc hb ht tb
  have bS := sS9_b (n := n) (r := r) (iv := iv) (c := c) (t := tX9 p r X) hp0
  have hR0 : RD9 (wA d 143 s) n c (tX9 p r X) r p := RD9.w ⟨h14, hr, hp, hc, ht⟩ (by omega)
  have m0 : Ms r ((wA d 143 s).1 143) (sS9 n r p iv c (tX9 p r X)) := by rw [wA_at]; exact s2
  obtain ⟨f1, g1, t1⟩ := x12_sturn h5.2 hR0 h2 h31 hiv m0 bS
  have cnt : ¬ G X = true → cn9 G (X + 1) = cn9 G X := fun z => by rw [cn9_s, if_neg z]; rfl
  have no : ∀ e : DA, FrT d e → (∀ j, e.1 119 j = d.1 119 j) → e.1 113 65 = d.1 113 65 → e.1 113 67 = d.1 113 67 → ¬ G X = true → (∃ d', (some ((), e) : Option (Unit × DA)) = some ((), d') ∧ FrT d d' ∧ (∀ j, d'.1 119 j = d.1 119 j) ∧ ToE G N p r X (X + 1) w d') := fun e fe fj e65 e67 z => ⟨e, rfl, fe, fj, Or.inr ⟨by rw [cnt z]; omega, by rw [e67]; exact h67, by rw [e65, h65, cnt z]⟩⟩
  unfold X12_turnOn_m
  rw [hr, gd_pos (by omega), if_pos rfl, bd_pos s1, bd_pos t1]
  unfold Tn9 at hG
  generalize hS9 : sS9 n r p iv c (tX9 p r X) = S at *
  by_cases c1 : (gRun p r iv r 0 (S, id9)).1 = true
  · rw [if_pos c1, gd_pos (by decide), if_neg (by decide)]
    generalize hd1 : wA (wA (wA d 143 s) 138 f1) 139 g1 = d1
    have fr1 : FrT d d1 := by rw [← hd1]; exact (((FrT.rf d).a (by omega)).a (by omega)).a (by omega)
    have o1 : ∀ q, q ≠ 138 → q ≠ 139 → q ≠ 143 → d1.1 q = d.1 q := fun q z1 z2 z3 => by rw [← hd1, wA_ne z2, wA_ne z1, wA_ne z3]
    have hR1 : RD9 d1 n c (tX9 p r X) r p := by rw [← hd1]; exact (hR0.w (by omega)).w (by omega)
    have m1 : Ms r (d1.1 143) S := by rw [← hd1, wA_ne (by decide), wA_ne (by decide)]; exact m0
    obtain ⟨f2, g2, v2, t2, t3, t4⟩ := x12_sq hT hR1 h2 h31 hb tb hdu m1 bS
    rw [bd_pos t2]
    generalize hd2 : wA (wA d1 145 f2) 144 g2 = d2
    have fr2 : FrT d d2 := by rw [← hd2]; exact (fr1.a (by omega)).a (by omega)
    have o2 : ∀ q, q ≠ 138 → q ≠ 139 → q ≠ 143 → q ≠ 144 → q ≠ 145 → d2.1 q = d.1 q := fun q z1 z2 z3 z4 z5 => by rw [← hd2, wA_ne z4, wA_ne z5, o1 q z1 z2 z3]
    by_cases c2 : L2 p r du (Dq9 p r c) (mm9 p r S S)
    · rw [t3 c2, gd_pos (by decide), if_neg (by decide)]
      have hR2 : RD9 d2 n c (tX9 p r X) r p := by rw [← hd2]; exact (hR1.w (by omega)).w (by omega)
      have m2 : Ms r (d2.1 143) S := by rw [← hd2, wA_ne (by decide), wA_ne (by decide)]; exact m1
      obtain ⟨d3, v3, t5, t6, t7, t8, t9⟩ := x12_cube hT hR2 h2 h31 hb tb m2 bS
      rw [bd_pos t5]
      have o3 : ∀ q, q ≠ 138 → q ≠ 139 → q ≠ 143 → q ≠ 144 → q ≠ 145 → d3.1 q = d.1 q := fun q z1 z2 z3 z4 z5 => by rw [t7 q z1 z4 z5, o2 q z1 z2 z3 z4 z5]
      have fr3 : FrT d d3 := ⟨by rw [t6]; exact fr2.1, fun q j z1 z2 z3 => by rw [o3 q (by omega) (by omega) (by omega) (by omega) (by omega)]⟩
      by_cases c3 : L3 p r (Pq9 p r c (tX9 p r X)) S (mm9 p r S S) (tX9 p r X)
      · rw [t8 c3, gd_pos (by decide), if_neg (by decide)]
        have hR3 : RD9 d3 n c (tX9 p r X) r p := by
          unfold RD9
          rw [o3 114 (by decide) (by decide) (by decide) (by decide) (by decide), o3 113 (by decide) (by decide) (by decide) (by decide) (by decide), o3 135 (by decide) (by decide) (by decide) (by decide) (by decide), o3 119 (by decide) (by decide) (by decide) (by decide) (by decide)]
          exact ⟨h14, hr, hp, hc, ht⟩
        have m3 : Ms r (d3.1 143) S := by rw [t7 143 (by decide) (by decide) (by decide)]; exact m2
        have w9 := x12_won hT hR3 h2 h31 hiv hb tb hdu m3 bS
        have e119 : ∀ j, d3.1 119 j = d.1 119 j := fun j => by rw [o3 119 (by decide) (by decide) (by decide) (by decide) (by decide)]
        have e113 : d3.1 113 = d.1 113 := o3 113 (by decide) (by decide) (by decide) (by decide) (by decide)
        by_cases c4 : L4 n p r iv du (Dq9 p r c) S
        · have z : G X = true := hG.mpr ⟨c1, c2, c3, c4⟩
          have pk : pk9 G N (cn9 G X) = X := pk9_at hX z
          have e1 : cn9 G (X + 1) = cn9 G X + 1 := by rw [cn9_s, if_pos z]
          rw [b1_pos (w9.1 c4), gd_pos (by decide), if_neg (by decide), e113, h65, h66, gd_pos (by omega)]
          by_cases cw : (cn9 G X : Int) = w
          · rw [if_pos cw]
            have el : lpE (fun q => X12_turnOn_b54 113 g q.1 q.2) (0, d3) (fun e => gd (1 = 0 ∨ 1 = 1) <| lt9 (wI e 113 67 1) fun d13 => some (((), d13))) = some ((), wI (wA d3 147 (pre (d3.1 147) (d3.1 119) r)) 113 67 1) := by
              refine (lpE_row (d := d3) 147 r (d3.1 119) (by omega) (fun i hi => ?_) ?_).trans ?_
              · show X12_turnOn_b54 113 g (i : Int) _ = _
                unfold X12_turnOn_b54
                generalize hE : wA d3 147 (pre (d3.1 147) (d3.1 119) i) = E
                have q1 : E.1 113 1 = r := by rw [← hE, wA_ne (by decide), e113]; exact hr
                have q2 : E.1 (113 + 6) i = d3.1 119 i := by show E.1 119 i = _; rw [← hE, wA_ne (by decide)]
                rw [q1, gd_pos (by omega), if_neg (by omega), gd_pos (by omega), gd_pos (by omega), lt_pos, Int.toNat_natCast, q2]
              · show X12_turnOn_b54 113 g (r : Int) _ = _
                unfold X12_turnOn_b54
                have q1 : (wA d3 147 (pre (d3.1 147) (d3.1 119) r)).1 113 1 = r := by rw [wA_ne (by decide), e113]; exact hr
                rw [q1, gd_pos (by omega), if_pos (by omega)]
              · rfl
            rw [el]
            refine ⟨_, rfl, (fr3.a (by omega)).m (Or.inr rfl), fun j => by rw [wI_ne (by decide), wA_ne (by decide)]; exact e119 j, Or.inl ⟨by omega, by rw [wI_at, fu_s], fun j hj => ?_⟩⟩
            rw [wI_ne (by decide), wA_at, pre_lt hj, e119 j, ht j hj]
            have : w.toNat = cn9 G X := by omega
            rw [this, pk]
          · rw [if_neg cw, lt_pos]
            refine ⟨_, rfl, fr3.m (Or.inl rfl), fun j => by rw [wI_ne (by decide)]; exact e119 j, Or.inr ⟨by omega, ?_, ?_⟩⟩
            · rw [wI_at, fu_n (by decide), e113]; exact h67
            · rw [wI_at, fu_s, e1]; rfl
        · rw [b1_pos (w9.2 c4), gd_pos (by decide), if_pos rfl]
          exact no d3 fr3 e119 (by rw [e113]) (by rw [e113]) (fun z => c4 (hG.mp z).2.2.2)
      · rw [t9 c3, gd_pos (by decide), if_pos rfl]
        exact no d3 fr3 (fun j => by rw [o3 119 (by decide) (by decide) (by decide) (by decide) (by decide)]) (by rw [o3 113 (by decide) (by decide) (by decide) (by decide) (by decide)]) (by rw [o3 113 (by decide) (by decide) (by decide) (by decide) (by decide)]) (fun z => c3 (hG.mp z).2.2.1)
    · rw [t4 c2, gd_pos (by decide), if_pos rfl]
      exact no d2 fr2 (fun j => by rw [o2 119 (by decide) (by decide) (by decide) (by decide) (by decide)]) (by rw [o2 113 (by decide) (by decide) (by decide) (by decide) (by decide)]) (by rw [o2 113 (by decide) (by decide) (by decide) (by decide) (by decide)]) (fun z => c2 (hG.mp z).2.1)
  · rw [if_neg c1, gd_pos (by decide), if_pos rfl]
    exact no _ ((((FrT.rf d).a (by omega)).a (by omega)).a (by omega)) (fun j => by rw [wA_ne (by decide), wA_ne (by decide), wA_ne (by decide)]) (by rw [wA_ne (by decide), wA_ne (by decide), wA_ne (by decide)]) (by rw [wA_ne (by decide), wA_ne (by decide), wA_ne (by decide)]) (fun z => c1 (hG.mp z).1)

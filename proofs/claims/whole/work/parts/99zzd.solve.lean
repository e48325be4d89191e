/-! ===== solve: a row of numbers, looked at by the reference ===== -/
def trq (n : Nat → Int) (q : Nat) : Bool := decide (n (ti 1 1 (q / 2 % 2)) = 1 ∧ n (ti (q / 2 % 2) 1 (q / 4)) = 1 ∧ n (ti 1 1 (q % 2)) = 1 ∧ n (ti 1 (q % 2) (q / 4)) = 1)
def plq (q : Nat) : Nat := six 1 1 1 (q / 4) (q / 2 % 2) (q % 2)
theorem trq_iff {n : Nat → Int} {q : Nat} : trq n q = true ↔ isTr n 1 1 1 (q / 4) (q / 2 % 2) (q % 2) := by unfold trq isTr; exact decide_eq_true_iff
theorem trq_of {n : Nat → Int} {d e g : Nat} (hd : d < 2) (he : e < 2) (hg : g < 2) : trq n (4 * d + 2 * e + g) = true ↔ isTr n 1 1 1 d e g := by
  rw [trq_iff, show (4 * d + 2 * e + g) / 4 = d by omega, show (4 * d + 2 * e + g) / 2 % 2 = e by omega, show (4 * d + 2 * e + g) % 2 = g by omega]
/-- F of the row with the number X -/
def FX9 (n : Nat → Int) (p X : Nat) : Nat → Int := fun Q =>
  if n (ti (Q / 243) (Q / 81 % 3) (Q / 3 % 3)) = 1 ∧ n (ti (Q / 3 % 3) (Q / 27 % 3) (Q / 9 % 3)) = 1 ∧ n (ti (Q / 81 % 3) (Q / 27 % 3) (Q % 3)) = 1 ∧ n (ti (Q / 243) (Q % 3) (Q / 9 % 3)) = 1 then
    (if Q / 243 = 0 ∨ Q / 81 % 3 = 0 ∨ Q / 27 % 3 = 0 then 1 else (dg9 p X (cn9 (trq n) 8) (cn9 (trq n) (4 * (Q / 9 % 3) + 2 * (Q / 3 % 3) + Q % 3)) : Int)) else 0
theorem FX9_at {n : Nat → Int} {p X a b c d e g : Nat} (ha : a < 3) (hb : b < 3) (hc : c < 3) (hd : d < 3) (he : e < 3) (hg : g < 3) : (isTr n a b c d e g → FX9 n p X (six a b c d e g) = if a = 0 ∨ b = 0 ∨ c = 0 then 1 else (dg9 p X (cn9 (trq n) 8) (cn9 (trq n) (4 * d + 2 * e + g)) : Int)) ∧ (¬ isTr n a b c d e g → FX9 n p X (six a b c d e g) = 0) := by
  unfold FX9
  have e1 : six a b c d e g / 243 = a := by unfold six; omega
  have e2 : six a b c d e g / 81 % 3 = b := by unfold six; omega
  have e3 : six a b c d e g / 27 % 3 = c := by unfold six; omega
  have e4 : six a b c d e g / 9 % 3 = d := by unfold six; omega
  have e5 : six a b c d e g / 3 % 3 = e := by unfold six; omega
  have e6 : six a b c d e g % 3 = g := by unfold six; omega
  rw [e1, e2, e3, e4, e5, e6]
  refine ⟨fun z => if_pos z, fun z => if_neg z⟩
theorem FX9_z {n : Nat → Int} {p X r : Nat} (h3 : r ≤ 3) : FZ n (FX9 n p X) r := fun a b c d e g ha hb hc hd he hg => by
  have := FX9_at (n := n) (p := p) (X := X) (a := a) (b := b) (c := c) (d := d) (e := e) (g := g) (by omega) (by omega) (by omega) (by omega) (by omega) (by omega)
  exact ⟨fun z1 z2 => by rw [this.1 z1, if_pos z2], this.2⟩
def sZ9 (n : Nat → Int) : Nat → Int := fun Q => if n (ti (Q / 9) (Q / 3 % 3) (Q % 3)) = 1 then (if Q / 9 = 0 ∨ Q / 3 % 3 = 0 then 1 else 0) else 0
theorem sZ9_g {n : Nat → Int} {r : Nat} (h3 : r ≤ 3) : RG n (fun _ => 0) (sZ9 n) r := fun a b c ha hb hc => by
  unfold sZ9
  have e1 : thr a b c / 9 = a := by unfold thr; omega
  have e2 : thr a b c / 3 % 3 = b := by unfold thr; omega
  have e3 : thr a b c % 3 = c := by unfold thr; omega
  rw [e1, e2, e3]
  exact ⟨fun z => if_pos z, fun z => if_neg z⟩
def FrV (d0 d : DA) : Prop := d.2 = d0.2 ∧ ∀ c j, c ≠ 117 → (c < 136 ∨ 142 ≤ c ∨ c = 140) → (c ≠ 113 ∨ (j ≠ 50 ∧ j ≠ 51 ∧ j ≠ 52 ∧ j ≠ 59)) → d.1 c j = d0.1 c j
theorem FrV.rf (d : DA) : FrV d d := ⟨rfl, fun _ _ _ _ _ => rfl⟩
theorem FrV.tr {a b c : DA} (h1 : FrV a b) (h2 : FrV b c) : FrV a c := ⟨h2.1.trans h1.1, fun q j z1 z2 z3 => (h2.2 q j z1 z2 z3).trans (h1.2 q j z1 z2 z3)⟩
theorem FrV.c {a b : DA} (h : FrV a b) {c : Nat} (h1 : c ≠ 117) (h2 : c < 136 ∨ 142 ≤ c ∨ c = 140) (h3 : c ≠ 113) : b.1 c = a.1 c := funext fun j => h.2 c j h1 h2 (Or.inl h3)
theorem FrV.n {a b : DA} (h : FrV a b) {j : Nat} (h1 : j ≠ 50 ∧ j ≠ 51 ∧ j ≠ 52 ∧ j ≠ 59) : b.1 113 j = a.1 113 j := h.2 113 j (by decide) (by decide) (Or.inr h1)
section
variable {n f F s R : Nat → Int} {r p : Nat} {iv : Int → Int}
/-- all squares turned back, all pentagons whole -/
def SoA (n F : Nat → Int) (r p : Nat) (iv : Int → Int) : Prop := (∀ a, a < r → ∀ b, b < r → ∀ c, c < r → ∀ dd, dd < r → sOk n F r p iv a b c dd) ∧ ∀ y : Nat → Nat, (∀ q, q < 9 → y q < r) → pnS n y = true → pnH F p r y
theorem x12_leafS {d : DA} {u A : Nat} {U : Nat → Nat} {v1 : Int} {g : Int → DA → Option (Unit × DA)} (h : RS9 d n f F s R r p) (hiv : IvG p iv) (hu : d.1 113 58 = u) (hu8 : u ≤ 8) (hv : (u : Int) ≤ v1) (hv2 : v1 ≤ 100) (hU : ∀ j, j < u → d.1 140 j = (U j : Int) ∧ U j < 729) (h59 : d.1 113 59 = A) (hA : A ≤ 1000000) : ∃ d', X12_solveOn_m 113 g v1 d = some ((), d') ∧ FrV d d' ∧ d'.1 117 = d.1 117 ∧ (SoA n F r p iv → d'.1 113 59 = ((A + 1 : Nat) : Int) ∧ (A = 0 → ∀ j, j < u → d'.1 141 j = d.1 117 (U j)) ∧ (A ≠ 0 → d'.1 141 = d.1 141)) ∧ (¬ SoA n F r p iv → d'.1 113 59 = A ∧ d'.1 141 = d.1 141) := by
  obtain ⟨v, d1, t1, t2, t3⟩ := x12_allT h hiv
  have tb := t3.or
  unfold X12_solveOn_m
  rw [hu, gd_pos (by omega), if_pos hv, bd_pos t1, gd_pos (by omega)]
  have fr1 : FrV d d1 := ⟨t2.1, fun q j _ z2 _ => by rw [t2.2 q (by omega) (by omega)]⟩
  have e59 : d1.1 113 59 = A := by rw [t2.2 113 (by decide) (by decide)]; exact h59
  have e141 : d1.1 141 = d.1 141 := t2.2 141 (by decide) (by decide)
  have e117 : d1.1 117 = d.1 117 := t2.2 117 (by decide) (by decide)
  by_cases cv : v = 0
  · rw [if_pos cv]
    exact ⟨d1, rfl, fr1, e117, fun z => by have := t3.1 z.1; omega, fun _ => ⟨e59, e141⟩⟩
  · rw [if_neg cv]
    have all : ∀ a, a < r → ∀ b, b < r → ∀ c, c < r → ∀ dd, dd < r → sOk n F r p iv a b c dd := by
      by_cases z : ∀ a, a < r → ∀ b, b < r → ∀ c, c < r → ∀ dd, dd < r → sOk n F r p iv a b c dd
      · exact z
      · exact absurd (t3.2 z) cv
    have h1 := h.fr t2
    obtain ⟨d2, p1, -, p2, -, p3, p4⟩ := tell9 (d := d1) true h1.2.2.2.2 h1.1 h1.2.1 h1.2.2.1 h1.2.2.2.1
    have p1' : X12_tellShapes 113 9 1 d1 = some ((), d2) := p1
    have fr2 : FrV d d2 := fr1.tr ⟨p2, fun q j z1 z2 z3 => p3 q j (by omega) (by omega) (by
      rcases z3 with z3 | z3
      · exact Or.inl z3
      · exact Or.inr ⟨z3.1, z3.2.1, z3.2.2.1⟩)⟩
    have h3 := h.2.2.2.2.2.1
    have bd := pn9_bd (n := n) (F := F) (p := p) (r := r) (stop := true) h3
    have k51 : d2.1 113 51 = ((pn9 n F p r true).2.1 : Int) := p4.2.1
    have k59 : d2.1 113 59 = A := by rw [p3 113 59 (by decide) (by decide) (Or.inr (by decide))]; exact e59
    have k58 : d2.1 113 58 = u := by rw [p3 113 58 (by decide) (by decide) (Or.inr (by decide)), t2.2 113 (by decide) (by decide)]; exact hu
    have k141 : d2.1 141 = d.1 141 := by rw [← e141]; exact funext fun j => p3 141 j (by decide) (by decide) (Or.inl (by decide))
    have k117 : d2.1 117 = d.1 117 := by rw [← e117]; exact funext fun j => p3 117 j (by decide) (by decide) (Or.inl (by decide))
    have k140 : d2.1 140 = d.1 140 := fr2.c (by decide) (by decide) (by decide)
    have bd2 := bd.1
    have bd3 := bd.2
    rw [bd_pos p1', k51, gd_pos (by omega)]
    by_cases cw : (pn9 n F p r true).2.1 = 0
    · have pents := pn9_zero.mp cw
      rw [if_pos (by omega)]
      have ok : SoA n F r p iv := ⟨all, pents⟩
      by_cases cA : A = 0
      · -- the first
        have el : lpE (fun q => X12_solveOn_b69 113 g q.1 q.2) (0, d2) (fun e => X12_solveOn_j107 113 g e) = X12_solveOn_j107 113 g (wA d2 141 (pre (d2.1 141) (fun j => d.1 117 (U j)) u)) := by
          refine lpE_row (d := d2) 141 u (fun j => d.1 117 (U j)) (by omega) (fun i hi => ?_) ?_
          · show X12_solveOn_b69 113 g (i : Int) _ = _
            generalize hE : wA d2 141 (pre (d2.1 141) (fun j => d.1 117 (U j)) i) = E
            have Eo : ∀ q, q ≠ 141 → E.1 q = d2.1 q := fun q z => by rw [← hE, wA_ne z]
            have q1 : E.1 113 58 = u := by rw [Eo 113 (by decide)]; exact k58
            have q2 : E.1 113 59 = 0 := by rw [Eo 113 (by decide), k59, cA]; rfl
            have q3 : E.1 (113 + 27) i = (U i : Int) := by show E.1 140 i = _; rw [Eo 140 (by decide), k140]; exact (hU i hi).1
            have q4 : E.1 (113 + 4) (U i) = d.1 117 (U i) := by show E.1 117 _ = _; rw [Eo 117 (by decide), k117]
            have ub := (hU i hi).2
            unfold X12_solveOn_b69
            rw [q1, gd_pos (by omega), if_neg (by omega), q2, gd_pos (by decide), if_pos rfl, gd_pos (by omega), Int.toNat_natCast, q3, gd_pos (by omega), gd_pos (by omega), Int.toNat_natCast, q4, lt_pos]
          · show X12_solveOn_b69 113 g (u : Int) _ = _
            have q1 : (wA d2 141 (pre (d2.1 141) (fun j => d.1 117 (U j)) u)).1 113 58 = u := by rw [wA_ne (by decide)]; exact k58
            unfold X12_solveOn_b69
            rw [q1, gd_pos (by omega), if_pos (by omega)]
        rw [el]
        unfold X12_solveOn_j107
        rw [lt_pos]
        generalize hE : wA d2 141 (pre (d2.1 141) (fun j => d.1 117 (U j)) u) = E
        have Eo : ∀ q, q ≠ 141 → E.1 q = d2.1 q := fun q z => by rw [← hE, wA_ne z]
        refine ⟨wI E 113 59 (E.1 113 59 + 1), rfl, fr2.tr ⟨by rw [← hE]; rfl, fun q j z1 z2 z3 => ?_⟩, ?_, fun _ => ⟨?_, fun _ j hj => ?_, fun z => absurd cA z⟩, fun z => absurd ok z⟩
        · by_cases e : q = 113
          · subst e
            rw [wI_at, fu_n (by omega), Eo 113 (by decide)]
          · rw [wI_ne e, Eo q (by omega)]
        · rw [wI_ne (by decide), Eo 117 (by decide)]; exact k117
        · rw [wI_at, fu_s, Eo 113 (by decide), k59]; rfl
        · rw [wI_ne (by decide), ← hE, wA_at, pre_lt hj]
      · have el : lpE (fun q => X12_solveOn_b69 113 g q.1 q.2) (0, d2) (fun e => X12_solveOn_j107 113 g e) = X12_solveOn_j107 113 g d2 := by
          refine lpE_for (fun _ => ((0 : Int), d2)) 0 _ rfl (by decide) (fun i hi => absurd hi (Nat.not_lt_zero _)) ?_
          show X12_solveOn_b69 113 g (0 : Int) d2 = _
          unfold X12_solveOn_b69
          rw [k58, gd_pos (by omega)]
          by_cases cu : (u : Int) ≤ 0
          · rw [if_pos cu]
          · rw [if_neg cu, k59, gd_pos (by omega), if_neg (by omega)]
        rw [el]
        unfold X12_solveOn_j107
        rw [lt_pos]
        refine ⟨wI d2 113 59 (d2.1 113 59 + 1), rfl, fr2.tr ⟨rfl, fun q j z1 z2 z3 => ?_⟩, ?_, fun _ => ⟨?_, fun z => absurd z cA, fun _ => ?_⟩, fun z => absurd ok z⟩
        · by_cases e : q = 113
          · subst e
            rw [wI_at, fu_n (by omega)]
          · rw [wI_ne e]
        · rw [wI_ne (by decide)]; exact k117
        · rw [wI_at, fu_s, k59]; rfl
        · rw [wI_ne (by decide)]; exact k141
    · rw [if_neg (by omega)]
      exact ⟨d2, rfl, fr2, k117, fun z => absurd (pn9_zero.mpr z.2) cw, fun _ => ⟨k59, k141⟩⟩
end

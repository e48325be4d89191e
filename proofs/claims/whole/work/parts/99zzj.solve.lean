/-! ===== solve: the class's search ===== -/
theorem pn_cong {F F' : Nat → Int} {p : Nat} {x : Nat → Nat} (e0 : F (fv9 x 0) = F' (fv9 x 0)) (e1 : F (fv9 x 1) = F' (fv9 x 1)) (eh : ∀ h, h < 2 → F (fv9 x 2 + h) = F' (fv9 x 2 + h) ∧ F (fv9 x 3 + 81 * h) = F' (fv9 x 3 + 81 * h) ∧ F (fv9 x 4 + 3 * h) = F' (fv9 x 4 + 3 * h)) : pnH F p 2 x ↔ pnH F' p 2 x := by
  unfold pnH
  have a : pnL F x = pnL F' x := by
    show F (fv9 x 0) * F (fv9 x 1) = F' (fv9 x 0) * F' (fv9 x 1)
    rw [e0, e1]
  have b : sm 2 (pnT F x) = sm 2 (pnT F' x) := sm_congr 2 (fun h hh => by
    obtain ⟨h1, h2, h3⟩ := eh h hh
    have q2 : six (x 0) (x 1) (x 2) (x 6) (x 5) h = fv9 x 2 + h := by show _ = six (x 0) (x 1) (x 2) (x 6) (x 5) 0 + h; unfold six; omega
    have q3 : six (x 0) h (x 3) (x 4) (x 6) (x 7) = fv9 x 3 + 81 * h := by show _ = six (x 0) 0 (x 3) (x 4) (x 6) (x 7) + 81 * h; unfold six; omega
    have q4 : six (x 1) (x 2) (x 3) (x 7) h (x 8) = fv9 x 4 + 3 * h := by show _ = six (x 1) (x 2) (x 3) (x 7) 0 (x 8) + 3 * h; unfold six; omega
    unfold pnT
    rw [q2, q3, q4, h1, h2, h3])
  rw [a, b]
theorem pk9_lt {P : Nat → Bool} {m i : Nat} (hm : 0 < m) : pk9 P m i < m := by
  unfold pk9
  cases h : fs9 m (fun x => if P x = true ∧ cn9 P x = i then some x else none) with
  | none => exact hm
  | some x =>
    obtain ⟨j, h1, h2, -⟩ := (fs9_some m).mp h
    by_cases c : P j = true ∧ cn9 P j = i
    · rw [if_pos c] at h2
      cases h2
      exact h1
    · rw [if_neg c] at h2; cases h2
section
variable {n : Nat → Int} {p : Nat} {iv : Int → Int}
theorem SoA_iff {F : Nat → Int} (hT : TG n 2) (hF : FZ n F 2) (hp : 2 ≤ p) (hiv : IvG p iv) : SoA n F 2 p iv ↔ (∀ y, y < 32 → pnq n y = true → pnH F p 2 (xq9 y)) ∧ ∀ dd, dd < 2 → sOk n F 2 p iv 1 1 1 dd := by
  unfold SoA
  rw [pent_all hT hF]
  refine ⟨fun z => ⟨z.2, fun dd hd => z.1 1 (by decide) 1 (by decide) 1 (by decide) dd hd⟩, fun z => ⟨fun a ha b hb c hc dd hd => ?_, z.1⟩⟩
  by_cases h0 : a = 0 ∨ b = 0 ∨ c = 0
  · exact sOk_0 hT hF hp hiv ha hb hc hd h0
  · have e1 : a = 1 := by omega
    have e2 : b = 1 := by omega
    have e3 : c = 1 := by omega
    subst e1 e2 e3
    exact z.2 dd hd
/-- the trees ahead of any row -/
def F09 (n F : Nat → Int) : Prop := ∀ a b c d e g, a < 2 → b < 2 → c < 2 → d < 2 → e < 2 → g < 2 → (isTr n a b c d e g → (a = 0 ∨ b = 0 ∨ c = 0) → F (six a b c d e g) = 1) ∧ (¬ isTr n a b c d e g → F (six a b c d e g) = 0)
def Uq (n : Nat → Int) (j : Nat) : Nat := plq (pk9 (trq n) 8 j)
theorem Uq_lt {j : Nat} : Uq n j < 729 := plq_lt (pk9_lt (by decide))
theorem Uq_inj : ∀ i j, i < cn9 (trq n) 8 → j < cn9 (trq n) 8 → Uq n i = Uq n j → i = j := fun i j hi hj e => by
  have k1 := pk9_ok (P := trq n) hi
  have k2 := pk9_ok (P := trq n) hj
  have := plq_inj k1.1 k2.1 e
  rw [← k1.2.2, ← k2.2.2, this]
theorem Uq_of {d e g : Nat} (hd : d < 2) (he : e < 2) (hg : g < 2) (t : isTr n 1 1 1 d e g) : cn9 (trq n) (4 * d + 2 * e + g) < cn9 (trq n) 8 ∧ Uq n (cn9 (trq n) (4 * d + 2 * e + g)) = six 1 1 1 d e g := by
  have z := (trq_of hd he hg).mpr t
  refine ⟨cn9_lt (by omega) z, ?_⟩
  unfold Uq
  rw [pk9_at (by omega) z]
  unfold plq
  rw [show (4 * d + 2 * e + g) / 4 = d by omega, show (4 * d + 2 * e + g) / 2 % 2 = e by omega, show (4 * d + 2 * e + g) % 2 = g by omega]
theorem Uq_no {a b c d e g : Nat} (ha : a < 2) (hb : b < 2) (hc : c < 2) (hd : d < 2) (he : e < 2) (hg : g < 2) (h : ¬ (isTr n a b c d e g ∧ ¬ (a = 0 ∨ b = 0 ∨ c = 0))) : ∀ j, j < cn9 (trq n) 8 → six a b c d e g ≠ Uq n j := fun j hj e9 => by
  have k := pk9_ok (P := trq n) hj
  have t := trq_iff.mp k.2.1
  unfold Uq plq six at e9
  have l := k.1
  generalize pk9 (trq n) 8 j = q at *
  have q1 : a = 1 := by omega
  have q2 : b = 1 := by omega
  have q3 : c = 1 := by omega
  have q4 : d = q / 4 := by omega
  have q5 : e = q / 2 % 2 := by omega
  have q6 : g = q % 2 := by omega
  subst q1 q2 q3 q4 q5 q6
  exact h ⟨t, by omega⟩
/-- what the class has put agrees with every row that begins so -/
theorem agr9 {F F0 : Nat → Int} {g Y X a b c d e h : Nat} (hF0 : F09 n F0) (off : ∀ Q, (∀ j, j < cn9 (trq n) 8 → Q ≠ Uq n j) → F Q = F0 Q) (on : ∀ j, j ≤ g → F (Uq n j) = (dg9 p Y (g + 1) j : Int)) (hp : 0 < p) (hg : g < cn9 (trq n) 8) (hX : X / p ^ (cn9 (trq n) 8 - 1 - g) = Y) (ha : a < 2) (hb : b < 2) (hc : c < 2) (hd : d < 2) (he : e < 2) (hh : h < 2) (hl : li9 (cn9 (trq n) 8) (Uq n) (six a b c d e h) ≤ (g : Int)) : F (six a b c d e h) = FX9 n p X (six a b c d e h) := by
  have fx := FX9_at (n := n) (p := p) (X := X) (a := a) (b := b) (c := c) (d := d) (e := e) (g := h) (by omega) (by omega) (by omega) (by omega) (by omega) (by omega)
  by_cases t : isTr n a b c d e h
  · by_cases z : a = 0 ∨ b = 0 ∨ c = 0
    · rw [fx.1 t, if_pos z, off _ (Uq_no ha hb hc hd he hh (fun y => y.2 z))]
      exact (hF0 a b c d e h ha hb hc hd he hh).1 t z
    · have q1 : a = 1 := by omega
      have q2 : b = 1 := by omega
      have q3 : c = 1 := by omega
      subst q1 q2 q3
      obtain ⟨u1, u2⟩ := Uq_of hd he hh t
      rw [← u2, li9_at Uq_inj u1] at hl
      rw [fx.1 t, if_neg z, ← u2, on _ (by omega), ← hX, ← dg_pre hp hg (by omega)]
  · rw [fx.2 t, off _ (Uq_no ha hb hc hd he hh (fun y => t y.1))]
    exact (hF0 a b c d e h ha hb hc hd he hh).2 t
theorem ls9_nn (hT : TG n 2) {y : Nat} (hy : y < 32) (hz : pnq n y = true) : 0 ≤ ls9 (cn9 (trq n) 8) (Uq n) (xq9 y) := by
  have s := of_decide_eq_true (show decide _ = true from hz)
  have l5 := xq9_lt hy 5 (by omega)
  have l6 := xq9_lt hy 6 (by omega)
  have s1 : n (ti 1 1 (xq9 y 5)) = 1 := s.1
  have s2 : n (ti (xq9 y 5) 1 (xq9 y 6)) = 1 := s.2.1
  have t : isTr n 1 1 1 (xq9 y 6) (xq9 y 5) (xq9 y 5) := ⟨s1, s2, s1, by rw [← sy9 hT l5 l6]; exact s2⟩
  obtain ⟨u1, u2⟩ := Uq_of l6 l5 l5 t
  have g := (ls9_ge (u := cn9 (trq n) 8) (U := Uq n) (x := xq9 y)).1.2.2 (xq9 y 5) l5
  have e : fv9 (xq9 y) 2 + xq9 y 5 = six 1 1 1 (xq9 y 6) (xq9 y 5) (xq9 y 5) := by
    show six 1 1 1 (xq9 y 6) (xq9 y 5) 0 + xq9 y 5 = _
    unfold six; omega
  have := g.1
  rw [e, ← u2, li9_at Uq_inj u1] at this
  omega
/-- a pentagon's places and their kinds -/
theorem fv_six {y : Nat} (hy : y < 32) (P : Nat → Prop) (h : ∀ a b c d e g, a < 2 → b < 2 → c < 2 → d < 2 → e < 2 → g < 2 → li9 (cn9 (trq n) 8) (Uq n) (six a b c d e g) ≤ ls9 (cn9 (trq n) 8) (Uq n) (xq9 y) → P (six a b c d e g)) : P (fv9 (xq9 y) 0) ∧ P (fv9 (xq9 y) 1) ∧ ∀ h, h < 2 → P (fv9 (xq9 y) 2 + h) ∧ P (fv9 (xq9 y) 3 + 81 * h) ∧ P (fv9 (xq9 y) 4 + 3 * h) := by
  have l := xq9_lt hy
  have g := (ls9_ge (u := cn9 (trq n) 8) (U := Uq n) (x := xq9 y)).1
  refine ⟨h _ _ _ _ _ _ (l 5 (by omega)) (l 2 (by omega)) (l 3 (by omega)) (l 4 (by omega)) (l 6 (by omega)) (l 8 (by omega)) g.1, h _ _ _ _ _ _ (l 0 (by omega)) (l 1 (by omega)) (l 8 (by omega)) (l 4 (by omega)) (l 5 (by omega)) (l 7 (by omega)) g.2.1, fun k hk => ?_⟩
  obtain ⟨g1, g2, g3⟩ := g.2.2 k hk
  have q2 : fv9 (xq9 y) 2 + k = six (xq9 y 0) (xq9 y 1) (xq9 y 2) (xq9 y 6) (xq9 y 5) k := by show six (xq9 y 0) (xq9 y 1) (xq9 y 2) (xq9 y 6) (xq9 y 5) 0 + k = _; unfold six; omega
  have q3 : fv9 (xq9 y) 3 + 81 * k = six (xq9 y 0) k (xq9 y 3) (xq9 y 4) (xq9 y 6) (xq9 y 7) := by show six (xq9 y 0) 0 (xq9 y 3) (xq9 y 4) (xq9 y 6) (xq9 y 7) + 81 * k = _; unfold six; omega
  have q4 : fv9 (xq9 y) 4 + 3 * k = six (xq9 y 1) (xq9 y 2) (xq9 y 3) (xq9 y 7) k (xq9 y 8) := by show six (xq9 y 1) (xq9 y 2) (xq9 y 3) (xq9 y 7) 0 (xq9 y 8) + 3 * k = _; unfold six; omega
  rw [q2] at g1 ⊢
  rw [q3] at g2 ⊢
  rw [q4] at g3 ⊢
  exact ⟨h _ _ _ _ _ _ (l 0 (by omega)) (l 1 (by omega)) (l 2 (by omega)) (l 6 (by omega)) (l 5 (by omega)) hk g1, h _ _ _ _ _ _ (l 0 (by omega)) hk (l 3 (by omega)) (l 4 (by omega)) (l 6 (by omega)) (l 7 (by omega)) g2, h _ _ _ _ _ _ (l 1 (by omega)) (l 2 (by omega)) (l 3 (by omega)) (l 7 (by omega)) hk (l 8 (by omega)) g3⟩
theorem pn_agr {F F' : Nat → Int} {y : Nat} (hy : y < 32) (h : ∀ a b c d e g, a < 2 → b < 2 → c < 2 → d < 2 → e < 2 → g < 2 → li9 (cn9 (trq n) 8) (Uq n) (six a b c d e g) ≤ ls9 (cn9 (trq n) 8) (Uq n) (xq9 y) → F (six a b c d e g) = F' (six a b c d e g)) : pnH F p 2 (xq9 y) ↔ pnH F' p 2 (xq9 y) := by
  obtain ⟨a1, a2, a3⟩ := fv_six (n := n) hy (fun Q => F Q = F' Q) h
  exact pn_cong a1 a2 a3
theorem sOk_cong {F F' : Nat → Int} {dd : Nat} (h : ∀ e g, e < 2 → g < 2 → F (six 1 1 1 dd e g) = F' (six 1 1 1 dd e g)) : sOk n F 2 p iv 1 1 1 dd ↔ sOk n F' 2 p iv 1 1 1 dd := by
  have : sM9 n F 2 1 1 1 dd = sM9 n F' 2 1 1 1 dd := funext fun i => funext fun j => h _ _ (pk9_lt (by decide)) (pk9_lt (by decide))
  unfold sOk
  rw [this]
end

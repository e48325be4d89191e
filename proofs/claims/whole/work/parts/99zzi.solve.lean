/-! ===== solve: the class looks at a row ===== -/
section
variable {n : Nat → Int} {p u : Nat} {U : Nat → Nat} {iv : Int → Int}
/-- what the class's search rests on -/
def SX9 (d : DA) (n : Nat → Int) (p u : Nat) (U : Nat → Nat) (iv : Int → Int) : Prop := ST9 d n ∧ d.1 58 0 = p ∧ (∀ j : Nat, 1 ≤ j → j < p → d.1 59 j = iv j) ∧ d.1 81 2 = u ∧ (∀ j, j < u → d.1 83 j = (U j : Int)) ∧ d.1 81 10 = (cn9 (pnq n) 32 : Int) ∧ ∀ y, y < 32 → pnq n y = true → (∀ t, t < 5 → d.1 97 (5 * cn9 (pnq n) y + t) = (fv9 (xq9 y) t : Int)) ∧ d.1 98 (cn9 (pnq n) y) = ls9 u U (xq9 y)
/-- F's numbers lie in the field -/
def FB9 (F : Nat → Int) (p : Nat) : Prop := ∀ a b c e g h, a < 2 → b < 2 → c < 2 → e < 2 → g < 2 → h < 2 → 0 ≤ F (six a b c e g h) ∧ F (six a b c e g h) < p
theorem x5_ph {d : DA} {g : Nat} (h : SX9 d n p u U iv) (h2 : 2 ≤ p) (h31 : p ≤ 31) (hu : u ≤ 5) (hg : g < u) (hF : FB9 (d.1 92) p) : ((∀ y, y < 32 → pnq n y = true → ls9 u U (xq9 y) = (g : Int) → pnH (d.1 92) p 2 (xq9 y)) → X5_pentagonsHold 81 58 g d = some 1) ∧ ((¬ ∀ y, y < 32 → pnq n y = true → ls9 u U (xq9 y) = (g : Int) → pnH (d.1 92) p 2 (xq9 y)) → X5_pentagonsHold 81 58 g d = some 0) := by
  obtain ⟨h1, hp, h59, hu2, hU, h10, hP⟩ := h
  have kc := cn9_le (P := pnq n) 32
  have e : X5_pentagonsHold 81 58 g d = (fs9 (cn9 (pnq n) 32) (fun c => if ls9 u U (xq9 (pk9 (pnq n) 32 c)) = (g : Int) then (if pnB (d.1 92) p 2 (xq9 (pk9 (pnq n) 32 c)) = true then none else some (0 : Int)) else none)).elim (some 1) some := by
    unfold X5_pentagonsHold
    refine lpR_cnt (cn9 (pnq n) 32) _ (by omega) (fun c hc => ?_) ?_
    · have k := pk9_ok (P := pnq n) hc
      obtain ⟨f1, f2⟩ := hP _ k.1 k.2.1
      rw [k.2.2] at f1 f2
      have lb := (ls9_ge (u := u) (U := U) (x := xq9 (pk9 (pnq n) 32 c))).2
      generalize hy : pk9 (pnq n) 32 c = y at *
      unfold X5_pentagonsHold_b2
      have e98 : d.1 (81 + 17) c = ls9 u U (xq9 y) := f2
      rw [h10, gd_pos (by omega), if_neg (by omega), gd_pos (by omega), Int.toNat_natCast, e98, gd_pos (by omega)]
      by_cases cl : ls9 u U (xq9 y) = (g : Int)
      · rw [if_pos cl, if_pos cl]
        have pt := x9_pent (d := d) (o := 81 + 10) (a1 := 81 + 16) (n1 := 160) (fr := 5 * c) (r := 2) (p := p) (F := d.1 92) (x := xq9 y) h1.1 (by decide) hp h2 h31 rfl hF (xq9_lt k.1) (by omega) (by decide) (f1 0 (by decide)) (f1 1 (by decide)) (f1 2 (by decide)) (f1 3 (by decide)) (f1 4 (by decide))
        have e5 : 5 * (c : Int) = ((5 * c : Nat) : Int) := by omega
        rw [e5]
        by_cases ch : pnB (d.1 92) p 2 (xq9 y) = true
        · rw [b1_pos (pt.1 (pnB_iff.mp ch)), gd_pos (by decide), if_neg (by decide), if_pos ch]; rfl
        · rw [b1_pos (pt.2 (fun z => ch (pnB_iff.mpr z))), gd_pos (by decide), if_pos rfl, if_neg ch]; rfl
      · rw [if_neg cl, if_neg cl]; rfl
    · unfold X5_pentagonsHold_b2
      rw [h10, gd_pos (by omega), if_pos (by omega)]
  rw [e]
  cases hf : fs9 (cn9 (pnq n) 32) (fun c => if ls9 u U (xq9 (pk9 (pnq n) 32 c)) = (g : Int) then (if pnB (d.1 92) p 2 (xq9 (pk9 (pnq n) 32 c)) = true then none else some (0 : Int)) else none) with
  | none =>
    refine ⟨fun _ => rfl, fun z => absurd (fun y hy hz hl => ?_) z⟩
    have := (fs9_none _).mp hf (cn9 (pnq n) y) (cn9_lt hy hz)
    rw [pk9_at hy hz, if_pos hl] at this
    by_cases ch : pnB (d.1 92) p 2 (xq9 y) = true
    · exact pnB_iff.mp ch
    · rw [if_neg ch] at this; cases this
  | some v =>
    obtain ⟨c, f1, f2, -⟩ := (fs9_some _).mp hf
    have k := pk9_ok (P := pnq n) f1
    by_cases cl : ls9 u U (xq9 (pk9 (pnq n) 32 c)) = (g : Int)
    · rw [if_pos cl] at f2
      by_cases ch : pnB (d.1 92) p 2 (xq9 (pk9 (pnq n) 32 c)) = true
      · rw [if_pos ch] at f2; cases f2
      · rw [if_neg ch] at f2
        cases f2
        exact ⟨fun z => absurd (pnB_iff.mpr (z _ k.1 k.2.1 cl)) ch, fun _ => rfl⟩
    · rw [if_neg cl] at f2; cases f2
theorem sy9 (hT : TG n 2) {x d : Nat} (hx : x < 2) (hd : d < 2) : n (ti x 1 d) = n (ti 1 x d) := by
  rcases (show x = 0 ∨ x = 1 by omega) with rfl | rfl
  · rw [hT.2.2.2.1 1 d (by decide) hd, hT.2.2.2.2 1 d (by decide) hd]
  · rfl
theorem sPQ (hT : TG n 2) {dd x : Nat} (hd : dd < 2) (hx : x < 2) : sP9 n 1 1 1 dd x = sQ9 n 1 1 1 dd x := by
  unfold sP9 sQ9
  rw [sy9 hT hx hd]
theorem cn9_cg {P Q : Nat → Bool} : ∀ m, (∀ x, x < m → P x = Q x) → cn9 P m = cn9 Q m := by
  intro m
  induction m with
  | zero => intro _; rfl
  | succ m ih => intro h; rw [cn9_s, cn9_s, ih (fun x hx => h x (by omega)), h m (by omega)]
theorem x5_sq {d0 : DA} {dd : Nat} (h : SX9 d0 n p u U iv) (hT : TG n 2) (hiv : IvG p iv) (h2 : 2 ≤ p) (h31 : p ≤ 31) (hd : dd < 2) (hF : FB9 (d0.1 92) p) : ∃ v d, X5_squareTurnsBack 81 58 dd d0 = some (v, d) ∧ d.2 = d0.2 ∧ (∀ c, c ≠ 60 → c ≠ 99 → c ≠ 100 → d.1 c = d0.1 c) ∧ Wb (sOk n (d0.1 92) 2 p iv 1 1 1 dd) v 1 := by
  obtain ⟨h1, hp, h59, -⟩ := h
  have pq : ∀ x, x < 2 → sP9 n 1 1 1 dd x = sQ9 n 1 1 1 dd x := fun x hx => sPQ hT hd hx
  have ceq : cn9 (sQ9 n 1 1 1 dd) 2 = cn9 (sP9 n 1 1 1 dd) 2 := (cn9_cg 2 pq).symm
  unfold X5_squareTurnsBack
  obtain ⟨e, e1, e2, e3, e4⟩ := lpE_inv (b := fun q : Int × Int × DA => X5_squareTurnsBack_b5 81 58 dd q.1 q.2.1 q.2.2) (k := fun e : Int × DA => X5_squareTurnsBack_j99 81 58 e.1 e.2) (s0 := (0, 0, d0)) (fun x t => t.2.1 = (x : Int) ∧ t.1 = (cn9 (sP9 n 1 1 1 dd) x : Int) ∧ (t.2.2.2 = d0.2 ∧ ∀ q, q ≠ 99 → t.2.2.1 q = d0.1 q) ∧ ∀ y g, y < x → g < 2 → sP9 n 1 1 1 dd y = true → sQ9 n 1 1 1 dd g = true → t.2.2.1 99 (5 * cn9 (sP9 n 1 1 1 dd) y + cn9 (sQ9 n 1 1 1 dd) g) = d0.1 92 (six 1 1 1 dd y g)) (fun e => e.1 = (cn9 (sP9 n 1 1 1 dd) 2 : Int) ∧ (e.2.2 = d0.2 ∧ ∀ q, q ≠ 99 → e.2.1 q = d0.1 q) ∧ ∀ y g, y < 2 → g < 2 → sP9 n 1 1 1 dd y = true → sQ9 n 1 1 1 dd g = true → e.2.1 99 (5 * cn9 (sP9 n 1 1 1 dd) y + cn9 (sQ9 n 1 1 1 dd) g) = d0.1 92 (six 1 1 1 dd y g)) 2 (by decide) ⟨rfl, rfl, ⟨rfl, fun _ _ => rfl⟩, fun y g hy => absurd hy (Nat.not_lt_zero _)⟩ (fun x t hx hI => by
    obtain ⟨v3, v4, e⟩ := t
    obtain ⟨i0, i1, ⟨i2, i3⟩, i4⟩ := hI
    dsimp only at i0 i1 i2 i3 i4 ⊢
    subst i0 i1
    have kx := cn9_le (P := sP9 n 1 1 1 dd) x
    unfold X5_squareTurnsBack_b5
    rw [gd_pos (by omega), if_neg (by omega)]
    obtain ⟨e', l1, l0, ⟨l2, l3⟩, l4⟩ := lpE_inv (b := fun q : Int × Int × DA => X5_squareTurnsBack_b17 81 58 dd (cn9 (sP9 n 1 1 1 dd) x : Int) x q.1 q.2.1 q.2.2) (k := fun e : Int × DA => X5_squareTurnsBack_j80_5 81 58 dd (cn9 (sP9 n 1 1 1 dd) x : Int) x e.1 e.2) (s0 := (0, 0, e)) (fun m t => t.2.1 = (m : Int) ∧ t.1 = (if sP9 n 1 1 1 dd x = true then (cn9 (sQ9 n 1 1 1 dd) m : Int) else 0) ∧ (t.2.2.2 = d0.2 ∧ ∀ q, q ≠ 99 → t.2.2.1 q = d0.1 q) ∧ ∀ y g, (y < x ∧ g < 2 ∨ y = x ∧ g < m) → sP9 n 1 1 1 dd y = true → sQ9 n 1 1 1 dd g = true → t.2.2.1 99 (5 * cn9 (sP9 n 1 1 1 dd) y + cn9 (sQ9 n 1 1 1 dd) g) = d0.1 92 (six 1 1 1 dd y g)) (fun e => e.1 = (if sP9 n 1 1 1 dd x = true then (cn9 (sQ9 n 1 1 1 dd) 2 : Int) else 0) ∧ (e.2.2 = d0.2 ∧ ∀ q, q ≠ 99 → e.2.1 q = d0.1 q) ∧ ∀ y g, (y < x ∧ g < 2 ∨ y = x ∧ g < 2) → sP9 n 1 1 1 dd y = true → sQ9 n 1 1 1 dd g = true → e.2.1 99 (5 * cn9 (sP9 n 1 1 1 dd) y + cn9 (sQ9 n 1 1 1 dd) g) = d0.1 92 (six 1 1 1 dd y g)) 2 (by decide) ⟨rfl, by split <;> rfl, ⟨i2, i3⟩, fun y g hy => i4 y g (by omega) (by omega)⟩ (fun m t hm hJ => by
      obtain ⟨v5, v6, g⟩ := t
      obtain ⟨j0, j1, ⟨j2, j3⟩, j4⟩ := hJ
      dsimp only at j0 j1 j2 j3 j4 ⊢
      subst j0
      have hSg : ST9 g n := ⟨by rw [j3 85 (by decide)]; exact h1.1, fun q hq => by rw [j3 86 (by decide)]; exact h1.2 q hq⟩
      have it := hSg.tr hT hd hx hm
      have km := cn9_le (P := sQ9 n 1 1 1 dd) m
      have tPQ : isTr n 1 1 1 dd x m ↔ sP9 n 1 1 1 dd x = true ∧ sQ9 n 1 1 1 dd m = true := by
        unfold isTr sP9 sQ9
        rw [decide_eq_true_iff, decide_eq_true_iff]
        exact ⟨fun z => ⟨⟨z.1, z.2.1⟩, z.2.2⟩, fun z => ⟨z.1.1, z.1.2, z.2⟩⟩
      unfold X5_squareTurnsBack_b17
      rw [gd_pos (by omega), if_neg (by omega)]
      by_cases t : isTr n 1 1 1 dd x m
      · obtain ⟨zp, zq⟩ := tPQ.mp t
        rw [if_pos zp] at j1
        subst j1
        have pl : X9_place 1 1 1 dd x m g = some ((six 1 1 1 dd x m : Nat) : Int) := x9_plc (a := 1) (b := 1) (c := 1) (by omega) (by omega) (by omega) (by omega) (by omega) (by omega)
        have l7 : six 1 1 1 dd x m < 729 := by unfold six; omega
        have e92 : g.1 (81 + 10 + 1) (six 1 1 1 dd x m) = d0.1 92 (six 1 1 1 dd x m) := by show g.1 92 _ = _; rw [j3 92 (by decide)]
        rw [b1_pos (it.1 t), gd_pos (by decide), if_neg (by decide), b1_pos pl, gd_pos (by omega), gd_pos (by omega), lt_pos, Int.toNat_natCast, e92, show (5 * (cn9 (sP9 n 1 1 1 dd) x : Int) + (cn9 (sQ9 n 1 1 1 dd) m : Int)).toNat = 5 * cn9 (sP9 n 1 1 1 dd) x + cn9 (sQ9 n 1 1 1 dd) m by omega]
        refine ⟨_, rfl, rfl, by rw [if_pos zp, cn9_s, if_pos zq]; rfl, ⟨j2, fun q hq => (wI_ne (show q ≠ 81 + 18 from hq)).trans (j3 q hq)⟩, fun y g9 hy hz hz2 => ?_⟩
        show (wI g 99 _ _).1 99 _ = _
        rw [wI_at, fu_app]
        by_cases ey : y = x
        · subst ey
          by_cases eg : g9 = m
          · subst eg; rw [if_pos rfl]
          · have := cn9_lt (P := sQ9 n 1 1 1 dd) (x := g9) (m := m) (by omega) hz2
            rw [if_neg (by omega)]
            exact j4 y g9 (Or.inr ⟨rfl, by omega⟩) hz hz2
        · have hyx : y < x := by omega
          have := cn9_lt (P := sP9 n 1 1 1 dd) hyx hz
          have t1 := cn9_lt (P := sQ9 n 1 1 1 dd) (x := g9) (m := 2) (by omega) hz2
          have t2 := cn9_le (P := sQ9 n 1 1 1 dd) 2
          rw [if_neg (by omega)]
          exact j4 y g9 (Or.inl ⟨hyx, by omega⟩) hz hz2
      · rw [b1_pos (it.2 t), gd_pos (by decide), if_pos rfl]
        refine ⟨_, rfl, rfl, ?_, ⟨j2, j3⟩, fun y g9 hy hz hz2 => j4 y g9 ?_ hz hz2⟩
        · show v5 = _
          rw [j1]
          by_cases zp : sP9 n 1 1 1 dd x = true
          · rw [if_pos zp, if_pos zp, cn9_s, if_neg (fun zq => t (tPQ.mpr ⟨zp, zq⟩))]; rfl
          · rw [if_neg zp, if_neg zp]
        · by_cases ey : y = x ∧ g9 = m
          · obtain ⟨rfl, rfl⟩ := ey
            exact absurd (tPQ.mpr ⟨hz, hz2⟩) t
          · omega) (fun t hJ => by
      obtain ⟨v5, v6, g⟩ := t
      obtain ⟨j0, j1, ⟨j2, j3⟩, j4⟩ := hJ
      dsimp only at j0 j1 j2 j3 j4 ⊢
      subst j0
      refine ⟨(v5, g), ?_, j1, ⟨j2, j3⟩, j4⟩
      unfold X5_squareTurnsBack_b17
      rw [gd_pos (by decide), if_pos (by decide)])
    rw [l1]
    obtain ⟨v5, g⟩ := e'
    dsimp only at l0 l2 l3 l4 ⊢
    unfold X5_squareTurnsBack_j80_5
    have k2 := cn9_le (P := sQ9 n 1 1 1 dd) 2
    by_cases zp : sP9 n 1 1 1 dd x = true
    · rw [if_pos zp] at l0
      have zq : sQ9 n 1 1 1 dd x = true := by rw [← pq x hx]; exact zp
      have := cn9_lt (P := sQ9 n 1 1 1 dd) (x := x) (m := 2) hx zq
      rw [l0, gd_pos (by omega), if_neg (by omega), lt_pos]
      exact ⟨_, rfl, rfl, by rw [cn9_s, if_pos zp]; rfl, ⟨l2, l3⟩, fun y g hy hg => l4 y g (by omega)⟩
    · rw [if_neg zp] at l0
      rw [l0, gd_pos (by decide), if_pos (by decide), lt_pos]
      refine ⟨_, rfl, rfl, by rw [cn9_s, if_neg zp]; show (cn9 (sP9 n 1 1 1 dd) x : Int) + 0 = _; omega, ⟨l2, l3⟩, fun y g hy hg => l4 y g (by omega)⟩) (fun t hI => by
    obtain ⟨v3, v4, e⟩ := t
    obtain ⟨i0, i1, ⟨i2, i3⟩, i4⟩ := hI
    dsimp only at i0 i1 i2 i3 i4 ⊢
    subst i0 i1
    refine ⟨((cn9 (sP9 n 1 1 1 dd) 2 : Int), e), ?_, rfl, ⟨i2, i3⟩, i4⟩
    unfold X5_squareTurnsBack_b5
    rw [gd_pos (by decide), if_pos (by decide)])
  rw [e1]
  obtain ⟨v3, e⟩ := e
  dsimp only at e2 e3 e4 ⊢
  subst e2
  have kP := cn9_le (P := sP9 n 1 1 1 dd) 2
  have mM : Ms (cn9 (sP9 n 1 1 1 dd) 2) (e.1 99) (sM9 n (d0.1 92) 2 1 1 1 dd) := fun i j hi hj => by
    have k1 := pk9_ok (P := sP9 n 1 1 1 dd) hi
    have k2 := pk9_ok (P := sQ9 n 1 1 1 dd) (m := 2) (i := j) (by rw [ceq]; exact hj)
    have := e4 _ _ k1.1 k2.1 k1.2.1 k2.2.1
    rw [k1.2.2, k2.2.2] at this
    exact this
  have bM : Mb p (cn9 (sP9 n 1 1 1 dd) 2) (sM9 n (d0.1 92) 2 1 1 1 dd) := fun i j hi hj => by
    have k1 := pk9_ok (P := sP9 n 1 1 1 dd) hi
    have k2 := pk9_ok (P := sQ9 n 1 1 1 dd) (m := 2) (i := j) (by rw [ceq]; exact hj)
    exact hF 1 1 1 dd _ _ (by decide) (by decide) (by decide) hd k1.1 k2.1
  obtain ⟨ff, gg, t1, -⟩ := x3_turnB (d := e) (a1 := 99) (n1 := 25) (c0 := 100) (n0 := 25) (n := cn9 (sP9 n 1 1 1 dd) 2) (p := p) (M := sM9 n (d0.1 92) 2 1 1 1 dd) (iv := iv) (by omega) (by decide) (by decide) (by decide) (by decide) mM bM (by rw [e3.2 58 (by decide)]; exact hp) h2 h31 (by decide) (by decide) (by decide) hiv (by rw [e3.2 59 (by decide)]; exact h59)
  unfold X5_squareTurnsBack_j99
  have t1' : X3_turnBack 58 (81 + 18) 25 (81 + 19) 25 (cn9 (sP9 n 1 1 1 dd) 2 : Int) e = _ := t1
  rw [bd_pos t1', gd_pos (by split <;> decide)]
  refine ⟨_, _, rfl, e3.1, fun c z1 z2 z3 => by rw [wA_ne z3, wA_ne z1]; exact e3.2 c z2, fun z => if_pos z.2, fun z => if_neg (fun y => z ⟨ceq, y⟩)⟩
end

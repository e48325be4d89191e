/-! ===== solve: the reference's squares ===== -/
def sP9 (n : Nat → Int) (a b c dd x : Nat) : Bool := decide (n (ti a b x) = 1 ∧ n (ti x c dd) = 1)
def sQ9 (n : Nat → Int) (a b c dd x : Nat) : Bool := decide (n (ti b c x) = 1 ∧ n (ti a x dd) = 1)
def sM9 (n F : Nat → Int) (r a b c dd : Nat) : Mx := fun i j => F (six a b c dd (pk9 (sP9 n a b c dd) r i) (pk9 (sQ9 n a b c dd) r j))
def sOk (n F : Nat → Int) (r p : Nat) (iv : Int → Int) (a b c dd : Nat) : Prop := cn9 (sQ9 n a b c dd) r = cn9 (sP9 n a b c dd) r ∧ (gRun p (cn9 (sP9 n a b c dd) r) iv (cn9 (sP9 n a b c dd) r) 0 (sM9 n F r a b c dd, id9)).1 = true
def Fr2 (d0 d : DA) : Prop := d.2 = d0.2 ∧ ∀ q, q ≠ 138 → q ≠ 139 → d.1 q = d0.1 q
theorem Fr2.rf (d : DA) : Fr2 d d := ⟨rfl, fun _ _ _ => rfl⟩
theorem Fr2.tr {a b c : DA} (h1 : Fr2 a b) (h2 : Fr2 b c) : Fr2 a c := ⟨h2.1.trans h1.1, fun q z1 z2 => (h2.2 q z1 z2).trans (h1.2 q z1 z2)⟩
section
variable {n f F s R : Nat → Int} {r p a b c dd : Nat} {iv : Int → Int}
/-- what the reference's search rests on -/
def RS9 (d : DA) (n f F s R : Nat → Int) (r p : Nat) : Prop := d.1 114 = n ∧ d.1 117 = f ∧ d.1 113 1 = r ∧ d.1 113 4 = p ∧ TrD n f F s R r p
theorem RS9.fr {d0 d : DA} (h : RS9 d0 n f F s R r p) (hF : Fr2 d0 d) : RS9 d n f F s R r p := by
  unfold RS9 at h ⊢
  rw [hF.2 114 (by decide) (by decide), hF.2 117 (by decide) (by decide), hF.2 113 (by decide) (by decide)]
  exact h
theorem x12_sqt {d0 : DA} (h : RS9 d0 n f F s R r p) (hiv : IvG p iv) (ha : a < r) (hb : b < r) (hc : c < r) (hd : dd < r) : ∃ v d, X12_isSquareTurned 113 a b c dd d0 = some (v, d) ∧ Fr2 d0 d ∧ Wb (sOk n F r p iv a b c dd) v 1 := by
  have hT := h.2.2.2.2
  have h3 := hT.2.1
  have h5 := hT.1.1.2
  have hp := hT.2.2.1.1
  have h31 := hT.2.2.1.2
  have of9 : ∀ {e : DA}, RS9 e n f F s R r p → ∀ i j k : Nat, i < r → j < r → k < r → X12_of 113 i j k e = some (n (ti i j k)) ∧ 0 ≤ n (ti i j k) ∧ n (ti i j k) ≤ 9 := fun {e} he i j k hi hj hk => by
    have e1 := x12_of9 (d := e) (n := n) (a := i) (b := j) (c := k) he.1 (by omega) (by omega) (by omega)
    refine ⟨e1, hT.1.2.1 _ ?_⟩
    unfold ti; omega
  unfold X12_isSquareTurned
  obtain ⟨e, e1, e2, e3, e4⟩ := lpE_inv (b := fun q : Int × Int × DA => X12_isSquareTurned_b9 113 a b c dd q.1 q.2.1 q.2.2) (k := fun e : Int × DA => X12_isSquareTurned_j132 113 a b c dd e.1 e.2) (s0 := (0, 0, d0)) (fun x t => t.2.1 = (x : Int) ∧ t.1 = (cn9 (sP9 n a b c dd) x : Int) ∧ (t.2.2.2 = d0.2 ∧ ∀ q, q ≠ 138 → t.2.2.1 q = d0.1 q) ∧ ∀ y g, y < x → g < r → sP9 n a b c dd y = true → sQ9 n a b c dd g = true → t.2.2.1 138 (5 * cn9 (sP9 n a b c dd) y + cn9 (sQ9 n a b c dd) g) = F (six a b c dd y g)) (fun e => e.1 = (cn9 (sP9 n a b c dd) r : Int) ∧ (e.2.2 = d0.2 ∧ ∀ q, q ≠ 138 → e.2.1 q = d0.1 q) ∧ ∀ y g, y < r → g < r → sP9 n a b c dd y = true → sQ9 n a b c dd g = true → e.2.1 138 (5 * cn9 (sP9 n a b c dd) y + cn9 (sQ9 n a b c dd) g) = F (six a b c dd y g)) r (by omega) ⟨rfl, rfl, ⟨rfl, fun _ _ => rfl⟩, fun y g hy => absurd hy (Nat.not_lt_zero _)⟩ (fun x t hx hI => by
    obtain ⟨v5, v7, e⟩ := t
    obtain ⟨i0, i1, ⟨i2, i3⟩, i4⟩ := hI
    dsimp only at i0 i1 i2 i3 i4 ⊢
    subst i0 i1
    have he : RS9 e n f F s R r p := h.fr ⟨i2, fun q z1 _ => i3 q z1⟩
    obtain ⟨o1, o2⟩ := of9 he a b x ha hb hx
    obtain ⟨o3, o4⟩ := of9 he x c dd hx hc hd
    have kx := cn9_le (P := sP9 n a b c dd) x
    unfold X12_isSquareTurned_b9
    rw [he.2.2.1, gd_pos (by omega), if_neg (by omega), b1_pos o1, gd_pos (by omega)]
    have skip : ¬ sP9 n a b c dd x = true → ∃ s', some (Sum.inl ((cn9 (sP9 n a b c dd) x : Int), (x : Int) + 1, e)) = (some (.inl s') : Option ((Int × Int × DA) ⊕ (Int × DA))) ∧ (s'.2.1 = ((x + 1 : Nat) : Int) ∧ s'.1 = (cn9 (sP9 n a b c dd) (x + 1) : Int) ∧ (s'.2.2.2 = d0.2 ∧ ∀ q, q ≠ 138 → s'.2.2.1 q = d0.1 q) ∧ ∀ y g, y < x + 1 → g < r → sP9 n a b c dd y = true → sQ9 n a b c dd g = true → s'.2.2.1 138 (5 * cn9 (sP9 n a b c dd) y + cn9 (sQ9 n a b c dd) g) = F (six a b c dd y g)) := fun z => ⟨_, rfl, rfl, by rw [cn9_s, if_neg z]; rfl, ⟨i2, i3⟩, fun y g hy hg hz => i4 y g (by
      by_cases ey : y = x
      · rw [ey] at hz; exact absurd hz z
      · omega) hg hz⟩
    by_cases c1 : n (ti a b x) = 1
    · rw [if_pos c1, b1_pos o3, gd_pos (by omega)]
      by_cases c2 : n (ti x c dd) = 1
      · have z : sP9 n a b c dd x = true := decide_eq_true ⟨c1, c2⟩
        rw [if_pos c2]
        obtain ⟨e', l1, ⟨l2, l3⟩, l4⟩ := lpE_inv (b := fun q : Int × Int × DA => X12_isSquareTurned_b52 113 a b c dd (cn9 (sP9 n a b c dd) x : Int) x q.1 q.2.1 q.2.2) (k := fun e => X12_isSquareTurned_j123_9 113 a b c dd (cn9 (sP9 n a b c dd) x : Int) x e) (s0 := (0, 0, e)) (fun m t => t.2.1 = (m : Int) ∧ t.1 = (cn9 (sQ9 n a b c dd) m : Int) ∧ (t.2.2.2 = d0.2 ∧ ∀ q, q ≠ 138 → t.2.2.1 q = d0.1 q) ∧ ∀ y g, (y < x ∧ g < r ∨ y = x ∧ g < m) → sP9 n a b c dd y = true → sQ9 n a b c dd g = true → t.2.2.1 138 (5 * cn9 (sP9 n a b c dd) y + cn9 (sQ9 n a b c dd) g) = F (six a b c dd y g)) (fun e => (e.2 = d0.2 ∧ ∀ q, q ≠ 138 → e.1 q = d0.1 q) ∧ ∀ y g, (y < x ∧ g < r ∨ y = x ∧ g < r) → sP9 n a b c dd y = true → sQ9 n a b c dd g = true → e.1 138 (5 * cn9 (sP9 n a b c dd) y + cn9 (sQ9 n a b c dd) g) = F (six a b c dd y g)) r (by omega) ⟨rfl, rfl, ⟨i2, i3⟩, fun y g hy => i4 y g (by omega) (by omega)⟩ (fun m t hm9 hJ => by
          obtain ⟨v6, v8, g⟩ := t
          obtain ⟨j0, j1, ⟨j2, j3⟩, j4⟩ := hJ
          dsimp only at j0 j1 j2 j3 j4 ⊢
          subst j0 j1
          have hg : RS9 g n f F s R r p := h.fr ⟨j2, fun q z1 _ => j3 q z1⟩
          obtain ⟨u1, u2⟩ := of9 hg b c m hb hc hm9
          obtain ⟨u3, u4⟩ := of9 hg a m dd ha hm9 hd
          have km := cn9_le (P := sQ9 n a b c dd) m
          have ot := x12_tree9 hT hg.1 hg.2.1 ha hb hc hd hx hm9
          unfold X12_isSquareTurned_b52
          rw [hg.2.2.1, gd_pos (by omega), if_neg (by omega), b1_pos u1, gd_pos (by omega)]
          have skip2 : ¬ sQ9 n a b c dd m = true → ∃ s', some (Sum.inl ((cn9 (sQ9 n a b c dd) m : Int), (m : Int) + 1, g)) = (some (.inl s') : Option ((Int × Int × DA) ⊕ DA)) ∧ (s'.2.1 = ((m + 1 : Nat) : Int) ∧ s'.1 = (cn9 (sQ9 n a b c dd) (m + 1) : Int) ∧ (s'.2.2.2 = d0.2 ∧ ∀ q, q ≠ 138 → s'.2.2.1 q = d0.1 q) ∧ ∀ y g, (y < x ∧ g < r ∨ y = x ∧ g < m + 1) → sP9 n a b c dd y = true → sQ9 n a b c dd g = true → s'.2.2.1 138 (5 * cn9 (sP9 n a b c dd) y + cn9 (sQ9 n a b c dd) g) = F (six a b c dd y g)) := fun z => ⟨_, rfl, rfl, by rw [cn9_s, if_neg z]; rfl, ⟨j2, j3⟩, fun y g9 hy hz hz2 => j4 y g9 (by
            by_cases eg : g9 = m
            · rw [eg] at hz2; exact absurd hz2 z
            · omega) hz hz2⟩
          by_cases k1 : n (ti b c m) = 1
          · rw [if_pos k1, b1_pos u3, gd_pos (by omega)]
            by_cases k2 : n (ti a m dd) = 1
            · have zq : sQ9 n a b c dd m = true := decide_eq_true ⟨k1, k2⟩
              rw [if_pos k2, b1_pos ot, gd_pos (by omega), lt_pos, show (5 * (cn9 (sP9 n a b c dd) x : Int) + (cn9 (sQ9 n a b c dd) m : Int)).toNat = 5 * cn9 (sP9 n a b c dd) x + cn9 (sQ9 n a b c dd) m by omega]
              refine ⟨_, rfl, rfl, by rw [cn9_s, if_pos zq]; rfl, ⟨j2, fun q hq => ?_⟩, fun y g9 hy hz hz2 => ?_⟩
              · exact (wI_ne (show q ≠ 113 + 25 from hq)).trans (j3 q hq)
              · show (wI g 138 _ _).1 138 _ = _
                rw [wI_at, fu_app]
                by_cases ey : y = x
                · subst ey
                  by_cases eg : g9 = m
                  · subst eg; rw [if_pos rfl]
                  · have := cn9_lt (P := sQ9 n a b c dd) (x := g9) (m := m) (by omega) hz2
                    rw [if_neg (by omega)]
                    exact j4 y g9 (Or.inr ⟨rfl, by omega⟩) hz hz2
                · have hyx : y < x := by omega
                  have := cn9_lt (P := sP9 n a b c dd) hyx hz
                  have g9r : g9 < r := by omega
                  have t1 := cn9_lt (P := sQ9 n a b c dd) g9r hz2
                  have t2 := cn9_le (P := sQ9 n a b c dd) r
                  rw [if_neg (by omega)]
                  exact j4 y g9 (Or.inl ⟨hyx, g9r⟩) hz hz2
            · rw [if_neg k2]; exact skip2 (fun z => k2 (of_decide_eq_true z).2)
          · rw [if_neg k1]; exact skip2 (fun z => k1 (of_decide_eq_true z).1)) (fun t hJ => by
          obtain ⟨v6, v8, g⟩ := t
          obtain ⟨j0, j1, ⟨j2, j3⟩, j4⟩ := hJ
          dsimp only at j0 j1 j2 j3 j4 ⊢
          subst j0 j1
          have hg : RS9 g n f F s R r p := h.fr ⟨j2, fun q z1 _ => j3 q z1⟩
          refine ⟨g, ?_, ⟨j2, j3⟩, j4⟩
          unfold X12_isSquareTurned_b52
          rw [hg.2.2.1, gd_pos (by omega), if_pos (by omega)])
        rw [l1]
        refine ⟨_, rfl, rfl, by rw [cn9_s, if_pos z]; rfl, ⟨l2, l3⟩, fun y g hy hg => l4 y g (by omega)⟩
      · rw [if_neg c2]; exact skip (fun z => c2 (of_decide_eq_true z).2)
    · rw [if_neg c1]; exact skip (fun z => c1 (of_decide_eq_true z).1)) (fun t hI => by
    obtain ⟨v5, v7, e⟩ := t
    obtain ⟨i0, i1, ⟨i2, i3⟩, i4⟩ := hI
    dsimp only at i0 i1 i2 i3 i4 ⊢
    subst i0 i1
    have he : RS9 e n f F s R r p := h.fr ⟨i2, fun q z1 _ => i3 q z1⟩
    refine ⟨((cn9 (sP9 n a b c dd) r : Int), e), ?_, rfl, ⟨i2, i3⟩, i4⟩
    unfold X12_isSquareTurned_b9
    rw [he.2.2.1, gd_pos (by omega), if_pos (by omega)])
  rw [e1]
  obtain ⟨v5, e⟩ := e
  dsimp only at e2 e3 e4 ⊢
  subst e2
  have he : RS9 e n f F s R r p := h.fr ⟨e3.1, fun q z1 _ => e3.2 q z1⟩
  have kP := cn9_le (P := sP9 n a b c dd) r
  have kQ := cn9_le (P := sQ9 n a b c dd) r
  have el : X12_isSquareTurned_j132 113 a b c dd (cn9 (sP9 n a b c dd) r : Int) e = X12_isSquareTurned_j188 113 (cn9 (sP9 n a b c dd) r : Int) (cn9 (sQ9 n a b c dd) r : Int) e := by
    unfold X12_isSquareTurned_j132
    refine lpE_for (fun i => ((cn9 (sQ9 n a b c dd) i : Int), (i : Int))) r _ rfl (by omega) (fun i hi => ?_) ?_
    · show X12_isSquareTurned_b138 113 a b c dd _ (cn9 (sQ9 n a b c dd) i : Int) (i : Int) e = some (.inl ((cn9 (sQ9 n a b c dd) (i + 1) : Int), ((i + 1 : Nat) : Int)))
      obtain ⟨u1, u2⟩ := of9 he b c i hb hc hi
      obtain ⟨u3, u4⟩ := of9 he a i dd ha hi hd
      unfold X12_isSquareTurned_b138
      rw [he.2.2.1, gd_pos (by omega), if_neg (by omega), b1_pos u1, gd_pos (by omega)]
      have no : ¬ sQ9 n a b c dd i = true → X12_isSquareTurned_j178_138 113 a b c dd (cn9 (sP9 n a b c dd) r : Int) i (cn9 (sQ9 n a b c dd) i : Int) e = some (.inl ((cn9 (sQ9 n a b c dd) (i + 1) : Int), ((i + 1 : Nat) : Int))) := fun z => by
        unfold X12_isSquareTurned_j178_138
        rw [lt_pos, cn9_s, if_neg z]; rfl
      by_cases k1 : n (ti b c i) = 1
      · rw [if_pos k1, b1_pos u3, gd_pos (by omega)]
        by_cases k2 : n (ti a i dd) = 1
        · rw [if_pos k2, lt_pos, cn9_s, if_pos (show sQ9 n a b c dd i = true from decide_eq_true ⟨k1, k2⟩)]; rfl
        · rw [if_neg k2]; exact no (fun z => k2 (of_decide_eq_true z).2)
      · rw [if_neg k1]; exact no (fun z => k1 (of_decide_eq_true z).1)
    · show X12_isSquareTurned_b138 113 a b c dd _ _ (r : Int) e = _
      unfold X12_isSquareTurned_b138
      rw [he.2.2.1, gd_pos (by omega), if_pos (by omega)]
  rw [el]
  unfold X12_isSquareTurned_j188
  rw [gd_pos (by omega)]
  by_cases ce : cn9 (sQ9 n a b c dd) r = cn9 (sP9 n a b c dd) r
  · rw [if_pos (by omega)]
    have mM : Ms (cn9 (sP9 n a b c dd) r) (e.1 138) (sM9 n F r a b c dd) := fun i j hi hj => by
      have k1 := pk9_ok (P := sP9 n a b c dd) hi
      have k2 := pk9_ok (P := sQ9 n a b c dd) (m := r) (i := j) (by rw [ce]; exact hj)
      have := e4 _ _ k1.1 k2.1 k1.2.1 k2.2.1
      rw [k1.2.2, k2.2.2] at this
      exact this
    have bM : Mb p (cn9 (sP9 n a b c dd) r) (sM9 n F r a b c dd) := fun i j hi hj => by
      have k1 := pk9_ok (P := sP9 n a b c dd) hi
      have k2 := pk9_ok (P := sQ9 n a b c dd) (m := r) (i := j) (by rw [ce]; exact hj)
      exact hT.f ha hb hc hd k1.1 k2.1
    obtain ⟨ff, gg, t1, -⟩ := x12_turnB (d := e) (n := cn9 (sP9 n a b c dd) r) (p := p) (M := sM9 n F r a b c dd) (iv := iv) (by omega) mM bM he.2.2.2.1 hp h31 hiv
    rw [bd_pos t1]
    have fr : Fr2 d0 (wA (wA e 138 ff) 139 gg) := ⟨e3.1, fun q z1 z2 => by rw [wA_ne z2, wA_ne z1]; exact e3.2 q z1⟩
    by_cases g : (gRun p (cn9 (sP9 n a b c dd) r) iv (cn9 (sP9 n a b c dd) r) 0 (sM9 n F r a b c dd, id9)).1 = true
    · rw [if_pos g, gd_pos (by decide), if_neg (by decide)]
      exact ⟨1, _, rfl, fr, fun _ => rfl, fun z => absurd ⟨ce, g⟩ z⟩
    · rw [if_neg g, gd_pos (by decide), if_pos rfl]
      exact ⟨0, _, rfl, fr, fun z => absurd z.2 g, fun _ => rfl⟩
  · rw [if_neg (by omega)]
    exact ⟨0, e, rfl, ⟨e3.1, fun q z1 _ => e3.2 q z1⟩, fun z => absurd z.1 ce, fun _ => rfl⟩
end

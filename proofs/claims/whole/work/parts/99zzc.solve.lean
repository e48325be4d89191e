/-! ===== solve: all squares, unknowns, the reference ===== -/
theorem cn9_one {P : Nat → Bool} {x0 r : Nat} (hx : x0 < r) (h : ∀ x, x < r → (P x = true ↔ x = x0)) : cn9 P r = 1 ∧ pk9 P r 0 = x0 := by
  have e0 : cn9 P x0 = 0 := by
    have := cn9_none (G := P) x0 0 (fun X _ a => fun z => by have := (h X (by omega)).mp z; omega)
    rw [Nat.zero_add] at this
    exact this
  have hp : P x0 = true := (h x0 hx).mpr rfl
  have e1 : cn9 P (x0 + 1) = 1 := by rw [cn9_s, e0, if_pos hp]
  have e2 := cn9_none (G := P) (r - (x0 + 1)) (x0 + 1) (fun X a b => fun z => by have := (h X (by omega)).mp z; omega)
  rw [show x0 + 1 + (r - (x0 + 1)) = r by omega, e1] at e2
  have := pk9_at hx hp
  rw [e0] at this
  exact ⟨e2, this⟩
theorem cn9_no {P : Nat → Bool} {r : Nat} (h : ∀ x, x < r → ¬ P x = true) : cn9 P r = 0 := by
  have := cn9_none (G := P) r 0 (fun X _ a => h X (by omega))
  rw [Nat.zero_add] at this
  exact this
theorem g_one {p : Nat} {iv : Int → Int} {M : Mx} (hp : 2 ≤ p) (hiv : IvG p iv) (h : M 0 0 = 1) : (gRun p 1 iv 1 0 (M, id9)).1 = true := by
  have bM : Mb p 1 M := fun i j hi hj => by
    rw [show i = 0 by omega, show j = 0 by omega, h]; omega
  cases hg : (gRun p 1 iv 1 0 (M, id9)).1 with
  | true => rfl
  | false =>
    exfalso
    obtain ⟨v, ⟨k, hk, hv⟩, hz⟩ := (g_run0 hp hiv bM).2.1 hg
    have : k = 0 := by omega
    subst this
    have := hz 0 (by decide)
    have e : (sm 1 fun k => M 0 k * v k) = v 0 := by
      show 0 + M 0 0 * v 0 = v 0
      rw [h]; omega
    rw [e] at this
    exact hv this
section
variable {n f F s R : Nat → Int} {r p a b c dd : Nat} {iv : Int → Int}
theorem sOk_by {x0 y0 : Nat} {T : Prop} (hp : 2 ≤ p) (hiv : IvG p iv) (hx : x0 < r) (hy : y0 < r) (h1 : ∀ x, x < r → (sP9 n a b c dd x = true ↔ x = x0 ∧ T)) (h2 : ∀ x, x < r → (sQ9 n a b c dd x = true ↔ x = y0 ∧ T)) (h3 : T → F (six a b c dd x0 y0) = 1) : sOk n F r p iv a b c dd := by
  by_cases t : T
  · have a1 := cn9_one (P := sP9 n a b c dd) hx (fun x hr => by rw [h1 x hr]; exact ⟨fun z => z.1, fun z => ⟨z, t⟩⟩)
    have a2 := cn9_one (P := sQ9 n a b c dd) hy (fun x hr => by rw [h2 x hr]; exact ⟨fun z => z.1, fun z => ⟨z, t⟩⟩)
    unfold sOk
    rw [a1.1, a2.1]
    refine ⟨rfl, g_one hp hiv ?_⟩
    show F (six a b c dd _ _) = 1
    rw [a1.2, a2.2]; exact h3 t
  · have a1 := cn9_no (P := sP9 n a b c dd) (r := r) (fun x hr z => t ((h1 x hr).mp z).2)
    have a2 := cn9_no (P := sQ9 n a b c dd) (r := r) (fun x hr z => t ((h2 x hr).mp z).2)
    unfold sOk
    rw [a1, a2]
    exact ⟨rfl, rfl⟩
/-- a square with the kind 0 among its first three is turned back -/
theorem sOk_0 (hT : TG n r) (hF : FZ n F r) (hp : 2 ≤ p) (hiv : IvG p iv) (ha : a < r) (hb : b < r) (hc : c < r) (hd : dd < r) (h0 : a = 0 ∨ b = 0 ∨ c = 0) : sOk n F r p iv a b c dd := by
  have le : ∀ u v, u < r → v < r → (n (ti 0 u v) = 1 ↔ v = u) := fun u v hu hv => by
    rw [hT.2.2.2.1 u v hu hv]
    by_cases z : u = v
    · rw [if_pos z]; exact ⟨fun _ => z.symm, fun _ => rfl⟩
    · rw [if_neg z]; exact ⟨fun y => by omega, fun y => absurd y.symm z⟩
  have re : ∀ u v, u < r → v < r → (n (ti u 0 v) = 1 ↔ v = u) := fun u v hu hv => by
    rw [hT.2.2.2.2 u v hu hv]
    by_cases z : u = v
    · rw [if_pos z]; exact ⟨fun _ => z.symm, fun _ => rfl⟩
    · rw [if_neg z]; exact ⟨fun y => by omega, fun y => absurd y.symm z⟩
  rcases h0 with rfl | rfl | rfl
  · refine sOk_by (x0 := b) (y0 := dd) (T := n (ti b c dd) = 1) hp hiv hb hd (fun x hx => ?_) (fun x hx => ?_) (fun t => ?_)
    · unfold sP9
      rw [decide_eq_true_iff, le b x hb hx]
      exact ⟨fun z => ⟨z.1, by rw [← z.1]; exact z.2⟩, fun z => ⟨z.1, by rw [z.1]; exact z.2⟩⟩
    · unfold sQ9
      rw [decide_eq_true_iff, le x dd hx hd]
      exact ⟨fun z => ⟨z.2.symm, by rw [z.2]; exact z.1⟩, fun z => ⟨by rw [z.1]; exact z.2, z.1.symm⟩⟩
    · exact (hF 0 b c dd b dd ha hb hc hd hb hd).1 ⟨(le b b hb hb).mpr rfl, t, t, (le dd dd hd hd).mpr rfl⟩ (Or.inl rfl)
  · refine sOk_by (x0 := a) (y0 := c) (T := n (ti a c dd) = 1) hp hiv ha hc (fun x hx => ?_) (fun x hx => ?_) (fun t => ?_)
    · unfold sP9
      rw [decide_eq_true_iff, re a x ha hx]
      exact ⟨fun z => ⟨z.1, by rw [← z.1]; exact z.2⟩, fun z => ⟨z.1, by rw [z.1]; exact z.2⟩⟩
    · unfold sQ9
      rw [decide_eq_true_iff, le c x hc hx]
      exact ⟨fun z => ⟨z.1, by rw [← z.1]; exact z.2⟩, fun z => ⟨z.1, by rw [z.1]; exact z.2⟩⟩
    · exact (hF a 0 c dd a c ha hb hc hd ha hc).1 ⟨(re a a ha ha).mpr rfl, t, (le c c hc hc).mpr rfl, t⟩ (Or.inr (Or.inl rfl))
  · refine sOk_by (x0 := dd) (y0 := b) (T := n (ti a b dd) = 1) hp hiv hd hb (fun x hx => ?_) (fun x hx => ?_) (fun t => ?_)
    · unfold sP9
      rw [decide_eq_true_iff, re x dd hx hd]
      exact ⟨fun z => ⟨z.2.symm, by rw [z.2]; exact z.1⟩, fun z => ⟨by rw [z.1]; exact z.2, z.1.symm⟩⟩
    · unfold sQ9
      rw [decide_eq_true_iff, re b x hb hx]
      exact ⟨fun z => ⟨z.1, by rw [← z.1]; exact z.2⟩, fun z => ⟨z.1, by rw [z.1]; exact z.2⟩⟩
    · exact (hF a b 0 dd dd b ha hb hc hd hd hb).1 ⟨t, (re dd dd hd hd).mpr rfl, (re b b hb hb).mpr rfl, t⟩ (Or.inr (Or.inr rfl))
/-- a counted search over a state: all hold, or the first that doesn't ends it -/
theorem lpR_all {Y : Type} {bo : Int × DA → Option ((Int × DA) ⊕ (DA ⊕ (Int × DA)))} {k : DA → Option Y} {j : Int × DA → Option Y} {d0 d : DA} {r : Nat} {G : Nat → Prop} (hr : r < 4000000) (hd : Fr2 d0 d) (hb : ∀ (i : Nat) e, i < r → Fr2 d0 e → (G i ∧ ∃ e', bo ((i : Int), e) = some (.inl ((i : Int) + 1, e')) ∧ Fr2 d0 e') ∨ (¬ G i ∧ ∃ e', bo ((i : Int), e) = some (.inr (.inr (0, e'))) ∧ Fr2 d0 e')) (he : ∀ e, Fr2 d0 e → bo ((r : Int), e) = some (.inr (.inl e))) : ((∀ i, i < r → G i) ∧ ∃ e, lpR bo (0, d) k j = k e ∧ Fr2 d0 e) ∨ ((¬ ∀ i, i < r → G i) ∧ ∃ e, lpR bo (0, d) k j = j (0, e) ∧ Fr2 d0 e) := by
  have key := lpR_ei (b := bo) (k := k) (j := j) (s0 := (0, d)) (fun i t => t.1 = (i : Int) ∧ Fr2 d0 t.2 ∧ ∀ y, y < i → G y) (fun e => Fr2 d0 e ∧ ∀ y, y < r → G y) (fun y => y.1 = 0 ∧ Fr2 d0 y.2 ∧ ¬ ∀ i, i < r → G i) r hr ⟨rfl, hd, fun y hy => absurd hy (Nat.not_lt_zero _)⟩ (fun i t hi hI => by
    obtain ⟨v, e⟩ := t
    obtain ⟨i1, i2, i3⟩ := hI
    dsimp only at i1 i2 i3 ⊢
    subst i1
    rcases hb i e hi i2 with ⟨g, e', a1, a2⟩ | ⟨g, e', a1, a2⟩
    · refine Or.inl ⟨_, a1, rfl, a2, fun y hy => ?_⟩
      by_cases ey : y = i
      · rw [ey]; exact g
      · exact i3 y (by omega)
    · exact Or.inr ⟨_, a1, rfl, a2, fun z => g (z i hi)⟩) (fun t hI => by
    obtain ⟨v, e⟩ := t
    obtain ⟨i1, i2, i3⟩ := hI
    dsimp only at i1 i2 i3 ⊢
    subst i1
    exact ⟨e, he e i2, i2, i3⟩)
  rcases key with ⟨e, e1, e2, e3⟩ | ⟨y, e1, e2, e3, e4⟩
  · exact Or.inl ⟨e3, e, e1, e2⟩
  · obtain ⟨v, e⟩ := y
    dsimp only at e2 e3 e4
    subst e2
    exact Or.inr ⟨e4, e, e1, e3⟩
theorem x12_allT {d0 : DA} (h : RS9 d0 n f F s R r p) (hiv : IvG p iv) : ∃ v d, X12_allTurned 113 d0 = some (v, d) ∧ Fr2 d0 d ∧ Wb (∀ a, a < r → ∀ b, b < r → ∀ c, c < r → ∀ dd, dd < r → sOk n F r p iv a b c dd) v 1 := by
  have h3 := h.2.2.2.2.2.1
  have rr : ∀ {e : DA}, Fr2 d0 e → e.1 113 1 = r := fun he => (h.fr he).2.2.1
  have t4 : ∀ a b c, a < r → b < r → c < r → ∀ e, Fr2 d0 e → ((∀ dd, dd < r → sOk n F r p iv a b c dd) ∧ ∃ e', X12_allTurned_b22 113 a b (c : Int) e = some (.inl ((c : Int) + 1, e')) ∧ Fr2 d0 e') ∨ ((¬ ∀ dd, dd < r → sOk n F r p iv a b c dd) ∧ ∃ e', X12_allTurned_b22 113 a b (c : Int) e = some (.inr (.inr (0, e'))) ∧ Fr2 d0 e') := fun a b c ha hb hc e he => by
    unfold X12_allTurned_b22
    rw [rr he, gd_pos (by omega), if_neg (by omega)]
    rcases lpR_all (bo := fun q : Int × DA => X12_allTurned_b33 113 a b c q.1 q.2) (k := fun e : DA => some (.inl ((c : Int) + 1, e))) (j := fun r : Int × DA => (some (.inr (.inr r)) : Option ((Int × DA) ⊕ (DA ⊕ (Int × DA))))) (r := r) (G := fun dd => sOk n F r p iv a b c dd) (by omega) he (fun dd g hdd hg => by
      obtain ⟨v, g', u1, u2, u3⟩ := x12_sqt (dd := dd) (h.fr hg) hiv ha hb hc hdd
      have ub := u3.or
      show (_ ∧ ∃ e', X12_allTurned_b33 113 a b c (dd : Int) g = _ ∧ _) ∨ (_ ∧ ∃ e', X12_allTurned_b33 113 a b c (dd : Int) g = _ ∧ _)
      unfold X12_allTurned_b33
      rw [rr hg, gd_pos (by omega), if_neg (by omega), bd_pos u1, gd_pos (by omega)]
      by_cases cv : v = 0
      · rw [if_pos cv]
        exact Or.inr ⟨fun z => by have := u3.1 z; omega, _, rfl, hg.tr u2⟩
      · rw [if_neg cv]
        refine Or.inl ⟨?_, _, rfl, hg.tr u2⟩
        by_cases z : sOk n F r p iv a b c dd
        · exact z
        · exact absurd (u3.2 z) cv) (fun g hg => by
      show X12_allTurned_b33 113 a b c (r : Int) g = _
      unfold X12_allTurned_b33
      rw [rr hg, gd_pos (by omega), if_pos (by omega)]) with ⟨z1, e', z2, z3⟩ | ⟨z1, e', z2, z3⟩
    · exact Or.inl ⟨z1, e', z2, z3⟩
    · exact Or.inr ⟨z1, e', z2, z3⟩
  have t3 : ∀ a b, a < r → b < r → ∀ e, Fr2 d0 e → ((∀ c, c < r → ∀ dd, dd < r → sOk n F r p iv a b c dd) ∧ ∃ e', X12_allTurned_b12 113 a (b : Int) e = some (.inl ((b : Int) + 1, e')) ∧ Fr2 d0 e') ∨ ((¬ ∀ c, c < r → ∀ dd, dd < r → sOk n F r p iv a b c dd) ∧ ∃ e', X12_allTurned_b12 113 a (b : Int) e = some (.inr (.inr (0, e'))) ∧ Fr2 d0 e') := fun a b ha hb e he => by
    unfold X12_allTurned_b12
    rw [rr he, gd_pos (by omega), if_neg (by omega)]
    rcases lpR_all (bo := fun q : Int × DA => X12_allTurned_b22 113 a b q.1 q.2) (k := fun e : DA => some (.inl ((b : Int) + 1, e))) (j := fun r : Int × DA => (some (.inr (.inr r)) : Option ((Int × DA) ⊕ (DA ⊕ (Int × DA))))) (r := r) (G := fun c => ∀ dd, dd < r → sOk n F r p iv a b c dd) (by omega) he (fun c g hc hg => t4 a b c ha hb hc g hg) (fun g hg => by
      show X12_allTurned_b22 113 a b (r : Int) g = _
      unfold X12_allTurned_b22
      rw [rr hg, gd_pos (by omega), if_pos (by omega)]) with ⟨z1, e', z2, z3⟩ | ⟨z1, e', z2, z3⟩
    · exact Or.inl ⟨z1, e', z2, z3⟩
    · exact Or.inr ⟨z1, e', z2, z3⟩
  have t2 : ∀ a, a < r → ∀ e, Fr2 d0 e → ((∀ b, b < r → ∀ c, c < r → ∀ dd, dd < r → sOk n F r p iv a b c dd) ∧ ∃ e', X12_allTurned_b2 113 (a : Int) e = some (.inl ((a : Int) + 1, e')) ∧ Fr2 d0 e') ∨ ((¬ ∀ b, b < r → ∀ c, c < r → ∀ dd, dd < r → sOk n F r p iv a b c dd) ∧ ∃ e', X12_allTurned_b2 113 (a : Int) e = some (.inr (.inr (0, e'))) ∧ Fr2 d0 e') := fun a ha e he => by
    unfold X12_allTurned_b2
    rw [rr he, gd_pos (by omega), if_neg (by omega)]
    rcases lpR_all (bo := fun q : Int × DA => X12_allTurned_b12 113 a q.1 q.2) (k := fun e : DA => some (.inl ((a : Int) + 1, e))) (j := fun r : Int × DA => (some (.inr (.inr r)) : Option ((Int × DA) ⊕ (DA ⊕ (Int × DA))))) (r := r) (G := fun b => ∀ c, c < r → ∀ dd, dd < r → sOk n F r p iv a b c dd) (by omega) he (fun b g hb hg => t3 a b ha hb g hg) (fun g hg => by
      show X12_allTurned_b12 113 a (r : Int) g = _
      unfold X12_allTurned_b12
      rw [rr hg, gd_pos (by omega), if_pos (by omega)]) with ⟨z1, e', z2, z3⟩ | ⟨z1, e', z2, z3⟩
    · exact Or.inl ⟨z1, e', z2, z3⟩
    · exact Or.inr ⟨z1, e', z2, z3⟩
  unfold X12_allTurned
  rcases lpR_all (bo := fun q : Int × DA => X12_allTurned_b2 113 q.1 q.2) (k := fun e : DA => some ((1 : Int), e)) (j := fun r : Int × DA => some r) (r := r) (G := fun a => ∀ b, b < r → ∀ c, c < r → ∀ dd, dd < r → sOk n F r p iv a b c dd) (by omega) (Fr2.rf d0) (fun a g ha hg => t2 a ha g hg) (fun g hg => by
    show X12_allTurned_b2 113 (r : Int) g = _
    unfold X12_allTurned_b2
    rw [rr hg, gd_pos (by omega), if_pos (by omega)]) with ⟨z1, e', z2, z3⟩ | ⟨z1, e', z2, z3⟩
  · exact ⟨1, e', z2, z3, fun _ => rfl, fun z => absurd z1 z⟩
  · exact ⟨0, e', z2, z3, fun z => absurd z z1, fun _ => rfl⟩
end

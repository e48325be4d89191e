/-! ===== solve: the reference goes through all rows ===== -/
def SV9 (d0 : DA) (G : Nat → Bool) (u : Nat) (U : Nat → Nat) (p i Y M : Nat) (d : DA) : Prop := FrV d0 d ∧ (∀ Q, (∀ j, j < u → Q ≠ U j) → d.1 117 Q = d0.1 117 Q) ∧ (∀ q, q < 729 → 0 ≤ d.1 117 q ∧ d.1 117 q < p) ∧ (∀ j, j < i → d.1 117 (U j) = (dg9 p Y i j : Int)) ∧ d.1 113 59 = (cn9 G M : Int) ∧ (cn9 G M ≠ 0 → ∀ j, j < u → d.1 141 j = (dg9 p (pk9 G (p ^ u) 0) u j : Int))
theorem x12_son {d0 : DA} {n : Nat → Int} {p u : Nat} {U : Nat → Nat} {iv : Int → Int} {G : Nat → Bool} (h14 : d0.1 114 = n) (hr : d0.1 113 1 = ((2 : Nat) : Int)) (hp : d0.1 113 4 = p) (h2 : 2 ≤ p) (h13 : p ≤ 13) (hiv : IvG p iv) (hu : d0.1 113 58 = u) (hu5 : u ≤ 5) (hU : ∀ j, j < u → d0.1 140 j = (U j : Int) ∧ U j < 729) (hUi : ∀ i j, i < u → j < u → U i = U j → i = j) (hF : ∀ (f : Nat → Int) X, X < p ^ u → (∀ q, q < 729 → 0 ≤ f q ∧ f q < p) → (∀ j, j < u → f (U j) = (dg9 p X u j : Int)) → TrD n f (FX9 n p X) (fun _ => 0) (sZ9 n) 2 p) (hG : ∀ X, X < p ^ u → (G X = true ↔ SoA n (FX9 n p X) 2 p iv)) (hN : p ^ u ≤ 400000) : ∀ m i Y F d, i + m = u → m < F → Y < p ^ i → SV9 d0 G u U p i Y (Y * p ^ m) d → ∃ d', X12_solveOn 113 F i d = some ((), d') ∧ SV9 d0 G u U p i Y ((Y + 1) * p ^ m) d' := by
  intro m
  induction m with
  | zero =>
    intro i Y F d hi hFu hY hS
    obtain ⟨F, rfl⟩ : ∃ F', F = F' + 1 := ⟨F - 1, by omega⟩
    have hiu : i = u := by omega
    subst hiu
    rw [Nat.pow_zero, Nat.mul_one] at hS ⊢
    obtain ⟨s1, s2, s3, s4, s5, s6⟩ := hS
    have k1 := cn9_le (P := G) Y
    have hRS : RS9 d n (d.1 117) (FX9 n p Y) (fun _ => 0) (sZ9 n) 2 p := ⟨by rw [s1.c (by decide) (by decide) (by decide)]; exact h14, rfl, by rw [s1.n (by decide)]; exact hr, by rw [s1.n (by decide)]; exact hp, hF _ Y hY s3 s4⟩
    obtain ⟨d', t1, t2, t3, t4, t5⟩ := x12_leafS (d := d) (u := i) (A := cn9 G Y) (U := U) (v1 := (i : Int)) (g := X12_solveOn 113 F) hRS hiv (by rw [s1.n (by decide)]; exact hu) (by omega) (Int.le_refl _) (by omega) (fun j hj => by rw [s1.c (by decide) (by decide) (by decide)]; exact hU j hj) s5 (by omega)
    refine ⟨d', t1, s1.tr t2, by rw [t3]; exact s2, by rw [t3]; exact s3, by rw [t3]; exact s4, ?_, ?_⟩
    · by_cases g : SoA n (FX9 n p Y) 2 p iv
      · rw [(t4 g).1, cn9_s, if_pos ((hG Y hY).mpr g)]
      · rw [(t5 g).1, cn9_s, if_neg (fun z => g ((hG Y hY).mp z))]; rfl
    · intro z j hj
      by_cases g : SoA n (FX9 n p Y) 2 p iv
      · have gt := (hG Y hY).mpr g
        by_cases c0 : cn9 G Y = 0
        · rw [(t4 g).2.1 c0 j hj, s4 j hj]
          have := pk9_at (P := G) (m := p ^ i) hY gt
          rw [c0] at this
          rw [this]
        · rw [(t4 g).2.2 c0]; exact s6 c0 j hj
      · rw [cn9_s, if_neg (fun z => g ((hG Y hY).mp z))] at z
        rw [(t5 g).2]; exact s6 z j hj
  | succ m ih =>
    intro i Y F d hi hFu hY hS
    obtain ⟨F, rfl⟩ : ∃ F', F = F' + 1 := ⟨F - 1, by omega⟩
    have hiu : i < u := by omega
    have e58 : d.1 113 58 = u := by rw [hS.1.n (by decide)]; exact hu
    have eM : X12_solveOn 113 (F + 1) i d = lpE (fun q => X12_solveOn_b10 113 (X12_solveOn 113 F) i q.1 q.2) (0, d) (fun e => some ((), e)) := by
      show X12_solveOn_m 113 (X12_solveOn 113 F) i d = _
      unfold X12_solveOn_m
      rw [e58, gd_pos (by omega), if_neg (by omega)]
    rw [eM]
    have ivl : ∀ w, (Y * p + w) * p ^ m = Y * p ^ (m + 1) + w * p ^ m := fun w => by
      rw [Nat.add_mul, Nat.mul_assoc, ← Nat.pow_succ']
    have e0 : Y * p ^ (m + 1) = (Y * p + 0) * p ^ m := by rw [ivl]; omega
    have e9 : (Y + 1) * p ^ (m + 1) = (Y * p + p) * p ^ m := by rw [ivl, Nat.add_mul, Nat.one_mul, Nat.pow_succ']
    rw [e0] at hS
    rw [e9]
    obtain ⟨d', l1, l2⟩ := lev9i (b := fun q => X12_solveOn_b10 113 (X12_solveOn 113 F) i q.1 q.2) (P := fun w e => SV9 d0 G u U p i Y ((Y * p + w) * p ^ m) e) (r := p) (by omega) (fun w e hw hI => by
      obtain ⟨s1, s2, s3, s4, s5, s6⟩ := hI
      have q4 : e.1 113 4 = p := by rw [s1.n (by decide)]; exact hp
      have qU : e.1 (113 + 27) i = (U i : Int) := by
        show e.1 140 i = _
        rw [s1.c (by decide) (by decide) (by decide)]; exact (hU i hiu).1
      have ub := (hU i hiu).2
      generalize hD : wI e (113 + 4) (U i) (w : Int) = D
      have Do : ∀ q, q ≠ 117 → D.1 q = e.1 q := fun q z => by rw [← hD]; exact wI_ne z
      have D117 : D.1 117 = fu (e.1 117) (U i) (w : Int) := by rw [← hD]; exact wI_at
      have hY' : Y * p + w < p ^ (i + 1) := by
        have : (Y + 1) * p ≤ p ^ i * p := Nat.mul_le_mul_right _ hY
        rw [← Nat.pow_succ, Nat.add_mul, Nat.one_mul] at this
        have z : p ^ (i + 1) = p ^ i.succ := rfl
        omega
      have hSD : SV9 d0 G u U p (i + 1) (Y * p + w) ((Y * p + w) * p ^ m) D := by
        refine ⟨s1.tr ⟨by rw [← hD]; rfl, fun q j z1 z2 z3 => by rw [Do q z1]⟩, fun Q hQ => ?_, fun q hq => ?_, fun j hj => ?_, by rw [Do 113 (by decide)]; exact s5, by rw [Do 141 (by decide)]; exact s6⟩
        · rw [D117, fu_n (hQ i hiu)]; exact s2 Q hQ
        · rw [D117, fu_app]
          by_cases e : q = U i
          · rw [if_pos e]; omega
          · rw [if_neg e]; exact s3 q hq
        · rw [D117, fu_app]
          by_cases ej : j = i
          · subst ej
            rw [if_pos rfl, dg_la hw]
          · rw [if_neg (fun z => ej (hUi j i (by omega) hiu z)), s4 j (by omega), dg_ch hw (by omega)]
      obtain ⟨D', g1, g2⟩ := ih (i + 1) (Y * p + w) F D (by omega) (by omega) hY' hSD
      refine ⟨D', ?_, ?_⟩
      · show X12_solveOn_b10 113 (X12_solveOn 113 F) i (w : Int) e = _
        unfold X12_solveOn_b10
        have g1' : X12_solveOn 113 F ((i : Int) + 1) D = some ((), D') := g1
        rw [q4, gd_pos (by omega), if_neg (by omega), gd_pos (by omega), Int.toNat_natCast, qU, gd_pos (by omega), lt_pos, Int.toNat_natCast, hD, bd_pos g1']
      · obtain ⟨a1, a2, a3, a4, a5, a6⟩ := g2
        refine ⟨a1, a2, a3, fun j hj => ?_, a5, a6⟩
        rw [a4 j (by omega), dg_ch hw hj]) (fun e hI => by
      have q4 : e.1 113 4 = p := by rw [hI.1.n (by decide)]; exact hp
      show X12_solveOn_b10 113 (X12_solveOn 113 F) i (p : Int) e = _
      unfold X12_solveOn_b10
      rw [q4, gd_pos (by omega), if_pos (by omega)]) hS
    rw [l1]
    exact ⟨d', rfl, l2⟩
/-- three loops of two -/
theorem lp222 {b1 : Int × DA → Option ((Int × DA) ⊕ DA)} {b2 : Nat → Int × DA → Option ((Int × DA) ⊕ DA)} {b3 : Nat → Nat → Int × DA → Option ((Int × DA) ⊕ DA)} {P : Nat → DA → Prop}
    (h1 : ∀ (i : Nat) e, i < 2 → P (4 * i) e → b1 ((i : Int), e) = lpE (b2 i) (0, e) (fun e => some (.inl ((i : Int) + 1, e)))) (h1e : ∀ e, P 8 e → b1 (((2 : Nat) : Int), e) = some (.inr e))
    (h2 : ∀ (i j : Nat) e, i < 2 → j < 2 → P (4 * i + 2 * j) e → b2 i ((j : Int), e) = lpE (b3 i j) (0, e) (fun e => some (.inl ((j : Int) + 1, e)))) (h2e : ∀ (i : Nat) e, i < 2 → P (4 * i + 4) e → b2 i (((2 : Nat) : Int), e) = some (.inr e))
    (h3 : ∀ (i j k : Nat) e, i < 2 → j < 2 → k < 2 → P (4 * i + 2 * j + k) e → ∃ e', b3 i j ((k : Int), e) = some (.inl ((k : Int) + 1, e')) ∧ P (4 * i + 2 * j + k + 1) e') (h3e : ∀ (i j : Nat) e, i < 2 → j < 2 → P (4 * i + 2 * j + 2) e → b3 i j (((2 : Nat) : Int), e) = some (.inr e)) {d : DA} (h0 : P 0 d) : ∃ e, (∀ {Y : Type} (k : DA → Option Y), lpE b1 (0, d) k = k e) ∧ P 8 e := by
  refine lev9i (b := b1) (P := fun i e => P (4 * i) e) (r := 2) (by decide) (fun i e hi hI => ?_) (fun e hI => h1e e hI) h0
  obtain ⟨e', l1, l2⟩ := lev9i (b := b2 i) (P := fun j e => P (4 * i + 2 * j) e) (r := 2) (by decide) (fun j e hj hJ => by
    obtain ⟨e', l1, l2⟩ := lev9i (b := b3 i j) (P := fun k e => P (4 * i + 2 * j + k) e) (r := 2) (by decide) (fun k e hk hK => h3 i j k e hi hj hk hK) (fun e hK => h3e i j e hi hj hK) hJ
    exact ⟨e', by rw [h2 i j e hi hj hJ, l1], l2⟩) (fun e hJ => h2e i e hi hJ) hI
  exact ⟨e', by rw [h1 i e hi hI, l1], l2⟩

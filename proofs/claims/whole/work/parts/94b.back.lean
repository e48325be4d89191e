/-! ===== back, again ===== -/
theorem lc_s {w : Nat → Int} {j : Nat} : lc w (j + 1) = lc w j + if w j = 3 then 1 else 0 := rfl
theorem lc_mono {w : Nat → Int} : ∀ a b, a ≤ b → lc w a ≤ lc w b := by
  intro a b h
  induction b with
  | zero => have : a = 0 := by omega
            subst this; exact Nat.le_refl _
  | succ b ih =>
    by_cases c : a = b + 1
    · subst c; exact Nat.le_refl _
    · rw [lc_s]; have := ih (by omega); omega
/-- an entry that is no letter: where its value goes, on both sides -/
theorem put_EG {n : Nat → Int} {r p : Nat} {wh wr fro to pl be af v : Int} (hE : EG n r p wh wr fro to pl be af) (h3 : wh ≠ 3) (hv : v = fro ∨ v = to) (hp : 2 ≤ p) : ∃ cc cm q : Nat, ((cc = 3 ∧ cm = 119) ∨ (cc = 12 ∧ cm = 117) ∨ (cc = 13 ∧ cm = 118)) ∧ (0 ≤ pl ∧ pl < 761) ∧ (∀ d : DA, X6_put 2 pl v d = some ((), wI d cc q v)) ∧ (∀ d : DA, X12_put 113 wh wr v d = some ((), wI d cm q v)) ∧ be = fro ∧ af = to ∧
    (∀ g g' : Nat → Nat → Int, g 114 = n → (∀ c, c ≠ cc → c ≠ cm → (c = 3 ∨ c = 119 ∨ c = 12 ∨ c = 117 ∨ c = 13 ∨ c = 118 ∨ c = 114) → g' c = g c) → g' cc = fu (g cc) q v → g' cm = fu (g cm) q v → TrC g r p → TuC g p → TrC g' r p ∧ TuC g' p) := by
  rcases hE with ⟨e1, e2, e3, e4, e5, e6, e7, a, b, c, d, e, g0, k1, k2, k3, k4, k5⟩ | ⟨e1, e2, e3, e4, e5, e6, e7, a, b, c, k1, k2, k3, k4, k5⟩ | ⟨e1, e2, e3, e6, e7, j, k1, k4, k5⟩ | ⟨-, e3, -⟩
  · have hq : six a b c d e g0 < 729 := by unfold six; omega
    refine ⟨12, 117, six a b c d e g0, Or.inr (Or.inl ⟨rfl, rfl⟩), by omega, fun D => ?_, fun D => ?_, e1, e2, fun g g' gn g1 g2 g3 hT hU => ⟨⟨fun w1 w2 => ?_, fun q hq9 => ?_, fun q hq9 => ?_⟩, ?_⟩⟩
    · unfold X6_put
      rw [k5, Int.toNat_natCast]
      simp (disch := omega) only [gd_pos, if_pos, if_neg, lt_pos, reduceIte]
    · unfold X12_put
      rw [e3, k4, Int.toNat_natCast]
      simp (disch := omega) only [gd_pos, if_pos, if_neg, lt_pos, reduceIte]
    · rw [g1 114 (by decide) (by decide) (by decide)] at w2 ⊢
      rw [g2, g3, g1 118 (by decide) (by decide) (by decide), g1 13 (by decide) (by decide) (by decide)]
      exact ⟨(hT.1 w1 w2).1.put w1 k1 k2 (by rw [gn]; exact k3), (hT.1 w1 w2).2⟩
    · rw [g3, fu_app]
      by_cases cq : q = six a b c d e g0
      · rw [if_pos cq]; omega
      · rw [if_neg cq]; exact hT.2.1 q hq9
    · rw [g1 118 (by decide) (by decide) (by decide)]; exact hT.2.2 q hq9
    · unfold TuC at hU ⊢
      rw [g1 3 (by decide) (by decide) (by decide), g1 119 (by decide) (by decide) (by decide)]
      exact hU
  · have hq : thr a b c < 27 := by unfold thr; omega
    refine ⟨13, 118, thr a b c, Or.inr (Or.inr ⟨rfl, rfl⟩), by omega, fun D => ?_, fun D => ?_, e1, e2, fun g g' gn g1 g2 g3 hT hU => ⟨⟨fun w1 w2 => ?_, fun q hq9 => ?_, fun q hq9 => ?_⟩, ?_⟩⟩
    · unfold X6_put
      rw [k5, show ((729 : Int) + ((thr a b c : Nat) : Int) - 729).toNat = thr a b c by omega]
      simp (disch := omega) only [gd_pos, if_pos, if_neg, lt_pos, reduceIte]
    · unfold X12_put
      rw [e3, k4, Int.toNat_natCast]
      simp (disch := omega) only [gd_pos, if_pos, if_neg, lt_pos, reduceIte]
    · rw [g1 114 (by decide) (by decide) (by decide)] at w2 ⊢
      rw [g2, g3, g1 117 (by decide) (by decide) (by decide), g1 12 (by decide) (by decide) (by decide)]
      exact ⟨(hT.1 w1 w2).1, (hT.1 w1 w2).2.put w1 k1 k2 (by rw [gn]; exact k3)⟩
    · rw [g1 117 (by decide) (by decide) (by decide)]; exact hT.2.1 q hq9
    · rw [g3, fu_app]
      by_cases cq : q = thr a b c
      · rw [if_pos cq]; omega
      · rw [if_neg cq]; exact hT.2.2 q hq9
    · unfold TuC at hU ⊢
      rw [g1 3 (by decide) (by decide) (by decide), g1 119 (by decide) (by decide) (by decide)]
      exact hU
  · refine ⟨3, 119, j, Or.inl ⟨rfl, rfl⟩, by omega, fun D => ?_, fun D => ?_, e1, e2, fun g g' gn g1 g2 g3 hT hU => ⟨?_, fun i hi => ?_, ?_⟩⟩
    · unfold X6_put
      rw [k5, show ((756 : Int) + (j : Int) - 756).toNat = j by omega]
      simp (disch := omega) only [gd_pos, if_pos, if_neg, lt_pos, reduceIte]
    · unfold X12_put
      rw [e3, k4, Int.toNat_natCast]
      simp (disch := omega) only [gd_pos, if_pos, if_neg, lt_pos, reduceIte]
    · unfold TrC at hT ⊢
      rw [g1 114 (by decide) (by decide) (by decide), g1 117 (by decide) (by decide) (by decide), g1 118 (by decide) (by decide) (by decide), g1 12 (by decide) (by decide) (by decide), g1 13 (by decide) (by decide) (by decide)]
      exact hT
    · rw [g2, g3, fu_app, fu_app]
      by_cases c : i = j
      · rw [if_pos c, if_pos c]; omega
      · rw [if_neg c, if_neg c]; exact hU.1 i hi
    · rw [g3, fu_n (by omega)]; exact hU.2
  · exact absurd e3 h3
/-- the story's hand moved: from D, U to D', U' of the same sum, an entry put -/
theorem move_put {k : Nat} {x : XS} {F : DA} {x9 : XS} {D U D' U' cc cm q : Nat} {v : Int} (h : Inv k x) (hk : k < 512) (h9 : x9.1 = F) (h92 : x9.2 = x.2) (hD : x.1.1 54 3 = D) (hU : x.1.1 54 4 = U) (hs : D' + U' = D + U) (hcc : (cc = 3 ∧ cm = 119) ∨ (cc = 12 ∧ cm = 117) ∨ (cc = 13 ∧ cm = 118))
    (hF : ∀ c, c ≠ cc → c ≠ cm → c ≠ 54 → c ≠ 113 → F.1 c = x.1.1 c) (f1 : ∀ j, j ≠ 3 → j ≠ 4 → F.1 54 j = x.1.1 54 j) (f2 : F.1 54 3 = D' ∧ F.1 54 4 = U') (f3 : ∀ j, j ≠ 0 → j ≠ 18 → j ≠ 19 → F.1 113 j = x.1.1 113 j) (f4 : F.1 113 18 = D' ∧ F.1 113 19 = U') (fcc : F.1 cc = fu (x.1.1 cc) q v) (fcm : F.1 cm = fu (x.1.1 cm) q v)
    (hlc : lc (x.1.1 122) D' = lc (x.1.1 122) D)
    (hT : ∀ r p : Nat, x.1.1 5 0 = r → x.1.1 113 4 = p → TG (x.1.1 114) r → PG p → TrC x.1.1 r p → TuC x.1.1 p → (∀ j, j < D + U → EG (x.1.1 114) r p (x.1.1 122 j) (x.1.1 123 j) (x.1.1 124 j) (x.1.1 125 j) (x.1.1 55 j) (x.1.1 56 j) (x.1.1 57 j)) → TrC F.1 r p ∧ TuC F.1 p) : Inv (k + 1) x9 := by
  subst h9
  refine h.tell hk (fun c j hr hc => ?_) h92 (fun r p m D1 U1 q4 q3 q2 q1 hTr hTu hLe hH => ?_)
  · have hne : ∀ a, (∀ j, chT a j = true) → c ≠ a := fun a ha e => by rw [e, ha j] at hc; cases hc
    have n3 := hne 3 (fun _ => rfl)
    have n12 := hne 12 (fun _ => rfl)
    have n13 := hne 13 (fun _ => rfl)
    have n117 := hne 117 (fun _ => rfl)
    have n118 := hne 118 (fun _ => rfl)
    have n119 := hne 119 (fun _ => rfl)
    by_cases c113 : c = 113
    · subst c113
      exact f3 j (fun e => by subst e; cases hr) (fun e => by subst e; cases hc) (fun e => by subst e; cases hc)
    · by_cases c54 : c = 54
      · subst c54
        exact f1 j (fun e => by subst e; cases hc) (fun e => by subst e; cases hc)
      · rw [hF c (by omega) (by omega) c54 c113]
  · have eD : D1 = D := by have : x.1.1 54 3 = D1 := hH.1; omega
    have eU : U1 = U := by have : x.1.1 54 4 = U1 := hH.2.2.1; omega
    subst eD; subst eU
    have gg : ∀ c, c ≠ 3 → c ≠ 119 → c ≠ 12 → c ≠ 117 → c ≠ 13 → c ≠ 118 → c ≠ 54 → c ≠ 113 → x9.1.1 c = x.1.1 c := fun c z1 z2 z3 z4 z5 z6 z7 z8 => hF c (by omega) (by omega) z7 z8
    obtain ⟨h1, h2, h3, h4, h5, h6, h7, h8⟩ := hH
    obtain ⟨c1, c2⟩ := hT r p q1 q2 q4 q3 hTr hTu h6
    have h7' : lc (x.1.1 122) D1 ≤ m := h7
    have h8' : m + lc (x.1.1 122) (D1 + U1) ≤ 12 + lc (x.1.1 122) D1 := h8
    refine ⟨m, D', U', c1, c2, ?_, f2.1, f4.1, f2.2, f4.2, by omega, fun j hj => ?_, ?_, ?_⟩
    · obtain ⟨l1, l2, l3, l4⟩ := hLe
      refine ⟨?_, ?_, l3, fun j hj => ?_⟩
      · rw [gg 2 (by decide) (by decide) (by decide) (by decide) (by decide) (by decide) (by decide) (by decide)]; exact l1
      · rw [f3 13 (by decide) (by decide) (by decide)]; exact l2
      · rw [gg 4 (by decide) (by decide) (by decide) (by decide) (by decide) (by decide) (by decide) (by decide), gg 120 (by decide) (by decide) (by decide) (by decide) (by decide) (by decide) (by decide) (by decide)]; exact l4 j hj
    · show EG (x9.1.1 114) r p (x9.1.1 122 j) (x9.1.1 123 j) (x9.1.1 124 j) (x9.1.1 125 j) (x9.1.1 55 j) (x9.1.1 56 j) (x9.1.1 57 j)
      rw [gg 114 (by decide) (by decide) (by decide) (by decide) (by decide) (by decide) (by decide) (by decide), gg 122 (by decide) (by decide) (by decide) (by decide) (by decide) (by decide) (by decide) (by decide), gg 123 (by decide) (by decide) (by decide) (by decide) (by decide) (by decide) (by decide) (by decide), gg 124 (by decide) (by decide) (by decide) (by decide) (by decide) (by decide) (by decide) (by decide), gg 125 (by decide) (by decide) (by decide) (by decide) (by decide) (by decide) (by decide) (by decide), gg 55 (by decide) (by decide) (by decide) (by decide) (by decide) (by decide) (by decide) (by decide), gg 56 (by decide) (by decide) (by decide) (by decide) (by decide) (by decide) (by decide) (by decide), gg 57 (by decide) (by decide) (by decide) (by decide) (by decide) (by decide) (by decide) (by decide)]
      exact h6 j (by omega)
    · show lc (x9.1.1 122) D' ≤ m
      rw [gg 122 (by decide) (by decide) (by decide) (by decide) (by decide) (by decide) (by decide) (by decide), hlc]; exact h7'
    · show m + lc (x9.1.1 122) (D' + U') ≤ 12 + lc (x9.1.1 122) D'
      rw [gg 122 (by decide) (by decide) (by decide) (by decide) (by decide) (by decide) (by decide) (by decide), hlc, hs]; exact h8'

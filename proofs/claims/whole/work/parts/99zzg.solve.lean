/-! ===== solve: the class gathers unknowns and pentagons ===== -/
theorem mmax_ge (a b : Int) : a ≤ mmax a b ∧ b ≤ mmax a b ∧ (mmax a b = a ∨ mmax a b = b) := by
  unfold mmax
  split <;> omega
def li9 (u : Nat) (U : Nat → Nat) (Q : Nat) : Int := (fs9 u fun j => if U j = Q then some (j : Int) else none).getD (-1)
theorem li9_bd {u : Nat} {U : Nat → Nat} {Q : Nat} : -1 ≤ li9 u U Q ∧ li9 u U Q < u := by
  unfold li9
  cases h : fs9 u (fun j => if U j = Q then some (j : Int) else none) with
  | none => exact ⟨Int.le_refl _, by show (-1 : Int) < u; omega⟩
  | some x =>
    obtain ⟨i, h1, h2, -⟩ := (fs9_some u).mp h
    by_cases c : U i = Q
    · rw [if_pos c] at h2
      cases h2
      exact ⟨by show (-1 : Int) ≤ i; omega, by show (i : Int) < u; omega⟩
    · rw [if_neg c] at h2; cases h2
theorem li9_at {u : Nat} {U : Nat → Nat} (hU : ∀ i j, i < u → j < u → U i = U j → i = j) {j : Nat} (hj : j < u) : li9 u U (U j) = (j : Int) := by
  unfold li9
  have : fs9 u (fun i => if U i = U j then some (i : Int) else none) = some (j : Int) := (fs9_some u).mpr ⟨j, hj, if_pos rfl, fun i hi => if_neg (fun z => by have := hU i j (by omega) hj z; omega)⟩
  rw [this]; rfl
theorem x5_idx {d : DA} {u : Nat} {U : Nat → Nat} {Q : Nat} (hu : d.1 81 2 = u) (h5 : u ≤ 5) (hU : ∀ j, j < u → d.1 83 j = (U j : Int) ∧ U j < 729) (hQ : Q < 10000) : X5_indexOf 81 Q d = some (li9 u U Q) := by
  have e : X5_indexOf 81 Q d = (fs9 u (fun j => if U j = Q then some (j : Int) else none)).elim (some (-1)) some := by
    unfold X5_indexOf
    refine lpR_cnt u _ (by omega) (fun i hi => ?_) ?_
    · unfold X5_indexOf_b2
      have q : d.1 (81 + 2) i = (U i : Int) := (hU i hi).1
      have b := (hU i hi).2
      rw [hu, gd_pos (by omega), if_neg (by omega), gd_pos (by omega), Int.toNat_natCast, q, gd_pos (by omega)]
      by_cases c : U i = Q
      · rw [if_pos (by omega), if_pos c]; rfl
      · rw [if_neg (by omega), if_neg c]; rfl
    · unfold X5_indexOf_b2
      rw [hu, gd_pos (by omega), if_pos (by omega)]
  rw [e]
  unfold li9
  cases fs9 u (fun j => if U j = Q then some (j : Int) else none) <;> rfl
/-- where the F of the pentagon q stand -/
def fv9 (x : Nat → Nat) (t : Nat) : Nat := if t = 0 then six (x 5) (x 2) (x 3) (x 4) (x 6) (x 8) else if t = 1 then six (x 0) (x 1) (x 8) (x 4) (x 5) (x 7) else if t = 2 then six (x 0) (x 1) (x 2) (x 6) (x 5) 0 else if t = 3 then six (x 0) 0 (x 3) (x 4) (x 6) (x 7) else six (x 1) (x 2) (x 3) (x 7) 0 (x 8)
/-- the last unknown of a pentagon -/
def lsh (u : Nat) (U : Nat → Nat) (x : Nat → Nat) (h : Nat) (m : Int) : Int := mmax (mmax (mmax m (li9 u U (fv9 x 2 + h))) (li9 u U (fv9 x 3 + 81 * h))) (li9 u U (fv9 x 4 + 3 * h))
def ls9 (u : Nat) (U : Nat → Nat) (x : Nat → Nat) : Int := lsh u U x 1 (lsh u U x 0 (mmax (li9 u U (fv9 x 0)) (li9 u U (fv9 x 1))))
theorem lsh_ge {u : Nat} {U : Nat → Nat} {x : Nat → Nat} {h : Nat} {m : Int} (hm : -1 ≤ m ∧ m < u) : (m ≤ lsh u U x h m ∧ li9 u U (fv9 x 2 + h) ≤ lsh u U x h m ∧ li9 u U (fv9 x 3 + 81 * h) ≤ lsh u U x h m ∧ li9 u U (fv9 x 4 + 3 * h) ≤ lsh u U x h m) ∧ (-1 ≤ lsh u U x h m ∧ lsh u U x h m < u) := by
  unfold lsh
  have b1 := li9_bd (u := u) (U := U) (Q := fv9 x 2 + h)
  have b2 := li9_bd (u := u) (U := U) (Q := fv9 x 3 + 81 * h)
  have b3 := li9_bd (u := u) (U := U) (Q := fv9 x 4 + 3 * h)
  have m1 := mmax_ge m (li9 u U (fv9 x 2 + h))
  have m2 := mmax_ge (mmax m (li9 u U (fv9 x 2 + h))) (li9 u U (fv9 x 3 + 81 * h))
  have m3 := mmax_ge (mmax (mmax m (li9 u U (fv9 x 2 + h))) (li9 u U (fv9 x 3 + 81 * h))) (li9 u U (fv9 x 4 + 3 * h))
  omega
theorem ls9_ge {u : Nat} {U : Nat → Nat} {x : Nat → Nat} : (li9 u U (fv9 x 0) ≤ ls9 u U x ∧ li9 u U (fv9 x 1) ≤ ls9 u U x ∧ ∀ h, h < 2 → li9 u U (fv9 x 2 + h) ≤ ls9 u U x ∧ li9 u U (fv9 x 3 + 81 * h) ≤ ls9 u U x ∧ li9 u U (fv9 x 4 + 3 * h) ≤ ls9 u U x) ∧ (-1 ≤ ls9 u U x ∧ ls9 u U x < u) := by
  unfold ls9
  have b1 := li9_bd (u := u) (U := U) (Q := fv9 x 0)
  have b2 := li9_bd (u := u) (U := U) (Q := fv9 x 1)
  have m1 := mmax_ge (li9 u U (fv9 x 0)) (li9 u U (fv9 x 1))
  have g0 := lsh_ge (u := u) (U := U) (x := x) (h := 0) (m := mmax (li9 u U (fv9 x 0)) (li9 u U (fv9 x 1))) (by omega)
  have g1 := lsh_ge (u := u) (U := U) (x := x) (h := 1) (m := lsh u U x 0 (mmax (li9 u U (fv9 x 0)) (li9 u U (fv9 x 1)))) g0.2
  refine ⟨⟨by omega, by omega, fun h hh => ?_⟩, g1.2⟩
  rcases (show h = 0 ∨ h = 1 by omega) with rfl | rfl
  · omega
  · exact g1.1.2
/-- at most five trees are unknown -/
theorem trq_5 {n : Nat → Int} (hT : TG n 2) : cn9 (trq n) 8 ≤ 5 := by
  have z : ∀ q, q < 3 → ¬ trq n q = true := fun q hq h => by
    have t := trq_iff.mp h
    have z010 : n (ti 0 1 0) = 0 := by rw [hT.2.2.2.1 1 0 (by decide) (by decide), if_neg (by decide)]
    have z100 : n (ti 1 0 0) = 0 := by rw [hT.2.2.2.2 1 0 (by decide) (by decide), if_neg (by decide)]
    rcases (show q = 0 ∨ q = 1 ∨ q = 2 by omega) with rfl | rfl | rfl
    · have : n (ti 0 1 0) = 1 := t.2.1
      omega
    · have : n (ti 0 1 0) = 1 := t.2.1
      omega
    · have : n (ti 1 0 0) = 1 := t.2.2.2
      omega
  have e3 : cn9 (trq n) 3 = 0 := cn9_no z
  have e4 : cn9 (trq n) 4 = cn9 (trq n) 3 + if trq n 3 = true then 1 else 0 := rfl
  have e5 : cn9 (trq n) 5 = cn9 (trq n) 4 + if trq n 4 = true then 1 else 0 := rfl
  have e6 : cn9 (trq n) 6 = cn9 (trq n) 5 + if trq n 5 = true then 1 else 0 := rfl
  have e7 : cn9 (trq n) 7 = cn9 (trq n) 6 + if trq n 6 = true then 1 else 0 := rfl
  have e8 : cn9 (trq n) 8 = cn9 (trq n) 7 + if trq n 7 = true then 1 else 0 := rfl
  have i1 : ∀ q, (if trq n q = true then 1 else 0) ≤ 1 := fun q => by split <;> decide
  have := i1 3
  have := i1 4
  have := i1 5
  have := i1 6
  have := i1 7
  omega
/-- all but the solver's own cells, and the field's scratch square, as it was -/
def FrO (d0 d : DA) : Prop := d.2 = d0.2 ∧ ∀ c, c ≠ 60 → (c < 81 ∨ 100 < c) → d.1 c = d0.1 c
theorem FrO.tr {a b c : DA} (h1 : FrO a b) (h2 : FrO b c) : FrO a c := ⟨h2.1.trans h1.1, fun q z1 z2 => (h2.2 q z1 z2).trans (h1.2 q z1 z2)⟩
/-- the solver's table -/
def ST9 (d : DA) (n : Nat → Int) : Prop := d.1 85 0 = ((2 : Nat) : Int) ∧ ∀ q, q < 125 → d.1 86 q = n q
theorem ST9.at {d : DA} {n : Nat → Int} (h : ST9 d n) {i j k : Nat} (hi : i < 2) (hj : j < 2) (hk : k < 2) : X8_at (81 + 4) i j k d = some (n (ti i j k)) := by
  have := x8_at (d := d) (o := 85) (i := i) (j := j) (k := k) (by omega) (by omega) (by omega)
  have e : nn d 85 i j k = n (ti i j k) := h.2 (25 * i + 5 * j + k) (by omega)
  rw [e] at this
  exact this
theorem ST9.tr {d : DA} {n : Nat → Int} (h : ST9 d n) (hT : TG n 2) {e g k : Nat} (he : e < 2) (hg : g < 2) (hk : k < 2) : (isTr n 1 1 1 e g k → X9_isThere (81 + 10) 1 1 1 e g k d = some 1) ∧ (¬ isTr n 1 1 1 e g k → X9_isThere (81 + 10) 1 1 1 e g k d = some 0) := by
  have nb : Nb d (81 + 10 - 6) := fun q hq => by
    show 0 ≤ d.1 86 q ∧ d.1 86 q ≤ 9
    rw [h.2 q hq]; exact hT.2.1 q hq
  have t := x9_isThere (d := d) (o := 81 + 10) (a := 1) (b := 1) (c := 1) (e := e) (g := g) (h := k) nb (by omega) (by omega) (by omega) (by omega) (by omega) (by omega)
  have eq : isTr (d.1 (81 + 10 - 6 + 1)) 1 1 1 e g k ↔ isTr n 1 1 1 e g k := by
    unfold isTr
    have w : ∀ a b c, a < 2 → b < 2 → c < 2 → d.1 (81 + 10 - 6 + 1) (ti a b c) = n (ti a b c) := fun a b c ha hb hc => h.2 _ (by unfold ti; omega)
    rw [w 1 1 g (by omega) (by omega) hg, w g 1 e hg (by omega) he, w 1 1 k (by omega) (by omega) hk, w 1 k e (by omega) hk he]
  rw [eq] at t
  exact t
theorem x5_unk {d0 : DA} {n : Nat → Int} (hT : TG n 2) (hS : ST9 d0 n) (h0 : d0.1 81 2 = 0) : ∃ d, X5_gatherUnknowns 81 d0 = some ((), d) ∧ d.2 = d0.2 ∧ (∀ c j, c ≠ 83 → (c ≠ 81 ∨ j ≠ 2) → d.1 c j = d0.1 c j) ∧ d.1 81 2 = (cn9 (trq n) 8 : Int) ∧ ∀ j, j < cn9 (trq n) 8 → d.1 83 j = (plq (pk9 (trq n) 8 j) : Int) := by
  obtain ⟨P, hP⟩ : ∃ P : Nat → DA → Prop, P = fun q d => d.2 = d0.2 ∧ (∀ c j, c ≠ 83 → (c ≠ 81 ∨ j ≠ 2) → d.1 c j = d0.1 c j) ∧ d.1 81 2 = (cn9 (trq n) q : Int) ∧ ∀ y, y < q → trq n y = true → d.1 83 (cn9 (trq n) y) = (plq y : Int) := ⟨_, rfl⟩
  have e0 : P 0 d0 := by
    rw [hP]
    exact ⟨rfl, fun _ _ _ _ => rfl, h0, fun y hy => absurd hy (Nat.not_lt_zero _)⟩
  have t5 := trq_5 hT
  obtain ⟨d, l1, l2⟩ := lp222 (b1 := fun q => X5_gatherUnknowns_b2 81 q.1 q.2) (b2 := fun i q => X5_gatherUnknowns_b9 81 i q.1 q.2) (b3 := fun i j q => X5_gatherUnknowns_b16 81 i j q.1 q.2) (P := P) (fun i e hi hI => by
      show X5_gatherUnknowns_b2 81 (i : Int) e = _
      unfold X5_gatherUnknowns_b2
      rw [gd_pos (by omega), if_neg (by omega)]) (fun e hI => by
      show X5_gatherUnknowns_b2 81 ((2 : Nat) : Int) e = _
      unfold X5_gatherUnknowns_b2
      rw [gd_pos (by decide), if_pos (by decide)]) (fun i j e hi hj hI => by
      show X5_gatherUnknowns_b9 81 i (j : Int) e = _
      unfold X5_gatherUnknowns_b9
      rw [gd_pos (by omega), if_neg (by omega)]) (fun i e hi hI => by
      show X5_gatherUnknowns_b9 81 i ((2 : Nat) : Int) e = _
      unfold X5_gatherUnknowns_b9
      rw [gd_pos (by decide), if_pos (by decide)]) (fun i j k e hi hj hk hI => by
      rw [hP] at hI
      obtain ⟨i1, i2, i3, i4⟩ := hI
      have hSe : ST9 e n := by
        refine ⟨by rw [i2 85 0 (by decide) (Or.inl (by decide))]; exact hS.1, fun q hq => by rw [i2 86 q (by decide) (Or.inl (by decide))]; exact hS.2 q hq⟩
      have it := hSe.tr hT hi hj hk
      have tq := trq_of (n := n) (d := i) (e := j) (g := k) hi hj hk
      have kq := cn9_mono (P := trq n) (x := 4 * i + 2 * j + k) 8 (by omega)
      show ∃ e', X5_gatherUnknowns_b16 81 i j (k : Int) e = _ ∧ _
      unfold X5_gatherUnknowns_b16
      rw [gd_pos (by omega), if_neg (by omega), i3, gd_pos (by omega)]
      by_cases t : isTr n 1 1 1 i j k
      · have z := tq.mpr t
        have kl := cn9_lt (P := trq n) (x := 4 * i + 2 * j + k) (m := 8) (by omega) z
        have pl : X9_place 1 1 1 i j k e = some ((six 1 1 1 i j k : Nat) : Int) := x9_plc (a := 1) (b := 1) (c := 1) (by omega) (by omega) (by omega) (by omega) (by omega) (by omega)
        rw [if_neg (by omega), b1_pos (it.1 t), gd_pos (by decide), if_neg (by decide), b1_pos pl, gd_pos (by omega), lt_pos, Int.toNat_natCast, lt_pos]
        have e58 : (wI e (81 + 2) (cn9 (trq n) (4 * i + 2 * j + k)) ((six 1 1 1 i j k : Nat) : Int)).1 81 2 = (cn9 (trq n) (4 * i + 2 * j + k) : Int) := by rw [wI_ne (by decide)]; exact i3
        rw [e58]
        refine ⟨_, rfl, ?_⟩
        rw [hP]
        refine ⟨i1, fun c q z1 z2 => ?_, ?_, fun y hy hz => ?_⟩
        · by_cases e : c = 81
          · subst e; rw [wI_at, fu_n (by omega), wI_ne (by decide)]; exact i2 81 q z1 z2
          · rw [wI_ne e]; exact (congrFun (wI_ne (show c ≠ 81 + 2 from z1)) q).trans (i2 c q z1 z2)
        · rw [wI_at, fu_s, cn9_s, if_pos z]; rfl
        · rw [wI_ne (by decide)]
          show (wI e 83 _ _).1 83 _ = _
          rw [wI_at, fu_app]
          by_cases ey : y = 4 * i + 2 * j + k
          · rw [if_pos (by rw [ey]), ey]
            unfold plq
            rw [show (4 * i + 2 * j + k) / 4 = i by omega, show (4 * i + 2 * j + k) / 2 % 2 = j by omega, show (4 * i + 2 * j + k) % 2 = k by omega]
          · have := cn9_lt (P := trq n) (x := y) (m := 4 * i + 2 * j + k) (by omega) hz
            rw [if_neg (by omega)]; exact i4 y (by omega) hz
      · have z : ¬ trq n (4 * i + 2 * j + k) = true := fun y => t (tq.mp y)
        have fin : P (4 * i + 2 * j + k + 1) e := by
          rw [hP]
          refine ⟨i1, i2, by rw [cn9_s, if_neg z]; exact i3, fun y hy hz => ?_⟩
          by_cases ey : y = 4 * i + 2 * j + k
          · rw [ey] at hz; exact absurd hz z
          · exact i4 y (by omega) hz
        by_cases c5 : 5 ≤ (cn9 (trq n) (4 * i + 2 * j + k) : Int)
        · rw [if_pos c5]
          exact ⟨e, rfl, fin⟩
        · rw [if_neg c5, b1_pos (it.2 t), gd_pos (by decide), if_pos rfl]
          exact ⟨e, rfl, fin⟩) (fun i j e hi hj hI => by
      show X5_gatherUnknowns_b16 81 i j ((2 : Nat) : Int) e = _
      unfold X5_gatherUnknowns_b16
      rw [gd_pos (by decide), if_pos (by decide)]) e0
  rw [hP] at l2
  obtain ⟨a1, a2, a3, a4⟩ := l2
  refine ⟨d, ?_, a1, a2, a3, fun j hj => ?_⟩
  · unfold X5_gatherUnknowns
    rw [l1]
  · have k := pk9_ok (P := trq n) hj
    have := a4 _ k.1 k.2.1
    rw [k.2.2] at this
    exact this

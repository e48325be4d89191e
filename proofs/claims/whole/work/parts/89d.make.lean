/-! ===== the reference's make ===== -/
theorem tmod_nat (a b : Nat) : Int.tmod (a : Int) (b : Int) = ((a % b : Nat) : Int) := rfl
theorem x12_begin {d : DA} {r : Nat} (h5 : r ≤ 5) : ∃ q, X12_begin 113 116 125 r d = some q ∧ (∃ f, q.2 = wA d 116 f ∧ St (pre (d.1 116) (fun _ => 0) 125) (bgS r) f) := by
  have e1 : X12_begin 113 116 125 (r : Int) d = X12_begin_j18 113 116 125 (r : Int) (wA d 116 (pre (d.1 116) (fun _ => 0) 125)) := by
    unfold X12_begin
    refine lpE_row 116 125 (fun _ => 0) (by omega) (fun i hi => ?_) ?_
    · unfold X12_begin_b2
      simp (disch := omega) only [gd_pos, if_pos, if_neg, lt_pos, reduceIte, Int.toNat_natCast]
    · unfold X12_begin_b2
      simp (disch := omega) only [gd_pos, if_pos, if_neg, lt_pos, reduceIte]
  rw [e1]
  unfold X12_begin_j18
  refine lpE_ev (fun i s => s.1 = (i : Int) ∧ ∃ f, s.2 = wA d 116 f ∧ St (pre (d.1 116) (fun _ => 0) 125) (bgS i) f) (fun e => ∃ f, e = wA d 116 f ∧ St (pre (d.1 116) (fun _ => 0) 125) (bgS r) f) r (by omega) ⟨rfl, _, rfl, St.none (fun q => by rintro ⟨j, h, -⟩; omega)⟩ (fun i s hi hI => ?_) (fun s hI => ?_) (fun e he => ⟨_, rfl, he⟩)
  · obtain ⟨v, D⟩ := s
    obtain ⟨rfl, f, hD, hS⟩ := hI
    have hD' : D = wA d 116 f := hD
    refine ⟨((i : Int) + 1, wA d 116 (fu (fu f (ti 0 i i) 1) (ti i 0 i) 1)), ?_, rfl, _, rfl, ?_⟩
    · unfold X12_begin_b20 X12_cell
      dsimp only
      rw [gd_pos (by omega), if_neg (by omega), b1_pos rfl, gd_pos (by omega), lt_pos, b1_pos rfl, gd_pos (by omega), lt_pos, show ((0 * 5 + (i : Int)) * 5 + (i : Int)).toNat = ti 0 i i by unfold ti; omega, show (((i : Int) * 5 + 0) * 5 + (i : Int)).toNat = ti i 0 i by unfold ti; omega, hD', wA_wI, wA_wI]
    · by_cases c : ti 0 i i = ti i 0 i
      · refine (hS.more (S' := bgS (i + 1)) (ti 0 i i) ⟨i, by omega, Or.inl rfl⟩ (fun q hq => ⟨?_, ?_⟩)).more (ti i 0 i) ⟨i, by omega, Or.inr rfl⟩ (fun q hq => Iff.rfl)
        · rintro ⟨j, h1, h2⟩
          by_cases e : j = i
          · subst e; rcases h2 with h2 | h2
            · exact absurd h2 hq
            · exact absurd (h2.trans c.symm) hq
          · exact ⟨j, by omega, h2⟩
        · rintro ⟨j, h1, h2⟩; exact ⟨j, by omega, h2⟩
      · refine (hS.more (S' := fun q => bgS i q ∨ q = ti 0 i i) (ti 0 i i) (Or.inr rfl) (fun q hq => ⟨fun z => z.resolve_right hq, Or.inl⟩)).more (ti i 0 i) ⟨i, by omega, Or.inr rfl⟩ (fun q hq => ⟨?_, ?_⟩)
        · rintro ⟨j, h1, h2⟩
          by_cases e : j = i
          · subst e; rcases h2 with h2 | h2
            · exact Or.inr h2
            · exact absurd h2 hq
          · exact Or.inl ⟨j, by omega, h2⟩
        · rintro (⟨j, h1, h2⟩ | h)
          · exact ⟨j, by omega, h2⟩
          · exact ⟨i, by omega, Or.inl h⟩
  · obtain ⟨v, D⟩ := s
    obtain ⟨rfl, f, hD, hS⟩ := hI
    refine ⟨D, ?_, f, hD, hS⟩
    unfold X12_begin_b20
    simp (disch := omega) only [gd_pos, if_pos, if_neg, lt_pos, reduceIte]
def lvD (n i j k : Nat) : Int := if (i + j + k) % 2 = 0 ∧ i ≤ j + k ∧ j ≤ i + k ∧ k ≤ i + j ∧ i + j + k ≤ 2 * n then 1 else 0
def nrD (n : Nat) (m : Int) (i j k : Nat) : Int := if i = n ∧ j = n then (if k = n then m else 1) else if i = n ∨ j = n then (if k = n then 1 else 0) else if k = (i + j) % n then 1 else 0
def mkV (w n : Nat) (m : Int) (i j k : Nat) : Int := if w = 0 then (if k = (i + j) % n then 1 else 0) else if w = 1 then lvD n i j k else nrD n m i j k
theorem x12_level {d : DA} {n i j k : Nat} (hi : i < 5) (hj : j < 5) (hk : k < 5) (hn : n < 5) : X12_levelOf i j k n d = some (lvD n i j k) := by
  unfold X12_levelOf X12_levelOf_j46 lvD
  have e : Int.tmod ((i : Int) + (j : Int) + (k : Int)) 2 = (((i + j + k) % 2 : Nat) : Int) := tmod_nat (i + j + k) 2
  rw [e]
  by_cases c1 : (i + j + k) % 2 = 0
  · by_cases c2 : i ≤ j + k
    · by_cases c3 : j ≤ i + k
      · by_cases c4 : k ≤ i + j
        · by_cases c5 : i + j + k ≤ 2 * n
          · simp (disch := omega) only [gd_pos, if_pos, if_neg, lt_pos, reduceIte]
          · simp (disch := omega) only [gd_pos, if_pos, if_neg, lt_pos, reduceIte]
        · simp (disch := omega) only [gd_pos, if_pos, if_neg, lt_pos, reduceIte]
      · simp (disch := omega) only [gd_pos, if_pos, if_neg, lt_pos, reduceIte]
    · simp (disch := omega) only [gd_pos, if_pos, if_neg, lt_pos, reduceIte]
  · simp (disch := omega) only [gd_pos, if_pos, if_neg, lt_pos, reduceIte]
theorem x12_near {d : DA} {n i j k : Nat} {m : Int} (hi : i < 5) (hj : j < 5) (hk : k < 5) (h1 : 1 ≤ n) (hn : n < 5) : X12_nearOf i j k n m d = some (nrD n m i j k) := by
  unfold X12_nearOf X12_nearOf_j22 X12_nearOf_j32 nrD
  have e : Int.tmod ((i : Int) + (j : Int)) (n : Int) = (((i + j) % n : Nat) : Int) := tmod_nat (i + j) n
  have hm := Nat.mod_lt (i + j) (show n > 0 by omega)
  rw [e]
  by_cases c1 : i = n
  · by_cases c2 : j = n
    · by_cases c3 : k = n
      · simp (disch := omega) only [gd_pos, if_pos, if_neg, lt_pos, reduceIte]
      · simp (disch := omega) only [gd_pos, if_pos, if_neg, lt_pos, reduceIte]
    · by_cases c3 : k = n
      · simp (disch := omega) only [gd_pos, if_pos, if_neg, lt_pos, reduceIte]
      · simp (disch := omega) only [gd_pos, if_pos, if_neg, lt_pos, reduceIte]
  · by_cases c2 : j = n
    · by_cases c3 : k = n
      · simp (disch := omega) only [gd_pos, if_pos, if_neg, lt_pos, reduceIte]
      · simp (disch := omega) only [gd_pos, if_pos, if_neg, lt_pos, reduceIte]
    · by_cases c3 : k = (i + j) % n
      · simp (disch := omega) only [gd_pos, if_pos, if_neg, lt_pos, reduceIte]
      · simp (disch := omega) only [gd_pos, if_pos, if_neg, lt_pos, reduceIte]
/-- the reference took the table f of rank r -/
def MNew (d d' : DA) (r : Nat) (f : Nat → Int) : Prop :=
  (∀ c j, rel c j = true → c ≠ 113 → c ≠ 114 → c ≠ 117 → c ≠ 118 → c ≠ 119 → d'.1 c j = d.1 c j) ∧ d'.2 = d.2 ∧
  (∀ j, j ≠ 1 → j ≠ 3 → j ≠ 13 → j ≠ 18 → j ≠ 19 → d'.1 113 j = d.1 113 j) ∧ d'.1 113 1 = r ∧ d'.1 114 = f ∧
  (d'.1 113 13 = 0 ∧ d'.1 113 18 = 0 ∧ d'.1 113 19 = 0) ∧ (∀ j, j < 729 → d'.1 117 j = 0) ∧ (∀ j, j < 27 → d'.1 118 j = 0) ∧ (∀ j, j < 5 → d'.1 119 j = 1)
theorem x12_takeRead {d : DA} {r : Nat} (hr : d.1 113 3 = r) : ∃ q, X12_takeRead 113 d = some q ∧ MNew d q.2 r (pre (d.1 114) (d.1 116) 125) := by
  have e1 : X12_takeRead 113 d = X12_takeRead_j34 113 (wA (wI d 113 1 r) 114 (pre (d.1 114) (d.1 116) 125)) := by
    unfold X12_takeRead
    rw [lt_pos, hr]
    refine (lpE_row (d := wI d 113 1 (r : Int)) 114 125 (d.1 116) (by omega) (fun i hi => ?_) ?_).trans rfl
    · unfold X12_takeRead_b10
      dsimp only
      rw [wA_ne (show 113 + 3 ≠ 114 by decide)]
      simp (disch := omega) only [gd_pos, if_pos, if_neg, lt_pos, reduceIte, Int.toNat_natCast]
      rfl
    · unfold X12_takeRead_b10
      simp (disch := omega) only [gd_pos, if_pos, if_neg, lt_pos, reduceIte]
  rw [e1]
  unfold X12_takeRead_j34
  obtain ⟨⟨u, D⟩, e2, h1, h2, ⟨h3, h4, h5, h6⟩, h7, h8, h9⟩ := x12_fresh (d := wA (wI d 113 1 r) 114 (pre (d.1 114) (d.1 116) 125))
  rw [bd_pos e2]
  have h1' : ∀ c j, c ≠ 113 → c ≠ 117 → c ≠ 118 → c ≠ 119 → D.1 c j = (wA (wI d 113 1 r) 114 (pre (d.1 114) (d.1 116) 125)).1 c j := h1
  refine ⟨((), D), rfl, fun c j hc a1 a2 a3 a4 a5 => ?_, h2, fun j a1 a2 a3 a4 a5 => ?_, ?_, ?_, ⟨h3, h4, h5⟩, h7, h8, h9⟩
  · show D.1 c j = _
    rw [h1' c j a1 a3 a4 a5, wA_ne a2, wI_ne a1]
  · show D.1 113 j = _
    have := h6 j a3 a4 a5
    rw [show D.1 113 j = _ from this, wA_ne (by decide), wI_at, fu_n a1]
  · show D.1 113 1 = r
    have := h6 1 (by decide) (by decide) (by decide)
    rw [show D.1 113 1 = _ from this, wA_ne (by decide), wI_at, fu_s]
  · show D.1 114 = _
    funext j
    rw [h1' 114 j (by decide) (by decide) (by decide) (by decide), wA_at]
theorem m_makeJ {d : DA} {w n r : Nat} {m : Int} (hm : 0 ≤ m ∧ m ≤ 9) (hr : (w = 0 ∧ 1 ≤ n ∧ n ≤ 5 ∧ r = n) ∨ (w = 1 ∧ n ≤ 4 ∧ r = n + 1) ∨ (w = 2 ∧ 1 ≤ n ∧ n ≤ 4 ∧ r = n + 1)) : ∃ d' f, X12_make_j86 113 w n m r d = some ((r : Int), d') ∧ MNew d d' r (pre (d.1 114) f 125) ∧ Mk w n m f := by
  have h5 : r ≤ 5 := by omega
  obtain ⟨⟨u, D⟩, e1, fb, hD, hS⟩ := x12_begin (d := wI d 113 3 r) h5
  have hD' : D = wA (wI d 113 3 r) 116 fb := hD
  have e1' : X12_begin 113 (113 + 3) 125 ((wI d 113 3 (r : Int)).1 113 3) (wI d 113 3 (r : Int)) = some (u, D) := e1
  unfold X12_make_j86
  rw [lt_pos, bd_pos e1', hD']
  have hR : ∀ f, (wA (wA (wI d 113 3 (r : Int)) 116 fb) 116 f).1 113 3 = r := fun f => by rw [wA_ne (by decide), wA_ne (by decide), wI_at, fu_s]
  have key : lpE (fun q => X12_make_b104 113 (w : Int) (n : Int) m q.1 q.2) (0, wA (wI d 113 3 (r : Int)) 116 fb) (fun e => X12_make_j222 113 e) = X12_make_j222 113 (wA (wA (wI d 113 3 (r : Int)) 116 fb) 116 (pc ((wA (wI d 113 3 (r : Int)) 116 fb).1 116) (mkV w n m) r r 0 0)) := by
    refine lpE_cu (b2 := fun i q => X12_make_b116 113 (w : Int) (n : Int) m (i : Int) q.1 q.2) (b3 := fun i j q => X12_make_b128 113 (w : Int) (n : Int) m (i : Int) (j : Int) q.1 q.2) 116 r (mkV w n m) h5 (fun i hi f => ?_) (fun f => ?_) (fun i j hi hj f => ?_) (fun i hi f => ?_) (fun i j k hi hj hk f _ => ?_) (fun i j hi hj f => ?_)
    · dsimp only
      unfold X12_make_b104
      rw [hR f]
      simp (disch := omega) only [gd_pos, if_pos, if_neg, lt_pos, reduceIte]
    · dsimp only
      unfold X12_make_b104
      rw [hR f]
      simp (disch := omega) only [gd_pos, if_pos, if_neg, lt_pos, reduceIte]
    · dsimp only
      unfold X12_make_b116
      rw [hR f]
      simp (disch := omega) only [gd_pos, if_pos, if_neg, lt_pos, reduceIte]
    · dsimp only
      unfold X12_make_b116
      rw [hR f]
      simp (disch := omega) only [gd_pos, if_pos, if_neg, lt_pos, reduceIte]
    · dsimp only
      unfold X12_make_b128 X12_cell mkV
      rw [hR f, gd_pos (by omega), if_neg (by omega), b1_pos rfl, show (((i : Int) * 5 + (j : Int)) * 5 + (k : Int)).toNat = 25 * i + 5 * j + k by omega]
      rcases hr with ⟨rfl, hr⟩ | ⟨rfl, hr⟩ | ⟨rfl, hr⟩
      · have e : Int.tmod ((i : Int) + (j : Int)) (n : Int) = (((i + j) % n : Nat) : Int) := tmod_nat (i + j) n
        have hmm := Nat.mod_lt (i + j) (show n > 0 by omega)
        rw [e]
        by_cases c : k = (i + j) % n
        · simp (disch := omega) only [gd_pos, if_pos, if_neg, lt_pos, reduceIte]
        · simp (disch := omega) only [gd_pos, if_pos, if_neg, lt_pos, reduceIte]
      · rw [b1_pos (x12_level (show i < 5 by omega) (show j < 5 by omega) (show k < 5 by omega) (show n < 5 by omega))]
        simp (disch := omega) only [gd_pos, if_pos, if_neg, lt_pos, reduceIte]
      · rw [b1_pos (x12_near (show i < 5 by omega) (show j < 5 by omega) (show k < 5 by omega) (show 1 ≤ n by omega) (show n < 5 by omega))]
        simp (disch := omega) only [gd_pos, if_pos, if_neg, lt_pos, reduceIte]
    · dsimp only
      unfold X12_make_b128
      rw [hR f]
      simp (disch := omega) only [gd_pos, if_pos, if_neg, lt_pos, reduceIte]
  rw [key, wA_wA, wA_at]
  obtain ⟨⟨u2, D2⟩, e2, h2⟩ := x12_takeRead (d := wA (wI d 113 3 (r : Int)) 116 (pc fb (mkV w n m) r r 0 0)) (r := r) (by rw [wA_ne (by decide), wI_at, fu_s])
  unfold X12_make_j222
  rw [bd_pos e2]
  have hMN : MNew (wA (wI d 113 3 (r : Int)) 116 (pc fb (mkV w n m) r r 0 0)) D2 r (pre ((wA (wI d 113 3 (r : Int)) 116 (pc fb (mkV w n m) r r 0 0)).1 114) ((wA (wI d 113 3 (r : Int)) 116 (pc fb (mkV w n m) r r 0 0)).1 116) 125) := h2
  rw [wA_ne (show 114 ≠ 116 by decide), wI_ne (show 114 ≠ 113 by decide), wA_at] at hMN
  obtain ⟨g1, g2, g3, g4, g5, g6⟩ := hMN
  refine ⟨D2, pc fb (mkV w n m) r r 0 0, by rw [g4], ⟨fun c j hc a1 a2 a3 a4 a5 => ?_, g2, fun j a1 a2 a3 a4 a5 => ?_, g4, g5, g6⟩, fun i j k hi hj hk => ?_⟩
  · rw [g1 c j hc a1 a2 a3 a4 a5]
    by_cases c6 : c = 116
    · subst c6; cases hc
    · rw [wA_ne c6, wI_ne a1]
  · rw [g3 j a1 a2 a3 a4 a5, wA_ne (by decide), wI_at, fu_n a2]
  · have vin : i < r → j < r → k < r → pc fb (mkV w n m) r r 0 0 (ti i j k) = mkV w n m i j k := fun a b c => pc_at a b c h5
    have vout : ¬ (i < r ∧ j < r ∧ k < r) → pc fb (mkV w n m) r r 0 0 (ti i j k) = 0 := fun z => by
      unfold pc ti
      rw [show (25 * i + 5 * j + k) / 25 = i by omega, show (25 * i + 5 * j + k) / 5 % 5 = j by omega, show (25 * i + 5 * j + k) % 5 = k by omega, if_neg (by omega)]
      have := (hS (ti i j k)).2 (by
        rintro ⟨b, z1, z2 | z2⟩
        · have := ti_inj hj hk (show b < 5 by omega) (show b < 5 by omega) z2; omega
        · have := ti_inj hj hk (show 0 < 5 by omega) (show b < 5 by omega) z2; omega)
      rw [pre_lt (ti_lt hi hj hk)] at this
      exact this
    have hmm : 1 ≤ n → (i + j) % n < n := fun z => Nat.mod_lt (i + j) z
    by_cases cin : i < r ∧ j < r ∧ k < r
    · rw [vin cin.1 cin.2.1 cin.2.2]
      unfold mkV lvD nrD lvP
      refine ⟨fun hw => ⟨fun z => ?_, fun z => ?_⟩, fun hw => ⟨fun z => ?_, fun z => ?_⟩, fun hw => ⟨fun z => ?_, fun z => ?_, fun z z2 => ?_⟩⟩
      · rw [if_pos hw, if_pos z.2.2]
      · rw [if_pos hw, if_neg (fun y => z ⟨by omega, by omega, y⟩)]
      · rw [if_neg (by omega), if_pos hw, if_pos z.2.2.2]
      · rw [if_neg (by omega), if_pos hw, if_neg (fun y => z ⟨by omega, by omega, by omega, y⟩)]
      · rw [if_neg (by omega), if_neg (by omega), if_pos (by omega), if_pos (by omega)]
      · rw [if_neg (by omega), if_neg (by omega)]
        rcases z with z | z | z | z
        · rw [if_pos (by omega), if_neg (by omega)]
        · rw [if_neg (by omega), if_pos (by omega), if_pos (by omega)]
        · rw [if_neg (by omega), if_pos (by omega), if_pos (by omega)]
        · rw [if_neg (by omega), if_neg (by omega), if_pos z.2.2]
      · rw [if_neg (by omega), if_neg (by omega)]
        by_cases c1 : i = n ∧ j = n
        · exfalso; omega
        · rw [if_neg c1]
          by_cases c2 : i = n ∨ j = n
          · rw [if_pos c2, if_neg (by omega)]
          · rw [if_neg c2, if_neg (fun y => z2 (Or.inr (Or.inr (Or.inr ⟨by omega, by omega, y⟩))))]
    · rw [vout cin]
      refine ⟨fun hw => ⟨fun z => ?_, fun z => rfl⟩, fun hw => ⟨fun z => ?_, fun z => rfl⟩, fun hw => ⟨fun z => ?_, fun z => ?_, fun z z2 => rfl⟩⟩
      · have := hmm (by omega); omega
      · omega
      · omega
      · have := hmm (by omega); omega

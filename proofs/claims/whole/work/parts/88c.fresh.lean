/-! ===== begin, forgetTold, beginAgain, fresh ===== -/
theorem B2.rf {a b : Nat} {d : DA} : B2 a b d d := ⟨rfl, fun _ _ _ => rfl⟩
theorem B2.tr {a b : Nat} {d1 d2 d3 : DA} (h1 : B2 a b d1 d2) (h2 : B2 a b d2 d3) : B2 a b d1 d3 := ⟨h2.1.trans h1.1, fun i ha hb => (h2.2 i ha hb).trans (h1.2 i ha hb)⟩
theorem x9_begin3 {d : DA} {o r : Nat} {v1 : Int} (ho : 6 ≤ o) (hr : d.1 (o - 6) 0 = r) (hv : v1 = r) (h3 : r ≤ 3) (hn : Nb d (o - 6)) (hT : TrB (d.1 (o - 6 + 1)) r 0 (d.1 (o + 1)) (d.1 (o + 2))) : ∃ q, X9_begin_j38 o v1 d = some q ∧ (B2 (o + 1) (o + 2) d q.2 ∧ TrB (d.1 (o - 6 + 1)) r 27 (q.2.1 (o + 1)) (q.2.1 (o + 2))) := by
  unfold X9_begin_j38
  have hR : ∀ D, B2 (o + 1) (o + 2) d D → D.1 (o - 6) 0 = r ∧ D.1 (o - 6 + 1) = d.1 (o - 6 + 1) ∧ Nb D (o - 6) := fun D hD => by
    have e : D.1 (o - 6 + 1) = d.1 (o - 6 + 1) := hD.2 _ (by omega) (by omega)
    exact ⟨by rw [hD.2 _ (by omega) (by omega)]; exact hr, e, fun j hj => by rw [e]; exact hn j hj⟩
  refine lpE_ev (fun a s => s.1 = (a : Int) ∧ B2 (o + 1) (o + 2) d s.2 ∧ TrB (d.1 (o - 6 + 1)) r (thr a 0 0) (s.2.1 (o + 1)) (s.2.1 (o + 2))) (fun e => B2 (o + 1) (o + 2) d e ∧ TrB (d.1 (o - 6 + 1)) r 27 (e.1 (o + 1)) (e.1 (o + 2))) r (by omega) ⟨rfl, B2.rf, hT⟩ (fun a s ha hI => ?_) (fun s hI => ?_) (fun e he => ⟨_, rfl, he⟩)
  · obtain ⟨v, D⟩ := s
    obtain ⟨rfl, hD, hS⟩ := hI
    unfold X9_begin_b41
    dsimp only
    simp (disch := omega) only [gd_pos, if_pos, if_neg, lt_pos, reduceIte]
    refine lpE_evl (fun b s => s.1 = (b : Int) ∧ B2 (o + 1) (o + 2) d s.2 ∧ TrB (d.1 (o - 6 + 1)) r (thr a b 0) (s.2.1 (o + 1)) (s.2.1 (o + 2))) (fun e => B2 (o + 1) (o + 2) d e ∧ TrB (d.1 (o - 6 + 1)) r (thr (a + 1) 0 0) (e.1 (o + 1)) (e.1 (o + 2))) r (by omega) ⟨rfl, hD, hS⟩ (fun b s hb hI => ?_) (fun s hI => ?_) (fun e he => ⟨_, rfl, rfl, he⟩)
    · obtain ⟨v, D⟩ := s
      obtain ⟨rfl, hD, hS⟩ := hI
      unfold X9_begin_b48
      dsimp only
      simp (disch := omega) only [gd_pos, if_pos, if_neg, lt_pos, reduceIte]
      refine lpE_evl (fun c s => s.1 = (c : Int) ∧ B2 (o + 1) (o + 2) d s.2 ∧ TrB (d.1 (o - 6 + 1)) r (thr a b c) (s.2.1 (o + 1)) (s.2.1 (o + 2))) (fun e => B2 (o + 1) (o + 2) d e ∧ TrB (d.1 (o - 6 + 1)) r (thr a (b + 1) 0) (e.1 (o + 1)) (e.1 (o + 2))) r (by omega) ⟨rfl, hD, hS⟩ (fun c s hc hI => ?_) (fun s hI => ?_) (fun e he => ⟨_, rfl, rfl, he⟩)
      · obtain ⟨v, D⟩ := s
        obtain ⟨rfl, hD, hS⟩ := hI
        have hD' : B2 (o + 1) (o + 2) d D := hD
        obtain ⟨q1, q2, q3⟩ := hR D hD'
        obtain ⟨s', e1, e2, e3, e4⟩ := x9_step (d := D) (o := o) (r := r) (a := a) (b := b) (c := c) (v1 := v1) ho q1 hv h3 q3 ha hb hc (by rw [q2]; exact hS)
        rw [q2] at e4
        exact ⟨s', e1, e2, hD'.tr e3, e4⟩
      · obtain ⟨v, D⟩ := s
        obtain ⟨rfl, hD, hS⟩ := hI
        refine ⟨D, ?_, hD, TrB.st hS (fun a' b' c' h1 h2 h3' => by unfold thr; omega)⟩
        unfold X9_begin_b56
        simp (disch := omega) only [gd_pos, if_pos, if_neg, lt_pos, reduceIte]
    · obtain ⟨v, D⟩ := s
      obtain ⟨rfl, hD, hS⟩ := hI
      refine ⟨D, ?_, hD, TrB.st hS (fun a' b' c' h1 h2 h3' => by unfold thr; omega)⟩
      unfold X9_begin_b48
      simp (disch := omega) only [gd_pos, if_pos, if_neg, lt_pos, reduceIte]
  · obtain ⟨v, D⟩ := s
    obtain ⟨rfl, hD, hS⟩ := hI
    refine ⟨D, ?_, hD, TrB.st hS (fun a' b' c' h1 h2 h3' => by unfold thr; omega)⟩
    unfold X9_begin_b41
    simp (disch := omega) only [gd_pos, if_pos, if_neg, lt_pos, reduceIte]
theorem x9_begin {d : DA} {o r : Nat} (ho : 6 ≤ o) (hr : d.1 (o - 6) 0 = r) (h5 : r ≤ 5) (hn : Nb d (o - 6)) : ∃ q, X9_begin o d = some q ∧ (B2 (o + 1) (o + 2) d q.2 ∧ (r ≤ 3 → TrB (d.1 (o - 6 + 1)) r 27 (q.2.1 (o + 1)) (q.2.1 (o + 2)))) := by
  unfold X9_begin
  rw [bd_pos (fillI (by omega)), bd_pos (fillI (by omega))]
  generalize hD : wA (wA d (o + 1) (pre (d.1 (o + 1)) (fun _ => 0) 729)) (o + 2) (pre ((wA d (o + 1) (pre (d.1 (o + 1)) (fun _ => 0) 729)).1 (o + 2)) (fun _ => 0) 27) = D
  have hB : B2 (o + 1) (o + 2) d D := by rw [← hD]; exact ⟨rfl, fun i h1 h2 => by rw [wA_ne h2, wA_ne h1]⟩
  have e1 : D.1 (o - 6) 0 = r := by rw [hB.2 _ (by omega) (by omega)]; exact hr
  have e2 : D.1 (o - 6 + 1) = d.1 (o - 6 + 1) := hB.2 _ (by omega) (by omega)
  have f1 : D.1 (o + 1) = pre (d.1 (o + 1)) (fun _ => 0) 729 := by rw [← hD, wA_ne (by omega), wA_at]
  have f2 : ∀ q, q < 27 → D.1 (o + 2) q = 0 := fun q hq => by rw [← hD, wA_at, pre_lt hq]
  have hnD : Nb D (o - 6) := fun j hj => by rw [e2]; exact hn j hj
  rw [e1]
  by_cases c : r ≤ 3
  · simp (disch := omega) only [gd_pos, if_pos, if_neg, lt_pos, reduceIte]
    have hT : TrB (D.1 (o - 6 + 1)) r 0 (D.1 (o + 1)) (D.1 (o + 2)) := by
      refine ⟨fun q => ⟨?_, fun _ => ?_⟩, fun a b c' ha hb hc => ?_⟩
      · rintro ⟨a, b, c', e, g, h, h1, -⟩; omega
      · rw [f1]
        by_cases c7 : q < 729
        · rw [pre_lt c7, pre_lt c7]
        · rw [pre_ge c7]
      · rw [f2 _ (by unfold thr; omega), if_neg (fun z => by omega)]
    obtain ⟨q, h1, h2, h3⟩ := x9_begin3 (v1 := (r : Int)) ho e1 rfl c hnD hT
    rw [e2] at h3
    exact ⟨q, h1, hB.tr h2, fun _ => h3⟩
  · simp (disch := omega) only [gd_pos, if_pos, if_neg, lt_pos, reduceIte]
    unfold X9_begin_j38
    refine (lpE_ev (fun a s => s = ((0 : Int), D)) (fun e => e = D) 0 (by omega) rfl (fun a s ha hI => by omega) (fun s hI => ?_) (fun e he => ?_))
    · subst hI
      refine ⟨D, ?_, rfl⟩
      unfold X9_begin_b41
      simp (disch := omega) only [gd_pos, if_pos, if_neg, lt_pos, reduceIte]
    · subst he
      exact ⟨_, rfl, hB, fun z => absurd z c⟩
/-- the class has forgotten what was told and found -/
def Fgt (d d' : DA) (r : Nat) : Prop :=
  (∀ c j, rel c j = true → c ≠ 2 → c ≠ 3 → c ≠ 12 → c ≠ 13 → c ≠ 54 → c ≠ 61 → c ≠ 68 → c ≠ 69 → c ≠ 81 → d'.1 c j = d.1 c j) ∧ d'.2 = d.2 ∧
  (d'.1 2 4 = 0 ∧ ∀ j, j ≠ 4 → d'.1 2 j = d.1 2 j) ∧ (∀ j, j < 5 → d'.1 3 j = 1) ∧ (r ≤ 3 → TrB (d.1 6) r 27 (d'.1 12) (d'.1 13)) ∧ (d'.1 54 3 = 0 ∧ d'.1 54 4 = 0) ∧ d'.1 61 0 = 0 ∧ d'.1 68 2 = 0 ∧ (∀ j, j < 5 → d'.1 69 j = -1) ∧ d'.1 81 0 = 0
theorem x10_forget {d : DA} : X10_forget 68 d = some ((), wI (wA d 69 (pre (d.1 69) (fun _ => -1) 5)) 68 2 0) := by
  unfold X10_forget
  rw [bd_pos (fillI (by omega))]
  rfl
theorem x11_forgetFound {d : DA} : X11_forgetFound 1 d = some ((), wI (wI (wA (wI (wI (wI d 54 3 0) 54 4 0) 61 0 0) 69 (pre ((wI (wI (wI d 54 3 0) 54 4 0) 61 0 0).1 69) (fun _ => -1) 5)) 68 2 0) 81 0 0) := by
  unfold X11_forgetFound
  rw [bd_pos (a := ()) (d := wI (wI d 54 3 0) 54 4 0) (show X7_forget (1 + 53) d = some ((), wI (wI d 54 3 0) 54 4 0) from rfl), gd_pos (Or.inl rfl), lt_pos]
  rw [bd_pos (show X10_forget (1 + 67) (wI (wI (wI d 54 3 0) 54 4 0) (1 + 60) 0 0) = _ from x10_forget), gd_pos (Or.inl rfl), lt_pos]
theorem x11_begin {d : DA} {r : Nat} (hr : d.1 5 0 = r) (h5 : r ≤ 5) (hn : Nb d 5) : ∃ q, X11_beginAgain 1 d = some q ∧ Fgt d q.2 r := by
  obtain ⟨⟨u, D⟩, e1, hB, hT⟩ := x9_begin (d := d) (o := 11) (by decide) hr h5 hn
  have hB' : B2 12 13 d D := hB
  have e1' : X9_begin (1 + 1 + 9) d = some (u, D) := e1
  generalize hE : wI (wA D 3 (pre (D.1 3) (fun _ => 1) 5)) 2 4 0 = E
  have eT : X6_forgetTold (1 + 1) d = some ((), E) := by
    unfold X6_forgetTold
    rw [bd_pos e1', bd_pos (fillI (by omega)), ← hE]
    rfl
  unfold X11_beginAgain
  rw [bd_pos eT, bd_pos (x11_forgetFound (d := E))]
  refine ⟨_, rfl, fun c j hc h1 h2 h3 h4 h5' h6 h7 h8 h9 => ?_, ?_, ⟨?_, fun j hj => ?_⟩, fun j hj => ?_, fun h3 => ?_, ⟨rfl, rfl⟩, rfl, rfl, fun j hj => ?_, rfl⟩
  · show (wI (wI (wA (wI (wI (wI E 54 3 0) 54 4 0) 61 0 0) 69 _) 68 2 0) 81 0 0).1 c j = _
    rw [wI_ne h9, wI_ne h7, wA_ne h8, wI_ne h6, wI_ne h5', wI_ne h5', ← hE, wI_ne h1, wA_ne h2, hB'.2 c h3 h4]
  · show E.2 = d.2
    rw [← hE]; exact hB'.1
  · show E.1 2 4 = 0
    rw [← hE, wI_at, fu_s]
  · show E.1 2 j = d.1 2 j
    rw [← hE, wI_at, fu_n hj, wA_ne (by decide), hB'.2 2 (by decide) (by decide)]
  · show E.1 3 j = 1
    rw [← hE, wI_ne (by decide), wA_at, pre_lt hj]
  · show TrB (d.1 6) r 27 (E.1 12) (E.1 13)
    rw [← hE, wI_ne (by decide), wA_ne (by decide), wI_ne (by decide), wA_ne (by decide)]
    exact hT h3
  · show (wA (wI (wI (wI E 54 3 0) 54 4 0) 61 0 0) 69 (pre _ (fun _ => -1) 5)).1 69 j = -1
    rw [wA_at, pre_lt hj]
/-- the reference has forgotten what was told -/
def Frs (d d' : DA) : Prop :=
  (∀ c j, c ≠ 113 → c ≠ 117 → c ≠ 118 → c ≠ 119 → d'.1 c j = d.1 c j) ∧ d'.2 = d.2 ∧
  (d'.1 113 13 = 0 ∧ d'.1 113 18 = 0 ∧ d'.1 113 19 = 0 ∧ ∀ j, j ≠ 13 → j ≠ 18 → j ≠ 19 → d'.1 113 j = d.1 113 j) ∧ (∀ j, j < 729 → d'.1 117 j = 0) ∧ (∀ j, j < 27 → d'.1 118 j = 0) ∧ (∀ j, j < 5 → d'.1 119 j = 1)
theorem x12_fresh {d : DA} : ∃ q, X12_fresh 113 d = some q ∧ Frs d q.2 := by
  have e1 : X12_fresh 113 d = X12_fresh_j22 113 (wA d 117 (pre (d.1 117) (fun _ => 0) 729)) := by
    unfold X12_fresh
    refine lpE_row 117 729 (fun _ => 0) (by omega) (fun i hi => ?_) ?_
    · unfold X12_fresh_b2
      simp (disch := omega) only [gd_pos, if_pos, if_neg, lt_pos, reduceIte, Int.toNat_natCast]
    · unfold X12_fresh_b2
      simp (disch := omega) only [gd_pos, if_pos, if_neg, lt_pos, reduceIte]
  have e2 : ∀ D, X12_fresh_j22 113 D = X12_fresh_j43 113 (wA D 118 (pre (D.1 118) (fun _ => 0) 27)) := fun D => by
    unfold X12_fresh_j22
    refine lpE_row 118 27 (fun _ => 0) (by omega) (fun i hi => ?_) ?_
    · unfold X12_fresh_b24
      simp (disch := omega) only [gd_pos, if_pos, if_neg, lt_pos, reduceIte, Int.toNat_natCast]
    · unfold X12_fresh_b24
      simp (disch := omega) only [gd_pos, if_pos, if_neg, lt_pos, reduceIte]
  have e3 : ∀ D, X12_fresh_j43 113 D = X12_fresh_j63 113 (wA D 119 (pre (D.1 119) (fun _ => 1) 5)) := fun D => by
    unfold X12_fresh_j43
    refine lpE_row 119 5 (fun _ => 1) (by omega) (fun i hi => ?_) ?_
    · unfold X12_fresh_b45
      simp (disch := omega) only [gd_pos, if_pos, if_neg, lt_pos, reduceIte, Int.toNat_natCast]
    · unfold X12_fresh_b45
      simp (disch := omega) only [gd_pos, if_pos, if_neg, lt_pos, reduceIte]
  generalize h1 : wA d 117 (pre (d.1 117) (fun _ => 0) 729) = D1 at e1
  have e2' := e2 D1
  generalize h2 : wA D1 118 (pre (D1.1 118) (fun _ => 0) 27) = D2 at e2'
  have e3' := e3 D2
  generalize h3 : wA D2 119 (pre (D2.1 119) (fun _ => 1) 5) = D3 at e3'
  rw [e1, e2', e3']
  have f1 : D1.1 117 = pre (d.1 117) (fun _ => 0) 729 := by rw [← h1, wA_at]
  have f2 : D2.1 117 = pre (d.1 117) (fun _ => 0) 729 := by rw [← h2, wA_ne (by decide), f1]
  have f3 : D3.1 117 = pre (d.1 117) (fun _ => 0) 729 := by rw [← h3, wA_ne (by decide), f2]
  have g2 : D2.1 118 = pre (D1.1 118) (fun _ => 0) 27 := by rw [← h2, wA_at]
  have g3 : D3.1 118 = pre (D1.1 118) (fun _ => 0) 27 := by rw [← h3, wA_ne (by decide), g2]
  have k3 : D3.1 119 = pre (D2.1 119) (fun _ => 1) 5 := by rw [← h3, wA_at]
  have o3 : ∀ c, c ≠ 117 → c ≠ 118 → c ≠ 119 → D3.1 c = d.1 c := fun c a1 a2 a3 => by rw [← h3, wA_ne a3, ← h2, wA_ne a2, ← h1, wA_ne a1]
  have l3 : D3.2 = d.2 := by rw [← h3, ← h2, ← h1]; rfl
  refine ⟨((), wI (wI (wI D3 113 13 0) 113 18 0) 113 19 0), rfl, fun c j a1 a2 a3 a4 => ?_, l3, ⟨rfl, rfl, rfl, fun j a1 a2 a3 => ?_⟩, fun j hj => ?_, fun j hj => ?_, fun j hj => ?_⟩
  · show (wI (wI (wI D3 113 13 0) 113 18 0) 113 19 0).1 c j = _
    rw [wI_ne a1, wI_ne a1, wI_ne a1, o3 c a2 a3 a4]
  · show (wI (wI (wI D3 113 13 0) 113 18 0) 113 19 0).1 113 j = _
    rw [wI_at, fu_n a3, wI_at, fu_n a2, wI_at, fu_n a1, o3 113 (by decide) (by decide) (by decide)]
  · show D3.1 117 j = 0
    rw [f3, pre_lt hj]
  · show D3.1 118 j = 0
    rw [g3, pre_lt hj]
  · show D3.1 119 j = 1
    rw [k3, pre_lt hj]

/-! ===== count ===== -/
theorem both_s {Z : Type} {k : Nat} {x : XS} {o : Option ((Int ⊕ Nat) × XS)} {v : Int} (h : Inv k x) (hk : k < 512) (hA : o = some (.inl v, x)) (hv : inR v) {M : DA → Option (Int × DA)} (hM : ∀ d, d.1 = x.1.1 → M d = some (v, wI d 113 0 0)) {f : XS → Option Z} {bad : XS → Option Z} :
    ∃ x', (bd (LX o x 1) fun r7 x8 =>
      gd (xc x ≤ xc x8 ∧ xs x ≤ xs x8) <|
      bd (M x8.1) fun x10 d9 =>
      lt9 (xD x8 d9) fun x11 =>
      b1 (X12_thrown 113 x11.1) fun x12 =>
      gd (inR x12 ∧ inR r7) <|
      if x12 = r7 then (gd (inR r7) <|
      if r7 = 0 then (gd (ix 0 1) <|
      gd (inR x10) <|
      gd (inR64 (x11.1.2 161 (Int.toNat 0)) ∧ inR64 x10) <|
      gd (inR (lcmp9 (x11.1.2 161 (Int.toNat 0)) x10)) <|
      if (lcmp9 (x11.1.2 161 (Int.toNat 0)) x10) = 0 then f x11 else bad x11) else f x11) else bad x11) = f x' ∧ Inv (k + 1) x' :=
  both h hk ⟨Or.inl ⟨rfl, hA⟩, Nat.le_refl _, Nat.le_refl _⟩ hv (Kp.rf x) (Or.inl rfl) hv (fun _ => rfl) (fun d hd => ⟨_, hM d hd, rfl, Sm.wI rfl, rfl⟩)
theorem st_6 {Ln k : Nat} {sc : Int → Int} {x : XS} (h : Inv k x) (hk : k < 512) (h0 : 0 ≤ 8 * (k : Int) ∧ 8 * (k : Int) + 8 ≤ (Ln : Int)) (hL : Ln ≤ 4096) (hsc : ScR sc) (hop : iand9 (sc (8 * (k : Int))) 31 = 6) : Step9 Ln sc k x := by
  unfold Step9
  rw [br_6 h0 hL hop]
  simp only [gd_pos (show ix (8 * (k : Int) + 1) Ln from (by omega))]
  have hv := hsc (8 * (k : Int) + 1)
  generalize sc (8 * (k : Int) + 1) = v at hv
  obtain ⟨-, r, p, m, D, U, tp, kr, la, ⟨⟨t1, t2, t3, t4⟩, ⟨p1, p2, p3⟩, -, -, ⟨l1, l2, l3, -⟩, u1, u2, u3, u4, u5, u6⟩, ⟨s1, s2, s3, s4, s5, -⟩, ⟨q1, q2, q3, -⟩, -, ⟨w1, w2, w3, -⟩, ⟨n1, -⟩, -⟩ := id h
  have t1' : x.1.1 5 0 = r := t1
  have t2' : x.1.1 113 1 = r := t2
  have t3' : x.1.1 6 = x.1.1 114 := t3
  have t4' : TG (x.1.1 114) r := t4
  have p2' : x.1.1 113 4 = p := p2
  have n1' : x.1.1 58 0 = p := n1
  have l1' : x.1.1 2 4 = m := l1
  have l2' : x.1.1 113 13 = m := l2
  have u1' : x.1.1 2 6 = x.1.1 121 0 := u1
  have u2' : x.1.1 2 7 = x.1.1 121 1 := u2
  have u3' : 0 ≤ x.1.1 121 0 := u3
  have u4' : x.1.1 121 0 ≤ k := u4
  have u5' : 0 ≤ x.1.1 121 1 := u5
  have u6' : x.1.1 121 1 ≤ k := u6
  have s1' : x.1.1 54 3 = D := s1
  have s2' : x.1.1 113 18 = D := s2
  have s3' : x.1.1 54 4 = U := s3
  have s4' : x.1.1 113 19 = U := s4
  have q1' : x.1.1 1 7 = tp := q1
  have q2' : x.1.1 113 21 = tp := q2
  have w1' : x.1.1 46 2 = la := w1
  have w2' : x.1.1 113 33 = la := w2
  have hp : p ≤ 31 := by
    unfold PG at p3
    simp at p3
    omega
  have hr := t4'.1
  by_cases c : 0 ≤ v ∧ v ≤ 9
  · rcases (show v = 0 ∨ v = 1 ∨ v = 2 ∨ v = 3 ∨ v = 4 ∨ v = 5 ∨ v = 6 ∨ v = 7 ∨ v = 8 ∨ v = 9 by omega) with rfl | rfl | rfl | rfl | rfl | rfl | rfl | rfl | rfl | rfl
    · refine both_s (v := (r : Int)) (f := fun x => L_law__j483_23 Ln sc (8 * (k : Int)) x) h hk (by unfold X11_count; simp (disch := omega) only [gd_pos, if_pos, if_neg, lt_pos, reduceIte, t1']) (by omega) (fun d hd => ?_)
      have e : (wI d 113 0 0).1 113 1 = r := by (show d.1 113 1 = r); rw [hd]; exact t2'
      unfold X12_count
      simp (disch := omega) only [gd_pos, if_pos, if_neg, lt_pos, reduceIte, e]
    · have hn5 : Nb x.1 5 := fun j hj => by show 0 ≤ x.1.1 6 j ∧ x.1.1 6 j ≤ 9; rw [t3']; exact t4'.2.1 j hj
      have f5 := x8_free (d := x.1) (o := 5) t1' hr.2 hn5
      have f5' : (fre (x.1.1 114) r → X8_isFree 5 x.1 = some 1) ∧ (¬ fre (x.1.1 114) r → X8_isFree 5 x.1 = some 0) := by rw [← t3']; exact f5
      have fm : ∀ d : DA, d.1 = x.1.1 → (fre (x.1.1 114) r → X12_isFree 113 (wI d 113 0 0) = some 1) ∧ (¬ fre (x.1.1 114) r → X12_isFree 113 (wI d 113 0 0) = some 0) := fun d hd => by
        have e : (wI d 113 0 0).1 114 = x.1.1 114 := by (show d.1 114 = _); rw [hd]
        have := x12_free (d := wI d 113 0 0) (r := r) (by rw [e]; exact t4')
        rw [e] at this
        exact this
      by_cases cf : fre (x.1.1 114) r
      · refine both_s (v := 1) (f := fun x => L_law__j483_23 Ln sc (8 * (k : Int)) x) h hk ?_ (by omega) (fun d hd => ?_)
        · unfold X11_count
          rw [b1_pos (f5'.1 cf)]
          simp (disch := omega) only [gd_pos, if_pos, if_neg, lt_pos, reduceIte]
        · unfold X12_count
          rw [lt_pos, b1_pos ((fm d hd).1 cf)]
          simp (disch := omega) only [gd_pos, if_pos, if_neg, lt_pos, reduceIte]
      · refine both_s (v := 0) (f := fun x => L_law__j483_23 Ln sc (8 * (k : Int)) x) h hk ?_ (by omega) (fun d hd => ?_)
        · unfold X11_count
          rw [b1_pos (f5'.2 cf)]
          simp (disch := omega) only [gd_pos, if_pos, if_neg, lt_pos, reduceIte]
        · unfold X12_count
          rw [lt_pos, b1_pos ((fm d hd).2 cf)]
          simp (disch := omega) only [gd_pos, if_pos, if_neg, lt_pos, reduceIte]
    · refine both_s (v := (p : Int)) (f := fun x => L_law__j483_23 Ln sc (8 * (k : Int)) x) h hk (by unfold X11_count; simp (disch := omega) only [gd_pos, if_pos, if_neg, lt_pos, reduceIte, n1']) (by omega) (fun d hd => ?_)
      have e : (wI d 113 0 0).1 113 4 = p := by (show d.1 113 4 = p); rw [hd]; exact p2'
      unfold X12_count
      simp (disch := omega) only [gd_pos, if_pos, if_neg, lt_pos, reduceIte, e]
    · refine both_s (v := (tp : Int)) (f := fun x => L_law__j483_23 Ln sc (8 * (k : Int)) x) h hk (by unfold X11_count; simp (disch := omega) only [gd_pos, if_pos, if_neg, lt_pos, reduceIte, q1']) (by omega) (fun d hd => ?_)
      have e : (wI d 113 0 0).1 113 21 = tp := by (show d.1 113 21 = tp); rw [hd]; exact q2'
      unfold X12_count
      simp (disch := omega) only [gd_pos, if_pos, if_neg, lt_pos, reduceIte, e]
    · refine both_s (v := x.1.1 121 0) (f := fun x => L_law__j483_23 Ln sc (8 * (k : Int)) x) h hk (by unfold X11_count; simp (disch := omega) only [gd_pos, if_pos, if_neg, lt_pos, reduceIte, u1']) (by omega) (fun d hd => ?_)
      have e : (wI d 113 0 0).1 (113 + 8) (Int.toNat (4 - 4)) = x.1.1 121 0 := by (show d.1 121 0 = _); rw [hd]
      unfold X12_count
      simp (disch := omega) only [gd_pos, if_pos, if_neg, lt_pos, reduceIte, e]
    · refine both_s (v := x.1.1 121 1) (f := fun x => L_law__j483_23 Ln sc (8 * (k : Int)) x) h hk (by unfold X11_count; simp (disch := omega) only [gd_pos, if_pos, if_neg, lt_pos, reduceIte, u2']) (by omega) (fun d hd => ?_)
      have e : (wI d 113 0 0).1 (113 + 8) (Int.toNat (5 - 4)) = x.1.1 121 1 := by (show d.1 121 1 = _); rw [hd]
      unfold X12_count
      simp (disch := omega) only [gd_pos, if_pos, if_neg, lt_pos, reduceIte, e]
    · refine both_s (v := (la : Int)) (f := fun x => L_law__j483_23 Ln sc (8 * (k : Int)) x) h hk (by unfold X11_count; simp (disch := omega) only [gd_pos, if_pos, if_neg, lt_pos, reduceIte, w1']) (by omega) (fun d hd => ?_)
      have e : (wI d 113 0 0).1 113 33 = la := by (show d.1 113 33 = la); rw [hd]; exact w2'
      unfold X12_count
      simp (disch := omega) only [gd_pos, if_pos, if_neg, lt_pos, reduceIte, e]
    · refine both_s (v := (m : Int)) (f := fun x => L_law__j483_23 Ln sc (8 * (k : Int)) x) h hk (by unfold X11_count; simp (disch := omega) only [gd_pos, if_pos, if_neg, lt_pos, reduceIte, l1']) (by omega) (fun d hd => ?_)
      have e : (wI d 113 0 0).1 113 13 = m := by (show d.1 113 13 = m); rw [hd]; exact l2'
      unfold X12_count
      simp (disch := omega) only [gd_pos, if_pos, if_neg, lt_pos, reduceIte, e]
    · refine both_s (v := (D : Int)) (f := fun x => L_law__j483_23 Ln sc (8 * (k : Int)) x) h hk (by unfold X11_count; simp (disch := omega) only [gd_pos, if_pos, if_neg, lt_pos, reduceIte, s1']) (by omega) (fun d hd => ?_)
      have e : (wI d 113 0 0).1 113 18 = D := by (show d.1 113 18 = D); rw [hd]; exact s2'
      unfold X12_count
      simp (disch := omega) only [gd_pos, if_pos, if_neg, lt_pos, reduceIte, e]
    · refine both_s (v := (U : Int)) (f := fun x => L_law__j483_23 Ln sc (8 * (k : Int)) x) h hk (by unfold X11_count; simp (disch := omega) only [gd_pos, if_pos, if_neg, lt_pos, reduceIte, s3']) (by omega) (fun d hd => ?_)
      have e : (wI d 113 0 0).1 113 19 = U := by (show d.1 113 19 = U); rw [hd]; exact s4'
      unfold X12_count
      simp (disch := omega) only [gd_pos, if_pos, if_neg, lt_pos, reduceIte, e]
  · refine both (f := fun x => L_law__j483_23 Ln sc (8 * (k : Int)) x) h hk (x2 := xT x) (v := 0) ⟨Or.inr ⟨rfl, ?_⟩, Nat.le_succ _, Nat.le_add_right _ _⟩ (by omega) (Kp.T x) (Or.inr rfl) (w := 0) (by omega) (fun h9 => by omega) (fun d hd => ?_)
    · unfold X11_count
      simp (disch := omega) only [gd_pos, if_pos, if_neg, lt_pos, reduceIte]
    · unfold X12_count
      simp (disch := omega) only [gd_pos, if_pos, if_neg, lt_pos, reduceIte]
      rw [bd_pos m_fail]
      exact ⟨_, rfl, rfl, (Sm.wI rfl).tr (Sm.wI rfl), rfl⟩

/-! ===== the story ===== -/
def dn9 (D : Nat) : Nat := if D < 100 then D else 99
def sh (f : Nat → Int) (D : Nat) (v : Int) : Nat → Int := fun j => if j = dn9 D then v else if D < 100 then f j else if j < 99 then f (j + 1) else f j
theorem sh_lt {f : Nat → Int} {D : Nat} {v : Int} (h : D < 100) : sh f D v = fu f D v := funext fun j => by
  unfold sh dn9
  rw [fu_app, if_pos h]
  by_cases c : j = D
  · rw [if_pos c, if_pos c]
  · rw [if_neg c, if_neg c, if_pos h]
theorem sh_ge {f g : Nat → Int} {D : Nat} {v : Int} (h : ¬ D < 100) (hg : ∀ j, g j = if j < 99 then f (j + 1) else f j) : fu g 99 v = sh f D v := funext fun j => by
  unfold sh dn9
  rw [fu_app, if_neg h]
  by_cases c : j = 99
  · rw [if_pos c, if_pos c]
  · rw [if_neg c, if_neg c, if_neg h, hg j]
def Ad (c0 f3 f4 a b c : Nat) (D : Nat) (va vb vc : Int) (d d' : DA) : Prop := d'.2 = d.2 ∧ (∀ i, i ≠ c0 → i ≠ a → i ≠ b → i ≠ c → d'.1 i = d.1 i) ∧ (∀ j, j ≠ f3 → j ≠ f4 → d'.1 c0 j = d.1 c0 j) ∧ d'.1 c0 f3 = ((dn9 D + 1 : Nat) : Int) ∧ d'.1 c0 f4 = 0 ∧ d'.1 a = sh (d.1 a) D va ∧ d'.1 b = sh (d.1 b) D vb ∧ d'.1 c = sh (d.1 c) D vc
theorem x7_add {d : DA} {D : Nat} {pl be af : Int} (hD : d.1 54 3 = D) (h1 : D ≤ 100) : ∃ q, X7_add 54 pl be af d = some q ∧ Ad 54 3 4 55 56 57 D pl be af d q.2 := by
  have j60 : ∀ (E : DA) (e : Nat), e < 100 → E.1 54 3 = e → X7_add_j60 54 pl be af E = some ((), wI (wI (wI (wI (wI E 55 e pl) 56 e be) 57 e af) 54 3 ((e : Int) + 1)) 54 4 0) := fun E e he hE => by
    unfold X7_add_j60
    have e1 : (wI E (54 + 1) (Int.toNat (E.1 54 3)) pl).1 54 3 = e := hE
    have e2 : (wI (wI E (54 + 1) (Int.toNat (E.1 54 3)) pl) (54 + 2) (Int.toNat ((wI E (54 + 1) (Int.toNat (E.1 54 3)) pl).1 54 3)) be).1 54 3 = e := hE
    have e3 : (wI (wI (wI E (54 + 1) (Int.toNat (E.1 54 3)) pl) (54 + 2) (Int.toNat ((wI E (54 + 1) (Int.toNat (E.1 54 3)) pl).1 54 3)) be) (54 + 3) (Int.toNat ((wI (wI E (54 + 1) (Int.toNat (E.1 54 3)) pl) (54 + 2) (Int.toNat ((wI E (54 + 1) (Int.toNat (E.1 54 3)) pl).1 54 3)) be).1 54 3)) af).1 54 3 = e := hE
    rw [lt_pos, lt_pos, lt_pos, lt_pos, lt_pos, e3, e2, e1, hE, Int.toNat_natCast]
    simp (disch := omega) only [gd_pos, if_pos, if_neg, lt_pos, reduceIte]
  unfold X7_add
  rw [hD]
  by_cases c : D < 100
  · simp (disch := omega) only [gd_pos, if_pos, if_neg, lt_pos, reduceIte]
    rw [j60 d D c hD]
    refine ⟨_, rfl, rfl, fun i a1 a2 a3 a4 => ?_, fun j a1 a2 => ?_, ?_, rfl, ?_, ?_, ?_⟩
    · show (wI (wI (wI (wI (wI d 55 D pl) 56 D be) 57 D af) 54 3 _) 54 4 0).1 i = _
      rw [wI_ne a1, wI_ne a1, wI_ne a4, wI_ne a3, wI_ne a2]
    · show (wI (wI (wI (wI (wI d 55 D pl) 56 D be) 57 D af) 54 3 _) 54 4 0).1 54 j = _
      rw [wI_at, fu_n a2, wI_at, fu_n a1]; rfl
    · show ((D : Int) + 1) = _
      unfold dn9; rw [if_pos c]; rfl
    · show fu (d.1 55) D pl = _
      rw [sh_lt c]
    · show fu (d.1 56) D be = _
      rw [sh_lt c]
    · show fu (d.1 57) D af = _
      rw [sh_lt c]
  · have hc : ∀ f : Nat → Int, ∀ j, cpF f f 1 0 99 j = if j < 99 then f (j + 1) else f j := fun f j => by
      unfold cpF
      have z0 : Int.toNat 0 = 0 := rfl
      have z1 : Int.toNat 1 = 1 := rfl
      have z9 : Int.toNat 99 = 99 := rfl
      rw [z0, z1, z9]
      by_cases c9 : j < 99
      · rw [if_pos (by omega), if_pos c9, show 1 + (j - 0) = j + 1 by omega]
      · rw [if_neg (by omega), if_neg c9]
    simp (disch := omega) only [gd_pos, if_pos, if_neg, lt_pos, reduceIte]
    generalize hE : wI (cpI (cpI (cpI d (54 + 1) 1 (54 + 1) 0 99) (54 + 2) 1 (54 + 2) 0 99) (54 + 3) 1 (54 + 3) 0 99) 54 3 99 = E
    have E3 : E.1 54 3 = ((99 : Nat) : Int) := by rw [← hE, wI_at, fu_s]; rfl
    have E55 : E.1 55 = cpF (d.1 55) (d.1 55) 1 0 99 := by rw [← hE]; rfl
    have E56 : E.1 56 = cpF (d.1 56) (d.1 56) 1 0 99 := by rw [← hE]; rfl
    have E57 : E.1 57 = cpF (d.1 57) (d.1 57) 1 0 99 := by rw [← hE]; rfl
    have Eo : ∀ i, i ≠ 54 → i ≠ 55 → i ≠ 56 → i ≠ 57 → E.1 i = d.1 i := fun i a1 a2 a3 a4 => by
      rw [← hE, wI_ne a1]
      unfold cpI
      rw [wA_ne a4, wA_ne a3, wA_ne a2]
    have Ef : ∀ j, j ≠ 3 → E.1 54 j = d.1 54 j := fun j a1 => by rw [← hE, wI_at, fu_n a1]; rfl
    have E2 : E.2 = d.2 := by rw [← hE]; rfl
    rw [j60 E 99 (by decide) E3]
    refine ⟨_, rfl, E2, fun i a1 a2 a3 a4 => ?_, fun j a1 a2 => ?_, ?_, rfl, ?_, ?_, ?_⟩
    · show (wI (wI (wI (wI (wI E 55 99 pl) 56 99 be) 57 99 af) 54 3 _) 54 4 0).1 i = _
      rw [wI_ne a1, wI_ne a1, wI_ne a4, wI_ne a3, wI_ne a2, Eo i a1 a2 a3 a4]
    · show (wI (wI (wI (wI (wI E 55 99 pl) 56 99 be) 57 99 af) 54 3 _) 54 4 0).1 54 j = _
      rw [wI_at, fu_n a2, wI_at, fu_n a1]
      show E.1 54 j = _
      rw [Ef j a1]
    · show (((99 : Nat) : Int) + 1) = _
      unfold dn9; rw [if_neg c]; rfl
    · show fu (E.1 55) 99 pl = _
      exact sh_ge c (fun j => by rw [E55, hc])
    · show fu (E.1 56) 99 be = _
      exact sh_ge c (fun j => by rw [E56, hc])
    · show fu (E.1 57) 99 af = _
      exact sh_ge c (fun j => by rw [E57, hc])
/-- the reference's log -/
def Al9 (D : Nat) (va vb vc ve : Int) (d d' : DA) : Prop := d'.2 = d.2 ∧ (∀ i, i ≠ 113 → i ≠ 122 → i ≠ 123 → i ≠ 124 → i ≠ 125 → d'.1 i = d.1 i) ∧ (∀ j, j ≠ 18 → j ≠ 19 → d'.1 113 j = d.1 113 j) ∧ d'.1 113 18 = ((dn9 D + 1 : Nat) : Int) ∧ d'.1 113 19 = 0 ∧ d'.1 122 = sh (d.1 122) D va ∧ d'.1 123 = sh (d.1 123) D vb ∧ d'.1 124 = sh (d.1 124) D vc ∧ d'.1 125 = sh (d.1 125) D ve
theorem x12_log {d : DA} {D : Nat} {va vb vc ve : Int} (hD : d.1 113 18 = D) (h1 : D ≤ 100) : ∃ q, X12_log 113 va vb vc ve d = some q ∧ Al9 D va vb vc ve d q.2 := by
  have j101 : ∀ (E : DA) (e : Nat), e < 100 → E.1 113 18 = e → X12_log_j101 113 va vb vc ve E = some ((), wI (wI (wI (wI (wI (wI E 122 e va) 123 e vb) 124 e vc) 125 e ve) 113 18 ((e : Int) + 1)) 113 19 0) := fun E e he hE => by
    unfold X12_log_j101
    rw [lt_pos, lt_pos, lt_pos, lt_pos, lt_pos, lt_pos]
    generalize h4 : wI E (113 + 9) (Int.toNat (E.1 113 18)) va = E1
    have e1 : E1.1 113 18 = e := by rw [← h4]; exact hE
    generalize h5 : wI E1 (113 + 10) (Int.toNat (E1.1 113 18)) vb = E2
    have e2 : E2.1 113 18 = e := by rw [← h5]; exact e1
    generalize h6 : wI E2 (113 + 11) (Int.toNat (E2.1 113 18)) vc = E3
    have e3 : E3.1 113 18 = e := by rw [← h6]; exact e2
    generalize h7 : wI E3 (113 + 12) (Int.toNat (E3.1 113 18)) ve = E4
    have e4 : E4.1 113 18 = e := by rw [← h7]; exact e3
    rw [e4, e3, e2, e1, hE]
    simp (disch := omega) only [gd_pos, if_pos, if_neg, lt_pos, reduceIte]
    rw [← h7, e3, ← h6, e2, ← h5, e1, ← h4, hE, Int.toNat_natCast]
  have fin : ∀ E : DA, ∀ e : Nat, e = dn9 D → e < 100 → E.1 113 18 = e → E.2 = d.2 → (∀ i, i ≠ 113 → i ≠ 122 → i ≠ 123 → i ≠ 124 → i ≠ 125 → E.1 i = d.1 i) → (∀ j, j ≠ 18 → E.1 113 j = d.1 113 j) → fu (E.1 122) e va = sh (d.1 122) D va → fu (E.1 123) e vb = sh (d.1 123) D vb → fu (E.1 124) e vc = sh (d.1 124) D vc → fu (E.1 125) e ve = sh (d.1 125) D ve → ∃ q, X12_log_j101 113 va vb vc ve E = some q ∧ Al9 D va vb vc ve d q.2 := by
    intro E e he he1 hE hE2 hEo hEf g1 g2 g3 g4
    rw [j101 E e he1 hE]
    refine ⟨_, rfl, hE2, fun i a1 a2 a3 a4 a5 => ?_, fun j a1 a2 => ?_, ?_, rfl, g1, g2, g3, g4⟩
    · show (wI (wI (wI (wI (wI (wI E 122 e va) 123 e vb) 124 e vc) 125 e ve) 113 18 _) 113 19 0).1 i = _
      rw [wI_ne a1, wI_ne a1, wI_ne a5, wI_ne a4, wI_ne a3, wI_ne a2, hEo i a1 a2 a3 a4 a5]
    · show (wI (wI (wI (wI (wI (wI E 122 e va) 123 e vb) 124 e vc) 125 e ve) 113 18 _) 113 19 0).1 113 j = _
      rw [wI_at, fu_n a2, wI_at, fu_n a1]
      show E.1 113 j = _
      rw [hEf j a1]
    · show ((e : Int) + 1) = _
      rw [he]; rfl
  unfold X12_log
  rw [hD]
  by_cases c : D = 100
  · subst c
    simp (disch := omega) only [gd_pos, if_pos, if_neg, lt_pos, reduceIte]
    refine lpE_ev (fun i s => s.1 = (i : Int) ∧ s.2.2 = d.2 ∧ (∀ q, q ≠ 122 → q ≠ 123 → q ≠ 124 → q ≠ 125 → s.2.1 q = d.1 q) ∧ (∀ j, s.2.1 122 j = if j < i then d.1 122 (j + 1) else d.1 122 j) ∧ (∀ j, s.2.1 123 j = if j < i then d.1 123 (j + 1) else d.1 123 j) ∧ (∀ j, s.2.1 124 j = if j < i then d.1 124 (j + 1) else d.1 124 j) ∧ (∀ j, s.2.1 125 j = if j < i then d.1 125 (j + 1) else d.1 125 j)) (fun e => e.2 = d.2 ∧ (∀ q, q ≠ 122 → q ≠ 123 → q ≠ 124 → q ≠ 125 → e.1 q = d.1 q) ∧ (∀ j, e.1 122 j = if j < 99 then d.1 122 (j + 1) else d.1 122 j) ∧ (∀ j, e.1 123 j = if j < 99 then d.1 123 (j + 1) else d.1 123 j) ∧ (∀ j, e.1 124 j = if j < 99 then d.1 124 (j + 1) else d.1 124 j) ∧ (∀ j, e.1 125 j = if j < 99 then d.1 125 (j + 1) else d.1 125 j)) 99 (by omega) ⟨rfl, rfl, fun _ _ _ _ _ => rfl, fun j => by rw [if_neg (by omega)], fun j => by rw [if_neg (by omega)], fun j => by rw [if_neg (by omega)], fun j => by rw [if_neg (by omega)]⟩ (fun i s hi hI => ?_) (fun s hI => ?_) (fun E he => ?_)
    · obtain ⟨v, E⟩ := s
      obtain ⟨rfl, g1, g2, g3, g4, g5, g6⟩ := hI
      have up : ∀ (f F : Nat → Int), (∀ j, F j = if j < i then f (j + 1) else f j) → ∀ j, fu F i (F (i + 1)) j = if j < i + 1 then f (j + 1) else f j := fun f F hF j => by
        rw [fu_app, hF (i + 1), if_neg (show ¬ i + 1 < i by omega)]
        by_cases c1 : j = i
        · subst c1; rw [if_pos rfl, if_pos (by omega)]
        · rw [if_neg c1, hF j]
          by_cases c2 : j < i
          · rw [if_pos c2, if_pos (by omega)]
          · rw [if_neg c2, if_neg (by omega)]
      refine ⟨((i : Int) + 1, wI (wI (wI (wI E 122 i (E.1 122 (i + 1))) 123 i (E.1 123 (i + 1))) 124 i (E.1 124 (i + 1))) 125 i (E.1 125 (i + 1))), ?_, rfl, g1, fun q a1 a2 a3 a4 => ?_, ?_, ?_, ?_, ?_⟩
      · unfold X12_log_b12
        dsimp only
        rw [show ((i : Int) + 1).toNat = i + 1 by omega, Int.toNat_natCast]
        simp (disch := omega) only [gd_pos, if_pos, if_neg, lt_pos, reduceIte]
        rfl
      · show (wI (wI (wI (wI E 122 i _) 123 i _) 124 i _) 125 i _).1 q = _
        rw [wI_ne a4, wI_ne a3, wI_ne a2, wI_ne a1]; exact g2 q a1 a2 a3 a4
      · exact up _ _ g3
      · exact up _ _ g4
      · exact up _ _ g5
      · exact up _ _ g6
    · obtain ⟨v, E⟩ := s
      obtain ⟨rfl, hI⟩ := hI
      refine ⟨E, ?_, hI⟩
      unfold X12_log_b12
      simp (disch := omega) only [gd_pos, if_pos, if_neg, lt_pos, reduceIte]
    · obtain ⟨g1, g2, g3, g4, g5, g6⟩ := he
      unfold X12_log_j91
      have e18 : E.1 113 18 = ((100 : Nat) : Int) := by rw [g2 113 (by decide) (by decide) (by decide) (by decide)]; exact hD
      rw [lt_pos, e18]
      refine fin (wI E 113 18 (((100 : Nat) : Int) - 1)) 99 rfl (by decide) rfl g1 (fun i a1 a2 a3 a4 a5 => ?_) (fun j a1 => ?_) ?_ ?_ ?_ ?_
      · rw [wI_ne a1]; exact g2 i a2 a3 a4 a5
      · rw [wI_at, fu_n a1, g2 113 (by decide) (by decide) (by decide) (by decide)]
      · exact sh_ge (by decide) g3
      · exact sh_ge (by decide) g4
      · exact sh_ge (by decide) g5
      · exact sh_ge (by decide) g6
  · simp (disch := omega) only [gd_pos, if_pos, if_neg, lt_pos, reduceIte]
    refine fin d D (by unfold dn9; rw [if_pos (by omega)]) (by omega) hD rfl (fun _ _ _ _ _ _ => rfl) (fun _ _ => rfl) ?_ ?_ ?_ ?_
    · rw [sh_lt (by omega)]
    · rw [sh_lt (by omega)]
    · rw [sh_lt (by omega)]
    · rw [sh_lt (by omega)]

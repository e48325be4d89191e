/-! ===== laws of S: the reference ===== -/
theorem pm_un {f : Nat → Int} {G : Nat → Nat → Int} {r i j : Nat} (hj : j < 5) : pm f G r i j (5 * i + j) = f (5 * i + j) := by
  unfold pm
  exact if_neg (by omega)
/-- what the reference's laws rest on -/
def RD9 (d : DA) (n c t : Nat → Int) (r p : Nat) : Prop := d.1 114 = n ∧ d.1 113 1 = r ∧ d.1 113 4 = p ∧ (∀ k, k < r → d.1 135 k = c k) ∧ ∀ k, k < r → d.1 119 k = t k
theorem RD9.w {d : DA} {n c t : Nat → Int} {r p q : Nat} {f : Nat → Int} (h : RD9 d n c t r p) (hq : 138 ≤ q) : RD9 (wA d q f) n c t r p := by
  unfold RD9 at h ⊢
  rw [wA_ne (by omega), wA_ne (by omega), wA_ne (by omega), wA_ne (by omega)]
  exact h
theorem x12_mul {d : DA} {n c t : Nat → Int} {r p : Nat} {A S : Mx} (h5 : r ≤ 5) (hR : RD9 d n c t r p) (h2 : 2 ≤ p) (h31 : p ≤ 31) (hA : Ms r (d.1 145) A) (hS : Ms r (d.1 143) S) (bA : Mb p r A) (bS : Mb p r S) : ∃ h, X12_multiply 113 d = some ((), wA d 144 h) ∧ Ms r h (mm9 p r A S) := by
  refine ⟨_, ?_, fun i j hi hj => pm_at (G := mm9 p r A S) (f := d.1 144) hi hj h5⟩
  have e1 : ∀ f, (wA d 144 f).1 113 1 = r := fun f => by rw [wA_ne (by decide)]; exact hR.2.1
  have e4 : ∀ f, (wA d 144 f).1 113 4 = p := fun f => by rw [wA_ne (by decide)]; exact hR.2.2.1
  unfold X12_multiply
  refine lpE_sq (bi := fun (i : Nat) q => X12_multiply_b12 113 i q.1 q.2) 144 r (mm9 p r A S) h5 (fun i hi f => ?_) (fun f => ?_) (fun i j hi hj f hf => ?_) (fun i hi f => ?_)
  · show X12_multiply_b2 113 (i : Int) (wA d 144 f) = _
    unfold X12_multiply_b2
    rw [e1, gd_pos (by omega), if_neg (by omega)]
  · show X12_multiply_b2 113 (r : Int) (wA d 144 f) = _
    unfold X12_multiply_b2
    rw [e1, gd_pos (by omega), if_pos (by omega)]
  · show X12_multiply_b12 113 i (j : Int) (wA d 144 f) = _
    unfold X12_multiply_b12
    rw [e1, gd_pos (by omega), if_neg (by omega)]
    have sb := mm_bd h5 h31 bA bS hi hj
    refine (lpS9 (r := r) (fun k => A i k * S k j) (by omega) (fun m hm => ?_) ?_).trans ?_
    · show X12_multiply_b25 113 i j (sm m _) (m : Int) (wA d 144 f) = _
      have z1 : ((5 * (i : Int)) + (m : Int)).toNat = 5 * i + m := by omega
      have z2 : ((5 * (m : Int)) + (j : Int)).toNat = 5 * m + j := by omega
      have q1 : (wA d 144 f).1 (113 + 32) (5 * i + m) = A i m := by
        show (wA d 144 f).1 145 _ = _
        rw [wA_ne (by decide)]; exact hA i m hi hm
      have q2 : (wA d 144 f).1 (113 + 30) (5 * m + j) = S m j := by
        show (wA d 144 f).1 143 _ = _
        rw [wA_ne (by decide)]; exact hS m j hm hj
      unfold X12_multiply_b25
      rw [e1, gd_pos (by omega), if_neg (by omega), gd_pos (by omega), gd_pos (by omega), lt_pos, z1, z2, q1, q2]
      rfl
    · show X12_multiply_b25 113 i j (sm r _) (r : Int) (wA d 144 f) = _
      unfold X12_multiply_b25
      rw [e1, gd_pos (by omega), if_pos (by omega)]
    · have ei : ((5 * (i : Int)) + (j : Int)).toNat = 5 * i + j := by omega
      show X12_multiply_j66_12 113 i j (sm r fun k => A i k * S k j) (wA d 144 f) = _
      unfold X12_multiply_j66_12
      rw [e4, gd_pos (by unfold dvg; omega), gd_pos (by omega), lt_pos, ei, tm_em sb.1]
      rfl
  · show X12_multiply_b12 113 i (r : Int) (wA d 144 f) = _
    unfold X12_multiply_b12
    rw [e1, gd_pos (by omega), if_pos (by omega)]
theorem Ms.cp {r : Nat} {f g : Nat → Int} {M : Mx} (h : Ms r g M) (h5 : r ≤ 5) : Ms r (pre f g 25) M := fun i j hi hj => by rw [pre_lt (by omega)]; exact h i j hi hj
theorem x12_sum {d : DA} {n c t : Nat → Int} {r p : Nat} {u : Bool} (h5 : r ≤ 5) (hR : RD9 d n c t r p) (h2 : 2 ≤ p) (h31 : p ≤ 31) (hb : Cb p r c) (tb : Tb p r t) : X12_sumOf 113 (if u = true then 1 else 0) d = some (if u = true then Pq9 p r c t else Dq9 p r c) := by
  have hp0 : 0 < p := by omega
  obtain ⟨g, hg⟩ : ∃ g : Nat → Int, g = fun k => (c k * c k) % (p : Int) * (if u = true then t k else 1) := ⟨_, rfl⟩
  have m1 : ∀ k, k < r → 0 ≤ c k * c k ∧ c k * c k ≤ 900 := fun k hk => by
    have := hb k hk
    exact mlb9 (u := 30) (v := 30) (by omega) (by omega)
  have gb : ∀ k, k < r → 0 ≤ g k ∧ g k ≤ 900 := fun k hk => by
    have b1 := em_bd hp0 (c k * c k)
    have b2 := tb k hk
    rw [hg]
    refine mlb9 (u := 30) (v := 30) (by omega) ?_
    split <;> omega
  have sb := sm_bd (lo := 0) (hi := 900) r gb
  have sb0 : 0 ≤ sm r g := by omega
  have sb1 : sm r g ≤ 4500 := by omega
  unfold X12_sumOf
  refine (lpS9 (r := r) g (by omega) (fun m hm => ?_) ?_).trans ?_
  · show X12_sumOf_b4 113 _ (sm m g) (m : Int) d = _
    have q1 : d.1 (113 + 22) m = c m := hR.2.2.2.1 m hm
    have q2 : d.1 (113 + 6) m = t m := hR.2.2.2.2 m hm
    have q3 := m1 m hm
    unfold X12_sumOf_b4
    rw [hR.2.1, gd_pos (by omega), if_neg (by omega), gd_pos (by omega), gd_pos (by omega), Int.toNat_natCast, q1, hR.2.2.1, gd_pos (by unfold dvg; omega), tm_em q3.1]
    cases u
    · rw [if_neg (by decide), gd_pos (by decide), if_pos rfl, lt_pos, hg]; rfl
    · rw [if_pos rfl, gd_pos (by decide), if_neg (by decide), gd_pos (by omega), q2, lt_pos, hg]; rfl
  · show X12_sumOf_b4 113 _ (sm r g) (r : Int) d = _
    unfold X12_sumOf_b4
    rw [hR.2.1, gd_pos (by omega), if_pos (by omega)]
  · show gd (dvg (sm r g) (d.1 113 4)) (some (Int.tmod (sm r g) (d.1 113 4))) = _
    rw [hR.2.2.1, gd_pos (by unfold dvg; omega), tm_em sb0]
    refine congrArg some ?_
    cases u
    · rw [if_neg (by decide)]
      refine (em_iff hp0).mpr (cgm.sm9 r (fun k hk => ?_))
      rw [hg]
      show cgm p ((c k * c k) % (p : Int) * (if false = true then t k else 1)) _
      rw [if_neg (by decide), Int.mul_one]
      exact cgm.em _
    · rw [if_pos rfl]
      refine (em_iff hp0).mpr (cgm.sm9 r (fun k hk => ?_))
      rw [hg]
      show cgm p ((c k * c k) % (p : Int) * (if true = true then t k else 1)) (wt9 p c t k * c k)
      rw [if_pos rfl]
      refine ((cgm.em _).mul (cgm.rf _)).tr ?_
      refine cgm.tr (cgm.of ?_) ((cgm.em (t k * c k)).sy.mul (cgm.rf (c k)))
      rw [Int.mul_comm (c k * c k), ← Int.mul_assoc]
/-- the reference turns S back -/
theorem x12_sturn {d : DA} {n c t : Nat → Int} {r p : Nat} {S : Mx} {iv : Int → Int} (h5 : r ≤ 5) (hR : RD9 d n c t r p) (h2 : 2 ≤ p) (h31 : p ≤ 31) (hiv : IvG p iv) (hS : Ms r (d.1 143) S) (bS : Mb p r S) : ∃ f g, X12_isSTurned 113 d = some ((if (gRun p r iv r 0 (S, id9)).1 = true then 1 else 0), wA (wA d 138 f) 139 g) := by
  have e1 : X12_isSTurned 113 d = X12_isSTurned_j26 113 (wA d 138 (pre (d.1 138) (d.1 143) 25)) := by
    unfold X12_isSTurned
    refine lpE_row (d := d) 138 25 (d.1 143) (by omega) (fun i hi => ?_) ?_
    · show X12_isSTurned_b2 113 (i : Int) _ = _
      unfold X12_isSTurned_b2
      have q : (wA d 138 (pre (d.1 138) (d.1 143) i)).1 (113 + 30) = d.1 143 := wA_ne (by decide)
      rw [gd_pos (by omega), if_neg (by omega), gd_pos (by omega), gd_pos (by omega), lt_pos, Int.toNat_natCast, q]
    · show X12_isSTurned_b2 113 ((25 : Nat) : Int) _ = _
      unfold X12_isSTurned_b2
      rw [gd_pos (by omega), if_pos (by omega)]
  obtain ⟨f, g, k1, -⟩ := x12_turnB (d := wA d 138 (pre (d.1 138) (d.1 143) 25)) (n := r) (p := p) (M := S) (iv := iv) h5 (by rw [wA_at]; exact hS.cp h5) bS (by rw [wA_ne (by decide)]; exact hR.2.2.1) h2 h31 hiv
  refine ⟨f, g, ?_⟩
  rw [e1]
  unfold X12_isSTurned_j26
  have q1 : (wA d 138 (pre (d.1 138) (d.1 143) 25)).1 113 1 = r := by rw [wA_ne (by decide)]; exact hR.2.1
  rw [q1, bd_pos k1, gd_pos (by split; exact Or.inr rfl; exact Or.inl rfl), wA_wA]
/-- the reference looks at S by S -/
theorem x12_sq {d : DA} {n c t : Nat → Int} {r p : Nat} {S : Mx} {du : Nat → Nat} (hT : TG n r) (hR : RD9 d n c t r p) (h2 : 2 ≤ p) (h31 : p ≤ 31) (hb : Cb p r c) (tb : Tb p r t) (hdu : ∀ i, i < r → ptn (fun j => n (ti i j 0)) r = (du i : Nat) ∧ du i < r) (hS : Ms r (d.1 143) S) (bS : Mb p r S) : ∃ f g v, X12_isSquareOfS 113 d = some (v, wA (wA d 145 f) 144 g) ∧ (L2 p r du (Dq9 p r c) (mm9 p r S S) → v = 1) ∧ (¬ L2 p r du (Dq9 p r c) (mm9 p r S S) → v = 0) := by
  have h5 := hT.1.2
  have hp0 : 0 < p := by omega
  have e1 : X12_isSquareOfS 113 d = X12_isSquareOfS_j26 113 (wA d 145 (pre (d.1 145) (d.1 143) 25)) := by
    unfold X12_isSquareOfS
    refine lpE_row (d := d) 145 25 (d.1 143) (by omega) (fun i hi => ?_) ?_
    · show X12_isSquareOfS_b2 113 (i : Int) _ = _
      unfold X12_isSquareOfS_b2
      have q : (wA d 145 (pre (d.1 145) (d.1 143) i)).1 (113 + 30) = d.1 143 := wA_ne (by decide)
      rw [gd_pos (by omega), if_neg (by omega), gd_pos (by omega), gd_pos (by omega), lt_pos, Int.toNat_natCast, q]
    · show X12_isSquareOfS_b2 113 ((25 : Nat) : Int) _ = _
      unfold X12_isSquareOfS_b2
      rw [gd_pos (by omega), if_pos (by omega)]
  generalize hf : pre (d.1 145) (d.1 143) 25 = f at e1
  have m0 : Ms r f S := by rw [← hf]; exact hS.cp h5
  have hR1 : RD9 (wA d 145 f) n c t r p := hR.w (by omega)
  obtain ⟨g, g1, g2⟩ := x12_mul (d := wA d 145 f) h5 hR1 h2 h31 (by rw [wA_at]; exact m0) (by rw [wA_ne (by decide)]; exact hS) bS bS
  generalize hE : wA (wA d 145 f) 144 g = E at g1
  have hRE : RD9 E n c t r p := by rw [← hE]; exact hR1.w (by omega)
  have esum : X12_sumOf 113 0 E = some (Dq9 p r c) := x12_sum (u := false) h5 hRE h2 h31 hb tb
  have nbE : Nb E 113 := fun j hj => by show 0 ≤ E.1 114 j ∧ E.1 114 j ≤ 9; rw [hRE.1]; exact hT.2.1 j hj
  have ept : ∀ i, i < r → X12_partner 113 i E = some ((du i : Nat) : Int) := fun i hi => by
    rw [x12_partner (o := 113) (i := i) hRE.2.1 h5 nbE (by omega)]
    refine congrArg some ?_
    rw [← (hdu i hi).1]
    refine ptn_congr (fun j hj => ?_)
    show E.1 114 (ti i j 0) = _
    rw [hRE.1]
  have E144 : ∀ i j, i < r → j < r → E.1 (113 + 31) (5 * i + j) = mm9 p r S S i j := fun i j hi hj => by
    show E.1 144 _ = _
    rw [← hE, wA_at]; exact g2 i j hi hj
  have Db : 0 ≤ Dq9 p r c ∧ Dq9 p r c < p := em_bd hp0 _
  have e2 : X12_isSquareOfS_j26 113 (wA d 145 f) = (s29 ((0 : Int), E) r (fun i j => mm9 p r S S i j = if du i = j then Dq9 p r c else 0)).elim (some (1, E)) some := by
    unfold X12_isSquareOfS_j26 s29
    rw [bd_pos g1, b1_pos esum]
    refine lpR_cnt r _ (by omega) (fun i hi => ?_) ?_
    · unfold X12_isSquareOfS_b38
      rw [hRE.2.1, gd_pos (by omega), if_neg (by omega)]
      refine (lpR_cnt r (fun j => if mm9 p r S S i j = (if du i = j then Dq9 p r c else 0) then none else some ((0 : Int), E)) (by omega) (fun j hj => ?_) ?_).trans ?_
      · unfold X12_isSquareOfS_b48
        have ei : ((5 * (i : Int)) + (j : Int)).toNat = 5 * i + j := by omega
        have b2 := mm9_b (r := r) (A := S) (B := S) hp0 i j hi hj
        have bdu := (hdu i hi).2
        rw [hRE.2.1, gd_pos (by omega), if_neg (by omega), gd_pos (by omega), b1_pos (ept i hi), gd_pos (by omega), ei, E144 i j hi hj]
        unfold X12_isSquareOfS_j80_48
        by_cases cc : du i = j
        · rw [if_pos (by omega), gd_pos (by omega), if_pos cc]
          by_cases c2 : mm9 p r S S i j = Dq9 p r c
          · rw [if_pos c2, if_pos c2]; rfl
          · rw [if_neg c2, if_neg c2]; rfl
        · rw [if_neg (by omega), gd_pos (by omega), if_neg cc]
          by_cases c2 : mm9 p r S S i j = 0
          · rw [if_pos c2, if_pos c2]; rfl
          · rw [if_neg c2, if_neg c2]; rfl
      · unfold X12_isSquareOfS_b48
        rw [hRE.2.1, gd_pos (by omega), if_pos (by omega)]
      · cases fs9 r (fun j => if mm9 p r S S i j = (if du i = j then Dq9 p r c else 0) then none else some ((0 : Int), E)) <;> rfl
    · unfold X12_isSquareOfS_b38
      rw [hRE.2.1, gd_pos (by omega), if_pos (by omega)]
  rcases s29_c (x := ((0 : Int), E)) (r := r) (G := fun i j => mm9 p r S S i j = if du i = j then Dq9 p r c else 0) with ⟨a, b⟩ | ⟨a, b⟩
  · rw [a] at e2
    exact ⟨f, g, 1, by rw [e1, e2, hE]; rfl, fun _ => rfl, fun z => absurd b z⟩
  · rw [a] at e2
    exact ⟨f, g, 0, by rw [e1, e2, hE]; rfl, fun z => absurd z b, fun _ => rfl⟩

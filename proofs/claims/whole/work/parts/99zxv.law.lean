/-! ===== the table won back: the reference ===== -/
theorem x12_won {d : DA} {n c t : Nat → Int} {r p : Nat} {iv : Int → Int} {du : Nat → Nat} {S : Mx} (hT : TG n r) (hR : RD9 d n c t r p) (h2 : 2 ≤ p) (h31 : p ≤ 31) (hiv : IvG p iv) (hb : Cb p r c) (tb : Tb p r t) (hdu : ∀ i, i < r → ptn (fun j => n (ti i j 0)) r = (du i : Nat) ∧ du i < r) (hS : Ms r (d.1 143) S) (bS : Mb p r S) : (L4 n p r iv du (Dq9 p r c) S → X12_isWonBack 113 d = some 1) ∧ (¬ L4 n p r iv du (Dq9 p r c) S → X12_isWonBack 113 d = some 0) := by
  have h5 := hT.1
  have hp0 : 0 < p := by omega
  have S0 : ∀ l, l < r → d.1 (113 + 30) l = S 0 l := fun l hl => by
    have := hS 0 l (by omega) hl
    rw [Nat.mul_zero, Nat.zero_add] at this
    exact this
  have nbE : Nb d 113 := fun j hj => by show 0 ≤ d.1 114 j ∧ d.1 114 j ≤ 9; rw [hR.1]; exact hT.2.1 j hj
  have ept : ∀ i, i < r → X12_partner 113 i d = some ((du i : Nat) : Int) := fun i hi => by
    rw [x12_partner (o := 113) (i := i) hR.2.1 h5.2 nbE (by omega)]
    refine congrArg some ?_
    rw [← (hdu i hi).1]
    refine ptn_congr (fun j hj => ?_)
    show d.1 114 (ti i j 0) = _
    rw [hR.1]
  have Db : 0 ≤ Dq9 p r c ∧ Dq9 p r c < p := em_bd hp0 _
  have esum : X12_sumOf 113 0 d = some (Dq9 p r c) := x12_sum (u := false) h5.2 hR h2 h31 hb tb
  have e1 : X12_isWonBack 113 d = (fs9 r (fun l => if S 0 l = 0 then some (0 : Int) else none)).elim (X12_isWonBack_j27 113 d) some := by
    unfold X12_isWonBack
    refine lpR_cnt r _ (by omega) (fun l hl => ?_) ?_
    · unfold X12_isWonBack_b2
      have b := bS 0 l (by omega) hl
      rw [hR.2.1, gd_pos (by omega), if_neg (by omega), gd_pos (by omega), Int.toNat_natCast, S0 l hl, gd_pos (by omega)]
      by_cases c : S 0 l = 0
      · rw [if_pos c, if_pos c]; rfl
      · rw [if_neg c, if_neg c]; rfl
    · unfold X12_isWonBack_b2
      rw [hR.2.1, gd_pos (by omega), if_pos (by omega)]
  have e2 : (∀ l, l < r → S 0 l ≠ 0) → X12_isWonBack_j27 113 d = (s39 (0 : Int) r (fun i j k => wn9 p r iv S i j (du k) % (p : Int) = (Dq9 p r c * n (ti i j k)) % (p : Int))).elim (some 1) some := fun nz => by
    unfold X12_isWonBack_j27 s39
    rw [b1_pos esum]
    refine lpR_cnt r _ (by omega) (fun i hi => ?_) ?_
    · unfold X12_isWonBack_b35
      rw [hR.2.1, gd_pos (by omega), if_neg (by omega)]
      refine (lpR_cnt r (fun j => fs9 r fun k => if wn9 p r iv S i j (du k) % (p : Int) = (Dq9 p r c * n (ti i j k)) % (p : Int) then none else some 0) (by omega) (fun j hj => ?_) ?_).trans ?_
      · unfold X12_isWonBack_b45
        rw [hR.2.1, gd_pos (by omega), if_neg (by omega)]
        refine (lpR_cnt r (fun k => if wn9 p r iv S i j (du k) % (p : Int) = (Dq9 p r c * n (ti i j k)) % (p : Int) then none else some 0) (by omega) (fun k hk => ?_) ?_).trans ?_
        · unfold X12_isWonBack_b56
          rw [hR.2.1, gd_pos (by omega), if_neg (by omega)]
          have hdk := (hdu k hk).2
          obtain ⟨g, hg⟩ : ∃ g : Nat → Int, g = fun l => (((S i l * S j l) % (p : Int) * S (du k) l) % (p : Int) * iv (S 0 l)) % (p : Int) := ⟨_, rfl⟩
          have gb : ∀ l, l < r → 0 ≤ g l ∧ g l ≤ 30 := fun l hl => by
            have := em_bd hp0 (((S i l * S j l) % (p : Int) * S (du k) l) % (p : Int) * iv (S 0 l))
            rw [hg]
            show 0 ≤ _ % (p : Int) ∧ _ % (p : Int) ≤ 30
            omega
          have sb := sm_bd (lo := 0) (hi := 30) r gb
          have gc : cgm p (sm r g) (wn9 p r iv S i j (du k)) := cgm.sm9 r (fun l hl => by
            rw [hg]
            exact (cgm.em _).tr (((cgm.em _).tr ((cgm.em _).mul (cgm.rf _))).mul (cgm.rf _)))
          refine (lpS9 (r := r) g (by omega) (fun l hl => ?_) ?_).trans ?_
          · show X12_isWonBack_b71 113 _ i j k (sm l g) (l : Int) d = _
            have ei : ((5 * (i : Int)) + (l : Int)).toNat = 5 * i + l := by omega
            have ej : ((5 * (j : Int)) + (l : Int)).toNat = 5 * j + l := by omega
            have ek : ((5 * ((du k : Nat) : Int)) + (l : Int)).toNat = 5 * du k + l := by omega
            have s8 : ∀ a, a < r → d.1 (113 + 30) (5 * a + l) = S a l := fun a ha => hS a l ha hl
            have b1 := bS i l hi hl
            have b2 := bS j l hj hl
            have b3 := bS (du k) l hdk hl
            have b4 := bS 0 l (by omega) hl
            have b5 := nz l hl
            have i1 := (hiv (S 0 l) (by omega) b4.2).1
            have m1 := mlb9 (u := 30) (v := 30) (show 0 ≤ S i l ∧ S i l ≤ 30 by omega) (show 0 ≤ S j l ∧ S j l ≤ 30 by omega)
            have m2 := em_bd hp0 (S i l * S j l)
            have m3 := mlb9 (u := 30) (v := 30) (show 0 ≤ (S i l * S j l) % (p : Int) ∧ (S i l * S j l) % (p : Int) ≤ 30 by omega) (show 0 ≤ S (du k) l ∧ S (du k) l ≤ 30 by omega)
            have m4 := em_bd hp0 ((S i l * S j l) % (p : Int) * S (du k) l)
            have m5 := mlb9 (u := 30) (v := 30) (show 0 ≤ ((S i l * S j l) % (p : Int) * S (du k) l) % (p : Int) ∧ ((S i l * S j l) % (p : Int) * S (du k) l) % (p : Int) ≤ 30 by omega) (show 0 ≤ iv (S 0 l) ∧ iv (S 0 l) ≤ 30 by omega)
            unfold X12_isWonBack_b71
            rw [hR.2.1, gd_pos (by omega), if_neg (by omega), gd_pos (by omega), gd_pos (by omega), ei, ej, s8 i hi, s8 j hj, hR.2.2.1, gd_pos (by unfold dvg; omega), b1_pos (ept k hk), gd_pos (by omega), ek, s8 (du k) hdk, tm_em m1.1, gd_pos (by unfold dvg; omega), gd_pos (by omega), Int.toNat_natCast, S0 l hl, b1_pos (x12_tb hiv hR.2.2.1 h2 h31 (by omega) b4.2), tm_em m3.1, gd_pos (by unfold dvg; omega), lt_pos, tm_em m5.1]
            rw [hg]
            rfl
          · show X12_isWonBack_b71 113 _ i j k (sm r g) (r : Int) d = _
            unfold X12_isWonBack_b71
            rw [hR.2.1, gd_pos (by omega), if_pos (by omega)]
          · show X12_isWonBack_j158_56 113 (Dq9 p r c) i j k (sm r g) d = _
            have nb := hT.2.1 (ti i j k) (ti_lt (by omega) (by omega) (by omega))
            have mb := mlb9 (u := 30) (v := 9) (show 0 ≤ Dq9 p r c ∧ Dq9 p r c ≤ 30 by omega) nb
            have tbd := tm_bd hp0 (sm r g - Dq9 p r c * n (ti i j k))
            unfold X12_isWonBack_j158_56
            rw [b1_pos (x12_of9 hR.1 (by omega) (by omega) (by omega)), hR.2.2.1, gd_pos (by unfold dvg; omega), gd_pos (by omega)]
            have iff : Int.tmod (sm r g - Dq9 p r c * n (ti i j k)) (p : Int) = 0 ↔ wn9 p r iv S i j (du k) % (p : Int) = (Dq9 p r c * n (ti i j k)) % (p : Int) := by
              rw [tm_iff, em_iff hp0]
              constructor
              · intro z
                have : cgm p (sm r g) (Dq9 p r c * n (ti i j k)) := by unfold cgm at z ⊢; rwa [Int.sub_zero] at z
                exact gc.sy.tr this
              · intro z
                have := gc.tr z
                unfold cgm at this ⊢
                rwa [Int.sub_zero]
            by_cases cc : wn9 p r iv S i j (du k) % (p : Int) = (Dq9 p r c * n (ti i j k)) % (p : Int)
            · rw [if_pos (iff.mpr cc), if_pos cc]; rfl
            · rw [if_neg (fun z => cc (iff.mp z)), if_neg cc]; rfl
        · unfold X12_isWonBack_b56
          rw [hR.2.1, gd_pos (by omega), if_pos (by omega)]
        · cases fs9 r (fun k => if wn9 p r iv S i j (du k) % (p : Int) = (Dq9 p r c * n (ti i j k)) % (p : Int) then none else some (0 : Int)) <;> rfl
      · unfold X12_isWonBack_b45
        rw [hR.2.1, gd_pos (by omega), if_pos (by omega)]
      · show _ = (s29 (0 : Int) r (fun j k => wn9 p r iv S i j (du k) % (p : Int) = (Dq9 p r c * n (ti i j k)) % (p : Int))).elim _ _
        unfold s29
        cases fs9 r (fun j => fs9 r fun k => if wn9 p r iv S i j (du k) % (p : Int) = (Dq9 p r c * n (ti i j k)) % (p : Int) then none else some (0 : Int)) <;> rfl
    · unfold X12_isWonBack_b35
      rw [hR.2.1, gd_pos (by omega), if_pos (by omega)]
  rw [e1]
  rcases fs_x (x := (0 : Int)) (Q := fun l => if S 0 l = 0 then some (0 : Int) else none) r (fun l _ => by
    by_cases c : S 0 l = 0
    · right; exact if_pos c
    · left; exact if_neg c) with ⟨a, b⟩ | ⟨a, l, b, c⟩
  · have nz : ∀ l, l < r → S 0 l ≠ 0 := fun l hl z => by
      have := b l hl
      rw [if_pos z] at this; cases this
    rw [a]
    show (_ → X12_isWonBack_j27 113 d = _) ∧ (_ → X12_isWonBack_j27 113 d = _)
    rw [e2 nz]
    rcases s39_c (x := (0 : Int)) (r := r) (G := fun i j k => wn9 p r iv S i j (du k) % (p : Int) = (Dq9 p r c * n (ti i j k)) % (p : Int)) with ⟨a2, b2⟩ | ⟨a2, b2⟩
    · rw [a2]
      exact ⟨fun _ => rfl, fun z => absurd ⟨nz, fun i j k hi hj hk => (em_iff hp0).mp (b2 i j k hi hj hk)⟩ z⟩
    · rw [a2]
      exact ⟨fun z => absurd (fun i j k hi hj hk => (em_iff hp0).mpr (z.2 i j k hi hj hk)) b2, fun _ => rfl⟩
  · rw [a]
    have hz : S 0 l = 0 := by
      by_cases z : S 0 l = 0
      · exact z
      · rw [if_neg z] at c; cases c
    exact ⟨fun z => absurd hz (z.1 l b), fun _ => rfl⟩

/-! ===== the table won back: the class ===== -/
theorem wn_cg {p r : Nat} {iv : Int → Int} {S : Mx} {i j k : Nat} : cgm p (sm r fun l => ((S i l * S j l) % (p : Int) * S k l * iv (S 0 l)) % (p : Int)) (wn9 p r iv S i j k) := cgm.sm9 r (fun l _ => (cgm.em _).tr ((((cgm.em _).mul (cgm.rf _)).mul (cgm.rf _))))
theorem x10_wins {d : DA} {n : Nat → Int} {r p : Nat} {iv : Int → Int} {du : Nat → Nat} {D : Int} {S : Mx} (hT : TG n r) (h6 : d.1 68 6 = r) (h7 : d.1 68 7 = D) (hD : 0 ≤ D ∧ D < p) (hn6 : d.1 6 = n) (hp : d.1 58 0 = p) (h2 : 2 ≤ p) (h31 : p ≤ 31) (hiv : IvG p iv) (h9 : ∀ j : Nat, 1 ≤ j → j < p → d.1 59 j = iv j) (hdu : ∀ i, i < r → d.1 7 i = (du i : Nat) ∧ du i < r) (hS : Ms r (d.1 76) S) (bS : Mb p r S) : (L4 n p r iv du D S → X10_winsBack 68 d = some 1) ∧ (¬ L4 n p r iv du D S → X10_winsBack 68 d = some 0) := by
  have h5 := hT.1
  have hp0 : 0 < p := by omega
  have S0 : ∀ l, l < r → d.1 (68 + 8) l = S 0 l := fun l hl => by
    have := hS 0 l (by omega) hl
    rw [Nat.mul_zero, Nat.zero_add] at this
    exact this
  have e1 : X10_winsBack 68 d = (fs9 r (fun l => if S 0 l = 0 then some (0 : Int) else none)).elim (X10_winsBack_j27 68 d) some := by
    unfold X10_winsBack
    refine lpR_cnt r _ (by omega) (fun l hl => ?_) ?_
    · unfold X10_winsBack_b2
      have b := bS 0 l (by omega) hl
      rw [h6, gd_pos (by omega), if_neg (by omega), gd_pos (by omega), Int.toNat_natCast, S0 l hl, gd_pos (by omega)]
      by_cases c : S 0 l = 0
      · rw [if_pos c, if_pos c]; rfl
      · rw [if_neg c, if_neg c]; rfl
    · unfold X10_winsBack_b2
      rw [h6, gd_pos (by omega), if_pos (by omega)]
  have e2 : (∀ l, l < r → S 0 l ≠ 0) → X10_winsBack_j27 68 d = (s39 (0 : Int) r (fun i j k => wn9 p r iv S i j (du k) % (p : Int) = (D * n (ti i j k)) % (p : Int))).elim (some 1) some := fun nz => by
    have won : ∀ i j k, i < r → j < r → k < r → X10_wonBack 68 i j k d = some (wn9 p r iv S i j k % (p : Int)) := fun i j k hi hj hk => by
      have tb : ∀ l, l < r → 0 ≤ ((S i l * S j l) % (p : Int) * S k l * iv (S 0 l)) % (p : Int) ∧ ((S i l * S j l) % (p : Int) * S k l * iv (S 0 l)) % (p : Int) ≤ 30 := fun l _ => by
        have := em_bd hp0 ((S i l * S j l) % (p : Int) * S k l * iv (S 0 l))
        omega
      have sb := sm_bd (lo := 0) (hi := 30) r tb
      unfold X10_wonBack
      refine (lpS9 (r := r) (fun l => ((S i l * S j l) % (p : Int) * S k l * iv (S 0 l)) % (p : Int)) (by omega) (fun l hl => ?_) ?_).trans ?_
      · show X10_wonBack_b6 68 i j k (sm l _) (l : Int) d = _
        have ei : ((5 * (i : Int)) + (l : Int)).toNat = 5 * i + l := by omega
        have ej : ((5 * (j : Int)) + (l : Int)).toNat = 5 * j + l := by omega
        have ek : ((5 * (k : Int)) + (l : Int)).toNat = 5 * k + l := by omega
        have s8 : ∀ a, a < r → d.1 (68 + 8) (5 * a + l) = S a l := fun a ha => hS a l ha hl
        have b1 := bS i l hi hl
        have b2 := bS j l hj hl
        have b3 := bS k l hk hl
        have b4 := bS 0 l (by omega) hl
        have b5 := nz l hl
        obtain ⟨w, hw⟩ : ∃ w : Nat, S 0 l = w := ⟨(S 0 l).toNat, by omega⟩
        have i1 := (hiv (S 0 l) (by omega) b4.2).1
        have m1 := mlb9 (u := 30) (v := 30) (show 0 ≤ S i l ∧ S i l ≤ 30 by omega) (show 0 ≤ S j l ∧ S j l ≤ 30 by omega)
        have m2 := em_bd hp0 (S i l * S j l)
        have m3 := mlb9 (u := 30) (v := 30) (show 0 ≤ (S i l * S j l) % (p : Int) ∧ (S i l * S j l) % (p : Int) ≤ 30 by omega) (show 0 ≤ S k l ∧ S k l ≤ 30 by omega)
        have m4 := mlb9 (u := 900) (v := 30) (show 0 ≤ (S i l * S j l) % (p : Int) * S k l ∧ (S i l * S j l) % (p : Int) * S k l ≤ 900 by omega) (show 0 ≤ iv (S 0 l) ∧ iv (S 0 l) ≤ 30 by omega)
        have er1 : X3_reduce (68 - 10) (S i l * S j l) d = some ((S i l * S j l) % (p : Int)) := x3_reduce hp h2 h31 (by omega) (by omega)
        have er2 : X3_reduce (68 - 10) ((S i l * S j l) % (p : Int) * S k l * iv (S 0 l)) d = some (((S i l * S j l) % (p : Int) * S k l * iv (S 0 l)) % (p : Int)) := x3_reduce hp h2 h31 (by omega) (by omega)
        have e59 : d.1 (68 - 10 + 1) (S 0 l).toNat = iv (S 0 l) := by
          show d.1 59 _ = _
          rw [hw, Int.toNat_natCast]; exact h9 w (by omega) (by omega)
        unfold X10_wonBack_b6
        rw [h6, gd_pos (by omega), if_neg (by omega), gd_pos (by omega), gd_pos (by omega), ei, ej, s8 i hi, s8 j hj, b1_pos er1, gd_pos (by omega), gd_pos (by omega), Int.toNat_natCast, S0 l hl, gd_pos (by omega), ek, s8 k hk, e59, b1_pos er2, lt_pos]
        rfl
      · show X10_wonBack_b6 68 i j k (sm r _) (r : Int) d = _
        unfold X10_wonBack_b6
        rw [h6, gd_pos (by omega), if_pos (by omega)]
      · show X10_wonBack_j95 68 (sm r fun l => ((S i l * S j l) % (p : Int) * S k l * iv (S 0 l)) % (p : Int)) d = _
        have er : X3_reduce (68 - 10) (sm r fun l => ((S i l * S j l) % (p : Int) * S k l * iv (S 0 l)) % (p : Int)) d = some ((sm r fun l => ((S i l * S j l) % (p : Int) * S k l * iv (S 0 l)) % (p : Int)) % (p : Int)) := x3_reduce hp h2 h31 (by omega) (by omega)
        unfold X10_wonBack_j95
        rw [b1_pos er, (em_iff hp0).mpr wn_cg]
    unfold X10_winsBack_j27 s39
    refine lpR_cnt r _ (by omega) (fun i hi => ?_) ?_
    · unfold X10_winsBack_b29
      rw [h6, gd_pos (by omega), if_neg (by omega)]
      refine (lpR_cnt r (fun j => fs9 r fun k => if wn9 p r iv S i j (du k) % (p : Int) = (D * n (ti i j k)) % (p : Int) then none else some 0) (by omega) (fun j hj => ?_) ?_).trans ?_
      · unfold X10_winsBack_b39
        rw [h6, gd_pos (by omega), if_neg (by omega)]
        refine (lpR_cnt r (fun k => if wn9 p r iv S i j (du k) % (p : Int) = (D * n (ti i j k)) % (p : Int) then none else some 0) (by omega) (fun k hk => ?_) ?_).trans ?_
        · unfold X10_winsBack_b49
          have e7 : d.1 (68 - 63 + 2) k = (du k : Nat) := (hdu k hk).1
          have nb := hT.2.1 (ti i j k) (ti_lt (by omega) (by omega) (by omega))
          have mb := mlb9 (u := 30) (v := 9) (show 0 ≤ D ∧ D ≤ 30 by omega) nb
          have er : X3_reduce (68 - 10) (D * n (ti i j k)) d = some ((D * n (ti i j k)) % (p : Int)) := x3_reduce hp h2 h31 (by omega) (by omega)
          have eat : X8_at (68 - 63) i j k d = some (n (ti i j k)) := x8_at9 hn6 (by omega) (by omega) (by omega)
          have q1 := em_bd hp0 (wn9 p r iv S i j (du k))
          have q2 := em_bd hp0 (D * n (ti i j k))
          rw [h6, gd_pos (by omega), if_neg (by omega), gd_pos (by omega), Int.toNat_natCast, e7, b1_pos (won i j (du k) hi hj (hdu k hk).2), b1_pos eat, h7, b1_pos er, gd_pos (by omega)]
          by_cases c : wn9 p r iv S i j (du k) % (p : Int) = (D * n (ti i j k)) % (p : Int)
          · rw [if_pos c, if_pos c]; rfl
          · rw [if_neg c, if_neg c]; rfl
        · unfold X10_winsBack_b49
          rw [h6, gd_pos (by omega), if_pos (by omega)]
        · cases fs9 r (fun k => if wn9 p r iv S i j (du k) % (p : Int) = (D * n (ti i j k)) % (p : Int) then none else some (0 : Int)) <;> rfl
      · unfold X10_winsBack_b39
        rw [h6, gd_pos (by omega), if_pos (by omega)]
      · show _ = (s29 (0 : Int) r (fun j k => wn9 p r iv S i j (du k) % (p : Int) = (D * n (ti i j k)) % (p : Int))).elim _ _
        unfold s29
        cases fs9 r (fun j => fs9 r fun k => if wn9 p r iv S i j (du k) % (p : Int) = (D * n (ti i j k)) % (p : Int) then none else some (0 : Int)) <;> rfl
    · unfold X10_winsBack_b29
      rw [h6, gd_pos (by omega), if_pos (by omega)]
  rw [e1]
  rcases fs_x (x := (0 : Int)) (Q := fun l => if S 0 l = 0 then some (0 : Int) else none) r (fun l _ => by
    by_cases c : S 0 l = 0
    · right; exact if_pos c
    · left; exact if_neg c) with ⟨a, b⟩ | ⟨a, l, b, c⟩
  · have nz : ∀ l, l < r → S 0 l ≠ 0 := fun l hl z => by
      have := b l hl
      rw [if_pos z] at this; cases this
    rw [a]
    show (_ → X10_winsBack_j27 68 d = _) ∧ (_ → X10_winsBack_j27 68 d = _)
    rw [e2 nz]
    rcases s39_c (x := (0 : Int)) (r := r) (G := fun i j k => wn9 p r iv S i j (du k) % (p : Int) = (D * n (ti i j k)) % (p : Int)) with ⟨a2, b2⟩ | ⟨a2, b2⟩
    · rw [a2]
      exact ⟨fun _ => rfl, fun z => absurd ⟨nz, fun i j k hi hj hk => (em_iff hp0).mp (b2 i j k hi hj hk)⟩ z⟩
    · rw [a2]
      exact ⟨fun z => absurd (fun i j k hi hj hk => (em_iff hp0).mpr (z.2 i j k hi hj hk)) b2, fun _ => rfl⟩
  · rw [a]
    have hz : S 0 l = 0 := by
      by_cases z : S 0 l = 0
      · exact z
      · rw [if_neg z] at c; cases c
    exact ⟨fun z => absurd hz (z.1 l b), fun _ => rfl⟩

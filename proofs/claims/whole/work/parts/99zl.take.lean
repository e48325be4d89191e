/-! ===== all the class does to arrange its groups ===== -/
theorem x2_arrange {d : DA} {lr w : Nat} (hlr : d.1 46 0 = lr) (h2 : 2 ≤ lr) (h4 : lr ≤ 4) (hw : w ≤ 1) : ∃ f, X2_arrange 46 w d = some ((), lsG (wA d 48 f) (aI (dl9 lr w) lr (pre (d.1 49) (fun _ => -1) 64, d.1 50, 0) (lr - 1))) ∧ ∀ a, a < lr → f a = ((dl9 lr w a : Nat) : Int) := by
  have j61 : ∀ f, (∀ a, a < lr → f a = ((dl9 lr w a : Nat) : Int)) → X2_arrange_j61 46 (wA d 48 f) = some ((), lsG (wA d 48 f) (aI (dl9 lr w) lr (pre (d.1 49) (fun _ => -1) 64, d.1 50, 0) (lr - 1))) := fun f hf => by
    unfold X2_arrange_j61
    rw [lt_pos, bd_pos (fillI (by omega))]
    have e : wA (wI (wA d 48 f) 46 8 0) (46 + 3) (pre ((wI (wA d 48 f) 46 8 0).1 (46 + 3)) (fun _ => -1) 64) = lsG (wA d 48 f) (pre (d.1 49) (fun _ => -1) 64, d.1 50, 0) := by
      refine lsG_eq rfl (fun c y1 y2 y3 => ?_) (fun j y => ?_) ?_ ?_ ?_
      · rw [wA_ne y2, wI_ne y1]
      · rw [wA_ne (by decide), wI_at, fu_n y]
      · rw [wA_ne (by decide), wI_at, fu_s]; rfl
      · show (wA (wI (wA d 48 f) 46 8 0) 49 (pre ((wI (wA d 48 f) 46 8 0).1 49) (fun _ => -1) 64)).1 49 = _
        rw [wA_at, wI_ne (by decide), wA_ne (by decide)]
      · rw [wA_ne (by decide), wI_ne (by decide), wA_ne (by decide)]
    rw [e]
    have hp : ∀ q, q < 64 → -1 ≤ pre (d.1 49) (fun _ => -1) 64 q ∧ pre (d.1 49) (fun _ => -1) 64 q ≤ 10 := fun q hq => by rw [pre_lt hq]; omega
    refine x2_arr3 (dl := dl9 lr w) (by rw [wA_ne (by decide)]; exact hlr) (by omega) h4 (fun a ha => ⟨by rw [wA_at]; exact hf a ha, ?_⟩) ⟨hp, Nat.zero_le _⟩
    unfold dl9
    by_cases c1 : w = 1
    · rw [if_pos c1]
      by_cases c2 : a = lr - 2
      · rw [if_pos c2]; omega
      · rw [if_neg c2]
        by_cases c3 : a = lr - 1
        · rw [if_pos c3]; omega
        · rw [if_neg c3]; omega
    · rw [if_neg c1]; omega
  have e1 : X2_arrange 46 w d = X2_arrange_j23 46 w (wA d 48 (pre (d.1 48) (fun i => (i : Int)) lr)) := by
    unfold X2_arrange
    refine lpE_row (d := d) 48 lr (fun i => (i : Int)) (by omega) (fun i hi => ?_) ?_
    · show X2_arrange_b2 46 w (i : Int) _ = _
      unfold X2_arrange_b2
      have : (wA d 48 (pre (d.1 48) (fun i => (i : Int)) i)).1 46 0 = lr := by rw [wA_ne (by decide)]; exact hlr
      rw [this, gd_pos (by omega), if_neg (by omega), gd_pos (by omega), lt_pos, Int.toNat_natCast]
    · show X2_arrange_b2 46 w (lr : Int) _ = _
      unfold X2_arrange_b2
      have : (wA d 48 (pre (d.1 48) (fun i => (i : Int)) lr)).1 46 0 = lr := by rw [wA_ne (by decide)]; exact hlr
      rw [this, gd_pos (by omega), if_pos (by omega)]
  rw [e1]
  unfold X2_arrange_j23
  by_cases c0 : w = 0
  · have hf : ∀ a, a < lr → pre (d.1 48) (fun i => (i : Int)) lr a = ((dl9 lr w a : Nat) : Int) := fun a ha => by
      rw [pre_lt ha]; unfold dl9; rw [if_neg (by omega)]
    exact ⟨_, by rw [gd_pos (by omega), if_pos (by omega)]; exact j61 _ hf, hf⟩
  · have hf : ∀ a, a < lr → fu (fu (pre (d.1 48) (fun i => (i : Int)) lr) (lr - 2) ((lr : Int) - 1)) (lr - 1) ((lr : Int) - 2) a = ((dl9 lr w a : Nat) : Int) := fun a ha => by
      unfold dl9
      rw [if_pos (by omega), fu_app, fu_app, pre_lt ha]
      by_cases c1 : a = lr - 1
      · rw [if_pos c1, if_neg (by omega), if_pos c1]; omega
      · rw [if_neg c1]
        by_cases c2 : a = lr - 2
        · rw [if_pos c2, if_pos c2]; omega
        · rw [if_neg c2, if_neg c2, if_neg c1]
    refine ⟨_, ?_, hf⟩
    have y : ∀ f, (wA d 48 f).1 46 0 = lr := fun f => by rw [wA_ne (by decide)]; exact hlr
    rw [gd_pos (by omega), if_neg (by omega), y, gd_pos (by omega), lt_pos, show ((lr : Int) - 2).toNat = lr - 2 by omega, show (46 + 2 : Nat) = 48 from rfl, wA_wI, y, gd_pos (by omega), lt_pos, show ((lr : Int) - 1).toNat = lr - 1 by omega, wA_wI]
    exact j61 _ hf

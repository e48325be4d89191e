/-! ===== the reference tells its groups: the loops ===== -/
theorem Gb.bJ9 {dl : Nat → Nat} {lr i j0 m : Nat} {s : Gm} (h4 : lr ≤ 4) (h : Gb m s) : ∀ n, m + 4 * n ≤ 400 → Gb (m + 4 * n) (bJ dl lr i j0 s n) := by
  intro n
  induction n with
  | zero => intro _; exact h
  | succ n ih => intro hn; exact ((ih (by omega)).bK9 (lr - (j0 + n)) (by omega)).up (by omega)
theorem Gb.bI9 {dl : Nat → Nat} {lr m : Nat} {s : Gm} (h4 : lr ≤ 4) (h : Gb m s) : ∀ n, m + 16 * n ≤ 300 → Gb (m + 16 * n) (bI dl lr s n) := by
  intro n
  induction n with
  | zero => intro _; exact h
  | succ n ih => intro hn; exact (Gb.bJ9 h4 (ih (by omega)) (lr - (1 + n)) (by omega)).up (by omega)
theorem x12_arr3 {D : DA} {lr w : Nat} {s : Gm} (h2 : 2 ≤ lr) (h4 : lr ≤ 4) (hw : w ≤ 1) (hs : Gb 0 s) : lpE (fun q => X12_tellGroups_b28 113 lr w q.1 q.2) (1, mdG D s) (fun e => some ((), e)) = some ((), mdG D (bI (dl9 lr w) lr s (lr - 1))) := by
  have inner : ∀ (i j m : Nat) (s : Gm), i < lr → j < lr → m ≤ 400 → Gb m s → ∀ {Y : Type} (k : DA → Option Y), lpE (fun q => X12_tellGroups_b46 113 lr w i j q.1 q.2) ((j : Int), mdG D s) k = k (mdG D (bK (dl9 lr w) i j j s (lr - j))) := fun i j m s hi hj hm hs Y k => by
    refine lpE_for (fun n => (((j + n : Nat) : Int), mdG D (bK (dl9 lr w) i j j s n))) (lr - j) _ rfl (by omega) (fun n hn => ?_) ?_
    · show X12_tellGroups_b46 113 lr w i j ((j + n : Nat) : Int) _ = _
      rw [x12_gstep h2 h4 hw hi hj (by omega) (hs.bK9 n (by omega))]
      rfl
    · show X12_tellGroups_b46 113 lr w i j ((j + (lr - j) : Nat) : Int) _ = _
      unfold X12_tellGroups_b46
      rw [gd_pos (by omega), if_pos (by omega)]
  have mid : ∀ (i m : Nat) (s : Gm), i < lr → m ≤ 300 → Gb m s → ∀ {Y : Type} (k : DA → Option Y), lpE (fun q => X12_tellGroups_b36 113 lr w i q.1 q.2) ((i : Int), mdG D s) k = k (mdG D (bJ (dl9 lr w) lr i i s (lr - i))) := fun i m s hi hm hs Y k => by
    refine lpE_for (fun n => (((i + n : Nat) : Int), mdG D (bJ (dl9 lr w) lr i i s n))) (lr - i) _ rfl (by omega) (fun n hn => ?_) ?_
    · show X12_tellGroups_b36 113 lr w i ((i + n : Nat) : Int) _ = _
      unfold X12_tellGroups_b36
      rw [gd_pos (by omega), if_neg (by omega), inner i (i + n) (m + 4 * n) _ hi (by omega) (by omega) (Gb.bJ9 h4 hs n (by omega))]
      rfl
    · show X12_tellGroups_b36 113 lr w i ((i + (lr - i) : Nat) : Int) _ = _
      unfold X12_tellGroups_b36
      rw [gd_pos (by omega), if_pos (by omega)]
  refine lpE_for (fun n => (((1 + n : Nat) : Int), mdG D (bI (dl9 lr w) lr s n))) (lr - 1) _ rfl (by omega) (fun n hn => ?_) ?_
  · show X12_tellGroups_b28 113 lr w ((1 + n : Nat) : Int) _ = _
    unfold X12_tellGroups_b28
    rw [gd_pos (by omega), if_neg (by omega), mid (1 + n) (0 + 16 * n) _ (by omega) (by omega) (Gb.bI9 h4 hs n (by omega))]
    refine congrArg some (congrArg Sum.inl (Prod.ext ?_ rfl))
    show ((1 + n : Nat) : Int) + 1 = ((1 + (n + 1) : Nat) : Int)
    omega
  · show X12_tellGroups_b28 113 lr w ((1 + (lr - 1) : Nat) : Int) _ = _
    unfold X12_tellGroups_b28
    rw [gd_pos (by omega), if_pos (by omega)]
/-- all the reference does to tell its groups -/
theorem x12_tellGroups {d : DA} {lr w : Nat} (h2 : 2 ≤ lr) (h4 : lr ≤ 4) (hw : w ≤ 1) : X12_tellGroups 113 lr w d = some ((), mdG d (bI (dl9 lr w) lr (pre (d.1 131) (fun _ => -1) 125, 0) (lr - 1))) := by
  unfold X12_tellGroups
  refine (lpE_row (d := d) 131 125 (fun _ => -1) (by omega) (fun i hi => ?_) ?_).trans ?_
  · show X12_tellGroups_b2 113 lr w (i : Int) _ = _
    unfold X12_tellGroups_b2
    rw [gd_pos (by omega), if_neg (by omega), gd_pos (by omega), lt_pos, Int.toNat_natCast]
  · show X12_tellGroups_b2 113 lr w ((125 : Nat) : Int) _ = _
    unfold X12_tellGroups_b2
    rw [gd_pos (by omega), if_pos (by omega)]
  · unfold X12_tellGroups_j21
    rw [lt_pos]
    have e : wI (wA d 131 (pre (d.1 131) (fun _ => -1) 125)) 113 36 0 = mdG d (pre (d.1 131) (fun _ => -1) 125, 0) := by
      refine Prod.ext (funext fun c => ?_) rfl
      unfold mdG
      by_cases y1 : c = 113
      · subst y1
        rw [wI_at, wA_ne (by decide), wA_ne (by decide), wI_at]; rfl
      · rw [wI_ne y1]
        by_cases y2 : c = 131
        · subst y2; rw [wA_at, wA_at]
        · rw [wA_ne y2, wA_ne y2, wI_ne y1]
    rw [e]
    have hp : ∀ q, q < 125 → -1 ≤ pre (d.1 131) (fun _ => -1) 125 q ∧ pre (d.1 131) (fun _ => -1) 125 q ≤ 1000 := fun q hq => by rw [pre_lt hq]; omega
    exact x12_arr3 h2 h4 hw ⟨hp, Nat.le_refl _⟩

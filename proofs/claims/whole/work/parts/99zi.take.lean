/-! ===== the class arranges its groups: the loops ===== -/
theorem mk6_bd {ix : Nat → Nat → Nat → Nat} {f : Nat → Int} {a b c q : Nat} {v lo hi : Int} (h : lo ≤ f q ∧ f q ≤ hi) (hv : lo ≤ v ∧ v ≤ hi) : lo ≤ mk6 ix f a b c v q ∧ mk6 ix f a b c v q ≤ hi := by
  have st : ∀ (g : Nat → Int) (k : Nat), (lo ≤ g q ∧ g q ≤ hi) → (lo ≤ fu g k v q ∧ fu g k v q ≤ hi) := fun g k hg => by
    rw [fu_app]
    by_cases e : q = k
    · rw [if_pos e]; exact hv
    · rw [if_neg e]; exact hg
  unfold mk6
  exact st _ _ (st _ _ (st _ _ (st _ _ (st _ _ (st _ _ h)))))
theorem aS_def {dl : Nat → Nat} {i j k : Nat} {s : Gr} : aS dl i j k s = if s.1 (st9 i j k) = -1 then (if 10 ≤ s.2.2 then s else (mk6 st9 (mk6 st9 s.1 i j k (s.2.2 : Int)) (dl i) (dl j) (dl k) (s.2.2 : Int), fu s.2.1 s.2.2 ((st9 i j k : Nat) : Int), s.2.2 + 1)) else s := rfl
theorem Gd.aS9 {dl : Nat → Nat} {i j k : Nat} {s : Gr} (h : Gd s) : Gd (aS dl i j k s) := by
  rw [aS_def]
  by_cases c1 : s.1 (st9 i j k) = -1
  · rw [if_pos c1]
    by_cases c2 : 10 ≤ s.2.2
    · rw [if_pos c2]; exact h
    · rw [if_neg c2]
      have hn := h.2
      exact ⟨fun q hq => mk6_bd (mk6_bd (h.1 q hq) (by omega)) (by omega), by show s.2.2 + 1 ≤ 10; omega⟩
  · rw [if_neg c1]; exact h
theorem Gd.aK9 {dl : Nat → Nat} {i j k0 : Nat} {s : Gr} (h : Gd s) : ∀ m, Gd (aK dl i j k0 s m) := by
  intro m
  induction m with
  | zero => exact h
  | succ m ih => exact ih.aS9
theorem Gd.aJ9 {dl : Nat → Nat} {lr i j0 : Nat} {s : Gr} (h : Gd s) : ∀ m, Gd (aJ dl lr i j0 s m) := by
  intro m
  induction m with
  | zero => exact h
  | succ m ih => exact ih.aK9 _
theorem Gd.aI9 {dl : Nat → Nat} {lr : Nat} {s : Gr} (h : Gd s) : ∀ m, Gd (aI dl lr s m) := by
  intro m
  induction m with
  | zero => exact h
  | succ m ih => exact ih.aJ9 _
theorem x2_arr3 {D : DA} {lr : Nat} {dl : Nat → Nat} {s : Gr} (hlr : D.1 46 0 = lr) (h2 : 1 ≤ lr) (h4 : lr ≤ 4) (hd : ∀ a, a < lr → D.1 48 a = (dl a : Nat) ∧ dl a < lr) (hs : Gd s) : lpE (fun q => X2_arrange_b76 46 q.1 q.2) (1, lsG D s) (fun e => some ((), e)) = some ((), lsG D (aI dl lr s (lr - 1))) := by
  have e0 : ∀ s, (lsG D s).1 46 0 = lr := fun s => by rw [lsG_46 (by decide)]; exact hlr
  have inner : ∀ (i j : Nat) (s : Gr), i < lr → j < lr → Gd s → ∀ {Y : Type} (k : DA → Option Y), lpE (fun q => X2_arrange_b97 46 i j q.1 q.2) ((j : Int), lsG D s) k = k (lsG D (aK dl i j j s (lr - j))) := fun i j s hi hj hs Y k => by
    refine lpE_for (fun m => (((j + m : Nat) : Int), lsG D (aK dl i j j s m))) (lr - j) _ rfl (by omega) (fun m hm => ?_) ?_
    · show X2_arrange_b97 46 i j ((j + m : Nat) : Int) _ = _
      rw [x2_step (dl := dl) hlr h4 hd hi hj (by omega) (hs.aK9 m)]
      rfl
    · show X2_arrange_b97 46 i j ((j + (lr - j) : Nat) : Int) _ = _
      unfold X2_arrange_b97
      rw [e0, gd_pos (by omega), if_pos (by omega)]
  have mid : ∀ (i : Nat) (s : Gr), i < lr → Gd s → ∀ {Y : Type} (k : DA → Option Y), lpE (fun q => X2_arrange_b86 46 i q.1 q.2) ((i : Int), lsG D s) k = k (lsG D (aJ dl lr i i s (lr - i))) := fun i s hi hs Y k => by
    refine lpE_for (fun m => (((i + m : Nat) : Int), lsG D (aJ dl lr i i s m))) (lr - i) _ rfl (by omega) (fun m hm => ?_) ?_
    · show X2_arrange_b86 46 i ((i + m : Nat) : Int) _ = _
      unfold X2_arrange_b86
      rw [e0, gd_pos (by omega), if_neg (by omega), inner i (i + m) _ hi (by omega) (hs.aJ9 m)]
      rfl
    · show X2_arrange_b86 46 i ((i + (lr - i) : Nat) : Int) _ = _
      unfold X2_arrange_b86
      rw [e0, gd_pos (by omega), if_pos (by omega)]
  refine lpE_for (fun m => (((1 + m : Nat) : Int), lsG D (aI dl lr s m))) (lr - 1) _ rfl (by omega) (fun m hm => ?_) ?_
  · show X2_arrange_b76 46 ((1 + m : Nat) : Int) _ = _
    unfold X2_arrange_b76
    rw [e0, gd_pos (by omega), if_neg (by omega), mid (1 + m) _ (by omega) (hs.aI9 m)]
    refine congrArg some (congrArg Sum.inl (Prod.ext ?_ rfl))
    show ((1 + m : Nat) : Int) + 1 = ((1 + (m + 1) : Nat) : Int)
    omega
  · show X2_arrange_b76 46 ((1 + (lr - 1) : Nat) : Int) _ = _
    unfold X2_arrange_b76
    rw [e0, gd_pos (by omega), if_pos (by omega)]

/-! ===== solve: what the reference answers ===== -/
theorem x12_six9 {d : DA} {a b c e g h : Nat} : X12_six a b c e g h d = some ((six a b c e g h : Nat) : Int) := by
  unfold X12_six six
  refine congrArg some ?_
  omega
theorem plq_lt {q : Nat} (h : q < 8) : plq q < 729 := by unfold plq six; omega
theorem plq_inj {q q' : Nat} (h : q < 8) (h' : q' < 8) (e : plq q = plq q') : q = q' := by unfold plq six at e; omega
theorem x12_unk2 {d0 : DA} {n : Nat → Int} (hT : TG n 2) (h14 : d0.1 114 = n) (hr : d0.1 113 1 = ((2 : Nat) : Int)) : ∃ d, X12_tellUnknowns 113 d0 = some ((), d) ∧ d.2 = d0.2 ∧ (∀ c j, c ≠ 140 → (c ≠ 113 ∨ j ≠ 58) → d.1 c j = d0.1 c j) ∧ d.1 113 58 = (cn9 (trq n) 8 : Int) ∧ ∀ j, j < cn9 (trq n) 8 → d.1 140 j = (plq (pk9 (trq n) 8 j) : Int) := by
  obtain ⟨P, hP⟩ : ∃ P : Nat → DA → Prop, P = fun q d => d.2 = d0.2 ∧ (∀ c j, c ≠ 140 → (c ≠ 113 ∨ j ≠ 58) → d.1 c j = d0.1 c j) ∧ d.1 113 58 = (cn9 (trq n) q : Int) ∧ ∀ y, y < q → trq n y = true → d.1 140 (cn9 (trq n) y) = (plq y : Int) := ⟨_, rfl⟩
  have rr : ∀ {q e}, P q e → e.1 113 1 = ((2 : Nat) : Int) := fun he => by
    rw [hP] at he
    rw [he.2.1 113 1 (by decide) (Or.inr (by decide))]; exact hr
  have e0 : P 0 (wI d0 113 58 0) := by
    rw [hP]
    refine ⟨rfl, fun c j z1 z2 => ?_, by rw [wI_at, fu_s]; rfl, fun y hy => absurd hy (Nat.not_lt_zero _)⟩
    by_cases e : c = 113
    · subst e; rw [wI_at, fu_n (by omega)]
    · rw [wI_ne e]
  obtain ⟨d, l1, l2⟩ := lp222 (b1 := fun q => X12_addUnknowns_b3 113 1 1 1 q.1 q.2) (b2 := fun i q => X12_addUnknowns_b15 113 1 1 1 i q.1 q.2) (b3 := fun i j q => X12_addUnknowns_b27 113 1 1 1 i j q.1 q.2) (P := P) (fun i e hi hI => by
      show X12_addUnknowns_b3 113 1 1 1 (i : Int) e = _
      unfold X12_addUnknowns_b3
      rw [rr hI, gd_pos (by omega), if_neg (by omega)]) (fun e hI => by
      show X12_addUnknowns_b3 113 1 1 1 ((2 : Nat) : Int) e = _
      unfold X12_addUnknowns_b3
      rw [rr hI, gd_pos (by decide), if_pos (by decide)]) (fun i j e hi hj hI => by
      show X12_addUnknowns_b15 113 1 1 1 i (j : Int) e = _
      unfold X12_addUnknowns_b15
      rw [rr hI, gd_pos (by omega), if_neg (by omega)]) (fun i e hi hI => by
      show X12_addUnknowns_b15 113 1 1 1 i ((2 : Nat) : Int) e = _
      unfold X12_addUnknowns_b15
      rw [rr hI, gd_pos (by decide), if_pos (by decide)]) (fun i j k e hi hj hk hI => by
      have hr2 := rr hI
      rw [hP] at hI
      obtain ⟨i1, i2, i3, i4⟩ := hI
      have e114 : e.1 114 = n := by rw [← h14]; exact funext fun q => i2 114 q (by decide) (Or.inl (by decide))
      have nb : Nb e 113 := fun q hq => by show 0 ≤ e.1 114 q ∧ e.1 114 q ≤ 9; rw [e114]; exact hT.2.1 q hq
      have it := x12_isTree (d := e) (a := 1) (b := 1) (c := 1) (e := i) (g := j) (h := k) nb (by omega) (by omega) (by omega) (by omega) (by omega) (by omega)
      rw [e114] at it
      have tq := trq_of (n := n) (d := i) (e := j) (g := k) hi hj hk
      have kq := cn9_le (P := trq n) (4 * i + 2 * j + k)
      show ∃ e', X12_addUnknowns_b27 113 1 1 1 i j (k : Int) e = _ ∧ _
      unfold X12_addUnknowns_b27
      rw [hr2, gd_pos (by omega), if_neg (by omega)]
      by_cases t : isTr n 1 1 1 i j k
      · have it1 : X12_isTree 113 1 1 1 i j k e = some 1 := it.1 t
        have z := tq.mpr t
        have sx : X12_six 1 1 1 i j k e = some ((six 1 1 1 i j k : Nat) : Int) := x12_six9
        rw [b1_pos it1, gd_pos (by decide), if_neg (by decide), b1_pos sx, i3, gd_pos (by omega), lt_pos, Int.toNat_natCast, lt_pos]
        have e58 : (wI e (113 + 27) (cn9 (trq n) (4 * i + 2 * j + k)) ((six 1 1 1 i j k : Nat) : Int)).1 113 58 = (cn9 (trq n) (4 * i + 2 * j + k) : Int) := by rw [wI_ne (by decide)]; exact i3
        rw [e58]
        refine ⟨_, rfl, ?_⟩
        rw [hP]
        refine ⟨i1, fun c q z1 z2 => ?_, ?_, fun y hy hz => ?_⟩
        · by_cases e : c = 113
          · subst e; rw [wI_at, fu_n (by omega), wI_ne (by decide)]; exact i2 113 q z1 z2
          · rw [wI_ne e]; exact (congrFun (wI_ne (show c ≠ 113 + 27 from z1)) q).trans (i2 c q z1 z2)
        · rw [wI_at, fu_s, cn9_s, if_pos z]; rfl
        · rw [wI_ne (by decide)]
          show (wI e 140 _ _).1 140 _ = _
          rw [wI_at, fu_app]
          by_cases ey : y = 4 * i + 2 * j + k
          · rw [if_pos (by rw [ey]), ey]
            unfold plq
            rw [show (4 * i + 2 * j + k) / 4 = i by omega, show (4 * i + 2 * j + k) / 2 % 2 = j by omega, show (4 * i + 2 * j + k) % 2 = k by omega]
          · have := cn9_lt (P := trq n) (x := y) (m := 4 * i + 2 * j + k) (by omega) hz
            rw [if_neg (by omega)]; exact i4 y (by omega) hz
      · have it0 : X12_isTree 113 1 1 1 i j k e = some 0 := it.2 t
        have z : ¬ trq n (4 * i + 2 * j + k) = true := fun y => t (tq.mp y)
        rw [b1_pos it0, gd_pos (by decide), if_pos rfl]
        refine ⟨e, rfl, ?_⟩
        rw [hP]
        refine ⟨i1, i2, by rw [cn9_s, if_neg z]; exact i3, fun y hy hz => ?_⟩
        by_cases ey : y = 4 * i + 2 * j + k
        · rw [ey] at hz; exact absurd hz z
        · exact i4 y (by omega) hz) (fun i j e hi hj hI => by
      show X12_addUnknowns_b27 113 1 1 1 i j ((2 : Nat) : Int) e = _
      unfold X12_addUnknowns_b27
      rw [rr hI, gd_pos (by decide), if_pos (by decide)]) e0
  have hA : X12_addUnknowns 113 1 1 1 (wI d0 113 58 0) = some ((), d) := by
    unfold X12_addUnknowns
    rw [l1]
  have hr2 := rr l2
  have hr0 := rr e0
  rw [hP] at l2
  obtain ⟨a1, a2, a3, a4⟩ := l2
  refine ⟨d, ?_, a1, a2, a3, fun j hj => ?_⟩
  · unfold X12_tellUnknowns
    rw [lt_pos]
    refine lpE_for (fun i => if i = 0 then ((1 : Int), wI d0 113 58 0) else ((2 : Int), d)) 1 d rfl (by decide) (fun i hi => ?_) ?_
    · have : i = 0 := by omega
      subst this
      show X12_tellUnknowns_b7 113 1 (wI d0 113 58 0) = some (.inl ((2 : Int), d))
      unfold X12_tellUnknowns_b7
      rw [hr0, gd_pos (by decide), if_neg (by decide)]
      refine lpE_for (fun i => if i = 0 then ((1 : Int), wI d0 113 58 0) else ((2 : Int), d)) 1 d rfl (by decide) (fun i hi => ?_) ?_
      · have : i = 0 := by omega
        subst this
        show X12_tellUnknowns_b17 113 1 1 (wI d0 113 58 0) = some (.inl ((2 : Int), d))
        unfold X12_tellUnknowns_b17
        rw [hr0, gd_pos (by decide), if_neg (by decide)]
        refine lpE_for (fun i => if i = 0 then ((1 : Int), wI d0 113 58 0) else ((2 : Int), d)) 1 d rfl (by decide) (fun i hi => ?_) ?_
        · have : i = 0 := by omega
          subst this
          show X12_tellUnknowns_b27 113 1 1 1 (wI d0 113 58 0) = some (.inl ((2 : Int), d))
          unfold X12_tellUnknowns_b27
          rw [hr0, gd_pos (by decide), if_neg (by decide), bd_pos hA]
          rfl
        · show X12_tellUnknowns_b27 113 1 1 2 d = _
          unfold X12_tellUnknowns_b27
          rw [hr2, gd_pos (by decide), if_pos (by decide)]
      · show X12_tellUnknowns_b17 113 1 2 d = _
        unfold X12_tellUnknowns_b17
        rw [hr2, gd_pos (by decide), if_pos (by decide)]
    · show X12_tellUnknowns_b7 113 2 d = _
      unfold X12_tellUnknowns_b7
      rw [hr2, gd_pos (by decide), if_pos (by decide)]
  · have k := pk9_ok (P := trq n) hj
    have := a4 _ k.1 k.2.1
    rw [k.2.2] at this
    exact this
theorem x12_unk1 {d0 : DA} (hr : d0.1 113 1 = ((1 : Nat) : Int)) : X12_tellUnknowns 113 d0 = some ((), wI d0 113 58 0) := by
  unfold X12_tellUnknowns
  rw [lt_pos]
  refine lpE_for (fun _ => ((1 : Int), wI d0 113 58 0)) 0 _ rfl (by decide) (fun i hi => absurd hi (Nat.not_lt_zero _)) ?_
  show X12_tellUnknowns_b7 113 1 (wI d0 113 58 0) = _
  unfold X12_tellUnknowns_b7
  have : (wI d0 113 58 0).1 113 1 = ((1 : Nat) : Int) := by rw [wI_at, fu_n (by decide)]; exact hr
  rw [this, gd_pos (by decide), if_pos (by decide)]
/-- the reference's answers, once it has gone through all rows -/
theorem x12_solA {d : DA} {n : Nat → Int} {r p u am : Nat} {fst : Nat → Int} {i : Int} (hT : TG n r) (h2r : r ≤ 2) (hf : fre n r) (h13 : p ≤ 13) (hR : RfT n r p d) (hu : u ≤ 5) (ham : am ≤ 400000) (hi : inR i) (hs : ∀ e : DA, e.1 114 = n → e.1 113 1 = r → e.1 113 4 = p → (∀ q, q < 729 → 0 ≤ e.1 117 q ∧ e.1 117 q < p) → ∃ e6 e8, X12_tellUnknowns 113 e = some ((), e6) ∧ X12_solveOn 113 12 0 (wI e6 113 59 0) = some ((), e8) ∧ e8.2 = e.2 ∧ (∀ c j, (c < 136 ∨ 142 ≤ c) → (c ≠ 113 ∨ (j ≠ 50 ∧ j ≠ 51 ∧ j ≠ 52 ∧ j ≠ 58 ∧ j ≠ 59)) → (c ≠ 117 ∨ 729 ≤ j) → e8.1 c j = e.1 c j) ∧ e8.1 113 58 = u ∧ e8.1 113 59 = am ∧ (am ≠ 0 → ∀ j, j < u → e8.1 141 j = fst j)) : (i = -1 → MA9 (X12_solve 113 i d) d 0 (am : Int)) ∧ (i ≠ -1 → ((0 ≤ i ∧ i < u ∧ (am : Int) ≠ 0) → MA9 (X12_solve 113 i d) d 0 (fst i.toNat)) ∧ (¬ (0 ≤ i ∧ i < u ∧ (am : Int) ≠ 0) → MA9 (X12_solve 113 i d) d 1 0)) := by
  obtain ⟨r1, r2, r3, r4, r5, r6⟩ := hR
  generalize hd1 : wI d 113 0 0 = d1
  have o1 : ∀ q, q ≠ 113 → d1.1 q = d.1 q := fun q z => by rw [← hd1, wI_ne z]
  have n1 : ∀ j, j ≠ 0 → d1.1 113 j = d.1 113 j := fun j z => by rw [← hd1, wI_at, fu_n z]
  have z0 : d1.1 113 0 = 0 := by rw [← hd1, wI_at, fu_s]
  have q1 : d1.1 113 1 = r := by rw [n1 1 (by decide)]; exact r2
  have q4 : d1.1 113 4 = p := by rw [n1 4 (by decide)]; exact r3
  have q114 : d1.1 114 = n := by rw [o1 114 (by decide)]; exact r1
  have fr := (x12_free (d := d1) (r := r) (by rw [q114]; exact hT)).1 (by rw [q114]; exact hf)
  have e1 : X12_solve 113 i d = X12_solve_j71 113 i (wA d1 142 (pre (d1.1 142) (d1.1 117) 729)) := by
    unfold X12_solve
    rw [lt_pos, hd1, q1, gd_pos (by omega), if_neg (by omega), b1_pos fr, gd_pos (by decide), if_neg (by decide), q4, gd_pos (by omega), if_pos (by omega)]
    refine lpE_row (d := d1) 142 729 (d1.1 117) (by omega) (fun k hk => ?_) ?_
    · show X12_solve_b46 113 i (k : Int) _ = _
      unfold X12_solve_b46
      have : (wA d1 142 (pre (d1.1 142) (d1.1 117) k)).1 (113 + 4) k = d1.1 117 k := by
        show (wA d1 142 _).1 117 k = _
        rw [wA_ne (by decide)]
      rw [gd_pos (by omega), if_neg (by omega), gd_pos (by omega), gd_pos (by omega), lt_pos, Int.toNat_natCast, this]
    · show X12_solve_b46 113 i ((729 : Nat) : Int) _ = _
      unfold X12_solve_b46
      rw [gd_pos (by decide), if_pos (by decide)]
  generalize hd2 : wA d1 142 (pre (d1.1 142) (d1.1 117) 729) = d2 at e1
  have o2 : ∀ q, q ≠ 142 → d2.1 q = d1.1 q := fun q z => by rw [← hd2, wA_ne z]
  have k142 : ∀ j, j < 729 → d2.1 142 j = d.1 117 j := fun j hj => by rw [← hd2, wA_at, pre_lt hj, o1 117 (by decide)]
  obtain ⟨e6, e8, t1, t2, t3, t4, t5, t6, t7⟩ := hs d2 (by rw [o2 114 (by decide)]; exact q114) (by rw [o2 113 (by decide)]; exact q1) (by rw [o2 113 (by decide)]; exact q4) (fun q hq => by rw [o2 117 (by decide), o1 117 (by decide)]; exact r4 q hq)
  have e2 : X12_solve_j71 113 i d2 = X12_solve_j112 113 i (wA e8 117 (pre (e8.1 117) (e8.1 142) 729)) := by
    unfold X12_solve_j71
    rw [bd_pos t1, lt_pos, bd_pos t2]
    refine lpE_row (d := e8) 117 729 (e8.1 142) (by omega) (fun k hk => ?_) ?_
    · show X12_solve_b87 113 i (k : Int) _ = _
      unfold X12_solve_b87
      have : (wA e8 117 (pre (e8.1 117) (e8.1 142) k)).1 (113 + 29) k = e8.1 142 k := by
        show (wA e8 117 _).1 142 k = _
        rw [wA_ne (by decide)]
      rw [gd_pos (by omega), if_neg (by omega), gd_pos (by omega), gd_pos (by omega), lt_pos, Int.toNat_natCast, this]
    · show X12_solve_b87 113 i ((729 : Nat) : Int) _ = _
      unfold X12_solve_b87
      rw [gd_pos (by decide), if_pos (by decide)]
  rw [e1, e2]
  generalize hd9 : wA e8 117 (pre (e8.1 117) (e8.1 142) 729) = d9
  have o9 : ∀ q, q ≠ 117 → d9.1 q = e8.1 q := fun q z => by rw [← hd9, wA_ne z]
  have sm9 : Sm d d9 := fun c j hrel => by
    by_cases e : c = 117
    · subst e
      rw [← hd9, wA_at]
      by_cases hj : j < 729
      · rw [pre_lt hj, t4 142 j (Or.inr (Nat.le_refl _)) (Or.inl (by decide)) (Or.inl (by decide))]; exact k142 j hj
      · show (if j < 729 then _ else e8.1 117 j) = _
        rw [if_neg hj, t4 117 j (by decide) (Or.inl (by decide)) (Or.inr (by omega)), o2 117 (by decide), o1 117 (by decide)]
    · rw [o9 c e, t4 c j ?_ ?_ (Or.inl e)]
      · by_cases e4 : c = 142
        · subst e4; cases hrel
        · rw [o2 c e4]
          by_cases e3 : c = 113
          · subst e3
            exact n1 j (fun z => by subst z; cases hrel)
          · rw [o1 c e3]
      · rcases Nat.lt_or_ge c 136 with y | y
        · exact Or.inl y
        · rcases Nat.lt_or_ge c 142 with y2 | y2
          · exfalso
            rcases (show c = 136 ∨ c = 137 ∨ c = 138 ∨ c = 139 ∨ c = 140 ∨ c = 141 by omega) with rfl | rfl | rfl | rfl | rfl | rfl <;> cases hrel
          · exact Or.inr y2
      · by_cases e3 : c = 113
        · subst e3
          exact Or.inr ⟨fun z => by (subst z; cases hrel), fun z => by (subst z; cases hrel), fun z => by (subst z; cases hrel), fun z => by (subst z; cases hrel), fun z => by (subst z; cases hrel)⟩
        · exact Or.inl e3
  have h9 : d9.2 161 = d.2 161 := by
    rw [← hd9]
    show e8.2 161 = _
    rw [t3, ← hd2]
    show d1.2 161 = _
    rw [← hd1]; rfl
  have c9 : d9.1 113 0 = 0 := by rw [o9 113 (by decide), t4 113 0 (by decide) (Or.inr (by decide)) (Or.inl (by decide)), o2 113 (by decide)]; exact z0
  have s9 : d9.1 113 59 = am := by rw [o9 113 (by decide)]; exact t6
  have u9 : d9.1 113 58 = u := by rw [o9 113 (by decide)]; exact t5
  have fst9 : am ≠ 0 → ∀ j, j < u → d9.1 141 j = fst j := fun z j hj => by rw [o9 141 (by decide)]; exact t7 z j hj
  have j154 : X12_solve_j154 113 d9 = some (0, wI d9 113 0 1) := rfl
  have bad : MA9 (X12_solve_j154 113 d9) d 1 0 := ⟨_, j154, by rw [wI_at, fu_s], sm9.tr (Sm.wI rfl), h9⟩
  unfold X12_solve_j112
  rw [gd_pos (by omega)]
  refine ⟨fun e => ?_, fun e => ?_⟩
  · rw [if_pos e, s9]
    exact ⟨d9, rfl, c9, sm9, h9⟩
  · rw [if_neg e, s9, gd_pos (by omega)]
    by_cases ca : (am : Int) ≤ 0
    · rw [if_pos ca]
      exact ⟨fun z => by omega, fun _ => bad⟩
    · rw [if_neg ca, u9]
      have ii := x12_isIn (d := d9) (v := i) (a := 0) (b := (u : Int) - 1) hi (by decide) (by omega)
      by_cases ci : 0 ≤ i ∧ i < u
      · rw [b1_pos (ii.1 (by omega)), gd_pos (by decide), if_neg (by decide), gd_pos (by omega)]
        have : d9.1 (113 + 28) i.toNat = fst i.toNat := fst9 (by omega) _ (by omega)
        rw [this]
        exact ⟨fun _ => ⟨d9, rfl, c9, sm9, h9⟩, fun z => absurd ⟨ci.1, ci.2, by omega⟩ z⟩
      · rw [b1_pos (ii.2 (by omega)), gd_pos (by decide), if_pos rfl]
        exact ⟨fun z => absurd ⟨z.1, z.2.1⟩ ci, fun _ => bad⟩

/-! ===== dual, size, ways, count ===== -/
theorem x8_free {d : DA} {o r : Nat} (hr : d.1 o 0 = r) (h5 : r ≤ 5) (hn : Nb d o) : (fre (d.1 (o + 1)) r → X8_isFree o d = some 1) ∧ (¬ fre (d.1 (o + 1)) r → X8_isFree o d = some 0) := by
  have e := x8_isFree hr h5 hn
  refine ⟨fun h => ?_, fun h => ?_⟩
  · have hf : isFr d o r = none := by
      refine (fs9_none r).mpr (fun i hi => (fs9_none r).mpr (fun j hj => (fs9_none r).mpr (fun k hk => ?_)))
      rw [if_pos]
      exact h i j k hi hj hk
    rw [e, hf]; rfl
  · cases hf : isFr d o r with
    | none =>
      exfalso
      apply h
      intro i j k hi hj hk
      have h1 := (fs9_none r).mp ((fs9_none r).mp ((fs9_none r).mp hf i hi) j hj) k hk
      split at h1
      · next hc => exact hc
      · cases h1
    | some z =>
      have : z = 0 := by
        refine fs9_P (Q := fun z => z = 0) hf (fun i y hi h => fs9_P (Q := fun z => z = 0) h (fun j y hj h => fs9_P (Q := fun z => z = 0) h (fun k y hk h => ?_)))
        split at h
        · cases h
        · exact (Option.some.inj h).symm
      rw [e, hf, this]; rfl
theorem x12_free {d : DA} {r : Nat} (hT : TG (d.1 114) r) : (fre (d.1 114) r → X12_isFree 113 d = some 1) ∧ (¬ fre (d.1 114) r → X12_isFree 113 d = some 0) := by
  have e := x12_isFree (d := d) (o := 113) hT.2.1
  refine ⟨fun h => ?_, fun h => ?_⟩
  · have hf : fs9 125 (fun j => if d.1 (113 + 1) j ≤ 1 then none else some (0 : Int)) = none := by
      refine (fs9_none 125).mpr (fun j hj => ?_)
      rw [if_pos]
      show d.1 114 j ≤ 1
      by_cases c : j / 25 < r ∧ j / 5 % 5 < r ∧ j % 5 < r
      · have := h (j / 25) (j / 5 % 5) (j % 5) c.1 c.2.1 c.2.2
        unfold ti at this
        rw [show 25 * (j / 25) + 5 * (j / 5 % 5) + j % 5 = j by omega] at this
        exact this
      · have := hT.2.2.1 (j / 25) (j / 5 % 5) (j % 5) (by omega) (by omega) (by omega) (by omega)
        unfold ti at this
        rw [show 25 * (j / 25) + 5 * (j / 5 % 5) + j % 5 = j by omega] at this
        omega
    rw [e, hf]; rfl
  · cases hf : fs9 125 (fun j => if d.1 (113 + 1) j ≤ 1 then none else some (0 : Int)) with
    | none =>
      exfalso
      apply h
      intro i j k hi hj hk
      have hr := hT.1
      have h1 := (fs9_none 125).mp hf (ti i j k) (by unfold ti; omega)
      split at h1
      · next hc => exact hc
      · cases h1
    | some z =>
      have : z = 0 := by
        refine fs9_P (Q := fun z => z = 0) hf (fun i y hi h => ?_)
        split at h
        · cases h
        · exact (Option.some.inj h).symm
      rw [e, hf, this]; rfl
def dualV (d : DA) (o r : Nat) (v : Int) : Int := (fwd d o r).elim (ptn (fun j => nn d o v.toNat j 0) r) (fun _ => -1)
theorem dualV_eq {d d' : DA} {o o' r : Nat} {v : Int} (h : nn d o = nn d' o') : dualV d o r v = dualV d' o' r v := by unfold dualV; rw [fwd_eq h, h]
theorem dualV_bd {d : DA} {o r : Nat} {v : Int} : -1 ≤ dualV d o r v ∧ dualV d o r v ≤ r := by
  have := ptn_bd (fun j => nn d o v.toNat j 0) r
  unfold dualV
  cases fwd d o r with
  | none => show -1 ≤ ptn (fun j => nn d o v.toNat j 0) r ∧ ptn (fun j => nn d o v.toNat j 0) r ≤ r; omega
  | some i => show -1 ≤ (-1 : Int) ∧ (-1 : Int) ≤ r; omega
theorem c_dual {x : XS} {v : Int} (hv : inR v) {r : Nat} (hr : x.1.1 5 0 = r) (h5 : r ≤ 5) (hn : Nb x.1 5) : (kd r v → ∃ x2, Ans (X11_dual v x) x 1 0 (dualV x.1 5 r v) x2 ∧ Kp x x2) ∧ (¬ kd r v → Ans (X11_dual v x) x 1 1 0 (xT x)) := by
  have hK := x11_needKind (x := x) hr h5 hv
  have ef := x8_fwd hr h5 hn
  unfold X11_dual
  refine ⟨fun z => ?_, fun z => ⟨Or.inr ⟨rfl, ?_⟩, Nat.le_succ _, Nat.le_add_right _ _⟩⟩
  · rw [xb_ok (hK.1 z) ⟨Nat.le_refl _, Nat.le_refl _⟩]
    unfold dualV
    unfold kd at z
    cases hf : fwd x.1 5 r with
    | none =>
      rw [hf] at ef
      rw [bd_pos ef, lt_pos]
      simp (disch := omega) only [gd_pos, if_pos, if_neg, lt_pos, reduceIte]
      refine ⟨xD x (duD x.1 5 r r), ⟨Or.inl ⟨rfl, ?_⟩, Nat.le_refl _, Nat.le_refl _⟩, Kp.D duD_sm⟩
      have : (duD x.1 5 r r).1 7 (Int.toNat v) = ptn (fun j => nn x.1 5 v.toNat j 0) r := by
        unfold duD
        show (wA x.1 7 _).1 7 (Int.toNat v) = _
        rw [wA_at, if_pos (by omega)]
      show some (Sum.inl ((duD x.1 5 r r).1 7 (Int.toNat v)), _) = _
      rw [this]; rfl
    | some i =>
      have := fwd_bd hf
      rw [hf] at ef
      rw [bd_pos ef, lt_pos]
      simp (disch := omega) only [gd_pos, if_pos, if_neg, lt_pos, reduceIte]
      exact ⟨_, ⟨Or.inl ⟨rfl, rfl⟩, Nat.le_refl _, Nat.le_refl _⟩, Kp.D duD_sm⟩
  · rw [xb_er (hK.2 z) ⟨Nat.le_succ _, Nat.le_add_right _ _⟩]
theorem m_dual {d : DA} {v : Int} (hv : inR v) {r : Nat} (hr : d.1 113 1 = r) (h5 : r ≤ 5) (hn : Nb d 113) : (kd r v → MA (X12_dual 113 v d) d 0 (dualV d 113 r v)) ∧ (¬ kd r v → MA (X12_dual 113 v d) d 1 0) := by
  have hS : Sm d (wI d 113 0 0) := Sm.wI rfl
  have hr0 : (wI d 113 0 0).1 113 1 = r := hr
  have hn0 : Nb (wI d 113 0 0) 113 := hn
  have hV : dualV (wI d 113 0 0) 113 r v = dualV d 113 r v := dualV_eq rfl
  have hI := x12_isKind (v := v) hr0 h5 hv
  have ef := x12_fwd hr0 h5 hn0
  unfold X12_dual
  rw [lt_pos]
  refine ⟨fun z => ?_, fun z => ?_⟩
  · rw [b1_pos (hI.1 z), gd_pos (by omega), if_neg (by decide), ← hV]
    unfold X12_hasDuals dualV
    unfold kd at z
    cases hf : fwd (wI d 113 0 0) 113 r with
    | none =>
      have ef' : X12_firstWithoutDual 113 (wI d 113 0 0) = some (-1) := by rw [ef, hf]; rfl
      have ep := x12_partner (i := v.toNat) hr0 h5 hn0 (by omega)
      rw [show ((v.toNat : Nat) : Int) = v by omega] at ep
      rw [b1_pos ef', gd_pos (by omega), if_pos rfl, b1_pos rfl, gd_pos (by omega), if_neg (by decide), b1_pos ep]
      exact ⟨_, rfl, rfl, hS, rfl⟩
    | some i =>
      have := fwd_bd hf
      have ef' : X12_firstWithoutDual 113 (wI d 113 0 0) = some (125 * (i : Int)) := by rw [ef, hf]; rfl
      rw [b1_pos ef', gd_pos (by omega), if_neg (by omega), b1_pos rfl, gd_pos (by omega), if_pos rfl]
      exact ⟨_, rfl, rfl, hS, rfl⟩
  · rw [b1_pos (hI.2 z)]
    simp (disch := omega) only [gd_pos, if_pos, if_neg, lt_pos, reduceIte]
    rw [bd_pos m_fail]
    exact ⟨_, rfl, rfl, hS.tr (Sm.wI rfl), rfl⟩
theorem c_size {x : XS} {v : Int} (hv : inR v) {r : Nat} (hr : x.1.1 5 0 = r) (h1 : 1 ≤ r) (h5 : r ≤ 5) (hn : Nb x.1 5) : (kd r v → ∃ x2, Ans (X11_size v x) x 1 0 (szA (nn x.1 5) r 100 v.toNat) x2 ∧ Kp x x2) ∧ (¬ kd r v → Ans (X11_size v x) x 1 1 0 (xT x)) := by
  have hK := x11_needKind (x := x) hr h5 hv
  unfold X11_size
  refine ⟨fun z => ?_, fun z => ⟨Or.inr ⟨rfl, ?_⟩, Nat.le_succ _, Nat.le_add_right _ _⟩⟩
  · rw [xb_ok (hK.1 z) ⟨Nat.le_refl _, Nat.le_refl _⟩]
    unfold kd at z
    obtain ⟨d', e, f, g, h, hd⟩ := x8_sizeOf (v := v.toNat) hr h1 h5 hn (by omega)
    rw [show ((v.toNat : Nat) : Int) = v by omega] at e
    rw [bd_pos e, lt_pos]
    refine ⟨_, ⟨Or.inl ⟨rfl, rfl⟩, Nat.le_refl _, Nat.le_refl _⟩, Kp.D ?_⟩
    rw [hd]
    exact (Sm.wA (fun _ => rfl)).tr (Sm.wB.tr Sm.wB)
  · rw [xb_er (hK.2 z) ⟨Nat.le_succ _, Nat.le_add_right _ _⟩]
theorem szA_eq {d d' : DA} {o o' r : Nat} (h : nn d o = nn d' o') : szA (nn d o) r = szA (nn d' o') r := by rw [h]

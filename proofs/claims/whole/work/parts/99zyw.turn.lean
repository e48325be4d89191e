/-! ===== turned: both sides ===== -/
theorem RfT.eq {n : Nat → Int} {r p : Nat} {d d' : DA} (h : RfT n r p d) (e : d'.1 = d.1) : RfT n r p d' := by
  unfold RfT at h ⊢
  rw [e]; exact h
theorem trn_go {Z : Type} {k : Nat} {x y : XS} {ci am st r p : Nat} {i kk : Int} (hy : Inv k y) (hk : k < 512) (hcx : xc x ≤ xc y ∧ xs x ≤ xs y) (eC : X11_turned ci i kk x = X11_turned_j89 ci i kk 1 y) (h5 : r ≤ 5) (hr5 : y.1.1 5 0 = r) (hr : y.1.1 113 1 = r) (hp : y.1.1 113 4 = p) (hci : ci < 5) (h69 : y.1.1 69 ci = am) (h70 : y.1.1 70 ci = st) (hle : st + am ≤ xzf y) (hK : TK9 ci am st (y.1.1 71) (y.1.1 114) r p) (hi : inR i) (hkk : inR kk) {f : XS → Option Z} {bad : XS → Option Z} :
    ∃ x', (bd (L_turned (ci : Int) i kk x) fun r7 x8 =>
      gd (xc x ≤ xc x8 ∧ xs x ≤ xs x8) <|
      bd (X12_turned 113 (ci : Int) i kk x8.1) fun x10 d9 =>
      lt9 (xD x8 d9) fun x11 =>
      b1 (X12_thrown 113 x11.1) fun x12 =>
      gd (inR x12 ∧ inR r7) <|
      if x12 = r7 then (gd (inR r7) <|
      if r7 = 0 then (gd (ix 0 1) <|
      gd (inR x10) <|
      gd (inR64 (x11.1.2 161 (Int.toNat 0)) ∧ inR64 x10) <|
      gd (inR (lcmp9 (x11.1.2 161 (Int.toNat 0)) x10)) <|
      if (lcmp9 (x11.1.2 161 (Int.toNat 0)) x10) = 0 then f x11 else bad x11) else f x11) else bad x11) = f x' ∧ Inv (k + 1) x' := by
  have hz := hy.z.2.2.1
  have hR := hy.ti9 hr hp
  obtain ⟨a1, a2⟩ := x11_t89 (y := y) (ci := ci) (am := am) (st := st) (r := r) (p := p) (i := i) (k := kk) h5 hr5 hci h69 h70 hle hz.2 hK hi hkk
  have amb : am ≤ 270000 := by omega
  by_cases c1 : i = -1
  · have e1 := eC.trans (a1 c1)
    refine both3 (x1 := y) (en := 1) (f := f) (bad := bad) hy hk (x2 := y) (v := (am : Int)) (c := 0) ⟨Or.inl ⟨rfl, e1⟩, hcx.1, hcx.2⟩ (by omega) (Kp.rf y) (Or.inl rfl) (w := (am : Int)) (by omega) (fun _ => rfl) (M := fun d => X12_turned 113 (ci : Int) i kk d) (fun d hd => ?_)
    exact (hK.2 d (hR.eq hd) i kk hi hkk).1 c1
  · by_cases c2 : 0 ≤ i ∧ i < am ∧ 0 ≤ kk ∧ kk < r
    · have e1 := eC.trans ((a2 c1).1 c2)
      obtain ⟨v, hv⟩ : ∃ v : Int, v = if kk = 0 then 1 else y.1.1 71 (st + i.toNat) / 32 ^ (kk.toNat - 1) % 32 := ⟨_, rfl⟩
      have vb : 0 ≤ v ∧ v < 32 := by
        rw [hv]
        split
        · omega
        · exact ⟨Int.emod_nonneg _ (by decide), Int.emod_lt_of_pos _ (by decide)⟩
      rw [← hv] at e1
      refine both3 (x1 := y) (en := 1) (f := f) (bad := bad) hy hk (x2 := y) (v := v) (c := 0) ⟨Or.inl ⟨rfl, e1⟩, hcx.1, hcx.2⟩ (by omega) (Kp.rf y) (Or.inl rfl) (w := v) (by omega) (fun _ => rfl) (M := fun d => X12_turned 113 (ci : Int) i kk d) (fun d hd => ?_)
      have := ((hK.2 d (hR.eq hd) i kk hi hkk).2 c1).1 c2
      rw [← hv] at this
      exact this
    · have e1 := eC.trans ((a2 c1).2 c2)
      have hT : xc y ≤ xc (xT y) ∧ xs y ≤ xs (xT y) := ⟨Nat.le_succ _, Nat.le_add_right _ _⟩
      refine both3 (x1 := y) (en := 1) (f := f) (bad := bad) hy hk (x2 := xT y) (v := 0) (c := 1) ⟨Or.inr ⟨rfl, e1⟩, Nat.le_trans hcx.1 hT.1, Nat.le_trans hcx.2 hT.2⟩ (by decide) (Kp.T y) (Or.inr rfl) (w := 0) (by decide) (fun h9 => by omega) (M := fun d => X12_turned 113 (ci : Int) i kk d) (fun d hd => ?_)
      exact ((hK.2 d (hR.eq hd) i kk hi hkk).2 c1).2 c2
/-- turns that can't be: both sides -/
theorem trn_no {Z : Type} {k : Nat} {x y : XS} {ci r p q : Nat} {C : Nat → Nat → Int} {i kk : Int} (hy : Inv k y) (hk : k < 512) (hcx : xc x ≤ xc y ∧ xs x ≤ xs y) (eC : X11_turned ci i kk x = X11_turned_j89 ci i kk 0 y) (hT : TG (y.1.1 114) r) (hr : y.1.1 113 1 = r) (hp : y.1.1 113 4 = p) (hpp : 2 ≤ p ∧ p ≤ 31) (hq : q ≤ 5) (hC : ChL (y.1.1 114) r p q C) (hci : ci < q) (hno : 4 < r ∨ fwd y.1 113 r ≠ none) (hi : inR i) (hkk : inR kk) {f : XS → Option Z} {bad : XS → Option Z} :
    ∃ x', (bd (L_turned (ci : Int) i kk x) fun r7 x8 =>
      gd (xc x ≤ xc x8 ∧ xs x ≤ xs x8) <|
      bd (X12_turned 113 (ci : Int) i kk x8.1) fun x10 d9 =>
      lt9 (xD x8 d9) fun x11 =>
      b1 (X12_thrown 113 x11.1) fun x12 =>
      gd (inR x12 ∧ inR r7) <|
      if x12 = r7 then (gd (inR r7) <|
      if r7 = 0 then (gd (ix 0 1) <|
      gd (inR x10) <|
      gd (inR64 (x11.1.2 161 (Int.toNat 0)) ∧ inR64 x10) <|
      gd (inR (lcmp9 (x11.1.2 161 (Int.toNat 0)) x10)) <|
      if (lcmp9 (x11.1.2 161 (Int.toNat 0)) x10) = 0 then f x11 else bad x11) else f x11) else bad x11) = f x' ∧ Inv (k + 1) x' := by
  have h5 := hT.1
  -- the reference
  have ref : ∀ d : DA, d.1 = y.1.1 → ∃ d4, X12_turned 113 (ci : Int) i kk d = X12_turned_j43 113 i kk 0 d4 ∧ Sm d d4 ∧ d4.2 = d.2 ∧ d4.1 113 0 = 0 := fun d hd => by
    have y1 : (wI d 113 0 0).1 113 1 = r := by rw [wI_at, fu_n (by decide), hd]; exact hr
    have y4 : (wI d 113 0 0).1 113 4 = p := by rw [wI_at, fu_n (by decide), hd]; exact hp
    have y14 : (wI d 113 0 0).1 114 = y.1.1 114 := by rw [wI_ne (by decide), hd]
    obtain ⟨d4, f1, f2, f3, f4, -⟩ := x12_findC (d := wI d 113 0 0) (n := y.1.1 114) (w := (ci : Int)) hT y14 y1 y4 hpp.1 hpp.2 (by omega) hq hC
    have cw : (0 : Int) ≤ (ci : Int) ∧ (ci : Int) < q := by omega
    rw [if_pos cw] at f1
    have z14 : d4.1 114 = y.1.1 114 := funext fun j => by rw [f3 114 j (by decide) (Or.inl (by decide)), y14]
    have z1 : d4.1 113 1 = r := by rw [f3 113 1 (by decide) (Or.inr (by decide))]; exact y1
    have z0 : d4.1 113 0 = 0 := by rw [f3 113 0 (by decide) (Or.inr (by decide)), wI_at, fu_s]
    refine ⟨d4, ?_, (Sm.wI rfl).tr (findC_sm f3), f2, z0⟩
    unfold X12_turned
    rw [lt_pos, gd_pos (by omega), if_neg (by omega), bd_pos f1, gd_pos (by decide), if_neg (by decide), z1, gd_pos (by omega)]
    by_cases c4 : 4 < r
    · rw [if_pos (by omega)]; rfl
    · rw [if_neg (by omega)]
      have hf : fwd d4 113 r ≠ none := by
        rcases hno with z | z
        · exact absurd z c4
        · have : fwd d4 113 r = fwd y.1 113 r := fwd_eq (by
            funext a b c
            show d4.1 114 _ = y.1.1 114 _
            rw [z14])
          rw [this]; exact z
      rw [b1_pos ((x12_hasD hT z14 z1).2 hf), gd_pos (by decide), if_pos rfl]; rfl
  by_cases c1 : i = -1
  · have e1 : X11_turned ci i kk x = some (.inl (-1), y) := by
      rw [eC]
      unfold X11_turned_j89
      rw [gd_pos (by omega), if_pos c1, gd_pos (by decide), if_pos rfl]
    refine both3 (x1 := y) (en := 1) (f := f) (bad := bad) hy hk (x2 := y) (v := -1) (c := 0) ⟨Or.inl ⟨rfl, e1⟩, hcx.1, hcx.2⟩ (by decide) (Kp.rf y) (Or.inl rfl) (w := -1) (by decide) (fun _ => rfl) (M := fun d => X12_turned 113 (ci : Int) i kk d) (fun d hd => ?_)
    obtain ⟨d4, g1, g2, g3, g4⟩ := ref d hd
    refine ⟨d4, ?_, g4, g2, by rw [g3]⟩
    show X12_turned 113 (ci : Int) i kk d = _
    rw [g1]
    unfold X12_turned_j43
    rw [gd_pos (by omega), if_pos c1, gd_pos (by decide), if_pos rfl]
    unfold X12_turned_j60
    rw [gd_pos (by decide), if_pos rfl]
  · have e1 : X11_turned ci i kk x = some (.inr 1, xT y) := by
      rw [eC]
      unfold X11_turned_j89
      rw [gd_pos (by omega), if_neg c1, gd_pos (by decide), if_pos rfl]
    have hT9 : xc y ≤ xc (xT y) ∧ xs y ≤ xs (xT y) := ⟨Nat.le_succ _, Nat.le_add_right _ _⟩
    refine both3 (x1 := y) (en := 1) (f := f) (bad := bad) hy hk (x2 := xT y) (v := 0) (c := 1) ⟨Or.inr ⟨rfl, e1⟩, Nat.le_trans hcx.1 hT9.1, Nat.le_trans hcx.2 hT9.2⟩ (by decide) (Kp.T y) (Or.inr rfl) (w := 0) (by decide) (fun h9 => by omega) (M := fun d => X12_turned 113 (ci : Int) i kk d) (fun d hd => ?_)
    obtain ⟨d4, g1, g2, g3, g4⟩ := ref d hd
    refine ⟨wI d4 113 0 1, ?_, by rw [wI_at, fu_s], g2.tr (Sm.wI rfl), by show d4.2 161 = _; rw [g3]⟩
    show X12_turned 113 (ci : Int) i kk d = _
    rw [g1]
    unfold X12_turned_j43
    rw [gd_pos (by omega), if_neg c1, gd_pos (by decide), if_pos rfl]; rfl

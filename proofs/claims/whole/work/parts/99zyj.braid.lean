/-! ===== braid: the step ===== -/
section
variable {n F R : Nat → Int} {r p a c : Nat} {iv : Int → Int} {w : Nat → Int} {L : Nat}
theorem x11_bn {d : DA} {C : Nat → Int} {ci : Nat} {t : Nat → Int} (hr : d.1 5 0 = r) (h3 : r ≤ 3) (hp : d.1 58 0 = p) (h2 : 2 ≤ p) (h31 : p ≤ 31) (hci : ci < 5) (hC : ∀ k, k < r → d.1 62 (5 * ci + k) = C k) (bC : Cb p r C) (ht : ∀ k, k < r → d.1 102 k = t k ∧ 0 ≤ t k ∧ t k < p) : X11_braidNumber 1 ci d = some ((sm r fun k => C k * t k) % (p : Int)) := by
  have sb := sm_bd (f := fun k => C k * t k) (lo := 0) (hi := 900) r (fun k hk => by
    have b1 := bC k hk
    have b2 := ht k hk
    have := mlb9 (u := 30) (v := 30) (show 0 ≤ C k ∧ C k ≤ 30 by omega) (show 0 ≤ t k ∧ t k ≤ 30 by omega)
    omega)
  have s0 : 0 ≤ sm r fun k => C k * t k := by have := sb.1; omega
  have s1 : (sm r fun k => C k * t k) ≤ 2700 := by have := sb.2; omega
  have hr' : d.1 ((1 + 1) + 3) 0 = r := hr
  unfold X11_braidNumber
  refine (lpS9 (r := r) (fun k => C k * t k) (by omega) (fun k hk => ?_) ?_).trans ?_
  · show X11_braidNumber_b4 1 ci (sm k _) (k : Int) d = _
    have ea : X1_at (1 + 60) ci k d = some (C k) := by
      unfold X1_at
      rw [gd_pos (by omega), show (5 * (ci : Int) + (k : Int)).toNat = 5 * ci + k by omega]
      exact congrArg some (hC k hk)
    have et : d.1 ((1 + 100) + 1) k = t k := (ht k hk).1
    unfold X11_braidNumber_b4
    rw [hr', gd_pos (by omega), if_neg (by omega), b1_pos ea, gd_pos (by omega), lt_pos, Int.toNat_natCast, et]
    rfl
  · show X11_braidNumber_b4 1 ci (sm r _) (r : Int) d = _
    unfold X11_braidNumber_b4
    rw [hr', gd_pos (by omega), if_pos (by omega)]
  · show X11_braidNumber_j46 1 (sm r fun k => C k * t k) d = _
    unfold X11_braidNumber_j46
    have rd : X3_reduce (1 + 57) (sm r fun k => C k * t k) d = some ((sm r fun k => C k * t k) % (p : Int)) := x3_reduce hp h2 h31 s0 (by omega)
    rw [b1_pos rd]
theorem x11_b46 {x : XS} {C : Nat → Int} {v2 v3 : Int} (h : BD9 n F R r p iv a) (hF : fre n r) (hX : BX9 x.1 n F R r p iv w L) (hv : (v3 = 0 ∧ ∃ ci : Nat, v2 = ci ∧ ci < r) ∨ (v3 = 1 ∧ (∃ ci : Nat, v2 = ci ∧ ci < 5 ∧ ∀ k, k < r → x.1.1 62 (5 * ci + k) = C k) ∧ Cb p r C) ∨ v3 = 2) : ∃ v d, X11_braid_j46 a v2 v3 x = some (.inl v, xD x d) ∧ FrB 101 x.1 d ∧ BrV n F R r p iv a w L C v2 v3 v := by
  have hT := h.1
  have h3 := h.2.1
  have hp := h.2.2.1.1
  have h31 := h.2.2.1.2
  have hp0 : 0 < p := by omega
  have nb : Nb x.1 5 := fun j hj => by show 0 ≤ x.1.1 6 j ∧ x.1.1 6 j ≤ 9; rw [hX.2.1]; exact hT.2.1 j hj
  have ht := (x6_hasTrees (d := x.1) (r := r) hX.1 (by omega) nb).1 (by rw [hX.2.1]; exact ⟨h3, hF⟩)
  obtain ⟨v, d, c1, c2, c3⟩ := x0_run h hX
  have v3r : inR v3 := by rcases hv with ⟨rfl, -⟩ | ⟨rfl, -⟩ | rfl <;> decide
  unfold X11_braid_j46
  rw [b1_pos ht, gd_pos (by decide), if_neg (by decide), bd_pos c1, lt_pos]
  rcases c3 with ⟨rfl, c3, c4⟩ | ⟨rfl, c3⟩
  · rw [gd_pos (by decide), if_neg (by decide), gd_pos v3r]
    have hO : ∀ y, y < r → bOk n F R r p iv a y := fun y hy => (c3 y hy).1
    rcases hv with ⟨rfl, ci, rfl, hci⟩ | ⟨rfl, ⟨ci, rfl, hci, hv1⟩, hv2⟩ | rfl
    · rw [if_pos rfl, gd_pos (by omega), Int.toNat_natCast]
      have : (xD x d).1.1 102 ci = trc9 n F R r p iv a w L ci := (c3 ci hci).2
      rw [this]
      exact ⟨_, _, rfl, c2, fun z => absurd hO z, fun _ => ⟨fun _ => by rw [Int.toNat_natCast], fun z => by omega, fun z => by omega⟩⟩
    · have hX2 := hX.fr c2 (by decide)
      have bn := x11_bn (d := d) (r := r) (p := p) (C := C) (ci := ci) (t := trc9 n F R r p iv a w L) hX2.1 h3 hX2.2.2.2.2.1 hp h31 hci (fun k hk => by rw [c2.2 62 (by decide) (by omega)]; exact hv1 k hk) hv2 (fun k hk => ⟨(c3 k hk).2, em_bd hp0 _⟩)
      have bn' : X11_braidNumber 1 ci (xD x d).1 = _ := bn
      rw [if_neg (by decide), gd_pos (by decide), if_pos rfl, b1_pos bn']
      exact ⟨_, _, rfl, c2, fun z => absurd hO z, fun _ => ⟨fun z => by omega, fun _ => rfl, fun z => by omega⟩⟩
    · have cb := c4.or
      have e1 : (xD x d).1.1 101 1 = d.1 101 1 := rfl
      rw [if_neg (by decide), gd_pos (by decide), if_neg (by decide), e1, gd_pos (by omega)]
      by_cases cv : d.1 101 1 = 0
      · rw [if_pos cv]
        exact ⟨_, _, rfl, c2, fun z => absurd hO z, fun _ => ⟨fun z => by omega, fun z => by omega, fun _ => ⟨fun z => by have := c4.1 z; omega, fun _ => rfl⟩⟩⟩
      · rw [if_neg cv]
        exact ⟨_, _, rfl, c2, fun z => absurd hO z, fun _ => ⟨fun z => by omega, fun z => by omega, fun _ => ⟨fun _ => rfl, fun z => absurd (c4.2 z) cv⟩⟩⟩
  · rw [gd_pos (by decide), if_pos rfl]
    exact ⟨_, _, rfl, c2, fun _ => rfl, fun z => absurd z c3⟩
end
/-- what a braid finds -/
theorem Inv.brd {k : Nat} {x : XS} (h : Inv k x) {r p : Nat} {iv : Int → Int} (hr : x.1.1 113 1 = r) (hp : x.1.1 113 4 = p) (hT : TG (x.1.1 114) r) (hpp : 2 ≤ p ∧ p ≤ 31) (hiv : IvG p iv) (hX : XD9 x.1 (x.1.1 114) r p iv) (ht : hTr (x.1.1 114) r) {a : Nat} (ha : a < r) : ∃ L : Nat, BX9 x.1 (x.1.1 114) (x.1.1 12) (x.1.1 13) r p iv (x.1.1 120) L ∧ ∀ d : DA, (∀ q, 113 < q → q ≠ 135 → d.1 q = x.1.1 q) → (∀ j, j ≠ 0 → j ≠ 45 → j ≠ 46 → j ≠ 47 → d.1 113 j = x.1.1 113 j) → BR9 d (x.1.1 114) (x.1.1 117) (x.1.1 12) (x.1.1 118) (x.1.1 13) r p iv a (x.1.1 120) L := by
  obtain ⟨L, l1, l2, l3, l4⟩ := h.wrd
  obtain ⟨r', p', t1, t2, t3, t4, t5, t6⟩ := h.tr9
  have er : r' = r := by rw [hr] at t2; omega
  have ep : p' = p := by rw [hp] at t5; omega
  subst er ep
  obtain ⟨hD, hE⟩ := t6 ht
  refine ⟨L, ⟨hX.1, hX.2.1, rfl, rfl, hX.2.2.1, hX.2.2.2, l4, l1, l3⟩, fun d hd h1 => ⟨hd 114 (by decide) (by decide), hd 117 (by decide) (by decide), hd 118 (by decide) (by decide), ?_, ?_, ⟨?_, l3, ?_⟩, hD, hT, ht.1, hpp, hiv, ha, fun a b c e g h ha hb hc he hg hh => hD.f ha hb hc he hg hh, fun a b c ha hb hc => hD.s ha hb hc⟩⟩
  · rw [h1 1 (by decide) (by decide) (by decide) (by decide)]; exact t2
  · rw [h1 4 (by decide) (by decide) (by decide) (by decide)]; exact t5
  · rw [h1 13 (by decide) (by decide) (by decide) (by decide)]; exact l2
  · intro j hj
    rw [hd 120 (by decide) (by decide)]
    exact ⟨rfl, (l4 j hj).2⟩
/-- a braid that is asked for rightly: both sides -/
theorem brd_go {k Ln : Nat} {sc : Int → Int} {x x1 : XS} {u1 u2 u3 : Int} {r p q : Nat} {iv : Int → Int} {C : Nat → Nat → Int} (h1 : Inv k x1) (hk : k < 512) (hu2 : inR u2) (hr : x1.1.1 113 1 = r) (hp : x1.1.1 113 4 = p) (hT : TG (x1.1.1 114) r) (hpp : 2 ≤ p ∧ p ≤ 31) (hiv : IvG p iv) (hX : XD9 x1.1 (x1.1.1 114) r p iv) (hq : q ≤ 5) (hC : ChL (x1.1.1 114) r p q C) (hrow : u3 = 1 → ∀ i k, i < q → k < r → x1.1.1 62 (5 * i + k) = C i k) (hu1 : kd r u1) (hu3 : (u3 = 0 ∧ kd r u2) ∨ (u3 = 1 ∧ 0 ≤ u2 ∧ u2 < q) ∨ u3 = 2) (hcx : xc x ≤ xc x1 ∧ xs x ≤ xs x1) (eC : X11_braid u1 u2 u3 x = X11_braid_j46 u1 u2 u3 x1) {f : XS → Option ((Int × XS) ⊕ (XS ⊕ (Int × XS)))} {bad : XS → Option ((Int × XS) ⊕ (XS ⊕ (Int × XS)))} :
    ∃ x', (bd (L_braid u1 u2 u3 x) fun r7 x8 =>
      gd (xc x ≤ xc x8 ∧ xs x ≤ xs x8) <|
      xb x8 (X12_braid u1 u2 u3 x8) (fun x10 x11 =>
      b1 (X12_thrown 113 x11.1) fun x12 =>
      gd (inR x12 ∧ inR r7) <|
      if x12 = r7 then (gd (inR r7) <|
      if r7 = 0 then (gd (ix 0 1) <|
      gd (inR x10) <|
      gd (inR64 (x11.1.2 161 (Int.toNat 0)) ∧ inR64 x10) <|
      gd (inR (lcmp9 (x11.1.2 161 (Int.toNat 0)) x10)) <|
      if (lcmp9 (x11.1.2 161 (Int.toNat 0)) x10) = 0 then f x11 else bad x11) else f x11) else bad x11) (fun _ _ => none)) = f x' ∧ Inv (k + 1) x' := by
  have h5 := hT.1
  obtain ⟨ai, rfl⟩ : ∃ i : Nat, u1 = i := ⟨u1.toNat, by have := hu1.1; omega⟩
  have ha : ai < r := by have := hu1.2; omega
  have u1r : inR (ai : Int) := by omega
  have u3' : u3 = 0 ∨ u3 = 1 ∨ u3 = 2 := by omega
  have u3r : inR u3 := by omega
  obtain ⟨-, -, -, hxe, hok, -⟩ := h1.z
  -- the reference up to its trees
  have refd : ∀ x3 : XS, (∀ c, 113 ≤ c → x3.1.1 c = x1.1.1 c) → ∃ d6, X12_braid ai u2 u3 x3 = X12_braid_j57 ai u2 u3 (xD x3 d6) ∧ d6.2 = x3.1.2 ∧ d6.1 113 0 = 0 ∧ (∀ c j, c ≠ 135 → (c ≠ 113 ∨ (j ≠ 0 ∧ j ≠ 45 ∧ j ≠ 46 ∧ j ≠ 47)) → d6.1 c j = x3.1.1 c j) ∧ (u3 = 1 → ∀ k, k < r → d6.1 135 k = C u2.toNat k) := fun x3 hd => by
    have y1 : (wI x3.1 113 0 0).1 113 1 = r := by rw [wI_at, fu_n (by decide), hd 113 (by omega)]; exact hr
    have y4 : (wI x3.1 113 0 0).1 113 4 = p := by rw [wI_at, fu_n (by decide), hd 113 (by omega)]; exact hp
    have y14 : (wI x3.1 113 0 0).1 114 = x1.1.1 114 := by rw [wI_ne (by decide)]; exact hd 114 (by omega)
    have k1 := (x12_isKind (d := wI x3.1 113 0 0) (r := r) (v := (ai : Int)) y1 h5.2 u1r).1 hu1
    have k2 := (x12_isIn (d := wI x3.1 113 0 0) (v := u3) (a := 0) (b := 2) u3r (by decide) (by decide)).1 (by omega)
    unfold X12_braid
    rw [lt_pos, lt_pos]
    have k1' : X12_isKind 113 (ai : Int) (xD x3 (wI x3.1 113 0 0)).1 = some 1 := k1
    have k2' : X12_isIn u3 0 2 (xD x3 (wI x3.1 113 0 0)).1 = some 1 := k2
    rw [b1_pos k1', gd_pos (by decide), if_neg (by decide), b1_pos k2', gd_pos (by decide), if_neg (by decide), gd_pos u3r]
    have fr0 : ∀ c j, c ≠ 135 → (c ≠ 113 ∨ (j ≠ 0 ∧ j ≠ 45 ∧ j ≠ 46 ∧ j ≠ 47)) → (wI x3.1 113 0 0).1 c j = x3.1.1 c j := fun c j _ z => by
      by_cases e : c = 113
      · subst e
        rw [wI_at, fu_n (by omega)]
      · rw [wI_ne e]
    rcases hu3 with ⟨rfl, hk2⟩ | ⟨rfl, hq1⟩ | rfl
    · have k3 := (x12_isKind (d := wI x3.1 113 0 0) (r := r) (v := u2) y1 h5.2 hu2).1 hk2
      have k3' : X12_isKind 113 u2 (xD x3 (wI x3.1 113 0 0)).1 = some 1 := k3
      rw [if_pos rfl, b1_pos k3', gd_pos (by decide), if_neg (by decide)]
      unfold X12_braid_j34
      rw [gd_pos (by decide), if_neg (by decide)]
      exact ⟨wI x3.1 113 0 0, rfl, rfl, by rw [wI_at, fu_s], fr0, fun z => by omega⟩
    · obtain ⟨d6, f1, f2, f3, f4, -⟩ := x12_findC (d := wI x3.1 113 0 0) (n := x1.1.1 114) (w := u2) hT y14 y1 y4 hpp.1 hpp.2 (by omega) hq hC
      rw [if_pos hq1] at f1
      have f1' : X12_findCharacter 113 u2 (xD x3 (wI x3.1 113 0 0)).1 = some (1, d6) := f1
      rw [if_neg (by decide)]
      unfold X12_braid_j34
      rw [gd_pos (by decide), if_pos rfl, gd_pos hu2, if_neg (by omega), bd_pos f1', lt_pos, gd_pos (by decide), if_neg (by decide)]
      refine ⟨d6, rfl, f2, ?_, fun c j z1 z2 => ?_, fun _ k hk => f4 hq1 k hk⟩
      · rw [f3 113 0 (by decide) (Or.inr ⟨by decide, by decide, by decide⟩), wI_at, fu_s]
      · rw [f3 c j z1 (by rcases z2 with z2 | z2
                          · exact Or.inl z2
                          · exact Or.inr ⟨z2.2.1, z2.2.2.1, z2.2.2.2⟩)]
        exact fr0 c j z1 z2
    · rw [if_neg (by decide)]
      unfold X12_braid_j34
      rw [gd_pos (by decide), if_neg (by decide)]
      exact ⟨wI x3.1 113 0 0, rfl, rfl, by rw [wI_at, fu_s], fr0, fun z => by omega⟩
  have smd : ∀ (x3 : XS) (d6 : DA), (∀ c j, c ≠ 135 → (c ≠ 113 ∨ (j ≠ 0 ∧ j ≠ 45 ∧ j ≠ 46 ∧ j ≠ 47)) → d6.1 c j = x3.1.1 c j) → Sm x3.1 d6 := fun x3 d6 z c j hr => z c j (fun e => by subst e; cases hr) (by
    by_cases e : c = 113
    · subst e
      refine Or.inr ⟨fun e => by (subst e; cases hr), fun e => by (subst e; cases hr), fun e => by (subst e; cases hr), fun e => by (subst e; cases hr)⟩
    · exact Or.inl e)
  by_cases ht : hTr (x1.1.1 114) r
  · obtain ⟨L, hBX, hBR⟩ := h1.brd hr hp hT hpp hiv hX ht ha
    have hB0 := (hBR x1.1 (fun _ _ _ => rfl) (fun _ _ _ _ _ => rfl)).2.2.2.2.2.2.2
    have cv : (u3 = 0 ∧ ∃ ci : Nat, u2 = ci ∧ ci < r) ∨ (u3 = 1 ∧ (∃ ci : Nat, u2 = ci ∧ ci < 5 ∧ ∀ k, k < r → x1.1.1 62 (5 * ci + k) = C u2.toNat k) ∧ Cb p r (C u2.toNat)) ∨ u3 = 2 := by
      rcases hu3 with ⟨e, z1, z2⟩ | ⟨e, z1, z2⟩ | e
      · exact Or.inl ⟨e, u2.toNat, by omega, by omega⟩
      · refine Or.inr (Or.inl ⟨e, ⟨u2.toNat, by omega, by omega, fun k hk => hrow e _ k (by omega) hk⟩, fun k hk => (hC.1 u2.toNat (by omega)).2.1 k hk⟩)
      · exact Or.inr (Or.inr e)
    obtain ⟨v, d2, b1, b2, b3⟩ := x11_b46 (x := x1) (C := C u2.toNat) hB0 ht.2 hBX cv
    rw [b1] at eC
    have vb := b3.bd hpp.1 u3'
    refine both5 (x1 := x1) (en := 1) (f := f) (bad := bad) h1 hk (x2 := xD x1 d2) (v := v) (c := 0) ⟨Or.inl ⟨rfl, eC⟩, hcx.1, hcx.2⟩ (by omega) (Kp.D b2.sm) (Or.inl rfl) (w := v) (by omega) (fun _ => rfl) (M := fun x => X12_braid ai u2 u3 x) (fun x3 e1 e2 => ?_)
    have e1' : x3.1.1 = d2.1 := e1
    have hd : ∀ c, 113 ≤ c → x3.1.1 c = x1.1.1 c := fun c hc => by rw [e1']; exact b2.2 c (by omega) (by omega)
    obtain ⟨d6, g1, g2, g3, g4, g5⟩ := refd x3 hd
    have xe3 : xe x3 = 0 := by
      have : xe x3 = xe x1 := by unfold xe; rw [e2]; rfl
      rw [this]; exact hxe
    have xk3 : xok9 x3 := by
      have : xok9 x3 ↔ xok9 x1 := by unfold xok9 xrt xrb xtt xtn; rw [e2]; exact Iff.rfl
      exact this.mpr hok
    have g6 : ∀ q, 113 < q → q ≠ 135 → d6.1 q = x1.1.1 q := fun q z1 z2 => funext fun j => by rw [g4 q j z2 (Or.inl (by omega)), hd q (by omega)]
    obtain ⟨v', x4, w1, w2, w3, w4⟩ := x12_b57 (x := xD x3 d6) (C := C u2.toNat) (v2 := u2) (v3 := u3) (hBR d6 g6 (fun j z1 z2 z3 z4 => by rw [g4 113 j (by decide) (Or.inr ⟨z1, z2, z3, z4⟩), hd 113 (by omega)])) ht.2 xe3 xk3 (by
      rcases cv with z | ⟨z1, -, z3⟩ | z
      · exact Or.inl z
      · exact Or.inr (Or.inl ⟨z1, g5 z1, z3⟩)
      · exact Or.inr (Or.inr z))
    have ev : v' = v := w4.u b3 u3'
    rw [ev] at w1
    refine ⟨x4, g1.trans w1, ?_, ?_, (smd x3 d6 g4).tr w2.sm, ?_⟩
    · rw [w2.2.2 0 (by decide)]; exact g3
    · rw [w2.1]
      show d6.2 161 = _
      rw [g2]
    · have z0 : Zx9 x3 (xD x3 d6) 0 0 := Zx9.rf xe3 xk3 d6
      exact (z0.tr w3).up (by decide) (by decide)
  · have nb5 : Nb x1.1 5 := fun j hj => by show 0 ≤ x1.1.1 6 j ∧ x1.1.1 6 j ≤ 9; rw [hX.2.1]; exact hT.2.1 j hj
    have e1 := (x6_hasTrees (d := x1.1) (r := r) hX.1 h5.2 nb5).2 (by rw [hX.2.1]; exact ht)
    have eC2 : X11_braid (ai : Int) u2 u3 x = some (.inl (-1), x1) := by
      rw [eC]
      unfold X11_braid_j46
      rw [b1_pos e1, gd_pos (by decide), if_pos rfl]
    refine both5 (x1 := x1) (en := 1) (f := f) (bad := bad) h1 hk (x2 := x1) (v := -1) (c := 0) ⟨Or.inl ⟨rfl, eC2⟩, hcx.1, hcx.2⟩ (by decide) (Kp.rf x1) (Or.inl rfl) (w := -1) (by decide) (fun _ => rfl) (M := fun x => X12_braid ai u2 u3 x) (fun x3 e1 e2 => ?_)
    have hd : ∀ c, 113 ≤ c → x3.1.1 c = x1.1.1 c := fun c hc => by rw [e1]
    obtain ⟨d6, g1, g2, g3, g4, g5⟩ := refd x3 hd
    have xe3 : xe x3 = 0 := by
      have : xe x3 = xe x1 := by unfold xe; rw [e2]
      rw [this]; exact hxe
    have xk3 : xok9 x3 := by
      have : xok9 x3 ↔ xok9 x1 := by unfold xok9 xrt xrb xtt xtn; rw [e2]
      exact this.mpr hok
    have h14 : d6.1 114 = x1.1.1 114 := funext fun j => by rw [g4 114 j (by decide) (Or.inl (by decide)), hd 114 (by omega)]
    have h113 : d6.1 113 1 = r := by rw [g4 113 1 (by decide) (Or.inr ⟨by decide, by decide, by decide, by decide⟩), hd 113 (by omega)]; exact hr
    have e3 := (x12_hasTrees (d := d6) (r := r) h113 (by rw [h14]; exact hT)).2 (by rw [h14]; exact ht)
    refine ⟨xD x3 d6, g1.trans ?_, g3, by show d6.2 161 = _; rw [g2], smd x3 d6 g4, (Zx9.rf xe3 xk3 d6).up (by decide) (by decide)⟩
    unfold X12_braid_j57
    have e3' : X12_hasTrees 113 (xD x3 d6).1 = some 0 := e3
    rw [b1_pos e3', gd_pos (by decide), if_pos rfl]

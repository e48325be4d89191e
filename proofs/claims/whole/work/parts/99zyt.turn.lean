/-! ===== turns: all that the class finds ===== -/
theorem x10_findA {x : XS} {n c : Nat → Int} {r p ci fi : Nat} {iv : Int → Int} {du : Nat → Nat} {G : Nat → Bool} (h4 : r ≤ 4) (hT : TG n r) (hC : TC9 x n c r p iv du) (hb : Cb p r c) (c0 : c 0 = 1) (h2 : 2 ≤ p) (h31 : p ≤ 31) (hiv : IvG p iv) (hdu : ∀ i, i < r → ptn (fun j => n (ti i j 0)) r = (du i : Nat) ∧ du i < r) (hG : ∀ X, X < (p - 1) ^ (r - 1) → (G X = true ↔ Tn9 n r p iv du c (tX9 p r X))) (hN : (p - 1) ^ (r - 1) ≤ 27000) (hci : ci < 5) (hfi : x.1.1 68 2 = fi) (hst : fi ≤ 108000) (hz : fi ≤ xzf x) (h27 : xzf x ≤ 270000) : ∃ x', X10_findAll ci x = some (.inl (), x') ∧ x'.1.2 = x.1.2 ∧ (∀ q, q ≠ 60 → q ≠ 68 → q ≠ 69 → q ≠ 70 → q ≠ 71 → (q < 73 ∨ 80 < q) → x'.1.1 q = x.1.1 q) ∧ x'.1.1 68 2 = ((fi + cn9 G ((p - 1) ^ (r - 1)) : Nat) : Int) ∧ fi + cn9 G ((p - 1) ^ (r - 1)) ≤ xzf x' ∧ (∀ q, q < fi → x'.1.1 71 q = x.1.1 71 q) ∧ (∀ i, i < cn9 G ((p - 1) ^ (r - 1)) → x'.1.1 71 (fi + i) = en9 (tX9 p r (pk9 G ((p - 1) ^ (r - 1)) i)) r (r - 1)) ∧ x'.1.1 69 = fu (x.1.1 69) ci (cn9 G ((p - 1) ^ (r - 1)) : Int) ∧ x'.1.1 70 = fu (x.1.1 70) ci (fi : Int) ∧ ZG9 x x' := by
  have h1 := hT.1.1
  have hp0 : 0 < p := by omega
  obtain ⟨x4, hx4⟩ : ∃ x4, x4 = xD x (wA (wI x.1 70 ci (fi : Int)) 74 (pre ((wI x.1 70 ci (fi : Int)).1 74) (fun _ => 1) 5)) := ⟨_, rfl⟩
  have q4 : ∀ q, q ≠ 70 → q ≠ 74 → x4.1.1 q = x.1.1 q := fun q z1 z2 => by
    rw [hx4]
    show (wA (wI x.1 70 ci (fi : Int)) 74 _).1 q = _
    rw [wA_ne z2, wI_ne z1]
  have q70 : x4.1.1 70 = fu (x.1.1 70) ci (fi : Int) := by
    rw [hx4]
    show (wA (wI x.1 70 ci (fi : Int)) 74 _).1 70 = _
    rw [wA_ne (by decide), wI_at]
  have q74 : ∀ j, j < 5 → x4.1.1 74 j = 1 := fun j hj => by
    rw [hx4]
    show (wA (wI x.1 70 ci (fi : Int)) 74 _).1 74 j = _
    rw [wA_at, pre_lt hj]
  have hC4 : TC9 x4 n c r p iv du := by
    obtain ⟨a, ⟨a8, a9, a10, a11⟩, a12⟩ := hC
    refine ⟨?_, ?_, ?_⟩
    · rw [q4 68 (by decide) (by decide), q4 6 (by decide) (by decide), q4 58 (by decide) (by decide), q4 59 (by decide) (by decide), q4 7 (by decide) (by decide), q4 72 (by decide) (by decide)]
      exact a
    · rw [hx4]; exact ⟨a8, a9, a10, a11⟩
    · rw [hx4]; exact a12
  have z4 : ZG9 x x4 := by rw [hx4]; exact ZG9.rf h27 _
  have S0 : TS9 x4 G p r fi 0 x4 := ⟨rfl, fun _ _ _ _ _ => rfl, fun _ _ _ => rfl, ⟨by rw [q4 68 (by decide) (by decide)]; exact hfi, by show fi + 0 ≤ xzf x4; rw [hx4]; exact hz⟩, fun _ _ => rfl, fun X hX => absurd hX (Nat.not_lt_zero _), by
    have : x4 = xD x4 x4.1 := rfl
    have z : ZG9 x4 (xD x4 x4.1) := ZG9.rf (by rw [hx4]; exact h27) _
    exact z⟩
  -- what is done at the end
  have fin : ∀ y : XS, TS9 x4 G p r fi ((p - 1) ^ (r - 1)) y → ∃ x', X10_findAll_j55 ci y = some (.inl (), x') ∧ x'.1.2 = x.1.2 ∧ (∀ q, q ≠ 60 → q ≠ 68 → q ≠ 69 → q ≠ 70 → q ≠ 71 → (q < 73 ∨ 80 < q) → x'.1.1 q = x.1.1 q) ∧ x'.1.1 68 2 = ((fi + cn9 G ((p - 1) ^ (r - 1)) : Nat) : Int) ∧ fi + cn9 G ((p - 1) ^ (r - 1)) ≤ xzf x' ∧ (∀ q, q < fi → x'.1.1 71 q = x.1.1 71 q) ∧ (∀ i, i < cn9 G ((p - 1) ^ (r - 1)) → x'.1.1 71 (fi + i) = en9 (tX9 p r (pk9 G ((p - 1) ^ (r - 1)) i)) r (r - 1)) ∧ x'.1.1 69 = fu (x.1.1 69) ci (cn9 G ((p - 1) ^ (r - 1)) : Int) ∧ x'.1.1 70 = fu (x.1.1 70) ci (fi : Int) ∧ ZG9 x x' := fun y hy => by
    obtain ⟨b1, b2, b3, ⟨b4, b4'⟩, b5, b6, b7⟩ := hy
    have y70 : y.1.1 70 = fu (x.1.1 70) ci (fi : Int) := by rw [b2 70 (by decide) (by decide) (by decide) (by omega), q70]
    have y69 : y.1.1 69 = x.1.1 69 := by rw [b2 69 (by decide) (by decide) (by decide) (by omega), q4 69 (by decide) (by decide)]
    have b27 := b7.2.1.2
    refine ⟨xD y (wI y.1 69 ci (cn9 G ((p - 1) ^ (r - 1)) : Int)), ?_, ?_, fun q z1 z2 z3 z4 z5 z6 => ?_, ?_, b4', fun q z => ?_, fun i hi => ?_, ?_, ?_, (z4.tr b7).tr (ZG9.rf b27 _)⟩
    · unfold X10_findAll_j55
      rw [gd_pos (by omega), gd_pos (by omega), Int.toNat_natCast, b4, y70, fu_s, lt_pos, lt_pos]
      have : ((fi + cn9 G ((p - 1) ^ (r - 1)) : Nat) : Int) - (fi : Int) = (cn9 G ((p - 1) ^ (r - 1)) : Int) := by omega
      rw [this]
    · show y.1.2 = _
      rw [b1, hx4]; rfl
    · show (wI y.1 69 ci _).1 q = _
      rw [wI_ne z3, b2 q z1 z2 z5 z6]
      by_cases e : q = 74
      · omega
      · exact q4 q z4 e
    · show (wI y.1 69 ci _).1 68 2 = _
      rw [wI_ne (by decide)]; exact b4
    · show (wI y.1 69 ci _).1 71 q = _
      rw [wI_ne (by decide), b5 q z, q4 71 (by decide) (by decide)]
    · show (wI y.1 69 ci _).1 71 _ = _
      have k := pk9_ok (P := G) hi
      have := b6 _ k.1 k.2.1
      rw [k.2.2] at this
      rw [wI_ne (by decide)]; exact this
    · show (wI y.1 69 ci _).1 69 = _
      rw [wI_at, y69]
    · show (wI y.1 69 ci _).1 70 = _
      rw [wI_ne (by decide), y70]
  have head : X10_findAll ci x = (b1 (X10_canHold 68 x4.1) fun x5 => gd (inR x5) <| if x5 = 0 then (X10_findAll_j33 ci 0 x4) else gd (xtt x4 = 5 ∧ xtn x4 = 58) <| b1 (X10_rowsAheadOfLast 68 x4.1) fun x11 => X10_findAll_j33 ci x11 x4) := by
    unfold X10_findAll
    rw [gd_pos (by omega), hfi, lt_pos, lt_pos, Int.toNat_natCast]
    have : J7_fill_53178 74 5 1 (xD x (wI x.1 70 ci (fi : Int))).1 = some ((), wA (wI x.1 70 ci (fi : Int)) 74 (pre ((wI x.1 70 ci (fi : Int)).1 74) (fun _ => 1) 5)) := fillI (by omega)
    rw [bd_pos this, lt_pos, hx4]
    rfl
  rw [head]
  obtain ⟨⟨a1, a2, a3, a4, a5, a6, a7⟩, ⟨a8, a9, a10, a11⟩, a12⟩ := hC4
  have can := x10_can (d := x4.1) (c := c) (r := r) (p := p) (D := Dq9 p r c) hT.1.2 a1 a2 (em_bd hp0 _) h31 a7 hb
  by_cases cc : (∀ l, l < r → c l ≠ 0) ∧ Dq9 p r c ≠ 0
  · rw [b1_pos (can.1 cc), gd_pos (by decide), if_neg (by decide), gd_pos ⟨a8, a9⟩, b1_pos (x10_rows h1 h4 a1 a4 h2 h31)]
    unfold X10_findAll_j33
    by_cases r1 : r = 1
    · subst r1
      have g0 : G 0 = true := (hG 0 (by rw [Nat.sub_self, Nat.pow_zero]; decide)).mpr (Tn9.one hT h2 hiv c0 rfl hdu)
      obtain ⟨y, t1, t2, t3⟩ := x10_try1 hT ⟨⟨a1, a2, a3, a4, a5, a6, a7⟩, ⟨a8, a9, a10, a11⟩, a12⟩ hb h2 h31 hiv g0 hst S0 (q74 0 (by decide))
      have hCy := TC9.ts ⟨⟨a1, a2, a3, a4, a5, a6, a7⟩, ⟨a8, a9, a10, a11⟩, a12⟩ t2
      obtain ⟨f, g1, -, -⟩ := x10_go (d := y.1) (r := 1) (p := p) (Y := 0) (by decide) (by decide) hCy.1.1 hCy.1.2.2.2.1 h2 h31 (fun j z1 z2 => by omega)
      have t2' : TS9 x4 G p 1 fi ((p - 1) ^ (1 - 1)) (xD y (wA y.1 74 f)) := by
        rw [Nat.sub_self, Nat.pow_zero]
        exact t2.d rfl (fun q z1 z2 z3 => by rw [wA_ne (by omega)]) (fun j z => by rw [wA_ne (by decide)])
      have e0 : ((((p - 1) ^ (1 - 2) : Nat) : Int)) = ((1 : Nat) : Int) := by rw [show (1 - 2 : Nat) = 0 from rfl, Nat.pow_zero]
      rw [e0]
      have el : lpE (fun q => X10_findAll_b36 ci ((1 : Nat) : Int) q.1 q.2) (0, x4) (fun e => X10_findAll_j55 ci e) = X10_findAll_j55 ci (xD y (wA y.1 74 f)) := by
        refine lpE_for (fun i => if i = 0 then ((0 : Int), x4) else ((1 : Int), xD y (wA y.1 74 f))) 1 _ rfl (by decide) (fun i hi => ?_) ?_
        · have : i = 0 := by omega
          subst this
          show X10_findAll_b36 ci ((1 : Nat) : Int) 0 x4 = some (.inl ((1 : Int), xD y (wA y.1 74 f)))
          unfold X10_findAll_b36
          rw [gd_pos (by decide), if_neg (by decide), xb_ok t1 t3, gd_pos ⟨hCy.2.1.1, hCy.2.1.2.1⟩, bd_pos g1, lt_pos]
          rfl
        · show X10_findAll_b36 ci ((1 : Nat) : Int) (1 : Int) (xD y (wA y.1 74 f)) = _
          unfold X10_findAll_b36
          rw [gd_pos (by decide), if_pos (by decide)]
      rw [el]
      exact fin _ t2'
    · obtain ⟨l, rfl⟩ : ∃ l, r = l + 1 := ⟨r - 1, by omega⟩
      have l1 : 1 ≤ l := by omega
      have eN : (p - 1) ^ (l + 1 - 1) = (p - 1) ^ (l - 1) * (p - 1) := by
        rw [← Nat.pow_succ, show (l - 1).succ = l + 1 - 1 by omega]
      have e21 : l + 1 - 2 = l - 1 := by omega
      have e11 : l + 1 - 1 = l := by omega
      have hC4 : TC9 x4 n c (l + 1) p iv du := ⟨⟨a1, a2, a3, a4, a5, a6, a7⟩, ⟨a8, a9, a10, a11⟩, a12⟩
      have rb : (p - 1) ^ (l - 1) ≤ 27000 := by
        have : (p - 1) ^ (l - 1) ≤ (p - 1) ^ (l - 1) * (p - 1) := Nat.le_mul_of_pos_right _ (by omega)
        rw [← eN] at this
        omega
      rw [e21]
      obtain ⟨y, k1, k2⟩ := lpE_inv (b := fun q : Int × XS => X10_findAll_b36 ci (((p - 1) ^ (l - 1) : Nat) : Int) q.1 q.2) (k := fun e : XS => X10_findAll_j55 ci e) (s0 := (0, x4)) (fun Y s => s.1 = (Y : Int) ∧ TS9 x4 G p (l + 1) fi (Y * (p - 1)) s.2 ∧ ∀ j, j < l → s.2.1.1 74 j = tX9 p l Y j) (fun e => TS9 x4 G p (l + 1) fi ((p - 1) ^ (l - 1) * (p - 1)) e) ((p - 1) ^ (l - 1)) (by omega) ⟨rfl, by rw [Nat.zero_mul]; exact S0, fun j hj => by
        show x4.1.1 74 j = _
        rw [q74 j (by omega)]
        unfold tX9
        by_cases e : j = 0
        · rw [if_pos e]
        · rw [if_neg e]
          unfold dg9
          rw [Nat.zero_div, Nat.zero_mod]; rfl⟩ (fun Y s hY hI => by
        obtain ⟨v, y⟩ := s
        obtain ⟨i1, i2, i3⟩ := hI
        dsimp only at i1 i2 i3 ⊢
        subst i1
        have hY1 : (Y + 1) * (p - 1) ≤ (p - 1) ^ l := by
          have : (Y + 1) * (p - 1) ≤ (p - 1) ^ (l - 1) * (p - 1) := Nat.mul_le_mul_right _ hY
          rw [← eN, e11] at this
          exact this
        obtain ⟨y', t1, t2, t3, t4⟩ := x10_try l1 (by omega) hT hC4 hb h2 h31 hiv hdu (by rw [e11] at hG; exact hG) (by rw [e11] at hN; exact hN) hst hY1 i2 i3
        have hCy := hC4.ts t2
        obtain ⟨f, g1, g2, g3⟩ := x10_go (d := y'.1) (r := l + 1) (p := p) (Y := Y) (by omega) h4 hCy.1.1 hCy.1.2.2.2.1 h2 h31 (fun j z1 z2 => by rw [e11] at z2 ⊢; rw [t4 j z2]; exact i3 j z2)
        refine ⟨((Y : Int) + 1, xD y' (wA y'.1 74 f)), ?_, by show (Y : Int) + 1 = ((Y + 1 : Nat) : Int); omega, t2.d rfl (fun q z1 z2 z3 => by rw [wA_ne (by omega)]) (fun j z => by rw [wA_ne (by decide)]), fun j hj => ?_⟩
        · unfold X10_findAll_b36
          rw [gd_pos (by omega), if_neg (by omega), xb_ok t1 t3, gd_pos ⟨hCy.2.1.1, hCy.2.1.2.1⟩, bd_pos g1, lt_pos]
        · show (wA y'.1 74 f).1 74 j = _
          rw [wA_at]
          by_cases e : j = 0
          · subst e
            rw [g3, t4 0 hj, i3 0 hj]; rfl
          · rw [g2 j (by omega) (by rw [e11]; exact hj), e11]) (fun s hI => by
        obtain ⟨v, y⟩ := s
        obtain ⟨i1, i2, i3⟩ := hI
        dsimp only at i1 i2 i3 ⊢
        subst i1
        refine ⟨y, ?_, i2⟩
        unfold X10_findAll_b36
        rw [gd_pos (by omega), if_pos (by omega)])
      rw [k1]
      exact fin y (by rw [eN]; exact k2)
  · -- nothing can hold
    rw [b1_pos (can.2 cc), gd_pos (by decide), if_pos rfl]
    have none9 : ∀ X, X ≤ (p - 1) ^ (r - 1) → cn9 G X = 0 := by
      intro X
      induction X with
      | zero => intro _; rfl
      | succ X ih =>
        intro hX
        rw [cn9_s, ih (by omega), if_neg (fun z => cc (Tn9.can hT h2 hiv hb (tX9_b h2) rfl hdu ((hG X (by omega)).mp z)))]
    have SN : TS9 x4 G p r fi ((p - 1) ^ (r - 1)) x4 := by
      obtain ⟨b1, b2, b3, b4, b5, b6, b7⟩ := S0
      have e := none9 _ (Nat.le_refl _)
      refine ⟨b1, b2, b3, by rw [e]; exact b4, b5, fun X z1 z2 => ?_, b7⟩
      exfalso
      have z3 := none9 (X + 1) z1
      rw [cn9_s, if_pos z2] at z3
      omega
    unfold X10_findAll_j33
    have el : lpE (fun q => X10_findAll_b36 ci 0 q.1 q.2) (0, x4) (fun e => X10_findAll_j55 ci e) = X10_findAll_j55 ci x4 := by
      refine lpE_for (fun _ => ((0 : Int), x4)) 0 _ rfl (by decide) (fun i hi => absurd hi (Nat.not_lt_zero _)) ?_
      show X10_findAll_b36 ci 0 (0 : Int) x4 = _
      unfold X10_findAll_b36
      rw [gd_pos (by decide), if_pos (by decide)]
    rw [el]
    exact fin x4 SN

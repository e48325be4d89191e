/-! ===== braid: the reference's answer ===== -/
def BrV (n F R : Nat → Int) (r p : Nat) (iv : Int → Int) (a : Nat) (w : Nat → Int) (L : Nat) (C : Nat → Int) (v2 v3 v : Int) : Prop := ((¬ ∀ y, y < r → bOk n F R r p iv a y) → v = -1) ∧ ((∀ y, y < r → bOk n F R r p iv a y) → (v3 = 0 → v = trc9 n F R r p iv a w L v2.toNat) ∧ (v3 = 1 → v = (sm r fun k => C k * trc9 n F R r p iv a w L k) % (p : Int)) ∧ (v3 = 2 → Wb (∀ y, y < r → rl9 n F R r p iv a y) v 1))
theorem BrV.u {n F R : Nat → Int} {r p : Nat} {iv : Int → Int} {a : Nat} {w : Nat → Int} {L : Nat} {C : Nat → Int} {v2 v3 v v' : Int} (h : BrV n F R r p iv a w L C v2 v3 v) (h' : BrV n F R r p iv a w L C v2 v3 v') (h3 : v3 = 0 ∨ v3 = 1 ∨ v3 = 2) : v = v' := by
  by_cases c : ∀ y, y < r → bOk n F R r p iv a y
  · obtain ⟨a1, a2, a3⟩ := h.2 c
    obtain ⟨b1, b2, b3⟩ := h'.2 c
    rcases h3 with e | e | e
    · rw [a1 e, b1 e]
    · rw [a2 e, b2 e]
    · exact (a3 e).u (b3 e)
  · rw [h.1 c, h'.1 c]
theorem BrV.bd {n F R : Nat → Int} {r p : Nat} {iv : Int → Int} {a : Nat} {w : Nat → Int} {L : Nat} {C : Nat → Int} {v2 v3 v : Int} (h : BrV n F R r p iv a w L C v2 v3 v) (hp : 2 ≤ p) (h3 : v3 = 0 ∨ v3 = 1 ∨ v3 = 2) : -1 ≤ v ∧ v < p := by
  by_cases c : ∀ y, y < r → bOk n F R r p iv a y
  · obtain ⟨a1, a2, a3⟩ := h.2 c
    rcases h3 with e | e | e
    · have := em_bd (p := p) (show 0 < p by omega) (sm (bm9 n r a v2.toNat) fun i => wrd9 p (bm9 n r a v2.toNat) (sqL n F R r p iv a v2.toNat) w L i i)
      rw [a1 e]
      unfold trc9
      omega
    · have := em_bd (p := p) (show 0 < p by omega) (sm r fun k => C k * trc9 n F R r p iv a w L k)
      rw [a2 e]; omega
    · have := (a3 e).or
      omega
  · rw [h.1 c]; omega
section
variable {n f F s R : Nat → Int} {r p a c : Nat} {iv : Int → Int} {w : Nat → Int} {L : Nat}
theorem x12_b57 {x : XS} {C : Nat → Int} {v2 v3 : Int} (h : BR9 x.1 n f F s R r p iv a w L) (hF : fre n r) (hx : xe x = 0) (hk : xok9 x) (hv : (v3 = 0 ∧ ∃ ci : Nat, v2 = ci ∧ ci < r) ∨ (v3 = 1 ∧ (∀ k, k < r → x.1.1 135 k = C k) ∧ Cb p r C) ∨ v3 = 2) : ∃ v x', X12_braid_j57 a v2 v3 x = some (.inl v, x') ∧ FrM x.1 x'.1 ∧ Zx9 x x' 3 75 ∧ BrV n F R r p iv a w L C v2 v3 v := by
  have hT := h.2.2.2.2.2.2.1
  have hD := h.2.2.2.2.2.2.2
  have h3 := hD.2.1
  have hp := hD.2.2.1.1
  have h31 := hD.2.2.1.2
  have hp0 : 0 < p := by omega
  have ht := (x12_hasTrees (d := x.1) (r := r) h.2.2.2.1 (by rw [h.1]; exact hT.1)).1 (by rw [h.1]; exact ⟨h3, hF⟩)
  obtain ⟨v, d1, c1, c2, c3⟩ := x12_can h
  unfold X12_braid_j57
  rw [b1_pos ht, gd_pos (by decide), if_neg (by decide), bd_pos c1, lt_pos]
  have z0 := Zx9.rf hx hk d1
  have v3r : inR v3 := by rcases hv with ⟨rfl, -⟩ | ⟨rfl, -⟩ | rfl <;> decide
  rcases c3 with ⟨rfl, c3⟩ | ⟨rfl, c3⟩
  · rw [gd_pos (by decide), if_neg (by decide), gd_pos v3r]
    have hB1 := h.fr c2
    rcases hv with ⟨rfl, ci, rfl, hci⟩ | ⟨rfl, hv1, hv2⟩ | rfl
    · obtain ⟨d2, t1, t2⟩ := x12_tr hB1 hci (c3 ci hci)
      have t1' : X12_traceOf 113 a ci (xD x d1).1 = some (trc9 n F R r p iv a w L ci, d2) := t1
      rw [if_pos rfl, bd_pos t1', lt_pos]
      refine ⟨_, _, rfl, c2.tr t2, (z0.tr (Zx9.rf (x := xD x d1) hx hk d2)).up (by decide) (by decide), fun z => absurd c3 z, fun _ => ⟨fun _ => by rw [Int.toNat_natCast], fun z => by omega, fun z => by omega⟩⟩
    · rw [if_neg (by decide)]
      obtain ⟨e, e1, e2, q, e3, e4⟩ := lpE_inv (b := fun q : Int × Int × XS => X12_braid_b91 a 1 q.1 q.2.1 q.2.2) (k := fun e : Int × XS => X12_braid_j149 1 e.1 e.2) (s0 := (0, 0, xD x d1)) (fun k t => t.2.1 = (k : Int) ∧ t.1 = (sm k fun k => C k * trc9 n F R r p iv a w L k) ∧ ∃ e, t.2.2 = xD x e ∧ FrM x.1 e) (fun e => e.1 = (sm r fun k => C k * trc9 n F R r p iv a w L k) ∧ ∃ q, e.2 = xD x q ∧ FrM x.1 q) r (by omega) ⟨rfl, rfl, d1, rfl, c2⟩ (fun k t hk9 hI => by
        obtain ⟨v4, v5, y⟩ := t
        obtain ⟨i1, i2, e, i3, i4⟩ := hI
        dsimp only at i1 i2 i3 ⊢
        subst i1 i2 i3
        have hB := h.fr i4
        have er := hB.2.2.2.1
        obtain ⟨d2, t1, t2⟩ := x12_tr hB hk9 (c3 k hk9)
        have e135 : e.1 135 k = C k := by rw [i4.2.1 135 (by decide) (by omega) (by decide)]; exact hv1 k hk9
        unfold X12_braid_b91
        show ∃ s', (gd (inR (k : Int) ∧ inR (e.1 113 1)) <| if (e.1 113 1) ≤ (k : Int) then _ else _) = _ ∧ _
        rw [er, gd_pos (by omega), if_neg (by omega), gd_pos (by decide), if_pos rfl, gd_pos (by omega)]
        have t1' : X12_traceOf 113 a (k : Int) (xD x e).1 = some (trc9 n F R r p iv a w L k, d2) := t1
        rw [bd_pos t1', lt_pos, lt_pos, Int.toNat_natCast]
        have e135' : (xD x e).1.1 135 k = C k := e135
        rw [e135']
        exact ⟨_, rfl, rfl, rfl, d2, rfl, i4.tr t2⟩) (fun t hI => by
        obtain ⟨v4, v5, y⟩ := t
        obtain ⟨i1, i2, e, i3, i4⟩ := hI
        dsimp only at i1 i2 i3 ⊢
        subst i1 i2 i3
        have er := (h.fr i4).2.2.2.1
        refine ⟨(_, xD x e), ?_, rfl, e, rfl, i4⟩
        unfold X12_braid_b91
        show (gd (inR (r : Int) ∧ inR (e.1 113 1)) <| if (e.1 113 1) ≤ (r : Int) then _ else _) = _
        rw [er, gd_pos (by omega), if_pos (by omega)])
      rw [e1]
      obtain ⟨v4, y⟩ := e
      dsimp only at e2 e3 ⊢
      subst e2 e3
      have trb : ∀ k, 0 ≤ trc9 n F R r p iv a w L k ∧ trc9 n F R r p iv a w L k < p := fun k => em_bd hp0 _
      have sb := sm_bd (f := fun k => C k * trc9 n F R r p iv a w L k) (lo := 0) (hi := 900) r (fun k hk => by
        have b1 := hv2 k hk
        have b2 := trb k
        have := mlb9 (u := 30) (v := 30) (show 0 ≤ C k ∧ C k ≤ 30 by omega) (show 0 ≤ trc9 n F R r p iv a w L k ∧ trc9 n F R r p iv a w L k ≤ 30 by omega)
        omega)
      have s0 : 0 ≤ sm r fun k => C k * trc9 n F R r p iv a w L k := by have := sb.1; omega
      have s1 : (sm r fun k => C k * trc9 n F R r p iv a w L k) ≤ 2700 := by have := sb.2; omega
      have e4' : (xD x q).1.1 113 4 = p := (h.fr e4).2.2.2.2.1
      unfold X12_braid_j149
      rw [gd_pos (by decide), if_pos rfl, e4', gd_pos (by unfold dvg; omega), tm_em s0]
      exact ⟨_, _, rfl, e4, (Zx9.rf hx hk q).up (by decide) (by decide), fun z => absurd c3 z, fun _ => ⟨fun z => by omega, fun _ => rfl, fun z => by omega⟩⟩
    · rw [if_neg (by decide)]
      obtain ⟨e, e1, e2⟩ := lpE_inv (b := fun q : Int × Int × XS => X12_braid_b91 a 2 q.1 q.2.1 q.2.2) (k := fun e : Int × XS => X12_braid_j149 2 e.1 e.2) (s0 := (0, 0, xD x d1)) (fun k t => t.2.1 = (k : Int) ∧ (0 ≤ t.1 ∧ t.1 ≤ k) ∧ (t.1 = k ↔ ∀ y, y < k → rl9 n F R r p iv a y) ∧ FrM x.1 t.2.2.1 ∧ Zx9 x t.2.2 k (25 * k)) (fun e => (0 ≤ e.1 ∧ e.1 ≤ r) ∧ (e.1 = r ↔ ∀ y, y < r → rl9 n F R r p iv a y) ∧ FrM x.1 e.2.1 ∧ Zx9 x e.2 r (25 * r)) r (by omega) ⟨rfl, ⟨Int.le_refl 0, Int.le_refl 0⟩, ⟨fun _ y hy => absurd hy (Nat.not_lt_zero _), fun _ => rfl⟩, c2, z0⟩ (fun k t hk9 hI => by
        obtain ⟨v4, v5, y⟩ := t
        obtain ⟨i1, i2, i3, i4, i5⟩ := hI
        dsimp only at i1 i2 i3 i4 i5 ⊢
        subst i1
        have hB := h.fr i4
        have er := hB.2.2.2.1
        obtain ⟨v, y', t1, t2, t3, t4⟩ := x12_rl hB hk9 (c3 k hk9) i5.1.2.2.1 i5.1.2.2.2
        have tb := t4.or
        unfold X12_braid_b91
        rw [er, gd_pos (by omega), if_neg (by omega), gd_pos (by decide), if_neg (by decide), xb_ok t1 ⟨t3.2.1.1, t3.2.2.1⟩, gd_pos (by omega)]
        have zz : Zx9 x y' (k + 1) (25 * (k + 1)) := (i5.tr t3).up (Nat.le_refl _) (by omega)
        by_cases cv : v = 0
        · rw [if_pos cv, lt_pos]
          refine ⟨_, rfl, rfl, by show 0 ≤ v4 + 0 ∧ v4 + 0 ≤ ((k + 1 : Nat) : Int); omega, ⟨fun z => ?_, fun z => ?_⟩, i4.tr t2, zz⟩
          · have z' : v4 + 0 = ((k + 1 : Nat) : Int) := z
            omega
          · have := t4.1 (z k (by omega))
            omega
        · rw [if_neg cv, lt_pos]
          have rk : rl9 n F R r p iv a k := by
            by_cases cc : rl9 n F R r p iv a k
            · exact cc
            · exact absurd (t4.2 cc) cv
          refine ⟨_, rfl, rfl, by show 0 ≤ v4 + 1 ∧ v4 + 1 ≤ ((k + 1 : Nat) : Int); omega, ⟨fun z y hy => ?_, fun z => ?_⟩, i4.tr t2, zz⟩
          · have z' : v4 + 1 = ((k + 1 : Nat) : Int) := z
            by_cases ey : y = k
            · rw [ey]; exact rk
            · exact i3.mp (by omega) y (by omega)
          · show v4 + 1 = ((k + 1 : Nat) : Int)
            have := i3.mpr (fun y hy => z y (by omega))
            omega) (fun t hI => by
        obtain ⟨v4, v5, y⟩ := t
        obtain ⟨i1, i2, i3, i4, i5⟩ := hI
        dsimp only at i1 i2 i3 i4 i5 ⊢
        subst i1
        have er := (h.fr i4).2.2.2.1
        refine ⟨(v4, y), ?_, i2, i3, i4, i5⟩
        unfold X12_braid_b91
        rw [er, gd_pos (by omega), if_pos (by omega)])
      rw [e1]
      obtain ⟨v4, y⟩ := e
      obtain ⟨i2, i3, i4, i5⟩ := e2
      dsimp only at i2 i3 i4 i5 ⊢
      have er := (h.fr i4).2.2.2.1
      have zz : Zx9 x y 3 75 := i5.up h3 (by omega)
      unfold X12_braid_j149
      rw [gd_pos (by decide), if_neg (by decide), er, gd_pos (by omega)]
      by_cases cv : v4 = r
      · rw [if_pos cv]
        exact ⟨_, _, rfl, i4, zz, fun z => absurd c3 z, fun _ => ⟨fun z => by omega, fun z => by omega, fun _ => ⟨fun _ => rfl, fun z => absurd (i3.mp cv) z⟩⟩⟩
      · rw [if_neg cv]
        exact ⟨_, _, rfl, i4, zz, fun z => absurd c3 z, fun _ => ⟨fun z => by omega, fun z => by omega, fun _ => ⟨fun z => absurd (i3.mpr z) cv, fun _ => rfl⟩⟩⟩
  · rw [gd_pos (by decide), if_pos rfl]
    exact ⟨_, _, rfl, c2, z0.up (by decide) (by decide), fun _ => rfl, fun z => absurd z c3⟩
end
theorem both5 {Z : Type} {k : Nat} {x x1 x2 : XS} {o : Option ((Int ⊕ Nat) × XS)} {en : Nat} {c v w : Int} (h : Inv k x1) (hk : k < 512) (hA : Ans o x en c v x2) (hv : inR v) (hK : Kp x1 x2) (hc : c = 0 ∨ c = 1) (hw : inR w) (hvw : c = 0 → v = w) {M : XS → Option ((Int ⊕ Nat) × XS)} (hM : ∀ x3 : XS, x3.1.1 = x2.1.1 → x3.2 = x2.2 → ∃ x4, M x3 = some (.inl w, x4) ∧ x4.1.1 113 0 = c ∧ x4.1.2 161 = x3.1.2 161 ∧ Sm x3.1 x4.1 ∧ Zx9 x3 x4 50 500) {f : XS → Option Z} {bad : XS → Option Z} :
    ∃ x', (bd (LX o x en) fun r7 x8 =>
      gd (xc x ≤ xc x8 ∧ xs x ≤ xs x8) <|
      xb x8 (M x8) (fun x10 x11 =>
      b1 (X12_thrown 113 x11.1) fun x12 =>
      gd (inR x12 ∧ inR r7) <|
      if x12 = r7 then (gd (inR r7) <|
      if r7 = 0 then (gd (ix 0 1) <|
      gd (inR x10) <|
      gd (inR64 (x11.1.2 161 (Int.toNat 0)) ∧ inR64 x10) <|
      gd (inR (lcmp9 (x11.1.2 161 (Int.toNat 0)) x10)) <|
      if (lcmp9 (x11.1.2 161 (Int.toNat 0)) x10) = 0 then f x11 else bad x11) else f x11) else bad x11) (fun _ _ => none)) = f x' ∧ Inv (k + 1) x' := by
  obtain ⟨x3, h1, h2, h3, h4, h5, h6⟩ := lx_ans hA hv
  obtain ⟨x4, m1, m2, m4, m5, ⟨m6, m7, m8, m9⟩, ⟨m10, m11⟩, m12, m13⟩ := hM x3 h4 h5
  obtain ⟨k1, ⟨k2, k3, k4, k5⟩, k6, k7⟩ := hK
  refine ⟨x4, ?_, ?_⟩
  · rw [bd_pos h1, gd_pos ⟨h2, h3⟩, xb_ok m1 ⟨m10, m12⟩, b1_pos (show X12_thrown 113 x4.1 = some (x4.1.1 113 0) from rfl)]
    exact law_tail (x := x4) m2 hc hw (fun hc0 => by
      rw [m4, h6 hc0]
      exact hvw hc0)
  · have a1 : xzc x3 = xzc x2 := by unfold xzc; rw [h5]
    have a2 : xzf x3 = xzf x2 := by unfold xzf; rw [h5]
    have a3 : xc x3 = xc x2 := by unfold xc; rw [h5]
    have a4 : xs x3 = xs x2 := by unfold xs; rw [h5]
    refine h.fr hk (fun q j hr => ?_) ⟨?_, ?_, m8, m9⟩ ⟨by omega, by omega⟩
    · rw [m5 q j hr, h4]; exact k1 q j hr
    · rw [m6, a1, k2]
    · rw [m7, a2, k3]
theorem FrM.sm {a b : DA} (h : FrM a b) : Sm a b := fun c j hr => by
  by_cases e : c = 113
  · subst e
    exact h.2.2 j (fun z => by subst z; cases hr)
  · refine congrFun (h.2.1 c e ?_ (fun z => by subst z; cases hr)) j
    rcases Nat.lt_or_ge c 138 with y | y
    · exact Or.inl y
    · rcases Nat.lt_or_ge 154 c with y2 | y2
      · exact Or.inr y2
      · exfalso
        rcases (show c = 138 ∨ c = 139 ∨ c = 140 ∨ c = 141 ∨ c = 142 ∨ c = 143 ∨ c = 144 ∨ c = 145 ∨ c = 146 ∨ c = 147 ∨ c = 148 ∨ c = 149 ∨ c = 150 ∨ c = 151 ∨ c = 152 ∨ c = 153 ∨ c = 154 by omega) with rfl | rfl | rfl | rfl | rfl | rfl | rfl | rfl | rfl | rfl | rfl | rfl | rfl | rfl | rfl | rfl | rfl <;> cases hr
theorem FrB.sm {a b : DA} (h : FrB 101 a b) : Sm a b := fun c j hr => by
  refine congrFun (h.2 c (fun z => by subst z; cases hr) ?_) j
  rcases Nat.lt_or_ge c 101 with y | y
  · exact Or.inl y
  · rcases Nat.lt_or_ge 112 c with y2 | y2
    · exact Or.inr y2
    · exfalso
      rcases (show c = 101 ∨ c = 102 ∨ c = 103 ∨ c = 104 ∨ c = 105 ∨ c = 106 ∨ c = 107 ∨ c = 108 ∨ c = 109 ∨ c = 110 ∨ c = 111 ∨ c = 112 by omega) with rfl | rfl | rfl | rfl | rfl | rfl | rfl | rfl | rfl | rfl | rfl | rfl <;> cases hr
theorem Inv.wrd {k : Nat} {x : XS} (h : Inv k x) : ∃ m : Nat, x.1.1 2 4 = m ∧ x.1.1 113 13 = m ∧ m ≤ 12 ∧ ∀ j, j < m → x.1.1 4 j = x.1.1 120 j ∧ Lt9 (x.1.1 120 j) := by
  obtain ⟨-, r, p, m, D, U, tp, kr, la, ⟨-, -, -, -, ⟨w1, w2, w3, w4⟩, -⟩, -⟩ := h
  exact ⟨m, w1, w2, w3, w4⟩

/-! ===== turned: what the reference answers ===== -/
theorem en_bd {t : Nat → Int} {r : Nat} (h1 : 1 ≤ r) (h4 : r ≤ 4) (ht : ∀ k, k < r → 1 ≤ t k ∧ t k < 32) : (0 ≤ en9 t r (r - 1) ∧ en9 t r (r - 1) < 32768) ∧ ∀ k, 1 ≤ k → k < r → en9 t r (r - 1) / 32 ^ (k - 1) % 32 = t k := by
  have p0 : (32 : Int) ^ 0 = 1 := rfl
  have p1 : (32 : Int) ^ 1 = 32 := rfl
  have p2 : (32 : Int) ^ 2 = 1024 := rfl
  rcases (show r = 1 ∨ r = 2 ∨ r = 3 ∨ r = 4 by omega) with rfl | rfl | rfl | rfl
  · refine ⟨⟨Int.le_refl _, by show (0 : Int) < 32768; decide⟩, fun k z1 z2 => by omega⟩
  · have b1 := ht 1 (by decide)
    have e : en9 t 2 (2 - 1) = 32 * 0 + t 1 := rfl
    rw [e]
    refine ⟨by omega, fun k z1 z2 => ?_⟩
    have : k = 1 := by omega
    subst this
    rw [show (1 - 1 : Nat) = 0 from rfl, p0]; omega
  · have b1 := ht 1 (by decide)
    have b2 := ht 2 (by decide)
    have e : en9 t 3 (3 - 1) = 32 * (32 * 0 + t 2) + t 1 := rfl
    rw [e]
    refine ⟨by omega, fun k z1 z2 => ?_⟩
    rcases (show k = 1 ∨ k = 2 by omega) with rfl | rfl
    · rw [show (1 - 1 : Nat) = 0 from rfl, p0]; omega
    · rw [show (2 - 1 : Nat) = 1 from rfl, p1]; omega
  · have b1 := ht 1 (by decide)
    have b2 := ht 2 (by decide)
    have b3 := ht 3 (by decide)
    have e : en9 t 4 (4 - 1) = 32 * (32 * (32 * 0 + t 3) + t 2) + t 1 := rfl
    rw [e]
    refine ⟨by omega, fun k z1 z2 => ?_⟩
    rcases (show k = 1 ∨ k = 2 ∨ k = 3 by omega) with rfl | rfl | rfl
    · rw [show (1 - 1 : Nat) = 0 from rfl, p0]; omega
    · rw [show (2 - 1 : Nat) = 1 from rfl, p1]; omega
    · rw [show (3 - 1 : Nat) = 2 from rfl, p2]; omega
theorem x12_hasD {d : DA} {n : Nat → Int} {r : Nat} (hT : TG n r) (h14 : d.1 114 = n) (hr : d.1 113 1 = r) : (fwd d 113 r = none → X12_hasDuals 113 d = some 1) ∧ (fwd d 113 r ≠ none → X12_hasDuals 113 d = some 0) := by
  have nb6 : Nb d 113 := fun j hj => by show 0 ≤ d.1 114 j ∧ d.1 114 j ≤ 9; rw [h14]; exact hT.2.1 j hj
  have em := x12_fwd (d := d) (o := 113) hr hT.1.2 nb6
  have h5 := hT.1
  unfold X12_hasDuals
  cases hf : fwd d 113 r with
  | none =>
    rw [hf] at em
    have em' : X12_firstWithoutDual 113 d = some (-1) := em
    rw [b1_pos em', gd_pos (by omega), if_pos rfl]
    exact ⟨fun _ => rfl, fun z => absurd rfl z⟩
  | some i =>
    rw [hf] at em
    have := fwd_bd hf
    have em' : X12_firstWithoutDual 113 d = some (125 * (i : Int)) := em
    rw [b1_pos em', gd_pos (by omega), if_neg (by omega)]
    exact ⟨fun z => (by cases z), fun _ => rfl⟩
/-- the reference's answer once the character is found -/
theorem x12_tj43 {d4 : DA} {n c : Nat → Int} {r p : Nat} {iv : Int → Int} {du : Nat → Nat} {G : Nat → Bool} {i k : Int} (hT : TG n r) (h4 : r ≤ 4) (h14 : d4.1 114 = n) (hr : d4.1 113 1 = r) (hp : d4.1 113 4 = p) (h2 : 2 ≤ p) (h31 : p ≤ 31) (hiv : IvG p iv) (hc : ∀ k, k < r → d4.1 135 k = c k) (hb : Cb p r c) (hdu : ∀ i, i < r → ptn (fun j => n (ti i j 0)) r = (du i : Nat) ∧ du i < r) (h119 : d4.1 119 0 = 1) (h0 : d4.1 113 0 = 0) (hG : ∀ X, X < (p - 1) ^ (r - 1) → (G X = true ↔ Tn9 n r p iv du c (tX9 p r X))) (hN : (p - 1) ^ (r - 1) ≤ 27000) (hi : inR i) (hk : inR k) : (i = -1 → MA9 (X12_turned_j43 113 i k 1 d4) d4 0 (cn9 G ((p - 1) ^ (r - 1)) : Int)) ∧ (i ≠ -1 → ((0 ≤ i ∧ i < (cn9 G ((p - 1) ^ (r - 1)) : Int) ∧ 0 ≤ k ∧ k < r) → MA9 (X12_turned_j43 113 i k 1 d4) d4 0 (tX9 p r (pk9 G ((p - 1) ^ (r - 1)) i.toNat) k.toNat)) ∧ (¬ (0 ≤ i ∧ i < (cn9 G ((p - 1) ^ (r - 1)) : Int) ∧ 0 ≤ k ∧ k < r) → MA9 (X12_turned_j43 113 i k 1 d4) d4 1 0)) := by
  have h5 := hT.1
  have j91 : ∀ D : DA, X12_turned_j91 113 D = some (0, wI D 113 0 1) := fun D => rfl
  have sm9 : ∀ D : DA, (∀ c j, (c < 138 ∨ 147 < c) → (c ≠ 113 ∨ (j ≠ 65 ∧ j ≠ 66 ∧ j ≠ 67)) → D.1 c j = d4.1 c j) → Sm d4 D := fun D h c j hrel => h c j (by
    rcases Nat.lt_or_ge c 138 with y | y
    · exact Or.inl y
    · rcases Nat.lt_or_ge 147 c with y2 | y2
      · exact Or.inr y2
      · exfalso
        rcases (show c = 138 ∨ c = 139 ∨ c = 140 ∨ c = 141 ∨ c = 142 ∨ c = 143 ∨ c = 144 ∨ c = 145 ∨ c = 146 ∨ c = 147 by omega) with rfl | rfl | rfl | rfl | rfl | rfl | rfl | rfl | rfl | rfl <;> cases hrel) (by
    by_cases e : c = 113
    · subst e
      exact Or.inr ⟨fun e => by (subst e; cases hrel), fun e => by (subst e; cases hrel), fun e => by (subst e; cases hrel)⟩
    · exact Or.inl e)
  unfold X12_turned_j43
  rw [gd_pos (by omega)]
  refine ⟨fun e => ?_, fun e => ?_⟩
  · subst e
    obtain ⟨D, t1, t2, t3, t4⟩ := x12_findT (d := d4) (w := -1) hT h14 hr hp h2 h31 hiv hc hb hdu h119 hG hN (by decide)
    rw [if_pos rfl, gd_pos (by decide), if_neg (by decide), bd_pos t1]
    unfold X12_turned_j60
    rw [gd_pos (by decide), if_neg (by decide)]
    rcases t4 with ⟨u1, -, -⟩ | ⟨-, -, u3⟩
    · omega
    · rw [u3]
      exact ⟨D, rfl, by rw [t3 113 0 (by decide) (Or.inr (by decide))]; exact h0, sm9 D t3, by rw [t2]⟩
  · rw [if_neg e, gd_pos (by decide), if_neg (by decide)]
    have ki := x12_isKind (d := d4) (r := r) (v := k) hr h5.2 hk
    by_cases ck : kd r k
    · rw [b1_pos (ki.1 ck), gd_pos (by decide), if_neg (by decide), gd_pos hi]
      by_cases c0 : 0 ≤ i
      · rw [if_pos c0]
        obtain ⟨D, t1, t2, t3, t4⟩ := x12_findT (d := d4) (w := i) hT h14 hr hp h2 h31 hiv hc hb hdu h119 hG hN (by omega)
        rw [bd_pos t1]
        rcases t4 with ⟨u1, u2, u3⟩ | ⟨u1, u2, u3⟩
        · rw [u2, gd_pos (by decide), if_neg (by decide), gd_pos (by have := ck.1; have := ck.2; omega)]
          have ek : k.toNat < r := by have := ck.1; have := ck.2; omega
          have : D.1 (113 + 34) k.toNat = tX9 p r (pk9 G ((p - 1) ^ (r - 1)) i.toNat) k.toNat := u3 _ ek
          rw [this]
          refine ⟨fun _ => ⟨D, rfl, by rw [t3 113 0 (by decide) (Or.inr (by decide))]; exact h0, sm9 D t3, by rw [t2]⟩, fun z => absurd ⟨u1.1, u1.2, ck.1, ck.2⟩ z⟩
        · rw [u2, gd_pos (by decide), if_pos rfl]
          refine ⟨fun z => absurd ⟨z.1, z.2.1⟩ u1, fun _ => ⟨wI D 113 0 1, rfl, by rw [wI_at, fu_s], (sm9 D t3).tr (Sm.wI rfl), by show D.2 161 = _; rw [t2]⟩⟩
      · rw [if_neg c0, j91]
        exact ⟨fun z => absurd z.1 c0, fun _ => ⟨_, rfl, by rw [wI_at, fu_s], Sm.wI rfl, rfl⟩⟩
    · rw [b1_pos (ki.2 ck), gd_pos (by decide), if_pos rfl, j91]
      exact ⟨fun z => absurd ⟨z.2.2.1, z.2.2.2⟩ ck, fun _ => ⟨_, rfl, by rw [wI_at, fu_s], Sm.wI rfl, rfl⟩⟩
theorem MA9.pre {o o' : Option (Int × DA)} {d d0 : DA} {c v : Int} (h : MA9 o d0 c v) (e : o' = o) (hS : Sm d d0) (h2 : d0.2 = d.2) : MA9 o' d c v := by
  obtain ⟨d', a1, a2, a3, a4⟩ := h
  exact ⟨d', e.trans a1, a2, hS.tr a3, by rw [a4, h2]⟩
/-- all that the reference answers of the turns by one character -/
theorem tk_mk {n : Nat → Int} {r p q ci st : Nat} {C : Nat → Nat → Int} {iv : Int → Int} {du : Nat → Nat} {G : Nat → Bool} {fd : Nat → Int} (hT : TG n r) (h4 : r ≤ 4) (h2 : 2 ≤ p) (h31 : p ≤ 31) (hiv : IvG p iv) (hq : q ≤ 5) (hC : ChL n r p q C) (hci : ci < q) (hfw : ∀ d : DA, d.1 114 = n → fwd d 113 r = none) (hdu : ∀ i, i < r → ptn (fun j => n (ti i j 0)) r = (du i : Nat) ∧ du i < r) (hG : ∀ X, X < (p - 1) ^ (r - 1) → (G X = true ↔ Tn9 n r p iv du (C ci) (tX9 p r X))) (hN : (p - 1) ^ (r - 1) ≤ 27000) (hfd : ∀ i, i < cn9 G ((p - 1) ^ (r - 1)) → fd (st + i) = en9 (tX9 p r (pk9 G ((p - 1) ^ (r - 1)) i)) r (r - 1)) : TK9 ci (cn9 G ((p - 1) ^ (r - 1))) st fd n r p := by
  have h5 := hT.1
  have enb : ∀ X, (0 ≤ en9 (tX9 p r X) r (r - 1) ∧ en9 (tX9 p r X) r (r - 1) < 32768) ∧ ∀ k, 1 ≤ k → k < r → en9 (tX9 p r X) r (r - 1) / 32 ^ (k - 1) % 32 = tX9 p r X k := fun X => en_bd h5.1 h4 (fun k hk => by have := tX9_b (r := r) (X := X) h2 k hk; omega)
  refine ⟨fun i hi => by rw [hfd i hi]; exact (enb _).1, fun d hR i k hi hk => ?_⟩
  obtain ⟨r1, r2, r3, r4, r5, r6⟩ := hR
  have hb : Cb p r (C ci) := fun k hk => (hC.1 ci hci).2.1 k hk
  have y1 : (wI d 113 0 0).1 113 1 = r := by rw [wI_at, fu_n (by decide)]; exact r2
  have y4 : (wI d 113 0 0).1 113 4 = p := by rw [wI_at, fu_n (by decide)]; exact r3
  have y14 : (wI d 113 0 0).1 114 = n := by rw [wI_ne (by decide)]; exact r1
  obtain ⟨d4, f1, f2, f3, f4, -⟩ := x12_findC (d := wI d 113 0 0) (n := n) (w := (ci : Int)) hT y14 y1 y4 h2 h31 (by omega) hq hC
  have cw : (0 : Int) ≤ (ci : Int) ∧ (ci : Int) < q := by omega
  rw [if_pos cw] at f1
  have z14 : d4.1 114 = n := funext fun j => by rw [f3 114 j (by decide) (Or.inl (by decide)), y14]
  have z1 : d4.1 113 1 = r := by rw [f3 113 1 (by decide) (Or.inr (by decide))]; exact y1
  have z4 : d4.1 113 4 = p := by rw [f3 113 4 (by decide) (Or.inr (by decide))]; exact y4
  have z0 : d4.1 113 0 = 0 := by rw [f3 113 0 (by decide) (Or.inr (by decide)), wI_at, fu_s]
  have z119 : d4.1 119 0 = 1 := by rw [f3 119 0 (by decide) (Or.inl (by decide)), wI_ne (by decide)]; exact r6
  have hd := (x12_hasD (d := d4) (n := n) (r := r) hT z14 z1).1 (hfw d4 z14)
  have e0 : X12_turned 113 (ci : Int) i k d = X12_turned_j43 113 i k 1 d4 := by
    unfold X12_turned
    rw [lt_pos, gd_pos (by omega), if_neg (by omega), bd_pos f1, gd_pos (by decide), if_neg (by decide), z1, gd_pos (by omega), if_neg (by omega), b1_pos hd, gd_pos (by decide), if_neg (by decide)]
  have sm4 : Sm d d4 := (Sm.wI rfl).tr (findC_sm f3)
  obtain ⟨a1, a2⟩ := x12_tj43 (d4 := d4) (c := C ci) (G := G) (i := i) (k := k) hT h4 z14 z1 z4 h2 h31 hiv (fun k hk => by rw [f4 cw k hk, Int.toNat_natCast]) hb hdu z119 z0 hG hN hi hk
  refine ⟨fun e => (a1 e).pre e0 sm4 f2, fun e => ⟨fun z => ?_, fun z => ((a2 e).2 z).pre e0 sm4 f2⟩⟩
  have := ((a2 e).1 z).pre e0 sm4 f2
  have ev : (if k = 0 then 1 else fd (st + i.toNat) / 32 ^ (k.toNat - 1) % 32) = tX9 p r (pk9 G ((p - 1) ^ (r - 1)) i.toNat) k.toNat := by
    by_cases ck : k = 0
    · rw [if_pos ck, ck]; rfl
    · rw [if_neg ck, hfd i.toNat (by omega)]
      exact (enb _).2 _ (by omega) (by omega)
  rw [ev]
  exact this

/-! ===== list: the class goes through the rows ===== -/
section
variable {lr w lb : Nat}
/-- what the search rests on -/
def SC9 (x : XS) (lr w lb : Nat) : Prop := LsA x.1 lr w ∧ EqT x.1 lr w ∧ x.1.1 46 8 = (gcn lr w : Int) ∧ x.1.1 46 1 = (lb : Int) ∧ (∀ g, g < gcn lr w → x.1.1 50 g = (gpA lr w).2.1 g) ∧ xe x = 0 ∧ xok9 x ∧ 64 ≤ xzc x
theorem SC9.sl {x0 x : XS} {G : Nat → Bool} {base M : Nat} (h : SC9 x0 lr w lb) (hS : SL9 x0 G base M x) : SC9 x lr w lb := by
  obtain ⟨a1, a2, a3, a4, a5, a6, a7, a8⟩ := h
  obtain ⟨b1, b2, b3, b4, b5, b6, b7⟩ := hS
  have e48 := b2 48 (by decide) (by decide) (by decide)
  have e49 := b2 49 (by decide) (by decide) (by decide)
  have e50 := b2 50 (by decide) (by decide) (by decide)
  have e52 := b2 52 (by decide) (by decide) (by decide)
  have e53 := b2 53 (by decide) (by decide) (by decide)
  refine ⟨?_, ?_, by rw [b3 8 (by decide)]; exact a3, by rw [b3 1 (by decide)]; exact a4, by rw [e50]; exact a5, by rw [b7.2.2.1]; exact a6, b7.ok a7, by have := b7.2.1.1; omega⟩
  · unfold LsA at a1 ⊢
    rw [b3 0 (by decide), e48, e49]
    exact a1
  · unfold EqT at a2 ⊢
    rw [e52, e53]
    exact a2
/-- how far the search has come -/
def SE9 (x0 : XS) (lr w lb : Nat) (G : Nat → Bool) (base : Nat) (x : XS) (g Y t : Nat) : Prop := SL9 x0 G base ((Y * (lb + 1) + t) * (lb + 1) ^ (gcn lr w - 1 - g)) x ∧ (∀ j, j < g → x.1.1 51 j = (dg9 (lb + 1) Y g j : Int)) ∧ x.1.1 51 g = (t : Int) - 1 ∧ ∀ q, q < g → FtN lr w (x.1.1 51) q
theorem x2_srch {x0 : XS} {G : Nat → Bool} {base : Nat} (hq : (lr, w) ∈ lw5) (hl : lb ≤ 5) (hC : SC9 x0 lr w lb) (hN : (lb + 1) ^ gcn lr w ≤ 59049) (hM : (lb + 1) * stp9 (lb + 1) (gcn lr w - 1) + 1 < 1000000) (hG : ∀ X, X < (lb + 1) ^ gcn lr w → (G X = true ↔ GdN lr w lb X)) (hb : base + cn9 G ((lb + 1) ^ gcn lr w) ≤ 4000) (h2 : x0.1.1 46 2 = (base : Int)) (hz : base ≤ xzc x0) (h81 : xzc x0 ≤ 8192) (h51 : x0.1.1 51 0 = -1) : ∃ x', lpE (fun q => X2_search_b15 q.1 q.2.1 q.2.2) (0, 0, x0) (fun e => some ((Sum.inl (), e) : (Unit ⊕ Nat) × XS)) = some (.inl (), x') ∧ SL9 x0 G base ((lb + 1) ^ gcn lr w) x' := by
  obtain ⟨h2', h4, -, -⟩ := lw5_bd hq
  obtain ⟨n1, n10⟩ := gcn_bd hq
  have hp0 : 0 < lb + 1 := by omega
  have hB : ((lb + 1 : Nat) : Int) = (lb : Int) + 1 := rfl
  have S0 : SL9 x0 G base 0 x0 := ⟨rfl, fun _ _ _ _ => rfl, fun _ _ => rfl, ⟨h2, hz⟩, fun _ _ => rfl, fun X hX => absurd hX (Nat.not_lt_zero _), by
    have z : ZC9 x0 (xD x0 x0.1) := ZC9.rf h81 _
    exact z⟩
  have R0 : SE9 x0 lr w lb G base x0 0 0 0 := by
    refine ⟨by rw [Nat.zero_mul, Nat.zero_add, Nat.zero_mul]; exact S0, fun j hj => absurd hj (Nat.not_lt_zero _), h51, fun j hj => absurd hj (Nat.not_lt_zero _)⟩
  obtain ⟨x', k1, k2⟩ := dfs9 (b := fun q : Int × Int × XS => X2_search_b15 q.1 q.2.1 q.2.2) (k := fun e : XS => some ((Sum.inl (), e) : (Unit ⊕ Nat) × XS)) (lb + 1) (gcn lr w) (SE9 x0 lr w lb G base) (SL9 x0 G base ((lb + 1) ^ gcn lr w)) n1 hM (fun g Y x s hg hY hR hs => by
    obtain ⟨r1, r2, r3, r4⟩ := hR
    have hCx := hC.sl r1
    have e1 : x.1.1 51 g + 1 = ((lb + 1 : Nat) : Int) := by rw [r3]; omega
    refine ⟨xD x (wI x.1 51 g ((lb + 1 : Nat) : Int)), ?_, fun e => ?_, fun g' Y' t eg eY ht => ?_⟩
    · show X2_search_b15 (g : Int) (s : Int) x = _
      unfold X2_search_b15
      rw [gd_pos (by omega), if_neg (by omega), gd_pos (by omega), if_neg (by omega), gd_pos (by omega), gd_pos (by omega), Int.toNat_natCast, e1, lt_pos, lt_pos, gd_pos (by omega)]
      have q51 : (xD x (wI x.1 51 g ((lb + 1 : Nat) : Int))).1.1 51 g = ((lb + 1 : Nat) : Int) := by
        show (wI x.1 51 g _).1 51 g = _
        rw [wI_at, fu_s]
      have q46 : (xD x (wI x.1 51 g ((lb + 1 : Nat) : Int))).1.1 46 1 = (lb : Int) := by
        show (wI x.1 51 g _).1 46 1 = _
        rw [wI_ne (by decide)]; exact hCx.2.2.2.1
      rw [q51, q46, gd_pos (by omega), if_neg (by omega)]
    · subst e
      have eY : Y = 0 := by rw [Nat.pow_zero] at hY; omega
      have em : (Y * (lb + 1) + (lb + 1)) * (lb + 1) ^ (gcn lr w - 1 - 0) = (lb + 1) ^ gcn lr w := by
        rw [eY, Nat.zero_mul, Nat.zero_add, Nat.sub_zero, Nat.mul_comm, ← Nat.pow_succ, show (gcn lr w - 1).succ = gcn lr w by omega]
      rw [em] at r1
      exact r1.d rfl (fun q z => wI_ne z)
    · subst eg eY
      have em := ac_up (B := lb + 1) (L := gcn lr w) (g := g') (Y := Y' * (lb + 1) + t) hg
      rw [em] at r1
      refine ⟨?_, fun j hj => ?_, ?_, fun q hq9 => ?_⟩
      · rw [show Y' * (lb + 1) + (t + 1) = Y' * (lb + 1) + t + 1 by omega]
        exact r1.d rfl (fun q z => wI_ne z)
      · have q1 := r2 j (by omega)
        rw [dg_ch ht hj] at q1
        show (wI x.1 51 (g' + 1) _).1 51 j = _
        rw [wI_at, fu_n (by omega)]; exact q1
      · have q1 := r2 g' (by omega)
        rw [dg_la ht] at q1
        show (wI x.1 51 (g' + 1) _).1 51 g' = _
        rw [wI_at, fu_n (by omega), q1]; omega
      · refine (FtN.agr (fun v hv => ?_)).mp (r4 q (by omega))
        show x.1.1 51 v = (wI x.1 51 (g' + 1) _).1 51 v
        rw [wI_at, fu_n (by omega)]) (fun g Y t x s hg ht hY hR hs => by
    obtain ⟨r1, r2, r3, r4⟩ := hR
    have hCx := hC.sl r1
    have e1 : x.1.1 51 g + 1 = (t : Int) := by rw [r3]; omega
    obtain ⟨y, hy⟩ : ∃ y, y = xD x (wI x.1 51 g (t : Int)) := ⟨_, rfl⟩
    have y51 : y.1.1 51 = fu (x.1.1 51) g (t : Int) := by
      rw [hy]
      show (wI x.1 51 g _).1 51 = _
      rw [wI_at]
    have s1 : SL9 x0 G base ((Y * (lb + 1) + t) * (lb + 1) ^ (gcn lr w - 1 - g)) y := by
      rw [hy]; exact r1.d rfl (fun q z => wI_ne z)
    have hCy := hC.sl s1
    obtain ⟨c1, c2, c3, c4, c5, c6, c7, c8⟩ := hCy
    have row : ∀ j, j ≤ g → y.1.1 51 j = (dg9 (lb + 1) (Y * (lb + 1) + t) (g + 1) j : Int) := fun j hj => by
      rw [y51, fu_app]
      by_cases e : j = g
      · rw [if_pos e, e, dg_la ht]
      · rw [if_neg e, r2 j (by omega), dg_ch ht (by omega)]
    have rbd : ∀ j, j ≤ g → 0 ≤ y.1.1 51 j ∧ y.1.1 51 j ≤ 9 := fun j hj => by
      rw [row j hj]
      have := dg_lt (B := lb + 1) (c := Y * (lb + 1) + t) (n := g + 1) (g := j) hp0
      omega
    have old : ∀ q, q < g → FtN lr w (y.1.1 51) q := fun q hq9 => by
      refine (FtN.agr (fun v hv => ?_)).mp (r4 q hq9)
      rw [y51, fu_n (by omega)]
    have agree : ∀ X, X / (lb + 1) ^ (gcn lr w - 1 - g) = Y * (lb + 1) + t → ∀ q, q ≤ g → y.1.1 51 q = fg0 lb X (gcn lr w) q := fun X hX q hq9 => by
      rw [row q hq9]
      unfold fg0
      rw [dg_pre hp0 hg hq9, hX]
    have hXl : (Y * (lb + 1) + t + 1) * (lb + 1) ^ (gcn lr w - 1 - g) ≤ (lb + 1) ^ gcn lr w := by
      have b1' : (Y * (lb + 1) + t + 1) * (lb + 1) ^ (gcn lr w - 1 - g) ≤ (lb + 1) ^ (g + 1) * (lb + 1) ^ (gcn lr w - 1 - g) := by
        refine Nat.mul_le_mul_right _ ?_
        have : (Y + 1) * (lb + 1) ≤ (lb + 1) ^ g * (lb + 1) := Nat.mul_le_mul_right _ hY
        rw [← Nat.pow_succ, Nat.add_mul, Nat.one_mul] at this
        have z : (lb + 1) ^ (g + 1) = (lb + 1) ^ g.succ := rfl
        omega
      rw [← Nat.pow_add, show g + 1 + (gcn lr w - 1 - g) = gcn lr w by omega] at b1'
      exact b1'
    have head : ∀ v, X2_fitsAt 46 (g : Int) y.1 = some v → inR v → X2_search_b15 (g : Int) (s : Int) x = if v = 0 then some (.inl ((g : Int), (s : Int) + 1, y)) else (gd (inR (g : Int) ∧ inR ((y.1.1 46 8) - 1)) <| if ((y.1.1 46 8) - 1) ≤ (g : Int) then (b1 (X2_isLeast 46 y.1) fun x8 => gd (inR x8) <| if x8 = 0 then (some (.inl ((g : Int), (s : Int) + 1, y))) else xb y (X2_addRow y) (fun _ x9 => some (.inl ((g : Int), (s : Int) + 1, x9))) (fun _ _ => none)) else gd (ix ((g : Int) + 1) 10) <| lt9 (wI y.1 51 (Int.toNat ((g : Int) + 1)) (-1)) fun d10 => lt9 (xD y d10) fun x11 => some (.inl ((g : Int) + 1, (s : Int) + 1, x11))) := fun v hv hvR => by
      unfold X2_search_b15
      have q51 : y.1.1 51 g = (t : Int) := by rw [y51, fu_s]
      rw [gd_pos (by omega), if_neg (by omega), gd_pos (by omega), if_neg (by omega), gd_pos (by omega), gd_pos (by omega), Int.toNat_natCast, e1, lt_pos, lt_pos, gd_pos (by omega), ← hy, q51, c4, gd_pos (by omega), if_pos (by omega), b1_pos hv, gd_pos hvR]
    -- the next at this level, the room of the list told
    have nextS : ∀ z : XS, SL9 x0 G base ((Y * (lb + 1) + (t + 1)) * (lb + 1) ^ (gcn lr w - 1 - g)) z → z.1.1 51 = y.1.1 51 → SE9 x0 lr w lb G base z g Y (t + 1) := fun z hz9 e51 => by
      refine ⟨hz9, fun j hj => ?_, ?_, by rw [e51]; exact old⟩
      · rw [e51, row j (by omega), dg_ch ht hj]
      · rw [e51, row g (Nat.le_refl _), dg_la ht]; omega
    have em : (Y * (lb + 1) + (t + 1)) * (lb + 1) ^ (gcn lr w - 1 - g) = (Y * (lb + 1) + t) * (lb + 1) ^ (gcn lr w - 1 - g) + (lb + 1) ^ (gcn lr w - 1 - g) := by
      rw [← Nat.add_assoc, Nat.add_mul, Nat.one_mul]
    show (∃ H', X2_search_b15 (g : Int) (s : Int) x = _ ∧ _) ∨ _
    rcases x2_fits hq c1 c2 hg rbd with ⟨fit, ef⟩ | ⟨fit, ef⟩
    · have hd9 := head 1 ef (by decide)
      rw [if_neg (by decide), c3, gd_pos (by omega)] at hd9
      by_cases cl : g + 1 < gcn lr w
      · right
        rw [if_neg (by omega), gd_pos (by omega), lt_pos, lt_pos, show ((g : Int) + 1).toNat = g + 1 by omega] at hd9
        refine ⟨cl, _, hd9, ?_, fun j hj => ?_, ?_, fun q hq9 => ?_⟩
        · rw [ac_dn cl]
          exact s1.d rfl (fun q z => wI_ne z)
        · show (wI y.1 51 (g + 1) (-1)).1 51 j = _
          rw [wI_at, fu_n (by omega)]; exact row j (by omega)
        · show (wI y.1 51 (g + 1) (-1)).1 51 (g + 1) = _
          rw [wI_at, fu_s]; rfl
        · have hF : FtN lr w (y.1.1 51) q := by
            by_cases c : q = g
            · rw [c]; exact fit
            · exact old q (by omega)
          refine (FtN.agr (fun v hv => ?_)).mp hF
          show y.1.1 51 v = (wI y.1 51 (g + 1) (-1)).1 51 v
          rw [wI_at, fu_n (by omega)]
      · -- a whole row
        left
        have eg : gcn lr w - 1 - g = 0 := by omega
        rw [if_pos (by omega)] at hd9
        have hX0 : (Y * (lb + 1) + t) / (lb + 1) ^ (gcn lr w - 1 - g) = Y * (lb + 1) + t := by rw [eg, Nat.pow_zero, Nat.div_one]
        rw [eg, Nat.pow_zero, Nat.mul_one] at s1 hXl
        have hXN : Y * (lb + 1) + t < (lb + 1) ^ gcn lr w := by omega
        have ag : ∀ q, q < gcn lr w → y.1.1 51 q = fg0 lb (Y * (lb + 1) + t) (gcn lr w) q := fun q hq9 => agree _ hX0 q (by omega)
        have sums : ∀ i j k l, 1 ≤ i → i < k → k < lr → 1 ≤ j → j < lr → 1 ≤ l → l < lr → AsN lr w (fg0 lb (Y * (lb + 1) + t) (gcn lr w)) i j k l := (FtN.all hq).mp (fun q hq9 => (FtN.agr (fun v hv => ag v (by omega))).mp (by
          by_cases c : q = g
          · rw [c]; exact fit
          · exact old q (by omega)))
        have gi := hG _ hXN
        have e0 : (Y * (lb + 1) + (t + 1)) * (lb + 1) ^ (gcn lr w - 1 - g) = Y * (lb + 1) + t + 1 := by rw [eg, Nat.pow_zero, Nat.mul_one]; rfl
        rcases x2_least hq c1 c3 c5 (fun q hq9 => rbd q (by omega)) with ⟨ls, el⟩ | ⟨ls, el⟩
        · have gt : G (Y * (lb + 1) + t) = true := gi.mpr ⟨sums, (LstN.agr hq ag).mp ls⟩
          have hlt := cn9_lt (P := G) hXN gt
          obtain ⟨b1', b2', b3', ⟨b4', b4''⟩, b5', b6', b7'⟩ := s1
          obtain ⟨z, u1, u2, u3, u4, u5, u6, u7, u8, u9⟩ := x2_add (x := y) (L := gcn lr w) (lb := lb) (am := base + cn9 G (Y * (lb + 1) + t)) (X := Y * (lb + 1) + t) c3 c4 hl n10 (fun q hq9 => ag q hq9) hXN b4' b4'' c8 b7'.2.1.2 (by omega) c6 c7
          rw [b1_pos el, gd_pos (by decide), if_neg (by decide), xb_ok u1 u8.2.2.2.2.1] at hd9
          refine ⟨z, hd9, nextS z ?_ (u3 51 (by decide) (by decide))⟩
          rw [e0]
          have e : cn9 G (Y * (lb + 1) + t + 1) = cn9 G (Y * (lb + 1) + t) + 1 := by rw [cn9_s, if_pos gt]
          refine ⟨u2.trans b1', fun q z1 z2 z3 => (u3 q z1 z2).trans (b2' q z1 z2 z3), fun j z1 => (u4 j z1).trans (b3' j z1), ⟨?_, ?_⟩, fun q hq9 => (u7 q (by omega)).trans (b5' q hq9), fun X z1 z2 => ?_, b7'.tr u8⟩
          · rw [u5, e]; congr 1
          · rw [e]; omega
          · by_cases c : X = Y * (lb + 1) + t
            · rw [c]; exact u6
            · have := cn9_lt (P := G) (x := X) (m := Y * (lb + 1) + t) (by omega) z2
              rw [u7 _ (by omega)]; exact b6' X (by omega) z2
        · rw [b1_pos el, gd_pos (by decide), if_pos rfl] at hd9
          refine ⟨y, hd9, nextS y ?_ rfl⟩
          rw [e0]
          refine s1.more (by omega) (fun X z1 z2 gX => ?_)
          have : X = Y * (lb + 1) + t := by omega
          rw [this] at gX
          exact ls ((LstN.agr hq ag).mpr (gi.mp gX).2)
    · have hd9 := head 0 ef (by decide)
      rw [if_pos rfl] at hd9
      refine Or.inl ⟨y, hd9, nextS y ?_ rfl⟩
      refine s1.more (by rw [em]; exact Nat.le_add_right _ _) (fun X z1 z2 gX => fit ?_)
      have hX9 : X / (lb + 1) ^ (gcn lr w - 1 - g) = Y * (lb + 1) + t := iv_div hp0 z1 z2
      have hXN : X < (lb + 1) ^ gcn lr w := Nat.lt_of_lt_of_le z2 hXl
      exact (FtN.agr (fun v hv => agree X hX9 v hv)).mpr ((FtN.all hq).mpr ((hG X hXN).mp gX).1 g hg)) (fun x s hs hF => by
    show X2_search_b15 (-1) (s : Int) x = _
    unfold X2_search_b15
    rw [gd_pos (by omega), if_neg (by omega), gd_pos (by decide), if_pos (by decide)]) R0
  exact ⟨x', k1, k2⟩
end

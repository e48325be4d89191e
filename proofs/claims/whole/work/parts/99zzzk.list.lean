/-! ===== list: renamings, on the class's side ===== -/
def pmL : List Nat := [1, 2, 3, 1, 3, 2, 2, 1, 3, 2, 3, 1, 3, 1, 2, 3, 2, 1]
def pm9 (t i : Nat) : Nat := pmL.getD (3 * t + i - 1) 0
theorem ren_pm : ∀ n ∈ List.range 18, renI (n : Int) = (pmL.getD n 0 : Nat) := by decide +kernel
theorem pm_bd9 : ∀ t ∈ List.range 6, ∀ i ∈ r4, 1 ≤ i → 1 ≤ pm9 t i ∧ pm9 t i < 4 := by decide +kernel
theorem pm_bd {t i : Nat} (ht : t < 6) (i1 : 1 ≤ i) (i4 : i < 4) : 1 ≤ pm9 t i ∧ pm9 t i < 4 := pm_bd9 t (List.mem_range.mpr ht) i (r4_mem i4) i1
theorem ren_at {t i : Nat} (ht : t < 6) (i1 : 1 ≤ i) (i4 : i < 4) : renI (((3 * t : Nat) : Int) + (i : Int) - 1) = (pm9 t i : Nat) := by
  have e : ((3 * t : Nat) : Int) + (i : Int) - 1 = ((3 * t + i - 1 : Nat) : Int) := by omega
  rw [e]
  exact ren_pm _ (List.mem_range.mpr (by omega))
/-- the first set of a group -/
def fq9 (lr w g : Nat) : Nat := ((gpA lr w).2.1 g).toNat
def fa9 (lr w g : Nat) : Nat := fq9 lr w g / 16
def fb9 (lr w g : Nat) : Nat := fq9 lr w g / 4 % 4
def fc9 (lr w g : Nat) : Nat := fq9 lr w g % 4
theorem fst_all : ∀ q ∈ lw5, ∀ g ∈ List.range 10, g < gcn q.1 q.2 → (gpA q.1 q.2).2.1 g = (fq9 q.1 q.2 g : Int) ∧ 1 ≤ fa9 q.1 q.2 g ∧ fa9 q.1 q.2 g ≤ fb9 q.1 q.2 g ∧ fb9 q.1 q.2 g ≤ fc9 q.1 q.2 g ∧ fc9 q.1 q.2 g < q.1 ∧ fq9 q.1 q.2 g < 64 ∧ grp q.1 q.2 (fa9 q.1 q.2 g) (fb9 q.1 q.2 g) (fc9 q.1 q.2 g) = g := by decide +kernel
/-- the renaming t keeps duals -/
def KDc (lr w t : Nat) : Prop := ∀ i, 1 ≤ i → i < lr → pm9 t i < lr ∧ dl9 lr w (pm9 t i) = pm9 t (dl9 lr w i)
/-- a comes before b -/
def Lw9 (L : Nat) (a b : Nat → Int) : Prop := ∃ g, g < L ∧ a g < b g ∧ ∀ h, h < g → a h = b h
/-- the row, its kinds renamed by q -/
def rnG (lr w : Nat) (fg : Nat → Int) (q : Nat → Nat) (g : Nat) : Int := fg (grp lr w (q (fa9 lr w g)) (q (fb9 lr w g)) (q (fc9 lr w g)))
/-- no renaming that keeps duals gives a row before -/
def LstN (lr w : Nat) (fg : Nat → Int) : Prop := ∀ t, t < 6 → KDc lr w t → ¬ Lw9 (gcn lr w) (rnG lr w fg (pm9 t)) fg
theorem lpR_lw {R Y : Type} {b : Int → Option (Int ⊕ (Unit ⊕ R))} {k : Unit → Option Y} {j : R → Option Y} {z0 z1 : R} (L : Nat) (u v : Nat → Int) (hL : L < 4000000) (hb : ∀ i : Nat, i < L → (u i = v i ∧ b (i : Int) = some (.inl ((i : Int) + 1))) ∨ (u i < v i ∧ b (i : Int) = some (.inr (.inr z1))) ∨ (v i < u i ∧ b (i : Int) = some (.inr (.inr z0)))) (he : b (L : Int) = some (.inr (.inl ()))) : (Lw9 L u v ∧ lpR b 0 k j = j z1) ∨ (¬ Lw9 L u v ∧ (lpR b 0 k j = j z0 ∨ lpR b 0 k j = k ())) := by
  rcases lpR_ei (b := b) (k := k) (j := j) (s0 := 0) (fun i s => s = (i : Int) ∧ ∀ h, h < i → u h = v h) (fun _ => ∀ h, h < L → u h = v h) (fun x => (x = z1 ∧ Lw9 L u v) ∨ (x = z0 ∧ ¬ Lw9 L u v)) L hL ⟨rfl, fun h hh => absurd hh (Nat.not_lt_zero _)⟩ (fun i s hi hI => by
      obtain ⟨rfl, hI⟩ := hI
      rcases hb i hi with ⟨g, e⟩ | ⟨g, e⟩ | ⟨g, e⟩
      · refine Or.inl ⟨_, e, by omega, fun h hh => ?_⟩
        by_cases c : h = i
        · rw [c]; exact g
        · exact hI h (by omega)
      · exact Or.inr ⟨_, e, Or.inl ⟨rfl, i, hi, g, hI⟩⟩
      · refine Or.inr ⟨_, e, Or.inr ⟨rfl, ?_⟩⟩
        rintro ⟨g', g1, g2, g3⟩
        rcases Nat.lt_trichotomy g' i with c | c | c
        · have := hI g' c; omega
        · subst c; omega
        · have := g3 i c; omega) (fun s hI => by
      obtain ⟨rfl, hI⟩ := hI
      exact ⟨(), he, hI⟩) with ⟨e, h1, h2⟩ | ⟨x, h1, ⟨rfl, h2⟩ | ⟨rfl, h2⟩⟩
  · refine Or.inr ⟨?_, Or.inr h1⟩
    rintro ⟨g', g1, g2, g3⟩
    have := h2 g' g1
    omega
  · exact Or.inl ⟨h2, h1⟩
  · exact Or.inr ⟨h2, Or.inl h1⟩
section
variable {lr w : Nat}
theorem fst_of {g : Nat} (hq : (lr, w) ∈ lw5) (hg : g < gcn lr w) : (gpA lr w).2.1 g = (fq9 lr w g : Int) ∧ 1 ≤ fa9 lr w g ∧ fa9 lr w g ≤ fb9 lr w g ∧ fb9 lr w g ≤ fc9 lr w g ∧ fc9 lr w g < lr ∧ fq9 lr w g < 64 ∧ grp lr w (fa9 lr w g) (fb9 lr w g) (fc9 lr w g) = g := by
  have := (gcn_bd hq).2
  exact fst_all (lr, w) hq g (List.mem_range.mpr (by omega)) hg
theorem x2_keeps {E : DA} {t : Nat} (hq : (lr, w) ∈ lw5) (hE : LsA E lr w) (ht : t < 6) : (KDc lr w t ∧ X2_keepsDuals 46 ((3 * t : Nat) : Int) E = some 1) ∨ (¬ KDc lr w t ∧ X2_keepsDuals 46 ((3 * t : Nat) : Int) E = some 0) := by
  obtain ⟨e0, e1, e2⟩ := hE
  obtain ⟨h2, h4, -, -⟩ := lw5_bd hq
  unfold X2_keepsDuals KDc
  refine lpR_al (b := fun q => X2_keepsDuals_b2 46 ((3 * t : Nat) : Int) q E) (k := fun _ => some (1 : Int)) (j := fun r => some r) (z := (0 : Int)) 1 lr _ (by omega) (fun i i1 i2 => ?_) ?_
  · show (_ ∧ X2_keepsDuals_b2 46 ((3 * t : Nat) : Int) (i : Int) E = _) ∨ (_ ∧ X2_keepsDuals_b2 46 ((3 * t : Nat) : Int) (i : Int) E = _)
    obtain ⟨p1, p4⟩ := pm_bd ht i1 (show i < 4 by omega)
    obtain ⟨d1, d2, -⟩ := dl9_bd hq i2
    have d2' := d2 i1
    have r2 := ren_at ht d2' (show dl9 lr w i < 4 by omega)
    obtain ⟨s1, s4⟩ := pm_bd ht d2' (show dl9 lr w i < 4 by omega)
    have q2 : E.1 (46 + 2) i = ((dl9 lr w i : Nat) : Int) := e1 i i2
    unfold X2_keepsDuals_b2
    rw [e0, gd_pos (by omega), if_neg (by omega), gd_pos (by omega), ren_at ht i1 (by omega), lt_pos, gd_pos (by omega)]
    by_cases c : pm9 t i < lr
    · have q3 : E.1 (46 + 2) (pm9 t i) = ((dl9 lr w (pm9 t i) : Nat) : Int) := e1 _ c
      have d3 := (dl9_bd hq c).1
      rw [if_neg (by omega), gd_pos (by omega), gd_pos (by omega), Int.toNat_natCast, Int.toNat_natCast, q2, q3, gd_pos (by omega), r2, gd_pos (by omega)]
      by_cases c2 : dl9 lr w (pm9 t i) = pm9 t (dl9 lr w i)
      · rw [if_pos (by omega)]; exact Or.inl ⟨⟨c, c2⟩, rfl⟩
      · rw [if_neg (by omega)]; exact Or.inr ⟨fun z => c2 z.2, rfl⟩
    · rw [if_pos (by omega)]; exact Or.inr ⟨fun z => c z.1, rfl⟩
  · show X2_keepsDuals_b2 46 ((3 * t : Nat) : Int) (lr : Int) E = _
    unfold X2_keepsDuals_b2
    rw [e0, gd_pos (by omega), if_pos (by omega)]
theorem x2_comes {E : DA} {t : Nat} (hq : (lr, w) ∈ lw5) (hE : LsA E lr w) (ht : t < 6) (hK : KDc lr w t) (h8 : E.1 46 8 = (gcn lr w : Int)) (h50 : ∀ g, g < gcn lr w → E.1 50 g = (gpA lr w).2.1 g) (hf : ∀ g, g < gcn lr w → 0 ≤ E.1 51 g ∧ E.1 51 g ≤ 9) : (Lw9 (gcn lr w) (rnG lr w (E.1 51) (pm9 t)) (E.1 51) ∧ X2_comesBelow 46 ((3 * t : Nat) : Int) E = some 1) ∨ (¬ Lw9 (gcn lr w) (rnG lr w (E.1 51) (pm9 t)) (E.1 51) ∧ X2_comesBelow 46 ((3 * t : Nat) : Int) E = some 0) := by
  obtain ⟨e0, e1, e2⟩ := hE
  obtain ⟨h2, h4, -, -⟩ := lw5_bd hq
  have n10 := (gcn_bd hq).2
  unfold X2_comesBelow
  have key := lpR_lw (b := fun q => X2_comesBelow_b2 46 ((3 * t : Nat) : Int) q E) (k := fun _ => some (0 : Int)) (j := fun r => some r) (z0 := (0 : Int)) (z1 := (1 : Int)) (gcn lr w) (rnG lr w (E.1 51) (pm9 t)) (E.1 51) (by omega) (fun g hg => by
    show (_ ∧ X2_comesBelow_b2 46 ((3 * t : Nat) : Int) (g : Int) E = _) ∨ (_ ∧ X2_comesBelow_b2 46 ((3 * t : Nat) : Int) (g : Int) E = _) ∨ (_ ∧ X2_comesBelow_b2 46 ((3 * t : Nat) : Int) (g : Int) E = _)
    obtain ⟨f0, f1, f2, f3, f4, f5, f6⟩ := fst_of hq hg
    have a2 : fa9 lr w g < lr := by omega
    have b1' : 1 ≤ fb9 lr w g := by omega
    have b2 : fb9 lr w g < lr := by omega
    have c1' : 1 ≤ fc9 lr w g := by omega
    have x50 : E.1 (46 + 4) g = (fq9 lr w g : Int) := (h50 g hg).trans f0
    have s1 : ishr9 (fq9 lr w g : Int) 4 = (fa9 lr w g : Int) := shr_nat9 (s := 4) (by omega) (by decide)
    have s2 : iand9 (ishr9 (fq9 lr w g : Int) 2) 3 = (fb9 lr w g : Int) := by
      have : ishr9 (fq9 lr w g : Int) 2 = ((fq9 lr w g / 2 ^ 2 : Nat) : Int) := shr_nat9 (s := 2) (by omega) (by decide)
      rw [this]
      exact mask_nat9 (s := 2) (by have := Nat.div_le_self (fq9 lr w g) (2 ^ 2); omega) (by decide)
    have s3 : iand9 (fq9 lr w g : Int) 3 = (fc9 lr w g : Int) := mask_nat9 (s := 2) (by omega) (by decide)
    obtain ⟨pa1, pa4⟩ := pm_bd ht f1 (show fa9 lr w g < 4 by omega)
    obtain ⟨pb1, pb4⟩ := pm_bd ht b1' (show fb9 lr w g < 4 by omega)
    obtain ⟨pc1, pc4⟩ := pm_bd ht c1' (show fc9 lr w g < 4 by omega)
    have ka := (hK _ f1 a2).1
    have kb := (hK _ b1' b2).1
    have kc := (hK _ c1' f4).1
    have es : X2_set ((pm9 t (fa9 lr w g) : Nat) : Int) ((pm9 t (fb9 lr w g) : Nat) : Int) ((pm9 t (fc9 lr w g) : Nat) : Int) E = some ((st9 (pm9 t (fa9 lr w g)) (pm9 t (fb9 lr w g)) (pm9 t (fc9 lr w g)) : Nat) : Int) := by
      unfold X2_set st9
      refine congrArg some ?_
      omega
    have sl : st9 (pm9 t (fa9 lr w g)) (pm9 t (fb9 lr w g)) (pm9 t (fc9 lr w g)) < 64 := by unfold st9; omega
    have q3 : E.1 (46 + 3) (st9 (pm9 t (fa9 lr w g)) (pm9 t (fb9 lr w g)) (pm9 t (fc9 lr w g))) = (grp lr w (pm9 t (fa9 lr w g)) (pm9 t (fb9 lr w g)) (pm9 t (fc9 lr w g)) : Int) := e2 _ _ _ pa1 ka pb1 kb pc1 kc
    have lg := grp_lt hq pa1 ka pb1 kb pc1 kc
    have b5 := hf _ lg
    have b6 := hf g hg
    have q5 : E.1 (46 + 5) (grp lr w (pm9 t (fa9 lr w g)) (pm9 t (fb9 lr w g)) (pm9 t (fc9 lr w g))) = rnG lr w (E.1 51) (pm9 t) g := rfl
    have q6 : E.1 (46 + 5) g = E.1 51 g := rfl
    have b5' : 0 ≤ rnG lr w (E.1 51) (pm9 t) g ∧ rnG lr w (E.1 51) (pm9 t) g ≤ 9 := b5
    unfold X2_comesBelow_b2
    rw [h8, gd_pos (by omega), if_neg (by omega), gd_pos (by omega), Int.toNat_natCast, x50, s1, s2, s3, gd_pos (by omega), ren_at ht f1 (by omega), lt_pos, gd_pos (by omega), gd_pos (by omega), ren_at ht b1' (by omega), lt_pos, gd_pos (by omega), gd_pos (by omega), ren_at ht c1' (by omega), lt_pos, b1_pos es, gd_pos (by omega), Int.toNat_natCast, q3, gd_pos (by omega), Int.toNat_natCast, q5, q6, lt_pos, gd_pos (by omega), gd_pos (by omega)]
    by_cases c : rnG lr w (E.1 51) (pm9 t) g = E.1 51 g
    · rw [if_pos c]; exact Or.inl ⟨c, rfl⟩
    · rw [if_neg c, gd_pos (by omega), gd_pos (by omega)]
      by_cases c2 : E.1 51 g ≤ rnG lr w (E.1 51) (pm9 t) g
      · rw [if_pos c2]; exact Or.inr (Or.inr ⟨by omega, rfl⟩)
      · rw [if_neg c2]; exact Or.inr (Or.inl ⟨by omega, rfl⟩)) (by
    show X2_comesBelow_b2 46 ((3 * t : Nat) : Int) (gcn lr w : Int) E = _
    unfold X2_comesBelow_b2
    rw [h8, gd_pos (by omega), if_pos (by omega)])
  rcases key with ⟨a, e⟩ | ⟨a, e | e⟩
  · exact Or.inl ⟨a, e⟩
  · exact Or.inr ⟨a, e⟩
  · exact Or.inr ⟨a, e⟩
theorem x2_least {E : DA} (hq : (lr, w) ∈ lw5) (hE : LsA E lr w) (h8 : E.1 46 8 = (gcn lr w : Int)) (h50 : ∀ g, g < gcn lr w → E.1 50 g = (gpA lr w).2.1 g) (hf : ∀ g, g < gcn lr w → 0 ≤ E.1 51 g ∧ E.1 51 g ≤ 9) : (LstN lr w (E.1 51) ∧ X2_isLeast 46 E = some 1) ∨ (¬ LstN lr w (E.1 51) ∧ X2_isLeast 46 E = some 0) := by
  unfold X2_isLeast LstN
  rcases lpR_ei (b := fun q => X2_isLeast_b2 46 q E) (k := fun _ => some (1 : Int)) (j := fun r => some r) (s0 := 0) (fun i s => s = ((3 * i : Nat) : Int) ∧ ∀ t, t < i → KDc lr w t → ¬ Lw9 (gcn lr w) (rnG lr w (E.1 51) (pm9 t)) (E.1 51)) (fun _ => ∀ t, t < 6 → KDc lr w t → ¬ Lw9 (gcn lr w) (rnG lr w (E.1 51) (pm9 t)) (E.1 51)) (fun x => x = 0 ∧ ¬ ∀ t, t < 6 → KDc lr w t → ¬ Lw9 (gcn lr w) (rnG lr w (E.1 51) (pm9 t)) (E.1 51)) 6 (by decide) ⟨rfl, fun h hh => absurd hh (Nat.not_lt_zero _)⟩ (fun t s ht hI => by
      obtain ⟨rfl, hI⟩ := hI
      have nx : ((3 * t : Nat) : Int) + 3 = ((3 * (t + 1) : Nat) : Int) := by omega
      show (∃ s', X2_isLeast_b2 46 ((3 * t : Nat) : Int) E = _ ∧ _) ∨ (∃ x, X2_isLeast_b2 46 ((3 * t : Nat) : Int) E = _ ∧ _)
      unfold X2_isLeast_b2
      rw [gd_pos (by omega), if_neg (by omega)]
      rcases x2_keeps hq hE ht with ⟨a, e⟩ | ⟨a, e⟩
      · rw [b1_pos e, gd_pos (by decide), if_neg (by decide)]
        rcases x2_comes hq hE ht a h8 h50 hf with ⟨a2, e2⟩ | ⟨a2, e2⟩
        · rw [b1_pos e2, gd_pos (by decide), if_neg (by decide)]
          exact Or.inr ⟨_, rfl, rfl, fun z => z t ht a a2⟩
        · rw [b1_pos e2, gd_pos (by decide), if_pos rfl]
          refine Or.inl ⟨_, rfl, nx, fun u hu => ?_⟩
          by_cases c : u = t
          · rw [c]; exact fun _ => a2
          · exact hI u (by omega)
      · rw [b1_pos e, gd_pos (by decide), if_pos rfl]
        refine Or.inl ⟨_, rfl, nx, fun u hu => ?_⟩
        by_cases c : u = t
        · rw [c]; exact fun z => absurd z a
        · exact hI u (by omega)) (fun s hI => by
      obtain ⟨rfl, hI⟩ := hI
      refine ⟨(), ?_, hI⟩
      show X2_isLeast_b2 46 ((3 * 6 : Nat) : Int) E = _
      unfold X2_isLeast_b2
      rw [gd_pos (by decide), if_pos (by decide)]) with ⟨e, h1, h2⟩ | ⟨x, h1, rfl, h2⟩
  · exact Or.inl ⟨h2, h1⟩
  · exact Or.inr ⟨h2, h1⟩
end

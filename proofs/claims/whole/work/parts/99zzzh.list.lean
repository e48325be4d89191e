/-! ===== list: an equation depends on groups up to its last ===== -/
section
variable {lr w : Nat}
theorem lgN_ge {i j k l t : Nat} : ∀ n, 1 ≤ t → t ≤ n → grp lr w i j (dl9 lr w t) ≤ lgN lr w i j k l n ∧ grp lr w t k (dl9 lr w l) ≤ lgN lr w i j k l n ∧ grp lr w j k (dl9 lr w t) ≤ lgN lr w i j k l n ∧ grp lr w i t (dl9 lr w l) ≤ lgN lr w i j k l n := by
  intro n
  induction n with
  | zero => intro h1 h2; omega
  | succ n ih =>
    intro h1 h2
    by_cases c : t = n + 1
    · subst c
      unfold lgN
      omega
    · have := ih h1 (by omega)
      unfold lgN
      omega
theorem tkG_agr {fg fg' : Nat → Int} {i j k : Nat} (h : 1 ≤ i → 1 ≤ j → 1 ≤ k → fg (grp lr w i j (dl9 lr w k)) = fg' (grp lr w i j (dl9 lr w k))) : tkG lr w fg i j k = tkG lr w fg' i j k := by
  unfold tkG
  by_cases c1 : i = 0
  · rw [if_pos c1, if_pos c1]
  · rw [if_neg c1, if_neg c1]
    by_cases c2 : j = 0
    · rw [if_pos c2, if_pos c2]
    · rw [if_neg c2, if_neg c2]
      unfold tkV
      by_cases c3 : k = 0
      · rw [if_pos c3, if_pos c3]
      · rw [if_neg c3, if_neg c3, h (by omega) (by omega) (by omega)]
theorem tkG_bd9 {fg : Nat → Int} {i j k : Nat} (h : 1 ≤ i → 1 ≤ j → 1 ≤ k → 0 ≤ fg (grp lr w i j (dl9 lr w k)) ∧ fg (grp lr w i j (dl9 lr w k)) ≤ 9) : 0 ≤ tkG lr w fg i j k ∧ tkG lr w fg i j k ≤ 9 := by
  unfold tkG
  by_cases c1 : i = 0
  · rw [if_pos c1]; unfold dk9; split <;> omega
  · rw [if_neg c1]
    by_cases c2 : j = 0
    · rw [if_pos c2]; unfold dk9; split <;> omega
    · rw [if_neg c2]
      unfold tkV
      by_cases c3 : k = 0
      · rw [if_pos c3]; split <;> omega
      · rw [if_neg c3]; exact h (by omega) (by omega) (by omega)
theorem AsN.agr {fg fg' : Nat → Int} {i j k l : Nat} (h : ∀ g, g ≤ lgN lr w i j k l (lr - 1) → fg g = fg' g) : AsN lr w fg i j k l ↔ AsN lr w fg' i j k l := by
  have e : sm lr (fun e => tkG lr w fg i j e * tkG lr w fg e k l - tkG lr w fg j k e * tkG lr w fg i e l) = sm lr (fun e => tkG lr w fg' i j e * tkG lr w fg' e k l - tkG lr w fg' j k e * tkG lr w fg' i e l) := sm_congr lr (fun e he => by
    have z := fun (h1 : 1 ≤ e) => lgN_ge (lr := lr) (w := w) (i := i) (j := j) (k := k) (l := l) (t := e) (lr - 1) h1 (by omega)
    rw [tkG_agr (fg := fg) (fg' := fg') (i := i) (j := j) (k := e) (fun _ _ h1 => h _ (z h1).1), tkG_agr (fg := fg) (fg' := fg') (i := e) (j := k) (k := l) (fun h1 _ _ => h _ (z h1).2.1), tkG_agr (fg := fg) (fg' := fg') (i := j) (j := k) (k := e) (fun _ _ h1 => h _ (z h1).2.2.1), tkG_agr (fg := fg) (fg' := fg') (i := i) (j := e) (k := l) (fun _ h1 _ => h _ (z h1).2.2.2)])
  unfold AsN
  rw [e]
/-- c tells an equation with the last group g -/
def EqC (lr w g c : Nat) : Prop := ∃ i j k l, 1 ≤ i ∧ i < k ∧ k < lr ∧ 1 ≤ j ∧ j < lr ∧ 1 ≤ l ∧ l < lr ∧ lgN lr w i j k l (lr - 1) = g ∧ c = 64 * i + st9 j k l
/-- the class's equations, by their last groups -/
def EqT (E : DA) (lr w : Nat) : Prop := ∀ g, g < gcn lr w → ∃ a b : Nat, a ≤ b ∧ b ≤ 27 ∧ E.1 53 g = a ∧ E.1 53 (g + 1) = b ∧ (∀ m, a ≤ m → m < b → ∃ c : Nat, E.1 52 m = c ∧ EqC lr w g c) ∧ ∀ c, EqC lr w g c → ∃ m, a ≤ m ∧ m < b ∧ E.1 52 m = (c : Nat)
/-- all equations with the last group g hold -/
def FtN (lr w : Nat) (fg : Nat → Int) (g : Nat) : Prop := ∀ i j k l, 1 ≤ i → i < k → k < lr → 1 ≤ j → j < lr → 1 ≤ l → l < lr → lgN lr w i j k l (lr - 1) = g → AsN lr w fg i j k l
theorem x2_fits {E : DA} {g : Nat} (hq : (lr, w) ∈ lw5) (hE : LsA E lr w) (hT : EqT E lr w) (hg : g < gcn lr w) (hf : ∀ q, q ≤ g → 0 ≤ E.1 51 q ∧ E.1 51 q ≤ 9) : (FtN lr w (E.1 51) g ∧ X2_fitsAt 46 g E = some 1) ∨ (¬ FtN lr w (E.1 51) g ∧ X2_fitsAt 46 g E = some 0) := by
  obtain ⟨h2, h4, -, -⟩ := lw5_bd hq
  have g10 := (gcn_bd hq).2
  obtain ⟨a, b, ab, b27, ea, eb, hm, hc⟩ := hT g hg
  have ea' : E.1 (46 + 7) g = a := ea
  have eb' : E.1 (46 + 7) (Int.toNat ((g : Int) + 1)) = b := by rw [show ((g : Int) + 1).toNat = g + 1 by omega]; exact eb
  obtain ⟨cd, hcd⟩ : ∃ cd : Nat → Nat, ∀ m, cd m = (E.1 52 m).toNat := ⟨_, fun _ => rfl⟩
  have dec : ∀ i j k l : Nat, i < 4 → j < 4 → k < 4 → l < 4 → (64 * i + st9 j k l) / 64 = i ∧ (64 * i + st9 j k l) / 16 % 4 = j ∧ (64 * i + st9 j k l) / 4 % 4 = k ∧ (64 * i + st9 j k l) % 4 = l := fun i j k l hi hj hk hl => by
    unfold st9
    omega
  have key : FtN lr w (E.1 51) g ↔ ∀ m, a ≤ m → m < b → AsN lr w (E.1 51) (cd m / 64) (cd m / 16 % 4) (cd m / 4 % 4) (cd m % 4) := by
    constructor
    · intro h m m1 m2
      obtain ⟨c, e, i, j, k, l, i1, ik, kl, j1, jl, l1, ll, lg, rfl⟩ := hm m m1 m2
      have : cd m = 64 * i + st9 j k l := by rw [hcd, e]; exact Int.toNat_natCast _
      rw [this]
      obtain ⟨q1, q2, q3, q4⟩ := dec i j k l (by omega) (by omega) (by omega) (by omega)
      rw [q1, q2, q3, q4]
      exact h i j k l i1 ik kl j1 jl l1 ll lg
    · intro h i j k l i1 ik kl j1 jl l1 ll lg
      obtain ⟨m, m1, m2, e⟩ := hc (64 * i + st9 j k l) ⟨i, j, k, l, i1, ik, kl, j1, jl, l1, ll, lg, rfl⟩
      have t := h m m1 m2
      have : cd m = 64 * i + st9 j k l := by rw [hcd, e]; exact Int.toNat_natCast _
      rw [this] at t
      obtain ⟨q1, q2, q3, q4⟩ := dec i j k l (by omega) (by omega) (by omega) (by omega)
      rw [q1, q2, q3, q4] at t
      exact t
  rw [key]
  unfold X2_fitsAt
  rw [gd_pos (by omega), Int.toNat_natCast, ea', lt_pos]
  refine lpR_al (b := fun q => X2_fitsAt_b7 46 g q E) (k := fun _ => some (1 : Int)) (j := fun r => some r) (z := (0 : Int)) a b _ (by omega) (fun m m1 m2 => ?_) ?_
  · show (_ ∧ X2_fitsAt_b7 46 g (m : Int) E = _) ∨ (_ ∧ X2_fitsAt_b7 46 g (m : Int) E = _)
    obtain ⟨c, e, i, j, k, l, i1, ik, kl, j1, jl, l1, ll, lg, rfl⟩ := hm m m1 m2
    have ec : cd m = 64 * i + st9 j k l := by rw [hcd, e]; exact Int.toNat_natCast _
    rw [ec]
    obtain ⟨q1, q2, q3, q4⟩ := dec i j k l (by omega) (by omega) (by omega) (by omega)
    rw [q1, q2, q3, q4]
    have e' : E.1 (46 + 6) m = ((64 * i + st9 j k l : Nat) : Int) := e
    have cl : 64 * i + st9 j k l < 256 := by unfold st9; omega
    have s1 : ishr9 ((64 * i + st9 j k l : Nat) : Int) 6 = (i : Int) := by
      have : ishr9 ((64 * i + st9 j k l : Nat) : Int) 6 = (((64 * i + st9 j k l) / 2 ^ 6 : Nat) : Int) := shr_nat9 (s := 6) (by omega) (by decide)
      rw [this, show (2 : Nat) ^ 6 = 64 from rfl, q1]
    have s2 : iand9 (ishr9 ((64 * i + st9 j k l : Nat) : Int) 4) 3 = (j : Int) := by
      have : ishr9 ((64 * i + st9 j k l : Nat) : Int) 4 = (((64 * i + st9 j k l) / 2 ^ 4 : Nat) : Int) := shr_nat9 (s := 4) (by omega) (by decide)
      rw [this, show (2 : Nat) ^ 4 = 16 from rfl]
      have : iand9 (((64 * i + st9 j k l) / 16 : Nat) : Int) 3 = (((64 * i + st9 j k l) / 16 % 2 ^ 2 : Nat) : Int) := mask_nat9 (s := 2) (by omega) (by decide)
      rw [this, show (2 : Nat) ^ 2 = 4 from rfl, q2]
    have s3 : iand9 (ishr9 ((64 * i + st9 j k l : Nat) : Int) 2) 3 = (k : Int) := by
      have : ishr9 ((64 * i + st9 j k l : Nat) : Int) 2 = (((64 * i + st9 j k l) / 2 ^ 2 : Nat) : Int) := shr_nat9 (s := 2) (by omega) (by decide)
      rw [this, show (2 : Nat) ^ 2 = 4 from rfl]
      have : iand9 (((64 * i + st9 j k l) / 4 : Nat) : Int) 3 = (((64 * i + st9 j k l) / 4 % 2 ^ 2 : Nat) : Int) := mask_nat9 (s := 2) (by omega) (by decide)
      rw [this, show (2 : Nat) ^ 2 = 4 from rfl, q3]
    have s4 : iand9 ((64 * i + st9 j k l : Nat) : Int) 3 = (l : Int) := by
      have : iand9 ((64 * i + st9 j k l : Nat) : Int) 3 = (((64 * i + st9 j k l) % 2 ^ 2 : Nat) : Int) := mask_nat9 (s := 2) (by omega) (by decide)
      rw [this, show (2 : Nat) ^ 2 = 4 from rfl, q4]
    unfold X2_fitsAt_b7
    rw [gd_pos (by omega), eb', gd_pos (by omega), if_neg (by omega), gd_pos (by omega), Int.toNat_natCast, e', lt_pos, s1, lt_pos, s2, lt_pos, s3, lt_pos, s4, lt_pos]
    have hl := lpS9 (b := fun q => X2_fitsAt_b57 46 g m i j k l q.1 q.2 E) (k := fun e => X2_fitsAt_j120_7 46 g m e E) (r := lr) (fun e => tkG lr w (E.1 51) i j e * tkG lr w (E.1 51) e k l - tkG lr w (E.1 51) j k e * tkG lr w (E.1 51) i e l) (by omega) (fun e he => by
      show X2_fitsAt_b57 46 g m i j k l _ (e : Int) E = _
      unfold X2_fitsAt_b57
      rw [hE.1, gd_pos (by omega), if_neg (by omega), b1_pos (x2_fused hq hE (by omega) jl he), b1_pos (x2_fused hq hE he kl ll), b1_pos (x2_fused hq hE jl kl he), b1_pos (x2_fused hq hE (by omega) he ll), lt_pos]
      rfl) (by
      show X2_fitsAt_b57 46 g m i j k l _ (lr : Int) E = _
      unfold X2_fitsAt_b57
      rw [hE.1, gd_pos (by omega), if_pos (by omega)])
    rw [hl]
    have z := fun (e : Nat) (h1 : 1 ≤ e) (h2 : e < lr) => lgN_ge (lr := lr) (w := w) (i := i) (j := j) (k := k) (l := l) (t := e) (lr - 1) h1 (by omega)
    rw [lg] at z
    have pr : ∀ x y : Int, (0 ≤ x ∧ x ≤ 9) → (0 ≤ y ∧ y ≤ 9) → 0 ≤ x * y ∧ x * y ≤ 81 := fun x y hx hy => ⟨Int.mul_nonneg hx.1 hy.1, by
      have := Int.mul_le_mul hx.2 hy.2 hy.1 (by decide : (0 : Int) ≤ 9)
      omega⟩
    have bb := sm_bd (f := fun e => tkG lr w (E.1 51) i j e * tkG lr w (E.1 51) e k l - tkG lr w (E.1 51) j k e * tkG lr w (E.1 51) i e l) (lo := -81) (hi := 81) lr (fun e he => by
      have a1 := tkG_bd9 (lr := lr) (w := w) (fg := E.1 51) (i := i) (j := j) (k := e) (fun _ _ h1 => hf _ (z e h1 he).1)
      have a2 := tkG_bd9 (lr := lr) (w := w) (fg := E.1 51) (i := e) (j := k) (k := l) (fun h1 _ _ => hf _ (z e h1 he).2.1)
      have a3 := tkG_bd9 (lr := lr) (w := w) (fg := E.1 51) (i := j) (j := k) (k := e) (fun _ _ h1 => hf _ (z e h1 he).2.2.1)
      have a4 := tkG_bd9 (lr := lr) (w := w) (fg := E.1 51) (i := i) (j := e) (k := l) (fun _ h1 _ => hf _ (z e h1 he).2.2.2)
      have p1 := pr _ _ a1 a2
      have p2 := pr _ _ a3 a4
      show -81 ≤ tkG lr w (E.1 51) i j e * tkG lr w (E.1 51) e k l - tkG lr w (E.1 51) j k e * tkG lr w (E.1 51) i e l ∧ tkG lr w (E.1 51) i j e * tkG lr w (E.1 51) e k l - tkG lr w (E.1 51) j k e * tkG lr w (E.1 51) i e l ≤ 81
      omega)
    unfold X2_fitsAt_j120_7 AsN
    rw [gd_pos (by omega)]
    by_cases c : sm lr (fun e => tkG lr w (E.1 51) i j e * tkG lr w (E.1 51) e k l - tkG lr w (E.1 51) j k e * tkG lr w (E.1 51) i e l) = 0
    · rw [if_pos c]; exact Or.inl ⟨c, rfl⟩
    · rw [if_neg c]; exact Or.inr ⟨c, rfl⟩
  · show X2_fitsAt_b7 46 g (b : Int) E = _
    unfold X2_fitsAt_b7
    rw [gd_pos (by omega), eb', gd_pos (by omega), if_pos (by omega)]
end

/-! ===== sizes and ways ===== -/
theorem sm_0 {f : Nat → Int} : sm 0 f = 0 := rfl
theorem sm_s {n : Nat} {f : Nat → Int} : sm (n + 1) f = sm n f + f n := rfl
theorem sm_add {f g : Nat → Int} : ∀ n, sm n (fun i => f i + g i) = sm n f + sm n g := by
  intro n
  induction n with
  | zero => rfl
  | succ n ih => simp only [sm, ih]; omega
theorem sm_mul {f : Nat → Int} {a : Int} : ∀ n, sm n (fun i => f i * a) = sm n f * a := by
  intro n
  induction n with
  | zero => simp [sm]
  | succ n ih => simp only [sm, ih, Int.add_mul]
theorem sm_zero : ∀ n, sm n (fun _ => 0) = 0 := by
  intro n
  induction n with
  | zero => rfl
  | succ n ih => simp only [sm, ih]; omega
theorem sm_swap {f : Nat → Nat → Int} : ∀ n m, sm n (fun i => sm m (fun j => f i j)) = sm m (fun j => sm n (fun i => f i j)) := by
  intro n m
  induction n with
  | zero => simp only [sm_0]; exact (sm_zero m).symm
  | succ n ih =>
    rw [sm_s, ih]
    simp only [sm_s]
    rw [sm_add]
theorem wB_cm {d : DA} {a b : Nat} {f g : Nat → Int} (h : a ≠ b) : wB (wB d a f) b g = wB (wB d b g) a f := by
  unfold wB
  refine Prod.ext rfl (funext fun q => ?_)
  show fu (fu d.2 a f) b g q = fu (fu d.2 b g) a f q
  by_cases h1 : q = a
  · subst h1; rw [fu_n h, fu_s, fu_s]
  · by_cases h2 : q = b
    · subst h2; rw [fu_s, fu_n h1, fu_s]
    · rw [fu_n h2, fu_n h1, fu_n h1, fu_n h2]
theorem pre_pre {f G H : Nat → Int} {i : Nat} : pre (pre f G i) H i = pre f H i := funext fun q => by
  unfold pre
  by_cases h : q < i
  · simp (disch := omega) only [gd_pos, if_pos, if_neg, lt_pos, reduceIte]
  · simp (disch := omega) only [gd_pos, if_pos, if_neg, lt_pos, reduceIte]
theorem pre_pre5 {f G H : Nat → Int} {r : Nat} (h5 : r ≤ 5) : pre (pre f G 5) H r = pre f (pre G H r) 5 := funext fun q => by
  unfold pre
  by_cases h : q < r
  · simp (disch := omega) only [gd_pos, if_pos, if_neg, lt_pos, reduceIte]
  · by_cases h2 : q < 5
    · simp (disch := omega) only [gd_pos, if_pos, if_neg, lt_pos, reduceIte]
    · simp (disch := omega) only [gd_pos, if_pos, if_neg, lt_pos, reduceIte]
theorem pre_lt {f G : Nat → Int} {i q : Nat} (h : q < i) : pre f G i q = G q := if_pos h
theorem pre_ge {f G : Nat → Int} {i q : Nat} (h : ¬ q < i) : pre f G i q = f q := if_neg h
/-- the sums out of which the next sizes come -/
def szS (n : Nat → Nat → Nat → Int) (r : Nat) (a : Nat → Int) (k : Nat) : Int := sm r fun j => (sm r fun i => n i j k) * a j
def szN (n : Nat → Nat → Nat → Int) (r : Nat) (a : Nat → Int) (k : Nat) : Int := if szS n r a 0 = 0 then 0 else mmin (szS n r a k * 1000000 / szS n r a 0) 1000000000
def szA (n : Nat → Nat → Nat → Int) (r : Nat) : Nat → Nat → Int
  | 0 => fun _ => 1000000
  | t + 1 => pre (szA n r t) (szN n r (szA n r t)) r
def N9 (n : Nat → Nat → Nat → Int) : Prop := ∀ i j k, i < 5 → j < 5 → k < 5 → 0 ≤ n i j k ∧ n i j k ≤ 9
theorem szS_bd {n : Nat → Nat → Nat → Int} {r k : Nat} {a : Nat → Int} (h5 : r ≤ 5) (hn : N9 n) (hk : k < 5) (ha : ∀ j, j < 5 → 0 ≤ a j ∧ a j ≤ 1000000000) : 0 ≤ szS n r a k ∧ szS n r a k ≤ 225000000000 := by
  have h := sm_bd (f := fun j => (sm r fun i => n i j k) * a j) (lo := 0) (hi := 45 * 1000000000) r (fun j hj => by
    have h1 := sm_bd (f := fun i => n i j k) (lo := 0) (hi := 9) r (fun i hi => hn i j k (by omega) (by omega) hk)
    exact mul_bd ⟨by omega, by omega⟩ (ha j (by omega)))
  unfold szS
  omega
theorem szN_bd {n : Nat → Nat → Nat → Int} {r k : Nat} {a : Nat → Int} (h5 : r ≤ 5) (hn : N9 n) (hk : k < 5) (ha : ∀ j, j < 5 → 0 ≤ a j ∧ a j ≤ 1000000000) : 0 ≤ szN n r a k ∧ szN n r a k ≤ 1000000000 := by
  have h1 := szS_bd (k := k) h5 hn hk ha
  have h0 := szS_bd (k := 0) h5 hn (by omega) ha
  unfold szN
  by_cases c : szS n r a 0 = 0
  · rw [if_pos c]; omega
  · rw [if_neg c]
    have : 0 ≤ szS n r a k * 1000000 / szS n r a 0 := Int.ediv_nonneg (by omega) (by omega)
    unfold mmin
    split <;> omega
theorem szA_bd {n : Nat → Nat → Nat → Int} {r : Nat} (h5 : r ≤ 5) (hn : N9 n) : ∀ t j, j < 5 → 0 ≤ szA n r t j ∧ szA n r t j ≤ 1000000000 := by
  intro t
  induction t with
  | zero => intro j _; show 0 ≤ (1000000 : Int) ∧ (1000000 : Int) ≤ 1000000000; omega
  | succ t ih =>
    intro j hj
    show 0 ≤ pre (szA n r t) (szN n r (szA n r t)) r j ∧ pre (szA n r t) (szN n r (szA n r t)) r j ≤ 1000000000
    unfold pre
    split
    · exact szN_bd h5 hn hj ih
    · exact ih j hj
theorem szS_congr {n : Nat → Nat → Nat → Int} {r k : Nat} {a b : Nat → Int} (h : ∀ j, j < r → a j = b j) : szS n r a k = szS n r b k := sm_congr r (fun j hj => by rw [h j hj])
theorem x8_weigh {d : DA} {o r : Nat} (hr : d.1 o 0 = r) (h5 : r ≤ 5) : X8_weighSums o d = some ((), wA d (o + 5) (pm (d.1 (o + 5)) (fun j k => sm r (fun i => nn d o i j k)) r r 0)) := by
  unfold X8_weighSums
  have hr' : ∀ f, (wA d (o + 5) f).1 o 0 = r := fun f => by rw [wA_ne (by omega), hr]
  have hN : ∀ f i j k, nn (wA d (o + 5) f) o i j k = nn d o i j k := fun f i j k => by unfold nn; rw [wA_ne (by omega)]
  refine lpE_sq (bi := fun i q => X8_weighSums_b12 o (i : Int) q.1 q.2) (o + 5) r (fun j k => sm r (fun i => nn d o i j k)) h5 (fun i hi f => ?_) (fun f => ?_) (fun i j hi hj f _ => ?_) (fun i hi f => ?_)
  · dsimp only
    unfold X8_weighSums_b2
    rw [hr']
    simp (disch := omega) only [gd_pos, if_pos, if_neg, lt_pos, reduceIte]
  · dsimp only
    unfold X8_weighSums_b2
    rw [hr']
    simp (disch := omega) only [gd_pos, if_pos, if_neg, lt_pos, reduceIte]
  · dsimp only
    unfold X8_weighSums_b12
    rw [hr']
    simp (disch := omega) only [gd_pos, if_pos, if_neg, lt_pos, reduceIte]
    refine (lpE_for (fun e => (sm e (fun e => nn d o e i j), (e : Int))) r (sm r (fun e => nn d o e i j)) rfl (by omega) (fun e he => ?_) ?_).trans ?_
    · unfold X8_weighSums_b25
      dsimp only
      rw [hr', b1_pos (x8_at (show e < 5 by omega) (show i < 5 by omega) (show j < 5 by omega)), hN]
      simp (disch := omega) only [gd_pos, if_pos, if_neg, lt_pos, reduceIte]
      rfl
    · unfold X8_weighSums_b25
      dsimp only
      rw [hr']
      simp (disch := omega) only [gd_pos, if_pos, if_neg, lt_pos, reduceIte]
    · unfold X8_weighSums_j51_12
      rw [show (5 * (i : Int) + (j : Int)).toNat = 5 * i + j by omega]
      simp (disch := omega) only [gd_pos, if_pos, if_neg, lt_pos, reduceIte]
  · dsimp only
    unfold X8_weighSums_b12
    rw [hr']
    simp (disch := omega) only [gd_pos, if_pos, if_neg, lt_pos, reduceIte]
theorem x8_shrink {d : DA} {o r : Nat} (hr : d.1 o 0 = r) (h1 : 1 ≤ r) (h5 : r ≤ 5) (hb : ∀ k, k < r → 0 ≤ d.2 (o + 4) k ∧ d.2 (o + 4) k ≤ 225000000000) : X8_shrinkSizes o d = some ((), wB d (o + 3) (pre (d.2 (o + 3)) (fun k => if d.2 (o + 4) 0 = 0 then 0 else mmin (d.2 (o + 4) k * 1000000 / d.2 (o + 4) 0) 1000000000) r)) := by
  unfold X8_shrinkSizes
  rw [gd_pos (by omega), lt_pos]
  have h0 := hb 0 (by omega)
  refine lpE_rowL (o + 3) r _ (by omega) (fun k hk => ?_) ?_
  · unfold X8_shrinkSizes_b9 X8_shrinkSizes_j39_9
    have hk9 := hb k hk
    dsimp only
    rw [show (wB d (o + 3) (pre (d.2 (o + 3)) (fun k => if d.2 (o + 4) 0 = 0 then 0 else mmin (d.2 (o + 4) k * 1000000 / d.2 (o + 4) 0) 1000000000) k)).1 = d.1 from rfl, hr, wB_ne (show o + 4 ≠ o + 3 by omega), Int.toNat_natCast]
    have e0 : Int.toNat 0 = 0 := rfl
    rw [e0]
    unfold lcmp9
    by_cases c : d.2 (o + 4) 0 = 0
    · rw [c]
      simp (disch := omega) only [gd_pos, if_pos, if_neg, lt_pos, reduceIte]
      have : mmin 0 1000000000 = 0 := rfl
      rw [this]
    · have hq : 0 ≤ d.2 (o + 4) k * 1000000 / d.2 (o + 4) 0 := Int.ediv_nonneg (by omega) (by omega)
      have hq2 : d.2 (o + 4) k * 1000000 / d.2 (o + 4) 0 ≤ d.2 (o + 4) k * 1000000 := Int.ediv_le_self _ (by omega)
      simp (disch := omega) only [gd_pos, if_pos, if_neg, lt_pos, reduceIte]
  · unfold X8_shrinkSizes_b9
    dsimp only
    rw [show (wB d (o + 3) (pre (d.2 (o + 3)) (fun k => if d.2 (o + 4) 0 = 0 then 0 else mmin (d.2 (o + 4) k * 1000000 / d.2 (o + 4) 0) 1000000000) r)).1 = d.1 from rfl, hr]
    simp (disch := omega) only [gd_pos, if_pos, if_neg, lt_pos, reduceIte]

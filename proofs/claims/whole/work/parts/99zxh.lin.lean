/-! ===== sums ===== -/
theorem smZ {f : Nat → Int} : ∀ n, (∀ k, k < n → f k = 0) → sm n f = 0 := by
  intro n
  induction n with
  | zero => intro _; rfl
  | succ n ih => intro h; unfold sm; rw [ih (fun k hk => h k (by omega)), h n (by omega)]; rfl
theorem smA {f g : Nat → Int} (n : Nat) : sm n (fun k => f k + g k) = sm n f + sm n g := sm_add n
theorem smM {f : Nat → Int} {c : Int} : ∀ n, sm n (fun k => c * f k) = c * sm n f := by
  intro n
  induction n with
  | zero => unfold sm; rw [Int.mul_zero]
  | succ n ih => unfold sm; rw [ih, Int.mul_add]
theorem smR {f : Nat → Int} {c : Int} (n : Nat) : sm n (fun k => f k * c) = sm n f * c := by
  rw [Int.mul_comm (sm n f), ← smM]
  exact sm_congr n (fun k _ => Int.mul_comm _ _)
theorem sm1 {f : Nat → Int} {j : Nat} : ∀ n, j < n → (∀ k, k < n → k ≠ j → f k = 0) → sm n f = f j := by
  intro n
  induction n with
  | zero => intro h; omega
  | succ n ih =>
    intro hj h
    unfold sm
    by_cases c : j = n
    · subst c
      rw [smZ j (fun k hk => h k (by omega) (by omega))]; omega
    · rw [ih (by omega) (fun k hk hn => h k (by omega) hn), h n (by omega) (fun e => c e.symm)]; omega
theorem smC {f : Nat → Nat → Int} (m : Nat) : ∀ n, sm n (fun i => sm m (fun j => f i j)) = sm m (fun j => sm n (fun i => f i j)) := by
  intro n
  induction n with
  | zero => exact (smZ m (fun _ _ => rfl)).symm
  | succ n ih =>
    show sm n (fun i => sm m (fun j => f i j)) + sm m (fun j => f n j) = _
    rw [ih, ← smA]
    rfl
theorem cgm.z_mul {p : Nat} {a : Int} (b : Int) (h : cgm p a 0) : cgm p (a * b) 0 := by
  have := h.mul (cgm.rf b)
  rwa [Int.zero_mul] at this
theorem cgm.mul_z {p : Nat} {a : Int} (b : Int) (h : cgm p a 0) : cgm p (b * a) 0 := by
  have := (cgm.rf b).mul h
  rwa [Int.mul_zero] at this
theorem cgm.sm0 {p : Nat} {f : Nat → Int} (n : Nat) (h : ∀ k, k < n → cgm p (f k) 0) : cgm p (sm n f) 0 := by
  have := cgm.sm9 (p := p) (f := f) (g := fun _ => 0) n h
  rwa [smZ n (fun _ _ => rfl)] at this
theorem cgm.add0 {p : Nat} {a b : Int} (h : cgm p a 0) (h2 : cgm p b 0) : cgm p (a + b) 0 := by
  have := h.add h2
  rwa [Int.add_zero] at this
/-- numbers that are not 0 have inverses, so products that are 0 have a part that is -/
theorem iv_dom {p : Nat} {iv : Int → Int} (hiv : IvG p iv) (hp : 2 ≤ p) {a b : Int} (h : cgm p (a * b) 0) : cgm p a 0 ∨ cgm p b 0 := by
  by_cases c : a % (p : Int) = 0
  · left
    have := cgm.em (p := p) a
    rw [c] at this
    exact this.sy
  · right
    have hb := em_bd (show 0 < p by omega) a
    obtain ⟨-, h3⟩ := hiv (a % (p : Int)) (by omega) hb.2
    -- b = (a * iv a) * b = iv a * (a * b) = 0
    have e1 : cgm p (a * iv (a % (p : Int))) 1 := ((cgm.em a).sy.mul (cgm.rf _)).tr h3
    have e2 : cgm p (a * iv (a % (p : Int)) * b) (1 * b) := e1.mul (cgm.rf b)
    rw [Int.one_mul] at e2
    have e3 : a * iv (a % (p : Int)) * b = iv (a % (p : Int)) * (a * b) := by
      rw [Int.mul_comm a, Int.mul_assoc]
    rw [e3] at e2
    exact e2.sy.tr (h.mul_z _)
theorem one_nz {p : Nat} (hp : 2 ≤ p) : ¬ cgm p 1 0 := fun h => by
  have := h.eq (by omega) (by omega)
  omega
/-! ===== what turning back says ===== -/
/-- W is V by M -/
def GI (p n : Nat) (M : Mx) (s : Mx × Mx) : Prop := ∀ i j, i < n → j < n → cgm p (s.1 i j) (sm n fun k => s.2 i k * M k j)
/-- what W sends to 0, M does -/
def GK (p n : Nat) (M W : Mx) : Prop := ∀ v : Nat → Int, (∀ i, i < n → cgm p (sm n fun k => W i k * v k) 0) → ∀ i, i < n → cgm p (sm n fun k => M i k * v k) 0
/-- the columns before c are those of the unit -/
def GU (n c : Nat) (W : Mx) : Prop := ∀ i j, i < n → j < c → W i j = id9 i j
theorem GI.xr9 {p n a c : Nat} {M : Mx} {s : Mx × Mx} (h : GI p n M s) (ha : a < n) (hc : c < n) : GI p n M (xr s.1 a c, xr s.2 a c) := fun i j hi hj => by
  show cgm p (xr s.1 a c i j) (sm n fun k => xr s.2 a c i k * M k j)
  unfold xr
  by_cases c1 : i = a
  · simp only [if_pos c1]; exact h c j hc hj
  · by_cases c2 : i = c
    · simp only [if_neg c1, if_pos c2]; exact h a j ha hj
    · simp only [if_neg c1, if_neg c2]; exact h i j hi hj
theorem GI.sr9 {p n c : Nat} {b : Int} {M : Mx} {s : Mx × Mx} (h : GI p n M s) (hc : c < n) : GI p n M (sr p s.1 c b, sr p s.2 c b) := fun i j hi hj => by
  show cgm p (sr p s.1 c b i j) (sm n fun k => sr p s.2 c b i k * M k j)
  unfold sr
  by_cases c1 : i = c
  · simp only [if_pos c1]
    refine (cgm.em _).tr (((h c j hc hj).mul (cgm.rf b)).tr ?_)
    rw [← smR]
    refine cgm.sm9 n (fun k hk => ?_)
    rw [Int.mul_assoc, Int.mul_comm (M k j), ← Int.mul_assoc]
    exact ((cgm.em _).mul (cgm.rf _)).sy
  · simp only [if_neg c1]; exact h i j hi hj
theorem GI.cr9 {p n c : Nat} {M W : Mx} {s : Mx × Mx} (h : GI p n M s) (hc : c < n) : GI p n M (cr p s.1 W c, cr p s.2 W c) := fun i j hi hj => by
  show cgm p (cr p s.1 W c i j) (sm n fun k => cr p s.2 W c i k * M k j)
  unfold cr
  by_cases c1 : i = c
  · simp only [if_pos c1]; exact h c j hc hj
  · simp only [if_neg c1]
    refine (cgm.em _).tr (((h i j hi hj).add ((cgm.rf _).mul (h c j hc hj))).tr ?_)
    rw [← smM, ← smA]
    refine cgm.sm9 n (fun k hk => ?_)
    rw [← Int.mul_assoc, ← Int.add_mul]
    exact ((cgm.em _).mul (cgm.rf _)).sy
theorem GI.st {p n c a : Nat} {b : Int} {M : Mx} {s : Mx × Mx} (h : GI p n M s) (ha : a < n) (hc : c < n) : GI p n M (gst p s c a b) := ((h.xr9 ha hc).sr9 hc).cr9 hc
theorem GK.st {p n c a : Nat} {b w : Int} {M : Mx} {s : Mx × Mx} (h : GK p n M s.1) (ha : a < n) (hc : c < n) (hb : cgm p (w * b) 1) : GK p n M (gst p s c a b).1 := fun v hv => by
  refine h v (fun i hi => ?_)
  -- before the clearing
  generalize hW2 : sr p (xr s.1 a c) c b = W2
  have hv' : ∀ i, i < n → cgm p (sm n fun k => cr p W2 W2 c i k * v k) 0 := fun i hi => by rw [← hW2]; exact hv i hi
  have hc2 : cgm p (sm n fun k => W2 c k * v k) 0 := by
    have := hv' c hc
    have e : (fun k => cr p W2 W2 c c k * v k) = fun k => W2 c k * v k := funext fun k => by rw [cr_c]
    rw [e] at this
    exact this
  have h2 : ∀ i, i < n → cgm p (sm n fun k => W2 i k * v k) 0 := fun i hi => by
    by_cases c1 : i = c
    · rw [c1]; exact hc2
    · have e1 : cgm p (sm n fun k => cr p W2 W2 c i k * v k) (sm n (fun k => W2 i k * v k) + ((p : Int) - W2 i c) * sm n (fun k => W2 c k * v k)) := by
        rw [← smM, ← smA]
        refine cgm.sm9 n (fun k hk => ?_)
        have : cr p W2 W2 c i k = (W2 i k + ((p : Int) - W2 i c) * W2 c k) % (p : Int) := if_neg c1
        rw [this, ← Int.mul_assoc, ← Int.add_mul]
        exact (cgm.em _).mul (cgm.rf _)
      have e2 := e1.sy.tr (hv' i hi)
      have e3 := hc2.mul_z ((p : Int) - W2 i c)
      have e4 := e2.sub e3
      rw [Int.sub_zero] at e4
      refine cgm.tr (cgm.of ?_) e4
      omega
  -- before the scaling
  have h1 : ∀ i, i < n → cgm p (sm n fun k => xr s.1 a c i k * v k) 0 := fun i hi => by
    have := h2 i hi
    rw [← hW2] at this
    by_cases c1 : i = c
    · subst c1
      have e1 : cgm p (sm n fun k => sr p (xr s.1 a i) i b i k * v k) (sm n (fun k => xr s.1 a i i k * v k) * b) := by
        rw [← smR]
        refine cgm.sm9 n (fun k hk => ?_)
        have : sr p (xr s.1 a i) i b i k = (xr s.1 a i i k * b) % (p : Int) := if_pos rfl
        rw [this, Int.mul_assoc (xr s.1 a i i k), Int.mul_comm (v k), ← Int.mul_assoc]
        exact (cgm.em _).mul (cgm.rf _)
      have e2 := (e1.sy.tr this).mul_z w
      have e3 : w * (sm n (fun k => xr s.1 a i i k * v k) * b) = w * b * sm n (fun k => xr s.1 a i i k * v k) := by
        rw [Int.mul_comm (sm n _), Int.mul_assoc]
      rw [e3] at e2
      have e4 := hb.mul (cgm.rf (sm n (fun k => xr s.1 a i i k * v k)))
      rw [Int.one_mul] at e4
      exact e4.sy.tr e2
    · have e : (fun k => sr p (xr s.1 a c) c b i k * v k) = fun k => xr s.1 a c i k * v k := funext fun k => by
        have : sr p (xr s.1 a c) c b i k = xr s.1 a c i k := if_neg c1
        rw [this]
      rw [e] at this
      exact this
  -- before the exchange
  by_cases c1 : i = a
  · subst c1
    have := h1 c hc
    have e : (fun k => xr s.1 i c c k * v k) = fun k => s.1 i k * v k := funext fun k => by
      unfold xr
      by_cases e : c = i
      · rw [if_pos e, e]
      · rw [if_neg e, if_pos rfl]
    rw [e] at this
    exact this
  · by_cases c2 : i = c
    · subst c2
      have := h1 a ha
      have e : (fun k => xr s.1 a i a k * v k) = fun k => s.1 i k * v k := funext fun k => by
        unfold xr; rw [if_pos rfl]
      rw [e] at this
      exact this
    · have := h1 i hi
      have e : (fun k => xr s.1 a c i k * v k) = fun k => s.1 i k * v k := funext fun k => by
        unfold xr; rw [if_neg c1, if_neg c2]
      rw [e] at this
      exact this
theorem GU.st {p n c a : Nat} {b : Int} {s : Mx × Mx} (h : GU n c s.1) (hB : Mb p n s.1) (hp : 2 ≤ p) (hca : c ≤ a) (ha : a < n) (hb : cgm p (xr s.1 a c c c * b) 1) : GU n (c + 1) (gst p s c a b).1 := fun i j hi hj => by
  have hcn : c < n := by omega
  generalize hW1 : xr s.1 a c = W1 at hb
  have b1 : Mb p n W1 := by rw [← hW1]; exact xr_b hB ha hcn
  have u1 : ∀ i j, i < n → j < c → W1 i j = id9 i j := fun i j hi hj => by
    rw [← hW1]
    unfold xr
    by_cases c1 : i = a
    · rw [if_pos c1, h c j hcn hj, c1]
      unfold id9
      rw [if_neg (by omega), if_neg (by omega)]
    · rw [if_neg c1]
      by_cases c2 : i = c
      · rw [if_pos c2, h a j ha hj, c2]
        unfold id9
        rw [if_neg (by omega), if_neg (by omega)]
      · rw [if_neg c2]; exact h i j hi hj
  have eg : (gst p s c a b).1 i j = cr p (sr p W1 c b) (sr p W1 c b) c i j := by rw [← hW1]; rfl
  rw [eg]
  have sc : ∀ k, sr p W1 c b c k = (W1 c k * b) % (p : Int) := fun k => if_pos rfl
  have so : ∀ i k, i ≠ c → sr p W1 c b i k = W1 i k := fun i k h => if_neg h
  by_cases cj : j = c
  · subst cj
    have one : sr p W1 j b j j = 1 := by
      rw [sc]
      exact cgm.eq (p := p) ((cgm.em _).tr hb) (em_bd (by omega) _) (by omega)
    by_cases c1 : i = j
    · subst c1
      rw [cr_c, one]; unfold id9; rw [if_pos rfl]
    · have : cr p (sr p W1 j b) (sr p W1 j b) j i j = (sr p W1 j b i j + ((p : Int) - sr p W1 j b i j) * sr p W1 j b j j) % (p : Int) := if_neg c1
      rw [this, one, Int.mul_one]
      unfold id9
      rw [if_neg c1]
      have : sr p W1 j b i j + ((p : Int) - sr p W1 j b i j) = p := by omega
      rw [this]
      exact Int.emod_self
  · have hjc : j < c := by omega
    have z : sr p W1 c b c j = 0 := by
      rw [sc, u1 c j hcn hjc]
      unfold id9
      rw [if_neg (by omega), Int.zero_mul]; rfl
    by_cases c1 : i = c
    · subst c1
      rw [cr_c, z]; unfold id9; rw [if_neg (by omega)]
    · have : cr p (sr p W1 c b) (sr p W1 c b) c i j = (sr p W1 c b i j + ((p : Int) - sr p W1 c b i c) * sr p W1 c b c j) % (p : Int) := if_neg c1
      rw [this, z, Int.mul_zero, Int.add_zero, so i j c1, ← u1 i j hi hjc]
      exact cgm.eq (p := p) (cgm.em _) (em_bd (by omega) _) (b1 i j hi (by omega))
theorem g_run {p n : Nat} {iv : Int → Int} {M : Mx} (hp : 2 ≤ p) (hiv : IvG p iv) : ∀ k c s, c + k = n → Mb p n s.1 → Mb p n s.2 → GI p n M s → GK p n M s.1 → GU n c s.1 → ((gRun p n iv k c s).1 = true → ∀ i j, i < n → j < n → cgm p (id9 i j) (sm n fun k' => (gRun p n iv k c s).2.2 i k' * M k' j)) ∧ ((gRun p n iv k c s).1 = false → ∃ v : Nat → Int, (∃ k, k < n ∧ ¬ cgm p (v k) 0) ∧ ∀ i, i < n → cgm p (sm n fun k => M i k * v k) 0) ∧ Mb p n (gRun p n iv k c s).2.2 := by
  intro k
  induction k with
  | zero =>
    intro c s hc b1 b2 h1 h2 h3
    rw [gRun_z]
    refine ⟨fun _ i j hi hj => ?_, fun z => (by cases z), b2⟩
    have := h1 i j hi hj
    rw [h3 i j hi (by omega)] at this
    exact this
  | succ k ih =>
    intro c s hc b1 b2 h1 h2 h3
    cases h : piv n s.1 c with
    | none =>
      rw [gRun_n h]
      refine ⟨fun z => (by cases z), fun _ => ?_, b2⟩
      have hz := piv_none h
      refine ⟨fun k => if k < c then -(s.1 k c) else if k = c then 1 else 0, ⟨c, (by omega), ?_⟩, h2 _ (fun i hi => ?_)⟩
      · show ¬ cgm p (if c < c then -(s.1 c c) else if c = c then 1 else 0) 0
        rw [if_neg (by omega), if_pos rfl]; exact one_nz hp
      · -- row i of W at this vector
        have e : sm n (fun k => s.1 i k * (if k < c then -(s.1 k c) else if k = c then 1 else 0)) = 0 := by
          by_cases ci : i < c
          · have e1 : sm n (fun k => s.1 i k * (if k < c then -(s.1 k c) else if k = c then 1 else 0)) = sm n (fun k => if k = i then -(s.1 i c) else 0) + sm n (fun k => if k = c then s.1 i c else 0) := by
              rw [← smA]
              refine sm_congr n (fun k hk => ?_)
              by_cases c1 : k < c
              · rw [if_pos c1, h3 i k hi c1]
                unfold id9
                by_cases c2 : k = i
                · rw [if_pos c2.symm, if_pos c2, if_neg (by omega), c2]; omega
                · rw [if_neg (fun z => c2 z.symm), if_neg c2, if_neg (by omega)]; omega
              · rw [if_neg c1, if_neg (show ¬ k = i by omega)]
                by_cases c2 : k = c
                · rw [if_pos c2, if_pos c2, c2]; omega
                · rw [if_neg c2, if_neg c2]; omega
            rw [e1, sm1 (j := i) n hi (fun k _ hn => if_neg hn), sm1 (j := c) n (by omega) (fun k _ hn => if_neg hn), if_pos rfl, if_pos rfl]
            omega
          · refine smZ n (fun k hk => ?_)
            by_cases c1 : k < c
            · rw [h3 i k hi c1]
              unfold id9
              rw [if_neg (by omega), Int.zero_mul]
            · rw [if_neg c1]
              by_cases c2 : k = c
              · rw [if_pos c2, c2, hz i (by omega) hi, Int.zero_mul]
              · rw [if_neg c2, Int.mul_zero]
        rw [e]; exact cgm.rf 0
    | some a =>
      rw [gRun_s h]
      obtain ⟨s1, s2, s3, s4⟩ := piv_some h
      have hx := xr_piv h b1
      obtain ⟨q1, q2⟩ := hiv _ hx.1 hx.2
      have hb := gst_b (b := iv (xr s.1 a c c c)) (s := s) (show 0 < p by omega) b1 b2 s2 (show c < n by omega)
      exact ih (c + 1) _ (by omega) hb.1 hb.2 (h1.st s2 (by omega)) (h2.st s2 (by omega) q2) (h3.st b1 hp s1 s2 q2)
theorem id_sm {n i : Nat} {f : Nat → Int} (hi : i < n) : sm n (fun k => id9 i k * f k) = f i := by
  rw [sm1 (j := i) n hi (fun k _ hn => by unfold id9; rw [if_neg (fun e => hn e.symm), Int.zero_mul])]
  unfold id9
  rw [if_pos rfl, Int.one_mul]
/-- turning back, as the numbers see it -/
theorem g_run0 {p n : Nat} {iv : Int → Int} {M : Mx} (hp : 2 ≤ p) (hiv : IvG p iv) (hB : Mb p n M) : ((gRun p n iv n 0 (M, id9)).1 = true → ∀ i j, i < n → j < n → cgm p (id9 i j) (sm n fun k' => (gRun p n iv n 0 (M, id9)).2.2 i k' * M k' j)) ∧ ((gRun p n iv n 0 (M, id9)).1 = false → ∃ v : Nat → Int, (∃ k, k < n ∧ ¬ cgm p (v k) 0) ∧ ∀ i, i < n → cgm p (sm n fun k => M i k * v k) 0) ∧ Mb p n (gRun p n iv n 0 (M, id9)).2.2 := by
  refine g_run hp hiv n 0 (M, id9) (by omega) hB (id9_b hp) (fun i j hi hj => ?_) (fun v h => h) (fun i j _ hj => absurd hj (Nat.not_lt_zero _))
  show cgm p (M i j) (sm n fun k => id9 i k * M k j)
  rw [id_sm (f := fun k => M k j) hi]
  exact cgm.rf _
/-- a square that can be turned back sends only 0 to 0 -/
theorem g_ker {p n : Nat} {iv : Int → Int} {M : Mx} (hp : 2 ≤ p) (hiv : IvG p iv) (hB : Mb p n M) (h : (gRun p n iv n 0 (M, id9)).1 = true) {v : Nat → Int} (hv : ∀ i, i < n → cgm p (sm n fun k => M i k * v k) 0) : ∀ i, i < n → cgm p (v i) 0 := fun i hi => by
  have h1 := (g_run0 hp hiv hB).1 h
  generalize (gRun p n iv n 0 (M, id9)).2.2 = V at h1
  have e1 : cgm p (sm n fun j => id9 i j * v j) (sm n fun j => (sm n fun k' => V i k' * M k' j) * v j) := cgm.sm9 n (fun j hj => (h1 i j hi hj).mul (cgm.rf _))
  rw [id_sm hi] at e1
  refine e1.tr ?_
  have e2 : (sm n fun j => (sm n fun k' => V i k' * M k' j) * v j) = sm n fun k' => V i k' * sm n fun j => M k' j * v j := by
    have : (fun j => (sm n fun k' => V i k' * M k' j) * v j) = fun j => sm n fun k' => V i k' * (M k' j * v j) := funext fun j => by
      rw [← smR]
      exact sm_congr n (fun k _ => Int.mul_assoc _ _ _)
    rw [this, smC]
    exact sm_congr n (fun k' _ => smM n)
  rw [e2]
  exact cgm.sm0 n (fun k' hk => (hv k' hk).mul_z _)

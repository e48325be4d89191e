/-! ===== squares of numbers, turned back row by row ===== -/
abbrev Mx := Nat → Nat → Int
def Ms (n : Nat) (f : Nat → Int) (M : Mx) : Prop := ∀ i j, i < n → j < n → f (5 * i + j) = M i j
def Mc (n m : Nat) (f : Nat → Int) (M M' : Mx) : Prop := ∀ i j, i < n → j < n → f (5 * i + j) = if j < m then M' i j else M i j
def Mb (p n : Nat) (M : Mx) : Prop := ∀ i j, i < n → j < n → 0 ≤ M i j ∧ M i j < p
theorem Mc.z {n : Nat} {f : Nat → Int} {M M' : Mx} (h : Ms n f M) : Mc n 0 f M M' := fun i j hi hj => by rw [if_neg (by omega)]; exact h i j hi hj
theorem Mc.e {n : Nat} {f : Nat → Int} {M M' : Mx} (h : Mc n n f M M') : Ms n f M' := fun i j hi hj => by rw [h i j hi hj, if_pos hj]
/-- rows a and c exchanged -/
def xr (M : Mx) (a c : Nat) : Mx := fun i j => if i = a then M c j else if i = c then M a j else M i j
/-- row c scaled by b -/
def sr (p : Nat) (M : Mx) (c : Nat) (b : Int) : Mx := fun i j => if i = c then (M c j * b) % (p : Int) else M i j
/-- column c cleared but at c, by W -/
def cr (p : Nat) (M W : Mx) (c : Nat) : Mx := fun i j => if i = c then M c j else (M i j + ((p : Int) - W i c) * M c j) % (p : Int)
def id9 : Mx := fun i j => if i = j then 1 else 0
def piv (n : Nat) (W : Mx) (c : Nat) : Option Nat := fs9 (n - c) fun k => if W (c + k) c = 0 then none else some (c + k)
/-- one column -/
def gst (p : Nat) (s : Mx × Mx) (c a : Nat) (b : Int) : Mx × Mx := (cr p (sr p (xr s.1 a c) c b) (sr p (xr s.1 a c) c b) c, cr p (sr p (xr s.2 a c) c b) (sr p (xr s.1 a c) c b) c)
def gRun (p n : Nat) (iv : Int → Int) : Nat → Nat → Mx × Mx → Bool × Mx × Mx
  | 0, _, s => (true, s)
  | k + 1, c, s => match piv n s.1 c with
    | none => (false, s)
    | some a => gRun p n iv k (c + 1) (gst p s c a (iv (xr s.1 a c c c)))
theorem gRun_z {p n : Nat} {iv : Int → Int} {c : Nat} {s : Mx × Mx} : gRun p n iv 0 c s = (true, s) := rfl
theorem gRun_n {p n : Nat} {iv : Int → Int} {k c : Nat} {s : Mx × Mx} (h : piv n s.1 c = none) : gRun p n iv (k + 1) c s = (false, s) := by unfold gRun; rw [h]
theorem gRun_s {p n : Nat} {iv : Int → Int} {k c a : Nat} {s : Mx × Mx} (h : piv n s.1 c = some a) : gRun p n iv (k + 1) c s = gRun p n iv k (c + 1) (gst p s c a (iv (xr s.1 a c c c))) := by conv => { lhs; unfold gRun }; rw [h]
theorem piv_some {n c a : Nat} {W : Mx} (h : piv n W c = some a) : c ≤ a ∧ a < n ∧ W a c ≠ 0 ∧ ∀ i, c ≤ i → i < a → W i c = 0 := by
  unfold piv at h
  obtain ⟨k, h1, h2, h3⟩ := (fs9_some _).mp h
  by_cases c0 : W (c + k) c = 0
  · rw [if_pos c0] at h2; cases h2
  · rw [if_neg c0] at h2
    cases h2
    refine ⟨(by omega), (by omega), c0, fun i h4 h5 => ?_⟩
    have := h3 (i - c) (by omega)
    rw [show c + (i - c) = i by omega] at this
    by_cases c1 : W i c = 0
    · exact c1
    · rw [if_neg c1] at this; cases this
theorem piv_none {n c : Nat} {W : Mx} (h : piv n W c = none) : ∀ i, c ≤ i → i < n → W i c = 0 := fun i h1 h2 => by
  unfold piv at h
  have := (fs9_none _).mp h (i - c) (by omega)
  rw [show c + (i - c) = i by omega] at this
  by_cases c1 : W i c = 0
  · exact c1
  · rw [if_neg c1] at this; cases this
theorem xr_b {p n : Nat} {M : Mx} {a c : Nat} (h : Mb p n M) (ha : a < n) (hc : c < n) : Mb p n (xr M a c) := fun i j hi hj => by
  unfold xr
  by_cases c1 : i = a
  · rw [if_pos c1]; exact h c j hc hj
  · rw [if_neg c1]
    by_cases c2 : i = c
    · rw [if_pos c2]; exact h a j ha hj
    · rw [if_neg c2]; exact h i j hi hj
theorem sr_b {p n : Nat} {M : Mx} {c : Nat} {b : Int} (h : Mb p n M) (hp : 0 < p) : Mb p n (sr p M c b) := fun i j hi hj => by
  unfold sr
  by_cases c1 : i = c
  · rw [if_pos c1]; exact em_bd hp _
  · rw [if_neg c1]; exact h i j hi hj
theorem cr_b {p n : Nat} {M W : Mx} {c : Nat} (h : Mb p n M) (hp : 0 < p) : Mb p n (cr p M W c) := fun i j hi hj => by
  unfold cr
  by_cases c1 : i = c
  · rw [if_pos c1, ← c1]; exact h i j hi hj
  · rw [if_neg c1]; exact em_bd hp _
theorem ij5 {i j a b : Nat} (hj : j < 5) (hb : b < 5) : 5 * i + j = 5 * a + b ↔ i = a ∧ j = b := by omega
/-! the class's pieces -/
theorem x3_unit {D : DA} {c0 n0 n : Nat} {f : Nat → Int} (hn : n ≤ 5) (h25 : 25 ≤ n0) (h31 : n0 < 2147483648) : ∃ f', X3_beUnit c0 n0 n (wA D c0 f) = some ((), wA D c0 f') ∧ Ms n f' id9 := by
  have inner : ∀ (i : Nat) (g : Nat → Int), i < n → (∀ i' j, i' < i → j < n → g (5 * i' + j) = id9 i' j) → ∃ d', (∀ {Y : Type} (k : DA → Option Y), lpE (fun q => X3_beUnit_b9 c0 n0 n i q.1 q.2) (0, wA D c0 g) k = k d') ∧ ∃ g', d' = wA D c0 g' ∧ ∀ i' j, i' < i + 1 → j < n → g' (5 * i' + j) = id9 i' j := fun i g hi hg => by
    obtain ⟨d', e1, g', e2, e3⟩ := lev9i (b := fun q => X3_beUnit_b9 c0 n0 n i q.1 q.2) (P := fun m E => ∃ g', E = wA D c0 g' ∧ ∀ i' j, (i' < i ∧ j < n ∨ i' = i ∧ j < m) → g' (5 * i' + j) = id9 i' j) (r := n) (by omega) (fun m E hm hP => by
      obtain ⟨g', rfl, h1⟩ := hP
      have e5 : ((5 * (i : Int)) + (m : Int)).toNat = 5 * i + m := by omega
      refine ⟨wA D c0 (fu g' (5 * i + m) (id9 i m)), ?_, _, rfl, fun i' j hz => ?_⟩
      · show X3_beUnit_b9 c0 n0 n i (m : Int) (wA D c0 g') = _
        unfold X3_beUnit_b9 id9
        rw [gd_pos (by omega), if_neg (by omega), gd_pos (by omega)]
        by_cases c : i = m
        · rw [if_pos (by omega), gd_pos (by omega), lt_pos, e5, wA_wI, if_pos c]
        · rw [if_neg (by omega), gd_pos (by omega), lt_pos, e5, wA_wI, if_neg c]
      · rw [fu_app]
        by_cases c : 5 * i' + j = 5 * i + m
        · rw [if_pos c]
          obtain ⟨rfl, rfl⟩ := (ij5 (by omega) (by omega)).mp c
          rfl
        · rw [if_neg c]
          refine h1 i' j ?_
          rcases hz with z | z
          · exact Or.inl z
          · exact Or.inr ⟨z.1, by have : j ≠ m := fun e => c (by rw [e, z.1]); omega⟩) (fun E hP => by
      show X3_beUnit_b9 c0 n0 n i (n : Int) E = _
      unfold X3_beUnit_b9
      rw [gd_pos (by omega), if_pos (by omega)]) (d := wA D c0 g) ⟨g, rfl, fun i' j hz => by
        rcases hz with z | z
        · exact hg i' j z.1 z.2
        · omega⟩
    exact ⟨d', e1, g', e2, fun i' j h1 h2 => e3 i' j (by omega)⟩
  obtain ⟨d', e1, f', e2, e3⟩ := lev9i (b := fun q => X3_beUnit_b2 c0 n0 n q.1 q.2) (P := fun m E => ∃ g', E = wA D c0 g' ∧ ∀ i' j, i' < m → j < n → g' (5 * i' + j) = id9 i' j) (r := n) (by omega) (fun m E hm hP => by
    obtain ⟨g', rfl, h1⟩ := hP
    obtain ⟨d', f1, f2⟩ := inner m g' hm h1
    refine ⟨d', ?_, f2⟩
    show X3_beUnit_b2 c0 n0 n (m : Int) (wA D c0 g') = _
    unfold X3_beUnit_b2
    rw [gd_pos (by omega), if_neg (by omega), f1]) (fun E hP => by
    show X3_beUnit_b2 c0 n0 n (n : Int) E = _
    unfold X3_beUnit_b2
    rw [gd_pos (by omega), if_pos (by omega)]) (d := wA D c0 f) ⟨f, rfl, fun i' j h => absurd h (Nat.not_lt_zero _)⟩
  subst e2
  exact ⟨f', e1 _, fun i j hi hj => e3 i j hi hj⟩
theorem x3_exch {D : DA} {c0 n0 n a c : Nat} {f : Nat → Int} {M : Mx} (hn : n ≤ 5) (h25 : 25 ≤ n0) (h31 : n0 < 2147483648) (ha : a < n) (hc : c < n) (hM : Ms n f M) : ∃ f', X3_exchangeRows c0 n0 a c n (wA D c0 f) = some ((), wA D c0 f') ∧ Ms n f' (xr M a c) := by
  obtain ⟨d', e1, f', e2, e3⟩ := lev9i (b := fun q => X3_exchangeRows_b3 c0 n0 a c n q.1 q.2) (P := fun m E => ∃ g', E = wA D c0 g' ∧ Mc n m g' M (xr M a c)) (r := n) (by omega) (fun m E hm hP => by
    obtain ⟨g', rfl, h1⟩ := hP
    have ea : ((5 * (a : Int)) + (m : Int)).toNat = 5 * a + m := by omega
    have ec : ((5 * (c : Int)) + (m : Int)).toNat = 5 * c + m := by omega
    refine ⟨wA D c0 (fu (fu g' (5 * a + m) (g' (5 * c + m))) (5 * c + m) (g' (5 * a + m))), ?_, _, rfl, fun i j hi hj => ?_⟩
    · show X3_exchangeRows_b3 c0 n0 a c n (m : Int) (wA D c0 g') = _
      unfold X3_exchangeRows_b3
      rw [gd_pos (by omega), if_neg (by omega), gd_pos (by omega), lt_pos, gd_pos (by omega), gd_pos (by omega), lt_pos, gd_pos (by omega), lt_pos, ea, ec, wA_at, wA_wI, wA_wI]
    · have ga := h1 a m ha hm
      have gc := h1 c m hc hm
      rw [if_neg (by omega)] at ga gc
      rw [fu_app, fu_app, ga, gc]
      by_cases cj : j = m
      · subst cj
        rw [if_pos (show j < j + 1 by omega)]
        unfold xr
        by_cases c1 : i = c
        · subst c1
          rw [if_pos rfl]
          by_cases c2 : i = a
          · rw [if_pos c2, c2]
          · rw [if_neg c2, if_pos rfl]
        · rw [if_neg (fun z => c1 ((ij5 (by omega) (by omega)).mp z).1)]
          by_cases c2 : i = a
          · subst c2; rw [if_pos rfl, if_pos rfl]
          · rw [if_neg (fun z => c2 ((ij5 (by omega) (by omega)).mp z).1), if_neg c2, if_neg c1, h1 i j hi hj, if_neg (by omega)]
      · rw [if_neg (fun z => cj ((ij5 (by omega) (by omega)).mp z).2), if_neg (fun z => cj ((ij5 (by omega) (by omega)).mp z).2), h1 i j hi hj]
        by_cases c2 : j < m
        · rw [if_pos c2, if_pos (by omega)]
        · rw [if_neg c2, if_neg (by omega)]) (fun E hP => by
    show X3_exchangeRows_b3 c0 n0 a c n (n : Int) E = _
    unfold X3_exchangeRows_b3
    rw [gd_pos (by omega), if_pos (by omega)]) (d := wA D c0 f) ⟨f, rfl, Mc.z hM⟩
  subst e2
  exact ⟨f', e1 _, e3.e⟩
theorem x3_scale {D : DA} {c0 n0 n c p : Nat} {b : Int} {f : Nat → Int} {M : Mx} (hn : n ≤ 5) (h25 : 25 ≤ n0) (h31 : n0 < 2147483648) (hc : c < n) (hM : Ms n f M) (hB : Mb p n M) (hp : D.1 58 0 = p) (h2 : 2 ≤ p) (hp31 : p ≤ 31) (h58 : c0 ≠ 58) (hb : 0 ≤ b ∧ b < p) : ∃ f', X3_scaleRow 58 c0 n0 c b n (wA D c0 f) = some ((), wA D c0 f') ∧ Ms n f' (sr p M c b) := by
  obtain ⟨d', e1, f', e2, e3⟩ := lev9i (b := fun q => X3_scaleRow_b3 58 c0 n0 c b n q.1 q.2) (P := fun m E => ∃ g', E = wA D c0 g' ∧ Mc n m g' M (sr p M c b)) (r := n) (by omega) (fun m E hm hP => by
    obtain ⟨g', rfl, h1⟩ := hP
    have ec : ((5 * (c : Int)) + (m : Int)).toNat = 5 * c + m := by omega
    have gc := h1 c m hc hm
    rw [if_neg (by omega)] at gc
    have bc := hB c m hc hm
    have mb := mlb9 (u := 30) (v := 30) (show 0 ≤ M c m ∧ M c m ≤ 30 by omega) (show 0 ≤ b ∧ b ≤ 30 by omega)
    have p58 : (wA D c0 g').1 58 0 = p := by rw [wA_ne (Ne.symm h58)]; exact hp
    refine ⟨wA D c0 (fu g' (5 * c + m) ((M c m * b) % (p : Int))), ?_, _, rfl, fun i j hi hj => ?_⟩
    · show X3_scaleRow_b3 58 c0 n0 c b n (m : Int) (wA D c0 g') = _
      unfold X3_scaleRow_b3
      rw [gd_pos (by omega), if_neg (by omega), gd_pos (by omega), ec, wA_at, gc, b1_pos (x3_reduce p58 h2 hp31 (by omega) (by omega)), gd_pos (by omega), lt_pos, wA_wI]
    · rw [fu_app]
      by_cases cj : j = m
      · subst cj
        rw [if_pos (show j < j + 1 by omega)]
        unfold sr
        by_cases c1 : i = c
        · subst c1
          rw [if_pos rfl, if_pos rfl]
        · rw [if_neg (fun z => c1 ((ij5 (by omega) (by omega)).mp z).1), if_neg c1, h1 i j hi hj, if_neg (by omega)]
      · rw [if_neg (fun z => cj ((ij5 (by omega) (by omega)).mp z).2), h1 i j hi hj]
        by_cases c2 : j < m
        · rw [if_pos c2, if_pos (by omega)]
        · rw [if_neg c2, if_neg (by omega)]) (fun E hP => by
    show X3_scaleRow_b3 58 c0 n0 c b n (n : Int) E = _
    unfold X3_scaleRow_b3
    rw [gd_pos (by omega), if_pos (by omega)]) (d := wA D c0 f) ⟨f, rfl, Mc.z hM⟩
  subst e2
  exact ⟨f', e1 _, e3.e⟩

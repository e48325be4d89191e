/-! ===== the table that is read: tokens ===== -/
/-- the first place from q on, before n, where P does not hold -/
def ae9 (P : Nat → Bool) (n : Nat) : Nat → Nat → Nat
  | 0, q => q
  | m + 1, q => if q < n ∧ P q = true then ae9 P n m (q + 1) else q
theorem ae9_sp {P : Nat → Bool} {n : Nat} : ∀ (m q : Nat), n - q ≤ m → q ≤ ae9 P n m q ∧ (q ≤ n → ae9 P n m q ≤ n) ∧ (∀ j, q ≤ j → j < ae9 P n m q → j < n ∧ P j = true) ∧ ¬ (ae9 P n m q < n ∧ P (ae9 P n m q) = true) := by
  intro m
  induction m with
  | zero => intro q h; exact ⟨Nat.le_refl _, fun h => h, fun j a b => absurd b (by show ¬ j < q; omega), fun h2 => by have : q < n := h2.1; omega⟩
  | succ m ih =>
    intro q h
    unfold ae9
    by_cases c : q < n ∧ P q = true
    · rw [if_pos c]
      obtain ⟨a1, a2, a3, a4⟩ := ih (q + 1) (by omega)
      refine ⟨(by omega), fun _ => a2 (by omega), fun j h1 h2 => ?_, a4⟩
      by_cases e : j = q
      · rw [e]; exact c
      · exact a3 j (by omega) h2
    · rw [if_neg c]
      exact ⟨Nat.le_refl _, fun h => h, fun j a b => absurd b (by omega), c⟩
def aeN (P : Nat → Bool) (n q : Nat) : Nat := ae9 P n (n - q) q
theorem aeN_sp {P : Nat → Bool} {n q : Nat} (h : q ≤ n) : q ≤ aeN P n q ∧ aeN P n q ≤ n ∧ (∀ j, q ≤ j → j < aeN P n q → j < n ∧ P j = true) ∧ ¬ (aeN P n q < n ∧ P (aeN P n q) = true) := by
  obtain ⟨a1, a2, a3, a4⟩ := ae9_sp (P := P) (n - q) q (Nat.le_refl _)
  exact ⟨a1, a2 h, a3, a4⟩
theorem aeN_out {P : Nat → Bool} {n q : Nat} (h : ¬ (q < n ∧ P q = true)) : aeN P n q = q := by
  unfold aeN
  generalize n - q = m
  cases m with
  | zero => rfl
  | succ m => unfold ae9; rw [if_neg h]
theorem aeN_in {P : Nat → Bool} {n q : Nat} (h : q < n ∧ P q = true) : aeN P n q = aeN P n (q + 1) := by
  unfold aeN
  rw [show n - q = (n - (q + 1)) + 1 by omega, ae9, if_pos h]
/-- a loop that steps on -/
theorem lp_ae {Y : Type} {b : DA → Option (DA ⊕ DA)} {K : DA → Option Y} {P : Nat → Bool} {n q c i : Nat} {d : DA} (hn : n ≤ 400) (hd : d.1 c i = q) (hq : q ≤ n) (hb : ∀ u : Nat, u ≤ n → b (wA d c (fu (d.1 c) i (u : Int))) = if u < n ∧ P u = true then some (.inl (wI (wA d c (fu (d.1 c) i (u : Int))) c i ((u : Int) + 1))) else some (.inr (wA d c (fu (d.1 c) i (u : Int))))) : lpE b d K = K (wA d c (fu (d.1 c) i (aeN P n q : Int))) := by
  obtain ⟨a1, a2, a3, a4⟩ := aeN_sp (P := P) hq
  generalize aeN P n q = e at a1 a2 a3 a4
  have h0 : d = wA d c (fu (d.1 c) i (q : Int)) := by
    have : fu (d.1 c) i (q : Int) = d.1 c := funext fun j => by
      by_cases z : j = i
      · subst z; rw [fu_s, hd]
      · rw [fu_n z]
    rw [this, wA_same]
  refine lpE_for (fun t => wA d c (fu (d.1 c) i ((q + t : Nat) : Int))) (e - q) _ h0 (by omega) (fun t ht => ?_) ?_
  · show b (wA d c (fu (d.1 c) i ((q + t : Nat) : Int))) = _
    rw [hb (q + t) (by omega), if_pos (a3 (q + t) (by omega) (by omega)), wA_wI]
    congr 3
    funext j
    by_cases z : j = i
    · subst z; rw [fu_s, fu_s]; omega
    · rw [fu_n z, fu_n z, fu_n z]
  · show b (wA d c (fu (d.1 c) i ((q + (e - q) : Nat) : Int))) = _
    rw [show q + (e - q) = e by omega, hb e a2, if_neg a4]
/-! signs -/
def bL (v : Int) : Bool := decide (97 ≤ v ∧ v ≤ 122)
def bD (v : Int) : Bool := decide (48 ≤ v ∧ v ≤ 57)
def bB (v : Int) : Bool := decide (v = 32 ∨ v = 10)
theorem x4_isL {v : Int} {d : DA} (hv : -1 ≤ v ∧ v ≤ 255) : X4_isLetter v d = some (if bL v = true then 1 else 0) := by
  unfold X4_isLetter X4_isLetter_j16 bL
  simp only [decide_eq_true_eq]
  by_cases c1 : v < 97
  · rw [gd_pos (by omega), if_pos c1, if_neg (by omega)]
  · by_cases c2 : 122 < v
    · rw [gd_pos (by omega), if_neg c1, gd_pos (by omega), if_pos c2, if_neg (by omega)]
    · rw [gd_pos (by omega), if_neg c1, gd_pos (by omega), if_neg c2, if_pos (by omega)]
theorem x12_isL {v : Int} {d : DA} (hv : -1 ≤ v ∧ v ≤ 255) : X12_isLetter v d = some (if bL v = true then 1 else 0) := x4_isL (d := d) hv
theorem x4_isD {v : Int} {d : DA} (hv : -1 ≤ v ∧ v ≤ 255) : X4_isDigit v d = some (if bD v = true then 1 else 0) := by
  unfold X4_isDigit X4_isDigit_j16 bD
  simp only [decide_eq_true_eq]
  by_cases c1 : v < 48
  · rw [gd_pos (by omega), if_pos c1, if_neg (by omega)]
  · by_cases c2 : 57 < v
    · rw [gd_pos (by omega), if_neg c1, gd_pos (by omega), if_pos c2, if_neg (by omega)]
    · rw [gd_pos (by omega), if_neg c1, gd_pos (by omega), if_neg c2, if_pos (by omega)]
theorem x12_isD {v : Int} {d : DA} (hv : -1 ≤ v ∧ v ≤ 255) : X12_isDigit v d = some (if bD v = true then 1 else 0) := x4_isD (d := d) hv
theorem x4_isB {v : Int} {d : DA} (hv : -1 ≤ v ∧ v ≤ 255) : X4_isBlank v d = some (if bB v = true then 1 else 0) := by
  unfold X4_isBlank X4_isBlank_j12 bB
  simp only [decide_eq_true_eq]
  by_cases c1 : v = 32
  · rw [gd_pos (by omega), if_pos c1, if_pos (Or.inl c1)]
  · by_cases c2 : v = 10
    · rw [gd_pos (by omega), if_neg c1, gd_pos (by omega), if_pos c2, if_pos (Or.inr c2)]
    · rw [gd_pos (by omega), if_neg c1, gd_pos (by omega), if_neg c2, if_neg (by omega)]
/-- the tape -/
def Tp9 (B : Nat → Int) (n : Nat) : Prop := n ≤ 400 ∧ ∀ j, j < n → 0 ≤ B j ∧ B j ≤ 255
/-- the token from s on: its sort, its end, its number, whether it is a word -/
def tS (B : Nat → Int) (n q : Nat) : Nat := aeN (fun j => bB (B j)) n q
def tR (B : Nat → Int) (n s : Nat) : Nat := if n ≤ s then 0 else if bL (B s) = true then 1 else if bD (B s) = true then 2 else if B s = 61 ∨ B s = 43 ∨ B s = 59 then 3 else 4
def tE (B : Nat → Int) (n s : Nat) : Nat := if n ≤ s then s else if bL (B s) = true then aeN (fun j => bL (B j)) n s else if bD (B s) = true then aeN (fun j => bD (B j)) n s else s + 1
def nV (B : Nat → Int) (s : Nat) : Nat → Int
  | 0 => 0
  | m + 1 => 10 * nV B s m + B (s + m) - 48
def tW (B : Nat → Int) (s e a : Nat) : Prop := e = s + 4 ∧ ∀ i, i < 4 → B (s + i) = strC a (i : Nat)
theorem tE_bd {B : Nat → Int} {n s : Nat} (h : s ≤ n) : s ≤ tE B n s ∧ tE B n s ≤ n ∧ (s < n → s < tE B n s) := by
  unfold tE
  by_cases c0 : n ≤ s
  · rw [if_pos c0]; omega
  · rw [if_neg c0]
    by_cases c1 : bL (B s) = true
    · rw [if_pos c1, aeN_in ⟨(by omega), c1⟩]
      have := aeN_sp (P := fun j => bL (B j)) (n := n) (q := s + 1) (by omega)
      omega
    · rw [if_neg c1]
      by_cases c2 : bD (B s) = true
      · rw [if_pos c2, aeN_in ⟨(by omega), c2⟩]
        have := aeN_sp (P := fun j => bD (B j)) (n := n) (q := s + 1) (by omega)
        omega
      · rw [if_neg c2]; omega
theorem tS_bd {B : Nat → Int} {n q : Nat} (h : q ≤ n) : q ≤ tS B n q ∧ tS B n q ≤ n ∧ ¬ (tS B n q < n ∧ bB (B (tS B n q)) = true) := by
  obtain ⟨a1, a2, a3, a4⟩ := aeN_sp (P := fun j => bB (B j)) h
  exact ⟨a1, a2, a4⟩
theorem nV_bd {B : Nat → Int} {s : Nat} : ∀ m, (∀ i, i < m → bD (B (s + i)) = true) → 0 ≤ nV B s m ∧ nV B s m + 1 ≤ 10 ^ m := by
  intro m
  induction m with
  | zero => intro _; unfold nV; omega
  | succ m ih =>
    intro h
    obtain ⟨a, b⟩ := ih (fun i hi => h i (by omega))
    have := h m (by omega)
    unfold bD at this
    simp only [decide_eq_true_eq] at this
    unfold nV
    rw [Int.pow_succ]
    omega
theorem strC_bd : ∀ a, a < 2 → ∀ j, j < 4 → 0 ≤ strC a (j : Nat) ∧ strC a (j : Nat) < 128 := strC_ok
/-! the class's token -/
theorem x4_isWord {B : Nat → Int} {n s e a : Nat} {d : DA} (hB : Tp9 B n) (ha : a < 2) (h44 : ∀ j, j < n → d.1 44 j = B j) (h3 : d.1 45 3 = s) (h2 : d.1 45 2 = e) (hse : s ≤ e ∧ e ≤ n) : ∃ v, X4_isWord 45 a d = some v ∧ (v = 1 ∧ tW B s e a ∨ v = 0 ∧ ¬ tW B s e a) := by
  unfold X4_isWord
  have hn := hB.1
  rw [h2, h3, gd_pos (by omega)]
  by_cases c : (e : Int) - s = 4
  · rw [if_pos c]
    refine Or.elim (lpR_ei (b := fun q => X4_isWord_b20 45 a q d) (k := fun _ => some (1 : Int)) (j := fun r => some r) (s0 := (0 : Int)) (fun i v => v = (i : Nat) ∧ ∀ t, t < i → B (s + t) = strC a (t : Nat)) (fun _ => ∀ t, t < 4 → B (s + t) = strC a (t : Nat)) (fun r => r = 0 ∧ ¬ tW B s e a) 4 (by omega) ⟨rfl, fun t ht => absurd ht (by omega)⟩ (fun i v hi hv => ?_) (fun v hv => ?_)) (fun ⟨u, h1, h2⟩ => ⟨1, h1, Or.inl ⟨rfl, (by omega), h2⟩⟩) (fun ⟨r, h1, h2⟩ => ⟨r, h1, Or.inr h2⟩)
    · obtain ⟨rfl, h⟩ := hv
      show (∃ s', X4_isWord_b20 45 a (i : Int) d = _ ∧ _) ∨ (∃ x, X4_isWord_b20 45 a (i : Int) d = _ ∧ _)
      unfold X4_isWord_b20
      have e1 : d.1 (45 - 1) (Int.toNat ((d.1 45 3) + (i : Int))) = B (s + i) := by
        rw [h3, show ((s : Int) + (i : Int)) = ((s + i : Nat) : Int) by omega, Int.toNat_natCast]; exact h44 _ (by omega)
      have b1 := hB.2 (s + i) (by omega)
      have b2 := strC_bd a ha i hi
      rw [gd_pos (by omega), if_neg (by omega), e1, h3, gd_pos (by omega), gd_pos (by omega), gd_pos (by omega)]
      by_cases ce : B (s + i) = strC a (i : Nat)
      · rw [if_pos ce]
        exact Or.inl ⟨_, rfl, by omega, fun t ht => by
          by_cases z : t = i
          · rw [z]; exact ce
          · exact h t (by omega)⟩
      · rw [if_neg ce]
        exact Or.inr ⟨_, rfl, rfl, fun w => ce (w.2 i hi)⟩
    · obtain ⟨rfl, h⟩ := hv
      refine ⟨(), ?_, h⟩
      show X4_isWord_b20 45 a ((4 : Nat) : Int) d = _
      unfold X4_isWord_b20
      rw [gd_pos (by omega), if_pos (by omega)]
  · rw [if_neg c]
    exact ⟨0, rfl, Or.inr ⟨rfl, fun w => c (by have := w.1; omega)⟩⟩

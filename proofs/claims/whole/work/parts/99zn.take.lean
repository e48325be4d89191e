/-! ===== the groups as they are, whatever lay there before ===== -/
theorem Eb.bSp {dl : Nat → Nat} {i j k : Nat} {s t : Gm} (h : Eb 125 s.1 t.1 ∧ s.2 = t.2) (hq : cl9 i j k < 125) : Eb 125 (bS dl i j k s).1 (bS dl i j k t).1 ∧ (bS dl i j k s).2 = (bS dl i j k t).2 := by
  obtain ⟨f, n⟩ := s
  obtain ⟨g, m⟩ := t
  obtain ⟨h1, h2⟩ := h
  have h2' : n = m := h2
  subst h2'
  exact h1.bS9 hq
theorem Eb.bKp {dl : Nat → Nat} {i j k0 : Nat} {s t : Gm} (h : Eb 125 s.1 t.1 ∧ s.2 = t.2) : ∀ m, (∀ n, n < m → cl9 i j (k0 + n) < 125) → Eb 125 (bK dl i j k0 s m).1 (bK dl i j k0 t m).1 ∧ (bK dl i j k0 s m).2 = (bK dl i j k0 t m).2 := by
  intro m
  induction m with
  | zero => intro _; exact h
  | succ m ih => intro hm; exact Eb.bSp (ih (fun n hn => hm n (by omega))) (hm m (by omega))
theorem Eb.bJp {dl : Nat → Nat} {lr i j0 : Nat} {s t : Gm} (h4 : lr ≤ 4) (hi : i < 4) (h : Eb 125 s.1 t.1 ∧ s.2 = t.2) : ∀ m, j0 + m ≤ lr → Eb 125 (bJ dl lr i j0 s m).1 (bJ dl lr i j0 t m).1 ∧ (bJ dl lr i j0 s m).2 = (bJ dl lr i j0 t m).2 := by
  intro m
  induction m with
  | zero => intro _; exact h
  | succ m ih => intro hm; exact Eb.bKp (ih (by omega)) _ (fun n hn => by unfold cl9; omega)
theorem Eb.bIp {dl : Nat → Nat} {lr : Nat} {s t : Gm} (h4 : lr ≤ 4) (h : Eb 125 s.1 t.1 ∧ s.2 = t.2) : ∀ m, 1 + m ≤ lr → Eb 125 (bI dl lr s m).1 (bI dl lr t m).1 ∧ (bI dl lr s m).2 = (bI dl lr t m).2 := by
  intro m
  induction m with
  | zero => intro _; exact h
  | succ m ih => intro hm; exact Eb.bJp h4 (by omega) (ih (by omega)) _ (by omega)
/-- the class's: marks below 64, count, firsts below the count -/
def Ea (s t : Gr) : Prop := Eb 64 s.1 t.1 ∧ s.2.2 = t.2.2 ∧ ∀ q, q < s.2.2 → s.2.1 q = t.2.1 q
theorem Ea.aSp {dl : Nat → Nat} {i j k : Nat} {s t : Gr} (h : Ea s t) (hq : st9 i j k < 64) : Ea (aS dl i j k s) (aS dl i j k t) := by
  obtain ⟨f, u, n⟩ := s
  obtain ⟨g, v, m⟩ := t
  obtain ⟨h1, h2, h3⟩ := h
  have h2' : n = m := h2
  subst h2'
  have h1' : Eb 64 f g := h1
  have h3' : ∀ q, q < n → u q = v q := h3
  have e : f (st9 i j k) = g (st9 i j k) := h1' _ hq
  by_cases c : g (st9 i j k) = -1
  · have c' : f (st9 i j k) = -1 := e.trans c
    by_cases c2 : 10 ≤ n
    · have e1 : aS dl i j k (f, u, n) = (f, u, n) := (if_pos c').trans (if_pos c2)
      have e2 : aS dl i j k (g, v, n) = (g, v, n) := (if_pos c).trans (if_pos c2)
      rw [e1, e2]; exact ⟨h1, h2, h3⟩
    · have e1 : aS dl i j k (f, u, n) = (mk6 st9 (mk6 st9 f i j k (n : Int)) (dl i) (dl j) (dl k) (n : Int), fu u n ((st9 i j k : Nat) : Int), n + 1) := (if_pos c').trans (if_neg c2)
      have e2 : aS dl i j k (g, v, n) = (mk6 st9 (mk6 st9 g i j k (n : Int)) (dl i) (dl j) (dl k) (n : Int), fu v n ((st9 i j k : Nat) : Int), n + 1) := (if_pos c).trans (if_neg c2)
      rw [e1, e2]
      refine ⟨(h1'.m69 _ _ _ _).m69 _ _ _ _, rfl, fun q hq => ?_⟩
      have hq' : q < n + 1 := hq
      show fu u n _ q = fu v n _ q
      rw [fu_app, fu_app]
      by_cases y : q = n
      · rw [if_pos y, if_pos y]
      · rw [if_neg y, if_neg y]; exact h3' q (by omega)
  · have c' : ¬ f (st9 i j k) = -1 := fun z => c (e.symm.trans z)
    have e1 : aS dl i j k (f, u, n) = (f, u, n) := if_neg c'
    have e2 : aS dl i j k (g, v, n) = (g, v, n) := if_neg c
    rw [e1, e2]; exact ⟨h1, h2, h3⟩
theorem Ea.aKp {dl : Nat → Nat} {i j k0 : Nat} {s t : Gr} (h : Ea s t) : ∀ m, (∀ n, n < m → st9 i j (k0 + n) < 64) → Ea (aK dl i j k0 s m) (aK dl i j k0 t m) := by
  intro m
  induction m with
  | zero => intro _; exact h
  | succ m ih => intro hm; exact Ea.aSp (ih (fun n hn => hm n (by omega))) (hm m (by omega))
theorem Ea.aJp {dl : Nat → Nat} {lr i j0 : Nat} {s t : Gr} (h4 : lr ≤ 4) (hi : i < 4) (h : Ea s t) : ∀ m, j0 + m ≤ lr → Ea (aJ dl lr i j0 s m) (aJ dl lr i j0 t m) := by
  intro m
  induction m with
  | zero => intro _; exact h
  | succ m ih => intro hm; exact Ea.aKp (ih (by omega)) _ (fun n hn => by unfold st9; omega)
theorem Ea.aIp {dl : Nat → Nat} {lr : Nat} {s t : Gr} (h4 : lr ≤ 4) (h : Ea s t) : ∀ m, 1 + m ≤ lr → Ea (aI dl lr s m) (aI dl lr t m) := by
  intro m
  induction m with
  | zero => intro _; exact h
  | succ m ih => intro hm; exact Ea.aJp h4 (by omega) (ih (by omega)) _ (by omega)
def gpA (lr w : Nat) : Gr := aI (dl9 lr w) lr (fun _ => -1, fun _ => 0, 0) (lr - 1)
def gpB (lr w : Nat) : Gm := bI (dl9 lr w) lr (fun _ => -1, 0) (lr - 1)
/-- the ways that occur -/
def lw5 : List (Nat × Nat) := [(2, 0), (3, 0), (3, 1), (4, 0), (4, 1)]
def grp (lr w a b c : Nat) : Nat := ((gpB lr w).1 (cl9 a b c)).toNat
def gcn (lr w : Nat) : Nat := (gpB lr w).2
def r4 : List Nat := [0, 1, 2, 3]
theorem gAB : ∀ q ∈ lw5, (gpA q.1 q.2).2.2 = gcn q.1 q.2 ∧ 1 ≤ gcn q.1 q.2 ∧ gcn q.1 q.2 ≤ 10 ∧ ∀ a ∈ r4, ∀ b ∈ r4, ∀ c ∈ r4, 1 ≤ a → a < q.1 → 1 ≤ b → b < q.1 → 1 ≤ c → c < q.1 → (gpA q.1 q.2).1 (st9 a b c) = (grp q.1 q.2 a b c : Int) ∧ (gpB q.1 q.2).1 (cl9 a b c) = (grp q.1 q.2 a b c : Int) ∧ grp q.1 q.2 a b c < gcn q.1 q.2 := by decide +kernel
theorem r4_mem {a : Nat} (h : a < 4) : a ∈ r4 := by
  rcases (show a = 0 ∨ a = 1 ∨ a = 2 ∨ a = 3 by omega) with rfl | rfl | rfl | rfl <;> decide
theorem lw5_bd {lr w : Nat} (h : (lr, w) ∈ lw5) : 2 ≤ lr ∧ lr ≤ 4 ∧ w ≤ 1 ∧ (lr = 2 → w = 0) := by
  unfold lw5 at h
  simp at h
  omega
theorem lw5_of {lr w : Nat} (h2 : 2 ≤ lr) (h4 : lr ≤ 4) (hw : w ≤ 1) (h : lr = 2 → w = 0) : (lr, w) ∈ lw5 := by
  unfold lw5
  simp
  omega
/-- the class's arranging, in the end -/
theorem x2_arr {d : DA} {lr w : Nat} (hlr : d.1 46 0 = lr) (hq : (lr, w) ∈ lw5) : ∃ f g u, X2_arrange 46 w d = some ((), lsG (wA d 48 f) (g, u, gcn lr w)) ∧ (∀ a, a < lr → f a = ((dl9 lr w a : Nat) : Int)) ∧ (∀ a b c, 1 ≤ a → a < lr → 1 ≤ b → b < lr → 1 ≤ c → c < lr → g (st9 a b c) = (grp lr w a b c : Int)) ∧ ∀ q, q < gcn lr w → u q = (gpA lr w).2.1 q := by
  obtain ⟨h2, h4, hw, -⟩ := lw5_bd hq
  obtain ⟨f, e1, e2⟩ := x2_arrange hlr h2 h4 hw
  have hE : Ea (aI (dl9 lr w) lr (pre (d.1 49) (fun _ => -1) 64, d.1 50, 0) (lr - 1)) (gpA lr w) := Ea.aIp (dl := dl9 lr w) (s := (pre (d.1 49) (fun _ => -1) 64, d.1 50, 0)) (t := (fun _ => -1, fun _ => 0, 0)) h4 ⟨fun q hq => (pre_lt hq : pre (d.1 49) (fun _ => -1) 64 q = _), rfl, fun q hq => absurd hq (Nat.not_lt_zero _)⟩ (lr - 1) (by omega)
  obtain ⟨z1, z2, z3, z4⟩ := gAB _ hq
  generalize aI (dl9 lr w) lr (pre (d.1 49) (fun _ => -1) 64, d.1 50, 0) (lr - 1) = s at e1 hE
  obtain ⟨g, u, n⟩ := s
  obtain ⟨y1, y2, y3⟩ := hE
  have y2' : n = gcn lr w := y2.trans z1
  subst y2'
  refine ⟨f, g, u, e1, e2, fun a b c a1 a2 b1 b2 c1 c2 => ?_, fun q hq => y3 q hq⟩
  have y1' : g (st9 a b c) = (gpA lr w).1 (st9 a b c) := y1 _ (by unfold st9; omega)
  rw [y1']
  exact (z4 a (r4_mem (by omega)) b (r4_mem (by omega)) c (r4_mem (by omega)) a1 a2 b1 b2 c1 c2).1
theorem x12_tg {d : DA} {lr w : Nat} (hq : (lr, w) ∈ lw5) : ∃ g, X12_tellGroups 113 lr w d = some ((), mdG d (g, gcn lr w)) ∧ (∀ a b c, 1 ≤ a → a < lr → 1 ≤ b → b < lr → 1 ≤ c → c < lr → g (cl9 a b c) = (grp lr w a b c : Int)) := by
  obtain ⟨h2, h4, hw, -⟩ := lw5_bd hq
  have e1 := x12_tellGroups (d := d) h2 h4 hw
  have hE := Eb.bIp (dl := dl9 lr w) (s := (pre (d.1 131) (fun _ => -1) 125, 0)) (t := (fun _ => -1, 0)) h4 ⟨fun q hq => (pre_lt hq : pre (d.1 131) (fun _ => -1) 125 q = _), rfl⟩ (lr - 1) (by omega)
  obtain ⟨z1, z2, z3, z4⟩ := gAB _ hq
  generalize bI (dl9 lr w) lr (pre (d.1 131) (fun _ => -1) 125, 0) (lr - 1) = s at e1 hE
  obtain ⟨g, n⟩ := s
  obtain ⟨y1, y2⟩ := hE
  have y2' : n = gcn lr w := y2
  subst y2'
  refine ⟨g, e1, fun a b c a1 a2 b1 b2 c1 c2 => ?_⟩
  have y1' : g (cl9 a b c) = (gpB lr w).1 (cl9 a b c) := y1 _ (by unfold cl9; omega)
  rw [y1']
  exact (z4 a (r4_mem (by omega)) b (r4_mem (by omega)) c (r4_mem (by omega)) a1 a2 b1 b2 c1 c2).2.1
theorem grp_lt {lr w a b c : Nat} (hq : (lr, w) ∈ lw5) (a1 : 1 ≤ a) (a2 : a < lr) (b1 : 1 ≤ b) (b2 : b < lr) (c1 : 1 ≤ c) (c2 : c < lr) : grp lr w a b c < gcn lr w := by
  have h4 := (lw5_bd hq).2.1
  exact ((gAB _ hq).2.2.2 a (r4_mem (by omega)) b (r4_mem (by omega)) c (r4_mem (by omega)) a1 a2 b1 b2 c1 c2).2.2
theorem gcn_bd {lr w : Nat} (hq : (lr, w) ∈ lw5) : 1 ≤ gcn lr w ∧ gcn lr w ≤ 10 := ⟨(gAB _ hq).2.1, (gAB _ hq).2.2.1⟩
theorem dl9_bd {lr w : Nat} (hq : (lr, w) ∈ lw5) {a : Nat} (h : a < lr) : dl9 lr w a < lr ∧ (1 ≤ a → 1 ≤ dl9 lr w a) ∧ dl9 lr w (dl9 lr w a) = a := by
  obtain ⟨h2, h4, hw, h0⟩ := lw5_bd hq
  unfold dl9
  by_cases c1 : w = 1
  · rw [if_pos c1, if_pos c1]
    by_cases c2 : a = lr - 2
    · rw [if_pos c2, if_neg (by omega), if_pos rfl]; omega
    · rw [if_neg c2]
      by_cases c3 : a = lr - 1
      · rw [if_pos c3, if_pos rfl]; omega
      · rw [if_neg c3, if_neg c2, if_neg c3]; omega
  · rw [if_neg c1, if_neg c1]; omega

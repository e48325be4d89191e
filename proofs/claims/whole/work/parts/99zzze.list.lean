/-! ===== list: which equations suffice ===== -/
theorem grp_all : ∀ q ∈ lw5, ∀ a ∈ r4, ∀ b ∈ r4, ∀ c ∈ r4, 1 ≤ a → a < q.1 → 1 ≤ b → b < q.1 → 1 ≤ c → c < q.1 → grp q.1 q.2 a b c = grp q.1 q.2 b a c ∧ grp q.1 q.2 a b c = grp q.1 q.2 a c b ∧ grp q.1 q.2 (dl9 q.1 q.2 a) (dl9 q.1 q.2 b) (dl9 q.1 q.2 c) = grp q.1 q.2 a b c := by decide +kernel
section
variable {lr w : Nat} {fg : Nat → Int}
theorem grp_sy (hq : (lr, w) ∈ lw5) {a b c : Nat} (a1 : 1 ≤ a) (a2 : a < lr) (b1 : 1 ≤ b) (b2 : b < lr) (c1 : 1 ≤ c) (c2 : c < lr) : grp lr w a b c = grp lr w b a c ∧ grp lr w a b c = grp lr w a c b ∧ grp lr w (dl9 lr w a) (dl9 lr w b) (dl9 lr w c) = grp lr w a b c := by
  obtain ⟨h2, h4, -, -⟩ := lw5_bd hq
  exact grp_all (lr, w) hq a (r4_mem (by omega)) b (r4_mem (by omega)) c (r4_mem (by omega)) a1 a2 b1 b2 c1 c2
theorem tkG_cm (hq : (lr, w) ∈ lw5) {i j k : Nat} (hi : i < lr) (hj : j < lr) (hk : k < lr) : tkG lr w fg i j k = tkG lr w fg j i k := by
  unfold tkG
  by_cases c1 : i = 0
  · rw [if_pos c1]
    by_cases c2 : j = 0
    · rw [if_pos c2, c1, c2]
    · rw [if_neg c2, if_pos c1]
  · rw [if_neg c1]
    by_cases c2 : j = 0
    · rw [if_pos c2, if_pos c2]
    · rw [if_neg c2, if_neg c2, if_neg c1]
      unfold tkV
      by_cases c3 : k = 0
      · rw [if_pos c3, if_pos c3]
        have d1 := (dl9_bd hq hi).2.2
        have d2 := (dl9_bd hq hj).2.2
        by_cases c : dl9 lr w i = j
        · rw [if_pos c, if_pos (by rw [← c]; exact d1)]
        · rw [if_neg c, if_neg (fun z => c (by rw [← z]; exact d2))]
      · rw [if_neg c3, if_neg c3]
        obtain ⟨e1, e2, -⟩ := dl9_bd hq hk
        rw [(grp_sy hq (a := i) (b := j) (c := dl9 lr w k) (by omega) hi (by omega) hj (e2 (by omega)) e1).1]
/-- LAW 1 at i, j, k, l -/
def AsN (lr w : Nat) (fg : Nat → Int) (i j k l : Nat) : Prop := sm lr (fun e => tkG lr w fg i j e * tkG lr w fg e k l - tkG lr w fg j k e * tkG lr w fg i e l) = 0
theorem AsN.sw (hq : (lr, w) ∈ lw5) {i j k l : Nat} (hi : i < lr) (hj : j < lr) (hk : k < lr) (hl : l < lr) (h : AsN lr w fg i j k l) : AsN lr w fg k j i l := by
  unfold AsN at h ⊢
  have e : sm lr (fun e => tkG lr w fg k j e * tkG lr w fg e i l - tkG lr w fg j i e * tkG lr w fg k e l) = sm lr (fun e => (tkG lr w fg i j e * tkG lr w fg e k l - tkG lr w fg j k e * tkG lr w fg i e l) * (-1)) := sm_congr lr (fun e he => by
    rw [tkG_cm hq hk hj he, tkG_cm hq he hi hl, tkG_cm hq hj hi he, tkG_cm hq hk he hl]
    omega)
  rw [e, sm_mul, h, Int.zero_mul]
theorem AsN.eq (hq : (lr, w) ∈ lw5) {i j l : Nat} (hi : i < lr) (hj : j < lr) (hl : l < lr) : AsN lr w fg i j i l := by
  unfold AsN
  have e : sm lr (fun e => tkG lr w fg i j e * tkG lr w fg e i l - tkG lr w fg j i e * tkG lr w fg i e l) = sm lr (fun _ => 0) := sm_congr lr (fun e he => by
    rw [tkG_cm hq hj hi he, tkG_cm hq he hi hl]
    omega)
  rw [e, sm_zero]
theorem sm_pick {f : Nat → Int} {m : Nat} : ∀ n, m < n → (∀ i, i < n → i ≠ m → f i = 0) → sm n f = f m := by
  intro n
  induction n with
  | zero => intro h; omega
  | succ n ih =>
    intro h hz
    rw [sm_s]
    by_cases c : m = n
    · rw [c, sm_congr (g := fun _ => 0) n (fun i hi => hz i (by omega) (by omega)), sm_zero, Int.zero_add]
    · rw [ih (by omega) (fun i hi hne => hz i (by omega) hne), hz n (by omega) (fun e => c e.symm), Int.add_zero]
theorem AsN.z (hq : (lr, w) ∈ lw5) {i j k : Nat} (i1 : 1 ≤ i) (hi : i < lr) (j1 : 1 ≤ j) (hj : j < lr) (k1 : 1 ≤ k) (hk : k < lr) : AsN lr w fg i j k 0 := by
  obtain ⟨h2, -, -, -⟩ := lw5_bd hq
  unfold AsN
  obtain ⟨dk1, dk2, dk3⟩ := dl9_bd hq hk
  obtain ⟨di1, di2, di3⟩ := dl9_bd hq hi
  have z0 : ∀ e, e < lr → ∀ x, 1 ≤ x → x < lr → tkG lr w fg e x 0 = if dl9 lr w x = e then 1 else 0 := fun e he x x1 x2 => by
    obtain ⟨dx1, dx2, dx3⟩ := dl9_bd hq x2
    unfold tkG
    by_cases c : e = 0
    · rw [if_pos c]
      unfold dk9
      rw [if_neg (by omega), if_neg (by have := dx2 x1; omega)]
    · rw [if_neg c, if_neg (by omega)]
      unfold tkV
      rw [if_pos rfl]
      have de := (dl9_bd hq he).2.2
      by_cases c2 : dl9 lr w x = e
      · rw [if_pos c2, if_pos (by rw [← c2]; exact dx3)]
      · rw [if_neg c2, if_neg (fun z => c2 (by rw [← z]; exact de))]
  have e1 : sm lr (fun e => tkG lr w fg i j e * tkG lr w fg e k 0) = tkG lr w fg i j (dl9 lr w k) := by
    rw [sm_pick (m := dl9 lr w k) lr dk1 (fun e he hne => by
      show tkG lr w fg i j e * tkG lr w fg e k 0 = 0
      rw [z0 e he k k1 hk, if_neg (fun z => hne z.symm), Int.mul_zero])]
    show tkG lr w fg i j (dl9 lr w k) * tkG lr w fg (dl9 lr w k) k 0 = _
    rw [z0 _ dk1 k k1 hk, if_pos rfl, Int.mul_one]
  have e2 : sm lr (fun e => tkG lr w fg j k e * tkG lr w fg i e 0) = tkG lr w fg j k (dl9 lr w i) := by
    rw [sm_pick (m := dl9 lr w i) lr di1 (fun e he hne => by
      show tkG lr w fg j k e * tkG lr w fg i e 0 = 0
      rw [tkG_cm hq hi he (by omega), z0 e he i i1 hi, if_neg (fun z => hne z.symm), Int.mul_zero])]
    show tkG lr w fg j k (dl9 lr w i) * tkG lr w fg i (dl9 lr w i) 0 = _
    rw [tkG_cm hq hi di1 (by omega), z0 _ di1 i i1 hi, if_pos rfl, Int.mul_one]
  rw [sm_sub, e1, e2]
  have a1 := dk2 k1
  have a2 := di2 i1
  unfold tkG
  rw [if_neg (by omega), if_neg (by omega), if_neg (by omega), if_neg (by omega)]
  unfold tkV
  rw [if_neg (by omega), if_neg (by omega), dk3, di3]
  have g1 := grp_sy hq i1 hi j1 hj k1 hk
  have g2 := grp_sy hq j1 hj i1 hi k1 hk
  rw [g1.1, g2.2.1]
  omega
/-- the equations with i < k and l not 0 suffice -/
theorem AsN.all (hq : (lr, w) ∈ lw5) (h : ∀ i j k l, 1 ≤ i → i < k → k < lr → 1 ≤ j → j < lr → 1 ≤ l → l < lr → AsN lr w fg i j k l) {i j k l : Nat} (i1 : 1 ≤ i) (hi : i < lr) (j1 : 1 ≤ j) (hj : j < lr) (k1 : 1 ≤ k) (hk : k < lr) (hl : l < lr) : AsN lr w fg i j k l := by
  by_cases c0 : l = 0
  · rw [c0]; exact AsN.z hq i1 hi j1 hj k1 hk
  · rcases Nat.lt_trichotomy i k with c | c | c
    · exact h i j k l i1 c hk j1 hj (by omega) hl
    · subst c; exact AsN.eq hq hi hj hl
    · exact (h k j i l k1 c hi j1 hj (by omega) hl).sw hq hk hj hi hl
end

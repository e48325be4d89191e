/-! ===== n + 1 rows of n numbers depend on one another ===== -/
def sk9 (j i : Nat) : Nat := if i < j then i else i + 1
theorem sm_skip {f : Nat → Int} {j : Nat} : ∀ n, j ≤ n → sm (n + 1) f = sm n (fun i => f (sk9 j i)) + f j := by
  intro n
  induction n with
  | zero =>
    intro h
    have : j = 0 := by omega
    subst this
    rfl
  | succ n ih =>
    intro h
    by_cases c : j = n + 1
    · subst c
      show sm (n + 1) f + f (n + 1) = _
      refine congrArg (· + f (n + 1)) (sm_congr (n + 1) (fun i hi => ?_))
      unfold sk9; rw [if_pos hi]
    · show sm (n + 1) f + f (n + 1) = sm n (fun i => f (sk9 j i)) + f (sk9 j n) + f j
      rw [ih (by omega)]
      have : sk9 j n = n + 1 := by unfold sk9; rw [if_neg (by omega)]
      rw [this]
      omega
theorem dep9 {p : Nat} {iv : Int → Int} (hp : 2 ≤ p) (hiv : IvG p iv) : ∀ (n : Nat) (v : Nat → Nat → Int), ∃ a : Nat → Int, (∃ i, i < n + 1 ∧ ¬ cgm p (a i) 0) ∧ ∀ k, k < n → cgm p (sm (n + 1) fun i => a i * v i k) 0 := by
  intro n
  induction n with
  | zero => intro v; exact ⟨fun _ => 1, ⟨0, (by omega), one_nz hp⟩, fun k hk => absurd hk (Nat.not_lt_zero _)⟩
  | succ n ih =>
    intro v
    by_cases c : ∀ i, i < n + 2 → cgm p (v i n) 0
    · obtain ⟨a, ⟨i, h1, h2⟩, h3⟩ := ih v
      refine ⟨fun i => if i < n + 1 then a i else 0, ⟨i, (by omega), by show ¬ cgm p (if i < n + 1 then a i else 0) 0; rw [if_pos h1]; exact h2⟩, fun k hk => ?_⟩
      by_cases ck : k = n
      · subst ck
        exact cgm.sm0 _ (fun i hi => (c i hi).mul_z _)
      · show cgm p (sm (n + 1) (fun i => (if i < n + 1 then a i else 0) * v i k) + (if n + 1 < n + 1 then a (n + 1) else 0) * v (n + 1) k) 0
        rw [if_neg (by omega), Int.zero_mul, Int.add_zero, sm_congr (g := fun i => a i * v i k) (n + 1) (fun i hi => by show (if i < n + 1 then a i else 0) * v i k = _; rw [if_pos hi])]
        exact h3 k (by omega)
    · obtain ⟨j, hj, hjn⟩ : ∃ j, j < n + 2 ∧ ¬ cgm p (v j n) 0 := by
        refine Classical.byContradiction fun h => c (fun i hi => Classical.byContradiction fun h2 => h ⟨i, hi, h2⟩)
      obtain ⟨b, ⟨i, h1, h2⟩, h3⟩ := ih (fun i k => v j n * v (sk9 j i) k - v (sk9 j i) n * v j k)
      obtain ⟨B, hB⟩ : ∃ B, B = sm (n + 1) fun i => b i * v (sk9 j i) n := ⟨_, rfl⟩
      obtain ⟨a, ha⟩ : ∃ a : Nat → Int, a = fun m => if m = j then -B else if m < j then b m * v j n else b (m - 1) * v j n := ⟨_, rfl⟩
      have as : ∀ i, a (sk9 j i) = b i * v j n := fun i => by
        rw [ha]
        show (if sk9 j i = j then -B else if sk9 j i < j then b (sk9 j i) * v j n else b (sk9 j i - 1) * v j n) = _
        unfold sk9
        by_cases ci : i < j
        · rw [if_pos ci, if_neg (by omega), if_pos ci]
        · rw [if_neg ci, if_neg (by omega), if_neg (by omega), Nat.add_sub_cancel]
      have aj : a j = -B := by rw [ha]; exact if_pos rfl
      refine ⟨a, ⟨sk9 j i, by unfold sk9; split <;> omega, ?_⟩, fun k hk => ?_⟩
      · rw [as]
        intro z
        rcases iv_dom hiv hp z with z | z
        · exact h2 z
        · exact hjn z
      · rw [sm_skip (j := j) (n + 1) (by omega), aj, sm_congr (g := fun i => b i * (v j n * v (sk9 j i) k - v (sk9 j i) n * v j k) + b i * v (sk9 j i) n * v j k) (n + 1) (fun i hi => by
          show a (sk9 j i) * v (sk9 j i) k = _
          rw [as, Int.mul_sub, Int.mul_assoc, Int.mul_assoc]; omega), smA, smR, ← hB]
        have e : sm (n + 1) (fun i => b i * (v j n * v (sk9 j i) k - v (sk9 j i) n * v j k)) + B * v j k + -B * v j k = sm (n + 1) (fun i => b i * (v j n * v (sk9 j i) k - v (sk9 j i) n * v j k)) := by
          rw [Int.neg_mul]; omega
        rw [e]
        by_cases ck : k = n
        · subst ck
          refine cgm.of (smZ _ (fun i hi => ?_))
          rw [Int.mul_comm (v j k), Int.sub_self, Int.mul_zero]
        · exact h3 k (by omega)
/-- rows told apart by what squares make of them don't depend on one another -/
theorem ind9 {p n : Nat} {iv : Int → Int} (hp : 2 ≤ p) (hiv : IvG p iv) {I : Nat → Prop} {A : Nat → Mx} {u : Nat → Nat → Int} {l : Nat → Nat → Int} : ∀ q, (∀ i m j, I i → m < q → j < n → cgm p (sm n fun k => A i j k * u m k) (l i m * u m j)) → (∀ m m', m < m' → m' < q → ∃ i, I i ∧ ¬ cgm p (l i m) (l i m')) → (∀ m, m < q → ∃ k, k < n ∧ ¬ cgm p (u m k) 0) → ∀ a : Nat → Int, (∀ k, k < n → cgm p (sm q fun m => a m * u m k) 0) → ∀ m, m < q → cgm p (a m) 0 := by
  intro q
  induction q with
  | zero => intro _ _ _ a _ m hm; omega
  | succ q ih =>
    intro eig dis nz a ha
    have low : ∀ m, m < q → cgm p (a m) 0 := fun m hm => by
      obtain ⟨i, hi, hl⟩ := dis m q hm (by omega)
      have h1 := ih (fun i m j hi hm hj => eig i m j hi (by omega) hj) (fun m m' h h' => dis m m' h (by omega)) (fun m hm => nz m (by omega)) (fun m' => a m' * (l i m' - l i q)) (fun k hk => by
        -- the square at the whole sum, less l i q times it
        have e1 : cgm p (sm n fun k' => A i k k' * sm (q + 1) fun m' => a m' * u m' k') 0 := cgm.sm0 n (fun k' hk' => (ha k' hk').mul_z _)
        have e2 : (sm n fun k' => A i k k' * sm (q + 1) fun m' => a m' * u m' k') = sm (q + 1) fun m' => a m' * sm n fun k' => A i k k' * u m' k' := by
          have : (fun k' => A i k k' * sm (q + 1) fun m' => a m' * u m' k') = fun k' => sm (q + 1) fun m' => a m' * (A i k k' * u m' k') := funext fun k' => by
            rw [← smM]
            refine sm_congr _ (fun m' _ => ?_)
            rw [← Int.mul_assoc, Int.mul_comm (A i k k'), Int.mul_assoc]
          rw [this, smC]
          exact sm_congr _ (fun m' _ => smM n)
        rw [e2] at e1
        have e3 : cgm p (sm (q + 1) fun m' => a m' * sm n fun k' => A i k k' * u m' k') (sm (q + 1) fun m' => a m' * (l i m' * u m' k)) := cgm.sm9 _ (fun m' hm' => (cgm.rf _).mul (eig i m' k hi hm' hk))
        have e4 := (e3.sy.tr e1).sub ((ha k hk).mul_z (l i q))
        rw [← smM, Int.sub_zero, ← sm_sub] at e4
        have e5 : (sm (q + 1) fun m' => a m' * (l i m' * u m' k) - l i q * (a m' * u m' k)) = sm q fun m' => a m' * (l i m' - l i q) * u m' k := by
          show sm q (fun m' => a m' * (l i m' * u m' k) - l i q * (a m' * u m' k)) + (a q * (l i q * u q k) - l i q * (a q * u q k)) = _
          have z : a q * (l i q * u q k) - l i q * (a q * u q k) = 0 := by
            rw [← Int.mul_assoc, Int.mul_comm (a q), Int.mul_assoc]; omega
          rw [z, Int.add_zero]
          refine sm_congr q (fun m' _ => ?_)
          rw [Int.mul_sub, Int.sub_mul, Int.mul_assoc, Int.mul_comm (a m') (l i q), Int.mul_assoc]
        rw [e5] at e4
        exact e4) m hm
      rcases iv_dom hiv hp h1 with z | z
      · exact z
      · exact absurd (by unfold cgm at z ⊢; rwa [Int.sub_zero] at z) hl
    intro m hm
    by_cases c : m = q
    · subst c
      obtain ⟨k, hk, hn⟩ := nz m (by omega)
      have e1 := ha k hk
      have e2 : cgm p (sm m fun m' => a m' * u m' k) 0 := cgm.sm0 m (fun m' hm' => (low m' hm').z_mul _)
      have e3 : cgm p (a m * u m k) 0 := by
        have := e1.sub e2
        rw [Int.sub_zero] at this
        refine cgm.tr (cgm.of ?_) this
        show a m * u m k = sm m (fun m' => a m' * u m' k) + a m * u m k - sm m (fun m' => a m' * u m' k)
        omega
      rcases iv_dom hiv hp e3 with z | z
      · exact z
      · exact absurd z hn
    · exact low m (by omega)
/-- so there are at most n of them -/
theorem few9 {p n q : Nat} {iv : Int → Int} (hp : 2 ≤ p) (hiv : IvG p iv) {I : Nat → Prop} {A : Nat → Mx} {u : Nat → Nat → Int} {l : Nat → Nat → Int} (eig : ∀ i m j, I i → m < q → j < n → cgm p (sm n fun k => A i j k * u m k) (l i m * u m j)) (dis : ∀ m m', m < m' → m' < q → ∃ i, I i ∧ ¬ cgm p (l i m) (l i m')) (nz : ∀ m, m < q → ∃ k, k < n ∧ ¬ cgm p (u m k) 0) : q ≤ n := by
  refine Classical.byContradiction fun h => ?_
  obtain ⟨a, ⟨i, h1, h2⟩, h3⟩ := dep9 hp hiv n u
  exact h2 (ind9 hp hiv (n + 1) (fun i m j hi hm hj => eig i m j hi (by omega) hj) (fun m m' x y => dis m m' x (by omega)) (fun m hm => nz m (by omega)) a h3 i h1)

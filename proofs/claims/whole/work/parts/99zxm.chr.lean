/-! ===== the class finds all characters ===== -/
def dig (va : Nat → Nat) : Nat → Nat → Nat → Nat
  | 0, _, _ => 0
  | m + 1, L, i => if i = m + 1 then L % va (m + 1) else dig va m (L / va (m + 1)) i
def prd (va : Nat → Nat) : Nat → Nat
  | 0 => 1
  | m + 1 => prd va m * va (m + 1)
theorem prd_congr {va vb : Nat → Nat} : ∀ m, (∀ i, 1 ≤ i → i ≤ m → va i = vb i) → prd va m = prd vb m := by
  intro m
  induction m with
  | zero => intro _; rfl
  | succ m ih => intro h; unfold prd; rw [ih (fun i h1 h2 => h i h1 (by omega)), h (m + 1) (by omega) (Nat.le_refl _)]
theorem prd_pos {va : Nat → Nat} : ∀ m L, L < prd va m → ∀ i, 1 ≤ i → i ≤ m → 0 < va i := by
  intro m
  induction m with
  | zero => intro L _ i h1 h2; omega
  | succ m ih =>
    intro L hL i h1 h2
    unfold prd at hL
    have p0 : 0 < prd va m * va (m + 1) := by omega
    have a1 : 0 < prd va m := Nat.pos_of_mul_pos_right p0
    have a2 : 0 < va (m + 1) := Nat.pos_of_mul_pos_left p0
    by_cases c : i = m + 1
    · rw [c]; exact a2
    · exact ih 0 a1 i h1 (by omega)
theorem prd_bd {va : Nat → Nat} : ∀ m, (∀ i, 1 ≤ i → i ≤ m → va i ≤ 5) → prd va m ≤ 5 ^ m := by
  intro m
  induction m with
  | zero => intro _; exact Nat.le_refl _
  | succ m ih =>
    intro h
    unfold prd
    rw [Nat.pow_succ]
    exact Nat.mul_le_mul (ih (fun i h1 h2 => h i h1 (by omega))) (h (m + 1) (by omega) (Nat.le_refl _))
theorem dig_lt {va : Nat → Nat} : ∀ m L, L < prd va m → ∀ i, 1 ≤ i → i ≤ m → dig va m L i < va i := by
  intro m
  induction m with
  | zero => intro L _ i h1 h2; omega
  | succ m ih =>
    intro L hL i h1 h2
    have h0 := prd_pos (m + 1) L hL (m + 1) (by omega) (Nat.le_refl _)
    unfold dig
    by_cases c : i = m + 1
    · rw [if_pos c, c]; exact Nat.mod_lt _ h0
    · rw [if_neg c]
      refine ih _ ?_ i h1 (by omega)
      unfold prd at hL
      exact Nat.div_lt_of_lt_mul (by rw [Nat.mul_comm]; exact hL)
theorem dig_ord {va : Nat → Nat} : ∀ m L L', L < L' → L' < prd va m → ∃ i, (1 ≤ i ∧ i ≤ m) ∧ dig va m L i < dig va m L' i ∧ ∀ j, 1 ≤ j → j < i → dig va m L j = dig va m L' j := by
  intro m
  induction m with
  | zero => intro L L' h1 h2; unfold prd at h2; omega
  | succ m ih =>
    intro L L' h1 h2
    have h0 := prd_pos (m + 1) L' h2 (m + 1) (by omega) (Nat.le_refl _)
    have hq : L / va (m + 1) ≤ L' / va (m + 1) := Nat.div_le_div_right (Nat.le_of_lt h1)
    have hp : L' / va (m + 1) < prd va m := by
      unfold prd at h2
      exact Nat.div_lt_of_lt_mul (by rw [Nat.mul_comm]; exact h2)
    rcases Nat.lt_or_ge (L / va (m + 1)) (L' / va (m + 1)) with c | c
    · obtain ⟨i, a1, a2, a3⟩ := ih _ _ c hp
      refine ⟨i, (by omega), ?_, fun j h3 h4 => ?_⟩
      · unfold dig; rw [if_neg (by omega), if_neg (by omega)]; exact a2
      · unfold dig; rw [if_neg (by omega), if_neg (by omega)]; exact a3 j h3 h4
    · have e : L / va (m + 1) = L' / va (m + 1) := Nat.le_antisymm hq c
      refine ⟨m + 1, (by omega), ?_, fun j h3 h4 => ?_⟩
      · unfold dig; rw [if_pos rfl, if_pos rfl]
        have d1 := Nat.div_add_mod L (va (m + 1))
        have d2 := Nat.div_add_mod L' (va (m + 1))
        rw [e] at d1
        omega
      · unfold dig; rw [if_neg (by omega), if_neg (by omega), e]
theorem dig_ex {va t : Nat → Nat} : ∀ m, (∀ i, 1 ≤ i → i ≤ m → t i < va i) → ∃ L, L < prd va m ∧ ∀ i, 1 ≤ i → i ≤ m → dig va m L i = t i := by
  intro m
  induction m with
  | zero => intro _; exact ⟨0, by unfold prd; omega, fun i h1 h2 => by omega⟩
  | succ m ih =>
    intro h
    obtain ⟨L, h1, h2⟩ := ih (fun i a b => h i a (by omega))
    have ht := h (m + 1) (by omega) (Nat.le_refl _)
    have eq : (L * va (m + 1) + t (m + 1)) / va (m + 1) = L := by
      rw [Nat.mul_comm, Nat.mul_add_div (by omega), Nat.div_eq_of_lt ht, Nat.add_zero]
    refine ⟨L * va (m + 1) + t (m + 1), ?_, fun i h3 h4 => ?_⟩
    · unfold prd
      have : (L + 1) * va (m + 1) ≤ prd va m * va (m + 1) := Nat.mul_le_mul_right _ h1
      rw [Nat.succ_mul] at this
      omega
    · unfold dig
      by_cases c : i = m + 1
      · rw [if_pos c, c, Nat.mul_comm, Nat.mul_add_mod, Nat.mod_eq_of_lt ht]
      · rw [if_neg c, eq]; exact h2 i h3 (by omega)
theorem isCh.cg9 {n c c' : Nat → Int} {r p : Nat} (h : isCh n r p c) (hr : 1 ≤ r) (e : ∀ k, k < r → c' k = c k) : isCh n r p c' := by
  obtain ⟨h0, h1, h2⟩ := h
  refine ⟨by rw [e 0 (by omega)]; exact h0, fun k hk => by rw [e k hk]; exact h1 k hk, fun i j hi hi2 hj hj2 => ?_⟩
  have es : chS n r c' i j = chS n r c i j := sm_congr r (fun k hk => by rw [e k hk])
  rw [es, e i hi2, e j hj2]
  exact h2 i j hi hi2 hj hj2
/-- a character is a row that each kind's square turns to a multiple of itself -/
theorem isCh.eig {n c : Nat → Int} {r p i j : Nat} (h : isCh n r p c) (hT : TG n r) (hi : i < r) (hj : j < r) : cgm p (sm r fun k => n (ti i j k) * c k) (c i * c j) := by
  by_cases ci : i = 0
  · subst ci
    rw [h.1, Int.one_mul, sm1 (j := j) r hj (fun k hk hn => by rw [hT.2.2.2.1 j k hj hk, if_neg (fun e => hn e.symm), Int.zero_mul]), hT.2.2.2.1 j j hj hj, if_pos rfl, Int.one_mul]
    exact cgm.rf _
  · by_cases cj : j = 0
    · subst cj
      rw [h.1, Int.mul_one, sm1 (j := i) r hi (fun k hk hn => by rw [hT.2.2.2.2 i k hi hk, if_neg (fun e => hn e.symm), Int.zero_mul]), hT.2.2.2.2 i i hi hi, if_pos rfl, Int.one_mul]
      exact cgm.rf _
    · exact h.2.2 i j (by omega) hi (by omega) hj
theorem isCh.bad {n c : Nat → Int} {r p i : Nat} {iv : Int → Int} (h : isCh n r p c) (hT : TG n r) (hp : 2 ≤ p) (hiv : IvG p iv) (hi : i < r) {x : Nat} (hx : c i = x) : bad9 n p r iv i x := by
  have r1 := hT.1.1
  cases hb : (gRun p r iv r 0 (Mq9 n p i x, id9)).1 with
  | false => exact hb
  | true =>
    exfalso
    have := g_ker hp hiv (Mq9_b (n := n) (r := r) (i := i) (x := x) (show 0 < p by omega)) hb (v := c) (fun j hj => by
      refine (Mq9_s hj).tr ?_
      have e := h.eig hT hi hj
      rw [hx] at e
      unfold cgm at e ⊢
      rwa [Int.sub_zero]) 0 (by omega)
    rw [h.1] at this
    exact one_nz hp this
theorem ch_few {n : Nat → Int} {r p q : Nat} {iv : Int → Int} {C : Nat → Nat → Int} (hT : TG n r) (hp : 2 ≤ p) (hiv : IvG p iv) (h1 : ∀ i, i < q → isCh n r p (C i)) (h2 : ∀ i j, i < j → j < q → lxl r (C i) (C j)) : q ≤ r :=
  few9 (n := r) hp hiv (I := fun i => i < r) (A := fun i j k => n (ti i j k)) (u := C) (l := fun i m => C m i) (fun i m j hi hm hj => (h1 m hm).eig hT hi hj) (fun m m' a b => by
    obtain ⟨k, k1, k2, -⟩ := h2 m m' a b
    refine ⟨k, k1, fun z => ?_⟩
    have b1 := (h1 m (by omega)).2.1 k k1
    have b2 := (h1 m' b).2.1 k k1
    have z' : cgm p (C m k) (C m' k) := z
    have := z'.eq b1 b2
    omega) (fun m hm => ⟨0, hT.1.1, by rw [(h1 m hm).1]; exact one_nz hp⟩)
/-- the class's check of a row -/
theorem x1_isC {d : DA} {n c : Nat → Int} {r p : Nat} (hT : TG n r) (k1 : d.1 5 0 = r) (k2 : d.1 6 = n) (k3 : d.1 58 0 = p) (h2 : 2 ≤ p) (h31 : p ≤ 31) (hc0 : c 0 = 1) (hc : ∀ k, k < r → d.1 65 k = c k ∧ 0 ≤ c k ∧ c k < p) : (X1_isCharacter 61 5 58 d = some 0 ∧ ¬ isCh n r p c) ∨ (X1_isCharacter 61 5 58 d = some 1 ∧ isCh n r p c) := by
  have h5 := hT.1
  have dec : ∀ i j, Decidable ((chS n r c i j) % (p : Int) = (c i * c j) % (p : Int)) := fun i j => inferInstance
  have e : X1_isCharacter 61 5 58 d = (al9 (r - 1) (fun i j => (chS n r c i j) % (p : Int) = (c i * c j) % (p : Int))).elim (some 1) some := by
    unfold X1_isCharacter al9
    refine lpR_cna 1 (r - 1) _ (by omega) (fun i hi => ?_) ?_
    · show X1_isCharacter_b2 61 5 58 ((1 + i : Nat) : Int) d = _
      unfold X1_isCharacter_b2
      rw [k1, gd_pos (by omega), if_neg (by omega)]
      refine (lpR_cna 1 (r - 1) (fun j => if (chS n r c (1 + i) (1 + j)) % (p : Int) = (c (1 + i) * c (1 + j)) % (p : Int) then none else some 0) (by omega) (fun j hj => ?_) ?_).trans ?_
      · show X1_isCharacter_b13 61 5 58 ((1 + i : Nat) : Int) ((1 + j : Nat) : Int) d = _
        unfold X1_isCharacter_b13
        rw [k1, gd_pos (by omega), if_neg (by omega)]
        have nb : ∀ k, k < r → 0 ≤ n (ti (1 + i) (1 + j) k) ∧ n (ti (1 + i) (1 + j) k) ≤ 9 := fun k hk => hT.2.1 _ (ti_lt (by omega) (by omega) (by omega))
        have tb : ∀ k, k < r → 0 ≤ n (ti (1 + i) (1 + j) k) * c k ∧ n (ti (1 + i) (1 + j) k) * c k ≤ 9 * 30 := fun k hk => by
          have a := (hc k hk).2
          exact mlb9 (u := 9) (v := 30) (nb k hk) (by omega)
        refine (lpS9 (r := r) (fun k => n (ti (1 + i) (1 + j) k) * c k) (by omega) (fun m hm => ?_) ?_).trans ?_
        · show X1_isCharacter_b28 61 5 58 ((1 + i : Nat) : Int) ((1 + j : Nat) : Int) (sm m _) (m : Int) d = _
          unfold X1_isCharacter_b28
          have hd : d.1 (61 + 4) m = c m := (hc m hm).1
          rw [k1, gd_pos (by omega), if_neg (by omega), b1_pos (x8_at9 k2 (by omega) (by omega) (by omega)), gd_pos (by omega), lt_pos, Int.toNat_natCast, hd]
          rfl
        · show X1_isCharacter_b28 61 5 58 ((1 + i : Nat) : Int) ((1 + j : Nat) : Int) (sm r _) (r : Int) d = _
          unfold X1_isCharacter_b28
          rw [k1, gd_pos (by omega), if_pos (by omega)]
        · have sb := sm_bd (lo := 0) (hi := 9 * 30) r tb
          have es : sm r (fun k => n (ti (1 + i) (1 + j) k) * c k) = chS n r c (1 + i) (1 + j) := rfl
          rw [es] at sb ⊢
          show X1_isCharacter_j65_13 61 5 58 ((1 + i : Nat) : Int) ((1 + j : Nat) : Int) (chS n r c (1 + i) (1 + j)) d = _
          unfold X1_isCharacter_j65_13
          have di : d.1 (61 + 4) (1 + i) = c (1 + i) := (hc (1 + i) (by omega)).1
          have dj : d.1 (61 + 4) (1 + j) = c (1 + j) := (hc (1 + j) (by omega)).1
          have bi := (hc (1 + i) (by omega)).2
          have bj := (hc (1 + j) (by omega)).2
          have mb := mlb9 (u := 30) (v := 30) (show 0 ≤ c (1 + i) ∧ c (1 + i) ≤ 30 by omega) (show 0 ≤ c (1 + j) ∧ c (1 + j) ≤ 30 by omega)
          have q1 := em_bd (show 0 < p by omega) (chS n r c (1 + i) (1 + j))
          have q2 := em_bd (show 0 < p by omega) (c (1 + i) * c (1 + j))
          have hr3 : (r : Int) * (9 * 30) ≤ 1350 := by omega
          rw [b1_pos (x3_reduce k3 h2 h31 (by omega) (by omega)), gd_pos (by omega), gd_pos (by omega), Int.toNat_natCast, Int.toNat_natCast, di, dj, b1_pos (x3_reduce k3 h2 h31 (by omega) (by omega)), gd_pos (by omega)]
          by_cases c1 : (chS n r c (1 + i) (1 + j)) % (p : Int) = (c (1 + i) * c (1 + j)) % (p : Int)
          · rw [if_pos c1, if_pos c1]; rfl
          · rw [if_neg c1, if_neg c1]; rfl
      · show X1_isCharacter_b13 61 5 58 ((1 + i : Nat) : Int) ((1 + (r - 1) : Nat) : Int) d = _
        unfold X1_isCharacter_b13
        rw [k1, gd_pos (by omega), if_pos (by omega)]
      · cases fs9 (r - 1) (fun j => if (chS n r c (1 + i) (1 + j)) % (p : Int) = (c (1 + i) * c (1 + j)) % (p : Int) then none else some (0 : Int)) <;> rfl
    · show X1_isCharacter_b2 61 5 58 ((1 + (r - 1) : Nat) : Int) d = _
      unfold X1_isCharacter_b2
      rw [k1, gd_pos (by omega), if_pos (by omega)]
  cases h : al9 (r - 1) (fun i j => (chS n r c i j) % (p : Int) = (c i * c j) % (p : Int)) with
  | none =>
    right
    rw [h] at e
    exact ⟨e, hc0, fun k hk => (hc k hk).2, fun i j hi hi2 hj hj2 => (em_iff (by omega)).mp (al9_none h i j hi (by omega) hj (by omega))⟩
  | some v =>
    left
    rw [h] at e
    obtain ⟨hv, i, j, hi, hj, hG⟩ := al9_some h
    rw [hv] at e
    exact ⟨e, fun hch => hG ((em_iff (by omega)).mpr (hch.2.2 i j hi.1 (by omega) hj.1 (by omega)))⟩
theorem wl9_in {S E : Type} {b : S → Option (S ⊕ E)} {s s' : S} {F : Nat} (h : b s = some (.inl s')) : wl9 b (F + 1) s = wl9 b F s' := by
  conv => { lhs; unfold wl9 }
  rw [h]
theorem wl9_out {S E : Type} {b : S → Option (S ⊕ E)} {s : S} {e : E} {F : Nat} (h : b s = some (.inr e)) : wl9 b (F + 1) s = some e := by
  conv => { lhs; unfold wl9 }
  rw [h]
/-- the digits of a code, put as numbers -/
theorem x1_digs {va : Nat → Nat} {vs : Nat → Int} {tr L0 : Int} : ∀ (m L F : Nat) (d : DA), m < F → m < 5 → L < 4000 → d.1 63 = vs → (∀ i, 1 ≤ i → i ≤ m → d.1 64 i = (va i : Int) ∧ 1 ≤ va i ∧ va i ≤ 5) → ∃ h, wl9 (fun q => X1_find_b79 61 5 58 tr L0 q.1 q.2.1 q.2.2) F ((L : Int), (m : Int), d) = some (wA d 65 h) ∧ (∀ i, 1 ≤ i → i ≤ m → h i = vs (5 * i + dig va m L i)) ∧ ∀ i, (i < 1 ∨ m < i) → h i = d.1 65 i := by
  intro m
  induction m with
  | zero =>
    intro L F d hF h5 hL hv ha
    obtain ⟨F, rfl⟩ : ∃ F', F = F' + 1 := ⟨F - 1, by omega⟩
    refine ⟨d.1 65, ?_, fun i h1 h2 => by omega, fun i _ => rfl⟩
    rw [wA_same]
    have : X1_find_b79 61 5 58 tr L0 (L : Int) ((0 : Nat) : Int) d = some (.inr d) := by
      unfold X1_find_b79
      rw [gd_pos (by omega), if_pos (by omega)]
    exact wl9_out (b := fun q => X1_find_b79 61 5 58 tr L0 q.1 q.2.1 q.2.2) (s := ((L : Int), ((0 : Nat) : Int), d)) this
  | succ m ih =>
    intro L F d hF h5 hL hv ha
    obtain ⟨F, rfl⟩ : ∃ F', F = F' + 1 := ⟨F - 1, by omega⟩
    obtain ⟨a1, a2, a3⟩ := ha (m + 1) (by omega) (Nat.le_refl _)
    have hm := Nat.mod_lt L (show 0 < va (m + 1) by omega)
    have hq : L / va (m + 1) ≤ L := Nat.div_le_self _ _
    have tm : Int.tmod (L : Int) (va (m + 1) : Int) = ((L % va (m + 1) : Nat) : Int) := tmod_nat _ _
    have tq : (L : Int) / (va (m + 1) : Int) = ((L / va (m + 1) : Nat) : Int) := rfl
    obtain ⟨w, hw⟩ : ∃ w, w = vs (5 * (m + 1) + L % va (m + 1)) := ⟨_, rfl⟩
    have st : X1_find_b79 61 5 58 tr L0 (L : Int) ((m + 1 : Nat) : Int) d = some (.inl (((L / va (m + 1) : Nat) : Int), (m : Int), wI d 65 (m + 1) w)) := by
      unfold X1_find_b79
      have a1' : d.1 (61 + 3) (m + 1) = (va (m + 1) : Int) := a1
      have hv' : d.1 (61 + 2) = vs := hv
      have a64 : ∀ w, (wI d (61 + 4) (m + 1) w).1 (61 + 3) (m + 1) = (va (m + 1) : Int) := fun w => by rw [wI_ne (by decide)]; exact a1
      have ei : ((5 * ((m + 1 : Nat) : Int)) + ((L % va (m + 1) : Nat) : Int)).toNat = 5 * (m + 1) + L % va (m + 1) := by omega
      rw [gd_pos (by omega), if_neg (by omega), gd_pos (by omega), Int.toNat_natCast, a1', gd_pos (by unfold dvg; omega), tm, gd_pos (by omega), gd_pos (by omega), lt_pos, ei, hv', a64, gd_pos (by omega), gd_pos (by unfold dvq; omega), lt_pos, tq, ← hw]
      have em : ((m + 1 : Nat) : Int) + (-1) = (m : Int) := by omega
      rw [em]
    obtain ⟨h, e1, e2, e3⟩ := ih (L / va (m + 1)) F (wI d 65 (m + 1) w) (by omega) (by omega) (by omega) (by rw [wI_ne (by decide)]; exact hv) (fun i h1 h2 => by rw [wI_ne (by decide)]; exact ha i h1 (by omega))
    refine ⟨h, ?_, fun i h1 h2 => ?_, fun i hi => ?_⟩
    · rw [wl9_in (b := fun q => X1_find_b79 61 5 58 tr L0 q.1 q.2.1 q.2.2) (s := ((L : Int), ((m + 1 : Nat) : Int), d)) st, e1, wI_A, wA_wA]
    · unfold dig
      by_cases c : i = m + 1
      · rw [if_pos c, c, e3 (m + 1) (by omega), wI_at, fu_s, hw]
      · rw [if_neg c]; exact e2 i h1 (by omega)
    · rw [e3 i (by omega), wI_at, fu_n (by omega)]

/-! ===== list: the class sorts its equations ===== -/
section
variable {lr w : Nat}
def eL (lr w g i k j : Nat) : Nat → List Nat
  | 0 => []
  | m + 1 => eL lr w g i k j m ++ (if lgN lr w i j k (m + 1) (lr - 1) = g then [64 * i + st9 j k (m + 1)] else [])
def eJ (lr w g i k : Nat) : Nat → List Nat
  | 0 => []
  | m + 1 => eJ lr w g i k m ++ eL lr w g i k (m + 1) (lr - 1)
def eK (lr w g i : Nat) : Nat → List Nat
  | 0 => []
  | m + 1 => eK lr w g i m ++ eJ lr w g i (i + 1 + m) (lr - 1)
def eI (lr w g : Nat) : Nat → List Nat
  | 0 => []
  | m + 1 => eI lr w g m ++ eK lr w g (1 + m) (lr - 2 - m)
def eG (lr w : Nat) : Nat → List Nat
  | 0 => []
  | g + 1 => eG lr w g ++ eI lr w g (lr - 1)
theorem eG_27 : ∀ q ∈ lw5, (eG q.1 q.2 (gcn q.1 q.2)).length ≤ 27 := by decide +kernel
theorem eL_len {g i k j : Nat} {m : Nat} : ∀ n, m ≤ n → (eL lr w g i k j m).length ≤ (eL lr w g i k j n).length := by
  intro n
  induction n with
  | zero => intro h; rw [show m = 0 by omega]; exact Nat.le_refl _
  | succ n ih =>
    intro h
    by_cases c : m = n + 1
    · rw [c]; exact Nat.le_refl _
    · have := ih (by omega)
      have e : eL lr w g i k j (n + 1) = eL lr w g i k j n ++ (if lgN lr w i j k (n + 1) (lr - 1) = g then [64 * i + st9 j k (n + 1)] else []) := rfl
      rw [e, List.length_append]; omega
theorem eJ_len {g i k : Nat} {m : Nat} : ∀ n, m ≤ n → (eJ lr w g i k m).length ≤ (eJ lr w g i k n).length := by
  intro n
  induction n with
  | zero => intro h; rw [show m = 0 by omega]; exact Nat.le_refl _
  | succ n ih =>
    intro h
    by_cases c : m = n + 1
    · rw [c]; exact Nat.le_refl _
    · have := ih (by omega)
      have e : eJ lr w g i k (n + 1) = eJ lr w g i k n ++ eL lr w g i k (n + 1) (lr - 1) := rfl
      rw [e, List.length_append]; omega
theorem eK_len {g i : Nat} {m : Nat} : ∀ n, m ≤ n → (eK lr w g i m).length ≤ (eK lr w g i n).length := by
  intro n
  induction n with
  | zero => intro h; rw [show m = 0 by omega]; exact Nat.le_refl _
  | succ n ih =>
    intro h
    by_cases c : m = n + 1
    · rw [c]; exact Nat.le_refl _
    · have := ih (by omega)
      have e : eK lr w g i (n + 1) = eK lr w g i n ++ eJ lr w g i (i + 1 + n) (lr - 1) := rfl
      rw [e, List.length_append]; omega
theorem eI_len {g : Nat} {m : Nat} : ∀ n, m ≤ n → (eI lr w g m).length ≤ (eI lr w g n).length := by
  intro n
  induction n with
  | zero => intro h; rw [show m = 0 by omega]; exact Nat.le_refl _
  | succ n ih =>
    intro h
    by_cases c : m = n + 1
    · rw [c]; exact Nat.le_refl _
    · have := ih (by omega)
      have e : eI lr w g (n + 1) = eI lr w g n ++ eK lr w g (1 + n) (lr - 2 - n) := rfl
      rw [e, List.length_append]; omega
theorem eG_len {m : Nat} : ∀ n, m ≤ n → (eG lr w m).length ≤ (eG lr w n).length := by
  intro n
  induction n with
  | zero => intro h; rw [show m = 0 by omega]; exact Nat.le_refl _
  | succ n ih =>
    intro h
    by_cases c : m = n + 1
    · rw [c]; exact Nat.le_refl _
    · have := ih (by omega)
      have e : eG lr w (n + 1) = eG lr w n ++ eI lr w n (lr - 1) := rfl
      rw [e, List.length_append]; omega
theorem gd_al {L M : List Nat} {m : Nat} (h : m < L.length) : (L ++ M).getD m 0 = L.getD m 0 := by
  rw [List.getD_eq_getElem?_getD, List.getD_eq_getElem?_getD, List.getElem?_append_left h]
theorem gd_ar {L M : List Nat} {m : Nat} (h : L.length ≤ m) : (L ++ M).getD m 0 = M.getD (m - L.length) 0 := by
  rw [List.getD_eq_getElem?_getD, List.getD_eq_getElem?_getD, List.getElem?_append_right h]
theorem gd_at {L : List Nat} {m : Nat} (h : m < L.length) : L.getD m 0 = L[m] := by
  rw [List.getD_eq_getElem?_getD, List.getElem?_eq_getElem h]; rfl
/-- a cell holds a list -/
def Lh (L : List Nat) (f : Nat → Int) : Prop := ∀ m, m < L.length → f m = (L.getD m 0 : Nat)
theorem Lh.add {L : List Nat} {f : Nat → Int} (h : Lh L f) (c : Nat) : Lh (L ++ [c]) (fu f L.length (c : Int)) := fun m hm => by
  rw [List.length_append] at hm
  have hm' : m < L.length + 1 := hm
  rw [fu_app]
  by_cases e : m = L.length
  · subst e
    rw [if_pos rfl, gd_ar (Nat.le_refl _), Nat.sub_self]; rfl
  · rw [if_neg e, gd_al (by omega)]
    exact h m (by omega)
theorem x2_eqL {D : DA} {g i k j : Nat} {L0 : List Nat} {f0 : Nat → Int} (hq : (lr, w) ∈ lw5) (hD : LsA D lr w) (i1 : 1 ≤ i) (hi : i < lr) (k1 : 1 ≤ k) (hk : k < lr) (j1 : 1 ≤ j) (hj : j < lr) (hg : g < 10) (h0 : Lh L0 f0) (h27 : (L0 ++ eL lr w g i k j (lr - 1)).length ≤ 27) {Y : Type} (K : Int × DA → Option Y) : ∃ f, lpE (fun q : Int × Int × DA => X2_addEquations_b19 46 i k g j q.1 q.2.1 q.2.2) ((L0.length : Int), 1, wA D 52 f0) K = K (((L0 ++ eL lr w g i k j (lr - 1)).length : Int), wA D 52 f) ∧ Lh (L0 ++ eL lr w g i k j (lr - 1)) f := by
  obtain ⟨h2, h4, -, -⟩ := lw5_bd hq
  have hL : ∀ f, LsA (wA D 52 f) lr w := fun f => by
    unfold LsA at hD ⊢
    rw [wA_ne (by decide), wA_ne (by decide), wA_ne (by decide)]
    exact hD
  obtain ⟨⟨v, e⟩, k1', rfl, f, rfl, k3⟩ := lpE_inv (b := fun q : Int × Int × DA => X2_addEquations_b19 46 i k g j q.1 q.2.1 q.2.2) (k := K) (s0 := ((L0.length : Int), 1, wA D 52 f0)) (fun m s => s.1 = ((L0 ++ eL lr w g i k j m).length : Int) ∧ s.2.1 = ((m + 1 : Nat) : Int) ∧ ∃ f, s.2.2 = wA D 52 f ∧ Lh (L0 ++ eL lr w g i k j m) f) (fun e => e.1 = ((L0 ++ eL lr w g i k j (lr - 1)).length : Int) ∧ ∃ f, e.2 = wA D 52 f ∧ Lh (L0 ++ eL lr w g i k j (lr - 1)) f) (lr - 1) (by omega) ⟨by show (L0.length : Int) = ((L0 ++ []).length : Int); rw [List.append_nil], rfl, f0, rfl, by show Lh (L0 ++ []) f0; rw [List.append_nil]; exact h0⟩ (fun m s hm hI => by
    obtain ⟨v, u, e⟩ := s
    obtain ⟨i1', i2', f, i3', i4'⟩ := hI
    dsimp only at i1' i2' i3' ⊢
    subst i1' i2' i3'
    have hx := x2_last (E := wA D 52 f) hq (hL f) i1 hi j1 hj k1 hk (l := m + 1) (by omega) (by omega)
    have hle : (eL lr w g i k j (m + 1)).length ≤ (eL lr w g i k j (lr - 1)).length := eL_len (lr - 1) (by omega)
    rw [List.length_append] at h27
    have e1 : eL lr w g i k j (m + 1) = eL lr w g i k j m ++ (if lgN lr w i j k (m + 1) (lr - 1) = g then [64 * i + st9 j k (m + 1)] else []) := rfl
    have lb : lgN lr w i j k (m + 1) (lr - 1) < 100 := by
      have lb' : ∀ t, t ≤ lr - 1 → lgN lr w i j k (m + 1) t < 10 := fun t => by
        induction t with
        | zero => intro _; unfold lgN; omega
        | succ t ih =>
          intro ht
          have i0 := ih (by omega)
          have gb := (gcn_bd hq).2
          obtain ⟨d1, d2, -⟩ := dl9_bd hq (a := t + 1) (by omega)
          obtain ⟨d3, d4, -⟩ := dl9_bd hq (show m + 1 < lr by omega)
          have g1 := grp_lt hq i1 hi j1 hj (d2 (by omega)) d1
          have g2 := grp_lt hq (show 1 ≤ t + 1 by omega) (show t + 1 < lr by omega) k1 hk (d4 (by omega)) d3
          have g3 := grp_lt hq j1 hj k1 hk (d2 (by omega)) d1
          have g4 := grp_lt hq i1 hi (show 1 ≤ t + 1 by omega) (show t + 1 < lr by omega) (d4 (by omega)) d3
          unfold lgN
          omega
      have := lb' (lr - 1) (Nat.le_refl _)
      omega
    have es : X2_set (j : Int) (k : Int) ((m + 1 : Nat) : Int) (wA D 52 f) = some ((st9 j k (m + 1) : Nat) : Int) := by
      unfold X2_set st9
      refine congrArg some ?_
      omega
    unfold X2_addEquations_b19
    rw [(hL f).1, gd_pos (by omega), if_neg (by omega), b1_pos hx, gd_pos (by omega)]
    by_cases c : lgN lr w i j k (m + 1) (lr - 1) = g
    · rw [if_pos c] at e1
      have e2 : L0 ++ eL lr w g i k j (m + 1) = (L0 ++ eL lr w g i k j m) ++ [64 * i + st9 j k (m + 1)] := by rw [e1, List.append_assoc]
      have e3 : (L0 ++ eL lr w g i k j (m + 1)).length = (L0 ++ eL lr w g i k j m).length + 1 := by rw [e2, List.length_append]; rfl
      have e4 : (L0 ++ eL lr w g i k j (m + 1)).length ≤ 27 := by rw [List.length_append]; omega
      rw [if_pos (by omega), gd_pos (by omega), if_neg (by omega), b1_pos es, gd_pos (by omega), lt_pos, Int.toNat_natCast, show (46 + 6 : Nat) = 52 from rfl, wA_wI]
      refine ⟨_, rfl, ?_, by show ((m + 1 : Nat) : Int) + 1 = ((m + 1 + 1 : Nat) : Int); omega, _, rfl, ?_⟩
      · show ((L0 ++ eL lr w g i k j m).length : Int) + 1 = _
        rw [e3]; omega
      · have ec : 64 * (i : Int) + ((st9 j k (m + 1) : Nat) : Int) = ((64 * i + st9 j k (m + 1) : Nat) : Int) := by omega
        rw [e2, ec]
        exact i4'.add _
    · rw [if_neg c, List.append_nil] at e1
      rw [if_neg (by omega)]
      refine ⟨_, rfl, ?_, by show ((m + 1 : Nat) : Int) + 1 = ((m + 1 + 1 : Nat) : Int); omega, f, rfl, ?_⟩
      · show ((L0 ++ eL lr w g i k j m).length : Int) = _
        rw [e1]
      · rw [e1]; exact i4') (fun s hI => by
    obtain ⟨v, u, e⟩ := s
    obtain ⟨i1', i2', f, i3', i4'⟩ := hI
    dsimp only at i1' i2' i3' ⊢
    subst i1' i2' i3'
    refine ⟨(((L0 ++ eL lr w g i k j (lr - 1)).length : Int), wA D 52 f), ?_, rfl, f, rfl, i4'⟩
    unfold X2_addEquations_b19
    rw [(hL f).1, gd_pos (by omega), if_pos (by omega)])
  exact ⟨f, k1', k3⟩
theorem x2_eqJ {D : DA} {g i k : Nat} {L0 : List Nat} {f0 : Nat → Int} (hq : (lr, w) ∈ lw5) (hD : LsA D lr w) (i1 : 1 ≤ i) (hi : i < lr) (k1 : 1 ≤ k) (hk : k < lr) (hg : g < 10) (h0 : Lh L0 f0) (h27 : (L0 ++ eJ lr w g i k (lr - 1)).length ≤ 27) : ∃ f, X2_addEquations 46 i k g (L0.length : Int) (wA D 52 f0) = some (((L0 ++ eJ lr w g i k (lr - 1)).length : Int), wA D 52 f) ∧ Lh (L0 ++ eJ lr w g i k (lr - 1)) f := by
  obtain ⟨h2, h4, -, -⟩ := lw5_bd hq
  have hr0 : ∀ f, (wA D 52 f).1 46 0 = lr := fun f => by rw [wA_ne (by decide)]; exact hD.1
  unfold X2_addEquations
  obtain ⟨⟨v, e⟩, k1', rfl, f, rfl, k3⟩ := lpE_inv (b := fun q : Int × Int × DA => X2_addEquations_b7 46 i k g q.1 q.2.1 q.2.2) (k := fun e : Int × DA => some ((e.1, e.2))) (s0 := ((L0.length : Int), 1, wA D 52 f0)) (fun m s => s.1 = ((L0 ++ eJ lr w g i k m).length : Int) ∧ s.2.1 = ((m + 1 : Nat) : Int) ∧ ∃ f, s.2.2 = wA D 52 f ∧ Lh (L0 ++ eJ lr w g i k m) f) (fun e => e.1 = ((L0 ++ eJ lr w g i k (lr - 1)).length : Int) ∧ ∃ f, e.2 = wA D 52 f ∧ Lh (L0 ++ eJ lr w g i k (lr - 1)) f) (lr - 1) (by omega) ⟨by show (L0.length : Int) = ((L0 ++ []).length : Int); rw [List.append_nil], rfl, f0, rfl, by show Lh (L0 ++ []) f0; rw [List.append_nil]; exact h0⟩ (fun m s hm hI => by
    obtain ⟨v, u, e⟩ := s
    obtain ⟨i1', i2', f, i3', i4'⟩ := hI
    dsimp only at i1' i2' i3' ⊢
    subst i1' i2' i3'
    have hle : (eJ lr w g i k (m + 1)).length ≤ (eJ lr w g i k (lr - 1)).length := eJ_len (lr - 1) (by omega)
    rw [List.length_append] at h27
    have e2 : L0 ++ eJ lr w g i k (m + 1) = (L0 ++ eJ lr w g i k m) ++ eL lr w g i k (m + 1) (lr - 1) := by
      rw [List.append_assoc]; rfl
    have e4 : (L0 ++ eJ lr w g i k (m + 1)).length ≤ 27 := by rw [List.length_append]; omega
    rw [e2] at e4
    obtain ⟨f', y1, y2⟩ := x2_eqL (D := D) (g := g) (i := i) (k := k) (j := m + 1) hq hD i1 hi k1 hk (by omega) (by omega) hg i4' e4 (fun e => (some (.inl (e.1, ((m + 1 : Nat) : Int) + 1, e.2)) : Option ((Int × Int × DA) ⊕ (Int × DA))))
    unfold X2_addEquations_b7
    rw [hr0, gd_pos (by omega), if_neg (by omega), y1]
    exact ⟨_, rfl, by rw [e2], by show ((m + 1 : Nat) : Int) + 1 = ((m + 1 + 1 : Nat) : Int); omega, f', rfl, by rw [e2]; exact y2⟩) (fun s hI => by
    obtain ⟨v, u, e⟩ := s
    obtain ⟨i1', i2', f, i3', i4'⟩ := hI
    dsimp only at i1' i2' i3' ⊢
    subst i1' i2' i3'
    refine ⟨(((L0 ++ eJ lr w g i k (lr - 1)).length : Int), wA D 52 f), ?_, rfl, f, rfl, i4'⟩
    unfold X2_addEquations_b7
    rw [hr0, gd_pos (by omega), if_pos (by omega)])
  exact ⟨f, k1', k3⟩
theorem x2_eqK {D : DA} {g i : Nat} {L0 : List Nat} {f0 : Nat → Int} (hq : (lr, w) ∈ lw5) (hD : LsA D lr w) (i1 : 1 ≤ i) (hi : i < lr) (hg : g < 10) (h0 : Lh L0 f0) (h27 : (L0 ++ eK lr w g i (lr - 1 - i)).length ≤ 27) {Y : Type} (K : Int × DA → Option Y) : ∃ f, lpE (fun q : Int × Int × DA => X2_sortEquations_b34 46 g i q.1 q.2.1 q.2.2) ((L0.length : Int), (i : Int) + 1, wA D 52 f0) K = K (((L0 ++ eK lr w g i (lr - 1 - i)).length : Int), wA D 52 f) ∧ Lh (L0 ++ eK lr w g i (lr - 1 - i)) f := by
  obtain ⟨h2, h4, -, -⟩ := lw5_bd hq
  have hr0 : ∀ f, (wA D 52 f).1 46 0 = lr := fun f => by rw [wA_ne (by decide)]; exact hD.1
  obtain ⟨⟨v, e⟩, k1', rfl, f, rfl, k3⟩ := lpE_inv (b := fun q : Int × Int × DA => X2_sortEquations_b34 46 g i q.1 q.2.1 q.2.2) (k := K) (s0 := ((L0.length : Int), (i : Int) + 1, wA D 52 f0)) (fun m s => s.1 = ((L0 ++ eK lr w g i m).length : Int) ∧ s.2.1 = ((i + 1 + m : Nat) : Int) ∧ ∃ f, s.2.2 = wA D 52 f ∧ Lh (L0 ++ eK lr w g i m) f) (fun e => e.1 = ((L0 ++ eK lr w g i (lr - 1 - i)).length : Int) ∧ ∃ f, e.2 = wA D 52 f ∧ Lh (L0 ++ eK lr w g i (lr - 1 - i)) f) (lr - 1 - i) (by omega) ⟨by show (L0.length : Int) = ((L0 ++ []).length : Int); rw [List.append_nil], rfl, f0, rfl, by show Lh (L0 ++ []) f0; rw [List.append_nil]; exact h0⟩ (fun m s hm hI => by
    obtain ⟨v, u, e⟩ := s
    obtain ⟨i1', i2', f, i3', i4'⟩ := hI
    dsimp only at i1' i2' i3' ⊢
    subst i1' i2' i3'
    have hle : (eK lr w g i (m + 1)).length ≤ (eK lr w g i (lr - 1 - i)).length := eK_len _ (by omega)
    rw [List.length_append] at h27
    have e2 : L0 ++ eK lr w g i (m + 1) = (L0 ++ eK lr w g i m) ++ eJ lr w g i (i + 1 + m) (lr - 1) := by
      rw [List.append_assoc]; rfl
    have e4 : (L0 ++ eK lr w g i (m + 1)).length ≤ 27 := by rw [List.length_append]; omega
    rw [e2] at e4
    obtain ⟨f', y1, y2⟩ := x2_eqJ (D := D) (g := g) (i := i) (k := i + 1 + m) hq hD i1 hi (by omega) (by omega) hg i4' e4
    unfold X2_sortEquations_b34
    rw [hr0, gd_pos (by omega), if_neg (by omega), bd_pos y1]
    exact ⟨_, rfl, by rw [e2], by show ((i + 1 + m : Nat) : Int) + 1 = ((i + 1 + (m + 1) : Nat) : Int); omega, f', rfl, by rw [e2]; exact y2⟩) (fun s hI => by
    obtain ⟨v, u, e⟩ := s
    obtain ⟨i1', i2', f, i3', i4'⟩ := hI
    dsimp only at i1' i2' i3' ⊢
    subst i1' i2' i3'
    refine ⟨(((L0 ++ eK lr w g i (lr - 1 - i)).length : Int), wA D 52 f), ?_, rfl, f, rfl, i4'⟩
    unfold X2_sortEquations_b34
    rw [hr0, gd_pos (by omega), if_pos (by omega)])
  exact ⟨f, k1', k3⟩
theorem x2_eqI {D : DA} {g : Nat} {L0 : List Nat} {f0 : Nat → Int} (hq : (lr, w) ∈ lw5) (hD : LsA D lr w) (hg : g < 10) (h0 : Lh L0 f0) (h27 : (L0 ++ eI lr w g (lr - 1)).length ≤ 27) {Y : Type} (K : Int × DA → Option Y) : ∃ f, lpE (fun q : Int × Int × DA => X2_sortEquations_b21 46 g q.1 q.2.1 q.2.2) ((L0.length : Int), 1, wA D 52 f0) K = K (((L0 ++ eI lr w g (lr - 1)).length : Int), wA D 52 f) ∧ Lh (L0 ++ eI lr w g (lr - 1)) f := by
  obtain ⟨h2, h4, -, -⟩ := lw5_bd hq
  have hr0 : ∀ f, (wA D 52 f).1 46 0 = lr := fun f => by rw [wA_ne (by decide)]; exact hD.1
  obtain ⟨⟨v, e⟩, k1', rfl, f, rfl, k3⟩ := lpE_inv (b := fun q : Int × Int × DA => X2_sortEquations_b21 46 g q.1 q.2.1 q.2.2) (k := K) (s0 := ((L0.length : Int), 1, wA D 52 f0)) (fun m s => s.1 = ((L0 ++ eI lr w g m).length : Int) ∧ s.2.1 = ((1 + m : Nat) : Int) ∧ ∃ f, s.2.2 = wA D 52 f ∧ Lh (L0 ++ eI lr w g m) f) (fun e => e.1 = ((L0 ++ eI lr w g (lr - 1)).length : Int) ∧ ∃ f, e.2 = wA D 52 f ∧ Lh (L0 ++ eI lr w g (lr - 1)) f) (lr - 1) (by omega) ⟨by show (L0.length : Int) = ((L0 ++ []).length : Int); rw [List.append_nil], rfl, f0, rfl, by show Lh (L0 ++ []) f0; rw [List.append_nil]; exact h0⟩ (fun m s hm hI => by
    obtain ⟨v, u, e⟩ := s
    obtain ⟨i1', i2', f, i3', i4'⟩ := hI
    dsimp only at i1' i2' i3' ⊢
    subst i1' i2' i3'
    have hle : (eI lr w g (m + 1)).length ≤ (eI lr w g (lr - 1)).length := eI_len _ (by omega)
    rw [List.length_append] at h27
    have e2 : L0 ++ eI lr w g (m + 1) = (L0 ++ eI lr w g m) ++ eK lr w g (1 + m) (lr - 1 - (1 + m)) := by
      rw [List.append_assoc, show lr - 1 - (1 + m) = lr - 2 - m by omega]; rfl
    have e4 : (L0 ++ eI lr w g (m + 1)).length ≤ 27 := by rw [List.length_append]; omega
    rw [e2] at e4
    obtain ⟨f', y1, y2⟩ := x2_eqK (D := D) (g := g) (i := 1 + m) hq hD (by omega) (by omega) hg i4' e4 (fun e => (some (.inl (e.1, ((1 + m : Nat) : Int) + 1, e.2)) : Option ((Int × Int × DA) ⊕ (Int × DA))))
    unfold X2_sortEquations_b21
    rw [hr0, gd_pos (by omega), if_neg (by omega), lt_pos, y1]
    exact ⟨_, rfl, by rw [e2], by show ((1 + m : Nat) : Int) + 1 = ((1 + (m + 1) : Nat) : Int); omega, f', rfl, by rw [e2]; exact y2⟩) (fun s hI => by
    obtain ⟨v, u, e⟩ := s
    obtain ⟨i1', i2', f, i3', i4'⟩ := hI
    dsimp only at i1' i2' i3' ⊢
    subst i1' i2' i3'
    refine ⟨(((L0 ++ eI lr w g (lr - 1)).length : Int), wA D 52 f), ?_, rfl, f, rfl, i4'⟩
    unfold X2_sortEquations_b21
    rw [hr0, gd_pos (by omega), if_pos (by omega)])
  exact ⟨f, k1', k3⟩
end

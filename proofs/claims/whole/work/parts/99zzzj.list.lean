/-! ===== list: the class's equations, told ===== -/
section
variable {lr w : Nat}
theorem mem_eL {g i k j c : Nat} : ∀ n, c ∈ eL lr w g i k j n ↔ ∃ l, 1 ≤ l ∧ l ≤ n ∧ lgN lr w i j k l (lr - 1) = g ∧ c = 64 * i + st9 j k l := by
  intro n
  induction n with
  | zero =>
    constructor
    · intro h; cases h
    · rintro ⟨l, a, b, -⟩; omega
  | succ n ih =>
    have e : eL lr w g i k j (n + 1) = eL lr w g i k j n ++ (if lgN lr w i j k (n + 1) (lr - 1) = g then [64 * i + st9 j k (n + 1)] else []) := rfl
    rw [e, List.mem_append, ih]
    constructor
    · rintro (⟨l, a, b, h1, h2⟩ | h)
      · exact ⟨l, a, by omega, h1, h2⟩
      · by_cases z : lgN lr w i j k (n + 1) (lr - 1) = g
        · rw [if_pos z] at h
          exact ⟨n + 1, by omega, Nat.le_refl _, z, List.mem_singleton.mp h⟩
        · rw [if_neg z] at h; cases h
    · rintro ⟨l, a, b, h1, h2⟩
      by_cases z : l = n + 1
      · subst z
        right
        rw [if_pos h1]
        exact List.mem_singleton.mpr h2
      · exact Or.inl ⟨l, a, by omega, h1, h2⟩
theorem mem_eJ {g i k c : Nat} : ∀ n, c ∈ eJ lr w g i k n ↔ ∃ j l, 1 ≤ j ∧ j ≤ n ∧ 1 ≤ l ∧ l ≤ lr - 1 ∧ lgN lr w i j k l (lr - 1) = g ∧ c = 64 * i + st9 j k l := by
  intro n
  induction n with
  | zero =>
    constructor
    · intro h; cases h
    · rintro ⟨j, l, a, b, -⟩; omega
  | succ n ih =>
    have e : eJ lr w g i k (n + 1) = eJ lr w g i k n ++ eL lr w g i k (n + 1) (lr - 1) := rfl
    rw [e, List.mem_append, ih, mem_eL]
    constructor
    · rintro (⟨j, l, a, b, h⟩ | ⟨l, h⟩)
      · exact ⟨j, l, a, by omega, h⟩
      · exact ⟨n + 1, l, by omega, Nat.le_refl _, h⟩
    · rintro ⟨j, l, a, b, h⟩
      by_cases z : j = n + 1
      · subst z; exact Or.inr ⟨l, h⟩
      · exact Or.inl ⟨j, l, a, by omega, h⟩
theorem mem_eK {g i c : Nat} : ∀ n, c ∈ eK lr w g i n ↔ ∃ k j l, i < k ∧ k ≤ i + n ∧ 1 ≤ j ∧ j ≤ lr - 1 ∧ 1 ≤ l ∧ l ≤ lr - 1 ∧ lgN lr w i j k l (lr - 1) = g ∧ c = 64 * i + st9 j k l := by
  intro n
  induction n with
  | zero =>
    constructor
    · intro h; cases h
    · rintro ⟨k, j, l, a, b, -⟩; omega
  | succ n ih =>
    have e : eK lr w g i (n + 1) = eK lr w g i n ++ eJ lr w g i (i + 1 + n) (lr - 1) := rfl
    rw [e, List.mem_append, ih, mem_eJ]
    constructor
    · rintro (⟨k, j, l, a, b, h⟩ | ⟨j, l, h⟩)
      · exact ⟨k, j, l, a, by omega, h⟩
      · exact ⟨i + 1 + n, j, l, by omega, by omega, h⟩
    · rintro ⟨k, j, l, a, b, h⟩
      by_cases z : k = i + 1 + n
      · subst z; exact Or.inr ⟨j, l, h⟩
      · exact Or.inl ⟨k, j, l, a, by omega, h⟩
theorem mem_eI {g c : Nat} : ∀ n, n + 1 ≤ lr → (c ∈ eI lr w g n ↔ ∃ i k j l, 1 ≤ i ∧ i ≤ n ∧ i < k ∧ k ≤ lr - 1 ∧ 1 ≤ j ∧ j ≤ lr - 1 ∧ 1 ≤ l ∧ l ≤ lr - 1 ∧ lgN lr w i j k l (lr - 1) = g ∧ c = 64 * i + st9 j k l) := by
  intro n
  induction n with
  | zero =>
    intro _
    constructor
    · intro h; cases h
    · rintro ⟨i, k, j, l, a, b, -⟩; omega
  | succ n ih =>
    intro hn
    have e : eI lr w g (n + 1) = eI lr w g n ++ eK lr w g (1 + n) (lr - 2 - n) := rfl
    rw [e, List.mem_append, ih (by omega), mem_eK]
    constructor
    · rintro (⟨i, k, j, l, a, b, h⟩ | ⟨k, j, l, h1, h2, h⟩)
      · exact ⟨i, k, j, l, a, by omega, h⟩
      · exact ⟨1 + n, k, j, l, by omega, by omega, h1, by omega, h⟩
    · rintro ⟨i, k, j, l, a, b, h1, h2, h⟩
      by_cases z : i = 1 + n
      · subst z; exact Or.inr ⟨k, j, l, h1, by omega, h⟩
      · exact Or.inl ⟨i, k, j, l, a, by omega, h1, h2, h⟩
theorem mem_eq {g c : Nat} (h1 : 1 ≤ lr) : c ∈ eI lr w g (lr - 1) ↔ EqC lr w g c := by
  rw [mem_eI (lr - 1) (by omega)]
  unfold EqC
  constructor
  · rintro ⟨i, k, j, l, a1, a2, a3, a4, a5, a6, a7, a8, a9, a10⟩
    exact ⟨i, j, k, l, a1, a3, by omega, a5, by omega, a7, by omega, a9, a10⟩
  · rintro ⟨i, j, k, l, a1, a3, a4, a5, a6, a7, a8, a9, a10⟩
    exact ⟨i, k, j, l, a1, by omega, a3, by omega, a5, by omega, a7, by omega, a9, a10⟩
theorem eG_pre {m : Nat} : ∀ n, m ≤ n → ∃ r, eG lr w n = eG lr w m ++ r := by
  intro n
  induction n with
  | zero => intro h; rw [show m = 0 by omega]; exact ⟨[], rfl⟩
  | succ n ih =>
    intro h
    by_cases c : m = n + 1
    · rw [c]; exact ⟨[], by rw [List.append_nil]⟩
    · obtain ⟨r, e⟩ := ih (by omega)
      refine ⟨r ++ eI lr w n (lr - 1), ?_⟩
      have e2 : eG lr w (n + 1) = eG lr w n ++ eI lr w n (lr - 1) := rfl
      rw [e2, e, List.append_assoc]
theorem eG_at {g n m : Nat} (hg : g + 1 ≤ n) (m1 : (eG lr w g).length ≤ m) (m2 : m < (eG lr w (g + 1)).length) : (eG lr w n).getD m 0 = (eI lr w g (lr - 1)).getD (m - (eG lr w g).length) 0 := by
  obtain ⟨r, e⟩ := eG_pre (lr := lr) (w := w) n hg
  have e2 : eG lr w (g + 1) = eG lr w g ++ eI lr w g (lr - 1) := rfl
  rw [e, gd_al m2, e2, gd_ar m1]
theorem x2_sort {D : DA} (hq : (lr, w) ∈ lw5) (hD : LsA D lr w) (h8 : D.1 46 8 = (gcn lr w : Int)) : ∃ d', X2_sortEquations 46 D = some ((), d') ∧ d'.2 = D.2 ∧ (∀ c, c ≠ 52 → c ≠ 53 → d'.1 c = D.1 c) ∧ EqT d' lr w := by
  obtain ⟨h2, h4, -, -⟩ := lw5_bd hq
  obtain ⟨n1, n10⟩ := gcn_bd hq
  have n27 : (eG lr w (gcn lr w)).length ≤ 27 := eG_27 (lr, w) hq
  unfold X2_sortEquations
  obtain ⟨⟨v, d⟩, k1, e1, e2, e3, e4, e5⟩ := lpE_inv (b := fun q : Int × Int × DA => X2_sortEquations_b4 46 q.1 q.2.1 q.2.2) (k := fun e : Int × DA => X2_sortEquations_j71 46 e.1 e.2) (s0 := (0, 0, D)) (fun g s => s.1 = ((eG lr w g).length : Int) ∧ s.2.1 = (g : Int) ∧ s.2.2.2 = D.2 ∧ (∀ c, c ≠ 52 → c ≠ 53 → s.2.2.1 c = D.1 c) ∧ Lh (eG lr w g) (s.2.2.1 52) ∧ ∀ q, q < g → s.2.2.1 53 q = ((eG lr w q).length : Int)) (fun e => e.1 = ((eG lr w (gcn lr w)).length : Int) ∧ e.2.2 = D.2 ∧ (∀ c, c ≠ 52 → c ≠ 53 → e.2.1 c = D.1 c) ∧ Lh (eG lr w (gcn lr w)) (e.2.1 52) ∧ ∀ q, q < gcn lr w → e.2.1 53 q = ((eG lr w q).length : Int)) (gcn lr w) (by omega) ⟨rfl, rfl, rfl, fun _ _ _ => rfl, fun m hm => absurd hm (Nat.not_lt_zero _), fun q hq => absurd hq (Nat.not_lt_zero _)⟩ (fun g s hg hI => by
    obtain ⟨v, u, d⟩ := s
    obtain ⟨i1, i2, i3, i4, i5, i6⟩ := hI
    dsimp only at i1 i2 i3 i4 i5 i6 ⊢
    subst i1 i2
    generalize hd1 : wI d 53 g ((eG lr w g).length : Int) = d1
    have q1 : ∀ c, c ≠ 53 → d1.1 c = d.1 c := fun c z => by rw [← hd1, wI_ne z]
    have q53 : d1.1 53 = fu (d.1 53) g ((eG lr w g).length : Int) := by rw [← hd1, wI_at]
    have hL : LsA d1 lr w := by
      unfold LsA at hD ⊢
      rw [q1 46 (by decide), q1 48 (by decide), q1 49 (by decide), i4 46 (by decide) (by decide), i4 48 (by decide) (by decide), i4 49 (by decide) (by decide)]
      exact hD
    have l27 : (eG lr w g ++ eI lr w g (lr - 1)).length ≤ 27 := Nat.le_trans (eG_len (lr := lr) (w := w) (m := g + 1) (gcn lr w) hg) n27
    obtain ⟨f, y1, y2⟩ := x2_eqI (D := d1) (g := g) (f0 := d1.1 52) hq hL (by omega) (by rw [q1 52 (by decide)]; exact i5) l27 (fun e => (some (.inl (e.1, (g : Int) + 1, e.2)) : Option ((Int × Int × DA) ⊕ (Int × DA))))
    rw [wA_same] at y1
    refine ⟨(((eG lr w g ++ eI lr w g (lr - 1)).length : Int), (g : Int) + 1, wA d1 52 f), ?_, rfl, by show (g : Int) + 1 = ((g + 1 : Nat) : Int); omega, ?_, fun c z1 z2 => ?_, ?_, fun q hq9 => ?_⟩
    · unfold X2_sortEquations_b4
      rw [i4 46 (by decide) (by decide), h8, gd_pos (by omega), if_neg (by omega), gd_pos (by omega), lt_pos, Int.toNat_natCast]
      show lpE _ (_, 1, wI d 53 g _) _ = _
      rw [hd1, y1]
    · show d1.2 = D.2
      rw [← hd1]; exact i3
    · show (wA d1 52 f).1 c = D.1 c
      rw [wA_ne z1, q1 c z2, i4 c z1 z2]
    · show Lh (eG lr w g ++ eI lr w g (lr - 1)) ((wA d1 52 f).1 52)
      rw [wA_at]; exact y2
    · show (wA d1 52 f).1 53 q = _
      rw [wA_ne (by decide), q53, fu_app]
      by_cases c : q = g
      · rw [if_pos c, c]
      · rw [if_neg c]; exact i6 q (by omega)) (fun s hI => by
    obtain ⟨v, u, d⟩ := s
    obtain ⟨i1, i2, i3, i4, i5, i6⟩ := hI
    dsimp only at i1 i2 i3 i4 i5 i6 ⊢
    subst i1 i2
    refine ⟨(((eG lr w (gcn lr w)).length : Int), d), ?_, rfl, i3, i4, i5, i6⟩
    unfold X2_sortEquations_b4
    rw [i4 46 (by decide) (by decide), h8, gd_pos (by omega), if_pos (by omega)])
  dsimp only at e1 e2 e3 e4 e5
  subst e1
  rw [k1]
  dsimp only
  generalize hd' : wI d 53 (gcn lr w) ((eG lr w (gcn lr w)).length : Int) = d'
  have q1 : ∀ c, c ≠ 53 → d'.1 c = d.1 c := fun c z => by rw [← hd', wI_ne z]
  have q53 : ∀ q, q ≤ gcn lr w → d'.1 53 q = ((eG lr w q).length : Int) := fun q hq9 => by
    rw [← hd', wI_at, fu_app]
    by_cases c : q = gcn lr w
    · rw [if_pos c, c]
    · rw [if_neg c]; exact e5 q (by omega)
  refine ⟨d', ?_, by rw [← hd']; exact e2, fun c z1 z2 => by rw [q1 c z2, e3 c z1 z2], fun g hg => ?_⟩
  · unfold X2_sortEquations_j71
    rw [e3 46 (by decide) (by decide), h8, gd_pos (by omega), lt_pos, Int.toNat_natCast]
    show some ((), wI d 53 (gcn lr w) _) = _
    rw [hd']
  · have la := eG_len (lr := lr) (w := w) (m := g) (g + 1) (by omega)
    have lb := eG_len (lr := lr) (w := w) (m := g + 1) (gcn lr w) (by omega)
    have ls : (eG lr w (g + 1)).length = (eG lr w g).length + (eI lr w g (lr - 1)).length := List.length_append
    have at9 : ∀ m, (eG lr w g).length ≤ m → m < (eG lr w (g + 1)).length → d'.1 52 m = ((eI lr w g (lr - 1)).getD (m - (eG lr w g).length) 0 : Nat) := fun m m1 m2 => by
      rw [q1 52 (by decide), e4 m (by omega), eG_at (n := gcn lr w) (by omega) m1 m2]
    refine ⟨(eG lr w g).length, (eG lr w (g + 1)).length, la, (by omega), q53 g (by omega), q53 (g + 1) (by omega), fun m m1 m2 => ⟨_, at9 m m1 m2, (mem_eq (by omega)).mp ?_⟩, fun c hc => ?_⟩
    · have : m - (eG lr w g).length < (eI lr w g (lr - 1)).length := by omega
      rw [gd_at this]
      exact List.getElem_mem this
    · obtain ⟨n, hn, e⟩ := List.getElem_of_mem ((mem_eq (by omega)).mpr hc)
      refine ⟨(eG lr w g).length + n, (by omega), (by omega), ?_⟩
      rw [at9 _ (by omega) (by omega), show (eG lr w g).length + n - (eG lr w g).length = n by omega, gd_at hn, e]
end

/-! ===== the class's search for characters, whole ===== -/
theorem VaG.keep {n : Nat → Int} {p r : Nat} {iv : Int → Int} {i X va : Nat} {vs vs' : Nat → Int} (h : VaG n p r iv i X va vs) (h5 : r ≤ 5) (e : ∀ t, t < 5 → vs' (5 * i + t) = vs (5 * i + t)) : VaG n p r iv i X va vs' := by
  obtain ⟨h1, h2, h3, h4⟩ := h
  refine ⟨h1, fun t ht => by rw [e t (by omega)]; exact h2 t ht, fun t t' a b => by rw [e t (by omega), e t' (by omega)]; exact h3 t t' a b, fun x hx hb => ?_⟩
  obtain ⟨t, a, b⟩ := h4 x hx hb
  exact ⟨t, a, by rw [e t (by omega)]; exact b⟩
/-- the row of a code -/
def cL9 (va : Nat → Nat) (vs : Nat → Int) (r L : Nat) : Nat → Int := fun k => if k = 0 then 1 else vs (5 * k + dig va (r - 1) L k)
/-- the rows found among the codes below X -/
def RwG (n : Nat → Int) (r p : Nat) (va : Nat → Nat) (vs : Nat → Int) (X q : Nat) (C : Nat → Nat → Int) : Prop := (∀ i, i < q → isCh n r p (C i) ∧ ∃ L, L < X ∧ ∀ k, k < r → C i k = cL9 va vs r L k) ∧ (∀ i j, i < j → j < q → lxl r (C i) (C j)) ∧ ∀ L, L < X → isCh n r p (cL9 va vs r L) → ∃ i, i < q ∧ ∀ k, k < r → cL9 va vs r L k = C i k
theorem lxl.cg9 {r : Nat} {a b a' b' : Nat → Int} (h : lxl r a b) (ea : ∀ k, k < r → a' k = a k) (eb : ∀ k, k < r → b' k = b k) : lxl r a' b' := by
  obtain ⟨k, h1, h2, h3⟩ := h
  exact ⟨k, h1, by rw [ea k h1, eb k h1]; exact h2, fun j hj => by rw [ea j (by omega), eb j (by omega)]; exact h3 j hj⟩
theorem RwG.skip {n : Nat → Int} {r p : Nat} {va : Nat → Nat} {vs : Nat → Int} {X q : Nat} {C : Nat → Nat → Int} (h : RwG n r p va vs X q C) (hn : ¬ isCh n r p (cL9 va vs r X)) : RwG n r p va vs (X + 1) q C := by
  obtain ⟨h1, h2, h3⟩ := h
  refine ⟨fun i hi => ⟨(h1 i hi).1, ?_⟩, h2, fun L hL hc => ?_⟩
  · obtain ⟨L, a, b⟩ := (h1 i hi).2
    exact ⟨L, (by omega), b⟩
  · by_cases c : L = X
    · subst c; exact absurd hc hn
    · exact h3 L (by omega) hc
theorem RwG.put {n : Nat → Int} {r p : Nat} {iv : Int → Int} {va : Nat → Nat} {vs : Nat → Int} {X q : Nat} {C C' : Nat → Nat → Int} (h : RwG n r p va vs X q C) (hT : TG n r) (hX : X < prd va (r - 1)) (hV : ∀ i, 1 ≤ i → i < r → VaG n p r iv i p (va i) vs) (hc : isCh n r p (cL9 va vs r X)) (e1 : ∀ i, i < q → ∀ k, k < r → C' i k = C i k) (e2 : ∀ k, k < r → C' q k = cL9 va vs r X k) : RwG n r p va vs (X + 1) (q + 1) C' := by
  have r1 := hT.1
  obtain ⟨h1, h2, h3⟩ := h
  have ord : ∀ L, L < X → lxl r (cL9 va vs r L) (cL9 va vs r X) := fun L hL => by
    obtain ⟨i, a1, a2, a3⟩ := dig_ord (r - 1) L X hL hX
    refine ⟨i, (by omega), ?_, fun j hj => ?_⟩
    · unfold cL9
      rw [if_neg (by omega), if_neg (by omega)]
      exact (hV i a1.1 (by omega)).2.2.1 _ _ a2 (dig_lt _ _ hX i a1.1 a1.2)
    · unfold cL9
      by_cases c : j = 0
      · rw [if_pos c, if_pos c]
      · rw [if_neg c, if_neg c, a3 j (by omega) hj]
  refine ⟨fun i hi => ?_, fun i j hij hj => ?_, fun L hL hcL => ?_⟩
  · by_cases c : i = q
    · subst c
      exact ⟨hc.cg9 r1.1 e2, X, (by omega), e2⟩
    · obtain ⟨b1, L, b2, b3⟩ := h1 i (by omega)
      exact ⟨b1.cg9 r1.1 (e1 i (by omega)), L, (by omega), fun k hk => by rw [e1 i (by omega) k hk]; exact b3 k hk⟩
  · by_cases c : j = q
    · subst c
      obtain ⟨b1, L, b2, b3⟩ := h1 i hij
      exact (ord L b2).cg9 (fun k hk => by rw [e1 i hij k hk]; exact b3 k hk) e2
    · exact (h2 i j hij (by omega)).cg9 (e1 i (by omega)) (e1 j (by omega))
  · by_cases c : L = X
    · subst c; exact ⟨q, (by omega), fun k hk => (e2 k hk).symm⟩
    · obtain ⟨i, b1, b2⟩ := h3 L (by omega) hcL
      exact ⟨i, (by omega), fun k hk => by rw [b2 k hk, e1 i b1 k hk]⟩
theorem prd_s {va : Nat → Nat} {m : Nat} : prd va (m + 1) = prd va m * va (m + 1) := rfl
theorem x1_find0 {d0 : DA} {n : Nat → Int} {r p : Nat} {iv : Int → Int} (hD : XD9 d0 n r p iv) (hT : TG n r) (h2 : 2 ≤ p) (h31 : p ≤ 31) (hiv : IvG p iv) (h0 : d0.1 61 0 = 0) : ∃ (d' : DA) (q : Nat), X1_find 61 5 58 d0 = some ((), d') ∧ FrX d0 d' ∧ d'.1 61 0 = 1 ∧ d'.1 61 1 = (q : Int) ∧ q ≤ 5 ∧ ChL n r p q (fun i k => d'.1 62 (5 * i + k)) := by
  have h5 := hT.1
  -- the numbers at each kind
  have key1 : ∃ e : Int × DA, lpE (fun q => X1_find_b13 61 5 58 q.1 q.2.1 q.2.2) (1, 1, d0) (fun e => X1_find_j46 61 5 58 (e.1) e.2) = X1_find_j46 61 5 58 (e.1) e.2 ∧ ∃ (va : Nat → Nat) (vs : Nat → Int), e.1 = (prd va (r - 1) : Nat) ∧ FrX d0 e.2 ∧ e.2.1 63 = vs ∧ ∀ i, 1 ≤ i → i < r → e.2.1 64 i = (va i : Int) ∧ VaG n p r iv i p (va i) vs := by
    refine lpE_inv (fun (m : Nat) (s : Int × Int × DA) => ∃ (va : Nat → Nat) (vs : Nat → Int), s.1 = (prd va m : Nat) ∧ s.2.1 = ((1 + m : Nat) : Int) ∧ FrX d0 s.2.2 ∧ s.2.2.1 63 = vs ∧ (∀ i, 1 ≤ i → i ≤ m → s.2.2.1 64 i = (va i : Int) ∧ VaG n p r iv i p (va i) vs)) _ (r - 1) (by omega) ⟨fun _ => 0, d0.1 63, rfl, rfl, FrX.rf d0, rfl, fun i a b => by omega⟩ (fun m s hm hI => ?_) (fun s hI => ?_)
    · obtain ⟨v1, v2, D⟩ := s
      obtain ⟨va, vs, q1, q2, q3, q4, q5⟩ := hI
      have q1 : v1 = (prd va m : Nat) := q1
      have q2 : v2 = ((1 + m : Nat) : Int) := q2
      have q3 : FrX d0 D := q3
      have q4 : D.1 63 = vs := q4
      have q5 : ∀ i, 1 ≤ i → i ≤ m → D.1 64 i = (va i : Int) ∧ VaG n p r iv i p (va i) vs := q5
      subst q1 q2
      obtain ⟨d', w, vs', t1, t2, t3, t4, t5, t6, -⟩ := x1_vals (d := D) (i := 1 + m) hD hT h2 h31 hiv (by omega) q3
      have k5 := (q3.D hD).1
      have e64 : d'.1 (61 + 3) (1 + m) = (w : Int) := by
        show d'.1 64 (1 + m) = _
        rw [t6, fu_s]
      have pe : prd (fu va (1 + m) w) (m + 1) = prd va m * w := by
        rw [prd_s, prd_congr (vb := va) m (fun i a b => fu_ne (by omega)), show m + 1 = 1 + m by omega, fu_app, if_pos rfl]
      refine ⟨((prd va m * w : Nat), ((1 + m : Nat) : Int) + 1, d'), ?_, fu va (1 + m) w, vs', ?_, ?_, t2, t4, fun i a b => ?_⟩
      · show X1_find_b13 61 5 58 _ ((1 + m : Nat) : Int) D = _
        unfold X1_find_b13
        rw [k5, gd_pos (by omega), if_neg (by omega), bd_pos t1, gd_pos (by omega), lt_pos, Int.toNat_natCast, e64, Int.natCast_mul]
      · show ((prd va m * w : Nat) : Int) = _
        rw [pe]
      · show ((1 + m : Nat) : Int) + 1 = _
        omega
      · show d'.1 64 i = _ ∧ _
        by_cases c : i = 1 + m
        · subst c
          rw [t6, fu_s, fu_app, if_pos rfl]
          exact ⟨rfl, t3⟩
        · rw [t6, fu_n c, fu_ne c]
          obtain ⟨b1, b2⟩ := q5 i a (by omega)
          exact ⟨b1, b2.keep h5.2 (fun t ht => by rw [t5 _ (by omega), q4])⟩
    · obtain ⟨v1, v2, D⟩ := s
      obtain ⟨va, vs, q1, q2, q3, q4, q5⟩ := hI
      have q2 : v2 = ((1 + (r - 1) : Nat) : Int) := q2
      have q3 : FrX d0 D := q3
      subst q2
      have k5 := (q3.D hD).1
      refine ⟨(v1, D), ?_, va, vs, q1, q3, q4, fun i a b => q5 i a (by omega)⟩
      show X1_find_b13 61 5 58 v1 ((1 + (r - 1) : Nat) : Int) D = _
      unfold X1_find_b13
      rw [k5, gd_pos (by omega), if_pos (by omega)]
  obtain ⟨⟨v1, D⟩, e1, va, vs, q1, q3, q4, q5⟩ := key1
  have q1 : v1 = (prd va (r - 1) : Nat) := q1
  have q3 : FrX d0 D := q3
  have q4 : D.1 63 = vs := q4
  have q5 : ∀ i, 1 ≤ i → i < r → D.1 64 i = (va i : Int) ∧ VaG n p r iv i p (va i) vs := q5
  subst q1
  have pb : prd va (r - 1) ≤ 625 := by
    have a := prd_bd (va := va) (r - 1) (fun i a b => by have := (q5 i a (by omega)).2.1; omega)
    have b : 5 ^ (r - 1) ≤ 5 ^ 4 := Nat.pow_le_pow_right (by omega) (by omega)
    omega
  have hV : ∀ i, 1 ≤ i → i < r → VaG n p r iv i p (va i) vs := fun i a b => (q5 i a b).2
  -- the codes, one after the other
  have key2 : ∃ e : DA, lpE (fun q => X1_find_b61 61 5 58 (prd va (r - 1) : Nat) q.1 q.2) (0, wI (wI D 61 1 0) 65 0 1) (fun e => gd (1 = 0 ∨ 1 = 1) <| lt9 (wI e 61 0 1) fun d11 => some (((), d11) : Unit × DA)) = (gd (1 = 0 ∨ 1 = 1) <| lt9 (wI e 61 0 1) fun d11 => some (((), d11) : Unit × DA)) ∧ FrX d0 e ∧ ∃ q : Nat, e.1 61 1 = (q : Int) ∧ q ≤ 5 ∧ RwG n r p va vs (prd va (r - 1)) q (fun i k => e.1 62 (5 * i + k)) := by
    refine lpE_inv (fun (L : Nat) (s : Int × DA) => s.1 = (L : Int) ∧ FrX d0 s.2 ∧ s.2.1 63 = vs ∧ s.2.1 64 = D.1 64 ∧ s.2.1 65 0 = 1 ∧ ∃ q : Nat, s.2.1 61 1 = (q : Int) ∧ q ≤ 5 ∧ RwG n r p va vs L q (fun i k => s.2.1 62 (5 * i + k))) (fun e => FrX d0 e ∧ ∃ q : Nat, e.1 61 1 = (q : Int) ∧ q ≤ 5 ∧ RwG n r p va vs (prd va (r - 1)) q (fun i k => e.1 62 (5 * i + k))) (prd va (r - 1)) (by omega) ⟨rfl, (q3.i (by omega)).i (by omega), by show (wI (wI D 61 1 0) 65 0 1).1 63 = _; rw [wI_ne (by decide), wI_ne (by decide)]; exact q4, by show (wI (wI D 61 1 0) 65 0 1).1 64 = _; rw [wI_ne (by decide), wI_ne (by decide)], by show (wI (wI D 61 1 0) 65 0 1).1 65 0 = _; rw [wI_at, fu_s], 0, by show (wI (wI D 61 1 0) 65 0 1).1 61 1 = _; rw [wI_ne (by decide), wI_at, fu_s]; rfl, Nat.zero_le _, fun i hi => absurd hi (Nat.not_lt_zero _), fun i j _ hj => absurd hj (Nat.not_lt_zero _), fun L hL => absurd hL (Nat.not_lt_zero _)⟩ (fun L s hL hI => ?_) (fun s hI => ?_)
    · obtain ⟨v, E⟩ := s
      obtain ⟨rfl, f1, f2, f3, f4, q, f5, f6, f7⟩ := hI
      have f1 : FrX d0 E := f1
      have f2 : E.1 63 = vs := f2
      have f3 : E.1 64 = D.1 64 := f3
      have f4 : E.1 65 0 = 1 := f4
      have f5 : E.1 61 1 = (q : Int) := f5
      have f7 : RwG n r p va vs L q (fun i k => E.1 62 (5 * i + k)) := f7
      obtain ⟨k1, k2, k3, k4⟩ := f1.D hD
      obtain ⟨h, g1, g2, g3⟩ := x1_digs (va := va) (vs := vs) (tr := (prd va (r - 1) : Nat)) (L0 := (L : Int)) (r - 1) L FUEL E (by unfold FUEL; omega) (by omega) (by omega) f2 (fun i a b => by
        rw [f3]
        refine ⟨(q5 i a (by omega)).1, prd_pos _ L hL i a b, ?_⟩
        have := (hV i a (by omega)).1
        omega)
      have hc : ∀ k, k < r → h k = cL9 va vs r L k ∧ 0 ≤ cL9 va vs r L k ∧ cL9 va vs r L k < p := fun k hk => by
        unfold cL9
        by_cases c : k = 0
        · rw [if_pos c, c, g3 0 (by omega), f4]; exact ⟨rfl, (by omega), (by omega)⟩
        · rw [if_neg c, g2 k (by omega) (by omega)]
          obtain ⟨x, a1, a2, -⟩ := (hV k (by omega) hk).2.1 _ (dig_lt _ _ hL k (by omega) (by omega))
          rw [a1]; exact ⟨rfl, (by omega), (by omega)⟩
      have head : X1_find_b61 61 5 58 (prd va (r - 1) : Nat) (L : Int) E = X1_find_j129_61 61 5 58 (prd va (r - 1) : Nat) L (wA E 65 h) := by
        unfold X1_find_b61
        rw [gd_pos (by omega), if_neg (by omega), k1, lt_pos]
        unfold lpE
        rw [show ((r : Int) - 1) = ((r - 1 : Nat) : Int) by omega, g1]
      have w61 : (wA E 65 h).1 61 1 = (q : Int) := by rw [wA_ne (by decide)]; exact f5
      have g65 : FrX d0 (wA E 65 h) := f1.w (by omega)
      obtain ⟨m1, m2, m3, m4⟩ := g65.D hD
      have same : RwG n r p va vs L q (fun i k => (wA E 65 h).1 62 (5 * i + k)) := by rw [wA_ne (by decide)]; exact f7
      have rest : (wA E 65 h).1 63 = vs ∧ (wA E 65 h).1 64 = D.1 64 ∧ (wA E 65 h).1 65 0 = 1 := ⟨by rw [wA_ne (by decide)]; exact f2, by rw [wA_ne (by decide)]; exact f3, by rw [wA_at, g3 0 (by omega)]; exact f4⟩
      rcases x1_isC (d := wA E 65 h) (c := cL9 va vs r L) hT m1 m2 m3 h2 h31 (by unfold cL9; rw [if_pos rfl]) (fun k hk => by rw [wA_at]; exact hc k hk) with ⟨b1, b2⟩ | ⟨b1, b2⟩
      · refine ⟨((L : Int) + 1, wA E 65 h), ?_, by show (L : Int) + 1 = _; omega, g65, rest.1, rest.2.1, rest.2.2, q, w61, f6, same.skip b2⟩
        show X1_find_b61 61 5 58 _ (L : Int) E = _
        rw [head]
        unfold X1_find_j129_61
        rw [w61, gd_pos (by omega)]
        by_cases c5 : (5 : Int) ≤ (q : Int)
        · rw [if_pos c5]
        · rw [if_neg c5, b1_pos b1, gd_pos (by omega), if_pos rfl]
      · -- one more, and there are never more than kinds
        obtain ⟨R, hR⟩ : ∃ R : Nat → Int, R = fun k => if 5 * q ≤ k ∧ k < 5 * q + 5 then h (k - 5 * q) else E.1 62 k := ⟨_, rfl⟩
        have c1 : ∀ i, i < q → ∀ k, k < r → R (5 * i + k) = E.1 62 (5 * i + k) := fun i hi k hk => by
          rw [hR]; exact if_neg (by omega)
        have c2 : ∀ k, k < r → R (5 * q + k) = cL9 va vs r L k := fun k hk => by
          rw [hR]
          show (if 5 * q ≤ 5 * q + k ∧ 5 * q + k < 5 * q + 5 then h (5 * q + k - 5 * q) else E.1 62 (5 * q + k)) = _
          rw [if_pos (by omega), Nat.add_sub_cancel_left]; exact (hc k hk).1
        have more : RwG n r p va vs (L + 1) (q + 1) (fun i k => R (5 * i + k)) := f7.put hT hL hV b2 c1 c2
        have hq5 : q + 1 ≤ r := ch_few hT h2 hiv (fun i hi => (more.1 i hi).1) more.2.1
        have ecp : cpI (wA E 65 h) (61 + 4) 0 (61 + 1) (5 * (q : Int)) 5 = wA (wA E 65 h) 62 R := by
          unfold cpI
          refine congrArg _ (funext fun k => ?_)
          have i65 : (wA E 65 h).1 (61 + 4) = h := wA_at
          have i62 : (wA E 65 h).1 (61 + 1) = E.1 62 := wA_ne (by decide)
          have z0 : Int.toNat 0 = 0 := rfl
          have z5 : Int.toNat 5 = 5 := rfl
          have zq : (5 * (q : Int)).toNat = 5 * q := by omega
          rw [i65, i62, hR]
          unfold cpF
          rw [z0, z5, zq, Nat.zero_add]
        refine ⟨((L : Int) + 1, wI (wA (wA E 65 h) 62 R) 61 1 ((q : Int) + 1)), ?_, by show (L : Int) + 1 = _; omega, (g65.w (by omega)).i (by omega), ?_, ?_, ?_, q + 1, ?_, (by omega), ?_⟩
        · show X1_find_b61 61 5 58 _ (L : Int) E = _
          rw [head]
          unfold X1_find_j129_61
          have w61' : (wA (wA E 65 h) 62 R).1 61 1 = (q : Int) := by rw [wA_ne (by decide)]; exact w61
          rw [w61, gd_pos (by omega), if_neg (by omega), b1_pos b1, gd_pos (by omega), if_neg (by decide), gd_pos (by unfold cpg; omega), lt_pos, ecp, w61', lt_pos]
        · show (wI (wA (wA E 65 h) 62 R) 61 1 _).1 63 = _
          rw [wI_ne (by decide), wA_ne (by decide)]; exact rest.1
        · show (wI (wA (wA E 65 h) 62 R) 61 1 _).1 64 = _
          rw [wI_ne (by decide), wA_ne (by decide)]; exact rest.2.1
        · show (wI (wA (wA E 65 h) 62 R) 61 1 _).1 65 0 = _
          rw [wI_ne (by decide), wA_ne (by decide)]; exact rest.2.2
        · show (wI (wA (wA E 65 h) 62 R) 61 1 _).1 61 1 = _
          rw [wI_at, fu_s]; rfl
        · show RwG n r p va vs (L + 1) (q + 1) (fun i k => (wI (wA (wA E 65 h) 62 R) 61 1 ((q : Int) + 1)).1 62 (5 * i + k))
          rw [wI_ne (by decide), wA_at]; exact more
    · obtain ⟨v, E⟩ := s
      obtain ⟨rfl, f1, f2, f3, f4, q, f5, f6, f7⟩ := hI
      refine ⟨E, ?_, f1, q, f5, f6, f7⟩
      show X1_find_b61 61 5 58 _ ((prd va (r - 1) : Nat) : Int) E = _
      unfold X1_find_b61
      rw [gd_pos (by omega), if_pos (by omega)]
  obtain ⟨E, e2, f1, q, f5, f6, f7⟩ := key2
  refine ⟨wI E 61 0 1, q, ?_, f1.i (by omega), by rw [wI_at, fu_s], by rw [wI_at, fu_n (by decide)]; exact f5, f6, ?_⟩
  · unfold X1_find
    rw [h0, gd_pos (by omega), if_pos rfl, e1]
    show X1_find_j46 61 5 58 ((prd va (r - 1) : Nat) : Int) D = _
    unfold X1_find_j46
    rw [lt_pos, gd_pos (by decide), lt_pos]
    show lpE _ (0, wI (wI D 61 1 0) 65 0 1) _ = _
    rw [e2, gd_pos (Or.inr rfl), lt_pos]
  · rw [wI_ne (by decide)]
    refine ⟨fun i hi => (f7.1 i hi).1, f7.2.1, fun c hc => ?_⟩
    have ex : ∀ i, ∃ t, 1 ≤ i → i < r → t < va i ∧ vs (5 * i + t) = c i := fun i => by
      by_cases ci : 1 ≤ i ∧ i < r
      · have b := hc.2.1 i ci.2
        obtain ⟨x, hx⟩ : ∃ x : Nat, c i = x := ⟨(c i).toNat, by omega⟩
        obtain ⟨t, a1, a2⟩ := (hV i ci.1 ci.2).2.2.2 x (by omega) (hc.bad hT h2 hiv ci.2 hx)
        exact ⟨t, fun _ _ => ⟨a1, by rw [a2, hx]⟩⟩
      · exact ⟨0, fun a b => absurd ⟨a, b⟩ ci⟩
    obtain ⟨t, ht⟩ := Classical.axiomOfChoice ex
    obtain ⟨L, l1, l2⟩ := dig_ex (va := va) (t := t) (r - 1) (fun i a b => (ht i a (by omega)).1)
    have ce : ∀ k, k < r → cL9 va vs r L k = c k := fun k hk => by
      unfold cL9
      by_cases ck : k = 0
      · rw [if_pos ck, ck, hc.1]
      · rw [if_neg ck, l2 k (by omega) (by omega)]; exact (ht k (by omega) hk).2
    obtain ⟨i, i1, i2⟩ := f7.2.2 L l1 (hc.cg9 h5.1 ce)
    exact ⟨i, i1, fun k hk => by rw [← ce k hk]; exact i2 k hk⟩

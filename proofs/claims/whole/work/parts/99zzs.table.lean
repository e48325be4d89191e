/-! ===== the class's rules: numbers ===== -/
def bT (r q : Nat) : Int := if q % 5 < r ∧ (q = 6 * (q % 5) ∨ q = 26 * (q % 5)) then 1 else 0
theorem bT_of {f g : Nat → Int} {r : Nat} (h5 : r ≤ 5) (h : St (pre g (fun _ => 0) 125) (bgS r) f) {q : Nat} (hq : q < 125) : f q = bT r q := by
  unfold bT
  by_cases c : q % 5 < r ∧ (q = 6 * (q % 5) ∨ q = 26 * (q % 5))
  · rw [if_pos c]
    exact (h q).1 ⟨q % 5, c.1, by unfold ti; omega⟩
  · rw [if_neg c, (h q).2 (fun ⟨j, hj, z⟩ => c (by unfold ti at z; omega)), pre_lt hq]
theorem bT_bd {r q : Nat} : 0 ≤ bT r q ∧ bT r q ≤ 9 := by
  unfold bT; split <;> omega
def pb9 (a b : Nat) : Nat := 5 * min a b + max a b
theorem tW_x {B : Nat → Int} {s e : Nat} (h0 : tW B s e 0) (h1 : tW B s e 1) : False := by
  have e := (h0.2 0 (by decide)).symm.trans (h1.2 0 (by decide))
  exact absurd e (by decide +kernel)
theorem x4_at {a b v : Nat} {d : DA} (ha : a < 5) (hb : b < 5) (hv : v < 5) : X8_at (45 - 7) (a : Int) (b : Int) (v : Int) d = some (d.1 39 (ti a b v)) := by
  unfold X8_at
  rw [gd_pos (by omega), show (25 * (a : Int) + 5 * (b : Int) + (v : Int)) = ((ti a b v : Nat) : Int) by unfold ti; omega, Int.toNat_natCast]
theorem x4_put {a b v : Nat} {m : Int} {d : DA} (ha : a < 5) (hb : b < 5) (hv : v < 5) : X8_put (45 - 7) (a : Int) (b : Int) (v : Int) m d = some ((), wI d 39 (ti a b v) m) := by
  unfold X8_put
  rw [gd_pos (by omega), show (25 * (a : Int) + 5 * (b : Int) + (v : Int)) = ((ti a b v : Nat) : Int) by unfold ti; omega, Int.toNat_natCast, lt_pos]
theorem ti_lt5 {a b v : Nat} (ha : a < 5) (hb : b < 5) (hv : v < 5) : ti a b v < 125 := by unfold ti; omega
section
variable {B : Nat → Int} {n : Nat} {d0 : DA} {q k : Nat} {T : Nat → Int} {a b td : Nat} {ft : Int} {pl k9 : Nat} {T9 : Nat → Int}
/-- the text is at its end -/
theorem rr_fin (hB : Tp9 B n) (h44 : ∀ j, j < n → d0.1 44 j = B j) (h0 : tR B n (tS B n q) = 0) : Rr9 n d0 q 3 k T a b td 0 pl k T := by
  intro j F x hC hx hj hF
  have hn := hB.1
  obtain ⟨c1, c2, ⟨c3, c4, c5, c6, c7, c8, c9⟩, c10, c11, c12, c13⟩ := id hC
  obtain ⟨f, g1, g2, g3⟩ := x4_token (d := x.1) hB (fun j hj => by rw [c1 44 (by decide) (by decide) (by decide)]; exact h44 j hj) c3 c4 c5
  have f4 : f 4 = 0 := g2.2.2.1 h0
  have f6 : f 6 = ((3 : Nat) : Int) := hC.f6 g3
  have f8 : f 8 = 0 := by rw [g3 8 (by decide) (by decide) (by decide) (by decide)]; exact c8
  have f9 : f 9 = -1 := by rw [g3 9 (by decide) (by decide) (by decide) (by decide)]; exact c9
  have u1 : X4_useToken 45 (wA x.1 45 f) = some ((), wA x.1 45 (fu f 7 1)) := by
    unfold X4_useToken X4_useFirst
    rw [wA_at, f6, f4, gd_pos (by decide), if_neg (by decide), if_neg (by decide), if_neg (by decide), if_pos (by decide), gd_pos (by decide), if_pos rfl, gd_pos (Or.inr rfl), lt_pos, wA_wI]; rfl
  obtain ⟨F', rfl⟩ : ∃ F', F = F' + 1 := ⟨F - 1, by omega⟩
  have e1 : X4_read_b48 n (j : Int) x = some (.inl (((j + 1 : Nat) : Int), xD x (wA x.1 45 (fu f 7 1)))) := by
    unfold X4_read_b48
    rw [gd_pos (by omega), if_neg (by omega), c7, gd_pos (by decide), if_pos rfl, gd_pos hx, bd_pos g1, lt_pos, gd_pos (show xrt (xD x (wA x.1 45 f)) = 44 ∧ xrb (xD x (wA x.1 45 f)) = 38 from hx), bd_pos (show X4_useToken 45 (xD x (wA x.1 45 f)).1 = some ((), wA x.1 45 (fu f 7 1)) from u1), lt_pos, xD_D]
    have v8 : (xD x (wA x.1 45 (fu f 7 1))).1.1 45 8 = 0 := by show (wA x.1 45 (fu f 7 1)).1 45 8 = 0; rw [wA_at, fu_n (by decide)]; exact f8
    rw [v8, gd_pos (by decide), if_pos rfl]
    rfl
  have hCF : CF9 d0 0 pl k T (wA x.1 45 (fu f 7 1)) := by
    refine ⟨fun c z1 z2 z3 => by rw [wA_ne z1]; exact c1 c z1 z2 z3, c2, by rw [wA_at, fu_s], by rw [wA_at, fu_n (by decide)]; exact f8, fun z => absurd rfl z, fun z => ⟨by rw [wA_at, fu_n (by decide)]; exact f9, ?_⟩⟩
    rw [wA_ne (by decide), wA_ne (by decide)]
    exact c13 (by decide)
  rw [wl9_in (b := fun q : Int × XS => X4_read_b48 n q.1 q.2) e1]
  exact ⟨_, rr_end hn (by omega) (by omega) (by omega) hCF, hCF⟩
theorem rr_3 (hB : Tp9 B n) (h44 : ∀ j, j < n → d0.1 44 j = B j) (hq : q ≤ n) (h0 : tR B n (tS B n q) ≠ 0) : (kf9 B n (tS B n q) 1 k = 0 → ∀ a' : Nat, tv9 B n (tS B n q) = a' → Rr9 n d0 (tE B n (tS B n q)) 4 k T a' b td ft pl k9 T9 → Rr9 n d0 q 3 k T a b td ft pl k9 T9) ∧ (kf9 B n (tS B n q) 1 k ≠ 0 → Rr9 n d0 q 3 k T a b td (kf9 B n (tS B n q) 1 k) (tS B n q) k9 T9) := by
  obtain ⟨s1, s2, -⟩ := tS_bd (B := B) hq
  have use : ∀ d f, CD9 n d0 q 3 k T a b td d → CT9 B n (tS B n q) f → Fo9 f (d.1 45) → X4_useToken 45 (wA d 45 f) = some ((), wA d 45 (fu (fu (fu f 8 (kf9 B n (tS B n q) 1 k)) 11 (f 5)) 6 4)) ∧ (kf9 B n (tS B n q) 1 k = 0 → f 5 = tv9 B n (tS B n q) ∧ (1 : Int) ≤ tv9 B n (tS B n q) ∧ tv9 B n (tS B n q) < k) := fun d f h1 h2 h3 => by
    have f6 := h1.f6 h3
    have b9 := h2.bd
    have f4 : ¬ f 4 = 0 := fun z => h0 (by rcases h2.all with y | y | y | y | y | y | y | y <;> first | exact y.2 | omega)
    obtain ⟨t1, t2, t3⟩ := h1.2.2.2.2.2.2 (by decide)
    obtain ⟨k1', k2, k3⟩ := x4_kf (l := 1) s2 h2 (by decide) t1 t2.2
    have k1 : X4_kindFault 45 1 (wA d 45 f) = some (kf9 B n (tS B n q) 1 k) := k1'
    refine ⟨?_, fun z => (k2 z).2⟩
    unfold X4_useToken X4_useFirst
    rw [wA_at, f6, gd_pos (by decide), if_neg (by decide), if_neg (by decide), if_neg (by decide), if_pos (by decide), gd_pos (by omega), if_neg f4, b1_pos k1, lt_pos, lt_pos, lt_pos, wA_wI, wA_at, fu_n (by decide), wA_wI, wA_wI]
    rfl
  refine ⟨fun hk a' ha hR => ?_, fun hk => ?_⟩
  · obtain ⟨t1, t2⟩ := te_in (B := B) hq h0
    refine rr_step hB h44 t1 (fun d f h1 h2 h3 => ?_) hR
    obtain ⟨u1, u2⟩ := use d f h1 h2 h3
    obtain ⟨v1, v2, v3⟩ := u2 hk
    rw [hk] at u1
    have f8 : f 8 = 0 := by rw [h3 8 (by decide) (by decide) (by decide) (by decide)]; exact h1.2.2.1.2.2.2.2.2.1
    rw [fu_id f8] at u1
    refine ⟨_, u1, h1.tk h3 (fun _ => by omega) ⟨by rw [fu_n (by decide), fu_n (by decide)]; exact h2.1, t2⟩ (by rw [fu_s]; rfl) (fun j hj => by rw [fu_n (by omega), fu_n (by omega)]) (fun z => ⟨by rw [fu_n (by decide), fu_s, v1, ha], by omega, by omega⟩) (fun z => by omega) (by rw [fu_n (by decide), fu_n (by decide)]; exact h1.f13 h3)⟩
  · refine rr_bad hB h44 ?_ (fun d f h1 h2 h3 => ⟨_, (use d f h1 h2 h3).1, by rw [fu_n (by decide), fu_n (by decide), fu_s], by rw [fu_n (by decide), fu_n (by decide), fu_n (by decide)]⟩)
    unfold kf9 at hk ⊢
    repeat' split
    all_goals first | omega | (exfalso; apply hk; simp_all)
theorem and_tp9 {t i : Nat} : t &&& 2 ^ i = (t.testBit i).toNat * 2 ^ i := by
  apply Nat.eq_of_testBit_eq
  intro j
  rw [Nat.testBit_and, Nat.testBit_two_pow]
  by_cases c : i = j
  · subst c
    cases h : t.testBit i with
    | true => rw [Bool.toNat_true, Nat.one_mul, Nat.testBit_two_pow, Bool.true_and]
    | false => rw [Bool.toNat_false, Nat.zero_mul, Nat.zero_testBit, Bool.false_and]
  · rw [decide_eq_false c, Bool.and_false]
    cases h : t.testBit i with
    | true => rw [Bool.toNat_true, Nat.one_mul, Nat.testBit_two_pow, decide_eq_false c]
    | false => rw [Bool.toNat_false, Nat.zero_mul, Nat.zero_testBit]
theorem pb_int {a b : Nat} : (5 * mmin (a : Int) (b : Int)) + mmax (a : Int) (b : Int) = (pb9 a b : Nat) := by
  unfold pb9 mmin mmax
  rcases Nat.lt_or_ge b a with z | z
  · rw [if_pos (by omega), Nat.min_eq_right (by omega), Nat.max_eq_left (by omega)]
    split <;> omega
  · rw [if_neg (by omega), Nat.min_eq_left z, Nat.max_eq_right z]
    split <;> omega
theorem rr_4 (hB : Tp9 B n) (h44 : ∀ j, j < n → d0.1 44 j = B j) (hq : q ≤ n) : (kf9 B n (tS B n q) 1 k = 0 → ∀ b' : Nat, tv9 B n (tS B n q) = b' → (td.testBit (pb9 a b') = false → Rr9 n d0 (tE B n (tS B n q)) 5 k T a b' (td ||| 2 ^ pb9 a b') ft pl k9 T9 → Rr9 n d0 q 4 k T a b td ft pl k9 T9) ∧ (td.testBit (pb9 a b') = true → Rr9 n d0 q 4 k T a b td 4 (tS B n q) k9 T9)) ∧ (kf9 B n (tS B n q) 1 k ≠ 0 → Rr9 n d0 q 4 k T a b td (kf9 B n (tS B n q) 1 k) (tS B n q) k9 T9) := by
  obtain ⟨s1, s2, -⟩ := tS_bd (B := B) hq
  have kfa : ∀ d f, CD9 n d0 q 4 k T a b td d → CT9 B n (tS B n q) f → X4_kindFault 45 1 (wA d 45 f) = some (kf9 B n (tS B n q) 1 k) ∧ (kf9 B n (tS B n q) 1 k = 0 → tR B n (tS B n q) ≠ 0 ∧ f 5 = tv9 B n (tS B n q) ∧ (1 : Int) ≤ tv9 B n (tS B n q) ∧ tv9 B n (tS B n q) < k) ∧ 0 ≤ kf9 B n (tS B n q) 1 k ∧ kf9 B n (tS B n q) 1 k ≤ 3 := fun d f h1 h2 => by
    obtain ⟨t1, t2, t3⟩ := h1.2.2.2.2.2.2 (by decide)
    exact x4_kf (l := 1) s2 h2 (by decide) t1 t2.2
  refine ⟨fun hk b' hb => ?_, fun hk => ?_⟩
  · have r0 : tR B n (tS B n q) ≠ 0 := fun z => by unfold kf9 at hk; rw [if_neg (by rw [z]; decide)] at hk; cases hk
    have use : ∀ d f, CD9 n d0 q 4 k T a b td d → CT9 B n (tS B n q) f → Fo9 f (d.1 45) → (1 ≤ b' ∧ b' < k ∧ k ≤ 5) ∧ X4_useToken 45 (wA d 45 f) = some ((), wA d 45 (if td.testBit (pb9 a b') = true then fu (fu (fu (fu f 12 b') 8 4) 13 ((td ||| 2 ^ pb9 a b' : Nat) : Int)) 6 5 else fu (fu (fu f 12 b') 13 ((td ||| 2 ^ pb9 a b' : Nat) : Int)) 6 5)) := fun d f h1 h2 h3 => by
      have f6 := h1.f6 h3
      obtain ⟨k1, k2, k3⟩ := kfa d f h1 h2
      obtain ⟨-, v1, v2, v3⟩ := k2 hk
      obtain ⟨a1, a2, a3⟩ := h1.f11 h3 (by decide)
      obtain ⟨d1, d2⟩ := h1.f13 h3
      have k5 := (h1.2.2.2.2.2.2 (by decide)).2.1.2
      have f8 : f 8 = 0 := by rw [h3 8 (by decide) (by decide) (by decide) (by decide)]; exact h1.2.2.1.2.2.2.2.2.1
      refine ⟨⟨by omega, by omega, k5⟩, ?_⟩
      have pbb : pb9 a b' < 25 := by unfold pb9; omega
      have p2 : 2 ^ pb9 a b' < 2 ^ 25 := Nat.pow_lt_pow_right (by decide) pbb
      have p2' : 2 ^ pb9 a b' < 33554432 := p2
      have d2' : td < 33554432 := d2
      unfold X4_useToken X4_useSecond X4_useSecond_j67
      rw [wA_at, f6, gd_pos (by decide), if_neg (by decide), if_neg (by decide), if_neg (by decide), if_neg (by decide), if_pos (by decide), b1_pos k1, hk, lt_pos, wA_wI, fu_id f8, wA_at, f8, gd_pos (by decide), if_pos rfl, lt_pos, wA_wI, wA_at, v1, hb]
      rw [show fu f 12 (b' : Int) 11 = (a : Int) by rw [fu_n (by decide)]; exact a1, show fu f 12 (b' : Int) 12 = (b' : Int) by rw [fu_s], show fu f 12 (b' : Int) 13 = (td : Int) by rw [fu_n (by decide)]; exact d1, gd_pos (by omega), gd_pos (by omega), lt_pos, pb_int, shl_nat9 (by omega), and_nat9 (by omega) (by omega), and_tp9]
      have pos : 0 < 2 ^ pb9 a b' := Nat.pow_pos (by decide)
      cases hbit : td.testBit (pb9 a b') with
      | true =>
        rw [if_pos (show true = true from rfl), show (true.toNat * 2 ^ pb9 a b') = 2 ^ pb9 a b' by rw [Bool.toNat_true, Nat.one_mul], gd_pos (by omega), if_neg (by omega), lt_pos, wA_wI, wA_at, show fu (fu f 12 (b' : Int)) 8 4 13 = (td : Int) by rw [fu_n (by decide), fu_n (by decide)]; exact d1, or_nat9 (by omega) (by omega), lt_pos, lt_pos, wA_wI, wA_wI]
        rfl
      | false =>
        rw [if_neg (show ¬ (false = true) by decide), show (false.toNat * 2 ^ pb9 a b') = 0 by rw [Bool.toNat_false, Nat.zero_mul], gd_pos (by decide), if_pos (show ((0 : Nat) : Int) = 0 from rfl), or_nat9 (by omega) (by omega), lt_pos, lt_pos, wA_wI, wA_wI]
        rfl
    refine ⟨fun hbit hR => ?_, fun hbit => ?_⟩
    · obtain ⟨t1, t2⟩ := te_in (B := B) hq r0
      refine rr_step hB h44 t1 (fun d f h1 h2 h3 => ?_) hR
      obtain ⟨⟨u1, u2, u3⟩, u4⟩ := use d f h1 h2 h3
      rw [if_neg (by rw [hbit]; decide)] at u4
      obtain ⟨a1, a2, a3⟩ := h1.f11 h3 (by decide)
      have pbb : pb9 a b' < 25 := by unfold pb9; omega
      refine ⟨_, u4, h1.tk h3 (fun _ => by omega) ⟨by rw [fu_n (by decide), fu_n (by decide), fu_n (by decide)]; exact h2.1, t2⟩ (by rw [fu_s]; rfl) (fun j hj => by rw [fu_n (by omega), fu_n (by omega), fu_n (by omega)]) (fun z => ⟨by rw [fu_n (by decide), fu_n (by decide), fu_n (by decide)]; exact a1, a2, a3⟩) (fun z => ⟨by rw [fu_n (by decide), fu_n (by decide), fu_s], u1, u2⟩) ⟨by rw [fu_n (by decide), fu_s], Nat.or_lt_two_pow (h1.f13 h3).2 (Nat.pow_lt_pow_right (by decide) pbb)⟩⟩
    · refine rr_bad hB h44 (by decide) (fun d f h1 h2 h3 => ⟨_, (use d f h1 h2 h3).2, ?_, ?_⟩)
      · rw [if_pos hbit, fu_n (by decide), fu_n (by decide), fu_s]
      · rw [if_pos hbit, fu_n (by decide), fu_n (by decide), fu_n (by decide), fu_n (by decide)]
  · refine rr_bad hB h44 ?_ (fun d f h1 h2 h3 => ⟨fu f 8 (kf9 B n (tS B n q) 1 k), ?_, by rw [fu_s], by rw [fu_n (by decide)]⟩)
    · unfold kf9 at hk ⊢
      repeat' split
      all_goals first | omega | (exfalso; apply hk; simp_all)
    · have f6 := h1.f6 h3
      obtain ⟨k1, k2, k3⟩ := kfa d f h1 h2
      unfold X4_useToken X4_useSecond
      rw [wA_at, f6, gd_pos (by decide), if_neg (by decide), if_neg (by decide), if_neg (by decide), if_neg (by decide), if_pos (by decide), b1_pos k1, lt_pos, wA_wI, wA_at, fu_s, gd_pos (by omega), if_neg hk]
      rfl
end

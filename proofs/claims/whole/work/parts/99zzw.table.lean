/-! ===== the reference reads a line ===== -/
def MV9 (V td : Nat) : Prop := V < 2 ^ 25 ∧ td < 2 ^ 25 ∧ ∀ a b, 1 ≤ a → a < 5 → 1 ≤ b → b < 5 → V.testBit (5 * a + b) = td.testBit (pb9 a b)
theorem MV9.more {V td a b : Nat} (h : MV9 V td) (ha : 1 ≤ a ∧ a < 5) (hb : 1 ≤ b ∧ b < 5) : MV9 ((V ||| 2 ^ (5 * a + b)) ||| 2 ^ (5 * b + a)) (td ||| 2 ^ pb9 a b) := by
  obtain ⟨h1, h2, h3⟩ := h
  have pw : ∀ i, i < 25 → 2 ^ i < 2 ^ 25 := fun i hi => Nat.pow_lt_pow_right (by decide) hi
  refine ⟨Nat.or_lt_two_pow (Nat.or_lt_two_pow h1 (pw _ (by omega))) (pw _ (by omega)), Nat.or_lt_two_pow h2 (pw _ (by unfold pb9; omega)), fun a' b' a1 a2 b1 b2 => ?_⟩
  rw [Nat.testBit_or, Nat.testBit_or, Nat.testBit_or, h3 a' b' a1 a2 b1 b2, Nat.testBit_two_pow, Nat.testBit_two_pow, Nat.testBit_two_pow, Bool.or_assoc]
  congr 1
  have : (pb9 a b = pb9 a' b') ↔ (5 * a + b = 5 * a' + b' ∨ 5 * b + a = 5 * a' + b') := by
    unfold pb9
    rcases Nat.lt_or_ge a b with z | z
    · rw [Nat.min_eq_left (by omega), Nat.max_eq_right (by omega)]
      rcases Nat.lt_or_ge a' b' with y | y
      · rw [Nat.min_eq_left (by omega), Nat.max_eq_right (by omega)]; omega
      · rw [Nat.min_eq_right (by omega), Nat.max_eq_left (by omega)]; omega
    · rw [Nat.min_eq_right (by omega), Nat.max_eq_left (by omega)]
      rcases Nat.lt_or_ge a' b' with y | y
      · rw [Nat.min_eq_left (by omega), Nat.max_eq_right (by omega)]; omega
      · rw [Nat.min_eq_right (by omega), Nat.max_eq_left (by omega)]; omega
  rw [← Bool.decide_or]
  exact decide_eq_decide.2 this.symm
theorem bit_ref {V s : Nat} (h : V < 2 ^ 25) (hs : s < 25) : iand9 (ishr9 (V : Int) (s : Int)) 1 = if V.testBit s = true then 1 else 0 := by
  have h' : V < 33554432 := h
  have hd : V / 2 ^ s ≤ V := Nat.div_le_self _ _
  rw [shr_nat9 (by omega) (by omega)]
  have := mask_nat9 (a := V / 2 ^ s) (s := 1) (by omega) (by decide)
  have e : (((2 ^ 1 - 1 : Nat)) : Int) = 1 := rfl
  rw [e] at this
  rw [this, Nat.testBit_eq_decide_div_mod_eq]
  by_cases c : V / 2 ^ s % 2 = 1
  · rw [show V / 2 ^ s % 2 ^ 1 = 1 from c, if_pos (by decide)]; rfl
  · rw [show V / 2 ^ s % 2 ^ 1 = 0 by have : V / 2 ^ s % 2 < 2 := Nat.mod_lt _ (by decide); show V / 2 ^ s % 2 = 0; omega, if_neg (by decide)]; rfl
section
variable {B : Nat → Int} {n : Nat} {d0 c0 : DA} {q k : Nat} {T : Nat → Int} {a b td : Nat} {d : DA} {ft : Int} {pl : Nat}
theorem rq_readKind {l : Nat} (hB : Tp9 B n) (h126 : ∀ j, j < n → d0.1 126 j = B j) (h23 : d0.1 113 23 = n) (hl : l ≤ 1) (hk5 : 1 ≤ k ∧ k ≤ 5) (h : RQ9 B n d0 q k d) : (kf9 B n (tS B n q) l k = 0 → (∃ d', X12_readKind 113 l d = some (tv9 B n (tS B n q), d') ∧ RQ9 B n d0 (tE B n (tS B n q)) k d' ∧ d'.1 116 = d.1 116) ∧ tR B n (tS B n q) ≠ 0 ∧ (l : Int) ≤ tv9 B n (tS B n q) ∧ tv9 B n (tS B n q) < k) ∧ (kf9 B n (tS B n q) l k ≠ 0 → ∃ d', X12_readKind 113 l d = some (0, d') ∧ FQ9 d0 (kf9 B n (tS B n q) l k) (tS B n q) d') := by
  obtain ⟨k1, k2⟩ := rq_kind hl hk5 h hB.1
  refine ⟨fun hk => ⟨?_, (k1 hk).2⟩, fun hk => ?_⟩
  · obtain ⟨d', g1, g2, g3⟩ := rq_step hB h126 h23 h
    refine ⟨d', ?_, g2, g3⟩
    unfold X12_readKind
    rw [bd_pos (k1 hk).1, h.2.1, gd_pos (by decide), if_pos rfl, bd_pos g1]
  · obtain ⟨d', g1, g2⟩ := k2 hk
    refine ⟨d', ?_, g2⟩
    have w28 := g2.2.1
    have wb := g2.2.2.1
    unfold X12_readKind
    rw [bd_pos g1, w28, gd_pos (by omega), if_neg hk]
theorem fq_j79 {V v w : Int} (h : FQ9 d0 ft pl d) : ∃ V', X12_readLine_j79 113 V v w d = some (V', d) := by
  have m := fq_mark (c := 59) h
  obtain ⟨f, h28, hf, -⟩ := h
  refine ⟨ior9 (ior9 V (ishl9 1 ((5 * v) + w))) (ishl9 1 ((5 * w) + v)), ?_⟩
  unfold X12_readLine_j79
  rw [bd_pos m]
  refine (lpE_for (fun _ => ((0 : Int), d)) 0 d rfl (by decide) (fun i hi => absurd hi (by omega)) ?_).trans (by unfold X12_readLine_j131; rfl)
  show X12_readLine_b88 113 V v w 0 d = _
  unfold X12_readLine_b88
  rw [gd_pos (by decide), if_neg (by decide), h28, gd_pos (by omega), if_neg (by omega)]
theorem rd_semi {V : Nat} (hB : Tp9 B n) (h126 : ∀ j, j < n → d0.1 126 j = B j) (h23 : d0.1 113 23 = n) (hV : V < 2 ^ 25) (ha : a < 5) (hb : b < 5) (h : RQ9 B n d0 q k d) (hs : tR B n (tS B n q) = 3 ∧ B (tS B n q) = 59) (hU : SU9 a b T (d.1 116)) (hS : Sy9 T) : ∃ d', X12_readLine_j79 113 V a b d = some ((((V ||| 2 ^ (5 * a + b)) ||| 2 ^ (5 * b + a) : Nat) : Int), d') ∧ RQ9 B n d0 (tE B n (tS B n q)) k d' ∧ ∀ q, q < 125 → d'.1 116 q = T q := by
  obtain ⟨d9, g1, g2, g3⟩ := (rq_mark (c := 59) hB h126 h23 (by decide) h).1 hs
  unfold X12_readLine_j79
  rw [bd_pos g1]
  rw [← g3] at hU
  have pw : ∀ i, i < 25 → 2 ^ i < 2 ^ 25 := fun i hi => Nat.pow_lt_pow_right (by decide) hi
  obtain ⟨e, r1, r2, r3⟩ := lpE_may (b := fun q => X12_readLine_b88 113 V a b q.1 q.2) (k := fun e => X12_readLine_j131 113 V a b e) (s0 := ((0 : Int), d9)) (fun i s => s.1 = (i : Nat) ∧ RQ9 B n d0 (tE B n (tS B n q)) k s.2 ∧ ∀ x y w, x < 5 → y < 5 → w < 5 → s.2.1 116 (ti x y w) = if x = b ∧ y = a ∧ w < i then d9.1 116 (ti a b w) else d9.1 116 (ti x y w)) (fun e => RQ9 B n d0 (tE B n (tS B n q)) k e ∧ ∀ x y w, x < 5 → y < 5 → w < 5 → e.1 116 (ti x y w) = if x = b ∧ y = a ∧ w < 5 then d9.1 116 (ti a b w) else d9.1 116 (ti x y w)) 5 (by decide) ⟨rfl, g2, fun x y w hx hy hw => by rw [if_neg (by omega)]⟩ (fun i s hi hI => by
      obtain ⟨v, e⟩ := s
      obtain ⟨h1, h2, h3⟩ := hI
      have h1' : v = (i : Nat) := h1
      subst h1'
      have h2' : RQ9 B n d0 (tE B n (tS B n q)) k e := h2
      have h3' : ∀ x y w, x < 5 → y < 5 → w < 5 → e.1 116 (ti x y w) = if x = b ∧ y = a ∧ w < i then d9.1 116 (ti a b w) else d9.1 116 (ti x y w) := h3
      refine Or.inl ⟨((i : Int) + 1, wI e 116 (ti b a i) (e.1 116 (ti a b i))), ?_, by show (i : Int) + 1 = _; omega, h2'.w6, fun x y w hx hy hw => ?_⟩
      · show X12_readLine_b88 113 V a b (i : Int) e = _
        have l1 := ti_lt5 (v := i) hb ha hi
        have l2 := ti_lt5 (v := i) ha hb hi
        unfold X12_readLine_b88
        rw [gd_pos (by omega), if_neg (by omega), h2'.2.1, gd_pos (by decide), if_pos rfl, b1_pos x12_cellN, b1_pos x12_cellN, gd_pos (by omega), gd_pos (by omega), lt_pos, Int.toNat_natCast, Int.toNat_natCast]
      · show (wI e 116 (ti b a i) (e.1 116 (ti a b i))).1 116 (ti x y w) = _
        rw [wI_at, fu_app]
        by_cases c : ti x y w = ti b a i
        · have c' := (ti_iff hy hw ha hi).1 c
          rw [if_pos c, if_pos (by omega), h3' a b i ha hb hi, if_neg (by omega), c'.2.2]
        · rw [if_neg c, h3' x y w hx hy hw]
          by_cases c2 : x = b ∧ y = a ∧ w < i
          · rw [if_pos c2, if_pos (by omega)]
          · rw [if_neg c2, if_neg (fun z => c ((ti_iff hy hw ha hi).2 (by omega)))]) (fun s hI => by
      obtain ⟨v, e⟩ := s
      obtain ⟨h1, h2, h3⟩ := hI
      have h1' : v = ((5 : Nat) : Int) := h1
      subst h1'
      refine ⟨e, ?_, h2, h3⟩
      show X12_readLine_b88 113 V a b ((5 : Nat) : Int) e = _
      unfold X12_readLine_b88
      rw [gd_pos (by decide), if_pos (by decide)])
  rw [r1]
  have hV' : V < 33554432 := hV
  have p1 : 2 ^ (5 * a + b) < 33554432 := pw _ (by omega)
  have p2 : 2 ^ (5 * b + a) < 33554432 := pw _ (by omega)
  have o1 : V ||| 2 ^ (5 * a + b) < 33554432 := Nat.or_lt_two_pow (n := 25) hV p1
  refine ⟨e, ?_, r2, fun q hq => ?_⟩
  · unfold X12_readLine_j131
    rw [show (5 * (a : Int) + (b : Int)) = ((5 * a + b : Nat) : Int) by omega, show (5 * (b : Int) + (a : Int)) = ((5 * b + a : Nat) : Int) by omega, shl_nat9 (by omega), shl_nat9 (by omega), or_nat9 (by omega) (by omega), or_nat9 (by omega) (by omega)]
  · have e9 : q = ti (q / 25) (q / 5 % 5) (q % 5) := by unfold ti; omega
    rw [e9, r3 _ _ _ (by omega) (by omega) (by omega)]
    by_cases c : q / 25 = b ∧ q / 5 % 5 = a ∧ q % 5 < 5
    · rw [if_pos c, c.1, c.2.1, hU a b _ ha hb (by omega) (by omega), hS a b _ ha hb (by omega)]
    · rw [if_neg c, hU _ _ _ (by omega) (by omega) (by omega) (fun z => absurd ⟨z.1, z.2, by omega⟩ c)]
end

/-! ===== ways ===== -/
def waS (n : Nat → Nat → Nat → Int) (r i : Nat) (a : Nat → Int) (k : Nat) : Int := sm r fun l => a l * n l i k
def waA (n : Nat → Nat → Nat → Int) (r i : Nat) : Nat → Nat → Int
  | 0 => fun k => if k = 0 then 1 else 0
  | t + 1 => pre (waA n r i t) (fun k => waS n r i (waA n r i t) k % 1000000007) r
theorem waS_bd {n : Nat → Nat → Nat → Int} {r i k : Nat} {a : Nat → Int} (h5 : r ≤ 5) (hn : N9 n) (hi : i < 5) (hk : k < 5) (ha : ∀ j, j < 5 → 0 ≤ a j ∧ a j ≤ 1000000007) : 0 ≤ waS n r i a k ∧ waS n r i a k ≤ 45000000315 := by
  have h := sm_bd (f := fun l => a l * n l i k) (lo := 0) (hi := 1000000007 * 9) r (fun l hl => mul_bd (ha l (by omega)) (hn l i k (by omega) hi hk))
  unfold waS
  omega
theorem waA_bd {n : Nat → Nat → Nat → Int} {r i : Nat} : ∀ t j, 0 ≤ waA n r i t j ∧ waA n r i t j ≤ 1000000007 := by
  intro t
  induction t with
  | zero => intro j; show 0 ≤ (if j = 0 then 1 else 0 : Int) ∧ (if j = 0 then 1 else 0 : Int) ≤ 1000000007; split <;> omega
  | succ t ih =>
    intro j
    show 0 ≤ pre (waA n r i t) _ r j ∧ pre (waA n r i t) _ r j ≤ 1000000007
    by_cases c : j < r
    · rw [pre_lt c]; omega
    · rw [pre_ge c]; exact ih j
theorem x8_waysOf {d : DA} {o r i j m : Nat} (hr : d.1 o 0 = r) (h5 : r ≤ 5) (hn : Nb d o) (hi : i < 5) (hj : j < 5) (hm : m ≤ 1000) : ∃ a, X8_waysOf o i j m d = some a ∧ (a.1 = waA (nn d o) r i m j ∧ a.2.1 = d.1) := by
  unfold X8_waysOf
  rw [bd_pos (fillL (by omega)), gd_pos (by omega), lt_pos]
  have h0 : ∀ q, q < 5 → (wL (wB d (o + 3) (pre (d.2 (o + 3)) (fun _ => 0) 5)) (o + 3) (Int.toNat 0) 1).2 (o + 3) q = waA (nn d o) r i 0 q := fun q hq => by
    rw [wL_at, wB_at, fu_app]
    show _ = if q = 0 then 1 else 0
    by_cases c : q = 0
    · subst c; rfl
    · rw [if_neg c, if_neg (show ¬ q = Int.toNat 0 from c), pre_lt hq]
  refine lpE_ev (fun t s => s.1 = (t : Int) ∧ s.2.1 = d.1 ∧ ∀ q, q < 5 → s.2.2 (o + 3) q = waA (nn d o) r i t q) (fun e => e.1 = d.1 ∧ ∀ q, q < 5 → e.2 (o + 3) q = waA (nn d o) r i m q) m (by omega) ⟨rfl, rfl, h0⟩ (fun t s ht hI => ?_) (fun s hI => ?_) (fun e he => ?_)
  · obtain ⟨v, D⟩ := s
    obtain ⟨rfl, h2, h3⟩ := hI
    have h2' : D.1 = d.1 := h2
    have h3' : ∀ q, q < 5 → D.2 (o + 3) q = waA (nn d o) r i t q := h3
    have hb := waA_bd (n := nn d o) (r := r) (i := i) t
    unfold X8_waysOf_b18
    dsimp only
    simp (disch := omega) only [gd_pos, if_pos, if_neg, lt_pos, reduceIte]
    refine lpE_evl (fun k s => s.1 = (k : Int) ∧ s.2.1 = d.1 ∧ (∀ q, q < 5 → s.2.2 (o + 3) q = waA (nn d o) r i t q) ∧ ∀ q, q < k → s.2.2 (o + 4) q = waS (nn d o) r i (waA (nn d o) r i t) q % 1000000007) (fun e => e.1 = d.1 ∧ (∀ q, q < 5 → e.2 (o + 3) q = waA (nn d o) r i t q) ∧ ∀ q, q < r → e.2 (o + 4) q = waS (nn d o) r i (waA (nn d o) r i t) q % 1000000007) r (by omega) ⟨rfl, h2', h3', fun q hq => by omega⟩ (fun k s hk hI => ?_) (fun s hI => ?_) (fun e he => ?_)
    · obtain ⟨v, E⟩ := s
      obtain ⟨rfl, g2, g3, g4⟩ := hI
      have g2' : E.1 = d.1 := g2
      have g3' : ∀ q, q < 5 → E.2 (o + 3) q = waA (nn d o) r i t q := g3
      have g4' : ∀ q, q < k → E.2 (o + 4) q = waS (nn d o) r i (waA (nn d o) r i t) q % 1000000007 := g4
      have eN : ∀ a b c, nn E o a b c = nn d o a b c := fun a b c => by unfold nn; rw [g2']
      have hS := waS_bd (n := nn d o) (r := r) (i := i) (k := k) h5 (nn9 hn) hi (by omega) (fun q _ => hb q)
      refine ⟨((k : Int) + 1, wL E (o + 4) k (waS (nn d o) r i (waA (nn d o) r i t) k % 1000000007)), ?_, rfl, g2, fun q hq => ?_, fun q hq => ?_⟩
      · unfold X8_waysOf_b27
        dsimp only
        rw [g2', hr]
        simp (disch := omega) only [gd_pos, if_pos, if_neg, lt_pos, reduceIte]
        refine (lpE_for (fun l => (sm l (fun l => waA (nn d o) r i t l * nn d o l i k), (l : Int))) r (waS (nn d o) r i (waA (nn d o) r i t) k) rfl (by omega) (fun l hl => ?_) ?_).trans ?_
        · unfold X8_waysOf_b42
          dsimp only
          have h9 := hn.at (i := l) (j := i) (k := k) (by omega) hi (by omega)
          rw [g2', hr, b1_pos (x8_at (show l < 5 by omega) hi (show k < 5 by omega)), eN, Int.toNat_natCast, g3' l (by omega)]
          simp (disch := omega) only [gd_pos, if_pos, if_neg, lt_pos, reduceIte]
          rfl
        · unfold X8_waysOf_b42
          dsimp only
          rw [g2', hr]
          simp (disch := omega) only [gd_pos, if_pos, if_neg, lt_pos, reduceIte]
          rfl
        · unfold X8_waysOf_j80_27
          rw [Int.toNat_natCast]
          simp (disch := omega) only [gd_pos, if_pos, if_neg, lt_pos, reduceIte]
      · show (wL E (o + 4) k _).2 (o + 3) q = _
        rw [wL_ne (by omega)]; exact g3' q hq
      · show (wL E (o + 4) k _).2 (o + 4) q = _
        rw [wL_at, fu_app]
        by_cases c : q = k
        · subst c; rw [if_pos rfl]
        · rw [if_neg c]; exact g4' q (by omega)
    · obtain ⟨v, E⟩ := s
      obtain ⟨rfl, g2, g3, g4⟩ := hI
      have g2' : E.1 = d.1 := g2
      refine ⟨E, ?_, g2, g3, g4⟩
      unfold X8_waysOf_b27
      dsimp only
      rw [g2', hr]
      simp (disch := omega) only [gd_pos, if_pos, if_neg, lt_pos, reduceIte]
    · obtain ⟨e1, e2, e3⟩ := he
      unfold X8_waysOf_j99_18
      rw [e1, hr, gd_pos (by omega), lt_pos]
      refine ⟨_, rfl, rfl, e1, fun q hq => ?_⟩
      show (cpJ e (o + 4) 0 (o + 3) 0 (r : Int)).2 (o + 3) q = pre (waA (nn d o) r i t) (fun k => waS (nn d o) r i (waA (nn d o) r i t) k % 1000000007) r q
      unfold cpJ
      rw [wB_at]
      unfold cpF
      have z0 : Int.toNat 0 = 0 := rfl
      rw [z0, Int.toNat_natCast]
      by_cases c : q < r
      · rw [if_pos (by omega), pre_lt c, show 0 + (q - 0) = q by omega]; exact e3 q c
      · rw [if_neg (by omega), pre_ge c]; exact e2 q hq
  · obtain ⟨v, D⟩ := s
    obtain ⟨rfl, h2, h3⟩ := hI
    refine ⟨D, ?_, h2, h3⟩
    unfold X8_waysOf_b18
    simp (disch := omega) only [gd_pos, if_pos, if_neg, lt_pos, reduceIte]
  · obtain ⟨e1, e2⟩ := he
    have hb := waA_bd (n := nn d o) (r := r) (i := i) m j
    rw [Int.toNat_natCast, e2 j hj]
    simp (disch := omega) only [gd_pos, if_pos, if_neg, lt_pos, reduceIte]
    exact ⟨_, rfl, rfl, e1⟩
theorem x12_waysOf {d : DA} {o r i j m : Nat} (hr : d.1 o 1 = r) (h5 : r ≤ 5) (hn : Nb d o) (ho : 161 ≠ o + 14 ∧ 161 ≠ o + 15) (hi : i < 5) (hj : j < 5) (hm : m ≤ 1000) : ∃ a, lpE (fun q => X12_ways_b41 o i j m q.1 q.2) (0, d) (fun e => X12_ways_j70 o i j m e) = some a ∧ (a.1 = waA (nn d o) r i m j ∧ LK d a.2) := by
  refine lpE_ev (fun k s => s.1 = (k : Int) ∧ LK d s.2 ∧ ∀ q, q < k → s.2.2 (o + 14) q = waA (nn d o) r i 0 q) (fun e => LK d e ∧ ∀ q, q < 5 → e.2 (o + 14) q = waA (nn d o) r i 0 q) 5 (by omega) ⟨rfl, LK.rf, fun q hq => by omega⟩ (fun k s hk hI => ?_) (fun s hI => ?_) (fun e he => ?_)
  · obtain ⟨v, D⟩ := s
    obtain ⟨rfl, h2, h3⟩ := hI
    have h3' : ∀ q, q < k → D.2 (o + 14) q = waA (nn d o) r i 0 q := h3
    refine ⟨((k : Int) + 1, wL D (o + 14) k (if k = 0 then 1 else 0)), ?_, rfl, h2.wL ho.1, fun q hq => ?_⟩
    · unfold X12_ways_b41
      dsimp only
      rw [Int.toNat_natCast]
      by_cases c : k = 0
      · simp (disch := omega) only [gd_pos, if_pos, if_neg, lt_pos, reduceIte]
      · simp (disch := omega) only [gd_pos, if_pos, if_neg, lt_pos, reduceIte]
    · show (wL D (o + 14) k _).2 (o + 14) q = _
      rw [wL_at, fu_app]
      by_cases c : q = k
      · subst c; rw [if_pos rfl]; rfl
      · rw [if_neg c]; exact h3' q (by omega)
  · obtain ⟨v, D⟩ := s
    obtain ⟨rfl, h2, h3⟩ := hI
    refine ⟨D, ?_, h2, h3⟩
    unfold X12_ways_b41
    simp (disch := omega) only [gd_pos, if_pos, if_neg, lt_pos, reduceIte]
  · obtain ⟨e1, e2⟩ := he
    unfold X12_ways_j70
    refine lpE_ev (fun t s => s.1 = (t : Int) ∧ LK d s.2 ∧ ∀ q, q < 5 → s.2.2 (o + 14) q = waA (nn d o) r i t q) (fun e => LK d e ∧ ∀ q, q < 5 → e.2 (o + 14) q = waA (nn d o) r i m q) m (by omega) ⟨rfl, e1, e2⟩ (fun t s ht hI => ?_) (fun s hI => ?_) (fun e he => ?_)
    · obtain ⟨v, D⟩ := s
      obtain ⟨rfl, h2, h3⟩ := hI
      have h2' : D.1 = d.1 := h2.1
      have h3' : ∀ q, q < 5 → D.2 (o + 14) q = waA (nn d o) r i t q := h3
      have hb := waA_bd (n := nn d o) (r := r) (i := i) t
      unfold X12_ways_b73
      dsimp only
      simp (disch := omega) only [gd_pos, if_pos, if_neg, lt_pos, reduceIte]
      refine lpE_evl (fun k s => s.1 = (k : Int) ∧ LK d s.2 ∧ (∀ q, q < 5 → s.2.2 (o + 14) q = waA (nn d o) r i t q) ∧ ∀ q, q < k → s.2.2 (o + 15) q = waS (nn d o) r i (waA (nn d o) r i t) q) (fun e => LK d e ∧ (∀ q, q < 5 → e.2 (o + 14) q = waA (nn d o) r i t q) ∧ ∀ q, q < r → e.2 (o + 15) q = waS (nn d o) r i (waA (nn d o) r i t) q) r (by omega) ⟨rfl, h2, h3', fun q hq => by omega⟩ (fun k s hk hI => ?_) (fun s hI => ?_) (fun e he => ?_)
      · obtain ⟨v, E⟩ := s
        obtain ⟨rfl, g2, g3, g4⟩ := hI
        have g2' : E.1 = d.1 := g2.1
        have g3' : ∀ q, q < 5 → E.2 (o + 14) q = waA (nn d o) r i t q := g3
        have g4' : ∀ q, q < k → E.2 (o + 15) q = waS (nn d o) r i (waA (nn d o) r i t) q := g4
        unfold X12_ways_b82
        dsimp only
        rw [g2', hr]
        simp (disch := omega) only [gd_pos, if_pos, if_neg, lt_pos, reduceIte, Int.toNat_natCast]
        refine lpE_evl (fun l s => s.1 = (l : Int) ∧ LK d s.2 ∧ (∀ q, q < 5 → s.2.2 (o + 14) q = waA (nn d o) r i t q) ∧ (∀ q, q < k → s.2.2 (o + 15) q = waS (nn d o) r i (waA (nn d o) r i t) q) ∧ s.2.2 (o + 15) k = sm l (fun l => waA (nn d o) r i t l * nn d o l i k)) (fun e => LK d e ∧ (∀ q, q < 5 → e.2 (o + 14) q = waA (nn d o) r i t q) ∧ ∀ q, q < k + 1 → e.2 (o + 15) q = waS (nn d o) r i (waA (nn d o) r i t) q) r (by omega) ⟨rfl, g2.wL ho.2, fun q hq => by show (wL E (o + 15) k 0).2 (o + 14) q = _; rw [wL_ne (by omega)]; exact g3' q hq, fun q hq => by show (wL E (o + 15) k 0).2 (o + 15) q = _; rw [wL_at, fu_n (by omega)]; exact g4' q hq, by show (wL E (o + 15) k 0).2 (o + 15) k = _; rw [wL_at, fu_s]; rfl⟩ (fun l s hl hI => ?_) (fun s hI => ?_) (fun e he => ⟨_, rfl, rfl, he.1, he.2.1, he.2.2⟩)
        · obtain ⟨v, C⟩ := s
          obtain ⟨rfl, f2, f3, f4, f5⟩ := hI
          have f2' : C.1 = d.1 := f2.1
          have f3' : ∀ q, q < 5 → C.2 (o + 14) q = waA (nn d o) r i t q := f3
          have f4' : ∀ q, q < k → C.2 (o + 15) q = waS (nn d o) r i (waA (nn d o) r i t) q := f4
          have f5' : C.2 (o + 15) k = _ := f5
          have h9 := hn.at (i := l) (j := i) (k := k) (by omega) hi (by omega)
          have eN : nn C o l i k = nn d o l i k := by unfold nn; rw [f2']
          refine ⟨((l : Int) + 1, wL C (o + 15) k (C.2 (o + 15) k + C.2 (o + 14) l * nn d o l i k)), ?_, rfl, f2.wL ho.2, fun q hq => ?_, fun q hq => ?_, ?_⟩
          · unfold X12_ways_b102
            dsimp only
            rw [f2', hr, b1_pos (x12_of (show l < 5 by omega) hi (show k < 5 by omega)), eN, Int.toNat_natCast, Int.toNat_natCast]
            simp (disch := omega) only [gd_pos, if_pos, if_neg, lt_pos, reduceIte]
          · show (wL C (o + 15) k _).2 (o + 14) q = _
            rw [wL_ne (by omega)]; exact f3' q hq
          · show (wL C (o + 15) k _).2 (o + 15) q = _
            rw [wL_at, fu_n (by omega)]; exact f4' q hq
          · show (wL C (o + 15) k _).2 (o + 15) k = _
            rw [wL_at, fu_s, f5', f3' l (by omega), sm_s]
        · obtain ⟨v, C⟩ := s
          obtain ⟨rfl, f2, f3, f4, f5⟩ := hI
          have f2' : C.1 = d.1 := f2.1
          refine ⟨C, ?_, f2, f3, fun q hq => ?_⟩
          · unfold X12_ways_b102
            dsimp only
            rw [f2', hr]
            simp (disch := omega) only [gd_pos, if_pos, if_neg, lt_pos, reduceIte]
          · by_cases c : q = k
            · subst c; exact f5
            · exact f4 q (by omega)
      · obtain ⟨v, E⟩ := s
        obtain ⟨rfl, g2, g3, g4⟩ := hI
        have g2' : E.1 = d.1 := g2.1
        refine ⟨E, ?_, g2, g3, g4⟩
        unfold X12_ways_b82
        dsimp only
        rw [g2', hr]
        simp (disch := omega) only [gd_pos, if_pos, if_neg, lt_pos, reduceIte]
      · obtain ⟨e1, e2, e3⟩ := he
        unfold X12_ways_j151_73
        refine lpE_evl (fun k s => s.1 = (k : Int) ∧ LK d s.2 ∧ (∀ q, q < 5 → s.2.2 (o + 14) q = pre (waA (nn d o) r i t) (fun k => waS (nn d o) r i (waA (nn d o) r i t) k % 1000000007) k q) ∧ ∀ q, q < r → s.2.2 (o + 15) q = waS (nn d o) r i (waA (nn d o) r i t) q) (fun e => LK d e ∧ ∀ q, q < 5 → e.2 (o + 14) q = waA (nn d o) r i (t + 1) q) r (by omega) ⟨rfl, e1, fun q hq => by rw [pre_0]; exact e2 q hq, e3⟩ (fun k s hk hI => ?_) (fun s hI => ?_) (fun e he => ⟨_, rfl, rfl, he.1, he.2⟩)
        · obtain ⟨v, E⟩ := s
          obtain ⟨rfl, g2, g3, g4⟩ := hI
          have g2' : E.1 = d.1 := g2.1
          have g3' : ∀ q, q < 5 → E.2 (o + 14) q = pre (waA (nn d o) r i t) (fun k => waS (nn d o) r i (waA (nn d o) r i t) k % 1000000007) k q := g3
          have g4' : ∀ q, q < r → E.2 (o + 15) q = waS (nn d o) r i (waA (nn d o) r i t) q := g4
          have hS := waS_bd (n := nn d o) (r := r) (i := i) (k := k) h5 (nn9 hn) hi (by omega) (fun q _ => hb q)
          refine ⟨((k : Int) + 1, wL E (o + 14) k (waS (nn d o) r i (waA (nn d o) r i t) k % 1000000007)), ?_, rfl, g2.wL ho.1, fun q hq => ?_, fun q hq => ?_⟩
          · unfold X12_ways_b154
            dsimp only
            rw [g2', hr, Int.toNat_natCast, g4' k hk]
            simp (disch := omega) only [gd_pos, if_pos, if_neg, lt_pos, reduceIte]
          · show (wL E (o + 14) k _).2 (o + 14) q = _
            rw [wL_at, fu_app]
            by_cases c : q = k
            · subst c; rw [if_pos rfl, pre_lt (by omega)]
            · rw [if_neg c, g3' q hq]
              by_cases c2 : q < k
              · rw [pre_lt c2, pre_lt (by omega)]
              · rw [pre_ge c2, pre_ge (by omega)]
          · show (wL E (o + 14) k _).2 (o + 15) q = _
            rw [wL_ne (by omega)]; exact g4' q hq
        · obtain ⟨v, E⟩ := s
          obtain ⟨rfl, g2, g3, g4⟩ := hI
          have g2' : E.1 = d.1 := g2.1
          refine ⟨E, ?_, g2, g3⟩
          unfold X12_ways_b154
          dsimp only
          rw [g2', hr]
          simp (disch := omega) only [gd_pos, if_pos, if_neg, lt_pos, reduceIte]
    · obtain ⟨v, D⟩ := s
      obtain ⟨rfl, h2, h3⟩ := hI
      refine ⟨D, ?_, h2, h3⟩
      unfold X12_ways_b73
      simp (disch := omega) only [gd_pos, if_pos, if_neg, lt_pos, reduceIte]
    · obtain ⟨e1, e2⟩ := he
      have hb := waA_bd (n := nn d o) (r := r) (i := i) m j
      rw [Int.toNat_natCast, e2 j hj]
      simp (disch := omega) only [gd_pos, if_pos, if_neg, lt_pos, reduceIte]
      exact ⟨_, rfl, rfl, e1⟩

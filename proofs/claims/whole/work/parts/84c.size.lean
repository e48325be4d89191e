/-! ===== loops by what holds ===== -/
theorem wl_inv {S X : Type} {b : S → Option (S ⊕ X)} (I : Nat → S → Prop) (F : X → Prop) (r : Nat) (hb : ∀ i s, i < r → I i s → ∃ s', b s = some (.inl s') ∧ I (i + 1) s') (he : ∀ s, I r s → ∃ e, b s = some (.inr e) ∧ F e) : ∀ n i s, i ≤ r → r - i < n → I i s → ∃ e, wl9 b n s = some e ∧ F e := by
  intro n
  induction n with
  | zero => intro i s _ h; omega
  | succ n ih =>
    intro i s hi hn hI
    unfold wl9
    by_cases c : i = r
    · subst c
      obtain ⟨e, h1, h2⟩ := he s hI
      rw [h1]
      exact ⟨e, rfl, h2⟩
    · obtain ⟨s', h1, h2⟩ := hb i s (by omega) hI
      rw [h1]
      exact ih (i + 1) s' (by omega) (by omega) h2
theorem lpE_inv {S E Y : Type} {b : S → Option (S ⊕ E)} {k : E → Option Y} {s0 : S} (I : Nat → S → Prop) (F : E → Prop) (r : Nat) (hr : r < 4000000) (h0 : I 0 s0) (hb : ∀ i s, i < r → I i s → ∃ s', b s = some (.inl s') ∧ I (i + 1) s') (he : ∀ s, I r s → ∃ e, b s = some (.inr e) ∧ F e) : ∃ e, lpE b s0 k = k e ∧ F e := by
  obtain ⟨e, h1, h2⟩ := wl_inv I F r hb he FUEL 0 s0 (Nat.zero_le _) (by unfold FUEL; omega) h0
  refine ⟨e, ?_, h2⟩
  unfold lpE
  rw [h1]
theorem lpE_ev {S E Y : Type} {b : S → Option (S ⊕ E)} {k : E → Option Y} {s0 : S} {Q : Y → Prop} (I : Nat → S → Prop) (F : E → Prop) (r : Nat) (hr : r < 4000000) (h0 : I 0 s0) (hb : ∀ i s, i < r → I i s → ∃ s', b s = some (.inl s') ∧ I (i + 1) s') (he : ∀ s, I r s → ∃ e, b s = some (.inr e) ∧ F e) (hk : ∀ e, F e → ∃ a, k e = some a ∧ Q a) : ∃ a, lpE b s0 k = some a ∧ Q a := by
  obtain ⟨e, h1, h2⟩ := lpE_inv (k := k) I F r hr h0 hb he
  rw [h1]
  exact hk e h2
theorem lpE_evl {S E Z W : Type} {b : S → Option (S ⊕ E)} {k : E → Option (Z ⊕ W)} {s0 : S} {Q : Z → Prop} (I : Nat → S → Prop) (F : E → Prop) (r : Nat) (hr : r < 4000000) (h0 : I 0 s0) (hb : ∀ i s, i < r → I i s → ∃ s', b s = some (.inl s') ∧ I (i + 1) s') (he : ∀ s, I r s → ∃ e, b s = some (.inr e) ∧ F e) (hk : ∀ e, F e → ∃ a, k e = some (.inl a) ∧ Q a) : ∃ a, lpE b s0 k = some (.inl a) ∧ Q a := by
  obtain ⟨e, h1, h2⟩ := lpE_inv (k := k) I F r hr h0 hb he
  rw [h1]
  exact hk e h2
theorem mmin_cm (a b : Int) : mmin a b = mmin b a := by
  unfold mmin
  by_cases c : b < a
  · simp (disch := omega) only [gd_pos, if_pos, if_neg, lt_pos, reduceIte]
  · by_cases c2 : a < b
    · simp (disch := omega) only [gd_pos, if_pos, if_neg, lt_pos, reduceIte]
    · simp (disch := omega) only [gd_pos, if_pos, if_neg, lt_pos, reduceIte]; omega
/-- the ints all as before, and the law's own long -/
def LK (d d' : DA) : Prop := d'.1 = d.1 ∧ d'.2 161 = d.2 161
theorem LK.rf {d : DA} : LK d d := ⟨rfl, rfl⟩
theorem LK.wL {d d' : DA} {c k : Nat} {v : Int} (h : LK d d') (hc : 161 ≠ c) : LK d (wL d' c k v) := ⟨h.1, (wL_ne hc).trans h.2⟩
theorem x12_tellSizes {d : DA} {o r : Nat} (hr : d.1 o 1 = r) (h1 : 1 ≤ r) (h5 : r ≤ 5) (hn : Nb d o) (ho : 161 ≠ o + 14 ∧ 161 ≠ o + 15) : ∃ a, X12_tellSizes o d = some a ∧ (LK d a.2 ∧ ∀ q, q < 5 → a.2.2 (o + 14) q = szA (nn d o) r 100 q) := by
  unfold X12_tellSizes
  have hA := szA_bd (r := r) h5 (nn9 hn)
  refine lpE_ev (fun i s => s.1 = (i : Int) ∧ LK d s.2 ∧ ∀ q, q < i → s.2.2 (o + 14) q = 1000000) (fun e => LK d e ∧ ∀ q, q < 5 → e.2 (o + 14) q = szA (nn d o) r 0 q) 5 (by omega) ⟨rfl, LK.rf, fun q hq => by omega⟩ (fun i s hi hI => ?_) (fun s hI => ?_) (fun e he => ?_)
  · obtain ⟨v, D⟩ := s
    obtain ⟨rfl, h2, h3⟩ := hI
    refine ⟨((i : Int) + 1, wL D (o + 14) i 1000000), ?_, rfl, h2.wL ho.1, fun q hq => ?_⟩
    · unfold X12_tellSizes_b2
      simp (disch := omega) only [gd_pos, if_pos, if_neg, lt_pos, reduceIte, Int.toNat_natCast]
    · show (wL D (o + 14) i 1000000).2 (o + 14) q = _
      rw [wL_at, fu_app]
      by_cases c : q = i
      · rw [if_pos c]
      · rw [if_neg c]; exact h3 q (by omega)
  · obtain ⟨v, D⟩ := s
    obtain ⟨rfl, h2, h3⟩ := hI
    refine ⟨D, ?_, h2, fun q hq => h3 q hq⟩
    unfold X12_tellSizes_b2
    simp (disch := omega) only [gd_pos, if_pos, if_neg, lt_pos, reduceIte]
  · obtain ⟨he2, he3⟩ := he
    unfold X12_tellSizes_j22
    refine lpE_ev (fun t s => s.1 = (t : Int) ∧ LK d s.2 ∧ ∀ q, q < 5 → s.2.2 (o + 14) q = szA (nn d o) r t q) (fun e => LK d e ∧ ∀ q, q < 5 → e.2 (o + 14) q = szA (nn d o) r 100 q) 100 (by omega) ⟨rfl, he2, he3⟩ (fun t s ht hI => ?_) (fun s hI => ?_) (fun e he => ⟨((), e), rfl, he⟩)
    · obtain ⟨v, D⟩ := s
      obtain ⟨rfl, h2, h3⟩ := hI
      have h2' : D.1 = d.1 := h2.1
      have h3' : ∀ q, q < 5 → D.2 (o + 14) q = szA (nn d o) r t q := h3
      unfold X12_tellSizes_b24
      dsimp only
      simp (disch := omega) only [gd_pos, if_pos, if_neg, lt_pos, reduceIte]
      -- the sums
      refine lpE_evl (fun k s => s.1 = (k : Int) ∧ LK d s.2 ∧ (∀ q, q < 5 → s.2.2 (o + 14) q = szA (nn d o) r t q) ∧ ∀ q, q < k → s.2.2 (o + 15) q = szS (nn d o) r (szA (nn d o) r t) q) (fun e => LK d e ∧ (∀ q, q < 5 → e.2 (o + 14) q = szA (nn d o) r t q) ∧ ∀ q, q < r → e.2 (o + 15) q = szS (nn d o) r (szA (nn d o) r t) q) r (by omega) ⟨rfl, h2, h3', fun q hq => by omega⟩ (fun k s hk hI => ?_) (fun s hI => ?_) (fun e he => ?_)
      · obtain ⟨v, E⟩ := s
        obtain ⟨rfl, g2, g3, g4⟩ := hI
        have g2' : E.1 = d.1 := g2.1
        have g3' : ∀ q, q < 5 → E.2 (o + 14) q = szA (nn d o) r t q := g3
        have g4' : ∀ q, q < k → E.2 (o + 15) q = szS (nn d o) r (szA (nn d o) r t) q := g4
        unfold X12_tellSizes_b32
        dsimp only
        rw [g2', hr]
        simp (disch := omega) only [gd_pos, if_pos, if_neg, lt_pos, reduceIte, Int.toNat_natCast]
        refine lpE_evl (fun i s => s.1 = (i : Int) ∧ LK d s.2 ∧ (∀ q, q < 5 → s.2.2 (o + 14) q = szA (nn d o) r t q) ∧ (∀ q, q < k → s.2.2 (o + 15) q = szS (nn d o) r (szA (nn d o) r t) q) ∧ s.2.2 (o + 15) k = sm i (fun i => sm r fun j => nn d o i j k * szA (nn d o) r t j)) (fun e => LK d e ∧ (∀ q, q < 5 → e.2 (o + 14) q = szA (nn d o) r t q) ∧ (∀ q, q < k + 1 → e.2 (o + 15) q = szS (nn d o) r (szA (nn d o) r t) q)) r (by omega) ⟨rfl, g2.wL ho.2, fun q hq => by show (wL E (o + 15) k 0).2 (o + 14) q = _; rw [wL_ne (by omega)]; exact g3' q hq, fun q hq => by show (wL E (o + 15) k 0).2 (o + 15) q = _; rw [wL_at, fu_n (by omega)]; exact g4' q hq, by show (wL E (o + 15) k 0).2 (o + 15) k = _; rw [wL_at, fu_s]; rfl⟩ (fun i s hi hI => ?_) (fun s hI => ?_) (fun e he => ⟨_, rfl, rfl, he.1, he.2.1, he.2.2⟩)
        · obtain ⟨v, C⟩ := s
          obtain ⟨rfl, f2, f3, f4, f5⟩ := hI
          have f2' : C.1 = d.1 := f2.1
          unfold X12_tellSizes_b49
          dsimp only
          rw [f2', hr]
          simp (disch := omega) only [gd_pos, if_pos, if_neg, lt_pos, reduceIte]
          refine lpE_evl (fun j s => s.1 = (j : Int) ∧ LK d s.2 ∧ (∀ q, q < 5 → s.2.2 (o + 14) q = szA (nn d o) r t q) ∧ (∀ q, q < k → s.2.2 (o + 15) q = szS (nn d o) r (szA (nn d o) r t) q) ∧ s.2.2 (o + 15) k = sm i (fun i => sm r fun j => nn d o i j k * szA (nn d o) r t j) + sm j (fun j => nn d o i j k * szA (nn d o) r t j)) (fun e => LK d e ∧ (∀ q, q < 5 → e.2 (o + 14) q = szA (nn d o) r t q) ∧ (∀ q, q < k → e.2 (o + 15) q = szS (nn d o) r (szA (nn d o) r t) q) ∧ e.2 (o + 15) k = sm (i + 1) (fun i => sm r fun j => nn d o i j k * szA (nn d o) r t j)) r (by omega) ⟨rfl, f2, f3, f4, by rw [sm_0]; show C.2 (o + 15) k = _; have : C.2 (o + 15) k = _ := f5; omega⟩ (fun j s hj hI => ?_) (fun s hI => ?_) (fun e he => ⟨_, rfl, rfl, he.1, he.2.1, he.2.2.1, he.2.2.2⟩)
          · obtain ⟨v, C⟩ := s
            obtain ⟨rfl, f2, f3, f4, f5⟩ := hI
            have f2' : C.1 = d.1 := f2.1
            have f3' : ∀ q, q < 5 → C.2 (o + 14) q = szA (nn d o) r t q := f3
            have f4' : ∀ q, q < k → C.2 (o + 15) q = szS (nn d o) r (szA (nn d o) r t) q := f4
            have hb := hn.at (i := i) (j := j) (k := k) (by omega) (by omega) (by omega)
            have eN : nn C o i j k = nn d o i j k := by unfold nn; rw [f2']
            refine ⟨((j : Int) + 1, wL C (o + 15) k (C.2 (o + 15) k + nn d o i j k * C.2 (o + 14) j)), ?_, rfl, f2.wL ho.2, fun q hq => ?_, fun q hq => ?_, ?_⟩
            · unfold X12_tellSizes_b60
              dsimp only
              rw [f2', hr, b1_pos (x12_of (show i < 5 by omega) (show j < 5 by omega) (show k < 5 by omega)), eN]
              simp (disch := omega) only [gd_pos, if_pos, if_neg, lt_pos, reduceIte, Int.toNat_natCast]
            · show (wL C (o + 15) k _).2 (o + 14) q = _
              rw [wL_ne (by omega)]; exact f3' q hq
            · show (wL C (o + 15) k _).2 (o + 15) q = _
              rw [wL_at, fu_n (by omega)]; exact f4' q hq
            · show (wL C (o + 15) k _).2 (o + 15) k = _
              have f5' : C.2 (o + 15) k = _ := f5
              rw [wL_at, fu_s, f5', f3' j (by omega), sm_s]
              omega
          · obtain ⟨v, C⟩ := s
            obtain ⟨rfl, f2, f3, f4, f5⟩ := hI
            have f2' : C.1 = d.1 := f2.1
            refine ⟨C, ?_, f2, f3, f4, ?_⟩
            · unfold X12_tellSizes_b60
              dsimp only
              rw [f2', hr]
              simp (disch := omega) only [gd_pos, if_pos, if_neg, lt_pos, reduceIte]
            · rw [sm_s]; exact f5
        · obtain ⟨v, C⟩ := s
          obtain ⟨rfl, f2, f3, f4, f5⟩ := hI
          have f2' : C.1 = d.1 := f2.1
          refine ⟨C, ?_, f2, f3, fun q hq => ?_⟩
          · unfold X12_tellSizes_b49
            dsimp only
            rw [f2', hr]
            simp (disch := omega) only [gd_pos, if_pos, if_neg, lt_pos, reduceIte]
          · by_cases c : q = k
            · subst c
              have f5' : C.2 (o + 15) q = _ := f5
              show C.2 (o + 15) q = _
              rw [f5', sm_swap]
              exact sm_congr r (fun j hj => sm_mul r)
            · exact f4 q (by omega)
      · obtain ⟨v, E⟩ := s
        obtain ⟨rfl, g2, g3, g4⟩ := hI
        have g2' : E.1 = d.1 := g2.1
        refine ⟨E, ?_, g2, g3, g4⟩
        unfold X12_tellSizes_b32
        dsimp only
        rw [g2', hr]
        simp (disch := omega) only [gd_pos, if_pos, if_neg, lt_pos, reduceIte]
      · obtain ⟨he2, he3, he4⟩ := he
        unfold X12_tellSizes_j113_24
        have hS := fun q (hq : q < 5) => szS_bd (k := q) h5 (nn9 hn) hq (hA t)
        refine lpE_evl (fun k s => s.1 = (k : Int) ∧ LK d s.2 ∧ (∀ q, q < 5 → s.2.2 (o + 14) q = pre (szA (nn d o) r t) (szN (nn d o) r (szA (nn d o) r t)) k q) ∧ ∀ q, q < r → s.2.2 (o + 15) q = szS (nn d o) r (szA (nn d o) r t) q) (fun e => LK d e ∧ ∀ q, q < 5 → e.2 (o + 14) q = szA (nn d o) r (t + 1) q) r (by omega) ⟨rfl, he2, fun q hq => by rw [pre_0]; exact he3 q hq, he4⟩ (fun k s hk hI => ?_) (fun s hI => ?_) (fun e he => ⟨_, rfl, rfl, he.1, he.2⟩)
        · obtain ⟨v, E⟩ := s
          obtain ⟨rfl, g2, g3, g4⟩ := hI
          have g2' : E.1 = d.1 := g2.1
          have g3' : ∀ q, q < 5 → E.2 (o + 14) q = pre (szA (nn d o) r t) (szN (nn d o) r (szA (nn d o) r t)) k q := g3
          have g4' : ∀ q, q < r → E.2 (o + 15) q = szS (nn d o) r (szA (nn d o) r t) q := g4
          have b0 := hS 0 (by omega)
          have bk := hS k (by omega)
          refine ⟨((k : Int) + 1, wL E (o + 14) k (szN (nn d o) r (szA (nn d o) r t) k)), ?_, rfl, g2.wL ho.1, fun q hq => ?_, fun q hq => ?_⟩
          · unfold X12_tellSizes_b115
            dsimp only
            have z0 : Int.toNat 0 = 0 := rfl
            rw [g2', hr, z0, Int.toNat_natCast, g4' 0 (by omega), g4' k hk]
            unfold lcmp9
            by_cases c : szS (nn d o) r (szA (nn d o) r t) 0 = 0
            · have : szN (nn d o) r (szA (nn d o) r t) k = 0 := by unfold szN; rw [if_pos c]
              rw [this, c]
              simp (disch := omega) only [gd_pos, if_pos, if_neg, lt_pos, reduceIte]
            · have : szN (nn d o) r (szA (nn d o) r t) k = mmin 1000000000 (szS (nn d o) r (szA (nn d o) r t) k * 1000000 / szS (nn d o) r (szA (nn d o) r t) 0) := by unfold szN; rw [if_neg c, mmin_cm]
              rw [this]
              have hq : 0 ≤ szS (nn d o) r (szA (nn d o) r t) k * 1000000 / szS (nn d o) r (szA (nn d o) r t) 0 := Int.ediv_nonneg (by omega) (by omega)
              have hq2 : szS (nn d o) r (szA (nn d o) r t) k * 1000000 / szS (nn d o) r (szA (nn d o) r t) 0 ≤ szS (nn d o) r (szA (nn d o) r t) k * 1000000 := Int.ediv_le_self _ (by omega)
              simp (disch := omega) only [gd_pos, if_pos, if_neg, lt_pos, reduceIte]
          · show (wL E (o + 14) k _).2 (o + 14) q = _
            rw [wL_at, fu_app]
            by_cases c : q = k
            · subst c; rw [if_pos rfl, pre_lt (by omega)]
            · rw [if_neg c, g3' q hq]
              by_cases c2 : q < k
              · rw [pre_lt c2, pre_lt (by omega)]
              · rw [pre_ge c2, pre_ge (by omega)]
          · show (wL E (o + 14) k _).2 (o + 15) q = _
            rw [wL_ne (by omega)]; exact g4' q hq
        · obtain ⟨v, E⟩ := s
          obtain ⟨rfl, g2, g3, g4⟩ := hI
          have g2' : E.1 = d.1 := g2.1
          refine ⟨E, ?_, g2, g3⟩
          unfold X12_tellSizes_b115
          dsimp only
          rw [g2', hr]
          simp (disch := omega) only [gd_pos, if_pos, if_neg, lt_pos, reduceIte]
    · obtain ⟨v, D⟩ := s
      obtain ⟨rfl, h2, h3⟩ := hI
      refine ⟨D, ?_, h2, h3⟩
      unfold X12_tellSizes_b24
      simp (disch := omega) only [gd_pos, if_pos, if_neg, lt_pos, reduceIte]

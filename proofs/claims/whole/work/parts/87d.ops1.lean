/-! ===== size, ways, count of both sides; the steps ===== -/
theorem Sm.lk {d d' : DA} (h : LK d d') : Sm d d' := Sm.eq h.1
theorem m_size {d : DA} {v : Int} (hv : inR v) {r : Nat} (hr : d.1 113 1 = r) (h1 : 1 ≤ r) (h5 : r ≤ 5) (hn : Nb d 113) : (kd r v → MA (X12_size 113 v d) d 0 (szA (nn d 113) r 100 v.toNat)) ∧ (¬ kd r v → MA (X12_size 113 v d) d 1 0) := by
  have hS : Sm d (wI d 113 0 0) := Sm.wI rfl
  have hr0 : (wI d 113 0 0).1 113 1 = r := hr
  have hn0 : Nb (wI d 113 0 0) 113 := hn
  have hI := x12_isKind (v := v) hr0 h5 hv
  unfold X12_size
  rw [lt_pos]
  refine ⟨fun z => ?_, fun z => ?_⟩
  · rw [b1_pos (hI.1 z), gd_pos (by omega), if_neg (by decide)]
    unfold kd at z
    obtain ⟨⟨u, d'⟩, e, e2, e3⟩ := x12_tellSizes hr0 h1 h5 hn0 ⟨by decide, by decide⟩
    have hb := szA_bd (r := r) h5 (nn9 hn) 100 v.toNat (by omega)
    have e3' : d'.2 127 (Int.toNat v) = szA (nn d 113) r 100 v.toNat := e3 v.toNat (by omega)
    rw [bd_pos e, gd_pos (by omega)]
    show MA (gd (inR (d'.2 127 (Int.toNat v))) (some (d'.2 127 (Int.toNat v), d'))) d 0 _
    rw [e3', gd_pos (by omega)]
    exact ⟨_, rfl, by rw [e2.1]; rfl, hS.tr (Sm.lk e2), e2.2⟩
  · rw [b1_pos (hI.2 z)]
    simp (disch := omega) only [gd_pos, if_pos, if_neg, lt_pos, reduceIte]
    rw [bd_pos m_fail]
    exact ⟨_, rfl, rfl, hS.tr (Sm.wI rfl), rfl⟩
def wayK (r : Nat) (a b c : Int) : Prop := kd r a ∧ kd r b ∧ 0 ≤ c ∧ c ≤ 1000
theorem c_ways {x : XS} {a b c : Int} (ha : inR a) (hb : inR b) (hc : inR c) {r : Nat} (hr : x.1.1 5 0 = r) (h5 : r ≤ 5) (hn : Nb x.1 5) : (wayK r a b c → ∃ x2, Ans (X11_ways a b c x) x 1 0 (waA (nn x.1 5) r a.toNat c.toNat b.toNat) x2 ∧ Kp x x2) ∧ (¬ wayK r a b c → Ans (X11_ways a b c x) x 1 1 0 (xT x)) := by
  have hK := x11_needKinds (x := x) hr h5 ha hb hb
  unfold X11_ways wayK
  refine ⟨fun z => ?_, fun z => ⟨Or.inr ⟨rfl, ?_⟩, Nat.le_succ _, Nat.le_add_right _ _⟩⟩
  · rw [xb_ok (hK.1 ⟨z.1, z.2.1, z.2.1⟩) ⟨Nat.le_refl _, Nat.le_refl _⟩]
    unfold kd at z
    obtain ⟨⟨w, d'⟩, e, e1, e2⟩ := x8_waysOf (i := a.toNat) (j := b.toNat) (m := c.toNat) hr h5 hn (by omega) (by omega) (by omega)
    rw [show ((a.toNat : Nat) : Int) = a by omega, show ((b.toNat : Nat) : Int) = b by omega, show ((c.toNat : Nat) : Int) = c by omega] at e
    simp (disch := omega) only [gd_pos, if_pos, if_neg, lt_pos, reduceIte]
    rw [bd_pos e]
    have e1' : w = waA (nn x.1 5) r a.toNat c.toNat b.toNat := e1
    exact ⟨xD x d', ⟨Or.inl ⟨rfl, by rw [e1']⟩, Nat.le_refl _, Nat.le_refl _⟩, Kp.D (Sm.eq e2)⟩
  · by_cases c1 : kd r a ∧ kd r b ∧ kd r b
    · rw [xb_ok (hK.1 c1) ⟨Nat.le_refl _, Nat.le_refl _⟩]
      by_cases c2 : c < 0
      · simp (disch := omega) only [gd_pos, if_pos, if_neg, lt_pos, reduceIte]
      · have : ¬ c ≤ 1000 := fun h9 => z ⟨c1.1, c1.2.1, (by omega), h9⟩
        simp (disch := omega) only [gd_pos, if_pos, if_neg, lt_pos, reduceIte]
    · rw [xb_er (hK.2 c1) ⟨Nat.le_succ _, Nat.le_add_right _ _⟩]
theorem m_ways {d : DA} {a b c : Int} (ha : inR a) (hb : inR b) (hc : inR c) {r : Nat} (hr : d.1 113 1 = r) (h5 : r ≤ 5) (hn : Nb d 113) : (wayK r a b c → MA (X12_ways 113 a b c d) d 0 (waA (nn d 113) r a.toNat c.toNat b.toNat)) ∧ (¬ wayK r a b c → MA (X12_ways 113 a b c d) d 1 0) := by
  have hS : Sm d (wI d 113 0 0) := Sm.wI rfl
  have hr0 : (wI d 113 0 0).1 113 1 = r := hr
  have hn0 : Nb (wI d 113 0 0) 113 := hn
  have h1 := x12_isKind (v := a) hr0 h5 ha
  have h2 := x12_isKind (v := b) hr0 h5 hb
  have h3 := x12_isIn (d := wI d 113 0 0) (v := c) (a := 0) (b := 1000) hc (by omega) (by omega)
  have hf : ∀ d, X12_ways_j32 113 d = some (0, wI d 113 0 1) := fun _ => rfl
  have hF : MA (some (0, wI (wI d 113 0 0) 113 0 1)) d 1 0 := ⟨_, rfl, rfl, hS.tr (Sm.wI rfl), rfl⟩
  unfold X12_ways wayK
  rw [lt_pos]
  refine ⟨fun z => ?_, fun z => ?_⟩
  · rw [b1_pos (h1.1 z.1), b1_pos (h2.1 z.2.1), b1_pos (h3.1 z.2.2)]
    unfold kd at z
    obtain ⟨⟨w, d'⟩, e, e1, e2⟩ := x12_waysOf (i := a.toNat) (j := b.toNat) (m := c.toNat) hr0 h5 hn0 ⟨by decide, by decide⟩ (by omega) (by omega) (by omega)
    rw [show ((a.toNat : Nat) : Int) = a by omega, show ((b.toNat : Nat) : Int) = b by omega, show ((c.toNat : Nat) : Int) = c by omega] at e
    simp (disch := omega) only [gd_pos, if_pos, if_neg, lt_pos, reduceIte]
    rw [e]
    have e1' : w = waA (nn d 113) r a.toNat c.toNat b.toNat := e1
    exact ⟨d', by rw [e1'], by rw [show d'.1 = _ from e2.1]; rfl, hS.tr (Sm.lk e2), e2.2⟩
  · by_cases c1 : kd r a
    · rw [b1_pos (h1.1 c1)]
      by_cases c2 : kd r b
      · rw [b1_pos (h2.1 c2)]
        rw [b1_pos (h3.2 (fun h9 => z ⟨c1, c2, h9⟩))]
        simp (disch := omega) only [gd_pos, if_pos, if_neg, lt_pos, reduceIte, hf]
        exact hF
      · rw [b1_pos (h2.2 c2)]
        simp (disch := omega) only [gd_pos, if_pos, if_neg, lt_pos, reduceIte, hf]
        exact hF
    · rw [b1_pos (h1.2 c1)]
      simp (disch := omega) only [gd_pos, if_pos, if_neg, lt_pos, reduceIte, hf]
      exact hF
/-- the step of one call -/
def Step9 (Ln : Nat) (sc : Int → Int) (k : Nat) (x : XS) : Prop := ∃ x', L_law__b23 Ln sc (8 * (k : Int)) x = some (.inl (8 * (k : Int) + 8, x')) ∧ Inv (k + 1) x'
/-- all ints of the script are ints -/
def ScR (sc : Int → Int) : Prop := ∀ j, inR (sc j)
theorem nn_eq {x : XS} {d : DA} (h6 : x.1.1 6 = x.1.1 114) (h : d.1 114 = x.1.1 114) : nn x.1 5 = nn d 113 := by
  funext i j k
  show x.1.1 6 _ = d.1 114 _
  rw [h6, h]
theorem Sm.at {x : XS} {x2 : XS} {d : DA} (h : Sm x.1 x2.1) (hd : d.1 = x2.1.1) (c j : Nat) (hr : rel c j = true) : d.1 c j = x.1.1 c j := by rw [hd]; exact h c j hr
theorem tab_of {k : Nat} {x x2 : XS} {d : DA} (h : Inv k x) (hS : Sm x.1 x2.1) (hd : d.1 = x2.1.1) : ∃ r : Nat, (1 ≤ r ∧ r ≤ 5) ∧ x.1.1 5 0 = r ∧ Nb x.1 5 ∧ d.1 113 1 = r ∧ Nb d 113 ∧ nn x.1 5 = nn d 113 ∧ TG (x.1.1 114) r ∧ x.1.1 6 = x.1.1 114 ∧ d.1 114 = x.1.1 114 := by
  obtain ⟨r, h1, h2, h3, h4, h5, h6, h7⟩ := h.tab
  have e : d.1 114 = x.1.1 114 := funext fun j => hS.at hd 114 j rfl
  refine ⟨r, h1, h2, h6, ?_, fun j hj => ?_, nn_eq h4 e, h5, h4, e⟩
  · rw [hS.at hd 113 1 rfl]; exact h3
  · show 0 ≤ d.1 114 j ∧ d.1 114 j ≤ 9
    rw [e]; exact h7 j hj
theorem st_2 {Ln k : Nat} {sc : Int → Int} {x : XS} (h : Inv k x) (hk : k < 512) (h0 : 0 ≤ 8 * (k : Int) ∧ 8 * (k : Int) + 8 ≤ (Ln : Int)) (hL : Ln ≤ 4096) (hop : iand9 (sc (8 * (k : Int))) 31 = 2) : Step9 Ln sc k x := by
  obtain ⟨-, r, p, m, D, U, tp, kr, la, -, -, ⟨-, -, -, -, e1, e2, e3⟩, -⟩ := id h
  have e1' : x.1.1 1 8 = x.1.1 113 30 := e1
  have e2' : -1 ≤ x.1.1 113 30 := e2
  have e3' : x.1.1 113 30 ≤ 400 := e3
  unfold Step9
  rw [br_2 h0 hL hop, b1_pos (show X11_fault 1 x.1 = some (x.1.1 1 8) from rfl), bd_pos (show X12_fault 113 x.1 = some (x.1.1 113 30, wI x.1 113 0 0) from rfl), lt_pos, e1', gd_pos (by omega), if_pos rfl]
  exact ⟨_, rfl, h.mono hk (Kp.rf x) (Sm.wI rfl)⟩
theorem st_7 {Ln k : Nat} {sc : Int → Int} {x : XS} (h : Inv k x) (hk : k < 512) (h0 : 0 ≤ 8 * (k : Int) ∧ 8 * (k : Int) + 8 ≤ (Ln : Int)) (hL : Ln ≤ 4096) (hsc : ScR sc) (hop : iand9 (sc (8 * (k : Int))) 31 = 7) : Step9 Ln sc k x := by
  unfold Step9
  rw [br_7 h0 hL hop]
  simp only [gd_pos (show ix (8 * (k : Int) + 1) Ln from (by omega)), gd_pos (show ix (8 * (k : Int) + 2) Ln from (by omega)), gd_pos (show ix (8 * (k : Int) + 3) Ln from (by omega))]
  obtain ⟨r, h1, h2, -, -, -, h6, -⟩ := h.tab
  have hC := c_fuses (x := x) h (hsc (8 * (k : Int) + 1)) (hsc (8 * (k : Int) + 2)) (hsc (8 * (k : Int) + 3)) h2 h1.2 h6
  by_cases c : kd r (sc (8 * (k : Int) + 1)) ∧ kd r (sc (8 * (k : Int) + 2)) ∧ kd r (sc (8 * (k : Int) + 3))
  · have hb := h6.at (i := (sc (8 * (k : Int) + 1)).toNat) (j := (sc (8 * (k : Int) + 2)).toNat) (k := (sc (8 * (k : Int) + 3)).toNat) (by unfold kd at c; omega) (by unfold kd at c; omega) (by unfold kd at c; omega)
    refine both (f := fun x => L_law__j563_23 Ln sc (8 * (k : Int)) x) h hk (hC.1 c) (by omega) (Kp.rf x) (Or.inl rfl) (w := nn x.1 5 (sc (8 * (k : Int) + 1)).toNat (sc (8 * (k : Int) + 2)).toNat (sc (8 * (k : Int) + 3)).toNat) (by omega) (fun _ => rfl) (fun d hd => ?_)
    obtain ⟨r', g1, g2, -, g4, g5, g6, -⟩ := tab_of h (Sm.rf x.1) hd
    have : r' = r := by omega
    subst this
    rw [g6]
    exact (m_fuses (hsc _) (hsc _) (hsc _) g4 h1.2 g5).1 c
  · refine both (f := fun x => L_law__j563_23 Ln sc (8 * (k : Int)) x) h hk (hC.2 c) (by omega) (Kp.T x) (Or.inr rfl) (w := 0) (by omega) (fun h9 => by omega) (fun d hd => ?_)
    obtain ⟨r', g1, g2, -, g4, g5, g6, -⟩ := tab_of h (x2 := xT x) (Sm.rf x.1) hd
    have : r' = r := by omega
    subst this
    exact (m_fuses (hsc _) (hsc _) (hsc _) g4 h1.2 g5).2 c

/-! ===== steps: law, dual, size, ways ===== -/
theorem st_8 {Ln k : Nat} {sc : Int → Int} {x : XS} (h : Inv k x) (hk : k < 512) (h0 : 0 ≤ 8 * (k : Int) ∧ 8 * (k : Int) + 8 ≤ (Ln : Int)) (hL : Ln ≤ 4096) (hsc : ScR sc) (hop : iand9 (sc (8 * (k : Int))) 31 = 8) : Step9 Ln sc k x := by
  unfold Step9
  rw [br_8 h0 hL hop]
  simp only [gd_pos (show ix (8 * (k : Int) + 1) Ln from (by omega))]
  obtain ⟨r, h1, h2, -, -, -, h6, -⟩ := h.tab
  have hC := c_law (x := x) (hsc (8 * (k : Int) + 1)) h2 h1.2 h6
  by_cases c : 0 ≤ (sc (8 * (k : Int) + 1)) ∧ (sc (8 * (k : Int) + 1)) ≤ 3
  · obtain ⟨x2, hA, hK⟩ := hC.1 c
    have hb : -1 ≤ lawV x.1 5 r (sc (8 * (k : Int) + 1)) ∧ lawV x.1 5 r (sc (8 * (k : Int) + 1)) ≤ 1000000007 := by
      have := lawV_bd (d := x.1) (o := 5) (r := r) (v := (sc (8 * (k : Int) + 1))) h1.2
      omega
    refine both (f := fun x => L_law__j619_23 Ln sc (8 * (k : Int)) x) h hk hA (by omega) hK (Or.inl rfl) (w := lawV x.1 5 r (sc (8 * (k : Int) + 1))) (by omega) (fun _ => rfl) (fun d hd => ?_)
    obtain ⟨r', g1, g2, -, g4, g5, g6, -⟩ := tab_of h hK.1 hd
    have : r' = r := by omega
    subst this
    rw [lawV_eq g6]
    exact (m_law (hsc _) g4 h1.2 g5).1 c
  · refine both (f := fun x => L_law__j619_23 Ln sc (8 * (k : Int)) x) h hk (hC.2 c) (by omega) (Kp.T x) (Or.inr rfl) (w := 0) (by omega) (fun h9 => by omega) (fun d hd => ?_)
    obtain ⟨r', g1, g2, -, g4, g5, g6, -⟩ := tab_of h (x2 := xT x) (Sm.rf x.1) hd
    have : r' = r := by omega
    subst this
    exact (m_law (hsc _) g4 h1.2 g5).2 c
theorem st_9 {Ln k : Nat} {sc : Int → Int} {x : XS} (h : Inv k x) (hk : k < 512) (h0 : 0 ≤ 8 * (k : Int) ∧ 8 * (k : Int) + 8 ≤ (Ln : Int)) (hL : Ln ≤ 4096) (hsc : ScR sc) (hop : iand9 (sc (8 * (k : Int))) 31 = 9) : Step9 Ln sc k x := by
  unfold Step9
  rw [br_9 h0 hL hop]
  simp only [gd_pos (show ix (8 * (k : Int) + 1) Ln from (by omega))]
  obtain ⟨r, h1, h2, -, -, -, h6, -⟩ := h.tab
  have hC := c_dual (x := x) (hsc (8 * (k : Int) + 1)) h2 h1.2 h6
  by_cases c : kd r (sc (8 * (k : Int) + 1))
  · obtain ⟨x2, hA, hK⟩ := hC.1 c
    have hb : -1 ≤ dualV x.1 5 r (sc (8 * (k : Int) + 1)) ∧ dualV x.1 5 r (sc (8 * (k : Int) + 1)) ≤ 1000000007 := by
      have := dualV_bd (d := x.1) (o := 5) (r := r) (v := (sc (8 * (k : Int) + 1)))
      omega
    refine both (f := fun x => L_law__j675_23 Ln sc (8 * (k : Int)) x) h hk hA (by omega) hK (Or.inl rfl) (w := dualV x.1 5 r (sc (8 * (k : Int) + 1))) (by omega) (fun _ => rfl) (fun d hd => ?_)
    obtain ⟨r', g1, g2, -, g4, g5, g6, -⟩ := tab_of h hK.1 hd
    have : r' = r := by omega
    subst this
    rw [dualV_eq g6]
    exact (m_dual (hsc _) g4 h1.2 g5).1 c
  · refine both (f := fun x => L_law__j675_23 Ln sc (8 * (k : Int)) x) h hk (hC.2 c) (by omega) (Kp.T x) (Or.inr rfl) (w := 0) (by omega) (fun h9 => by omega) (fun d hd => ?_)
    obtain ⟨r', g1, g2, -, g4, g5, g6, -⟩ := tab_of h (x2 := xT x) (Sm.rf x.1) hd
    have : r' = r := by omega
    subst this
    exact (m_dual (hsc _) g4 h1.2 g5).2 c
theorem st_10 {Ln k : Nat} {sc : Int → Int} {x : XS} (h : Inv k x) (hk : k < 512) (h0 : 0 ≤ 8 * (k : Int) ∧ 8 * (k : Int) + 8 ≤ (Ln : Int)) (hL : Ln ≤ 4096) (hsc : ScR sc) (hop : iand9 (sc (8 * (k : Int))) 31 = 10) : Step9 Ln sc k x := by
  unfold Step9
  rw [br_10 h0 hL hop]
  simp only [gd_pos (show ix (8 * (k : Int) + 1) Ln from (by omega))]
  obtain ⟨r, h1, h2, -, -, -, h6, -⟩ := h.tab
  have hC := c_size (x := x) (hsc (8 * (k : Int) + 1)) h2 h1.1 h1.2 h6
  by_cases c : kd r (sc (8 * (k : Int) + 1))
  · obtain ⟨x2, hA, hK⟩ := hC.1 c
    have hb : -1 ≤ szA (nn x.1 5) r 100 (sc (8 * (k : Int) + 1)).toNat ∧ szA (nn x.1 5) r 100 (sc (8 * (k : Int) + 1)).toNat ≤ 1000000007 := by
      have := szA_bd (r := r) h1.2 (nn9 h6) 100 (sc (8 * (k : Int) + 1)).toNat (by unfold kd at c; omega)
      omega
    refine both (f := fun x => L_law__j731_23 Ln sc (8 * (k : Int)) x) h hk hA (by omega) hK (Or.inl rfl) (w := szA (nn x.1 5) r 100 (sc (8 * (k : Int) + 1)).toNat) (by omega) (fun _ => rfl) (fun d hd => ?_)
    obtain ⟨r', g1, g2, -, g4, g5, g6, -⟩ := tab_of h hK.1 hd
    have : r' = r := by omega
    subst this
    rw [g6]
    exact (m_size (hsc _) g4 h1.1 h1.2 g5).1 c
  · refine both (f := fun x => L_law__j731_23 Ln sc (8 * (k : Int)) x) h hk (hC.2 c) (by omega) (Kp.T x) (Or.inr rfl) (w := 0) (by omega) (fun h9 => by omega) (fun d hd => ?_)
    obtain ⟨r', g1, g2, -, g4, g5, g6, -⟩ := tab_of h (x2 := xT x) (Sm.rf x.1) hd
    have : r' = r := by omega
    subst this
    exact (m_size (hsc _) g4 h1.1 h1.2 g5).2 c
theorem st_11 {Ln k : Nat} {sc : Int → Int} {x : XS} (h : Inv k x) (hk : k < 512) (h0 : 0 ≤ 8 * (k : Int) ∧ 8 * (k : Int) + 8 ≤ (Ln : Int)) (hL : Ln ≤ 4096) (hsc : ScR sc) (hop : iand9 (sc (8 * (k : Int))) 31 = 11) : Step9 Ln sc k x := by
  unfold Step9
  rw [br_11 h0 hL hop]
  simp only [gd_pos (show ix (8 * (k : Int) + 1) Ln from (by omega)), gd_pos (show ix (8 * (k : Int) + 2) Ln from (by omega)), gd_pos (show ix (8 * (k : Int) + 3) Ln from (by omega))]
  obtain ⟨r, h1, h2, -, -, -, h6, -⟩ := h.tab
  have hC := c_ways (x := x) (hsc (8 * (k : Int) + 1)) (hsc (8 * (k : Int) + 2)) (hsc (8 * (k : Int) + 3)) h2 h1.2 h6
  by_cases c : wayK r (sc (8 * (k : Int) + 1)) (sc (8 * (k : Int) + 2)) (sc (8 * (k : Int) + 3))
  · obtain ⟨x2, hA, hK⟩ := hC.1 c
    have hb : -1 ≤ waA (nn x.1 5) r (sc (8 * (k : Int) + 1)).toNat (sc (8 * (k : Int) + 3)).toNat (sc (8 * (k : Int) + 2)).toNat ∧ waA (nn x.1 5) r (sc (8 * (k : Int) + 1)).toNat (sc (8 * (k : Int) + 3)).toNat (sc (8 * (k : Int) + 2)).toNat ≤ 1000000007 := by
      have := waA_bd (n := nn x.1 5) (r := r) (i := (sc (8 * (k : Int) + 1)).toNat) (sc (8 * (k : Int) + 3)).toNat (sc (8 * (k : Int) + 2)).toNat
      omega
    refine both (f := fun x => L_law__j811_23 Ln sc (8 * (k : Int)) x) h hk hA (by omega) hK (Or.inl rfl) (w := waA (nn x.1 5) r (sc (8 * (k : Int) + 1)).toNat (sc (8 * (k : Int) + 3)).toNat (sc (8 * (k : Int) + 2)).toNat) (by omega) (fun _ => rfl) (fun d hd => ?_)
    obtain ⟨r', g1, g2, -, g4, g5, g6, -⟩ := tab_of h hK.1 hd
    have : r' = r := by omega
    subst this
    rw [g6]
    exact (m_ways (hsc _) (hsc _) (hsc _) g4 h1.2 g5).1 c
  · refine both (f := fun x => L_law__j811_23 Ln sc (8 * (k : Int)) x) h hk (hC.2 c) (by omega) (Kp.T x) (Or.inr rfl) (w := 0) (by omega) (fun h9 => by omega) (fun d hd => ?_)
    obtain ⟨r', g1, g2, -, g4, g5, g6, -⟩ := tab_of h (x2 := xT x) (Sm.rf x.1) hd
    have : r' = r := by omega
    subst this
    exact (m_ways (hsc _) (hsc _) (hsc _) g4 h1.2 g5).2 c

/-! ===== field ===== -/
def R9 (v : Nat) : Nat := if v < 4 then 0 else if v < 9 then 1 else if v < 16 then 2 else if v < 25 then 3 else 4
theorem R9_a : ∀ v, v < 32 → 2 ≤ v → (∀ i, i < R9 v → (i + 2) * (i + 2) ≤ v) ∧ v < (R9 v + 2) * (R9 v + 2) ∧ R9 v ≤ 4 := by decide
theorem R9_b : ∀ v, v < 32 → 2 ≤ v → (v ∈ [2, 3, 5, 7, 11, 13, 17, 19, 23, 29, 31] ↔ ∀ i, i < R9 v → v % (i + 2) ≠ 0) := by decide
theorem R9_c : ∀ v, v < 32 → 2 ≤ v → (v ∈ [2, 3, 5, 7, 11, 13, 17, 19, 23, 29, 31] ↔ ∀ i, i < v - 2 → v % (i + 2) ≠ 0) := by decide
def pz (v i : Nat) : Option Int := if v % (i + 2) = 0 then some 0 else none
theorem pz_yes {v n : Nat} (h : ∀ i, i < n → v % (i + 2) ≠ 0) : fs9 n (pz v) = none := (fs9_none n).mpr (fun i hi => by unfold pz; rw [if_neg (h i hi)])
theorem pz_no {v n : Nat} (h : ¬ ∀ i, i < n → v % (i + 2) ≠ 0) : fs9 n (pz v) = some 0 := by
  cases hf : fs9 n (pz v) with
  | none => exact absurd (fun i hi => by
      have := (fs9_none n).mp hf i hi
      unfold pz at this
      intro e
      rw [if_pos e] at this
      cases this) h
  | some z =>
    obtain ⟨i, -, h2, -⟩ := (fs9_some n).mp hf
    unfold pz at h2
    by_cases c : v % (i + 2) = 0
    · rw [if_pos c] at h2; rw [← h2]
    · rw [if_neg c] at h2; cases h2
theorem tm9 {v i : Nat} : Int.tmod (v : Int) ((i : Int) + 2) = ((v % (i + 2) : Nat) : Int) := by
  rw [show (i : Int) + 2 = ((i + 2 : Nat) : Int) by omega, Int.tmod_eq_emod_of_nonneg (by omega)]; omega
theorem x3_isPrime {d : DA} {v : Nat} (h1 : 2 ≤ v) (h2 : v ≤ 31) : (PG v → X3_isPrime (v : Int) d = some 1) ∧ (¬ PG v → X3_isPrime (v : Int) d = some 0) := by
  obtain ⟨a1, a2, a3⟩ := R9_a v (by omega) h1
  have key : X3_isPrime (v : Int) d = (fs9 (R9 v) (pz v)).elim (some 1) (fun r => some r) := by
    unfold X3_isPrime
    rw [gd_pos (by omega), if_neg (by omega), gd_pos (by omega), if_pos (by omega)]
    refine lpR_for (fun i => ((i : Int) + 2)) (R9 v) (pz v) () rfl (by omega) (fun i hi _ => ?_) (fun _ => ?_)
    · show X3_isPrime_b15 (v : Int) ((i : Int) + 2) d = _
      have hs := a1 i hi
      have hs' : ((i : Int) + 2) * ((i : Int) + 2) ≤ (v : Int) := by
        have : (((i + 2) * (i + 2) : Nat) : Int) ≤ (v : Int) := by omega
        rw [Int.natCast_mul] at this
        exact this
      have hs0 : 0 ≤ ((i : Int) + 2) * ((i : Int) + 2) := Int.mul_nonneg (by omega) (by omega)
      have hml := Nat.mod_le v (i + 2)
      unfold X3_isPrime_b15 pz
      generalize ((i : Int) + 2) * ((i : Int) + 2) = sq at hs' hs0
      rw [tm9, gd_pos (by omega), if_neg (by omega), gd_pos (by unfold dvg; omega), gd_pos (by omega)]
      by_cases c : v % (i + 2) = 0
      · rw [if_pos (by omega), if_pos c]; rfl
      · rw [if_neg (by omega), if_neg c, show (i : Int) + 2 + 1 = ((i + 1 : Nat) : Int) + 2 by omega]; rfl
    · show X3_isPrime_b15 (v : Int) ((R9 v : Int) + 2) d = _
      have hs' : (v : Int) < ((R9 v : Int) + 2) * ((R9 v : Int) + 2) := by
        have : (v : Int) < (((R9 v + 2) * (R9 v + 2) : Nat) : Int) := by omega
        rw [Int.natCast_mul] at this
        exact this
      have hs1 : ((R9 v : Int) + 2) * ((R9 v : Int) + 2) ≤ 6 * 6 := Int.mul_le_mul (by omega) (by omega) (by omega) (by omega)
      unfold X3_isPrime_b15
      generalize ((R9 v : Int) + 2) * ((R9 v : Int) + 2) = sq at hs' hs1
      rw [gd_pos (by omega), if_pos hs']
  rw [key]
  refine ⟨fun h => ?_, fun h => ?_⟩
  · rw [pz_yes ((R9_b v (by omega) h1).mp h)]; rfl
  · rw [pz_no (fun z => h ((R9_b v (by omega) h1).mpr z))]; rfl
theorem x12_isPrime {d : DA} {v : Nat} (h1 : 2 ≤ v) (h2 : v ≤ 31) : (PG v → X12_isPrime (v : Int) d = some 1) ∧ (¬ PG v → X12_isPrime (v : Int) d = some 0) := by
  have key : X12_isPrime (v : Int) d = (fs9 (v - 2) (pz v)).elim (X12_isPrime_j21 (v : Int) d) (fun r => some r) := by
    unfold X12_isPrime
    refine lpR_for (fun i => ((i : Int) + 2)) (v - 2) (pz v) () rfl (by omega) (fun i hi _ => ?_) (fun _ => ?_)
    · show X12_isPrime_b2 (v : Int) ((i : Int) + 2) d = _
      have hml := Nat.mod_le v (i + 2)
      unfold X12_isPrime_b2 pz
      rw [tm9, gd_pos (by omega), if_neg (by omega), gd_pos (by unfold dvg; omega), gd_pos (by omega)]
      by_cases c : v % (i + 2) = 0
      · rw [if_pos (by omega), if_pos c]; rfl
      · rw [if_neg (by omega), if_neg c, show (i : Int) + 2 + 1 = ((i + 1 : Nat) : Int) + 2 by omega]; rfl
    · show X12_isPrime_b2 (v : Int) (((v - 2 : Nat) : Int) + 2) d = _
      unfold X12_isPrime_b2
      rw [gd_pos (by omega), if_pos (by omega)]
  rw [key]
  refine ⟨fun h => ?_, fun h => ?_⟩
  · rw [pz_yes ((R9_c v (by omega) h1).mp h)]
    show X12_isPrime_j21 (v : Int) d = some 1
    unfold X12_isPrime_j21
    rw [gd_pos (by omega), if_neg (by omega)]
  · rw [pz_no (fun z => h ((R9_c v (by omega) h1).mpr z))]; rfl
theorem st_14 {Ln k : Nat} {sc : Int → Int} {x : XS} (h : Inv k x) (hk : k < 512) (h0 : 0 ≤ 8 * (k : Int) ∧ 8 * (k : Int) + 8 ≤ (Ln : Int)) (hL : Ln ≤ 4096) (hsc : ScR sc) (hop : iand9 (sc (8 * (k : Int))) 31 = 14) : Step9 Ln sc k x := by
  unfold Step9
  rw [br_14 h0 hL hop]
  simp only [gd_pos (show ix (8 * (k : Int) + 1) Ln from (by omega))]
  have hv := hsc (8 * (k : Int) + 1)
  generalize sc (8 * (k : Int) + 1) = v at hv
  by_cases c : ∃ p : Nat, v = p ∧ PG p
  · obtain ⟨p, rfl, hp⟩ := c
    have hb := hp.bd
    obtain ⟨r, t5, t1, t2, t3, t4, n5, -⟩ := h.tab
    obtain ⟨tp, y1, y2, y3, y4, y5, y6, y7⟩ := h.tp
    have b2 : (wI x.1 2 5 (p : Int)).1 2 = fu (x.1.1 2) 5 (p : Int) := wI_at
    obtain ⟨⟨u, Q⟩, e1, qo, q58, q2, q59⟩ := x3_begin (d := wI x.1 2 5 (p : Int)) hp
    have qo' : ∀ c, c ≠ 2 → c ≠ 58 → c ≠ 59 → Q.1 c = x.1.1 c := fun c z1 z2 z3 => by
      have : Q.1 c = (wI x.1 2 5 (p : Int)).1 c := qo c z2 z3
      rw [this, wI_ne z1]
    have q2' : Q.1 2 = fu (x.1.1 2) 5 (p : Int) := (qo 2 (by decide) (by decide)).trans b2
    have q58' : Q.1 58 0 = p := by
      have : Q.1 58 = fu ((wI x.1 2 5 (p : Int)).1 58) 0 (p : Int) := q58
      rw [this, fu_s]
    have Q5 : Q.1 5 0 = r := by rw [qo' 5 (by decide) (by decide) (by decide)]; exact t1
    have QN : Nb Q 5 := fun j hj => by show 0 ≤ Q.1 6 j ∧ Q.1 6 j ≤ 9; rw [qo' 6 (by decide) (by decide) (by decide)]; exact n5 j hj
    obtain ⟨⟨u2, G⟩, e2, hF⟩ := x11_begin Q5 t5.2 QN
    have hF' : Fgt Q G r := hF
    have eX : X11_field (p : Int) x = some (.inl (), xD (xD (xD x (wI x.1 2 5 (p : Int))) Q) G) := by
      unfold X11_field
      rw [b1_pos ((x3_isPrime hb.1 hb.2).1 hp), gd_pos (by omega), if_neg (by decide), lt_pos, lt_pos]
      have e1' : X3_begin 58 (p : Int) (xD x (wI x.1 2 5 (p : Int))).1 = some (u, Q) := e1
      rw [bd_pos e1', lt_pos]
      have e2' : X11_beginAgain 1 (xD (xD x (wI x.1 2 5 (p : Int))) Q).1 = some (u2, G) := e2
      rw [bd_pos e2', lt_pos]
    have eL : L_field (p : Int) x = some (0, xD (xD (xD x (wI x.1 2 5 (p : Int))) Q) G) := by
      unfold L_field
      rw [xb_ok (x := x) eX ⟨Nat.le_refl _, Nat.le_refl _⟩]
    rw [bd_pos eL, gd_pos ⟨Nat.le_refl _, Nat.le_refl _⟩]
    obtain ⟨⟨u3, F⟩, e3, hR⟩ := x12_fresh (d := wI (wI G 113 0 0) 113 4 (p : Int))
    have eM : X12_field 113 (p : Int) G = some ((), F) := by
      unfold X12_field
      have hI := x12_isIn (d := wI G 113 0 0) (v := (p : Int)) (a := 2) (b := 31) (by omega) (by omega) (by omega)
      rw [lt_pos, b1_pos (hI.1 (by omega)), gd_pos (by omega), if_neg (by decide), b1_pos ((x12_isPrime hb.1 hb.2).1 hp), gd_pos (by omega), if_neg (by decide), lt_pos, bd_pos e3]
    obtain ⟨a1, a2, ⟨a3, a4⟩, a5, a6, ⟨a7, a8⟩, a9, a10, a11, a12⟩ := hF'
    obtain ⟨r1, r2, ⟨r3, r4, r5, r6⟩, r7, r8, r9⟩ := hR
    have f113 : ∀ j, j ≠ 0 → j ≠ 4 → j ≠ 13 → j ≠ 18 → j ≠ 19 → relL.contains j = true → F.1 113 j = x.1.1 113 j := fun j z0 z1 z2 z3 z4 zr => by
      have : F.1 113 j = (wI (wI G 113 0 0) 113 4 (p : Int)).1 113 j := r6 j z2 z3 z4
      rw [this, wI_at, fu_n z1, wI_at, fu_n z0, a1 113 j zr (by decide) (by decide) (by decide) (by decide) (by decide) (by decide) (by decide) (by decide) (by decide), qo' 113 (by decide) (by decide) (by decide)]
    have f0 : F.1 113 0 = 0 := by
      have : F.1 113 0 = (wI (wI G 113 0 0) 113 4 (p : Int)).1 113 0 := r6 0 (by decide) (by decide) (by decide)
      rw [this]; rfl
    have f4 : F.1 113 4 = p := by
      have : F.1 113 4 = (wI (wI G 113 0 0) 113 4 (p : Int)).1 113 4 := r6 4 (by decide) (by decide) (by decide)
      rw [this]; rfl
    have fG : ∀ c j, c ≠ 113 → c ≠ 117 → c ≠ 118 → c ≠ 119 → F.1 c j = G.1 c j := fun c j z1 z2 z3 z4 => by
      have : F.1 c j = (wI (wI G 113 0 0) 113 4 (p : Int)).1 c j := r1 c j z1 z2 z3 z4
      rw [this, wI_ne z1, wI_ne z1]
    have fx : ∀ c j, rel c j = true → c ≠ 113 → c ≠ 117 → c ≠ 118 → c ≠ 119 → c ≠ 2 → c ≠ 3 → c ≠ 12 → c ≠ 13 → c ≠ 54 → c ≠ 61 → c ≠ 68 → c ≠ 69 → c ≠ 81 → c ≠ 58 → c ≠ 59 → F.1 c j = x.1.1 c j := fun c j hr y1 y2 y3 y4 z1 z2 z3 z4 z5 z6 z7 z8 z9 w1 w2 => by
      rw [fG c j y1 y2 y3 y4, a1 c j hr z1 z2 z3 z4 z5 z6 z7 z8 z9, qo' c z1 w1 w2]
    have fw : ∀ c, (∀ j, rel c j = true) → c ≠ 113 → c ≠ 117 → c ≠ 118 → c ≠ 119 → c ≠ 2 → c ≠ 3 → c ≠ 12 → c ≠ 13 → c ≠ 54 → c ≠ 61 → c ≠ 68 → c ≠ 69 → c ≠ 81 → c ≠ 58 → c ≠ 59 → F.1 c = x.1.1 c := fun c hr y1 y2 y3 y4 z1 z2 z3 z4 z5 z6 z7 z8 z9 w1 w2 => funext fun j => fx c j (hr j) y1 y2 y3 y4 z1 z2 z3 z4 z5 z6 z7 z8 z9 w1 w2
    have f2 : ∀ j, j ≠ 4 → F.1 2 j = fu (x.1.1 2) 5 (p : Int) j := fun j z => by rw [fG 2 j (by decide) (by decide) (by decide) (by decide), a4 j z, q2']
    have g6 : F.1 6 = x.1.1 6 := fw 6 (fun _ => rfl) (by decide) (by decide) (by decide) (by decide) (by decide) (by decide) (by decide) (by decide) (by decide) (by decide) (by decide) (by decide) (by decide) (by decide) (by decide)
    have g114 : F.1 114 = x.1.1 114 := fw 114 (fun _ => rfl) (by decide) (by decide) (by decide) (by decide) (by decide) (by decide) (by decide) (by decide) (by decide) (by decide) (by decide) (by decide) (by decide) (by decide) (by decide)
    have g1 : F.1 1 = x.1.1 1 := fw 1 (fun _ => rfl) (by decide) (by decide) (by decide) (by decide) (by decide) (by decide) (by decide) (by decide) (by decide) (by decide) (by decide) (by decide) (by decide) (by decide) (by decide)
    have g44 : F.1 44 = x.1.1 44 := fw 44 (fun _ => rfl) (by decide) (by decide) (by decide) (by decide) (by decide) (by decide) (by decide) (by decide) (by decide) (by decide) (by decide) (by decide) (by decide) (by decide) (by decide)
    have g126 : F.1 126 = x.1.1 126 := fw 126 (fun _ => rfl) (by decide) (by decide) (by decide) (by decide) (by decide) (by decide) (by decide) (by decide) (by decide) (by decide) (by decide) (by decide) (by decide) (by decide) (by decide)
    have g12 : F.1 12 = G.1 12 := funext fun j => fG 12 j (by decide) (by decide) (by decide) (by decide)
    have g13 : F.1 13 = G.1 13 := funext fun j => fG 13 j (by decide) (by decide) (by decide) (by decide)
    have eM' : X12_field 113 (p : Int) (xD (xD (xD x (wI x.1 2 5 (p : Int))) Q) G).1 = some ((), F) := eM
    rw [bd_pos eM', lt_pos, b1_pos (show X12_thrown 113 (xD (xD (xD (xD x (wI x.1 2 5 (p : Int))) Q) G) F).1 = some (F.1 113 0) from rfl), f0, gd_pos (by omega), if_pos rfl]
    refine ⟨_, rfl, ?_⟩
    refine h.newT (x' := xD (xD (xD (xD x (wI x.1 2 5 (p : Int))) Q) G) F) (r := r) (p := p) (tp := tp) hk ⟨fun c j hr hc => ?_, ⟨?_, ?_, ?_, ?_, f113 2 (by decide) (by decide) (by decide) (by decide) (by decide) rfl, f113 33 (by decide) (by decide) (by decide) (by decide) (by decide) rfl, f113 34 (by decide) (by decide) (by decide) (by decide) (by decide) rfl, f113 35 (by decide) (by decide) (by decide) (by decide) (by decide) rfl, f113 76 (by decide) (by decide) (by decide) (by decide) (by decide) rfl, f113 77 (by decide) (by decide) (by decide) (by decide) (by decide) rfl, f113 78 (by decide) (by decide) (by decide) (by decide) (by decide) rfl, f113 79 (by decide) (by decide) (by decide) (by decide) (by decide) rfl⟩, ⟨?_, ?_, ?_, ?_⟩, ⟨?_, f4, hp, ?_, fun j j1 j2 => ?_⟩, ⟨?_, fun j hj => ?_, fun h3 => ?_, ?_, ?_, ?_, ?_, fun j hj => ?_, ?_⟩, r3, r4, r5, r7, r8, r9⟩ ⟨?_, ?_, y3, fun j hj => ?_, ?_, ?_, ?_⟩ ⟨rfl, rfl, h.z.2.2.2.1, h.z.2.2.2.2.1⟩ ⟨by show xc x ≤ _; omega, by show xs x ≤ _; omega⟩
    · have ne : ∀ a, chL9.contains a = true → c ≠ a := fun a ha e => by rw [e, ha] at hc; cases hc
      exact fx c j hr (ne 113 rfl) (ne 117 rfl) (ne 118 rfl) (ne 119 rfl) (ne 2 rfl) (ne 3 rfl) (ne 12 rfl) (ne 13 rfl) (ne 54 rfl) (ne 61 rfl) (ne 68 rfl) (ne 69 rfl) (ne 81 rfl) (ne 58 rfl) (ne 59 rfl)
    · show F.1 1 2 = _
      rw [g1]
    · show F.1 1 4 = _
      rw [g1]
    · show F.1 2 6 = _
      rw [f2 6 (by decide)]; rfl
    · show F.1 2 7 = _
      rw [f2 7 (by decide)]; rfl
    · show F.1 5 0 = r
      rw [fx 5 0 rfl (by decide) (by decide) (by decide) (by decide) (by decide) (by decide) (by decide) (by decide) (by decide) (by decide) (by decide) (by decide) (by decide) (by decide) (by decide)]; exact t1
    · show F.1 113 1 = r
      rw [f113 1 (by decide) (by decide) (by decide) (by decide) (by decide) rfl]; exact t2
    · show F.1 6 = F.1 114
      rw [g6, g114]; exact t3
    · show TG (F.1 114) r
      rw [g114]; exact t4
    · show F.1 2 5 = p
      rw [f2 5 (by decide)]; rfl
    · show F.1 58 0 = p
      rw [fG 58 0 (by decide) (by decide) (by decide) (by decide), a1 58 0 rfl (by decide) (by decide) (by decide) (by decide) (by decide) (by decide) (by decide) (by decide) (by decide), q58']
    · show (1 ≤ F.1 59 j ∧ F.1 59 j < p) ∧ (p : Int) ∣ (j : Int) * F.1 59 j - 1
      rw [fG 59 j (by decide) (by decide) (by decide) (by decide), a1 59 j rfl (by decide) (by decide) (by decide) (by decide) (by decide) (by decide) (by decide) (by decide) (by decide)]
      exact q59 j j1 j2
    · show F.1 2 4 = 0
      rw [fG 2 4 (by decide) (by decide) (by decide) (by decide)]; exact a3
    · show F.1 3 j = 1
      rw [fG 3 j (by decide) (by decide) (by decide) (by decide)]; exact a5 j hj
    · show TrB (F.1 6) r 27 (F.1 12) (F.1 13)
      rw [g6, g12, g13, ← qo' 6 (by decide) (by decide) (by decide)]
      exact a6 h3
    · show F.1 54 3 = 0
      rw [fG 54 3 (by decide) (by decide) (by decide) (by decide)]; exact a7
    · show F.1 54 4 = 0
      rw [fG 54 4 (by decide) (by decide) (by decide) (by decide)]; exact a8
    · show F.1 61 0 = 0
      rw [fG 61 0 (by decide) (by decide) (by decide) (by decide)]; exact a9
    · show F.1 68 2 = 0
      rw [fG 68 2 (by decide) (by decide) (by decide) (by decide)]; exact a10
    · show F.1 69 j = -1
      rw [fG 69 j (by decide) (by decide) (by decide) (by decide)]; exact a11 j hj
    · show F.1 81 0 = 0
      rw [fG 81 0 (by decide) (by decide) (by decide) (by decide)]; exact a12
    · show F.1 1 7 = tp
      rw [g1]; exact y1
    · show F.1 113 21 = tp
      rw [f113 21 (by decide) (by decide) (by decide) (by decide) (by decide) rfl]; exact y2
    · show F.1 44 j = F.1 126 j ∧ 0 ≤ F.1 126 j ∧ F.1 126 j ≤ 255
      rw [g44, g126]; exact y4 j hj
    · show F.1 1 8 = F.1 113 30
      rw [g1, f113 30 (by decide) (by decide) (by decide) (by decide) (by decide) rfl]; exact y5
    · show -1 ≤ F.1 113 30
      rw [f113 30 (by decide) (by decide) (by decide) (by decide) (by decide) rfl]; exact y6
    · show F.1 113 30 ≤ 400
      rw [f113 30 (by decide) (by decide) (by decide) (by decide) (by decide) rfl]; exact y7
  · have eP : X3_isPrime v x.1 = some 0 := by
      by_cases c1 : 2 ≤ v ∧ v ≤ 31
      · obtain ⟨w, rfl⟩ : ∃ w : Nat, v = w := ⟨v.toNat, by omega⟩
        exact (x3_isPrime (v := w) (by omega) (by omega)).2 (fun z => c ⟨w, rfl, z⟩)
      · unfold X3_isPrime
        by_cases c2 : v < 2
        · rw [gd_pos (by omega), if_pos c2]
        · rw [gd_pos (by omega), if_neg c2, gd_pos (by omega), if_neg (by omega)]
    have eL : L_field v x = some (1, xT x) := by
      unfold L_field
      have eX : X11_field v x = some (.inr 0, xT x) := by
        unfold X11_field
        rw [b1_pos eP, gd_pos (by omega), if_pos rfl]
      rw [xb_er eX ⟨by show xc x ≤ xc x + 1; omega, by show xs x ≤ xs x + 6; omega⟩, gd_pos rfl]
    rw [bd_pos eL, gd_pos ⟨by show xc x ≤ xc x + 1; omega, by show xs x ≤ xs x + 6; omega⟩]
    have eM : X12_field 113 v (xT x).1 = some ((), wI (wI (xT x).1 113 0 0) 113 0 1) := by
      unfold X12_field
      have hI := x12_isIn (d := wI (xT x).1 113 0 0) (v := v) (a := 2) (b := 31) hv (by omega) (by omega)
      by_cases c1 : 2 ≤ v ∧ v ≤ 31
      · obtain ⟨w, rfl⟩ : ∃ w : Nat, v = w := ⟨v.toNat, by omega⟩
        rw [lt_pos, b1_pos (hI.1 c1), gd_pos (by omega), if_neg (by decide), b1_pos ((x12_isPrime (v := w) (by omega) (by omega)).2 (fun z => c ⟨w, rfl, z⟩)), gd_pos (by omega), if_pos rfl, lt_pos]
      · rw [lt_pos, b1_pos (hI.2 c1), gd_pos (by omega), if_pos rfl, lt_pos]
    rw [bd_pos eM, lt_pos, b1_pos (show X12_thrown 113 (xD (xT x) (wI (wI (xT x).1 113 0 0) 113 0 1)).1 = some 1 from rfl), gd_pos (by omega), if_pos rfl]
    exact ⟨_, rfl, throw_fin h hk rfl rfl⟩

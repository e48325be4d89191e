/-! ===== the step of feed ===== -/
theorem st_0 {Ln k : Nat} {sc : Int → Int} {x : XS} (h : Inv k x) (hk : k < 512) (h0 : 0 ≤ 8 * (k : Int) ∧ 8 * (k : Int) + 8 ≤ (Ln : Int)) (hL : Ln ≤ 4096) (hop : iand9 (sc (8 * (k : Int))) 31 = 0) : Step9 Ln sc k x := by
  unfold Step9
  rw [br_0 h0 hL hop]
  simp only [gd_pos (show ix (8 * (k : Int) + 1) Ln from (by omega)), gd_pos (show ix (8 * (k : Int) + 2) Ln from (by omega)), gd_pos (show ix (8 * (k : Int) + 3) Ln from (by omega)), gd_pos (show ix (8 * (k : Int) + 4) Ln from (by omega)), gd_pos (show ix (8 * (k : Int) + 5) Ln from (by omega))]
  generalize sc (8 * (k : Int) + 1) = v1
  generalize sc (8 * (k : Int) + 2) = v2
  generalize sc (8 * (k : Int) + 3) = v3
  generalize sc (8 * (k : Int) + 4) = v4
  generalize sc (8 * (k : Int) + 5) = v5
  obtain ⟨tp, t1, t2, t3, t4, t5, t6, t7⟩ := h.tp
  by_cases c : tp ≤ 380
  · obtain ⟨A, e1, ao, ai, an, ab⟩ := x11_feed2 (v1 := v1) (v2 := v2) (v3 := v3) (v4 := v4) (v5 := v5) t1 c rfl
    rw [bd_pos e1, lt_pos]
    have a113 : A.1 113 21 = tp := by rw [ao 113 (by decide) (by decide)]; exact t2
    obtain ⟨B, e2, bo', bi', bn, bb'⟩ := x12_feed2 (v1 := v1) (v2 := v2) (v3 := v3) (v4 := v4) (v5 := v5) a113 c rfl
    rw [show (xD x A).1 = A from rfl, bd_pos e2, lt_pos, gd_pos (by omega), if_pos rfl]
    refine ⟨_, rfl, ?_⟩
    have bo : ∀ c, c ≠ 113 → c ≠ 126 → B.1 c = A.1 c := fun c z1 z2 => by rw [bo' c z1 z2, wI_ne z1]
    have bi : ∀ i, i ≠ 0 → i ≠ 21 → B.1 113 i = A.1 113 i := fun i z1 z2 => by rw [bi' i z2, wI_at, fu_n z1]
    have bb : ∀ j, B.1 126 j = if tp ≤ j ∧ j < tp + 20 then by9 v1 v2 v3 v4 v5 (j - tp) else x.1.1 126 j := fun j => by rw [bb' j, wI_ne (by decide), ao 126 (by decide) (by decide)]
    refine h.tape (x' := xD (xD x A) B) hk (fun c j hr hc => ?_) ⟨rfl, rfl, h.z.2.2.2.1, h.z.2.2.2.2.1⟩ ⟨by show xc x ≤ _; omega, by show xs x ≤ _; omega⟩ (fun tp9 hP => ⟨tp + 20, ?_⟩)
    · show B.1 c j = x.1.1 c j
      unfold chP at hc
      simp only [Bool.or_eq_false_iff, Bool.and_eq_false_iff, beq_eq_false_iff_ne, ne_eq] at hc
      obtain ⟨⟨⟨c1, c2⟩, c3⟩, c4⟩ := hc
      by_cases c113 : c = 113
      · subst c113
        have j0 : j ≠ 0 := fun e => by subst e; cases hr
        have j2 : j ≠ 21 := by rcases c3 with c3 | c3; exact absurd rfl c3; exact c3.1
        rw [bi j j0 j2, ao 113 (by decide) (by decide)]
      · rw [bo c c113 c4]
        by_cases c9 : c = 1
        · subst c9
          exact ai j (by rcases c1 with c1 | c1; exact absurd rfl c1; exact c1.1)
        · rw [ao c c9 c2]
    · refine ⟨?_, ?_, (by omega), fun j hj => ?_, ?_, ?_, ?_⟩
      · show B.1 1 7 = _
        rw [bo 1 (by decide) (by decide), an]; omega
      · show B.1 113 21 = _
        rw [bn]; omega
      · show B.1 44 j = B.1 126 j ∧ 0 ≤ B.1 126 j ∧ B.1 126 j ≤ 255
        rw [bo 44 (by decide) (by decide), ab, bb]
        by_cases cj : tp ≤ j ∧ j < tp + 20
        · rw [if_pos cj, if_pos cj]
          exact ⟨rfl, and_bd (n := 255) (by decide) (by omega)⟩
        · rw [if_neg cj, if_neg cj]; exact t4 j (by omega)
      · show B.1 1 8 = B.1 113 30
        rw [bo 1 (by decide) (by decide), ai 8 (by decide), bi 30 (by decide) (by decide), ao 113 (by decide) (by decide)]; exact t5
      · show -1 ≤ B.1 113 30
        rw [bi 30 (by decide) (by decide), ao 113 (by decide) (by decide)]; exact t6
      · show B.1 113 30 ≤ 400
        rw [bi 30 (by decide) (by decide), ao 113 (by decide) (by decide)]; exact t7
  · have e1 := x11_feed (v1 := v1) (v2 := v2) (v3 := v3) (v4 := v4) (v5 := v5) t1 t3
    rw [if_neg c] at e1
    have e2 := x12_feed (v1 := v1) (v2 := v2) (v3 := v3) (v4 := v4) (v5 := v5) t2 t3
    rw [if_neg c] at e2
    rw [bd_pos e1, lt_pos, show (xD x x.1).1 = x.1 from rfl, bd_pos e2, lt_pos, gd_pos (by omega), if_pos rfl]
    exact ⟨_, rfl, h.mono hk (Kp.D (Sm.rf x.1)) (Sm.wI rfl)⟩

/-! ===== table: the step itself ===== -/
theorem TG.cong {n f : Nat → Int} {r : Nat} (h : TG n r) (hf : ∀ q, q < 125 → f q = n q) : TG f r := by
  obtain ⟨⟨h1, h5⟩, t1, t2, t3, t4⟩ := h
  refine ⟨⟨h1, h5⟩, fun j hj => by rw [hf j hj]; exact t1 j hj, fun i j k hi hj hk z => by rw [hf _ (ti_lt5 hi hj hk)]; exact t2 i j k hi hj hk z, fun j k hj hk => by rw [hf _ (ti_lt5 (by omega) (by omega) (by omega))]; exact t3 j k hj hk, fun j k hj hk => by rw [hf _ (ti_lt5 (by omega) (by omega) (by omega))]; exact t4 j k hj hk⟩
theorem tb0_o {n : Nat} {d : DA} {c : Nat} (h : c ≠ 113) : (tb0 n d).1 c = d.1 c := by
  unfold tb0
  rw [wI_ne h, wI_ne h, wI_ne h, wI_ne h, wI_ne h, wI_ne h]
theorem tb0_j {n : Nat} {d : DA} {j : Nat} (h : j ≠ 0 ∧ j ≠ 21 ∧ j ≠ 23 ∧ j ≠ 22 ∧ j ≠ 28 ∧ j ≠ 30) : (tb0 n d).1 113 j = d.1 113 j := by
  unfold tb0
  rw [wI_at, fu_n h.2.2.2.2.2, wI_at, fu_n h.2.2.2.2.1, wI_at, fu_n h.2.2.2.1, wI_at, fu_n h.2.2.1, wI_at, fu_n h.2.1, wI_at, fu_n h.1]
theorem relL_no {j : Nat} (h : relL.contains j = true) : rdL j = false ∧ j ≠ 0 ∧ j ≠ 23 ∧ j ≠ 22 ∧ j ≠ 28 := by
  have e : j = 1 ∨ j = 2 ∨ j = 4 ∨ j = 13 ∨ j = 18 ∨ j = 19 ∨ j = 21 ∨ j = 30 ∨ j = 33 ∨ j = 34 ∨ j = 35 ∨ j = 76 ∨ j = 77 ∨ j = 78 ∨ j = 79 := by
    unfold relL at h
    simp at h
    omega
  rcases e with rfl | rfl | rfl | rfl | rfl | rfl | rfl | rfl | rfl | rfl | rfl | rfl | rfl | rfl | rfl <;> exact ⟨rfl, by decide, by decide, by decide, by decide⟩
theorem st_1 {Ln k : Nat} {sc : Int → Int} {x : XS} (h : Inv k x) (hk : k < 512) (h0 : 0 ≤ 8 * (k : Int) ∧ 8 * (k : Int) + 8 ≤ (Ln : Int)) (hL : Ln ≤ 4096) (hsc : ScR sc) (hop : iand9 (sc (8 * (k : Int))) 31 = 1) : Step9 Ln sc k x := by
  unfold Step9
  rw [br_1 h0 hL hop]
  simp only [gd_pos (show ix (8 * (k : Int) + 1) Ln from (by omega))]
  have hv := hsc (8 * (k : Int) + 1)
  generalize sc (8 * (k : Int) + 1) = v at hv
  obtain ⟨tp, t1, t2, t3, t4, t5, t6, t7⟩ := h.tp
  by_cases c : 0 ≤ v ∧ v ≤ tp
  · obtain ⟨n, rfl⟩ : ∃ n : Nat, v = n := ⟨v.toNat, by omega⟩
    have hB : Tp9 (x.1.1 126) n := ⟨by omega, fun j hj => (t4 j (by omega)).2⟩
    have h44 : ∀ j, j < n → x.1.1 44 j = x.1.1 126 j := fun j hj => (t4 j (by omega)).1
    obtain ⟨dq, -, hq⟩ := rd_table (c0 := x.1) (T := fun _ => 0) (d := x.1) (B := x.1.1 126) hB h44 (fun _ _ => rfl) t2 ⟨by omega, t3⟩
    have le0 : xc x ≤ xc (xR2 (xR1 x)) ∧ xs x ≤ xs (xR2 (xR1 x)) := ⟨Nat.le_refl _, Nat.le_refl _⟩
    rcases hq with ⟨k9, T9, DQ, hR⟩ | ⟨ft, pl, FQ, hR⟩
    · -- a table
      obtain ⟨dC, e1, all⟩ := x4_read (by omega) (hR 0)
      obtain ⟨f1, f2, f3, f4, f5, f6⟩ := all _ _ _ _ (hR 0)
      obtain ⟨f7, f8, f9, f10⟩ := f6 rfl
      obtain ⟨r0, -, -, -, t66, -, -, -⟩ := h.tab
      have hTG : TG T9 k9 := DQ.2.2.2.1
      generalize hF9 : pre (x.1.1 6) (dC.1 39) 125 = F
      have Fq : ∀ q, q < 125 → F q = T9 q := fun q hq => by rw [← hF9, pre_lt hq]; exact (f10 q hq).1
      have hTF : TG F k9 := hTG.cong Fq
      generalize hd6 : wI (wI dC 1 7 0) 1 8 (-1) = d6
      have o6 : ∀ c, c ≠ 1 → d6.1 c = dC.1 c := fun c z => by rw [← hd6, wI_ne z, wI_ne z]
      have ecp : X8_copy 5 38 d6 = some ((), wA (wI d6 5 0 (k9 : Int)) 6 F) := by
        rw [x8_copy]
        have a1 : d6.1 38 0 = k9 := by rw [o6 38 (by decide)]; exact f8
        rw [a1]
        have a2 : (wI d6 5 0 (k9 : Int)).1 (5 + 1) = x.1.1 6 := by rw [wI_ne (by decide), o6 6 (by decide)]; exact f1 6 (by decide) (by decide) (by decide)
        have a3 : (wI d6 5 0 (k9 : Int)).1 (38 + 1) = dC.1 39 := by rw [wI_ne (by decide), o6 39 (by decide)]
        rw [a2, a3, hF9]
      generalize hd7 : wA (wI d6 5 0 (k9 : Int)) 6 F = d7 at ecp
      have d75 : d7.1 5 0 = k9 := by rw [← hd7, wA_ne (by decide), wI_at, fu_s]
      have d76 : d7.1 6 = F := by rw [← hd7, wA_at]
      have nb7 : Nb d7 5 := fun j hj => by show 0 ≤ d7.1 6 j ∧ d7.1 6 j ≤ 9; rw [d76]; exact hTF.2.1 j hj
      obtain ⟨⟨u2, d4⟩, e6, hF⟩ := x11_begin d75 f9.2 nb7
      have hF' : Fgt d7 d4 k9 := hF
      have eC : X11_table (n : Int) x = some (.inl 0, xD (xR2 (xR1 x)) d4) := by
        unfold X11_table
        have t1' : x.1.1 1 7 = tp := t1
        rw [gd_pos (by omega), if_neg (by omega), t1', gd_pos (by omega), if_pos (by omega), xb_ok e1 le0, lt_pos, lt_pos, lt_pos, lt_pos, gd_pos (by decide), if_pos rfl]
        have e9 : (xD (xD (xR2 (xR1 x)) dC) (wI (xD (xR2 (xR1 x)) dC).1 1 7 0)).1.1 45 9 = -1 := by
          show (wI dC 1 7 0).1 45 9 = -1
          rw [wI_ne (by decide)]; exact f7
        rw [e9]
        show (bd (X8_copy 5 38 (wI (wI dC 1 7 0) 1 8 (-1))) fun _ d7 => lt9 (xD (xD (xD (xD (xR2 (xR1 x)) dC) (wI dC 1 7 0)) (wI (wI dC 1 7 0) 1 8 (-1))) d7) fun x8 => bd (X11_beginAgain 1 x8.1) fun _ d9 => lt9 (xD x8 d9) fun x10 => some ((Sum.inl 0, x10))) = _
        rw [hd6, bd_pos ecp, lt_pos]
        show (bd (X11_beginAgain 1 d7) fun _ d9 => lt9 (xD _ d9) fun x10 => some ((Sum.inl 0, x10))) = _
        rw [bd_pos e6, lt_pos]
        rfl
      refine both2 (en := 0) (f := fun x => L_law__j310_23 Ln sc (8 * (k : Int)) x) (M := fun d => X12_table 113 n d) (x2 := xD (xR2 (xR1 x)) d4) (v := 0) ⟨Or.inl ⟨rfl, eC⟩, le0.1, le0.2⟩ (by decide) (Or.inl rfl) (w := 0) (by decide) (fun _ => rfl) (fun x3 hx3 hx4 => ?_)
      have hx3' : x3.1.1 = d4.1 := hx3
      have d7x : ∀ c j, rel c j = true → c ≠ 1 → c ≠ 5 → c ≠ 6 → d7.1 c j = x.1.1 c j := fun c j hr z1 z5 z6 => by rw [← hd7, wA_ne z6, wI_ne z5, o6 c z1, f1 c (fun e => by subst e; cases hr) (fun e => by subst e; cases hr) (fun e => by subst e; cases hr)]
      have x3x : ∀ c j, rel c j = true → 100 ≤ c → x3.1.1 c j = x.1.1 c j := fun c j hr hc => by
        rw [hx3', hF'.1 c j hr (by omega) (by omega) (by omega) (by omega) (by omega) (by omega) (by omega) (by omega) (by omega), d7x c j hr (by omega) (by omega) (by omega)]
      obtain ⟨d', m1, m2⟩ := rd_table (c0 := x.1) (T := fun _ => 0) (d := x3.1) (B := x.1.1 126) hB h44 (fun j _ => x3x 126 j rfl (by omega)) ((x3x 113 21 rfl (by omega)).trans t2) ⟨by omega, t3⟩
      rcases m2 with ⟨k', T', DQ', hR'⟩ | ⟨ft', pl', FQ', hR'⟩
      · obtain ⟨-, -, -, -, -, y6⟩ := all _ _ _ _ (hR' 0)
        obtain ⟨-, y8, -, y10⟩ := y6 rfl
        have ek : k' = k9 := by rw [f8] at y8; omega
        subst ek
        obtain ⟨⟨q1, q2, q3⟩, q28, q4, q5, q6⟩ := DQ'
        obtain ⟨⟨u, dF⟩, n1, hM⟩ := x12_takeRead q4
        have hM' : MNew d' dF k' (pre (d'.1 114) (d'.1 116) 125) := hM
        have eFF : pre (d'.1 114) (d'.1 116) 125 = F := funext fun q => by
          by_cases cq : q < 125
          · rw [pre_lt cq, q6 q cq, ← hF9, pre_lt cq, (y10 q cq).1]
          · rw [pre_ge cq, ← hF9, pre_ge cq, t66, q1 114 (by decide) (by decide), tb0_o (by decide), x3x 114 q rfl (by omega)]
        rw [eFF] at hM'
        have hy := h.used (pl := -1) (by decide)
        obtain ⟨p, tp', p1, p2, p3, p4, p5⟩ := hy.fld
        have hF2 : Fgt (wA (wI (ty9 (-1) x.1) 5 0 (k' : Int)) 6 F) (wI (wI d4 113 21 0) 113 30 (-1)) k' := (hF'.w1 (j := 21) (v := 0)).w1 (j := 30) (v := -1) |>.re (fun c j hr => by
          by_cases z6 : c = 6
          · subst z6; rw [wA_at, wI_ne (by decide), wI_ne (by decide), d76]
          · rw [wA_ne z6]
            by_cases z5 : c = 5
            · subst z5
              rw [wI_ne (show (5 : Nat) ≠ 113 by decide), wI_ne (show (5 : Nat) ≠ 113 by decide), ← hd7, wA_ne (by decide), wI_at, wI_at]
              by_cases zj : j = 0
              · subst zj; rw [fu_s, fu_s]
              · rw [fu_n zj, fu_n zj, ty9_o (fun e => by cases e) (fun e => by cases e), o6 5 (by decide), f1 5 (by decide) (by decide) (by decide)]
            · rw [wI_ne z5]
              by_cases z113 : c = 113
              · subst z113
                rw [wI_at, wI_at]
                by_cases j30 : j = 30
                · subst j30; rw [fu_s]; rfl
                · rw [fu_n j30]
                  by_cases j21 : j = 21
                  · subst j21; rw [fu_s]; rfl
                  · rw [fu_n j21, ty9_o (fun e => by cases e) (fun _ => ⟨j21, j30⟩), d7x 113 j hr (by decide) (by decide) (by decide)]
              · rw [wI_ne z113, wI_ne z113]
                by_cases z1 : c = 1
                · subst z1
                  rw [← hd7, wA_ne (by decide), wI_ne (by decide), ← hd6]
                  unfold ty9
                  rw [wI_ne (by decide), wI_ne (by decide), wI_at, wI_at, wI_at, wI_at, f1 1 (by decide) (by decide) (by decide)]
                · rw [ty9_o (fun e => absurd e z1) (fun e => absurd e z113), d7x c j hr z1 z5 z6]) (by
          show x.1.2 = d7.2
          rw [← hd7, ← hd6]; exact f2.symm)
        have hSm : Sm (wI (wI d4 113 21 0) 113 30 (-1)) d' := fun c j hr => by
          by_cases z113 : c = 113
          · subst z113
            have hr' : relL.contains j = true := hr
            obtain ⟨rn1, rn2, rn3, rn4, rn5⟩ := relL_no hr'
            rw [q3 j rn1, wI_at, wI_at]
            by_cases j30 : j = 30
            · subst j30; rw [fu_s]; rfl
            · rw [fu_n j30]
              by_cases j21 : j = 21
              · subst j21; rw [fu_s]; rfl
              · rw [fu_n j21, tb0_j ⟨rn2, j21, rn3, rn4, rn5, j30⟩, hx3']
          · rw [q1 c z113 (fun e => by subst e; cases hr), tb0_o z113, wI_ne z113, wI_ne z113, hx3']
        obtain ⟨hN, hP⟩ := newT_of (x := xD (xR2 (xR1 x)) (ty9 (-1) x.1)) (d8 := wA (wI (ty9 (-1) x.1) 5 0 (k' : Int)) 6 F) (d4 := wI (wI d4 113 21 0) 113 30 (-1)) (d := wI (wI d4 113 21 0) 113 30 (-1)) (d' := dF) (fun c z1 z2 => by rw [wA_ne z2, wI_ne z1]; rfl) (by rw [wA_ne (by decide), wI_at, fu_s]) (by rw [wA_at]) hF2 rfl (hM'.rel hSm) hTF ⟨p1, p2, p3, p4⟩
        refine ⟨dF, ?_, ?_, ?_, ?_⟩
        · show X12_table 113 n x3.1 = _
          rw [m1]
          unfold X12_table_j192
          rw [q28, gd_pos (by decide), if_pos rfl, bd_pos n1]
        · rw [hM'.2.2.1 0 (by decide) (by decide) (by decide) (by decide) (by decide), q3 0 rfl]; rfl
        · rw [hM'.2.1, q2]; rfl
        · have hz : x3.2 = (xR2 (xR1 x)).2 := hx4
          have z := hy.1
          exact hy.newT hk (x' := xD x3 dF) hN (hP tp' p5) ⟨by show x3.2.1 = _; rw [hz]; rfl, by show x3.2.2.1 = _; rw [hz]; rfl, by show xe x3 = 0; unfold xe; rw [hz]; exact z.2.2.2.1, by show xok9 x3; unfold xok9 xrt xrb xtt xtn; rw [hz]; exact z.2.2.2.2.1⟩ ⟨by show xc x3 ≤ xc x + 100; unfold xc; rw [hz]; show xc x ≤ xc x + 100; omega, by show xs x3 ≤ xs x + 1000; unfold xs; rw [hz]; show xs x ≤ xs x + 1000; omega⟩
      · obtain ⟨-, -, -, y4, -, -⟩ := all _ _ _ _ (hR' 0 (fun _ => 0))
        have := FQ'.2.2.1
        omega
    · -- a fault
      obtain ⟨dC, e1, all⟩ := x4_read (by omega) (hR 0 (fun _ => 0))
      obtain ⟨f1, f2, f3, f4, f5, -⟩ := all _ _ _ _ (hR 0 (fun _ => 0))
      have fb := FQ.2.2.1
      have pb := FQ.2.2.2.2
      have f9 := f5 (by omega)
      generalize hd12 : wI (wI (wI dC 1 7 0) 1 8 (pl : Int)) 2 6 (dC.1 2 6 + 1) = d12
      have eC : X11_table (n : Int) x = some (.inl ft, xD (xR2 (xR1 x)) d12) := by
        unfold X11_table
        have t1' : x.1.1 1 7 = tp := t1
        rw [gd_pos (by omega), if_neg (by omega), t1', gd_pos (by omega), if_pos (by omega), xb_ok e1 le0, lt_pos, lt_pos, lt_pos, lt_pos, gd_pos (by omega), if_neg (by omega)]
        have e9 : (xD (xD (xR2 (xR1 x)) dC) (wI (xD (xR2 (xR1 x)) dC).1 1 7 0)).1.1 45 9 = pl := by
          show (wI dC 1 7 0).1 45 9 = pl
          rw [wI_ne (by decide)]; exact f9
        rw [e9, ← hd12]
        rfl
      refine both2 (en := 0) (f := fun x => L_law__j310_23 Ln sc (8 * (k : Int)) x) (M := fun d => X12_table 113 n d) (x2 := xD (xR2 (xR1 x)) d12) (v := ft) ⟨Or.inl ⟨rfl, eC⟩, le0.1, le0.2⟩ (by omega) (Or.inl rfl) (w := ft) (by omega) (fun _ => rfl) (fun x3 hx3 hx4 => ?_)
      have hx3' : x3.1.1 = d12.1 := hx3
      have x3x : ∀ c j, rel c j = true → c ≠ 1 → c ≠ 2 → x3.1.1 c j = x.1.1 c j := fun c j hr z1 z2 => by
        rw [hx3', ← hd12, wI_ne z2, wI_ne z1, wI_ne z1, f1 c (fun e => by subst e; cases hr) (fun e => by subst e; cases hr) (fun e => by subst e; cases hr)]
      obtain ⟨d', m1, m2⟩ := rd_table (c0 := x.1) (T := fun _ => 0) (d := x3.1) (B := x.1.1 126) hB h44 (fun j _ => x3x 126 j rfl (by decide) (by decide)) ((x3x 113 21 rfl (by decide) (by decide)).trans t2) ⟨by omega, t3⟩
      rcases m2 with ⟨k', T', DQ', hR'⟩ | ⟨ft', pl', FQ', hR'⟩
      · obtain ⟨-, -, -, y4, -, -⟩ := all _ _ _ _ (hR' 0)
        omega
      · obtain ⟨-, -, -, y4, y5, -⟩ := all _ _ _ _ (hR' 0 (fun _ => 0))
        obtain ⟨⟨q1, q2, q3⟩, q28, qb, q29, -⟩ := FQ'
        have ef : ft' = ft := by omega
        subst ef
        have ep : (pl' : Int) = pl := by rw [← y5 (by omega)]; exact f9
        rw [ep] at q29
        have hy := h.used (pl := (pl : Int)) (by omega)
        generalize hdF : wI (wI d' 113 30 (pl : Int)) 121 0 (d'.1 121 0 + 1) = dF
        have oF : ∀ c, c ≠ 113 → c ≠ 116 → c ≠ 121 → dF.1 c = x3.1.1 c := fun c z1 z2 z3 => by rw [← hdF, wI_ne z3, wI_ne z1, q1 c z1 z2, tb0_o z1]
        have d2 : ∀ j, j ≠ 6 → dF.1 2 j = x.1.1 2 j := fun j z => by rw [oF 2 (by decide) (by decide) (by decide), hx3', ← hd12, wI_at, fu_n z, wI_ne (by decide), wI_ne (by decide), f1 2 (by decide) (by decide) (by decide)]
        have d121 : d'.1 121 = x.1.1 121 := by
          rw [q1 121 (by decide) (by decide), tb0_o (by decide)]
          exact funext fun j => x3x 121 j rfl (by decide) (by decide)
        refine ⟨dF, ?_, ?_, ?_, ?_⟩
        · show X12_table 113 n x3.1 = _
          rw [m1]
          unfold X12_table_j192
          rw [q28, gd_pos (by omega), if_neg (by omega), q29, lt_pos, gd_pos (by decide), gd_pos (by decide), lt_pos]
          have e1 : wI (wI d' 113 30 (pl : Int)) (113 + 8) (Int.toNat 0) ((wI d' 113 30 (pl : Int)).1 (113 + 8) (Int.toNat 0) + 1) = dF := by rw [← hdF, wI_ne (show 113 + 8 ≠ 113 by decide)]; rfl
          rw [e1]
          have e2 : dF.1 113 28 = ft' := by rw [← hdF, wI_ne (by decide), wI_at, fu_n (by decide)]; exact q28
          rw [e2]
        · rw [← hdF, wI_ne (by decide), wI_at, fu_n (by decide), q3 0 rfl]; rfl
        · rw [← hdF]; show d'.2 161 = _; rw [q2]; rfl
        · refine hy.refuse hk (x' := xD x3 dF) (fun c j hr hc => ?_) hx4 1 0 ⟨Or.inr rfl, Or.inl rfl⟩ ⟨?_, ?_⟩ ⟨?_, ?_⟩
          · show dF.1 c j = (ty9 (pl : Int) x.1).1 c j
            unfold chR at hc
            simp only [Bool.or_eq_false_iff, Bool.and_eq_false_iff, beq_eq_false_iff_ne, ne_eq] at hc
            by_cases z113 : c = 113
            · subst z113
              have hr' : relL.contains j = true := hr
              obtain ⟨rn1, rn2, rn3, rn4, rn5⟩ := relL_no hr'
              rw [← hdF, wI_ne (by decide), wI_at]
              by_cases j30 : j = 30
              · subst j30; rw [fu_s]; rfl
              · rw [fu_n j30, q3 j rn1]
                by_cases j21 : j = 21
                · subst j21; rfl
                · rw [tb0_j ⟨rn2, j21, rn3, rn4, rn5, j30⟩, ty9_o (fun e => by cases e) (fun _ => ⟨j21, j30⟩)]
                  exact x3x 113 j hr (by decide) (by decide)
            · by_cases z1 : c = 1
              · subst z1
                rw [oF 1 (by decide) (by decide) (by decide), hx3', ← hd12]
                unfold ty9
                rw [wI_ne (by decide), wI_at, wI_at, wI_ne (by decide), wI_ne (by decide), wI_at, wI_at, f1 1 (by decide) (by decide) (by decide)]
              · rw [ty9_o (fun e => absurd e z1) (fun e => absurd e z113)]
                by_cases z2 : c = 2
                · subst z2
                  exact d2 j (by rcases hc.1 with y | y; exact absurd rfl y; exact y.1)
                · rw [oF c z113 (fun e => by subst e; cases hr) hc.2]
                  exact x3x c j hr z1 z2
          · show dF.1 2 6 = (ty9 (pl : Int) x.1).1 2 6 + 1
            rw [ty9_o (fun e => by cases e) (fun e => by cases e), oF 2 (by decide) (by decide) (by decide), hx3', ← hd12, wI_at, fu_s, f1 2 (by decide) (by decide) (by decide)]
          · show dF.1 121 0 = (ty9 (pl : Int) x.1).1 121 0 + 1
            rw [ty9_o (fun e => by cases e) (fun e => by cases e), ← hdF, wI_at, fu_s, d121]
          · show dF.1 2 7 = (ty9 (pl : Int) x.1).1 2 7 + 0
            rw [ty9_o (fun e => by cases e) (fun e => by cases e), d2 7 (by decide), Int.add_zero]
          · show dF.1 121 1 = (ty9 (pl : Int) x.1).1 121 1 + 0
            rw [ty9_o (fun e => by cases e) (fun e => by cases e), ← hdF, wI_at, fu_n (by decide), wI_ne (by decide), d121, Int.add_zero]
  · refine both (en := 0) (f := fun x => L_law__j310_23 Ln sc (8 * (k : Int)) x) h hk (x2 := xT x) (v := 0) ⟨Or.inr ⟨rfl, ?_⟩, Nat.le_succ _, Nat.le_add_right _ _⟩ (by omega) (Kp.T x) (Or.inr rfl) (w := 0) (by omega) (fun h9 => by omega) (M := fun d => X12_table 113 v d) (fun d hd => ?_)
    · unfold X11_table
      have t1' : x.1.1 1 7 = tp := t1
      rw [gd_pos (by omega)]
      by_cases c1 : v < 0
      · rw [if_pos c1]
      · rw [if_neg c1, t1', gd_pos (by omega), if_neg (by omega)]
    · refine ⟨wI (wI d 113 0 0) 113 0 1, ?_, rfl, (Sm.wI rfl).tr (Sm.wI rfl), rfl⟩
      have hd' : d.1 = x.1.1 := hd
      have e21 : (wI d 113 0 0).1 113 21 = tp := by show d.1 113 21 = _; rw [hd']; exact t2
      unfold X12_table X12_table_j17
      rw [lt_pos, gd_pos (by omega)]
      by_cases c1 : v < 0
      · rw [if_pos c1]; rfl
      · rw [if_neg c1, e21, gd_pos (by omega), if_neg (by omega)]; rfl

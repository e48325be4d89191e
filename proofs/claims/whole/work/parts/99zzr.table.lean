/-! ===== the class's rules ===== -/
theorem tR_lt {B : Nat → Int} {n s : Nat} (h : tR B n s ≠ 0) : s < n := by
  rcases Nat.lt_or_ge s n with z | z
  · exact z
  · exact absurd (by unfold tR; rw [if_pos z]) h
theorem te_in {B : Nat → Int} {n q : Nat} (hq : q ≤ n) (h : tR B n (tS B n q) ≠ 0) : q < tE B n (tS B n q) ∧ tE B n (tS B n q) ≤ n := by
  obtain ⟨s1, s2, -⟩ := tS_bd (B := B) hq
  obtain ⟨e1, e2, e3⟩ := tE_bd (B := B) s2
  have := e3 (tR_lt h)
  omega
theorem x4_go1 {t : Int} {d : DA} : X4_go 45 1 t d = some ((), wI d 45 6 t) := by
  unfold X4_go; rw [gd_pos (by decide), if_neg (by decide), lt_pos]
theorem x4_go0 {t : Int} {d : DA} : X4_go 45 0 t d = some ((), wI d 45 8 1) := by
  unfold X4_go; rw [gd_pos (by decide), if_pos rfl, lt_pos]
theorem x4_sign {B : Nat → Int} {n s : Nat} {d : DA} {f : Nat → Int} {c : Int} (hB : Tp9 B n) (h : CT9 B n s f) (hc : inR c) : X4_isSign 45 c (wA d 45 f) = some (if tR B n s = 3 ∧ B s = c then 1 else 0) := by
  unfold X4_isSign X4_isSign_j20
  have b := h.bd
  rw [wA_at, gd_pos (by omega)]
  by_cases c5 : f 4 = 5
  · have : tR B n s = 3 ∧ f 5 = B s := by rcases h.all with z | z | z | z | z | z | z | z <;> first | exact z.2 | omega
    have hw := hB.2 s (tR_lt (by rw [this.1]; decide))
    rw [if_pos c5, this.2, gd_pos (by omega)]
    by_cases y : B s = c
    · rw [if_pos y, if_pos ⟨this.1, y⟩]
    · rw [if_neg y, if_neg (fun z => y z.2)]
  · rw [if_neg c5, if_neg (fun z => c5 (h.2.2.2.2.2.1 z.1).1)]
theorem x4_kf {B : Nat → Int} {n s : Nat} {d : DA} {f : Nat → Int} {l k : Nat} (hs : s ≤ n) (h : CT9 B n s f) (hl : l ≤ 1) (hk : d.1 38 0 = k) (hk5 : k ≤ 5) : X4_kindFault 45 l (wA d 45 f) = some (kf9 B n s l k) ∧ (kf9 B n s l k = 0 → tR B n s ≠ 0 ∧ f 5 = tv9 B n s ∧ (l : Int) ≤ tv9 B n s ∧ tv9 B n s < k) ∧ 0 ≤ kf9 B n s l k ∧ kf9 B n s l k ≤ 3 := by
  have b := h.bd
  have h38 : (wA d 45 f).1 (45 - 7) 0 = k := hk
  unfold X4_kindFault X4_numberFault kf9
  rw [wA_at, gd_pos (by omega)]
  by_cases c3 : f 4 = 3
  · obtain ⟨r2, l3, v5⟩ : tR B n s = 2 ∧ tE B n s - s ≤ 3 ∧ f 5 = tv9 B n s := by rcases h.all with z | z | z | z | z | z | z | z <;> first | exact z.2 | omega
    have vb := tv9_bd hs r2 l3
    rw [if_pos c3, if_pos r2, if_pos l3, b1_some, gd_pos (by decide), if_pos rfl, v5, gd_pos (by omega)]
    by_cases y1 : tv9 B n s < l
    · rw [if_pos y1, if_pos (Or.inl y1)]
      exact ⟨rfl, fun z => absurd z (by decide), by decide, by decide⟩
    · rw [if_neg y1, h38, gd_pos (by omega)]
      by_cases y2 : tv9 B n s < k
      · rw [if_pos y2, if_neg (by omega)]
        exact ⟨rfl, fun _ => ⟨by rw [r2]; decide, rfl, by omega, y2⟩, by decide, by decide⟩
      · rw [if_neg y2, if_pos (Or.inr (by omega))]
        exact ⟨rfl, fun z => absurd z (by decide), by decide, by decide⟩
  · rw [if_neg c3, gd_pos (by omega)]
    by_cases c4 : f 4 = 4
    · obtain ⟨r2, l3⟩ : tR B n s = 2 ∧ ¬ tE B n s - s ≤ 3 := by rcases h.all with z | z | z | z | z | z | z | z <;> first | exact z.2 | omega
      rw [if_pos c4, if_pos r2, if_neg l3, b1_some, gd_pos (by decide), if_neg (by decide)]
      exact ⟨rfl, fun z => absurd z (by decide), by decide, by decide⟩
    · have r2 : ¬ tR B n s = 2 := fun z => by
        have := h.2.2.2.2.1 z
        by_cases y : tE B n s - s ≤ 3
        · exact c3 (this.1 y).1
        · exact c4 (this.2 y)
      rw [if_neg c4, if_neg r2, b1_some, gd_pos (by decide), if_neg (by decide)]
      exact ⟨rfl, fun z => absurd z (by decide), by decide, by decide⟩
theorem x4_nf {B : Nat → Int} {n s : Nat} {d : DA} {f : Nat → Int} (h : CT9 B n s f) : X4_numberFault 45 (wA d 45 f) = some (if tR B n s = 2 then (if tE B n s - s ≤ 3 then 0 else 2) else 1) := by
  have b := h.bd
  unfold X4_numberFault
  rw [wA_at, gd_pos (by omega)]
  by_cases c3 : f 4 = 3
  · obtain ⟨r2, l3, v5⟩ : tR B n s = 2 ∧ tE B n s - s ≤ 3 ∧ f 5 = tv9 B n s := by rcases h.all with z | z | z | z | z | z | z | z <;> first | exact z.2 | omega
    rw [if_pos c3, if_pos r2, if_pos l3]
  · rw [if_neg c3, gd_pos (by omega)]
    by_cases c4 : f 4 = 4
    · obtain ⟨r2, l3⟩ : tR B n s = 2 ∧ ¬ tE B n s - s ≤ 3 := by rcases h.all with z | z | z | z | z | z | z | z <;> first | exact z.2 | omega
      rw [if_pos c4, if_pos r2, if_neg l3]
    · have r2 : ¬ tR B n s = 2 := fun z => by
        have := h.2.2.2.2.1 z
        by_cases y : tE B n s - s ≤ 3
        · exact c3 (this.1 y).1
        · exact c4 (this.2 y)
      rw [if_neg c4, if_neg r2]
theorem CD9.f6 {n : Nat} {d0 : DA} {q ex k : Nat} {T : Nat → Int} {a b td : Nat} {d : DA} {f : Nat → Int} (h : CD9 n d0 q ex k T a b td d) (hf : Fo9 f (d.1 45)) : f 6 = ex := by
  rw [hf 6 (by decide) (by decide) (by decide) (by decide)]; exact h.2.2.1.2.2.2.1
theorem CD9.f13 {n : Nat} {d0 : DA} {q ex k : Nat} {T : Nat → Int} {a b td : Nat} {d : DA} {f : Nat → Int} (h : CD9 n d0 q ex k T a b td d) (hf : Fo9 f (d.1 45)) : f 13 = td ∧ td < 2 ^ 25 := by
  rw [hf 13 (by decide) (by decide) (by decide) (by decide)]; exact h.2.2.2.2.2.1
theorem CD9.f11 {n : Nat} {d0 : DA} {q ex k : Nat} {T : Nat → Int} {a b td : Nat} {d : DA} {f : Nat → Int} (h : CD9 n d0 q ex k T a b td d) (hf : Fo9 f (d.1 45)) (h4 : 4 ≤ ex) : f 11 = a ∧ 1 ≤ a ∧ a < k := by
  rw [hf 11 (by decide) (by decide) (by decide) (by decide)]; exact h.2.2.2.1 h4
theorem CD9.f12 {n : Nat} {d0 : DA} {q ex k : Nat} {T : Nat → Int} {a b td : Nat} {d : DA} {f : Nat → Int} (h : CD9 n d0 q ex k T a b td d) (hf : Fo9 f (d.1 45)) (h4 : 5 ≤ ex) : f 12 = b ∧ 1 ≤ b ∧ b < k := by
  rw [hf 12 (by decide) (by decide) (by decide) (by decide)]; exact h.2.2.2.2.1 h4
section
variable {B : Nat → Int} {n : Nat} {d0 : DA} {q k : Nat} {T : Nat → Int} {a b td : Nat} {ft : Int} {pl k9 : Nat} {T9 : Nat → Int}
/-- a sign, or a fault -/
theorem rr_sg (hB : Tp9 B n) (h44 : ∀ j, j < n → d0.1 44 j = B j) (hq : q ≤ n) {ex ex' : Nat} {c : Int} (hx : (ex = 2 ∧ c = 59 ∧ ex' = 3) ∨ (ex = 7 ∧ c = 59 ∧ ex' = 3) ∨ (ex = 5 ∧ c = 61 ∧ ex' = 6)) : (tR B n (tS B n q) = 3 ∧ B (tS B n q) = c → Rr9 n d0 (tE B n (tS B n q)) ex' k T a b td ft pl k9 T9 → Rr9 n d0 q ex k T a b td ft pl k9 T9) ∧ (¬ (tR B n (tS B n q) = 3 ∧ B (tS B n q) = c) → Rr9 n d0 q ex k T a b td 1 (tS B n q) k9 T9) := by
  have use : ∀ d f, CD9 n d0 q ex k T a b td d → CT9 B n (tS B n q) f → Fo9 f (d.1 45) → X4_useToken 45 (wA d 45 f) = bd (X4_go 45 (if tR B n (tS B n q) = 3 ∧ B (tS B n q) = c then 1 else 0) ex' (wA d 45 f)) fun _ d4 => some (((), d4)) := fun d f h1 h2 h3 => by
    have f6 := h1.f6 h3
    unfold X4_useToken
    rw [wA_at, f6]
    rcases hx with ⟨rfl, rfl, rfl⟩ | ⟨rfl, rfl, rfl⟩ | ⟨rfl, rfl, rfl⟩
    · rw [gd_pos (by decide), if_neg (by decide), if_neg (by decide), if_pos (by decide), b1_pos (x4_sign hB h2 (by decide))]; rfl
    · rw [gd_pos (by decide), if_neg (by decide), if_neg (by decide), if_neg (by decide), if_neg (by decide), if_neg (by decide), if_neg (by decide), if_neg (by decide), if_pos (by decide), b1_pos (x4_sign hB h2 (by decide))]; rfl
    · rw [gd_pos (by decide), if_neg (by decide), if_neg (by decide), if_neg (by decide), if_neg (by decide), if_neg (by decide), if_pos (by decide), b1_pos (x4_sign hB h2 (by decide))]; rfl
  refine ⟨fun hs hR => ?_, fun hs => ?_⟩
  · obtain ⟨t1, t2⟩ := te_in (B := B) hq (by rw [hs.1]; decide)
    refine rr_step hB h44 t1 (fun d f h1 h2 h3 => ⟨wA d 45 (fu f 6 ex'), ?_, ?_⟩) hR
    · rw [use d f h1 h2 h3, if_pos hs, bd_pos x4_go1, wA_wI]
    · exact h1.tk h3 (fun _ => by omega) ⟨by rw [fu_n (by decide)]; exact h2.1, t2⟩ (by rw [fu_s]) (fun j hj => fu_n (by omega)) (fun z => by rw [fu_n (by decide)]; exact h1.f11 h3 (by omega)) (fun z => by rw [fu_n (by decide)]; exact h1.f12 h3 (by omega)) (by rw [fu_n (by decide)]; exact h1.f13 h3)
  · refine rr_bad hB h44 (by decide) (fun d f h1 h2 h3 => ⟨fu f 8 1, ?_, by rw [fu_s], by rw [fu_n (by decide)]⟩)
    rw [use d f h1 h2 h3, if_neg hs, bd_pos x4_go0, wA_wI]
theorem rr_0 (hB : Tp9 B n) (h44 : ∀ j, j < n → d0.1 44 j = B j) (hq : q ≤ n) : (tR B n (tS B n q) = 1 ∧ tW B (tS B n q) (tE B n (tS B n q)) 0 → Rr9 n d0 (tE B n (tS B n q)) 1 k T a b td ft pl k9 T9 → Rr9 n d0 q 0 k T a b td ft pl k9 T9) ∧ (¬ (tR B n (tS B n q) = 1 ∧ tW B (tS B n q) (tE B n (tS B n q)) 0) → Rr9 n d0 q 0 k T a b td 1 (tS B n q) k9 T9) := by
  refine ⟨fun hs hR => ?_, fun hs => ?_⟩
  · obtain ⟨t1, t2⟩ := te_in (B := B) hq (by rw [hs.1]; decide)
    refine rr_step hB h44 t1 (fun d f h1 h2 h3 => ⟨wA d 45 (fu f 6 ((1 : Nat) : Int)), ?_, ?_⟩) hR
    · have f6 := h1.f6 h3
      have f4 : f 4 = 1 := (h2.2.2.2.1 hs.1).1 hs.2
      unfold X4_useToken X4_useToken_j70
      rw [wA_at, f6, f4, gd_pos (by decide), if_pos (by decide), gd_pos (by decide), if_pos rfl, bd_pos x4_go1, wA_wI]; rfl
    · exact h1.tk h3 (fun _ => by omega) ⟨by rw [fu_n (by decide)]; exact h2.1, t2⟩ (by rw [fu_s]) (fun j hj => fu_n (by omega)) (fun z => by omega) (fun z => by omega) (by rw [fu_n (by decide)]; exact h1.f13 h3)
  · refine rr_bad hB h44 (by decide) (fun d f h1 h2 h3 => ⟨fu f 8 1, ?_, by rw [fu_s], by rw [fu_n (by decide)]⟩)
    have f6 := h1.f6 h3
    have f4 : ¬ f 4 = 1 := fun z => hs (by rcases h2.all with y | y | y | y | y | y | y | y <;> first | exact y.2 | omega)
    have b := h2.bd
    unfold X4_useToken X4_useToken_j70
    rw [wA_at, f6, gd_pos (by decide), if_pos (by decide), gd_pos (by omega), if_neg f4, bd_pos x4_go0, wA_wI]
theorem rr_8 (hB : Tp9 B n) (h44 : ∀ j, j < n → d0.1 44 j = B j) (hq : q ≤ n) : (tR B n (tS B n q) = 3 ∧ B (tS B n q) = 43 → Rr9 n d0 (tE B n (tS B n q)) 9 k T a b td ft pl k9 T9 → Rr9 n d0 q 8 k T a b td ft pl k9 T9) ∧ (tR B n (tS B n q) = 3 ∧ B (tS B n q) = 59 → Rr9 n d0 (tE B n (tS B n q)) 3 k T a b td ft pl k9 T9 → Rr9 n d0 q 8 k T a b td ft pl k9 T9) ∧ (¬ (tR B n (tS B n q) = 3 ∧ B (tS B n q) = 43) → ¬ (tR B n (tS B n q) = 3 ∧ B (tS B n q) = 59) → Rr9 n d0 q 8 k T a b td 1 (tS B n q) k9 T9) := by
  refine ⟨fun hs hR => ?_, fun hs hR => ?_, fun hs hs2 => ?_⟩
  · obtain ⟨t1, t2⟩ := te_in (B := B) hq (by rw [hs.1]; decide)
    refine rr_step hB h44 t1 (fun d f h1 h2 h3 => ⟨wA d 45 (fu f 6 ((9 : Nat) : Int)), ?_, ?_⟩) hR
    · have f6 := h1.f6 h3
      have g := x4_sign (d := d) (c := 43) hB h2 (by decide)
      rw [if_pos hs] at g
      unfold X4_useToken X4_useToken_j170 X4_useToken_j175 X4_useToken_j190
      rw [wA_at, f6, gd_pos (by decide), if_neg (by decide), if_neg (by decide), if_neg (by decide), if_neg (by decide), if_neg (by decide), if_neg (by decide), if_neg (by decide), if_neg (by decide), if_pos (by decide), b1_pos g, gd_pos (by decide), if_neg (by decide), b1_pos g, gd_pos (by decide), if_neg (by decide), bd_pos x4_go1, wA_wI]; rfl
    · exact h1.tk h3 (fun _ => by omega) ⟨by rw [fu_n (by decide)]; exact h2.1, t2⟩ (by rw [fu_s]) (fun j hj => fu_n (by omega)) (fun z => by rw [fu_n (by decide)]; exact h1.f11 h3 (by omega)) (fun z => by rw [fu_n (by decide)]; exact h1.f12 h3 (by omega)) (by rw [fu_n (by decide)]; exact h1.f13 h3)
  · obtain ⟨t1, t2⟩ := te_in (B := B) hq (by rw [hs.1]; decide)
    refine rr_step hB h44 t1 (fun d f h1 h2 h3 => ⟨wA d 45 (fu f 6 ((3 : Nat) : Int)), ?_, ?_⟩) hR
    · have f6 := h1.f6 h3
      have g := x4_sign (d := d) (c := 43) hB h2 (by decide)
      rw [if_neg (fun z => by have := z.2; have := hs.2; omega)] at g
      have g2 := x4_sign (d := d) (c := 59) hB h2 (by decide)
      rw [if_pos hs] at g2
      unfold X4_useToken X4_useToken_j170 X4_useToken_j175 X4_useToken_j190
      rw [wA_at, f6, gd_pos (by decide), if_neg (by decide), if_neg (by decide), if_neg (by decide), if_neg (by decide), if_neg (by decide), if_neg (by decide), if_neg (by decide), if_neg (by decide), if_pos (by decide), b1_pos g, gd_pos (by decide), if_pos (by decide), b1_pos g2, gd_pos (by decide), if_neg (by decide), b1_pos g, gd_pos (by decide), if_pos rfl, bd_pos x4_go1, wA_wI]; rfl
    · exact h1.tk h3 (fun _ => by omega) ⟨by rw [fu_n (by decide)]; exact h2.1, t2⟩ (by rw [fu_s]) (fun j hj => fu_n (by omega)) (fun z => by omega) (fun z => by omega) (by rw [fu_n (by decide)]; exact h1.f13 h3)
  · refine rr_bad hB h44 (by decide) (fun d f h1 h2 h3 => ⟨fu f 8 1, ?_, by rw [fu_s], by rw [fu_n (by decide)]⟩)
    have f6 := h1.f6 h3
    have g := x4_sign (d := d) (c := 43) hB h2 (by decide)
    rw [if_neg hs] at g
    have g2 := x4_sign (d := d) (c := 59) hB h2 (by decide)
    rw [if_neg hs2] at g2
    unfold X4_useToken X4_useToken_j175 X4_useToken_j190
    rw [wA_at, f6, gd_pos (by decide), if_neg (by decide), if_neg (by decide), if_neg (by decide), if_neg (by decide), if_neg (by decide), if_neg (by decide), if_neg (by decide), if_neg (by decide), if_pos (by decide), b1_pos g, gd_pos (by decide), if_pos (by decide), b1_pos g2, gd_pos (by decide), if_pos (by decide), b1_pos g, gd_pos (by decide), if_pos rfl, bd_pos x4_go0, wA_wI]
end

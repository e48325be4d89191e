/-! ===== the class's rules: the rank, a part of a sum ===== -/
section
variable {B : Nat → Int} {n : Nat} {d0 : DA} {q k : Nat} {T : Nat → Int} {a b td : Nat} {ft : Int} {pl k9 : Nat} {T9 : Nat → Int}
/-- the fault of the rank -/
def rkf9 (B : Nat → Int) (n s : Nat) : Int := if tR B n s = 2 then (if tE B n s - s ≤ 3 then (if tv9 B n s < 1 ∨ 5 < tv9 B n s then 2 else 0) else 2) else 1
theorem rr_1 (hB : Tp9 B n) (h44 : ∀ j, j < n → d0.1 44 j = B j) (hq : q ≤ n) : (rkf9 B n (tS B n q) = 0 → ∀ k' : Nat, tv9 B n (tS B n q) = k' → Rr9 n d0 (tE B n (tS B n q)) 2 k' (bT k') a b td ft pl k9 T9 → Rr9 n d0 q 1 k T a b td ft pl k9 T9) ∧ (rkf9 B n (tS B n q) ≠ 0 → Rr9 n d0 q 1 k T a b td (rkf9 B n (tS B n q)) (tS B n q) k9 T9) := by
  obtain ⟨s1, s2, -⟩ := tS_bd (B := B) hq
  refine ⟨fun hk k' hk' hR => ?_, fun hk => ?_⟩
  · obtain ⟨r2, l3, v1⟩ : tR B n (tS B n q) = 2 ∧ tE B n (tS B n q) - tS B n q ≤ 3 ∧ ¬ (tv9 B n (tS B n q) < 1 ∨ 5 < tv9 B n (tS B n q)) := by
      unfold rkf9 at hk
      by_cases y1 : tR B n (tS B n q) = 2
      · rw [if_pos y1] at hk
        by_cases y2 : tE B n (tS B n q) - tS B n q ≤ 3
        · rw [if_pos y2] at hk
          by_cases y3 : tv9 B n (tS B n q) < 1 ∨ 5 < tv9 B n (tS B n q)
          · rw [if_pos y3] at hk; cases hk
          · exact ⟨y1, y2, y3⟩
        · rw [if_neg y2] at hk; cases hk
      · rw [if_neg y1] at hk; cases hk
    obtain ⟨t1, t2⟩ := te_in (B := B) hq (by rw [r2]; decide)
    refine rr_step hB h44 t1 (fun d f h1 h2 h3 => ?_) hR
    have f6 := h1.f6 h3
    have f5 : f 5 = (k' : Int) := by rw [(h2.2.2.2.2.1 r2).1 l3 |>.2]; exact hk'
    have f8 : f 8 = 0 := by rw [h3 8 (by decide) (by decide) (by decide) (by decide)]; exact h1.2.2.1.2.2.2.2.2.1
    have nf := x4_nf (d := d) h2
    rw [if_pos r2, if_pos l3] at nf
    obtain ⟨⟨u, d3⟩, b1, f9, b2, b3⟩ := x8_begin (d := wA d 45 f) (o := 38) (r := k') (by omega)
    have b1' : X8_begin (45 - 7) (k' : Int) (wA d 45 f) = some (u, d3) := b1
    have b2' : d3 = wA (wI (wA d 45 f) 38 0 (k' : Int)) 39 f9 := b2
    refine ⟨wI d3 45 6 2, ?_, ?_⟩
    · unfold X4_useToken X4_useRank X4_useRank_j36
      rw [wA_at, f6, gd_pos (by decide), if_neg (by decide), if_pos (by decide), b1_pos nf, lt_pos, wA_wI, fu_id f8, wA_at, f8, f5, gd_pos (by decide), if_pos rfl, gd_pos (by omega), if_neg (by omega), gd_pos (by omega), if_pos (by omega), gd_pos (by decide), if_pos rfl, bd_pos b1', lt_pos]
      rfl
    · have e45 : (wI d3 45 6 2).1 45 = fu f 6 2 := by rw [wI_at, b2', wA_ne (by decide), wI_ne (by decide), wA_at]
      have eo : ∀ c, c ≠ 45 → c ≠ 38 → c ≠ 39 → (wI d3 45 6 2).1 c = d.1 c := fun c z1 z2 z3 => by rw [wI_ne z1, b2', wA_ne z3, wI_ne z2, wA_ne z1]
      have e38 : (wI d3 45 6 2).1 38 0 = k' := by rw [wI_ne (by decide), b2', wA_ne (by decide), wI_at, fu_s]
      have e39 : (wI d3 45 6 2).1 39 = f9 := by rw [wI_ne (by decide), b2', wA_at]
      obtain ⟨c1, c2, ⟨c3, c4, c5, c6, c7, c8, c9⟩, c10, c11, c12, c13⟩ := id h1
      have o : ∀ j, j ≠ 2 → j ≠ 3 → j ≠ 4 → j ≠ 5 → j ≠ 6 → fu f 6 2 j = d.1 45 j := fun j z1 z2 z3 z4 z5 => by rw [fu_n z5]; exact h3 j z1 z2 z3 z4
      unfold CD9
      rw [e45, e38, e39]
      refine ⟨fun c z1 z2 z3 => by rw [eo c z1 z2 z3]; exact c1 c z1 z2 z3, ?_, ⟨by rw [o 1 (by decide) (by decide) (by decide) (by decide) (by decide)]; exact c3, by rw [fu_n (by decide)]; exact h2.1, t2, by rw [fu_s]; rfl, by rw [o 7 (by decide) (by decide) (by decide) (by decide) (by decide)]; exact c7, by rw [o 8 (by decide) (by decide) (by decide) (by decide) (by decide)]; exact c8, by rw [o 9 (by decide) (by decide) (by decide) (by decide) (by decide)]; exact c9⟩, fun z => by omega, fun z => by omega, by rw [o 13 (by decide) (by decide) (by decide) (by decide) (by decide)]; exact c12, fun _ => ⟨rfl, by omega, fun q hq => ⟨bT_of (by omega) b3 hq, bT_bd⟩⟩⟩
      rw [b2']; exact c2
  · have hb : 1 ≤ rkf9 B n (tS B n q) ∧ rkf9 B n (tS B n q) ≤ 9 := by
      unfold rkf9 at hk ⊢
      repeat' split
      all_goals first | omega | (exfalso; apply hk; simp_all)
    refine rr_bad hB h44 hb (fun d f h1 h2 h3 => ⟨fu f 8 (rkf9 B n (tS B n q)), ?_, by rw [fu_s], by rw [fu_n (by decide)]⟩)
    have f6 := h1.f6 h3
    have f8 : f 8 = 0 := by rw [h3 8 (by decide) (by decide) (by decide) (by decide)]; exact h1.2.2.1.2.2.2.2.2.1
    have nf := x4_nf (d := d) h2
    unfold X4_useToken X4_useRank X4_useRank_j31 X4_useRank_j36
    rw [wA_at, f6, gd_pos (by decide), if_neg (by decide), if_pos (by decide), b1_pos nf, lt_pos, wA_wI, wA_at, fu_s, fu_n (by decide)]
    unfold rkf9 at hk ⊢
    by_cases y1 : tR B n (tS B n q) = 2
    · rw [if_pos y1, if_pos y1]
      by_cases y2 : tE B n (tS B n q) - tS B n q ≤ 3
      · have f5 : f 5 = tv9 B n (tS B n q) := ((h2.2.2.2.2.1 y1).1 y2).2
        have vb := tv9_bd s2 y1 y2
        rw [if_pos y1, if_pos y2] at hk
        have y3 : tv9 B n (tS B n q) < 1 ∨ 5 < tv9 B n (tS B n q) := by
          by_cases y3 : tv9 B n (tS B n q) < 1 ∨ 5 < tv9 B n (tS B n q)
          · exact y3
          · rw [if_neg y3] at hk; exact absurd rfl hk
        have fin : wI (wA d 45 (fu f 8 0)) 45 8 2 = wA d 45 (fu f 8 2) := by rw [wA_wI, fu_2]
        rw [if_pos y2, if_pos y2, if_pos y3, gd_pos (by decide), if_pos rfl, f5, gd_pos (by omega), lt_pos, fin, wA_at, fu_s]
        by_cases y4 : tv9 B n (tS B n q) < 1
        · rw [if_pos y4, gd_pos (by decide), if_neg (by decide)]; rfl
        · rw [if_neg y4, gd_pos (by omega), if_neg (by omega), gd_pos (by decide), if_neg (by decide)]; rfl
      · rw [if_neg y2, if_neg y2, gd_pos (by decide), if_neg (by decide), gd_pos (by decide), if_neg (by decide)]; rfl
    · rw [if_neg y1, if_neg y1, gd_pos (by decide), if_neg (by decide), gd_pos (by decide), if_neg (by decide)]; rfl
theorem rr_6 (hB : Tp9 B n) (h44 : ∀ j, j < n → d0.1 44 j = B j) (hq : q ≤ n) (h : tR B n (tS B n q) = 1 ∧ tW B (tS B n q) (tE B n (tS B n q)) 1) (hR : Rr9 n d0 (tE B n (tS B n q)) 7 k T a b td ft pl k9 T9) : Rr9 n d0 q 6 k T a b td ft pl k9 T9 := by
  obtain ⟨t1, t2⟩ := te_in (B := B) hq (by rw [h.1]; decide)
  refine rr_step hB h44 t1 (fun d f h1 h2 h3 => ⟨wA d 45 (fu f 6 ((7 : Nat) : Int)), ?_, ?_⟩) hR
  · have f6 := h1.f6 h3
    have f4 : f 4 = 2 := (h2.2.2.2.1 h.1).2.1 (fun z => tW_x z h.2) h.2
    unfold X4_useToken
    rw [wA_at, f6, f4, gd_pos (by decide), if_neg (by decide), if_neg (by decide), if_neg (by decide), if_neg (by decide), if_neg (by decide), if_neg (by decide), if_pos (by decide), gd_pos (by decide), if_pos rfl, lt_pos, wA_wI]; rfl
  · exact h1.tk h3 (fun _ => by omega) ⟨by rw [fu_n (by decide)]; exact h2.1, t2⟩ (by rw [fu_s]) (fun j hj => fu_n (by omega)) (fun z => by rw [fu_n (by decide)]; exact h1.f11 h3 (by omega)) (fun z => by rw [fu_n (by decide)]; exact h1.f12 h3 (by omega)) (by rw [fu_n (by decide)]; exact h1.f13 h3)
/-- one more of a kind in a sum -/
def pt9 (T : Nat → Int) (a b v : Nat) : Nat → Int := fu (fu T (ti a b v) (T (ti a b v) + 1)) (ti b a v) (T (ti a b v) + 1)
theorem rr_p (hB : Tp9 B n) (h44 : ∀ j, j < n → d0.1 44 j = B j) (hq : q ≤ n) {ex : Nat} (hx : (ex = 6 ∧ ¬ (tR B n (tS B n q) = 1 ∧ tW B (tS B n q) (tE B n (tS B n q)) 1)) ∨ ex = 9) : (kf9 B n (tS B n q) 0 k = 0 → ∀ v : Nat, tv9 B n (tS B n q) = v → (T (ti a b v) ≠ 9 → Rr9 n d0 (tE B n (tS B n q)) 8 k (pt9 T a b v) a b td ft pl k9 T9 → Rr9 n d0 q ex k T a b td ft pl k9 T9) ∧ (T (ti a b v) = 9 → Rr9 n d0 q ex k T a b td 2 (tS B n q) k9 T9)) ∧ (kf9 B n (tS B n q) 0 k ≠ 0 → Rr9 n d0 q ex k T a b td (kf9 B n (tS B n q) 0 k) (tS B n q) k9 T9) := by
  obtain ⟨s1, s2, -⟩ := tS_bd (B := B) hq
  have use : ∀ d f, CD9 n d0 q ex k T a b td d → CT9 B n (tS B n q) f → Fo9 f (d.1 45) → X4_useToken 45 (wA d 45 f) = (bd (X4_usePart 45 (wA d 45 f)) fun _ d17 => some (((), d17))) := fun d f h1 h2 h3 => by
    have f6 := h1.f6 h3
    have b9 := h2.bd
    unfold X4_useToken
    rw [wA_at, f6]
    rcases hx with ⟨rfl, hx⟩ | rfl
    · have f4 : ¬ f 4 = 2 := fun z => hx (by rcases h2.all with y | y | y | y | y | y | y | y <;> first | exact ⟨y.2.1, y.2.2.2⟩ | omega)
      rw [gd_pos (by decide), if_neg (by decide), if_neg (by decide), if_neg (by decide), if_neg (by decide), if_neg (by decide), if_neg (by decide), if_pos (by decide), gd_pos (by omega), if_neg f4]
    · rw [gd_pos (by decide), if_neg (by decide), if_neg (by decide), if_neg (by decide), if_neg (by decide), if_neg (by decide), if_neg (by decide), if_neg (by decide), if_neg (by decide), if_neg (by decide)]
  have h6 : 6 ≤ ex := by omega
  have kfa : ∀ d f, CD9 n d0 q ex k T a b td d → CT9 B n (tS B n q) f → X4_kindFault 45 0 (wA d 45 f) = some (kf9 B n (tS B n q) 0 k) ∧ (kf9 B n (tS B n q) 0 k = 0 → tR B n (tS B n q) ≠ 0 ∧ f 5 = tv9 B n (tS B n q) ∧ (0 : Int) ≤ tv9 B n (tS B n q) ∧ tv9 B n (tS B n q) < k) ∧ 0 ≤ kf9 B n (tS B n q) 0 k ∧ kf9 B n (tS B n q) 0 k ≤ 3 := fun d f h1 h2 => by
    obtain ⟨t1, t2, t3⟩ := h1.2.2.2.2.2.2 (by omega)
    exact x4_kf (l := 0) s2 h2 (by decide) t1 t2.2
  refine ⟨fun hk v hv => ?_, fun hk => ?_⟩
  · have r0 : tR B n (tS B n q) ≠ 0 := fun z => by unfold kf9 at hk; rw [if_neg (by rw [z]; decide)] at hk; cases hk
    have pre9 : ∀ d f, CD9 n d0 q ex k T a b td d → CT9 B n (tS B n q) f → Fo9 f (d.1 45) → (a < 5 ∧ b < 5 ∧ v < 5) ∧ 0 ≤ T (ti a b v) ∧ T (ti a b v) ≤ 9 ∧ X4_usePart 45 (wA d 45 f) = (gd (inR (T (ti a b v) + 1) ∧ inR 9) <| if T (ti a b v) + 1 ≤ 9 then (some ((), wI (wI (wI (wA d 45 f) 39 (ti a b v) (T (ti a b v) + 1)) 39 (ti b a v) (T (ti a b v) + 1)) 45 6 8)) else some ((), wA d 45 (fu f 8 2))) := fun d f h1 h2 h3 => by
      obtain ⟨k1, k2, k3⟩ := kfa d f h1 h2
      obtain ⟨-, v1, v2, v3⟩ := k2 hk
      obtain ⟨a1, a2, a3⟩ := h1.f11 h3 (by omega)
      obtain ⟨b1, b2, b3⟩ := h1.f12 h3 (by omega)
      obtain ⟨c1, c2, c3⟩ := h1.2.2.2.2.2.2 (by omega)
      have f8 : f 8 = 0 := by rw [h3 8 (by decide) (by decide) (by decide) (by decide)]; exact h1.2.2.1.2.2.2.2.2.1
      have ha : a < 5 := by omega
      have hb : b < 5 := by omega
      have hv5 : v < 5 := by omega
      obtain ⟨y1, y2, y3⟩ := c3 (ti a b v) (ti_lt5 ha hb hv5)
      refine ⟨⟨ha, hb, hv5⟩, y2, y3, ?_⟩
      unfold X4_usePart
      have at9 := x4_at (d := wA d 45 f) ha hb hv5
      rw [wA_ne (by decide), y1] at at9
      rw [b1_pos k1, hk, lt_pos, wA_wI, fu_id f8, wA_at, f8, a1, b1, v1, hv, gd_pos (by decide), if_pos rfl, b1_pos at9, lt_pos]
      by_cases y9 : T (ti a b v) + 1 ≤ 9
      · rw [if_pos y9, if_pos y9, bd_pos (x4_put ha hb hv5)]
        have z45 : (wI (wA d 45 f) 39 (ti a b v) (T (ti a b v) + 1)).1 45 = f := by rw [wI_ne (by decide), wA_at]
        rw [z45, a1, b1, v1, hv, bd_pos (x4_put hb ha hv5), lt_pos]
      · rw [if_neg y9, if_neg y9, lt_pos, wA_wI]
    refine ⟨fun h9 hR => ?_, fun h9 => ?_⟩
    · obtain ⟨t1, t2⟩ := te_in (B := B) hq r0
      refine rr_step hB h44 t1 (fun d f h1 h2 h3 => ?_) hR
      obtain ⟨⟨ha, hb, hv5⟩, y2, y3, e1⟩ := pre9 d f h1 h2 h3
      rw [gd_pos (by omega), if_pos (by omega)] at e1
      generalize hD : wI (wI (wI (wA d 45 f) 39 (ti a b v) (T (ti a b v) + 1)) 39 (ti b a v) (T (ti a b v) + 1)) 45 6 8 = D at e1
      refine ⟨D, by rw [use d f h1 h2 h3, bd_pos e1], ?_⟩
      obtain ⟨c1, c2, ⟨c3, c4, c5, c6, c7, c8, c9⟩, c10, c11, c12, c13⟩ := id h1
      have e45 : D.1 45 = fu f 6 8 := by rw [← hD, wI_at, wI_ne (by decide), wI_ne (by decide), wA_at]
      have eo : ∀ c, c ≠ 45 → c ≠ 39 → D.1 c = d.1 c := fun c z1 z2 => by rw [← hD, wI_ne z1, wI_ne z2, wI_ne z2, wA_ne z1]
      have e39 : D.1 39 = fu (fu (d.1 39) (ti a b v) (T (ti a b v) + 1)) (ti b a v) (T (ti a b v) + 1) := by rw [← hD, wI_ne (by decide), wI_at, wI_at, wA_ne (by decide)]
      have o : ∀ j, j ≠ 2 → j ≠ 3 → j ≠ 4 → j ≠ 5 → j ≠ 6 → fu f 6 8 j = d.1 45 j := fun j z1 z2 z3 z4 z5 => by rw [fu_n z5]; exact h3 j z1 z2 z3 z4
      unfold CD9
      rw [e45, eo 38 (by decide) (by decide), e39]
      refine ⟨fun c z1 z2 z3 => by rw [eo c z1 z3]; exact c1 c z1 z2 z3, by rw [← hD]; exact c2, ⟨by rw [o 1 (by decide) (by decide) (by decide) (by decide) (by decide)]; exact c3, by rw [fu_n (by decide)]; exact h2.1, t2, by rw [fu_s]; rfl, by rw [o 7 (by decide) (by decide) (by decide) (by decide) (by decide)]; exact c7, by rw [o 8 (by decide) (by decide) (by decide) (by decide) (by decide)]; exact c8, by rw [o 9 (by decide) (by decide) (by decide) (by decide) (by decide)]; exact c9⟩, fun z => by rw [o 11 (by decide) (by decide) (by decide) (by decide) (by decide)]; exact c10 (by omega), fun z => by rw [o 12 (by decide) (by decide) (by decide) (by decide) (by decide)]; exact c11 (by omega), by rw [o 13 (by decide) (by decide) (by decide) (by decide) (by decide)]; exact c12, fun _ => ?_⟩
      obtain ⟨x1, x2, x3⟩ := c13 (by omega)
      refine ⟨x1, x2, fun q hq => ?_⟩
      unfold pt9
      obtain ⟨w1, w2, w3⟩ := x3 q hq
      by_cases z2 : q = ti b a v
      · rw [z2, fu_s, fu_s]; omega
      · rw [fu_n z2, fu_n z2]
        by_cases z1 : q = ti a b v
        · rw [z1, fu_s, fu_s]; omega
        · rw [fu_n z1, fu_n z1]; exact ⟨w1, w2, w3⟩
    · refine rr_bad hB h44 (by decide) (fun d f h1 h2 h3 => ⟨fu f 8 2, ?_, by rw [fu_s], by rw [fu_n (by decide)]⟩)
      obtain ⟨⟨ha, hb, hv5⟩, y2, y3, e1⟩ := pre9 d f h1 h2 h3
      rw [gd_pos (by omega), if_neg (by omega)] at e1
      rw [use d f h1 h2 h3, bd_pos e1]
  · refine rr_bad hB h44 ?_ (fun d f h1 h2 h3 => ⟨fu f 8 (kf9 B n (tS B n q) 0 k), ?_, by rw [fu_s], by rw [fu_n (by decide)]⟩)
    · unfold kf9 at hk ⊢
      repeat' split
      all_goals first | omega | (exfalso; apply hk; simp_all)
    · obtain ⟨k1, k2, k3⟩ := kfa d f h1 h2
      rw [use d f h1 h2 h3]
      unfold X4_usePart
      rw [b1_pos k1, lt_pos, wA_wI, wA_at, fu_s, gd_pos (by omega), if_neg hk]
      rfl
end

/-! ===== take: the step ===== -/
theorem Wt.cong {V V' : Nat → Nat → Nat → Int} {lr : Nat} {f0 f : Nat → Int} {S : Nat → Nat → Nat → Prop} (h : Wt V lr f0 S f) (e : ∀ i j k, In3 lr i j k → V i j k = V' i j k) : Wt V' lr f0 S f := ⟨fun i j k hi z => by rw [h.1 i j k hi z, e i j k hi], h.2⟩
theorem Wt.TG9 {V : Nat → Nat → Nat → Int} {lr : Nat} {f0 f g : Nat → Int} (h : Wt V lr f0 (fun _ _ _ => True) f) (h1 : 1 ≤ lr) (h5 : lr ≤ 5) (s : St (pre g (fun _ => 0) 125) (bgS lr) f0) (hV : ∀ i j k, In3 lr i j k → 0 ≤ V i j k ∧ V i j k ≤ 9) : TG f lr := by
  have vb : ∀ q, q < 125 → 0 ≤ f0 q ∧ f0 q ≤ 9 := fun q hq => by
    by_cases c : bgS lr q
    · rw [(s q).1 c]; omega
    · rw [(s q).2 c, pre_lt hq]; omega
  refine ⟨⟨h1, h5⟩, fun q hq => ?_, fun i j k hi hj hk hz => ?_, fun j k hj hk => ?_, fun j k hj hk => ?_⟩
  · by_cases c : ∃ i j k, In3 lr i j k ∧ q = ti i j k
    · obtain ⟨i, j, k, a, rfl⟩ := c
      rw [h.1 i j k a trivial]
      exact hV i j k a
    · rw [h.2 q (fun i j k a e => c ⟨i, j, k, a, e⟩)]
      exact vb q hq
  · rw [h.2 _ (fun i' j' k' a e => by
      obtain ⟨x1, x2, x3⟩ := a
      obtain ⟨rfl, rfl, rfl⟩ := ti_inj hj hk (by omega) (by omega) e
      omega), (s _).2 (fun ⟨q, hq, z⟩ => by
      rcases z with z | z
      · obtain ⟨rfl, rfl, rfl⟩ := ti_inj hj hk (by omega) (by omega) z
        omega
      · obtain ⟨rfl, rfl, rfl⟩ := ti_inj hj hk (by omega) (by omega) z
        omega), pre_lt (ti_lt hi hj hk)]
  · rw [h.2 _ (fun i' j' k' a e => by
      obtain ⟨x1, x2, x3⟩ := a
      obtain ⟨y1, y2, y3⟩ := ti_inj (by omega) (by omega) (by omega) (by omega) e
      omega)]
    by_cases c : j = k
    · subst c
      rw [if_pos rfl, (s _).1 ⟨j, hj, Or.inl rfl⟩]
    · rw [if_neg c, (s _).2 (fun ⟨q, hq, z⟩ => by
        rcases z with z | z
        · obtain ⟨y1, y2, y3⟩ := ti_inj (by omega) (by omega) (by omega) (by omega) z
          omega
        · obtain ⟨y1, y2, y3⟩ := ti_inj (by omega) (by omega) (by omega) (by omega) z
          omega), pre_lt (ti_lt (by omega) (by omega) (by omega))]
  · rw [h.2 _ (fun i' j' k' a e => by
      obtain ⟨x1, x2, x3⟩ := a
      obtain ⟨y1, y2, y3⟩ := ti_inj (by omega) (by omega) (by omega) (by omega) e
      omega)]
    by_cases c : j = k
    · subst c
      rw [if_pos rfl, (s _).1 ⟨j, hj, Or.inr rfl⟩]
    · rw [if_neg c, (s _).2 (fun ⟨q, hq, z⟩ => by
        rcases z with z | z
        · obtain ⟨y1, y2, y3⟩ := ti_inj (by omega) (by omega) (by omega) (by omega) z
          omega
        · obtain ⟨y1, y2, y3⟩ := ti_inj (by omega) (by omega) (by omega) (by omega) z
          omega), pre_lt (ti_lt (by omega) (by omega) (by omega))]
theorem Wt.eq9 {V : Nat → Nat → Nat → Int} {lr : Nat} {f0 f g g0 f' g' : Nat → Int} (h : Wt V lr f0 (fun _ _ _ => True) f) (s : St (pre g (fun _ => 0) 125) (bgS lr) f0) (h' : Wt V lr g0 (fun _ _ _ => True) f') (s' : St (pre g' (fun _ => 0) 125) (bgS lr) g0) (q : Nat) (hq : q < 125) : f q = f' q := by
  by_cases c : ∃ i j k, In3 lr i j k ∧ q = ti i j k
  · obtain ⟨i, j, k, a, rfl⟩ := c
    rw [h.1 i j k a trivial, h'.1 i j k a trivial]
  · have c' : ∀ i j k, In3 lr i j k → q ≠ ti i j k := fun i j k a e => c ⟨i, j, k, a, e⟩
    rw [h.2 q c', h'.2 q c']
    by_cases b : bgS lr q
    · rw [(s q).1 b, (s' q).1 b]
    · rw [(s q).2 b, (s' q).2 b, pre_lt hq, pre_lt hq]
theorem Inv.lst {k : Nat} {x : XS} (h : Inv k x) : ∃ la : Nat, LI9 x.1.1 la (xzc x) := by
  obtain ⟨-, r, p, m, D, U, tp, kr, la, -, -, -, -, hL, -⟩ := h
  exact ⟨la, hL⟩
def fg0 (lb code n : Nat) : Nat → Int := fun q => (dg9 (lb + 1) code n q : Int)
theorem tkV_fg {lr w lb code : Nat} {g : Nat → Int} (hq : (lr, w) ∈ lw5) (i j k : Nat) (h : In3 lr i j k) : tkV lr w (fgR g (lb + 1) code (gcn lr w) 0) i j k = tkV lr w (fg0 lb code (gcn lr w)) i j k := by
  unfold tkV
  by_cases c : k = 0
  · rw [if_pos c, if_pos c]
  · rw [if_neg c, if_neg c]
    obtain ⟨l1, l2, -⟩ := dl9_bd hq h.2.2
    have := grp_lt hq h.1.1 h.1.2 h.2.1.1 h.2.1.2 (l2 (by omega)) l1
    unfold fgR
    rw [if_pos ⟨Nat.zero_le _, this⟩]
    rfl
theorem tkV_bd {lr w lb code n : Nat} (hl : lb ≤ 5) (i j k : Nat) : 0 ≤ tkV lr w (fg0 lb code n) i j k ∧ tkV lr w (fg0 lb code n) i j k ≤ 9 := by
  unfold tkV
  by_cases c : k = 0
  · rw [if_pos c]
    by_cases c2 : dl9 lr w i = j
    · rw [if_pos c2]; omega
    · rw [if_neg c2]; omega
  · rw [if_neg c]
    unfold fg0 dg9
    have := Nat.mod_lt (code / (lb + 1) ^ (n - 1 - grp lr w i j (dl9 lr w k))) (show lb + 1 > 0 by omega)
    omega
/-- the class fills its table -/
theorem x2_fill {d : DA} {lr lb ow i code w zc : Nat} (hq : (lr, w) ∈ lw5) (h0 : d.1 46 0 = lr) (h1 : d.1 46 1 = lb) (hl : lb ≤ 5) (h3 : d.1 46 3 = ow) (ho : ow < 2147483648) (hi : i < zc) (hz : i < 4000) (hw : w = if i < ow then 0 else 1) (hc : d.1 47 i = code) (hc9 : code ≤ 100000) : ∃ D f0 f, X2_fill 46 5 zc i d = some ((), wA (wI D 5 0 lr) 6 f) ∧ (∀ c j, rel c j = true → D.1 c j = d.1 c j) ∧ D.2 = d.2 ∧ St (pre (d.1 6) (fun _ => 0) 125) (bgS lr) f0 ∧ Wt (tkV lr w (fg0 lb code (gcn lr w))) lr f0 (fun _ _ _ => True) f := by
  obtain ⟨q2, q4, qw, -⟩ := lw5_bd hq
  obtain ⟨fd, g, u, e1, e2, e3, -⟩ := x2_arr h0 hq
  obtain ⟨n1, n10⟩ := gcn_bd hq
  generalize hd1 : lsG (wA d 48 fd) (g, u, gcn lr w) = d1 at e1
  have o1 : ∀ c, c ≠ 46 → c ≠ 48 → c ≠ 49 → c ≠ 50 → d1.1 c = d.1 c := fun c y1 y2 y3 y4 => by rw [← hd1, lsG_o y1 y3 y4, wA_ne y2]
  have o46 : ∀ j, j ≠ 8 → d1.1 46 j = d.1 46 j := fun j y => by rw [← hd1, lsG_46 y, wA_ne (by decide)]
  have a48 : d1.1 48 = fd := by rw [← hd1, lsG_o (by decide) (by decide) (by decide), wA_at]
  have a49 : d1.1 49 = g := by rw [← hd1]; exact lsG_49
  have a8 : d1.1 46 8 = (gcn lr w : Int) := by rw [← hd1]; exact lsG_8
  have hf := x2_figs (d := d1) (zc := zc) (code := code) (n := gcn lr w) (by rw [o46 1 (by decide)]; exact h1) hl n10 n1 hc9 (fun e => X2_fill_j67 46 5 zc e)
  generalize hd2 : wA d1 51 (fgR (d1.1 51) (lb + 1) code (gcn lr w) 0) = d2 at hf
  have z46 : d2.1 46 0 = lr := by rw [← hd2, wA_ne (by decide), o46 0 (by decide)]; exact h0
  obtain ⟨⟨u0, D0⟩, b1, f0, hD0, hS0⟩ := x8_begin (d := d2) (o := 5) (r := lr) (by omega)
  have hD0' : D0 = wA (wI d2 5 0 (lr : Int)) 6 f0 := hD0
  have b1' : X8_begin 5 lr d2 = some (u0, D0) := b1
  have hLs : LsA (wI d2 5 0 (lr : Int)) lr w := by
    refine ⟨by rw [wI_ne (by decide)]; exact z46, fun a ha => ?_, fun a b c a1 a2 b1 b2 c1 c2 => ?_⟩
    · rw [wI_ne (by decide), ← hd2, wA_ne (by decide), a48]; exact e2 a ha
    · rw [wI_ne (by decide), ← hd2, wA_ne (by decide), a49]; exact e3 a b c a1 a2 b1 b2 c1 c2
  have h51 : (wI d2 5 0 (lr : Int)).1 51 = fgR (d1.1 51) (lb + 1) code (gcn lr w) 0 := by rw [wI_ne (by decide), ← hd2, wA_at]
  obtain ⟨⟨u1, D1⟩, l1, f, hD1, hW⟩ := x2_lay (zc := zc) (f0 := f0) hq hLs h51
  have hD1' : D1 = wA (wI d2 5 0 (lr : Int)) 6 f := hD1
  have d26 : d2.1 6 = d.1 6 := by rw [← hd2, wA_ne (by decide), o1 6 (by decide) (by decide) (by decide) (by decide)]
  have hS0' : St (pre (d2.1 6) (fun _ => 0) 125) (bgS lr) f0 := hS0
  refine ⟨d2, f0, f, ?_, fun c j hr => ?_, by rw [← hd2, ← hd1]; rfl, by rw [← d26]; exact hS0', hW.cong (tkV_fg hq)⟩
  · have j14 : X2_fill_j14 46 5 zc i w d = some ((), wA (wI d2 5 0 (lr : Int)) 6 f) := by
      unfold X2_fill_j14
      have c47 : d1.1 (46 + 1) i = code := by
        show d1.1 47 i = _
        rw [o1 47 (by decide) (by decide) (by decide) (by decide)]; exact hc
      rw [bd_pos e1, gd_pos (by omega), Int.toNat_natCast, c47, lt_pos, lt_pos, a8, hf]
      unfold X2_fill_j67
      rw [z46, bd_pos b1', hD0', l1, hD1']
    unfold X2_fill
    rw [h3, gd_pos (by omega)]
    by_cases c : i < ow
    · rw [if_pos c] at hw
      subst hw
      rw [if_pos (by omega)]; exact j14
    · rw [if_neg c] at hw
      subst hw
      rw [if_neg (by omega)]; exact j14
  · by_cases y1 : c = 46
    · subst y1
      have : j < 4 := by have : decide (j < 4) = true := hr; simpa using this
      rw [← hd2, wA_ne (by decide), o46 j (by omega)]
    · rw [← hd2, wA_ne (fun e => by subst e; cases hr), o1 c y1 (fun e => by subst e; cases hr) (fun e => by subst e; cases hr) (fun e => by subst e; cases hr)]
/-- the reference takes its table -/
theorem x12_take {d : DA} {lr lb i code w la : Nat} (hq : (lr, w) ∈ lw5) (h33 : d.1 113 33 = la) (h34 : d.1 113 34 = lr) (h35 : d.1 113 35 = lb) (hl : lb ≤ 5) (hi : i < la) (hz : la ≤ 4000) (hw : d.1 130 i = w) (hc : d.1 129 i = code) (hc9 : code ≤ 100000) : ∃ d' e f0 f, X12_take 113 i d = some ((lr : Int), d') ∧ Sm d e ∧ e.2 = d.2 ∧ e.1 113 0 = 0 ∧ MNew e d' lr (pre (d.1 114) f 125) ∧ St (pre (d.1 116) (fun _ => 0) 125) (bgS lr) f0 ∧ Wt (tkV lr w (fg0 lb code (gcn lr w))) lr f0 (fun _ _ _ => True) f := by
  obtain ⟨q2, q4, qw, -⟩ := lw5_bd hq
  obtain ⟨n1, n10⟩ := gcn_bd hq
  have hI := (x12_isIn (d := wI d 113 0 0) (v := (i : Int)) (a := 0) (b := (la : Int) - 1) (by omega) (by omega) (by omega)).1 (by omega)
  obtain ⟨g, e1, e2⟩ := x12_tg (d := wI d 113 0 0) hq
  generalize hd3 : mdG (wI d 113 0 0) (g, gcn lr w) = d3 at e1
  have o3 : ∀ c, c ≠ 113 → c ≠ 131 → d3.1 c = d.1 c := fun c y1 y2 => by rw [← hd3]; unfold mdG; rw [wA_ne y2, wI_ne y1, wI_ne y1]
  have o113 : ∀ j, j ≠ 36 → d3.1 113 j = (wI d 113 0 0).1 113 j := fun j y => by rw [← hd3]; unfold mdG; rw [wA_ne (by decide), wI_at, fu_n y]
  have a36 : d3.1 113 36 = (gcn lr w : Int) := by rw [← hd3]; unfold mdG; rw [wA_ne (by decide), wI_at, fu_s]
  have a131 : d3.1 131 = g := by rw [← hd3]; unfold mdG; rw [wA_at]
  have e4 := x12_figs (d := d3) (lb := lb) (code := code) (n := gcn lr w) a36 hl n10 n1 hc9
  generalize hd4 : wA d3 132 (fgR (d3.1 132) (lb + 1) code (gcn lr w) 0) = d4 at e4
  obtain ⟨⟨u5, d5⟩, e5, f0, f, h5, hS, hW⟩ := x12_lay (d := d4) (fg := fgR (d3.1 132) (lb + 1) code (gcn lr w) 0) hq (fun a b c a1 a2 b1 b2 c1 c2 => by rw [← hd4, wA_ne (by decide), a131]; exact e2 a b c a1 a2 b1 b2 c1 c2) (by rw [← hd4, wA_at])
  have h5' : d5 = wA (wI d4 113 3 (lr : Int)) 116 f := h5
  have d53 : d5.1 113 3 = lr := by rw [h5']; rfl
  obtain ⟨⟨u6, d6⟩, e6, hM⟩ := x12_takeRead d53
  have hM' : MNew d5 d6 lr (pre (d5.1 114) (d5.1 116) 125) := hM
  have w114 : d5.1 114 = d.1 114 := by rw [h5', wA_ne (by decide), wI_ne (by decide), ← hd4, wA_ne (by decide), o3 114 (by decide) (by decide)]
  have w116 : d5.1 116 = f := by rw [h5', wA_at]
  have w4 : d4.1 116 = d.1 116 := by rw [← hd4, wA_ne (by decide), o3 116 (by decide) (by decide)]
  rw [w114, w116] at hM'
  rw [w4] at hS
  have r113 : ∀ j, j ≠ 0 → j ≠ 3 → j ≠ 36 → d5.1 113 j = d.1 113 j := fun j y0 y3 y36 => by
    rw [h5', wA_ne (by decide), wI_at, fu_n y3, ← hd4, wA_ne (by decide), o113 j y36, wI_at, fu_n y0]
  refine ⟨d6, d5, f0, f, ?_, fun c j hr => ?_, ?_, ?_, hM', hS, hW.cong (tkV_fg hq)⟩
  · unfold X12_take
    have x33 : (wI d 113 0 0).1 113 33 = la := h33
    have x34 : (wI d 113 0 0).1 113 34 = lr := h34
    have x130 : (wI d 113 0 0).1 (113 + 17) i = w := hw
    have y129 : d3.1 (113 + 16) i = code := by
      show d3.1 129 i = _
      rw [o3 129 (by decide) (by decide)]; exact hc
    have y35 : d3.1 113 35 = lb := by rw [o113 35 (by decide)]; exact h35
    have y34 : d4.1 113 34 = lr := by rw [← hd4, wA_ne (by decide), o113 34 (by decide)]; exact h34
    have y130 : d4.1 (113 + 17) i = w := by
      show d4.1 130 i = _
      rw [← hd4, wA_ne (by decide), o3 130 (by decide) (by decide)]; exact hw
    rw [lt_pos, x33, b1_pos hI, gd_pos (by omega), if_neg (by decide), gd_pos (by omega), Int.toNat_natCast, x34, x130, bd_pos e1, gd_pos (by omega), y129, y35, bd_pos e4, gd_pos (by omega), y34, y130, bd_pos e5, bd_pos e6]
    have : d6.1 113 1 = lr := hM'.2.2.2.1
    rw [this]
  · by_cases y : c = 113
    · subst y
      have hr' : relL.contains j = true := hr
      exact r113 j (fun e => by subst e; cases hr') (fun e => by subst e; cases hr') (fun e => by subst e; cases hr')
    · rw [h5', wA_ne (fun e => by subst e; cases hr), wI_ne y, ← hd4, wA_ne (fun e => by subst e; cases hr), o3 c y (fun e => by subst e; cases hr)]
  · rw [h5', ← hd4, ← hd3]; rfl
  · rw [h5', wA_ne (by decide), wI_at, fu_n (by decide), ← hd4, wA_ne (by decide), o113 0 (by decide)]; rfl
theorem st_13 {Ln k : Nat} {sc : Int → Int} {x : XS} (h : Inv k x) (hk : k < 512) (h0 : 0 ≤ 8 * (k : Int) ∧ 8 * (k : Int) + 8 ≤ (Ln : Int)) (hL : Ln ≤ 4096) (hsc : ScR sc) (hop : iand9 (sc (8 * (k : Int))) 31 = 13) : Step9 Ln sc k x := by
  unfold Step9
  rw [br_13 h0 hL hop]
  simp only [gd_pos (show ix (8 * (k : Int) + 1) Ln from (by omega))]
  have hv := hsc (8 * (k : Int) + 1)
  generalize sc (8 * (k : Int) + 1) = v at hv
  obtain ⟨la, l1, l2, l3, l4, l5⟩ := h.lst
  by_cases c : 0 ≤ v ∧ v < la
  · obtain ⟨i, rfl⟩ : ∃ i : Nat, v = i := ⟨v.toNat, by omega⟩
    obtain ⟨lr, lb, ow, b1, b2, b3, b4, b5, b6, b7, b8, b9⟩ := l5 (by omega)
    obtain ⟨c1, c2, c3, c4⟩ := b9 i (by omega)
    obtain ⟨code, hcode⟩ : ∃ c : Nat, x.1.1 129 i = c := ⟨(x.1.1 129 i).toNat, by omega⟩
    obtain ⟨w, hw⟩ : ∃ w : Nat, w = if i < ow then 0 else 1 := ⟨_, rfl⟩
    have w1 : w ≤ 1 := by rw [hw]; split <;> omega
    have hq : (lr, w) ∈ lw5 := lw5_of b5.1 b5.2 w1 (fun e => by rw [hw, if_pos (by have := b8.1 e; omega)])
    have c4' : x.1.1 130 i = w := by
      rw [c4, hw]; split <;> rfl
    have how : ow < 2147483648 := by have := b8.2; omega
    · obtain ⟨D, f0, f, e1, e2, e3, e4, e5⟩ := x2_fill (d := x.1) (zc := xzc x) hq b1 b3 b6.2.1 b7 how (show i < xzc x by omega) (by omega) hw (c1.trans hcode) (by omega)
      have hT : TG f lr := e5.TG9 (by omega) (by omega) e4 (fun i j k _ => tkV_bd b6.2.1 i j k)
      generalize hd8 : wA (wI D 5 0 (lr : Int)) 6 f = d8 at e1
      have d85 : d8.1 5 0 = lr := by rw [← hd8]; rfl
      have d86 : d8.1 6 = f := by rw [← hd8, wA_at]
      have nb8 : Nb d8 5 := fun j hj => by show 0 ≤ d8.1 6 j ∧ d8.1 6 j ≤ 9; rw [d86]; exact hT.2.1 j hj
      obtain ⟨⟨u2, d4⟩, e6, hF⟩ := x11_begin d85 (by omega) nb8
      have hF' : Fgt d8 d4 lr := hF
      have d45 : d4.1 5 0 = lr := by rw [hF'.1 5 0 rfl (by decide) (by decide) (by decide) (by decide) (by decide) (by decide) (by decide) (by decide) (by decide)]; exact d85
      have eC : X11_take (i : Int) x = some (.inl (lr : Int), xD (xD x d8) d4) := by
        unfold X11_take
        have z := h.z.2.1
        have l1' : x.1.1 46 2 = la := l1
        rw [gd_pos (by omega), if_neg (by omega), l1', gd_pos (by omega), if_pos (by omega), gd_pos (by omega), bd_pos e1, lt_pos, bd_pos (show X11_beginAgain 1 (xD x d8).1 = some (u2, d4) from e6), lt_pos]
        show some (Sum.inl (d4.1 5 0), _) = _
        rw [d45]
      refine both2 (en := 1) (f := fun x => L_law__j935_23 Ln sc (8 * (k : Int)) x) (M := fun d => X12_take 113 i d) (x2 := xD (xD x d8) d4) (v := (lr : Int)) ⟨Or.inl ⟨rfl, eC⟩, Nat.le_refl _, Nat.le_refl _⟩ (by omega) (Or.inl rfl) (w := (lr : Int)) (by omega) (fun _ => rfl) (fun x3 hx3 hx4 => ?_)
      have hx3' : x3.1.1 = d4.1 := hx3
      have d8x : ∀ c j, rel c j = true → c ≠ 5 → c ≠ 6 → d8.1 c j = x.1.1 c j := fun c j hr y5 y6 => by rw [← hd8, wA_ne y6, wI_ne y5, e2 c j hr]
      have x3x : ∀ c j, rel c j = true → c ≠ 2 → c ≠ 3 → c ≠ 12 → c ≠ 13 → c ≠ 54 → c ≠ 61 → c ≠ 68 → c ≠ 69 → c ≠ 81 → c ≠ 5 → c ≠ 6 → x3.1.1 c j = x.1.1 c j := fun c j hr z1 z2 z3 z4 z5 z6 z7 z8 z9 y1 y2 => by
        rw [hx3', hF'.1 c j hr z1 z2 z3 z4 z5 z6 z7 z8 z9, d8x c j hr y1 y2]
      have t : ∀ c j, rel c j = true → 100 ≤ c → x3.1.1 c j = x.1.1 c j := fun c j hr hc => x3x c j hr (by omega) (by omega) (by omega) (by omega) (by omega) (by omega) (by omega) (by omega) (by omega) (by omega) (by omega)
      obtain ⟨d', e, g0, g, m1, m2, m3, m4, m5, m6, m7⟩ := x12_take (d := x3.1) (i := i) (la := la) hq ((t 113 33 rfl (by omega)).trans l2) ((t 113 34 rfl (by omega)).trans b2) ((t 113 35 rfl (by omega)).trans b4) b6.2.1 (by omega) l3 ((t 130 i rfl (by omega)).trans c4') ((t 129 i rfl (by omega)).trans hcode) (by omega)
      obtain ⟨r0, -, -, -, t3, -, -, -⟩ := h.tab
      have w114 : x3.1.1 114 = x.1.1 114 := funext fun j => t 114 j rfl (by omega)
      rw [w114] at m5
      have hMr : MNr x3.1 d' lr (pre (x.1.1 114) g 125) := m5.rel m2
      have hfg : ∀ q, q < 125 → f q = g q := fun q hq => e5.eq9 e4 m7 m6 q hq
      have f6 : ∀ q, ¬ q < 125 → f q = x.1.1 6 q := fun q hq => by
        rw [e5.2 q (fun i j k a e => hq (by rw [e]; exact ti_lt (by have := a.1; omega) (by have := a.2.1; omega) (by have := a.2.2; omega))), (e4 q).2 (fun ⟨j, hj, z⟩ => hq (by rcases z with z | z <;> rw [z] <;> exact ti_lt (by omega) (by omega) (by omega))), pre_ge hq]
      have hfp : f = pre (x.1.1 114) g 125 := funext fun q => by
        by_cases cq : q < 125
        · rw [pre_lt cq]; exact hfg q cq
        · rw [pre_ge cq, f6 q cq, t3]
      obtain ⟨p, tp, p1, p2, p3, p4, p5⟩ := h.fld
      have hF9 : Fgt (wA (wI x.1 5 0 (lr : Int)) 6 f) d4 lr := hF'.re (fun c j hr => by
        by_cases z6 : c = 6
        · subst z6; rw [wA_at, d86]
        · rw [wA_ne z6]
          by_cases z5 : c = 5
          · subst z5
            rw [← hd8, wA_ne (by decide), wI_at, wI_at]
            by_cases zj : j = 0
            · subst zj; rw [fu_s, fu_s]
            · rw [fu_n zj, fu_n zj, e2 5 j rfl]
          · rw [wI_ne z5, d8x c j hr z5 z6]) (by rw [← hd8]; exact e3.symm)
      obtain ⟨hN, hP⟩ := newT_of (x := x) (d8 := wA (wI x.1 5 0 (lr : Int)) 6 f) (fun c z1 z2 => by rw [wA_ne z2, wI_ne z1]) rfl (by rw [wA_at]; exact hfp) hF9 hx3' hMr (by rw [← hfp]; exact hT) ⟨p1, p2, p3, p4⟩
      refine ⟨d', m1, ?_, by rw [m5.2.1, m3], ?_⟩
      · rw [m5.2.2.1 0 (by decide) (by decide) (by decide) (by decide) (by decide)]; exact m4
      · have hz : x3.2 = x.2 := hx4
        have z := h.1
        exact h.newT hk (x' := xD x3 d') hN (hP tp p5) ⟨by show x3.2.1 = x.2.1; rw [hz], by show x3.2.2.1 = x.2.2.1; rw [hz], by show xe x3 = 0; unfold xe; rw [hz]; exact z.2.2.2.1, by show xok9 x3; unfold xok9 xrt xrb xtt xtn; rw [hz]; exact z.2.2.2.2.1⟩ ⟨by show xc x3 ≤ _; unfold xc; rw [hz]; omega, by show xs x3 ≤ _; unfold xs; rw [hz]; omega⟩
  · refine both (en := 1) (f := fun x => L_law__j935_23 Ln sc (8 * (k : Int)) x) h hk (x2 := xT x) (v := 0) ⟨Or.inr ⟨rfl, ?_⟩, Nat.le_succ _, Nat.le_add_right _ _⟩ (by omega) (Kp.T x) (Or.inr rfl) (w := 0) (by omega) (fun h9 => by omega) (M := fun d => X12_take 113 v d) (fun d hd => ?_)
    · unfold X11_take
      have l1' : x.1.1 46 2 = la := l1
      rw [gd_pos (by omega)]
      by_cases c1 : v < 0
      · rw [if_pos c1]
      · rw [if_neg c1, l1', gd_pos (by omega), if_neg (by omega)]
    · have hI := (x12_isIn (d := wI d 113 0 0) (v := v) (a := 0) (b := (la : Int) - 1) (by omega) (by omega) (by omega)).2 (by omega)
      refine ⟨wI (wI d 113 0 0) 113 0 1, ?_, rfl, (Sm.wI rfl).tr (Sm.wI rfl), rfl⟩
      have hd' : d.1 = x.1.1 := hd
      unfold X12_take
      have x33 : (wI d 113 0 0).1 113 33 = la := by show d.1 113 33 = _; rw [hd']; exact l2
      rw [lt_pos, x33, b1_pos hI, gd_pos (by omega), if_pos rfl]
      rfl

/-! ===== product: the step ===== -/
theorem Wc.val {n kn : Nat → Int} {r kr : Nat} {f0 f : Nat → Int} (h : Wc n kn r kr f0 (fun _ _ _ _ _ _ => True) f) (hk : 1 ≤ kr) {i j k : Nat} (hi : i < r * kr) (hj : j < r * kr) (hk9 : k < r * kr) : f (ti i j k) = pd n kn (i / kr) (j / kr) (k / kr) (i % kr) (j % kr) (k % kr) ∧ pd n kn (i / kr) (j / kr) (k / kr) (i % kr) (j % kr) (k % kr) ≤ 9 := by
  have dl : ∀ i, i < r * kr → i / kr < r ∧ i % kr < kr ∧ i / kr * kr + i % kr = i := fun i hi => ⟨Nat.div_lt_of_lt_mul (by rw [Nat.mul_comm]; omega), Nat.mod_lt _ (by omega), by rw [Nat.mul_comm]; exact Nat.div_add_mod i kr⟩
  obtain ⟨a1, a2, a3⟩ := dl i hi
  obtain ⟨b1, b2, b3⟩ := dl j hj
  obtain ⟨c1, c2, c3⟩ := dl k hk9
  have := h.1 _ _ _ _ _ _ a1 b1 c1 a2 b2 c2 trivial
  rw [a3, b3, c3] at this
  exact this
theorem St.zr {g f : Nat → Int} {R : Nat} (h : St (pre g (fun _ => 0) 125) (bgS R) f) (hR : 1 ≤ R) (q : Nat) (hq : q < 125) (hn : ¬ ∃ i j k, i < R ∧ j < R ∧ k < R ∧ q = ti i j k) : f q = 0 := by
  rw [(h q).2 (fun ⟨j, hj, z⟩ => hn (by
    rcases z with z | z
    · exact ⟨0, j, j, by omega, hj, hj, z⟩
    · exact ⟨j, 0, j, hj, by omega, hj, z⟩)), pre_lt hq]
theorem Wc.eq9 {n kn : Nat → Int} {r kr : Nat} {f0 f g0 g d1 d2 : Nat → Int} (h1 : Wc n kn r kr f0 (fun _ _ _ _ _ _ => True) f) (h2 : Wc n kn r kr g0 (fun _ _ _ _ _ _ => True) g) (hk : 1 ≤ kr) (hR : 1 ≤ r * kr) (s1 : St (pre d1 (fun _ => 0) 125) (bgS (r * kr)) f0) (s2 : St (pre d2 (fun _ => 0) 125) (bgS (r * kr)) g0) (q : Nat) (hq : q < 125) : f q = g q := by
  by_cases c : ∃ i j k, i < r * kr ∧ j < r * kr ∧ k < r * kr ∧ q = ti i j k
  · obtain ⟨i, j, k, a1, a2, a3, rfl⟩ := c
    rw [(h1.val hk a1 a2 a3).1, (h2.val hk a1 a2 a3).1]
  · rw [h1.2 q c, h2.2 q c, s1.zr hR q hq c, s2.zr hR q hq c]
theorem Wc.TG9 {n kn : Nat → Int} {r kr : Nat} {f0 f d1 : Nat → Int} (h : Wc n kn r kr f0 (fun _ _ _ _ _ _ => True) f) (h5 : r * kr ≤ 5) (hR : 1 ≤ r * kr) (s1 : St (pre d1 (fun _ => 0) 125) (bgS (r * kr)) f0) (hn : TG n r) (hk : TG kn kr) : TG f (r * kr) := by
  have r1 := hn.1
  have k1 := hk.1
  have dl : ∀ i, i < r * kr → i / kr < r ∧ i % kr < kr ∧ i / kr * kr + i % kr = i := fun i hi => ⟨Nat.div_lt_of_lt_mul (by rw [Nat.mul_comm]; omega), Nat.mod_lt _ (by omega), by rw [Nat.mul_comm]; exact Nat.div_add_mod i kr⟩
  refine ⟨⟨hR, h5⟩, fun q hq => ?_, fun i j k hi hj hk9 hz => ?_, fun j k hj hk9 => ?_, fun j k hj hk9 => ?_⟩
  · by_cases c : ∃ i j k, i < r * kr ∧ j < r * kr ∧ k < r * kr ∧ q = ti i j k
    · obtain ⟨i, j, k, a1, a2, a3, rfl⟩ := c
      obtain ⟨v1, v2⟩ := h.val (by omega) a1 a2 a3
      have x1 := dl i a1
      have x2 := dl j a2
      have x3 := dl k a3
      rw [v1]
      exact ⟨(pd_bd hn.2.1 hk.2.1 (by omega) (by omega) (by omega) (by omega) (by omega) (by omega)).1, v2⟩
    · rw [h.2 q c, s1.zr hR q hq c]; omega
  · have c : ¬ ∃ a b c, a < r * kr ∧ b < r * kr ∧ c < r * kr ∧ ti i j k = ti a b c := fun ⟨a, b, c, a1, a2, a3, e⟩ => by
      obtain ⟨e1, e2, e3⟩ := ti_inj hj hk9 (by omega) (by omega) e
      omega
    rw [h.2 _ c, s1.zr hR _ (ti_lt hi hj hk9) c]
  · have x2 := dl j hj
    have x3 := dl k hk9
    rw [(h.val (by omega) (by omega) hj hk9).1, Nat.zero_div, Nat.zero_mod]
    unfold pd
    rw [hn.2.2.2.1 _ _ x2.1 x3.1, hk.2.2.2.1 _ _ x2.2.1 x3.2.1]
    by_cases c : j = k
    · subst c; rw [if_pos rfl, if_pos rfl, if_pos rfl]; rfl
    · rw [if_neg c]
      by_cases c1 : j / kr = k / kr
      · have c2 : j % kr ≠ k % kr := fun e => c (by rw [← x2.2.2, ← x3.2.2, c1, e])
        rw [if_neg c2, Int.mul_zero]
      · rw [if_neg c1, Int.zero_mul]
  · have x2 := dl j hj
    have x3 := dl k hk9
    rw [(h.val (by omega) hj (by omega) hk9).1, Nat.zero_div, Nat.zero_mod]
    unfold pd
    rw [hn.2.2.2.2 _ _ x2.1 x3.1, hk.2.2.2.2 _ _ x2.2.1 x3.2.1]
    by_cases c : j = k
    · subst c; rw [if_pos rfl, if_pos rfl, if_pos rfl]; rfl
    · rw [if_neg c]
      by_cases c1 : j / kr = k / kr
      · have c2 : j % kr ≠ k % kr := fun e => c (by rw [← x2.2.2, ← x3.2.2, c1, e])
        rw [if_neg c2, Int.mul_zero]
      · rw [if_neg c1, Int.zero_mul]
theorem Wc.no {n kn : Nat → Int} {r kr : Nat} {f0 f : Nat → Int} (h : Wc n kn r kr f0 (fun _ _ _ _ _ _ => True) f) : ¬ Bd9 n kn r kr := fun ⟨A, B, C, a, b, c, h1, h2, h3, h4, h5, h6, h7⟩ => by
  have := (h.1 A B C a b c h1 h2 h3 h4 h5 h6 trivial).2
  omega
theorem Fgt.re {d e d' : DA} {r : Nat} (h : Fgt d d' r) (h1 : ∀ c j, rel c j = true → e.1 c j = d.1 c j) (h2 : e.2 = d.2) : Fgt e d' r := by
  obtain ⟨a1, a2, ⟨a3, a4⟩, a5, a6, a7⟩ := h
  have e6 : e.1 6 = d.1 6 := funext fun j => h1 6 j rfl
  refine ⟨fun c j hr z1 z2 z3 z4 z5 z6 z7 z8 z9 => by rw [a1 c j hr z1 z2 z3 z4 z5 z6 z7 z8 z9, h1 c j hr], by rw [a2, h2], ⟨a3, fun j z => by rw [a4 j z, h1 2 j rfl]⟩, a5, by rw [e6]; exact a6, a7⟩
theorem Inv.kp {k : Nat} {x : XS} (h : Inv k x) : ∃ kr : Nat, x.1.1 113 2 = kr ∧ (kr = 0 → x.1.1 1 4 = 0) ∧ (kr ≠ 0 → x.1.1 1 4 = 1 ∧ x.1.1 32 0 = kr ∧ x.1.1 33 = x.1.1 115 ∧ TG (x.1.1 115) kr) := by
  obtain ⟨-, r, p, m, D, U, tp, kr, la, -, -, -, ⟨h1, -, h3, h4⟩, -⟩ := h
  exact ⟨kr, h1, h3, h4⟩
theorem st_5 {Ln k : Nat} {sc : Int → Int} {x : XS} (h : Inv k x) (hk : k < 512) (h0 : 0 ≤ 8 * (k : Int) ∧ 8 * (k : Int) + 8 ≤ (Ln : Int)) (hL : Ln ≤ 4096) (hop : iand9 (sc (8 * (k : Int))) 31 = 5) : Step9 Ln sc k x := by
  unfold Step9
  rw [br_5 h0 hL hop]
  obtain ⟨r, t5, t1, t2, t3, t4, -, -⟩ := h.tab
  obtain ⟨kr, k1, k2, k3⟩ := h.kp
  by_cases c0 : kr = 0
  · have e1 : X11_product 1 x.1 = some (-1, x.1) := by
      unfold X11_product
      rw [k2 c0]
      simp (disch := omega) only [gd_pos, if_pos, if_neg, lt_pos, reduceIte]
    have e2 : X12_product 113 x.1 = some (-1, wI x.1 113 0 0) := by
      unfold X12_product
      have d4' : (wI x.1 113 0 0).1 113 2 = kr := k1
      rw [lt_pos, lt_pos, d4']
      simp (disch := omega) only [gd_pos, if_pos, if_neg, lt_pos, reduceIte]
    rw [bd_pos e1, lt_pos, show (xD x x.1).1 = x.1 from rfl, bd_pos e2, lt_pos, gd_pos (by omega), if_pos rfl]
    exact ⟨_, rfl, h.mono hk (Kp.D (Sm.rf x.1)) (Sm.wI rfl)⟩
  · obtain ⟨k4, k5, k6, k7⟩ := k3 c0
    have k8 := k7.1
    have hrk : (r : Int) * (kr : Int) = ((r * kr : Nat) : Int) := (Int.natCast_mul r kr).symm
    have h25 : r * kr ≤ 5 * 5 := Nat.mul_le_mul t5.2 k8.2
    have h1 : 1 * 1 ≤ r * kr := Nat.mul_le_mul t5.1 k8.1
    generalize hR : r * kr = R at hrk h25 h1
    by_cases c5 : R ≤ 5
    · have hDC : ∀ D : DA, (∀ c, c ≠ 38 → D.1 c = x.1.1 c) → PdC D (x.1.1 114) (x.1.1 115) r kr := fun D hD => ⟨by rw [hD 5 (by decide)]; exact t1, by rw [hD 32 (by decide)]; exact k5, by rw [hD 6 (by decide)]; exact t3, by rw [hD 33 (by decide)]; exact k6, t4.2.1, k7.2.1, t5.1, k8.1, by omega, t5.2, k8.2⟩
      obtain ⟨⟨u, D1⟩, e1, fb, hD1, hS1⟩ := x8_begin (d := x.1) (o := 38) c5
      have hD1' : D1 = wA (wI x.1 38 0 (R : Int)) 39 fb := hD1
      have w0 : Wc (x.1.1 114) (x.1.1 115) r kr fb (fun _ _ _ _ _ _ => False) fb := ⟨fun _ _ _ _ _ _ _ _ _ _ _ _ z => absurd z id, fun _ _ => rfl⟩
      have hcls := x8_prod3 (hDC (wI x.1 38 0 (R : Int)) (fun c z => wI_ne z)) w0 (fun e => some ((1 : Int), e)) (fun r => some r)
      have hbp : ∀ v E, lpR (fun q => X8_beProduct_b25 38 5 32 q.1 q.2) (0, wA (wI x.1 38 0 (R : Int)) 39 fb) (fun e => some ((1 : Int), e)) (fun r => some r) = some (v, E) → X8_beProduct 38 5 32 x.1 = some (v, E) := fun v E hE => by
        unfold X8_beProduct
        rw [lt_pos, t1, k5, hrk, gd_pos (by omega), if_pos (by omega), bd_pos e1, hD1']
        exact hE
      have hmod : ∀ (d : DA) (fm : Nat → Int), (∀ c, c = 114 ∨ c = 115 → d.1 c = x.1.1 c) → d.1 113 1 = r → d.1 113 2 = kr → (∀ u E, X12_begin 113 116 125 R (wI d 113 0 0) = some (u, E) → E = wA (wI d 113 0 0) 116 fm → X12_product 113 d = lpR (fun q => X12_product_b40 113 R q.1 q.2) (0, wA (wI d 113 0 0) 116 fm) (fun e => X12_product_j155 113 R e) (fun r => some r)) := fun d fm hd1 hd2 hd3 u E hE hE2 => by
        unfold X12_product
        have y1 : (wI d 113 0 0).1 113 1 = r := hd2
        have y2 : (wI d 113 0 0).1 113 2 = kr := hd3
        have hE' : X12_begin 113 (113 + 3) 125 R (wI d 113 0 0) = some (u, E) := hE
        rw [lt_pos, lt_pos, y1, y2, hrk, gd_pos (by omega), if_neg (by omega), gd_pos (by omega), if_pos (by omega), bd_pos hE', hE2]
      have hDM : ∀ d : DA, (∀ c, c = 114 ∨ c = 115 → d.1 c = x.1.1 c) → d.1 113 2 = kr → PdM (wI d 113 0 0) (x.1.1 114) (x.1.1 115) r kr := fun d hd1 hd3 => ⟨hd3, by rw [wI_ne (by decide)]; exact hd1 114 (Or.inl rfl), by rw [wI_ne (by decide)]; exact hd1 115 (Or.inr rfl), t4.2.1, k7.2.1, t5.1, k8.1, by omega, t5.2, k8.2⟩
      rcases hcls with ⟨e, hl, f', rfl, hW⟩ | ⟨e, hl, ⟨f', rfl⟩, hB⟩
      · -- all products are at most nine
        have hb := hbp _ _ hl
        generalize hE : wA (wI x.1 38 0 (R : Int)) 39 f' = E at hb
        have eo : ∀ c, c ≠ 38 → c ≠ 39 → E.1 c = x.1.1 c := fun c z1 z2 => by rw [← hE, wA_ne z2, wI_ne z1]
        have e38 : E.1 38 0 = R := by rw [← hE]; rfl
        have e39 : E.1 39 = f' := by rw [← hE, wA_at]
        have ecp : X8_copy (1 + 1 + 3) (1 + 37) E = some ((), wA (wI E 5 0 (R : Int)) 6 (pre (x.1.1 6) f' 125)) := by
          have := x8_copy (d := E) (o := 5) (a := 38)
          rw [e38, wI_ne (by decide), wI_ne (by decide), eo 6 (by decide) (by decide), e39] at this
          exact this
        generalize hd8 : wA (wI E 5 0 (R : Int)) 6 (pre (x.1.1 6) f' 125) = d8 at ecp
        have hTf : TG f' R := by rw [← hR]; exact hW.TG9 (by omega) (by omega) (by rw [hR]; exact hS1) t4 k7
        have hTp : TG (pre (x.1.1 6) f' 125) R := hTf.eqv (fun q hq => pre_lt hq)
        have d85 : d8.1 5 0 = R := by rw [← hd8]; rfl
        have d86 : d8.1 6 = pre (x.1.1 6) f' 125 := by rw [← hd8, wA_at]
        have nb8 : Nb d8 5 := fun j hj => by show 0 ≤ d8.1 6 j ∧ d8.1 6 j ≤ 9; rw [d86]; exact hTp.2.1 j hj
        obtain ⟨⟨u2, d4⟩, e4, hF⟩ := x11_begin d85 c5 nb8
        have hF' : Fgt d8 d4 R := hF
        have d45 : d4.1 5 0 = R := by rw [hF'.1 5 0 rfl (by decide) (by decide) (by decide) (by decide) (by decide) (by decide) (by decide) (by decide) (by decide)]; exact d85
        have eC : X11_product 1 x.1 = some ((R : Int), d4) := by
          unfold X11_product
          have hb' : X8_beProduct (1 + 37) (1 + 1 + 3) (1 + 31) x.1 = some (1, E) := hb
          rw [k4, gd_pos (by omega), if_neg (by decide), bd_pos hb', gd_pos (by omega), if_neg (by decide), bd_pos ecp, bd_pos e4]
          show some (d4.1 5 0, d4) = _
          rw [d45]
        rw [bd_pos eC, lt_pos, show (xD x d4).1 = d4 from rfl]
        have d8x : ∀ c, c ≠ 5 → c ≠ 6 → c ≠ 38 → c ≠ 39 → d8.1 c = x.1.1 c := fun c z1 z2 z3 z4 => by rw [← hd8, wA_ne z2, wI_ne z1, eo c z3 z4]
        have d4x : ∀ c j, rel c j = true → c ≠ 2 → c ≠ 3 → c ≠ 12 → c ≠ 13 → c ≠ 54 → c ≠ 61 → c ≠ 68 → c ≠ 69 → c ≠ 81 → c ≠ 5 → c ≠ 6 → d4.1 c j = x.1.1 c j := fun c j hr z1 z2 z3 z4 z5 z6 z7 z8 z9 y1 y2 => by
          rw [hF'.1 c j hr z1 z2 z3 z4 z5 z6 z7 z8 z9, d8x c y1 y2 (fun e => by subst e; cases hr) (fun e => by subst e; cases hr)]
        have d4w : ∀ c, c = 114 ∨ c = 115 → d4.1 c = x.1.1 c := fun c z => funext fun j => by
          rcases z with rfl | rfl
          · exact d4x 114 j rfl (by decide) (by decide) (by decide) (by decide) (by decide) (by decide) (by decide) (by decide) (by decide) (by decide) (by decide)
          · exact d4x 115 j rfl (by decide) (by decide) (by decide) (by decide) (by decide) (by decide) (by decide) (by decide) (by decide) (by decide) (by decide)
        have q1 : d4.1 113 1 = r := by rw [d4x 113 1 rfl (by decide) (by decide) (by decide) (by decide) (by decide) (by decide) (by decide) (by decide) (by decide) (by decide) (by decide)]; exact t2
        have q2 : d4.1 113 2 = kr := by rw [d4x 113 2 rfl (by decide) (by decide) (by decide) (by decide) (by decide) (by decide) (by decide) (by decide) (by decide) (by decide) (by decide)]; exact k1
        obtain ⟨⟨u3, E3⟩, b1, fm, hE3, hS2⟩ := x12_begin (d := wI d4 113 0 0) c5
        have hpm := hmod d4 fm d4w q1 q2 u3 E3 b1 hE3
        have w1 : Wc (x.1.1 114) (x.1.1 115) r kr fm (fun _ _ _ _ _ _ => False) fm := ⟨fun _ _ _ _ _ _ _ _ _ _ _ _ z => absurd z id, fun _ _ => rfl⟩
        rcases x12_prod3 (R := R) (hDM d4 d4w q2) hR.symm w1 (fun e => X12_product_j155 113 R e) (fun r => some r) with ⟨e, hl2, g', rfl, hW2⟩ | ⟨e, hl2, -, hB⟩
        · obtain ⟨⟨u5, d'⟩, e5, hM⟩ := x12_takeRead (d := wI (wA (wI d4 113 0 0) 116 g') 113 3 (R : Int)) (r := R) rfl
          have eM : X12_product 113 d4 = some ((R : Int), d') := by
            rw [hpm, hl2]
            unfold X12_product_j155
            rw [lt_pos, bd_pos e5]
            have : d'.1 113 1 = R := hM.2.2.2.1
            rw [this]
          rw [bd_pos eM, lt_pos, gd_pos (by omega), if_pos rfl]
          refine ⟨_, rfl, ?_⟩
          have hM' : MNew (wI (wA (wI d4 113 0 0) 116 g') 113 3 (R : Int)) d' R (pre ((wI (wA (wI d4 113 0 0) 116 g') 113 3 (R : Int)).1 114) ((wI (wA (wI d4 113 0 0) 116 g') 113 3 (R : Int)).1 116) 125) := hM
          have v114 : (wI (wA (wI d4 113 0 0) 116 g') 113 3 (R : Int)).1 114 = x.1.1 114 := by rw [wI_ne (by decide), wA_ne (by decide), wI_ne (by decide)]; exact d4w 114 (Or.inl rfl)
          have v116 : (wI (wA (wI d4 113 0 0) 116 g') 113 3 (R : Int)).1 116 = g' := by rw [wI_ne (by decide), wA_at]
          rw [v114, v116] at hM'
          have hMr : MNr d4 d' R (pre (x.1.1 114) g' 125) := hM'.rel (((Sm.wI rfl).tr (Sm.wA (fun _ => rfl))).tr (Sm.wI rfl))
          have hfg : pre (x.1.1 6) f' 125 = pre (x.1.1 114) g' 125 := funext fun q => by
            by_cases cq : q < 125
            · rw [pre_lt cq, pre_lt cq]
              exact hW.eq9 hW2 k8.1 (by omega) (by rw [hR]; exact hS1) (by rw [hR]; exact hS2) q cq
            · rw [pre_ge cq, pre_ge cq, t3]
          obtain ⟨p, tp, p1, p2, p3, p4, p5⟩ := h.fld
          have hF9 : Fgt (wA (wI x.1 5 0 (R : Int)) 6 (pre (x.1.1 6) f' 125)) d4 R := hF'.re (fun c j hr => by
            by_cases z6 : c = 6
            · subst z6; rw [wA_at, d86]
            · rw [wA_ne z6]
              by_cases z5 : c = 5
              · subst z5
                rw [← hd8, wA_ne (by decide), wI_at, wI_at, eo 5 (by decide) (by decide)]
              · rw [wI_ne z5, d8x c z5 z6 (fun e => by subst e; cases hr) (fun e => by subst e; cases hr)]) (by rw [← hd8, ← hE]; rfl)
          obtain ⟨hN, hP⟩ := newT_of (x := x) (d8 := wA (wI x.1 5 0 (R : Int)) 6 (pre (x.1.1 6) f' 125)) (fun c z1 z2 => by rw [wA_ne z2, wI_ne z1]) rfl (by rw [wA_at, hfg]) hF9 rfl hMr (by rw [← hfg]; exact hTp) ⟨p1, p2, p3, p4⟩
          exact h.newT (x' := xD (xD x d4) d') hk hN (hP tp p5) ⟨rfl, rfl, h.z.2.2.2.1, h.z.2.2.2.2.1⟩ ⟨by show xc x ≤ _; omega, by show xs x ≤ _; omega⟩
        · exact absurd hB hW.no
      · -- one is more
        have hb := hbp _ _ hl
        generalize hE : wA (wI x.1 38 0 (R : Int)) 39 f' = E at hb
        have eC : X11_product 1 x.1 = some (-1, E) := by
          unfold X11_product
          have hb' : X8_beProduct (1 + 37) (1 + 1 + 3) (1 + 31) x.1 = some (0, E) := hb
          rw [k4, gd_pos (by omega), if_neg (by decide), bd_pos hb', gd_pos (by omega), if_pos rfl]
        rw [bd_pos eC, lt_pos, show (xD x E).1 = E from rfl]
        have eo : ∀ c, c ≠ 38 → c ≠ 39 → E.1 c = x.1.1 c := fun c z1 z2 => by rw [← hE, wA_ne z2, wI_ne z1]
        have ew : ∀ c, c = 114 ∨ c = 115 → E.1 c = x.1.1 c := fun c z => eo c (by omega) (by omega)
        have q1 : E.1 113 1 = r := by rw [eo 113 (by decide) (by decide)]; exact t2
        have q2 : E.1 113 2 = kr := by rw [eo 113 (by decide) (by decide)]; exact k1
        obtain ⟨⟨u3, E3⟩, b1, fm, hE3, hS2⟩ := x12_begin (d := wI E 113 0 0) c5
        have hpm := hmod E fm ew q1 q2 u3 E3 b1 hE3
        have w1 : Wc (x.1.1 114) (x.1.1 115) r kr fm (fun _ _ _ _ _ _ => False) fm := ⟨fun _ _ _ _ _ _ _ _ _ _ _ _ z => absurd z id, fun _ _ => rfl⟩
        rcases x12_prod3 (R := R) (hDM E ew q2) hR.symm w1 (fun e => X12_product_j155 113 R e) (fun r => some r) with ⟨e, hl2, g', rfl, hW2⟩ | ⟨e, hl2, ⟨g', rfl⟩, -⟩
        · exact absurd hB hW2.no
        · rw [bd_pos (hpm.trans hl2), lt_pos, gd_pos (by omega), if_pos rfl]
          exact ⟨_, rfl, h.mono hk (Kp.D (by rw [← hE]; exact (Sm.wI rfl).tr (Sm.wA (fun _ => rfl)))) ((Sm.wI rfl).tr (Sm.wA (fun _ => rfl)))⟩
    · have e1 : X11_product 1 x.1 = some (-1, x.1) := by
        unfold X11_product
        have hb' : X8_beProduct (1 + 37) (1 + 1 + 3) (1 + 31) x.1 = some (0, x.1) := by
          unfold X8_beProduct
          have t1' : x.1.1 (1 + 1 + 3) 0 = r := t1
          have k5' : x.1.1 (1 + 31) 0 = kr := k5
          rw [lt_pos, t1', k5', hrk, gd_pos (by omega), if_neg (by omega)]
        rw [k4, gd_pos (by omega), if_neg (by decide), bd_pos hb', gd_pos (by omega), if_pos rfl]
      have e2 : X12_product 113 x.1 = some (-1, wI x.1 113 0 0) := by
        unfold X12_product
        have y1 : (wI x.1 113 0 0).1 113 1 = r := t2
        have y2 : (wI x.1 113 0 0).1 113 2 = kr := k1
        rw [lt_pos, lt_pos, y1, y2, hrk, gd_pos (by omega), if_neg (by omega), gd_pos (by omega), if_neg (by omega)]
      rw [bd_pos e1, lt_pos, show (xD x x.1).1 = x.1 from rfl, bd_pos e2, lt_pos, gd_pos (by omega), if_pos rfl]
      exact ⟨_, rfl, h.mono hk (Kp.D (Sm.rf x.1)) (Sm.wI rfl)⟩

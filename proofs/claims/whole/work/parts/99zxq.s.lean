/-! ===== S: the reference, and the step ===== -/
theorem x12_tellS {d : DA} {n : Nat → Int} {r p : Nat} {iv : Int → Int} {c t : Nat → Int} (hT : TG n r) (h14 : d.1 114 = n) (hr : d.1 113 1 = r) (hp : d.1 113 4 = p) (h2 : 2 ≤ p) (h31 : p ≤ 31) (hiv : IvG p iv) (hc : ∀ k, k < r → d.1 135 k = c k) (hb : Cb p r c) (ht : ∀ k, k < r → d.1 119 k = t k) (htb : Tb p r t) : ∃ h, X12_tellS 113 d = some ((), wA d 143 h) ∧ Ms r h (sS9 n r p iv c t) := by
  have h5 := hT.1.2
  have hp0 : 0 < p := by omega
  refine ⟨_, ?_, fun i j hi hj => pm_at (G := sS9 n r p iv c t) (f := d.1 143) hi hj h5⟩
  unfold X12_tellS
  refine lpE_sq (bi := fun (i : Nat) q => X12_tellS_b12 113 i q.1 q.2) 143 r (sS9 n r p iv c t) h5 (fun i hi f => ?_) (fun f => ?_) (fun i j hi hj f hf => ?_) (fun i hi f => ?_)
  · show X12_tellS_b2 113 (i : Int) (wA d 143 f) = _
    have e1 : (wA d 143 f).1 113 1 = r := by rw [wA_ne (by decide)]; exact hr
    unfold X12_tellS_b2
    rw [e1, gd_pos (by omega), if_neg (by omega)]
  · show X12_tellS_b2 113 (r : Int) (wA d 143 f) = _
    have e1 : (wA d 143 f).1 113 1 = r := by rw [wA_ne (by decide)]; exact hr
    unfold X12_tellS_b2
    rw [e1, gd_pos (by omega), if_pos (by omega)]
  · show X12_tellS_b12 113 i (j : Int) (wA d 143 f) = _
    have e1 : (wA d 143 f).1 113 1 = r := by rw [wA_ne (by decide)]; exact hr
    have e4 : (wA d 143 f).1 113 4 = p := by rw [wA_ne (by decide)]; exact hp
    have en : (wA d 143 f).1 114 = n := by rw [wA_ne (by decide)]; exact h14
    have ec : ∀ k, k < r → (wA d 143 f).1 (113 + 22) k = c k := fun k hk => by
      show (wA d 143 f).1 135 k = _
      rw [wA_ne (by decide)]; exact hc k hk
    have et : ∀ k, k < r → (wA d 143 f).1 (113 + 6) k = t k := fun k hk => by
      show (wA d 143 f).1 119 k = _
      rw [wA_ne (by decide)]; exact ht k hk
    have nb : ∀ k, k < r → 0 ≤ n (ti i j k) ∧ n (ti i j k) ≤ 9 := fun k hk => hT.2.1 _ (ti_lt (by omega) (by omega) (by omega))
    have m1 : ∀ k, k < r → 0 ≤ n (ti i j k) * t k ∧ n (ti i j k) * t k ≤ 9 * 30 := fun k hk => by
      have := htb k hk
      exact mlb9 (u := 9) (v := 30) (nb k hk) (by omega)
    obtain ⟨g, hg⟩ : ∃ g : Nat → Int, g = fun k => (n (ti i j k) * t k) % (p : Int) * c k := ⟨_, rfl⟩
    have gb : ∀ k, k < r → 0 ≤ g k ∧ g k ≤ 900 := fun k hk => by
      have b1 := em_bd hp0 (n (ti i j k) * t k)
      have b2 := hb k hk
      rw [hg]
      exact mlb9 (u := 30) (v := 30) (by omega) (by omega)
    have sb := sm_bd (lo := 0) (hi := 900) r gb
    have hr3 : (r : Int) * 900 ≤ 4500 := by omega
    unfold X12_tellS_b12
    rw [e1, gd_pos (by omega), if_neg (by omega)]
    refine (lpS9 (r := r) g (by omega) (fun m hm => ?_) ?_).trans ?_
    · show X12_tellS_b25 113 i j (sm m g) (m : Int) (wA d 143 f) = _
      unfold X12_tellS_b25
      have := m1 m hm
      rw [e1, gd_pos (by omega), if_neg (by omega), b1_pos (x12_of9 en (by omega) (by omega) (by omega)), gd_pos (by omega), Int.toNat_natCast, et m hm, e4, gd_pos (by unfold dvg; omega), gd_pos (by omega), lt_pos, ec m hm, tm_em this.1]
      rw [hg]
      rfl
    · show X12_tellS_b25 113 i j (sm r g) (r : Int) (wA d 143 f) = _
      unfold X12_tellS_b25
      rw [e1, gd_pos (by omega), if_pos (by omega)]
    · show X12_tellS_j72_12 113 i j (sm r g) (wA d 143 f) = _
      have bi := htb i hi
      have bj := htb j hj
      have i1 := (hiv (t i) bi.1 bi.2).1
      have i2 := (hiv (t j) bj.1 bj.2).1
      have cg1 : cgm p (sm r g) (sm r fun k => n (ti i j k) * wt9 p c t k) := cgm.sm9 r (fun k hk => by
        rw [hg]
        refine ((cgm.em _).mul (cgm.rf _)).tr ?_
        rw [Int.mul_assoc]
        exact (cgm.rf _).mul (cgm.em _).sy)
      generalize hS : sm r g = S at sb cg1
      have a1 := em_bd hp0 S
      have a2 := mlb9 (u := 30) (v := 30) (show 0 ≤ S % (p : Int) ∧ S % (p : Int) ≤ 30 by omega) (show 0 ≤ iv (t i) ∧ iv (t i) ≤ 30 by omega)
      have a3 := em_bd hp0 (S % (p : Int) * iv (t i))
      have a4 := mlb9 (u := 30) (v := 30) (show 0 ≤ (S % (p : Int) * iv (t i)) % (p : Int) ∧ (S % (p : Int) * iv (t i)) % (p : Int) ≤ 30 by omega) (show 0 ≤ iv (t j) ∧ iv (t j) ≤ 30 by omega)
      have ei : ((5 * (i : Int)) + (j : Int)).toNat = 5 * i + j := by omega
      have es : ((S % (p : Int) * iv (t i)) % (p : Int) * iv (t j)) % (p : Int) = sS9 n r p iv c t i j := by
        refine cgm.eq (p := p) ?_ (em_bd hp0 _) (em_bd hp0 _)
        refine (cgm.em _).tr ?_
        refine (((cgm.em _).mul (cgm.rf _)).tr ?_).tr (cgm.em _).sy
        rw [Int.mul_assoc]
        refine ((cgm.em _).tr (cg1.tr (cgm.em _).sy)).mul (cgm.rf _)
      have sb1 : 0 ≤ S := by omega
      unfold X12_tellS_j72_12
      rw [e4, gd_pos (by unfold dvg; omega), gd_pos (by omega), Int.toNat_natCast, Int.toNat_natCast, et i hi, b1_pos (x12_tb hiv e4 h2 h31 bi.1 bi.2), tm_em sb1, gd_pos (by unfold dvg; omega), gd_pos (by omega), et j hj, b1_pos (x12_tb hiv e4 h2 h31 bj.1 bj.2), tm_em a2.1, gd_pos (by unfold dvg; omega), gd_pos (by omega), lt_pos, tm_em a4.1, ei, es]
  · show X12_tellS_b12 113 i (r : Int) (wA d 143 f) = _
    have e1 : (wA d 143 f).1 113 1 = r := by rw [wA_ne (by decide)]; exact hr
    unfold X12_tellS_b12
    rw [e1, gd_pos (by omega), if_pos (by omega)]
/-- the class's S, from a character on -/
theorem x11_begS {k : Nat} {x1 : XS} {q r p ci : Nat} {iv : Int → Int} {C : Nat → Nat → Int} (h1 : Inv k x1) (hci : ci < q) (hq : q ≤ 5) (hC : ChL (x1.1.1 114) r p q C) (hrow : ∀ k, k < r → x1.1.1 62 (5 * ci + k) = C ci k) (hT : TG (x1.1.1 114) r) (hp : 2 ≤ p ∧ p ≤ 31) (hiv : IvG p iv) (hX : XD9 x1.1 (x1.1.1 114) r p iv) : ∃ D f, X10_begin ci x1 = some (.inl (), xD (xR4 (xR3 x1)) D) ∧ D = wI (wA (wI x1.1 68 6 (r : Int)) 72 f) 68 7 (Dq9 p r (C ci)) ∧ (∀ k, k < r → f k = C ci k) ∧ Cb p r (C ci) := by
  have hb : Cb p r (C ci) := fun k hk => (hC.1 ci hci).2.1 k hk
  obtain ⟨f, e1, e2⟩ := x10_begin (x := x1) (ci := ci) (c := C ci) hX.1 hT.1.2 (by omega) hX.2.2.1 hp.1 hp.2 hrow hb
  exact ⟨_, f, e1, rfl, e2, hb⟩
theorem Inv.trn {k : Nat} {x : XS} (h : Inv k x) {r p : Nat} (hr : x.1.1 113 1 = r) (hp : x.1.1 113 4 = p) : Tb p r (x.1.1 119) ∧ (∀ k, k < r → x.1.1 3 k = x.1.1 119 k) ∧ x.1.1 119 0 = 1 := by
  obtain ⟨r', p', iv, a1, a2, a3, a4, a5, a6, a7, a8, a9⟩ := h.ivs
  have : r' = r := by omega
  have : p' = p := by omega
  subst r' p'
  have := a1.1.2
  exact ⟨fun k hk => (a8 k (by omega)).2, fun k hk => (a8 k (by omega)).1, a9⟩
theorem st_23 {Ln k : Nat} {sc : Int → Int} {x : XS} (h : Inv k x) (hk : k < 512) (h0 : 0 ≤ 8 * (k : Int) ∧ 8 * (k : Int) + 8 ≤ (Ln : Int)) (hL : Ln ≤ 4096) (hsc : ScR sc) (hop : iand9 (sc (8 * (k : Int))) 31 = 23) : Step9 Ln sc k x := by
  unfold Step9
  rw [br_23 h0 hL hop]
  simp only [gd_pos (show ix (8 * (k : Int) + 1) Ln from (by omega)), gd_pos (show ix (8 * (k : Int) + 2) Ln from (by omega)), gd_pos (show ix (8 * (k : Int) + 3) Ln from (by omega))]
  have hu := hsc (8 * (k : Int) + 1)
  have hv := hsc (8 * (k : Int) + 2)
  have hw := hsc (8 * (k : Int) + 3)
  generalize sc (8 * (k : Int) + 1) = u at hu
  generalize sc (8 * (k : Int) + 2) = v at hv
  generalize sc (8 * (k : Int) + 3) = w at hw
  obtain ⟨d1, q, r, p, iv, e1, h1, e2, e3, e4, e5, e6, e7, e8, e9, e10, e11⟩ := h.find
  have h5 := e6.1
  have hp0 : 0 < p := by omega
  have w9 : ∀ c, 68 ≤ c → d1.1 c = x.1.1 c := fun c hc => e2.2 c (by omega)
  have k5 : (xD x d1).1.1 5 0 = r := by
    show d1.1 5 0 = _
    rw [e2.2 5 (by omega)]; exact e11.1
  have hX1 : XD9 d1 (x.1.1 114) r p iv := e2.D e11
  obtain ⟨tb, t3, t0⟩ := h.trn e8 e9
  by_cases c2 : (0 ≤ u ∧ u < q) ∧ kd r v ∧ kd r w
  · obtain ⟨c2, c3, c4⟩ := c2
    have c3' : 0 ≤ v ∧ v < (r : Int) := c3
    have c4' : 0 ≤ w ∧ w < (r : Int) := c4
    obtain ⟨ui, rfl⟩ : ∃ i : Nat, u = i := ⟨u.toNat, by omega⟩
    obtain ⟨vi, rfl⟩ : ∃ i : Nat, v = i := ⟨v.toNat, by omega⟩
    obtain ⟨wi, rfl⟩ : ∃ i : Nat, w = i := ⟨w.toNat, by omega⟩
    obtain ⟨C, hC⟩ : ∃ C : Nat → Nat → Int, C = fun i k => d1.1 62 (5 * i + k) := ⟨_, rfl⟩
    rw [← hC] at e5
    have x114 : (xD x d1).1.1 114 = x.1.1 114 := w9 114 (by omega)
    obtain ⟨D, f, b1, b2, b3, b4⟩ := x11_begS (x1 := xD x d1) (ci := ui) (C := C) h1 (by omega) e4 (by rw [x114]; exact e5) (fun k hk => by rw [hC]; rfl) (by rw [x114]; exact e6) e7 e10 (by rw [x114]; exact hX1)
    have b2' : D = wI (wA (wI d1 68 6 (r : Int)) 72 f) 68 7 (Dq9 p r (C ui)) := b2
    have Do : ∀ c, c ≠ 68 → c ≠ 72 → D.1 c = d1.1 c := fun c z1 z2 => by rw [b2', wI_ne z1, wA_ne z2, wI_ne z1]
    have D6 : D.1 68 6 = r := by rw [b2', wI_at, fu_n (by decide), wA_ne (by decide), wI_at, fu_s]
    have D72 : D.1 72 = f := by rw [b2', wI_ne (by decide), wA_at]
    obtain ⟨f2, g2, S, s1, s2, s3⟩ := x10_fill (d := D) (n := x.1.1 114) (r := r) (p := p) (a1 := 3) (n1 := 5) (iv := iv) (c := C ui) (t := x.1.1 119) D6 e6 (by rw [Do 6 (by decide) (by decide)]; exact hX1.2.1) (by rw [Do 58 (by decide) (by decide)]; exact hX1.2.2.1) e7.1 e7.2 e10 (by rw [Do 59 (by decide) (by decide)]; exact hX1.2.2.2) (fun k hk => by rw [D72]; exact b3 k hk) b4 (fun k hk => by rw [Do 3 (by decide) (by decide), e2.2 3 (by omega)]; exact t3 k hk) tb (by decide) (Nat.le_refl _) (by omega)
    generalize hd4 : wA (wI (wA (wA D 73 f2) 75 g2) 68 8 (Pq9 p r (C ui) (x.1.1 119))) 76 S = d4 at s1
    have d476 : d4.1 76 = S := by rw [← hd4, wA_at]
    obtain ⟨V, hV⟩ : ∃ V : Int, V = sS9 (x.1.1 114) r p iv (C ui) (x.1.1 119) vi wi := ⟨_, rfl⟩
    have vb : 0 ≤ V ∧ V < p := by rw [hV]; exact em_bd hp0 _
    have ei : ((5 * (vi : Int)) + (wi : Int)).toNat = 5 * vi + wi := by omega
    have eC : X11_s (ui : Int) vi wi x = some (.inl V, xD (xD (xR4 (xR3 (xD x d1))) D) d4) := by
      unfold X11_s
      have z : (xD (xD (xR4 (xR3 (xD x d1))) D) d4).1.1 76 (5 * vi + wi) = V := by
        show d4.1 76 (5 * vi + wi) = V
        rw [d476, s3 vi wi (by omega) (by omega), hV]
      have s1' : X10_fill 68 3 5 (xD (xR4 (xR3 (xD x d1))) D).1 = some ((), d4) := s1
      rw [xb_ok (x := x) ((x11_needC e1 e3 e4 hu).1 c2) ⟨Nat.le_refl _, Nat.le_refl _⟩, xb_ok (x := xD x d1) ((x11_needKinds k5 (by omega) hv hw hw).1 ⟨c3, c4, c4⟩) ⟨Nat.le_refl _, Nat.le_refl _⟩, xb_ok (x := xD x d1) b1 ⟨Nat.le_refl _, Nat.le_refl _⟩, gd_pos ⟨rfl, rfl⟩, bd_pos s1', lt_pos, gd_pos (by omega), ei, z]
    have hSm : Sm d1 d4 := by
      rw [← hd4, b2']
      exact ((((((Sm.wI rfl).tr (Sm.wA (fun _ => rfl))).tr (Sm.wI rfl)).tr (Sm.wA (fun _ => rfl))).tr (Sm.wA (fun _ => rfl))).tr (Sm.wI rfl)).tr (Sm.wA (fun _ => rfl))
    have hKp : Kp (xD x d1) (xD (xD (xR4 (xR3 (xD x d1))) D) d4) := ⟨hSm, ⟨rfl, rfl, rfl, fun z => ⟨z.1, z.2.1, Or.inr rfl, Or.inr rfl⟩⟩, Nat.le_add_right _ _, Nat.le_add_right _ _⟩
    refine both3 (x1 := xD x d1) (en := 1) (f := fun x => L_law__j1732_23 Ln sc (8 * (k : Int)) x) h1 hk (x2 := xD (xD (xR4 (xR3 (xD x d1))) D) d4) (v := V) ⟨Or.inl ⟨rfl, eC⟩, Nat.le_refl _, Nat.le_refl _⟩ (by omega) hKp (Or.inl rfl) (w := V) (by omega) (fun _ => rfl) (M := fun d => X12_s 113 ui vi wi d) (fun d hd => ?_)
    have hd' : d.1 = d4.1 := hd
    have wq : ∀ c, 100 ≤ c → d.1 c = x.1.1 c := fun c hc => by
      rw [hd', ← hd4, wA_ne (by omega), wI_ne (by omega), wA_ne (by omega), wA_ne (by omega), Do c (by omega) (by omega), w9 c (by omega)]
    have y1 : (wI d 113 0 0).1 113 1 = r := by rw [wI_at, fu_n (by decide), wq 113 (by omega)]; exact e8
    have y4 : (wI d 113 0 0).1 113 4 = p := by rw [wI_at, fu_n (by decide), wq 113 (by omega)]; exact e9
    have y14 : (wI d 113 0 0).1 114 = x.1.1 114 := by rw [wI_ne (by decide)]; exact wq 114 (by omega)
    obtain ⟨d6, f1, f2', f3, f4, -⟩ := x12_findC (d := wI d 113 0 0) (n := x.1.1 114) (w := (ui : Int)) e6 y14 y1 y4 e7.1 e7.2 (by omega) e4 e5
    rw [if_pos c2] at f1
    have f6 : ∀ c, c ≠ 135 → c ≠ 113 → d6.1 c = d.1 c := fun c z1 z2 => funext fun j => by rw [f3 c j z1 (Or.inl z2), wI_ne z2]
    obtain ⟨h9, g1, g2'⟩ := x12_tellS (d := d6) (n := x.1.1 114) (r := r) (p := p) (iv := iv) (c := C ui) (t := x.1.1 119) e6 (by rw [f6 114 (by decide) (by decide)]; exact wq 114 (by omega)) (by rw [f3 113 1 (by decide) (Or.inr ⟨by decide, by decide, by decide⟩)]; exact y1) (by rw [f3 113 4 (by decide) (Or.inr ⟨by decide, by decide, by decide⟩)]; exact y4) e7.1 e7.2 e10 (fun k hk => by rw [f4 c2 k hk, Int.toNat_natCast]) b4 (fun k hk => by rw [f6 119 (by decide) (by decide), wq 119 (by omega)]) tb
    have kv := (x12_isKind (d := wI d 113 0 0) (r := r) (v := (vi : Int)) y1 (by omega) hv).1 c3
    have kw := (x12_isKind (d := wI d 113 0 0) (r := r) (v := (wi : Int)) y1 (by omega) hw).1 c4
    refine ⟨wA d6 143 h9, ?_, ?_, ((Sm.wI rfl).tr (findC_sm f3)).tr (Sm.wA (fun _ => rfl)), by show d6.2 161 = _; rw [f2']; rfl⟩
    · have z : (wA d6 143 h9).1 (113 + 30) (5 * vi + wi) = V := by
        show (wA d6 143 h9).1 143 (5 * vi + wi) = V
        rw [wA_at, g2' vi wi (by omega) (by omega), hV]
      show X12_s 113 ui vi wi d = _
      unfold X12_s
      rw [lt_pos, b1_pos kv, gd_pos (by omega), if_neg (by decide), b1_pos kw, gd_pos (by omega), if_neg (by decide), gd_pos (by omega), if_neg (by omega), bd_pos f1, gd_pos (by omega), if_neg (by decide), bd_pos g1, gd_pos (by omega), ei, z]
    · rw [wA_ne (by decide), f3 113 0 (by decide) (Or.inr ⟨by decide, by decide, by decide⟩)]; rfl
  · have eC : X11_s u v w x = some (.inr 1, xT (xD x d1)) := by
      unfold X11_s
      by_cases c3 : 0 ≤ u ∧ u < q
      · rw [xb_ok (x := x) ((x11_needC e1 e3 e4 hu).1 c3) ⟨Nat.le_refl _, Nat.le_refl _⟩, xb_er (x := xD x d1) ((x11_needKinds k5 (by omega) hv hw hw).2 (fun z => c2 ⟨c3, z.1, z.2.1⟩)) ⟨Nat.le_succ _, Nat.le_add_right _ _⟩]
      · rw [xb_er (x := x) ((x11_needC e1 e3 e4 hu).2 c3) ⟨Nat.le_succ _, Nat.le_add_right _ _⟩]
    refine both3 (x1 := xD x d1) (en := 1) (f := fun x => L_law__j1732_23 Ln sc (8 * (k : Int)) x) h1 hk (x2 := xT (xD x d1)) (v := 0) ⟨Or.inr ⟨rfl, eC⟩, Nat.le_succ _, Nat.le_add_right _ _⟩ (by omega) (Kp.T _) (Or.inr rfl) (w := 0) (by omega) (fun h9 => by omega) (M := fun d => X12_s 113 u v w d) (fun d hd => ?_)
    have hd' : d.1 = d1.1 := hd
    have j33 : ∀ D : DA, X12_s_j33 113 D = some (0, wI D 113 0 1) := fun D => rfl
    have y1 : (wI d 113 0 0).1 113 1 = r := by rw [wI_at, fu_n (by decide), hd', w9 113 (by omega)]; exact e8
    have kv := x12_isKind (d := wI d 113 0 0) (r := r) (v := v) y1 (by omega) hv
    have kw := x12_isKind (d := wI d 113 0 0) (r := r) (v := w) y1 (by omega) hw
    show MA (X12_s 113 u v w d) d 1 0
    unfold X12_s
    rw [lt_pos]
    by_cases c4 : kd r v
    · rw [b1_pos (kv.1 c4), gd_pos (by omega), if_neg (by decide)]
      by_cases c5 : kd r w
      · rw [b1_pos (kw.1 c5), gd_pos (by omega), if_neg (by decide), gd_pos hu]
        by_cases c6 : u < 0
        · rw [if_pos c6, j33]
          exact ⟨_, rfl, rfl, (Sm.wI rfl).tr (Sm.wI rfl), rfl⟩
        · obtain ⟨d', f1, f2, f3, -, -⟩ := x12_findC (d := wI d 113 0 0) (n := x.1.1 114) (w := u) e6 (by rw [wI_ne (by decide), hd']; exact w9 114 (by omega)) y1 (by rw [wI_at, fu_n (by decide), hd', w9 113 (by omega)]; exact e9) e7.1 e7.2 (by omega) e4 e5
          rw [if_neg (fun z => c2 ⟨z, c4, c5⟩)] at f1
          rw [if_neg c6, bd_pos f1, gd_pos (by omega), if_pos rfl, j33]
          exact ⟨_, rfl, rfl, ((Sm.wI rfl).tr (findC_sm f3)).tr (Sm.wI rfl), by show d'.2 161 = _; rw [f2]; rfl⟩
      · rw [b1_pos (kw.2 c5), gd_pos (by omega), if_pos rfl, j33]
        exact ⟨_, rfl, rfl, (Sm.wI rfl).tr (Sm.wI rfl), rfl⟩
    · rw [b1_pos (kv.2 c4), gd_pos (by omega), if_pos rfl, j33]
      exact ⟨_, rfl, rfl, (Sm.wI rfl).tr (Sm.wI rfl), rfl⟩

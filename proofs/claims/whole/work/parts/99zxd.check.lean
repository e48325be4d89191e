/-! ===== check and broken: the steps ===== -/
theorem FrC.Sm9 {d0 d : DA} (h : FrC d0 d) : Sm d0 d := fun c j hr => h.2 c j (fun e => by subst e; cases hr) (fun e => by subst e; cases hr) (fun e => by subst e; cases hr) (Or.inl (fun e => by subst e; cases hr))
theorem Inv.tr9 {k : Nat} {x : XS} (h : Inv k x) : ∃ r p : Nat, x.1.1 5 0 = r ∧ x.1.1 113 1 = r ∧ x.1.1 6 = x.1.1 114 ∧ TG (x.1.1 114) r ∧ x.1.1 113 4 = p ∧ (hTr (x.1.1 114) r → TrD (x.1.1 114) (x.1.1 117) (x.1.1 12) (x.1.1 118) (x.1.1 13) r p ∧ CE x.1 (x.1.1 114) (x.1.1 12) (x.1.1 13) r p) := by
  obtain ⟨r, p, m, a1, a2, a3, a4, a5, a6, a7, a8, a9, a10, -⟩ := h.trs
  have hp := a5.bd
  refine ⟨r, p, a1, a2, a3, a4, a6, fun z => ?_⟩
  obtain ⟨z1, z2⟩ := a8 z
  have hD : TrD (x.1.1 114) (x.1.1 117) (x.1.1 12) (x.1.1 118) (x.1.1 13) r p := ⟨a4, z.1, hp, z1, z2, a9, a10⟩
  exact ⟨hD, ⟨a1, a3, rfl, rfl, a7⟩, a4, z.1, hp, fun a b c e g h ha hb hc he hg hh => hD.f ha hb hc he hg hh⟩
theorem pn9_bd {n F : Nat → Int} {p r : Nat} {stop : Bool} (h3 : r ≤ 3) : Bd9a 19683 (pn9 n F p r stop) := by
  have := sp9_bd (r := r) (stop := stop) (may := pnM n) (S := pnS n) (H := pnB F p r) 9 0 (fun _ => 0) 0 (0, 0, fun _ => 0) ⟨Nat.le_refl _, Nat.le_refl _⟩
  have hp : r ^ 9 ≤ 3 ^ 9 := Nat.pow_le_pow_left h3 9
  exact this.up (by omega)
theorem hx9_bd {n F R : Nat → Int} {p r : Nat} (h3 : r ≤ 3) : Bd9a 729 (hx9 n F R p r) := by
  have := sp9_bd (r := r) (stop := false) (may := fun _ _ => true) (S := hxS n) (H := hxB F R p r) 6 0 (fun _ => 0) 0 (0, 0, fun _ => 0) ⟨Nat.le_refl _, Nat.le_refl _⟩
  have hp : r ^ 6 ≤ 3 ^ 6 := Nat.pow_le_pow_left h3 6
  exact this.up (by omega)
theorem st_20 {Ln k : Nat} {sc : Int → Int} {x : XS} (h : Inv k x) (hk : k < 512) (h0 : 0 ≤ 8 * (k : Int) ∧ 8 * (k : Int) + 8 ≤ (Ln : Int)) (hL : Ln ≤ 4096) (hsc : ScR sc) (hop : iand9 (sc (8 * (k : Int))) 31 = 20) : Step9 Ln sc k x := by
  unfold Step9
  rw [br_20 h0 hL hop]
  simp only [gd_pos (show ix (8 * (k : Int) + 1) Ln from (by omega))]
  have hv := hsc (8 * (k : Int) + 1)
  generalize sc (8 * (k : Int) + 1) = v at hv
  obtain ⟨r, p, t1, t2, t3, t4, t5, t6⟩ := h.tr9
  have hn5 : Nb x.1 5 := fun j hj => by show 0 ≤ x.1.1 6 j ∧ x.1.1 6 j ≤ 9; rw [t3]; exact t4.2.1 j hj
  by_cases c : 0 ≤ v ∧ v ≤ 3
  · by_cases cT : hTr (x.1.1 114) r
    · obtain ⟨hD, hE⟩ := t6 cT
      have h3 := hD.2.1
      have eT : X6_hasTrees 2 x.1 = some 1 := (x6_hasTrees t1 (by omega) hn5).1 (by rw [t3]; exact cT)
      by_cases c2 : v < 2
      · obtain ⟨d2, e1, e2, e3⟩ := x9_pens hE
        have hB := pn9_bd (n := x.1.1 114) (F := x.1.1 12) (p := p) (stop := false) h3
        obtain ⟨hB1, hB2⟩ := hB
        obtain ⟨V, hV⟩ : ∃ V : Int, V = if v = 0 then ((pn9 (x.1.1 114) (x.1.1 12) p r false).1 : Int) else ((pn9 (x.1.1 114) (x.1.1 12) p r false).2.1 : Int) := ⟨_, rfl⟩
        have hVr : inR V := by
          rw [hV]; split <;> omega
        have eC : X11_check v x = some (.inl V, xD x d2) := by
          unfold X11_check
          rw [gd_pos (by omega), if_neg (by omega), gd_pos (by omega), if_pos (by omega), b1_pos eT, gd_pos (by omega), if_neg (by decide), gd_pos (by omega), if_neg (by omega), bd_pos e1, lt_pos]
          unfold X11_check_j68 X11_check_j77
          have q1 : (xD x d2).1.1 11 6 = ((pn9 (x.1.1 114) (x.1.1 12) p r false).1 : Int) := e3.1
          have q2 : (xD x d2).1.1 11 7 = ((pn9 (x.1.1 114) (x.1.1 12) p r false).2.1 : Int) := e3.2.1
          rw [gd_pos (by omega), q1, q2, hV]
          by_cases cv : v = 0
          · rw [if_pos cv, if_pos cv]
          · rw [if_neg cv, if_neg cv, gd_pos (by omega), if_neg (by omega)]
        refine both (en := 1) (f := fun x => L_law__j1540_23 Ln sc (8 * (k : Int)) x) h hk (x2 := xD x d2) (v := V) ⟨Or.inl ⟨rfl, eC⟩, Nat.le_refl _, Nat.le_refl _⟩ hVr (Kp.D e2.Sm9) (Or.inl rfl) (w := V) hVr (fun _ => rfl) (M := fun d => X12_check 113 v d) (fun d hd => ?_)
        have hd' : d.1 = d2.1 := hd
        have w : ∀ c, 100 ≤ c → d.1 c = x.1.1 c := fun c hc => by rw [hd', e2.c (by omega) (by omega) (by omega) (by omega)]
        have w1 : ∀ c, 100 ≤ c → c ≠ 113 → (wI d 113 0 0).1 c = x.1.1 c := fun c hc h9 => by rw [wI_ne h9]; exact w c hc
        have y1 : (wI d 113 0 0).1 113 1 = r := by rw [wI_at, fu_n (by decide), w 113 (by omega)]; exact t2
        have y4 : (wI d 113 0 0).1 113 4 = p := by rw [wI_at, fu_n (by decide), w 113 (by omega)]; exact t5
        obtain ⟨d', f1, f2, f3, -, f5, f6⟩ := tell9 (d := wI d 113 0 0) false hD (w1 114 (by omega) (by decide)) (w1 117 (by omega) (by decide)) y1 y4
        have f1' : X12_tellShapes 113 9 0 (wI d 113 0 0) = some ((), d') := f1
        refine ⟨d', ?_, by rw [f5 113 0 (by decide) (by decide) (Or.inr ⟨by decide, by decide, by decide⟩)]; rfl, (Sm.wI rfl).tr f2, by rw [f3]; rfl⟩
        have hI := (x12_isIn (d := wI d 113 0 0) (v := v) (a := 0) (b := 3) (by omega) (by omega) (by omega)).1 (by omega)
        have hT2 := (x12_hasTrees (d := wI d 113 0 0) y1 (by rw [w1 114 (by omega) (by decide)]; exact t4)).1 (by rw [w1 114 (by omega) (by decide)]; exact cT)
        show X12_check 113 v d = _
        unfold X12_check
        rw [lt_pos, b1_pos hI, gd_pos (by omega), if_neg (by decide), b1_pos hT2, gd_pos (by omega), if_neg (by decide), gd_pos (by omega), if_neg (by omega)]
        unfold X12_check_j42
        have tv : Int.tmod v 2 = v := by rw [Int.tmod_eq_emod_of_nonneg (by omega)]; omega
        rw [bd_pos f1', gd_pos (by unfold dvg; omega), tv, gd_pos (by omega), f6.1, f6.2.1, hV]
        by_cases cv : v = 0
        · rw [if_pos cv, if_pos cv]
        · rw [if_neg cv, if_neg cv]
      · obtain ⟨d2, e1, e2, e3, e4⟩ := hvs hE (fun a b c ha hb hc => hD.s ha hb hc)
        have hB := hx9_bd (n := x.1.1 114) (F := x.1.1 12) (R := x.1.1 13) (p := p) h3
        obtain ⟨hB1, hB2⟩ := hB
        obtain ⟨V, hV⟩ : ∃ V : Int, V = if v = 2 then ((hx9 (x.1.1 114) (x.1.1 12) (x.1.1 13) p r).1 : Int) else ((hx9 (x.1.1 114) (x.1.1 12) (x.1.1 13) p r).2.1 : Int) := ⟨_, rfl⟩
        have hVr : inR V := by
          rw [hV]; split <;> omega
        have eC : X11_check v x = some (.inl V, xD x d2) := by
          unfold X11_check
          rw [gd_pos (by omega), if_neg (by omega), gd_pos (by omega), if_pos (by omega), b1_pos eT, gd_pos (by omega), if_neg (by decide), gd_pos (by omega), if_pos (by omega), bd_pos e1, lt_pos]
          unfold X11_check_j68 X11_check_j77
          have q1 : (xD x d2).1.1 11 6 = ((hx9 (x.1.1 114) (x.1.1 12) (x.1.1 13) p r).1 : Int) := e3
          have q2 : (xD x d2).1.1 11 7 = ((hx9 (x.1.1 114) (x.1.1 12) (x.1.1 13) p r).2.1 : Int) := e4
          rw [gd_pos (by omega), q1, q2, hV, if_neg (by omega), gd_pos (by omega)]
          by_cases cv : v = 2
          · rw [if_pos cv, if_pos cv]
          · rw [if_neg cv, if_neg cv]
        refine both (en := 1) (f := fun x => L_law__j1540_23 Ln sc (8 * (k : Int)) x) h hk (x2 := xD x d2) (v := V) ⟨Or.inl ⟨rfl, eC⟩, Nat.le_refl _, Nat.le_refl _⟩ hVr (Kp.D e2.Sm9) (Or.inl rfl) (w := V) hVr (fun _ => rfl) (M := fun d => X12_check 113 v d) (fun d hd => ?_)
        have hd' : d.1 = d2.1 := hd
        have w : ∀ c, 100 ≤ c → d.1 c = x.1.1 c := fun c hc => by rw [hd', e2.c (by omega) (by omega) (by omega) (by omega)]
        have w1 : ∀ c, 100 ≤ c → c ≠ 113 → (wI d 113 0 0).1 c = x.1.1 c := fun c hc h9 => by rw [wI_ne h9]; exact w c hc
        have y1 : (wI d 113 0 0).1 113 1 = r := by rw [wI_at, fu_n (by decide), w 113 (by omega)]; exact t2
        have y4 : (wI d 113 0 0).1 113 4 = p := by rw [wI_at, fu_n (by decide), w 113 (by omega)]; exact t5
        obtain ⟨d', f1, f2, f3, f5, f6⟩ := tell6 (d := wI d 113 0 0) hD (w1 114 (by omega) (by decide)) (w1 117 (by omega) (by decide)) (w1 118 (by omega) (by decide)) y1 y4
        have f1' : X12_tellShapes 113 6 0 (wI d 113 0 0) = some ((), d') := f1
        refine ⟨d', ?_, by rw [f5 113 0 (by decide) (by decide) (Or.inr ⟨by decide, by decide, by decide⟩)]; rfl, (Sm.wI rfl).tr f2, by rw [f3]; rfl⟩
        have hI := (x12_isIn (d := wI d 113 0 0) (v := v) (a := 0) (b := 3) (by omega) (by omega) (by omega)).1 (by omega)
        have hT2 := (x12_hasTrees (d := wI d 113 0 0) y1 (by rw [w1 114 (by omega) (by decide)]; exact t4)).1 (by rw [w1 114 (by omega) (by decide)]; exact cT)
        show X12_check 113 v d = _
        unfold X12_check
        rw [lt_pos, b1_pos hI, gd_pos (by omega), if_neg (by decide), b1_pos hT2, gd_pos (by omega), if_neg (by decide), gd_pos (by omega), if_pos (by omega)]
        unfold X12_check_j42
        have tv : Int.tmod v 2 = v - 2 := by rw [Int.tmod_eq_emod_of_nonneg (by omega)]; omega
        rw [bd_pos f1', gd_pos (by unfold dvg; omega), tv, gd_pos (by omega), f6.1, f6.2.1, hV]
        by_cases cv : v = 2
        · rw [if_pos (by omega), if_pos cv]
        · rw [if_neg (by omega), if_neg cv]
    · have eT : X6_hasTrees 2 x.1 = some 0 := (x6_hasTrees t1 t4.1.2 hn5).2 (by rw [t3]; exact cT)
      have eC : X11_check v x = some (.inl (-1), x) := by
        unfold X11_check
        rw [gd_pos (by omega), if_neg (by omega), gd_pos (by omega), if_pos (by omega), b1_pos eT, gd_pos (by omega), if_pos rfl]
      refine both (en := 1) (f := fun x => L_law__j1540_23 Ln sc (8 * (k : Int)) x) h hk (x2 := x) (v := -1) ⟨Or.inl ⟨rfl, eC⟩, Nat.le_refl _, Nat.le_refl _⟩ (by omega) (Kp.rf x) (Or.inl rfl) (w := -1) (by omega) (fun _ => rfl) (M := fun d => X12_check 113 v d) (fun d hd => ⟨wI d 113 0 0, ?_, rfl, Sm.wI rfl, rfl⟩)
      have hd' : d.1 = x.1.1 := hd
      have y1 : (wI d 113 0 0).1 113 1 = r := by rw [wI_at, fu_n (by decide), hd']; exact t2
      have y14 : (wI d 113 0 0).1 114 = x.1.1 114 := by rw [wI_ne (by decide), hd']
      have hI := (x12_isIn (d := wI d 113 0 0) (v := v) (a := 0) (b := 3) (by omega) (by omega) (by omega)).1 (by omega)
      have hT2 := (x12_hasTrees (d := wI d 113 0 0) y1 (by rw [y14]; exact t4)).2 (by rw [y14]; exact cT)
      show X12_check 113 v d = _
      unfold X12_check
      rw [lt_pos, b1_pos hI, gd_pos (by omega), if_neg (by decide), b1_pos hT2, gd_pos (by omega), if_pos rfl]
  · have eC : X11_check v x = some (.inr 1, xT x) := by
      unfold X11_check
      rw [gd_pos (by omega)]
      by_cases c1 : v < 0
      · rw [if_pos c1]
      · rw [if_neg c1, gd_pos (by omega), if_neg (by omega)]
    refine both (en := 1) (f := fun x => L_law__j1540_23 Ln sc (8 * (k : Int)) x) h hk (x2 := xT x) (v := 0) ⟨Or.inr ⟨rfl, eC⟩, Nat.le_succ _, Nat.le_add_right _ _⟩ (by omega) (Kp.T x) (Or.inr rfl) (w := 0) (by omega) (fun h9 => by omega) (M := fun d => X12_check 113 v d) (fun d hd => ⟨wI (wI d 113 0 0) 113 0 1, ?_, rfl, (Sm.wI rfl).tr (Sm.wI rfl), rfl⟩)
    have hI := (x12_isIn (d := wI d 113 0 0) (v := v) (a := 0) (b := 3) (by omega) (by omega) (by omega)).2 (by omega)
    show X12_check 113 v d = _
    unfold X12_check
    rw [lt_pos, b1_pos hI, gd_pos (by omega), if_pos rfl]
    rfl
/-! the first that is wrong, whether or not the rest is counted -/
theorem lf_keep {S H : Bool} {x : Nat → Nat} {s : Ac9} (h : s.2.1 ≠ 0) : (lf9a S H x s).2.1 ≠ 0 ∧ (lf9a S H x s).2.2 = s.2.2 := by
  unfold lf9a
  cases S
  · exact ⟨h, rfl⟩
  · cases H
    · exact ⟨by show s.2.1 + 1 ≠ 0; omega, by show (if s.2.1 = 0 then x else s.2.2) = _; rw [if_neg h]⟩
    · exact ⟨h, rfl⟩
theorem sp_keep {r : Nat} {may : Nat → (Nat → Nat) → Bool} {S H : (Nat → Nat) → Bool} : ∀ n i x s, s.2.1 ≠ 0 → (sp9 r false may S H n i x s).2.1 ≠ 0 ∧ (sp9 r false may S H n i x s).2.2 = s.2.2 := by
  intro n
  induction n with
  | zero => intro i x s h; rw [sp9_z]; exact lf_keep h
  | succ n ih =>
    intro i x s h
    rw [sp9_f]
    have : ∀ j, (fo9 (fun v s => if may i (fu x i v) = true then sp9 r false may S H n (i + 1) (fu x i v) s else s) j s).2.1 ≠ 0 ∧ (fo9 (fun v s => if may i (fu x i v) = true then sp9 r false may S H n (i + 1) (fu x i v) s else s) j s).2.2 = s.2.2 := by
      intro j
      induction j with
      | zero => exact ⟨h, rfl⟩
      | succ j ihj =>
        unfold fo9
        by_cases c : may i (fu x i j) = true
        · rw [if_pos c]
          obtain ⟨a, b⟩ := ih (i + 1) (fu x i j) _ ihj.1
          exact ⟨a, b.trans ihj.2⟩
        · rw [if_neg c]; exact ihj
    exact this r
def Qs9 (a b : Ac9) : Prop := (a.2.1 = 0 ↔ b.2.1 = 0) ∧ (b.2.1 ≠ 0 → a.2.2 = b.2.2)
theorem sp_stop {r : Nat} {may : Nat → (Nat → Nat) → Bool} {S H : (Nat → Nat) → Bool} : ∀ n i x a b, Qs9 a b → b.2.1 = 0 → Qs9 (sp9 r false may S H n i x a) (sp9 r true may S H n i x b) := by
  intro n
  induction n with
  | zero =>
    intro i x a b hQ h
    have ha := hQ.1.mpr h
    rw [sp9_z, sp9_z]
    unfold lf9a
    cases S x
    · exact hQ
    · cases H x
      · refine ⟨⟨fun z => ?_, fun z => ?_⟩, fun _ => ?_⟩
        · have z' : a.2.1 + 1 = 0 := z
          omega
        · have z' : b.2.1 + 1 = 0 := z
          omega
        · show (if a.2.1 = 0 then x else a.2.2) = (if b.2.1 = 0 then x else b.2.2)
          rw [if_pos ha, if_pos h]
      · exact hQ
  | succ n ih =>
    intro i x a b hQ h
    rw [sp9_f, sp9_s]
    have : ∀ j, Qs9 (fo9 (fun v s => if may i (fu x i v) = true then sp9 r false may S H n (i + 1) (fu x i v) s else s) j a) (fo9 (fun v s => if (true && decide (0 < s.2.1)) = true then s else if may i (fu x i v) = true then sp9 r true may S H n (i + 1) (fu x i v) s else s) j b) := by
      intro j
      induction j with
      | zero => exact hQ
      | succ j ihj =>
        unfold fo9
        generalize fo9 (fun v s => if may i (fu x i v) = true then sp9 r false may S H n (i + 1) (fu x i v) s else s) j a = A at ihj
        generalize fo9 (fun v s => if (true && decide (0 < s.2.1)) = true then s else if may i (fu x i v) = true then sp9 r true may S H n (i + 1) (fu x i v) s else s) j b = B at ihj
        by_cases c0 : B.2.1 = 0
        · rw [if_neg (show ¬ (true && decide (0 < B.2.1)) = true by simp [c0])]
          by_cases c : may i (fu x i j) = true
          · rw [if_pos c, if_pos c]; exact ih _ _ _ _ ihj c0
          · rw [if_neg c, if_neg c]; exact ihj
        · rw [if_pos (show (true && decide (0 < B.2.1)) = true by simp; omega)]
          by_cases c : may i (fu x i j) = true
          · rw [if_pos c]
            obtain ⟨z1, z2⟩ := sp_keep (r := r) (may := may) (S := S) (H := H) n (i + 1) (fu x i j) A (fun z => c0 (ihj.1.mp z))
            exact ⟨⟨fun z => absurd z z1, fun z => absurd z c0⟩, fun z => z2.trans (ihj.2 z)⟩
          · rw [if_neg c]; exact ihj
    exact this r
theorem pn9_stop {n F : Nat → Int} {p r : Nat} : Qs9 (pn9 n F p r false) (pn9 n F p r true) := sp_stop 9 0 _ _ _ ⟨Iff.rfl, fun _ => rfl⟩ rfl
theorem sp_first {r : Nat} {stop : Bool} {may : Nat → (Nat → Nat) → Bool} {S H : (Nat → Nat) → Bool} {M K : Nat} (hK : r ≤ K) : ∀ n i x s, (∀ q, q < i → x q < K) → (s.2.1 ≠ 0 → ∀ q, q < i + n → s.2.2 q < K) → ((sp9 r stop may S H n i x s).2.1 ≠ 0 → ∀ q, q < i + n → (sp9 r stop may S H n i x s).2.2 q < K) := by
  intro n
  induction n with
  | zero =>
    intro i x s hx hs
    rw [sp9_z]
    unfold lf9a
    cases S x
    · exact hs
    · cases H x
      · intro _ q hq
        show (if s.2.1 = 0 then x else s.2.2) q < K
        by_cases c : s.2.1 = 0
        · rw [if_pos c]; exact hx q hq
        · rw [if_neg c]; exact hs c q hq
      · exact hs
  | succ n ih =>
    intro i x s hx hs
    rw [sp9_s]
    have : ∀ j, j ≤ r → ((fo9 (fun v s => if (stop && decide (0 < s.2.1)) = true then s else if may i (fu x i v) = true then sp9 r stop may S H n (i + 1) (fu x i v) s else s) j s).2.1 ≠ 0 → ∀ q, q < i + (n + 1) → (fo9 (fun v s => if (stop && decide (0 < s.2.1)) = true then s else if may i (fu x i v) = true then sp9 r stop may S H n (i + 1) (fu x i v) s else s) j s).2.2 q < K) := by
      intro j
      induction j with
      | zero => intro _; exact hs
      | succ j ihj =>
        intro hj
        unfold fo9
        have ihj' := ihj (by omega)
        generalize fo9 (fun v s => if (stop && decide (0 < s.2.1)) = true then s else if may i (fu x i v) = true then sp9 r stop may S H n (i + 1) (fu x i v) s else s) j s = B at ihj'
        by_cases c0 : (stop && decide (0 < B.2.1)) = true
        · rw [if_pos c0]; exact ihj'
        · rw [if_neg c0]
          by_cases c : may i (fu x i j) = true
          · rw [if_pos c]
            have := ih (i + 1) (fu x i j) B (fun q hq => by
              rw [fu_app]
              by_cases e : q = i
              · rw [if_pos e]; omega
              · rw [if_neg e]; exact hx q (by omega)) (fun z q hq => ihj' z q (by omega))
            intro z q hq
            exact this z q (by omega)
          · rw [if_neg c]; exact ihj'
    exact this r (Nat.le_refl r)
theorem st_21 {Ln k : Nat} {sc : Int → Int} {x : XS} (h : Inv k x) (hk : k < 512) (h0 : 0 ≤ 8 * (k : Int) ∧ 8 * (k : Int) + 8 ≤ (Ln : Int)) (hL : Ln ≤ 4096) (hsc : ScR sc) (hop : iand9 (sc (8 * (k : Int))) 31 = 21) : Step9 Ln sc k x := by
  unfold Step9
  rw [br_21 h0 hL hop]
  simp only [gd_pos (show ix (8 * (k : Int) + 1) Ln from (by omega))]
  have hv := hsc (8 * (k : Int) + 1)
  generalize sc (8 * (k : Int) + 1) = v at hv
  obtain ⟨r, p, t1, t2, t3, t4, t5, t6⟩ := h.tr9
  have hn5 : Nb x.1 5 := fun j hj => by show 0 ≤ x.1.1 6 j ∧ x.1.1 6 j ≤ 9; rw [t3]; exact t4.2.1 j hj
  by_cases c : (0 ≤ v ∧ v ≤ 8) ∧ hTr (x.1.1 114) r
  · obtain ⟨c, cT⟩ := c
    obtain ⟨hD, hE⟩ := t6 cT
    have h3 := hD.2.1
    have eT : X6_hasTrees 2 x.1 = some 1 := (x6_hasTrees t1 (by omega) hn5).1 (by rw [t3]; exact cT)
    obtain ⟨d2, e1, e2, e3⟩ := x9_pens hE
    obtain ⟨hB1, hB2⟩ := pn9_bd (n := x.1.1 114) (F := x.1.1 12) (p := p) (stop := false) h3
    obtain ⟨hC1, hC2⟩ := pn9_bd (n := x.1.1 114) (F := x.1.1 12) (p := p) (stop := true) h3
    have hQ := pn9_stop (n := x.1.1 114) (F := x.1.1 12) (p := p) (r := r)
    have hf := sp_first (r := r) (stop := false) (may := pnM (x.1.1 114)) (S := pnS (x.1.1 114)) (H := pnB (x.1.1 12) p r) (M := 0) (K := 3) h3 9 0 (fun _ => 0) (0, 0, fun _ => 0) (fun q hq => absurd hq (Nat.not_lt_zero _)) (fun z => absurd rfl z)
    have hf' : (pn9 (x.1.1 114) (x.1.1 12) p r false).2.1 ≠ 0 → ∀ q, q < 9 → (pn9 (x.1.1 114) (x.1.1 12) p r false).2.2 q < 3 := fun z q hq => hf z q (by omega)
    generalize pn9 (x.1.1 114) (x.1.1 12) p r false = A at e3 hB1 hB2 hQ hf'
    obtain ⟨q, rfl⟩ : ∃ q : Nat, v = q := ⟨v.toNat, by omega⟩
    obtain ⟨V, hV⟩ : ∃ V : Int, V = if A.2.1 = 0 then -1 else ((A.2.2 q : Nat) : Int) := ⟨_, rfl⟩
    have hVr : inR V := by
      rw [hV]
      by_cases z : A.2.1 = 0
      · rw [if_pos z]; omega
      · rw [if_neg z]
        have := hf' z q (by omega)
        omega
    have eC : X11_broken (q : Int) x = some (.inl V, xD x d2) := by
      unfold X11_broken
      have q2 : (xD x d2).1.1 11 7 = (A.2.1 : Int) := e3.2.1
      rw [gd_pos (by omega), if_neg (by omega), gd_pos (by omega), if_neg (by omega), b1_pos eT, gd_pos (by omega), if_neg (by decide), bd_pos e1, lt_pos, q2, gd_pos (by omega), hV]
      by_cases z : A.2.1 = 0
      · rw [if_pos (by omega), if_pos z]
      · have q3 : (xD x d2).1.1 16 q = ((A.2.2 q : Nat) : Int) := e3.2.2 z q (by omega)
        rw [if_neg (by omega), if_neg z, gd_pos (by omega), Int.toNat_natCast, q3]
    refine both (en := 1) (f := fun x => L_law__j1596_23 Ln sc (8 * (k : Int)) x) h hk (x2 := xD x d2) (v := V) ⟨Or.inl ⟨rfl, eC⟩, Nat.le_refl _, Nat.le_refl _⟩ hVr (Kp.D e2.Sm9) (Or.inl rfl) (w := V) hVr (fun _ => rfl) (M := fun d => X12_broken 113 q d) (fun d hd => ?_)
    have hd' : d.1 = d2.1 := hd
    have w : ∀ c, 100 ≤ c → d.1 c = x.1.1 c := fun c hc => by rw [hd', e2.c (by omega) (by omega) (by omega) (by omega)]
    have w1 : ∀ c, 100 ≤ c → c ≠ 113 → (wI d 113 0 0).1 c = x.1.1 c := fun c hc h9 => by rw [wI_ne h9]; exact w c hc
    have y1 : (wI d 113 0 0).1 113 1 = r := by rw [wI_at, fu_n (by decide), w 113 (by omega)]; exact t2
    have y4 : (wI d 113 0 0).1 113 4 = p := by rw [wI_at, fu_n (by decide), w 113 (by omega)]; exact t5
    obtain ⟨d', f1, f2, f3, -, f5, f6⟩ := tell9 (d := wI d 113 0 0) true hD (w1 114 (by omega) (by decide)) (w1 117 (by omega) (by decide)) y1 y4
    have f1' : X12_tellShapes 113 9 1 (wI d 113 0 0) = some ((), d') := f1
    refine ⟨d', ?_, by rw [f5 113 0 (by decide) (by decide) (Or.inr ⟨by decide, by decide, by decide⟩)]; rfl, (Sm.wI rfl).tr f2, by rw [f3]; rfl⟩
    have hI := (x12_isIn (d := wI d 113 0 0) (v := (q : Int)) (a := 0) (b := 8) (by omega) (by omega) (by omega)).1 (by omega)
    have hT2 := (x12_hasTrees (d := wI d 113 0 0) y1 (by rw [w1 114 (by omega) (by decide)]; exact t4)).1 (by rw [w1 114 (by omega) (by decide)]; exact cT)
    show X12_broken 113 q d = _
    unfold X12_broken
    rw [lt_pos, b1_pos hI, gd_pos (by omega), if_neg (by decide), b1_pos hT2, gd_pos (by omega), if_neg (by decide), bd_pos f1', f6.2.1, gd_pos (by omega), hV]
    by_cases z : A.2.1 = 0
    · rw [if_pos (by have := hQ.1.mp z; omega), if_pos z]
    · have z2 : (pn9 (x.1.1 114) (x.1.1 12) p r true).2.1 ≠ 0 := fun y => z (hQ.1.mpr y)
      have q3 : d'.1 (113 + 24) q = (((pn9 (x.1.1 114) (x.1.1 12) p r true).2.2 q : Nat) : Int) := f6.2.2 z2 q (by omega)
      rw [if_neg (by omega), if_neg z, gd_pos (by omega), Int.toNat_natCast, q3, hQ.2 z2]
  · have eC : X11_broken v x = some (.inr 1, xT x) := by
      unfold X11_broken
      rw [gd_pos (by omega)]
      by_cases c1 : v < 0
      · rw [if_pos c1]
      · rw [if_neg c1, gd_pos (by omega)]
        by_cases c2 : 8 < v
        · rw [if_pos c2]
        · have eT : X6_hasTrees 2 x.1 = some 0 := (x6_hasTrees t1 t4.1.2 hn5).2 (by rw [t3]; exact fun z => c ⟨(by omega), z⟩)
          rw [if_neg c2, b1_pos eT, gd_pos (by omega), if_pos rfl]
    refine both (en := 1) (f := fun x => L_law__j1596_23 Ln sc (8 * (k : Int)) x) h hk (x2 := xT x) (v := 0) ⟨Or.inr ⟨rfl, eC⟩, Nat.le_succ _, Nat.le_add_right _ _⟩ (by omega) (Kp.T x) (Or.inr rfl) (w := 0) (by omega) (fun h9 => by omega) (M := fun d => X12_broken 113 v d) (fun d hd => ⟨wI (wI d 113 0 0) 113 0 1, ?_, rfl, (Sm.wI rfl).tr (Sm.wI rfl), rfl⟩)
    have hd' : d.1 = x.1.1 := hd
    have hI := x12_isIn (d := wI d 113 0 0) (v := v) (a := 0) (b := 8) (by omega) (by omega) (by omega)
    have j : X12_broken_j22 113 (wI d 113 0 0) = some (0, wI (wI d 113 0 0) 113 0 1) := rfl
    show X12_broken 113 v d = _
    unfold X12_broken
    by_cases c1 : 0 ≤ v ∧ v ≤ 8
    · have y1 : (wI d 113 0 0).1 113 1 = r := by rw [wI_at, fu_n (by decide), hd']; exact t2
      have y14 : (wI d 113 0 0).1 114 = x.1.1 114 := by rw [wI_ne (by decide), hd']
      have hT2 := (x12_hasTrees (d := wI d 113 0 0) y1 (by rw [y14]; exact t4)).2 (by rw [y14]; exact fun z => c ⟨c1, z⟩)
      rw [lt_pos, b1_pos (hI.1 c1), gd_pos (by omega), if_neg (by decide), b1_pos hT2, gd_pos (by omega), if_pos rfl, j]
    · rw [lt_pos, b1_pos (hI.2 c1), gd_pos (by omega), if_pos rfl, j]

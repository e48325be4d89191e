/-! ===== turned: the step itself ===== -/
theorem st_25 {Ln k : Nat} {sc : Int → Int} {x : XS} (h : Inv k x) (hk : k < 512) (h0 : 0 ≤ 8 * (k : Int) ∧ 8 * (k : Int) + 8 ≤ (Ln : Int)) (hL : Ln ≤ 4096) (hsc : ScR sc) (hop : iand9 (sc (8 * (k : Int))) 31 = 25) : Step9 Ln sc k x := by
  unfold Step9
  rw [br_25 h0 hL hop]
  simp only [gd_pos (show ix (8 * (k : Int) + 1) Ln from (by omega)), gd_pos (show ix (8 * (k : Int) + 2) Ln from (by omega)), gd_pos (show ix (8 * (k : Int) + 3) Ln from (by omega))]
  have hu := hsc (8 * (k : Int) + 1)
  have hu2 := hsc (8 * (k : Int) + 2)
  have hu3 := hsc (8 * (k : Int) + 3)
  generalize sc (8 * (k : Int) + 1) = u at hu
  generalize sc (8 * (k : Int) + 2) = u2 at hu2
  generalize sc (8 * (k : Int) + 3) = u3 at hu3
  obtain ⟨d1, q, r, p, iv, e1, h1, e2, e3, e4, e5, e6, e7, e8, e9, e10, e11⟩ := h.find
  have h5 := e6.1
  have hp0 : 0 < p := by omega
  have w9 : ∀ c, 68 ≤ c → d1.1 c = x.1.1 c := fun c hc => e2.2 c (by omega)
  have hX1 : XD9 d1 (x.1.1 114) r p iv := e2.D e11
  have le0 : xc x ≤ xc x ∧ xs x ≤ xs x := ⟨Nat.le_refl _, Nat.le_refl _⟩
  obtain ⟨-, -, ⟨z64, z27⟩, hxe, hok, -, -⟩ := h.z
  by_cases c2 : 0 ≤ u ∧ u < q
  · obtain ⟨ui, rfl⟩ : ∃ i : Nat, u = i := ⟨u.toNat, by omega⟩
    obtain ⟨C, hC⟩ : ∃ C : Nat → Nat → Int, C = fun i k => d1.1 62 (5 * i + k) := ⟨_, rfl⟩
    rw [← hC] at e5
    have b4 : Cb p r (C ui) := fun k hk => (e5.1 ui (by omega)).2.1 k hk
    have nb5 : Nb d1 5 := fun j hj => by show 0 ≤ d1.1 6 j ∧ d1.1 6 j ≤ 9; rw [hX1.2.1]; exact e6.2.1 j hj
    have ef := x8_fwd (d := d1) (o := 5) hX1.1 h5.2 nb5
    have g114 : d1.1 114 = x.1.1 114 := w9 114 (by omega)
    have g113 : d1.1 113 = x.1.1 113 := w9 113 (by omega)
    have nC := (x11_needC e1 e3 e4 hu).1 c2
    have q5 : (xD x d1).1.1 5 0 = r := hX1.1
    by_cases c4 : 4 < r
    · have eC : X11_turned (ui : Int) u2 u3 x = X11_turned_j89 ui u2 u3 0 (xD x d1) := by
        unfold X11_turned
        rw [xb_ok (x := x) nC le0, q5, gd_pos (by omega), if_pos (by omega)]
        unfold X11_turned_j37 X11_turned_j38
        rw [gd_pos (by decide), if_pos rfl]
      exact trn_no (y := xD x d1) (r := r) (p := p) (C := C) (f := fun x => L_law__j1868_23 Ln sc (8 * (k : Int)) x) h1 hk le0 eC (by show TG (d1.1 114) r; rw [g114]; exact e6) (by show d1.1 113 1 = r; rw [g113]; exact e8) (by show d1.1 113 4 = p; rw [g113]; exact e9) e7 e4 (by show ChL (d1.1 114) r p q C; rw [g114]; exact e5) (by omega) (Or.inl c4) hu2 hu3
    · cases hf : fwd d1 5 r with
      | some i =>
        rw [hf] at ef
        have hi := fwd_bd hf
        have ef' : X8_firstWithoutDual 5 (xD x d1).1 = some ((i : Int), duD d1 5 r i) := ef
        have hy : Inv k (xD (xD x d1) (duD d1 5 r i)) := h1.eqz (Sm.wA (fun _ => rfl)) ⟨rfl, rfl, rfl, hok, rfl, rfl⟩
        have y9 : ∀ c, c ≠ 7 → (duD d1 5 r i).1 c = d1.1 c := fun c z => by unfold duD; rw [wA_ne z]
        have eC : X11_turned (ui : Int) u2 u3 x = X11_turned_j89 ui u2 u3 0 (xD (xD x d1) (duD d1 5 r i)) := by
          unfold X11_turned
          rw [xb_ok (x := x) nC le0, q5, gd_pos (by omega), if_neg (by omega), bd_pos ef', lt_pos, gd_pos (by omega), if_neg (by omega)]
          unfold X11_turned_j37 X11_turned_j38
          rw [gd_pos (by decide), if_pos rfl]
        have y114 : (duD d1 5 r i).1 114 = x.1.1 114 := by rw [y9 114 (by decide)]; exact g114
        have y113 : (duD d1 5 r i).1 113 = x.1.1 113 := by rw [y9 113 (by decide)]; exact g113
        refine trn_no (y := xD (xD x d1) (duD d1 5 r i)) (r := r) (p := p) (C := C) (f := fun x => L_law__j1868_23 Ln sc (8 * (k : Int)) x) hy hk le0 eC (by show TG ((duD d1 5 r i).1 114) r; rw [y114]; exact e6) (by show (duD d1 5 r i).1 113 1 = r; rw [y113]; exact e8) (by show (duD d1 5 r i).1 113 4 = p; rw [y113]; exact e9) e7 e4 (by show ChL ((duD d1 5 r i).1 114) r p q C; rw [y114]; exact e5) (by omega) (Or.inr ?_) hu2 hu3
        have : fwd (duD d1 5 r i) 113 r = fwd d1 5 r := fwd_eq (by
          funext a b c
          show (duD d1 5 r i).1 114 _ = d1.1 6 _
          rw [y114, hX1.2.1])
        show fwd (duD d1 5 r i) 113 r ≠ none
        rw [this, hf]
        intro z; cases z
      | none =>
        rw [hf] at ef
        obtain ⟨du, hdu⟩ := fwd_du (n := x.1.1 114) (d := d1) (o := 5) hX1.2.1 hf
        have hfw : ∀ d : DA, d.1 114 = x.1.1 114 → fwd d 113 r = none := fun d hd => by
          rw [← hf]
          exact fwd_eq (by
            funext a b c
            show d.1 114 _ = d1.1 6 _
            rw [hd, hX1.2.1])
        generalize hd2 : duD d1 5 r r = d2 at ef
        have o2 : ∀ c, c ≠ 7 → d2.1 c = d1.1 c := fun c z => by rw [← hd2]; unfold duD; rw [wA_ne z]
        have a7 : ∀ i, i < r → d2.1 7 i = (du i : Nat) ∧ du i < r := fun i hi => by
          refine ⟨?_, (hdu i hi).2⟩
          rw [← hd2]
          unfold duD
          rw [wA_at]
          show (if i < r then ptn (fun j => nn d1 5 i j 0) r else d1.1 (5 + 2) i) = _
          rw [if_pos hi, ← (hdu i hi).1]
          refine ptn_congr (fun j hj => ?_)
          show d1.1 6 _ = _
          rw [hX1.2.1]; rfl
        have ef' : X8_firstWithoutDual 5 (xD x d1).1 = some (-1, d2) := ef
        obtain ⟨y, hy⟩ : ∃ y, y = xD (xD x d1) d2 := ⟨_, rfl⟩
        have y1 : y.1 = d2 := by rw [hy]; rfl
        have hIy : Inv k y := by
          rw [hy]
          exact h1.eqz (by rw [← hd2]; exact Sm.wA (fun _ => rfl)) ⟨rfl, rfl, rfl, hok, rfl, rfl⟩
        have yr : y.1.1 113 1 = r := by rw [y1, o2 113 (by decide), g113]; exact e8
        have yp : y.1.1 113 4 = p := by rw [y1, o2 113 (by decide), g113]; exact e9
        have y114 : y.1.1 114 = x.1.1 114 := by rw [y1, o2 114 (by decide)]; exact g114
        have y5 : y.1.1 5 0 = r := by rw [y1, o2 5 (by decide)]; exact hX1.1
        have cxy : xc x ≤ xc y ∧ xs x ≤ xs y := by rw [hy]; exact le0
        have ui5 : ui < 5 := by omega
        have eC0 : X11_turned (ui : Int) u2 u3 x = X11_turned_j38 ui u2 u3 1 y := by
          unfold X11_turned
          rw [xb_ok (x := x) nC le0, q5, gd_pos (by omega), if_neg (by omega), bd_pos ef', lt_pos, gd_pos (by decide), if_pos rfl, ← hy]
        obtain ⟨fi, t1, t2, t3, t4⟩ := hIy.ti yr yp
        have zy := hIy.z
        rcases t4 ui ui5 with t4 | ⟨am, st, t5, t6, t7, t8⟩
        · -- found now
          have hN : (p - 1) ^ (r - 1) ≤ 27000 := by
            have z1 : (p - 1) ^ (r - 1) ≤ 30 ^ (r - 1) := Nat.pow_le_pow_left (by omega) _
            have z2 : 30 ^ (r - 1) ≤ 30 ^ 3 := Nat.pow_le_pow_right (by decide) (by omega)
            have z3 : 30 ^ 3 = 27000 := rfl
            omega
          obtain ⟨G, hG⟩ : ∃ G : Nat → Bool, ∀ X, X < (p - 1) ^ (r - 1) → (G X = true ↔ Tn9 (x.1.1 114) r p iv du (C ui) (tX9 p r X)) := ⟨fun X => @decide (Tn9 (x.1.1 114) r p iv du (C ui) (tX9 p r X)) (Classical.propDecidable _), fun X _ => @decide_eq_true_iff _ (Classical.propDecidable _)⟩
          obtain ⟨f, b1, b3⟩ := x10_begin (x := y) (r := r) (p := p) (ci := ui) (c := C ui) y5 h5.2 (by omega) (by rw [y1, o2 58 (by decide)]; exact hX1.2.2.1) e7.1 e7.2 (fun k hk => by rw [y1, o2 62 (by decide), hC]) b4
          generalize hD : wI (wA (wI y.1 68 6 (r : Int)) 72 f) 68 7 (Dq9 p r (C ui)) = D at b1
          have Do : ∀ c, c ≠ 68 → c ≠ 72 → D.1 c = y.1.1 c := fun c z1 z2 => by rw [← hD, wI_ne z1, wA_ne z2, wI_ne z1]
          have D6 : D.1 68 6 = r := by rw [← hD, wI_at, fu_n (by decide), wA_ne (by decide), wI_at, fu_s]
          have D7 : D.1 68 7 = Dq9 p r (C ui) := by rw [← hD, wI_at, fu_s]
          have D2 : D.1 68 2 = fi := by rw [← hD, wI_at, fu_n (by decide), wA_ne (by decide), wI_at, fu_n (by decide)]; exact t1
          have D72 : D.1 72 = f := by rw [← hD, wI_ne (by decide), wA_at]
          obtain ⟨y2, hy2⟩ : ∃ y2, y2 = xD (xR4 (xR3 y)) D := ⟨_, rfl⟩
          have y21 : y2.1 = D := by rw [hy2]; rfl
          have hIy2 : Inv k y2 := by
            refine hIy.eqz (x' := y2) (fun c j hr => ?_) ?_
            · rw [y21]
              by_cases e : c = 68
              · subst e
                have ej : j = 2 := by
                  have : decide (j = 2) = true := hr
                  simpa using this
                subst ej
                rw [D2]; exact t1.symm
              · rw [Do c e (fun e => by subst e; cases hr)]
            · rw [hy2]
              exact ⟨rfl, rfl, rfl, ⟨zy.2.2.2.2.1.1, zy.2.2.2.2.1.2.1, Or.inr rfl, Or.inr rfl⟩, rfl, rfl⟩
          have hTC : TC9 y2 (x.1.1 114) (C ui) r p iv du := by
            refine ⟨⟨by rw [y21]; exact D6, by rw [y21]; exact D7, ?_, ?_, ?_, ?_, fun k hk => by rw [y21, D72]; exact b3 k hk⟩, ⟨by rw [hy2]; rfl, by rw [hy2]; rfl, hIy2.z.2.2.2.1, hIy2.z.2.2.2.2.1⟩, hIy2.z.2.2.1.1⟩
            · rw [y21, Do 6 (by decide) (by decide), y1, o2 6 (by decide)]; exact hX1.2.1
            · rw [y21, Do 58 (by decide) (by decide), y1, o2 58 (by decide)]; exact hX1.2.2.1
            · rw [y21, Do 59 (by decide) (by decide), y1, o2 59 (by decide)]; exact hX1.2.2.2
            · rw [y21, Do 7 (by decide) (by decide), y1]; exact a7
          have s5 := sm5_fu (g := y.1.1 69) (ci := ui) (v := 0) ui5 t4 (by decide)
          have zf2 : xzf y2 = xzf y := by rw [hy2]; rfl
          obtain ⟨x5, k1, k2, k3, k4, k5, k6, k7, k8, k9, k10⟩ := x10_findA (x := y2) (n := x.1.1 114) (c := C ui) (r := r) (p := p) (ci := ui) (fi := fi) (iv := iv) (du := du) (G := G) (by omega) e6 hTC b4 (e5.1 ui (by omega)).1 e7.1 e7.2 e10 hdu hG hN ui5 (by rw [y21]; exact D2) (by omega) (by rw [zf2]; exact t2) (by rw [zf2]; exact zy.2.2.1.2)
          have am27 : cn9 G ((p - 1) ^ (r - 1)) ≤ 27000 := Nat.le_trans (cn9_le _) hN
          have y2114 : y2.1.1 114 = x.1.1 114 := by rw [y21, Do 114 (by decide) (by decide)]; exact y114
          have tk : TK9 ui (cn9 G ((p - 1) ^ (r - 1))) fi (x5.1.1 71) (x.1.1 114) r p := tk_mk e6 (by omega) e7.1 e7.2 e10 e4 e5 (by omega) hfw hdu hG hN k7
          have y2r : y2.1.1 113 1 = r := by rw [y21, Do 113 (by decide) (by decide)]; exact yr
          have y2p : y2.1.1 113 4 = p := by rw [y21, Do 113 (by decide) (by decide)]; exact yp
          have hI5 : Inv k x5 := hIy2.tnf (r := r) (p := p) (ci := ui) (fi := fi) (am := cn9 G ((p - 1) ^ (r - 1))) y2r y2p ui5 (by rw [y21, Do 69 (by decide) (by decide)]; exact t4) (by rw [y21]; exact D2) k3 k4 k5 k6 k8 k9 k10 am27 (by rw [y2114]; exact tk)
          have c25 : xc y2 ≤ xc x5 ∧ xs y2 ≤ xs x5 := k10.2.2.2.2.1
          have cy2 : xc y2 = xc y ∧ xs y2 = xs y := by rw [hy2]; exact ⟨rfl, rfl⟩
          have eC : X11_turned (ui : Int) u2 u3 x = X11_turned_j89 ui u2 u3 1 x5 := by
            rw [eC0]
            unfold X11_turned_j38
            rw [hy2] at k1
            rw [gd_pos (by decide), if_neg (by decide), gd_pos (by omega), Int.toNat_natCast, t4, gd_pos (by decide), if_pos rfl, xb_ok (x := y) b1 ⟨Nat.le_refl _, Nat.le_refl _⟩, xb_ok k1 (by rw [← hy2]; exact c25)]
          have k3' : ∀ q, q ≠ 60 → q ≠ 68 → q ≠ 69 → q ≠ 70 → q ≠ 71 → (q < 73 ∨ 80 < q) → q ≠ 72 → x5.1.1 q = y.1.1 q := fun q z1 z2 z3 z4 z5 z6 z7 => by rw [k3 q z1 z2 z3 z4 z5 z6, y21, Do q z2 z7]
          refine trn_go (y := x5) (ci := ui) (am := cn9 G ((p - 1) ^ (r - 1))) (st := fi) (r := r) (p := p) (f := fun x => L_law__j1868_23 Ln sc (8 * (k : Int)) x) hI5 hk (by omega) eC h5.2 ?_ ?_ ?_ ui5 (by rw [k8, fu_s]) (by rw [k9, fu_s]) k5 ?_ hu2 hu3
          · rw [k3' 5 (by decide) (by decide) (by decide) (by decide) (by decide) (by decide) (by decide)]; exact y5
          · rw [k3' 113 (by decide) (by decide) (by decide) (by decide) (by decide) (by decide) (by decide)]; exact yr
          · rw [k3' 113 (by decide) (by decide) (by decide) (by decide) (by decide) (by decide) (by decide)]; exact yp
          · rw [k3' 114 (by decide) (by decide) (by decide) (by decide) (by decide) (by decide) (by decide), y114]; exact tk
        · -- known
          have eC : X11_turned (ui : Int) u2 u3 x = X11_turned_j89 ui u2 u3 1 y := by
            rw [eC0]
            unfold X11_turned_j38
            have := zy.2.2.1.2
            rw [gd_pos (by decide), if_neg (by decide), gd_pos (by omega), Int.toNat_natCast, t5, gd_pos (by omega), if_neg (by omega)]
          exact trn_go (y := y) (ci := ui) (am := am) (st := st) (r := r) (p := p) (f := fun x => L_law__j1868_23 Ln sc (8 * (k : Int)) x) hIy hk cxy eC h5.2 y5 yr yp ui5 t5 t6 (by omega) t8 hu2 hu3
  · have eC : X11_turned u u2 u3 x = some (.inr 1, xT (xD x d1)) := by
      unfold X11_turned
      rw [xb_er (x := x) ((x11_needC e1 e3 e4 hu).2 c2) ⟨Nat.le_succ _, Nat.le_add_right _ _⟩]
    refine both3 (x1 := xD x d1) (en := 1) (f := fun x => L_law__j1868_23 Ln sc (8 * (k : Int)) x) h1 hk (x2 := xT (xD x d1)) (v := 0) ⟨Or.inr ⟨rfl, eC⟩, Nat.le_succ _, Nat.le_add_right _ _⟩ (by omega) (Kp.T _) (Or.inr rfl) (w := 0) (by omega) (fun h9 => by omega) (M := fun d => X12_turned 113 u u2 u3 d) (fun d hd => ?_)
    have hd' : d.1 = d1.1 := hd
    have j17 : ∀ D : DA, X12_turned_j17 113 D = some (0, wI D 113 0 1) := fun D => rfl
    show MA (X12_turned 113 u u2 u3 d) d 1 0
    unfold X12_turned
    rw [lt_pos, gd_pos hu]
    by_cases c6 : u < 0
    · rw [if_pos c6, j17]
      exact ⟨_, rfl, rfl, (Sm.wI rfl).tr (Sm.wI rfl), rfl⟩
    · obtain ⟨d', f1, f2, f3, -, -⟩ := x12_findC (d := wI d 113 0 0) (n := x.1.1 114) (w := u) e6 (by rw [wI_ne (by decide), hd']; exact w9 114 (by omega)) (by rw [wI_at, fu_n (by decide), hd', w9 113 (by omega)]; exact e8) (by rw [wI_at, fu_n (by decide), hd', w9 113 (by omega)]; exact e9) e7.1 e7.2 (by omega) e4 e5
      rw [if_neg c2] at f1
      rw [if_neg c6, bd_pos f1, gd_pos (by omega), if_pos rfl, j17]
      exact ⟨_, rfl, rfl, ((Sm.wI rfl).tr (findC_sm f3)).tr (Sm.wI rfl), by show d'.2 161 = _; rw [f2]; rfl⟩

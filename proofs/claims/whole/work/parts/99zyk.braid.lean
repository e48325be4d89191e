/-- a braid that is asked for wrongly: the reference -/
theorem brd_no {x1 x3 : XS} {u1 u2 u3 : Int} {r p q : Nat} {C : Nat → Nat → Int} (hr : x1.1.1 113 1 = r) (hp : x1.1.1 113 4 = p) (hT : TG (x1.1.1 114) r) (hpp : 2 ≤ p ∧ p ≤ 31) (hq : q ≤ 5) (hC : ChL (x1.1.1 114) r p q C) (hd : ∀ c, 113 ≤ c → x3.1.1 c = x1.1.1 c) (hu1 : inR u1) (hu2 : inR u2) (hu3 : inR u3) (hb : ¬ kd r u1 ∨ (kd r u1 ∧ ¬ (0 ≤ u3 ∧ u3 ≤ 2)) ∨ (kd r u1 ∧ u3 = 0 ∧ ¬ kd r u2) ∨ (kd r u1 ∧ u3 = 1 ∧ ¬ (0 ≤ u2 ∧ u2 < q))) : ∃ d4, X12_braid u1 u2 u3 x3 = some (.inl 0, xD x3 d4) ∧ d4.1 113 0 = 1 ∧ Sm x3.1 d4 ∧ d4.2 = x3.1.2 := by
  have h5 := hT.1
  have y1 : (wI x3.1 113 0 0).1 113 1 = r := by rw [wI_at, fu_n (by decide), hd 113 (by omega)]; exact hr
  have y4 : (wI x3.1 113 0 0).1 113 4 = p := by rw [wI_at, fu_n (by decide), hd 113 (by omega)]; exact hp
  have y14 : (wI x3.1 113 0 0).1 114 = x1.1.1 114 := by rw [wI_ne (by decide)]; exact hd 114 (by omega)
  have j51 : ∀ D : DA, X12_braid_j51 (xD x3 D) = some (.inl 0, xD x3 (wI D 113 0 1)) := fun D => rfl
  unfold X12_braid
  rw [lt_pos, lt_pos]
  have ki := x12_isKind (d := wI x3.1 113 0 0) (r := r) (v := u1) y1 h5.2 hu1
  rcases hb with hb | ⟨h1, hb⟩ | ⟨h1, rfl, hb⟩ | ⟨h1, rfl, hb⟩
  · have k1' : X12_isKind 113 u1 (xD x3 (wI x3.1 113 0 0)).1 = some 0 := ki.2 hb
    rw [b1_pos k1', gd_pos (by decide), if_pos rfl, j51]
    exact ⟨_, rfl, by rw [wI_at, fu_s], (Sm.wI rfl).tr (Sm.wI rfl), rfl⟩
  · have k1' : X12_isKind 113 u1 (xD x3 (wI x3.1 113 0 0)).1 = some 1 := ki.1 h1
    have k2' : X12_isIn u3 0 2 (xD x3 (wI x3.1 113 0 0)).1 = some 0 := (x12_isIn (d := wI x3.1 113 0 0) (v := u3) (a := 0) (b := 2) hu3 (by decide) (by decide)).2 hb
    rw [b1_pos k1', gd_pos (by decide), if_neg (by decide), b1_pos k2', gd_pos (by decide), if_pos rfl, j51]
    exact ⟨_, rfl, by rw [wI_at, fu_s], (Sm.wI rfl).tr (Sm.wI rfl), rfl⟩
  · have k1' : X12_isKind 113 u1 (xD x3 (wI x3.1 113 0 0)).1 = some 1 := ki.1 h1
    have k2' : X12_isIn 0 0 2 (xD x3 (wI x3.1 113 0 0)).1 = some 1 := (x12_isIn (d := wI x3.1 113 0 0) (v := 0) (a := 0) (b := 2) (by decide) (by decide) (by decide)).1 (by decide)
    have k3' : X12_isKind 113 u2 (xD x3 (wI x3.1 113 0 0)).1 = some 0 := (x12_isKind (d := wI x3.1 113 0 0) (r := r) (v := u2) y1 h5.2 hu2).2 hb
    rw [b1_pos k1', gd_pos (by decide), if_neg (by decide), b1_pos k2', gd_pos (by decide), if_neg (by decide), gd_pos (by decide), if_pos rfl, b1_pos k3', gd_pos (by decide), if_pos rfl, j51]
    exact ⟨_, rfl, by rw [wI_at, fu_s], (Sm.wI rfl).tr (Sm.wI rfl), rfl⟩
  · have k1' : X12_isKind 113 u1 (xD x3 (wI x3.1 113 0 0)).1 = some 1 := ki.1 h1
    have k2' : X12_isIn 1 0 2 (xD x3 (wI x3.1 113 0 0)).1 = some 1 := (x12_isIn (d := wI x3.1 113 0 0) (v := 1) (a := 0) (b := 2) (by decide) (by decide) (by decide)).1 (by decide)
    rw [b1_pos k1', gd_pos (by decide), if_neg (by decide), b1_pos k2', gd_pos (by decide), if_neg (by decide), gd_pos (by decide), if_neg (by decide)]
    unfold X12_braid_j34
    rw [gd_pos (by decide), if_pos rfl, gd_pos hu2]
    by_cases c6 : u2 < 0
    · rw [if_pos c6, j51]
      exact ⟨_, rfl, by rw [wI_at, fu_s], (Sm.wI rfl).tr (Sm.wI rfl), rfl⟩
    · obtain ⟨d6, f1, f2, f3, -, -⟩ := x12_findC (d := wI x3.1 113 0 0) (n := x1.1.1 114) (w := u2) hT y14 y1 y4 hpp.1 hpp.2 (by omega) hq hC
      rw [if_neg hb] at f1
      have f1' : X12_findCharacter 113 u2 (xD x3 (wI x3.1 113 0 0)).1 = some (0, d6) := f1
      rw [if_neg c6, bd_pos f1', lt_pos, gd_pos (by decide), if_pos rfl]
      refine ⟨wI d6 113 0 1, rfl, by rw [wI_at, fu_s], ((Sm.wI rfl).tr (findC_sm f3)).tr (Sm.wI rfl), ?_⟩
      show d6.2 = _
      rw [f2]; rfl
/-- a braid that is asked for wrongly: both sides -/
theorem brd_wr {k : Nat} {x y : XS} {u1 u2 u3 : Int} {r p q : Nat} {C : Nat → Nat → Int} (hxe : xe x = 0) (hok : xok9 x) (e8 : x.1.1 113 1 = r) (e9 : x.1.1 113 4 = p) (e6 : TG (x.1.1 114) r) (e7 : 2 ≤ p ∧ p ≤ 31) (e4 : q ≤ 5) (e5 : ChL (x.1.1 114) r p q C) (hu1 : inR u1) (hu2 : inR u2) (hu3 : inR u3) (hk : k < 512) (hy : Inv k y) (e : y.2 = x.2) (hyc : ∀ c, 113 ≤ c → y.1.1 c = x.1.1 c) (eC : X11_braid u1 u2 u3 x = some (.inr 1, xT y)) (hb : ¬ kd r u1 ∨ (kd r u1 ∧ ¬ (0 ≤ u3 ∧ u3 ≤ 2)) ∨ (kd r u1 ∧ u3 = 0 ∧ ¬ kd r u2) ∨ (kd r u1 ∧ u3 = 1 ∧ ¬ (0 ≤ u2 ∧ u2 < q))) {f : XS → Option ((Int × XS) ⊕ (XS ⊕ (Int × XS)))} {bad : XS → Option ((Int × XS) ⊕ (XS ⊕ (Int × XS)))} :
    ∃ x', (bd (L_braid u1 u2 u3 x) fun r7 x8 =>
      gd (xc x ≤ xc x8 ∧ xs x ≤ xs x8) <|
      xb x8 (X12_braid u1 u2 u3 x8) (fun x10 x11 =>
      b1 (X12_thrown 113 x11.1) fun x12 =>
      gd (inR x12 ∧ inR r7) <|
      if x12 = r7 then (gd (inR r7) <|
      if r7 = 0 then (gd (ix 0 1) <|
      gd (inR x10) <|
      gd (inR64 (x11.1.2 161 (Int.toNat 0)) ∧ inR64 x10) <|
      gd (inR (lcmp9 (x11.1.2 161 (Int.toNat 0)) x10)) <|
      if (lcmp9 (x11.1.2 161 (Int.toNat 0)) x10) = 0 then f x11 else bad x11) else f x11) else bad x11) (fun _ _ => none)) = f x' ∧ Inv (k + 1) x' := by
  have hcx : xc x ≤ xc (xT y) ∧ xs x ≤ xs (xT y) := by
    have a3 : xc y = xc x := by unfold xc; rw [e]
    have a4 : xs y = xs x := by unfold xs; rw [e]
    have z : xc (xT y) = xc y + 1 ∧ xs (xT y) = xs y + 6 := ⟨rfl, rfl⟩
    omega
  refine both5 (x1 := y) (en := 1) (f := f) (bad := bad) hy hk (x2 := xT y) (v := 0) (c := 1) ⟨Or.inr ⟨rfl, eC⟩, hcx.1, hcx.2⟩ (by decide) (Kp.T y) (Or.inr rfl) (w := 0) (by decide) (fun h9 => by omega) (M := fun x => X12_braid u1 u2 u3 x) (fun x3 z1 z2 => ?_)
  obtain ⟨d4, g1, g2, g3, g4⟩ := brd_no (x1 := x) (x3 := x3) (u1 := u1) (u2 := u2) (u3 := u3) e8 e9 e6 e7 e4 e5 (fun c hc => by rw [z1]; exact hyc c hc) hu1 hu2 hu3 hb
  have xe3 : xe x3 = 0 := by
    have y1 : xe x3 = xe (xT y) := by unfold xe; rw [z2]
    have y2 : xe (xT y) = xe y := rfl
    have y3 : xe y = xe x := by unfold xe; rw [e]
    rw [y1, y2, y3]; exact hxe
  have xk3 : xok9 x3 := by
    have z3 : xok9 x3 ↔ xok9 (xT y) := by unfold xok9 xrt xrb xtt xtn; rw [z2]
    have z4 : xok9 (xT y) ↔ xok9 y := Iff.rfl
    have z5 : xok9 y ↔ xok9 x := by unfold xok9 xrt xrb xtt xtn; rw [e]
    exact z3.mpr (z4.mpr (z5.mpr hok))
  exact ⟨xD x3 d4, g1, g2, by show d4.2 161 = _; rw [g4], g3, (Zx9.rf xe3 xk3 d4).up (by decide) (by decide)⟩
theorem st_27 {Ln k : Nat} {sc : Int → Int} {x : XS} (h : Inv k x) (hk : k < 512) (h0 : 0 ≤ 8 * (k : Int) ∧ 8 * (k : Int) + 8 ≤ (Ln : Int)) (hL : Ln ≤ 4096) (hsc : ScR sc) (hop : iand9 (sc (8 * (k : Int))) 31 = 27) : Step9 Ln sc k x := by
  unfold Step9
  rw [br_27 h0 hL hop]
  simp only [gd_pos (show ix (8 * (k : Int) + 1) Ln from (by omega)), gd_pos (show ix (8 * (k : Int) + 2) Ln from (by omega)), gd_pos (show ix (8 * (k : Int) + 3) Ln from (by omega))]
  have hu1 := hsc (8 * (k : Int) + 1)
  have hu2 := hsc (8 * (k : Int) + 2)
  have hu3 := hsc (8 * (k : Int) + 3)
  generalize sc (8 * (k : Int) + 1) = u1 at hu1
  generalize sc (8 * (k : Int) + 2) = u2 at hu2
  generalize sc (8 * (k : Int) + 3) = u3 at hu3
  obtain ⟨d1, q, r, p, iv, e1, h1, e2, e3, e4, e5, e6, e7, e8, e9, e10, e11⟩ := h.find
  have h5 := e6.1
  have w9 : ∀ c, 68 ≤ c → d1.1 c = x.1.1 c := fun c hc => e2.2 c (by omega)
  have hX1 : XD9 d1 (x.1.1 114) r p iv := e2.D e11
  obtain ⟨-, -, -, hxe, hok, -⟩ := h.z
  have kx := x11_needKind (x := x) (r := r) (a := u1) e11.1 h5.2 hu1
  have kx2 := x11_needKind (x := x) (r := r) (a := u2) e11.1 h5.2 hu2
  have le0 : xc x ≤ xc x ∧ xs x ≤ xs x := ⟨Nat.le_refl _, Nat.le_refl _⟩
  have lT : ∀ y : XS, xc y ≤ xc (xT y) ∧ xs y ≤ xs (xT y) := fun y => ⟨Nat.le_succ _, Nat.le_add_right _ _⟩
  by_cases c1 : kd r u1
  · have n1 := kx.1 c1
    by_cases c0 : u3 = 0
    · by_cases c2 : kd r u2
      · have eC : X11_braid u1 u2 u3 x = X11_braid_j46 u1 u2 u3 x := by
          unfold X11_braid
          rw [xb_ok (x := x) n1 le0, gd_pos hu3, if_pos c0, xb_ok (x := x) (kx2.1 c2) le0]
        exact brd_go (Ln := Ln) (sc := sc) (x := x) (x1 := x) (f := fun x => L_law__j1973_23 Ln sc (8 * (k : Int)) x) h hk hu2 e8 e9 e6 e7 e10 e11 e4 e5 (fun z => by omega) c1 (Or.inl ⟨c0, c2⟩) le0 eC
      · have eC : X11_braid u1 u2 u3 x = some (.inr 1, xT x) := by
          unfold X11_braid
          rw [xb_ok (x := x) n1 le0, gd_pos hu3, if_pos c0, xb_er (x := x) (kx2.2 c2) (lT x)]
        exact brd_wr (y := x) (f := fun x => L_law__j1973_23 Ln sc (8 * (k : Int)) x) hxe hok e8 e9 e6 e7 e4 e5 hu1 hu2 hu3 hk h rfl (fun _ _ => rfl) eC (Or.inr (Or.inr (Or.inl ⟨c1, c0, c2⟩)))
    · by_cases c3 : u3 = 1
      · have nc := x11_needC e1 e3 e4 hu2
        by_cases c2 : 0 ≤ u2 ∧ u2 < q
        · have eC : X11_braid u1 u2 u3 x = X11_braid_j46 u1 u2 u3 (xD x d1) := by
            unfold X11_braid
            rw [xb_ok (x := x) n1 le0, gd_pos hu3, if_neg c0, gd_pos (by omega), if_pos c3, xb_ok (x := x) (nc.1 c2) le0]
          have g14 : (xD x d1).1.1 114 = x.1.1 114 := w9 114 (by omega)
          have g113 : (xD x d1).1.1 113 = x.1.1 113 := w9 113 (by omega)
          exact brd_go (Ln := Ln) (sc := sc) (x := x) (x1 := xD x d1) (f := fun x => L_law__j1973_23 Ln sc (8 * (k : Int)) x) (C := fun i k => d1.1 62 (5 * i + k)) h1 hk hu2 (by rw [g113]; exact e8) (by rw [g113]; exact e9) (by rw [g14]; exact e6) e7 e10 (by rw [g14]; exact hX1) e4 (by rw [g14]; exact e5) (fun _ i k _ _ => rfl) c1 (Or.inr (Or.inl ⟨c3, c2⟩)) le0 eC
        · have eC : X11_braid u1 u2 u3 x = some (.inr 1, xT (xD x d1)) := by
            unfold X11_braid
            rw [xb_ok (x := x) n1 le0, gd_pos hu3, if_neg c0, gd_pos (by omega), if_pos c3, xb_er (x := x) (nc.2 c2) (lT (xD x d1))]
          exact brd_wr (y := (xD x d1)) (f := fun x => L_law__j1973_23 Ln sc (8 * (k : Int)) x) hxe hok e8 e9 e6 e7 e4 e5 hu1 hu2 hu3 hk h1 rfl (fun c hc => w9 c (by omega)) eC (Or.inr (Or.inr (Or.inr ⟨c1, c3, c2⟩)))
      · by_cases c4 : u3 = 2
        · have eC : X11_braid u1 u2 u3 x = X11_braid_j46 u1 u2 u3 x := by
            unfold X11_braid
            rw [xb_ok (x := x) n1 le0, gd_pos hu3, if_neg c0, gd_pos (by omega), if_neg c3, gd_pos (by omega), if_pos c4]
          exact brd_go (Ln := Ln) (sc := sc) (x := x) (x1 := x) (f := fun x => L_law__j1973_23 Ln sc (8 * (k : Int)) x) h hk hu2 e8 e9 e6 e7 e10 e11 e4 e5 (fun z => by omega) c1 (Or.inr (Or.inr c4)) le0 eC
        · have eC : X11_braid u1 u2 u3 x = some (.inr 1, xT x) := by
            unfold X11_braid
            rw [xb_ok (x := x) n1 le0, gd_pos hu3, if_neg c0, gd_pos (by omega), if_neg c3, gd_pos (by omega), if_neg c4]
          exact brd_wr (y := x) (f := fun x => L_law__j1973_23 Ln sc (8 * (k : Int)) x) hxe hok e8 e9 e6 e7 e4 e5 hu1 hu2 hu3 hk h rfl (fun _ _ => rfl) eC (Or.inr (Or.inl ⟨c1, by omega⟩))
  · have eC : X11_braid u1 u2 u3 x = some (.inr 1, xT x) := by
      unfold X11_braid
      rw [xb_er (x := x) (kx.2 c1) (lT x)]
    exact brd_wr (y := x) (f := fun x => L_law__j1973_23 Ln sc (8 * (k : Int)) x) hxe hok e8 e9 e6 e7 e4 e5 hu1 hu2 hu3 hk h rfl (fun _ _ => rfl) eC (Or.inl c1)

/-! ===== turned: the step ===== -/
theorem Inv.eqz {k : Nat} {x x' : XS} (h : Inv k x) (hS : Sm x.1 x'.1) (hz : xzc x' = xzc x ∧ xzf x' = xzf x ∧ xe x' = xe x ∧ xok9 x' ∧ xc x' = xc x ∧ xs x' = xs x) : Inv k x' := by
  obtain ⟨⟨z1, z2, z3, z4, z5, z6, z7⟩, r, p, m, D, U, tp, kr, la, h⟩ := h
  obtain ⟨e1, e2, e3, e4, e5, e6⟩ := hz
  refine ⟨⟨z1, by rw [e1]; exact z2, by rw [e2]; exact z3, by rw [e3]; exact z4, e4, by rw [e1, e2, e5]; exact z6, by rw [e1, e2, e6]; exact z7⟩, r, p, m, D, U, tp, kr, la, ?_⟩
  rw [vw_eq hS, e1, e2]
  exact h
theorem TK9.cg {c am st : Nat} {fd fd' n : Nat → Int} {r p : Nat} (h : TK9 c am st fd n r p) (e : ∀ q, q < st + am → fd' q = fd q) : TK9 c am st fd' n r p := by
  refine ⟨fun i hi => by rw [e _ (by omega)]; exact h.1 i hi, fun d hR i k hi hk => ?_⟩
  obtain ⟨a1, a2⟩ := h.2 d hR i k hi hk
  refine ⟨a1, fun z => ⟨fun y => ?_, (a2 z).2⟩⟩
  rw [e _ (by omega)]
  exact (a2 z).1 y
def chU (c j : Nat) : Bool := c == 68 || c == 69 || c == 70 || c == 71
theorem sm5 (f : Nat → Int) : sm 5 f = f 0 + f 1 + f 2 + f 3 + f 4 := by
  show 0 + f 0 + f 1 + f 2 + f 3 + f 4 = _
  omega
theorem sm5_fu {g : Nat → Int} {ci : Nat} {v : Int} (hci : ci < 5) (h1 : g ci = -1) (hv : v ≠ -1) : (sm 5 fun c => if fu g ci v c = -1 then (0 : Int) else 27000) = (sm 5 fun c => if g c = -1 then (0 : Int) else 27000) + 27000 ∧ (sm 5 fun c => if g c = -1 then (0 : Int) else 27000) ≤ 108000 := by
  have b : ∀ c, 0 ≤ (if g c = -1 then (0 : Int) else 27000) ∧ (if g c = -1 then (0 : Int) else 27000) ≤ 27000 := fun c => by split <;> omega
  have b0 := b 0
  have b1 := b 1
  have b2 := b 2
  have b3 := b 3
  have b4 := b 4
  rw [sm5, sm5]
  have f1 : ∀ c, c ≠ ci → fu g ci v c = g c := fun c z => by rw [fu_app, if_neg z]
  have f2 : fu g ci v ci = v := by rw [fu_app, if_pos rfl]
  rcases (show ci = 0 ∨ ci = 1 ∨ ci = 2 ∨ ci = 3 ∨ ci = 4 by omega) with rfl | rfl | rfl | rfl | rfl
  · rw [f2, f1 1 (by decide), f1 2 (by decide), f1 3 (by decide), f1 4 (by decide), if_neg hv, if_pos h1]
    rw [if_pos h1] at b0
    omega
  · rw [f2, f1 0 (by decide), f1 2 (by decide), f1 3 (by decide), f1 4 (by decide), if_neg hv, if_pos h1]
    omega
  · rw [f2, f1 0 (by decide), f1 1 (by decide), f1 3 (by decide), f1 4 (by decide), if_neg hv, if_pos h1]
    omega
  · rw [f2, f1 0 (by decide), f1 1 (by decide), f1 2 (by decide), f1 4 (by decide), if_neg hv, if_pos h1]
    omega
  · rw [f2, f1 0 (by decide), f1 1 (by decide), f1 2 (by decide), f1 3 (by decide), if_neg hv, if_pos h1]
    omega
theorem Inv.ti {k : Nat} {x : XS} (h : Inv k x) {r p : Nat} (hr : x.1.1 113 1 = r) (hp : x.1.1 113 4 = p) : TI9 x.1.1 r p (xzf x) := by
  obtain ⟨-, r0, p0, m, D, U, tp, kr, la, hS, -, -, -, -, -, -, hT, -, -⟩ := h
  have t2 : x.1.1 113 1 = r0 := hS.1.2.1
  have p2 : x.1.1 113 4 = p0 := hS.2.1.2.1
  have er : r0 = r := by rw [hr] at t2; omega
  have ep : p0 = p := by rw [hp] at p2; omega
  subst er ep
  exact hT
/-- turns by one more character are known -/
theorem Inv.tnf {k : Nat} {y x' : XS} (h : Inv k y) {r p ci fi am : Nat} (hr : y.1.1 113 1 = r) (hp : y.1.1 113 4 = p) (hci : ci < 5) (h69 : y.1.1 69 ci = -1) (hfi : y.1.1 68 2 = fi) (hq : ∀ q, q ≠ 60 → q ≠ 68 → q ≠ 69 → q ≠ 70 → q ≠ 71 → (q < 73 ∨ 80 < q) → x'.1.1 q = y.1.1 q) (h68 : x'.1.1 68 2 = ((fi + am : Nat) : Int)) (hle : fi + am ≤ xzf x') (h71 : ∀ q, q < fi → x'.1.1 71 q = y.1.1 71 q) (e69 : x'.1.1 69 = fu (y.1.1 69) ci (am : Int)) (e70 : x'.1.1 70 = fu (y.1.1 70) ci (fi : Int)) (hZ : ZG9 y x') (ham : am ≤ 27000) (hK : TK9 ci am fi (x'.1.1 71) (y.1.1 114) r p) : Inv k x' := by
  have hTI := h.ti hr hp
  obtain ⟨⟨z1, z2, z3, z4, z5, z6, z7⟩, r0, p0, m, D, U, tp, kr, la, hS9, hH, hP, hK9, hLi, hN, hC, -, hV, hI⟩ := h
  have t2 : y.1.1 113 1 = r0 := hS9.1.2.1
  have p2 : y.1.1 113 4 = p0 := hS9.2.1.2.1
  have er : r0 = r := by rw [hr] at t2; omega
  have ep : p0 = p := by rw [hp] at p2; omega
  subst er ep
  have hAg : Ag9 chU (vw y.1.1) (vw x'.1.1) := Ag9.of (fun c j hrel hc => by
    unfold chU at hc
    simp only [Bool.or_eq_false_iff, beq_eq_false_iff_ne, ne_eq] at hc
    refine congrFun (hq c (fun e => by subst e; cases hrel) hc.1.1.1 hc.1.1.2 hc.1.2 hc.2 ?_) j
    rcases Nat.lt_or_ge c 73 with u | u
    · exact Or.inl u
    · rcases Nat.lt_or_ge 80 c with u2 | u2
      · exact Or.inr u2
      · exfalso
        rcases (show c = 73 ∨ c = 74 ∨ c = 75 ∨ c = 76 ∨ c = 77 ∨ c = 78 ∨ c = 79 ∨ c = 80 by omega) with rfl | rfl | rfl | rfl | rfl | rfl | rfl | rfl <;> cases hrel)
  have hok := hZ.ok z5
  obtain ⟨g1, ⟨g2, g3⟩, g4, -, ⟨g9, g10⟩, g11, g12⟩ := hZ
  refine ⟨⟨z1, by rw [g1]; exact z2, ⟨by omega, g3⟩, by rw [g4]; exact z4, hok, by rw [g1]; omega, by rw [g1]; omega⟩, r0, p0, m, D, U, tp, kr, la, ?_⟩
  rw [g1]
  refine ⟨hS9.cg hAg ⟨fun _ => rfl, fun _ => rfl, fun _ => rfl, fun _ => rfl, fun _ => rfl, fun _ => rfl, fun _ => rfl, fun _ => rfl, fun _ => rfl, fun _ => rfl, fun _ => rfl⟩ ⟨rfl, rfl, rfl, rfl, rfl, rfl, rfl, rfl⟩, hH.cg hAg ⟨fun _ => rfl, fun _ => rfl, fun _ => rfl, fun _ => rfl, fun _ => rfl, fun _ => rfl, fun _ => rfl, fun _ => rfl⟩ ⟨rfl, rfl, rfl, rfl⟩, hP.cg hAg ⟨fun _ => rfl, fun _ => rfl⟩ ⟨rfl, rfl, rfl, rfl⟩, hK9.cg hAg ⟨fun _ => rfl, fun _ => rfl⟩ ⟨rfl, rfl, rfl⟩, hLi.cg hAg ⟨fun _ => rfl, fun _ => rfl, fun _ => rfl⟩ ⟨rfl, rfl, rfl, rfl, rfl, rfl, rfl⟩, hN.cg hAg (fun _ => rfl) rfl, CI.cg hC hAg ⟨fun _ => rfl, fun _ => rfl⟩ ⟨rfl, rfl⟩, ?_, VI9.cg hV hAg ⟨rfl, rfl, rfl⟩ ⟨fun _ => rfl, fun _ => rfl⟩, hI.cg hAg ⟨fun _ => rfl, fun _ => rfl, fun _ => rfl, fun _ => rfl, fun _ => rfl, fun _ => rfl, fun _ => rfl, fun _ => rfl, fun _ => rfl, fun _ => rfl, fun _ => rfl, fun _ => rfl, fun _ => rfl⟩ ⟨rfl, rfl, rfl, rfl, rfl⟩⟩
  show TI9 (vw x'.1.1) r0 p0 (xzf x')
  have w114 : x'.1.1 114 = y.1.1 114 := hq 114 (by decide) (by decide) (by decide) (by decide) (by decide) (by decide)
  have goal : TI9 x'.1.1 r0 p0 (xzf x') := by
    obtain ⟨f0, a1, a2, a3, a4⟩ := hTI
    have ef : f0 = fi := by rw [hfi] at a1; omega
    subst ef
    have s5 := sm5_fu (g := y.1.1 69) (ci := ci) (v := (am : Int)) hci h69 (by omega)
    refine ⟨f0 + am, h68, hle, ?_, fun c hc => ?_⟩
    · rw [e69, s5.1]; omega
    · rw [e69, e70, w114]
      by_cases ec : c = ci
      · subst ec
        rw [fu_s, fu_s]
        exact Or.inr ⟨am, f0, rfl, rfl, by omega, hK⟩
      · rw [fu_n ec, fu_n ec]
        rcases a4 c hc with a4 | ⟨am', st', b1, b2, b3, b4⟩
        · exact Or.inl a4
        · exact Or.inr ⟨am', st', b1, b2, by omega, b4.cg (fun q hq9 => h71 q (by omega))⟩
  exact goal
theorem Inv.ti9 {k : Nat} {x : XS} (h : Inv k x) {r p : Nat} (hr : x.1.1 113 1 = r) (hp : x.1.1 113 4 = p) : RfT (x.1.1 114) r p x.1 := by
  obtain ⟨-, r0, p0, m, D, U, tp, kr, la, ⟨⟨t1, t2, t3, t4⟩, ⟨p1, p2, p3⟩, ⟨-, f2, -⟩, ⟨s1, s2⟩, -⟩, -⟩ := h
  have t2 : x.1.1 113 1 = r0 := t2
  have p2 : x.1.1 113 4 = p0 := p2
  have er : r0 = r := by rw [hr] at t2; omega
  have ep : p0 = p := by rw [hp] at p2; omega
  subst er ep
  exact ⟨rfl, t2, p2, f2, fun j hj => (s1 j hj).2, s2⟩
/-- the class's answer of turns that are known -/
theorem x11_t89 {y : XS} {ci am st r p : Nat} {i k : Int} {n : Nat → Int} (h5 : r ≤ 5) (hr : y.1.1 5 0 = r) (hci : ci < 5) (h69 : y.1.1 69 ci = am) (h70 : y.1.1 70 ci = st) (hle : st + am ≤ xzf y) (hz : xzf y ≤ 270000) (hK : TK9 ci am st (y.1.1 71) n r p) (hi : inR i) (hk : inR k) : (i = -1 → X11_turned_j89 ci i k 1 y = some (.inl (am : Int), y)) ∧ (i ≠ -1 → ((0 ≤ i ∧ i < am ∧ 0 ≤ k ∧ k < r) → X11_turned_j89 ci i k 1 y = some (.inl (if k = 0 then 1 else y.1.1 71 (st + i.toNat) / 32 ^ (k.toNat - 1) % 32), y)) ∧ (¬ (0 ≤ i ∧ i < am ∧ 0 ≤ k ∧ k < r) → X11_turned_j89 ci i k 1 y = some (.inr 1, xT y))) := by
  unfold X11_turned_j89
  rw [gd_pos (by omega)]
  refine ⟨fun e => ?_, fun e => ?_⟩
  · rw [if_pos e, gd_pos (by decide), if_neg (by decide), gd_pos (by omega), Int.toNat_natCast, h69]
  · rw [if_neg e, gd_pos (by decide), if_neg (by decide), gd_pos hi]
    by_cases c0 : i < 0
    · rw [if_pos c0]
      exact ⟨fun z => by omega, fun _ => rfl⟩
    · rw [if_neg c0, gd_pos (by omega), Int.toNat_natCast, h69, gd_pos (by omega)]
      by_cases c1 : i < am
      · rw [if_pos c1]
        have kx := x11_needKind (x := y) (r := r) (a := k) hr h5 hk
        by_cases ck : kd r k
        · rw [xb_ok (x := y) (kx.1 ck) ⟨Nat.le_refl _, Nat.le_refl _⟩, gd_pos (by omega)]
          refine ⟨fun z => ?_, fun z => absurd ⟨by omega, c1, ck.1, ck.2⟩ z⟩
          have ef : X10_foundAt 68 (xzf y) ci i k y.1 = some (if k = 0 then 1 else y.1.1 71 (st + i.toNat) / 32 ^ (k.toNat - 1) % 32) := by
            unfold X10_foundAt
            rw [gd_pos hk]
            by_cases ck0 : k = 0
            · rw [if_pos ck0, if_pos ck0]
            · rw [if_neg ck0, if_neg ck0]
              have e70 : y.1.1 (68 + 2) ci = st := h70
              rw [gd_pos (by omega), Int.toNat_natCast, e70, gd_pos (by omega)]
              have ei : ((st : Int) + i).toNat = st + i.toNat := by omega
              rw [ei]
              have b := hK.1 i.toNat (by omega)
              obtain ⟨a, ha⟩ : ∃ a : Nat, y.1.1 (68 + 3) (st + i.toNat) = a := ⟨(y.1.1 71 (st + i.toNat)).toNat, by show y.1.1 71 _ = _; omega⟩
              have ha' : y.1.1 71 (st + i.toNat) = a := ha
              have al : a < 32768 := by omega
              obtain ⟨kn, hkn⟩ : ∃ kn : Nat, k = ((kn + 1 : Nat) : Int) := ⟨k.toNat - 1, by have := ck.1; omega⟩
              have k5 : kn < 5 := by have := ck.2; omega
              have e5 : 5 * (k - 1) = ((5 * kn : Nat) : Int) := by rw [hkn]; omega
              rw [ha, e5, shr_nat9 (by omega) (by omega)]
              have hm := mask_nat9 (a := a / 2 ^ (5 * kn)) (s := 5) (Nat.lt_of_le_of_lt (Nat.div_le_self _ _) (by omega)) (by decide)
              have e31 : ((2 ^ 5 - 1 : Nat) : Int) = 31 := rfl
              rw [e31] at hm
              rw [hm, hkn, show ((kn + 1 : Nat) : Int).toNat - 1 = kn by omega]
              refine congrArg some ?_
              rw [Nat.pow_mul, Int.natCast_emod, Int.natCast_ediv, Int.natCast_pow]
              rfl
          rw [b1_pos ef]
        · rw [xb_er (x := y) (kx.2 ck) ⟨Nat.le_succ _, Nat.le_add_right _ _⟩]
          exact ⟨fun z => absurd ⟨z.2.2.1, z.2.2.2⟩ ck, fun _ => rfl⟩
      · rw [if_neg c1]
        exact ⟨fun z => absurd z.2.1 c1, fun _ => rfl⟩

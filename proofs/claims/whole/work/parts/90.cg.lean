/-! ===== what a change leaves alone ===== -/
def Un (ch : Nat → Nat → Bool) (c : Nat) : Prop := ∀ j, ch c j = false
def Ag9 (ch : Nat → Nat → Bool) (g g' : Nat → Nat → Int) : Prop := ∀ c j, ch c j = false → g' c j = g c j
theorem Ag9.w {ch : Nat → Nat → Bool} {g g' : Nat → Nat → Int} (h : Ag9 ch g g') {c : Nat} (hc : Un ch c) : g' c = g c := funext fun j => h c j (hc j)
theorem Ag9.of {ch : Nat → Nat → Bool} {g g' : Nat → Nat → Int} (h : ∀ c j, rel c j = true → ch c j = false → g' c j = g c j) : Ag9 ch (vw g) (vw g') := fun c j hc => by
  unfold vw
  by_cases hr : rel c j = true
  · rw [if_pos hr, if_pos hr, h c j hr hc]
  · rw [if_neg hr, if_neg hr]
section CG
variable {ch : Nat → Nat → Bool} {g g' : Nat → Nat → Int} {k r p m D U tp kr la zc zf : Nat}
theorem SI.cg (h : SI k g 2 1 4 13 114 117 118 119 120 121 r p m) (hA : Ag9 ch g g') (u : Un ch 3 ∧ Un ch 4 ∧ Un ch 6 ∧ Un ch 12 ∧ Un ch 13 ∧ Un ch 114 ∧ Un ch 117 ∧ Un ch 118 ∧ Un ch 119 ∧ Un ch 120 ∧ Un ch 121) (f : ch 5 0 = false ∧ ch 2 4 = false ∧ ch 2 5 = false ∧ ch 2 6 = false ∧ ch 2 7 = false ∧ ch 113 1 = false ∧ ch 113 4 = false ∧ ch 113 13 = false) : SI k g' 2 1 4 13 114 117 118 119 120 121 r p m := by
  obtain ⟨u1, u2, u3, u4, u5, u6, u7, u8, u9, u10, u11⟩ := u
  obtain ⟨f1, f2, f3, f4, f5, f6, f7, f8⟩ := f
  unfold SI at h ⊢
  have e5 : g' (2 + 3) 0 = g (2 + 3) 0 := hA 5 0 f1
  have e6 : g' (2 + 4) = g (2 + 4) := hA.w u3
  have e12 : g' (2 + 10) = g (2 + 10) := hA.w u4
  have e13 : g' (2 + 11) = g (2 + 11) := hA.w u5
  have e3 : g' (2 + 1) = g (2 + 1) := hA.w u1
  have e4 : g' (2 + 2) = g (2 + 2) := hA.w u2
  rw [e5, e6, e12, e13, e3, e4, hA.w u6, hA.w u7, hA.w u8, hA.w u9, hA.w u10, hA.w u11, hA 2 4 f2, hA 2 5 f3, hA 2 6 f4, hA 2 7 f5, hA 113 1 f6, hA 113 4 f7, hA 113 13 f8]
  exact h
theorem HI.cg (h : HI g r p m D U) (hA : Ag9 ch g g') (u : Un ch 55 ∧ Un ch 56 ∧ Un ch 57 ∧ Un ch 114 ∧ Un ch 122 ∧ Un ch 123 ∧ Un ch 124 ∧ Un ch 125) (f : ch 54 3 = false ∧ ch 54 4 = false ∧ ch 113 18 = false ∧ ch 113 19 = false) : HI g' r p m D U := by
  obtain ⟨u1, u2, u3, u4, u5, u6, u7, u8⟩ := u
  obtain ⟨f1, f2, f3, f4⟩ := f
  unfold HI at h ⊢
  rw [hA.w u1, hA.w u2, hA.w u3, hA.w u4, hA.w u5, hA.w u6, hA.w u7, hA.w u8, hA 54 3 f1, hA 54 4 f2, hA 113 18 f3, hA 113 19 f4]
  exact h
theorem PI9.cg (h : PI9 g tp) (hA : Ag9 ch g g') (u : Un ch 44 ∧ Un ch 126) (f : ch 1 7 = false ∧ ch 1 8 = false ∧ ch 113 21 = false ∧ ch 113 30 = false) : PI9 g' tp := by
  obtain ⟨u1, u2⟩ := u
  obtain ⟨f1, f2, f3, f4⟩ := f
  unfold PI9 at h ⊢
  rw [hA.w u1, hA.w u2, hA 1 7 f1, hA 1 8 f2, hA 113 21 f3, hA 113 30 f4]
  exact h
theorem KI.cg (h : KI g kr) (hA : Ag9 ch g g') (u : Un ch 33 ∧ Un ch 115) (f : ch 1 4 = false ∧ ch 32 0 = false ∧ ch 113 2 = false) : KI g' kr := by
  obtain ⟨u1, u2⟩ := u
  obtain ⟨f1, f2, f3⟩ := f
  unfold KI at h ⊢
  rw [hA.w u1, hA.w u2, hA 1 4 f1, hA 32 0 f2, hA 113 2 f3]
  exact h
theorem LI9.cg (h : LI9 g la zc) (hA : Ag9 ch g g') (u : Un ch 47 ∧ Un ch 129 ∧ Un ch 130) (f : ch 46 0 = false ∧ ch 46 1 = false ∧ ch 46 2 = false ∧ ch 46 3 = false ∧ ch 113 33 = false ∧ ch 113 34 = false ∧ ch 113 35 = false) : LI9 g' la zc := by
  obtain ⟨u1, u2, u3⟩ := u
  obtain ⟨f1, f2, f3, f4, f5, f6, f7⟩ := f
  unfold LI9 at h ⊢
  rw [hA.w u1, hA.w u2, hA.w u3, hA 46 0 f1, hA 46 1 f2, hA 46 2 f3, hA 46 3 f4, hA 113 33 f5, hA 113 34 f6, hA 113 35 f7]
  exact h
theorem NI9.cg (h : NI9 g p) (hA : Ag9 ch g g') (u : Un ch 59) (f : ch 58 0 = false) : NI9 g' p := by
  unfold NI9 at h ⊢
  rw [hA.w u, hA 58 0 f]
  exact h
theorem CI.cg (h : CI (g 61 0) (g 61 1) (g 62) (g 114) r p) (hA : Ag9 ch g g') (u : Un ch 62 ∧ Un ch 114) (f : ch 61 0 = false ∧ ch 61 1 = false) : CI (g' 61 0) (g' 61 1) (g' 62) (g' 114) r p := by
  rw [hA.w u.1, hA.w u.2, hA 61 0 f.1, hA 61 1 f.2]
  exact h
theorem TI9.cg (h : TI9 g r p zf) (hA : Ag9 ch g g') (u : Un ch 69 ∧ Un ch 70 ∧ Un ch 71 ∧ Un ch 114) (f : ch 68 2 = false) : TI9 g' r p zf := by
  unfold TI9 at h ⊢
  rw [hA.w u.1, hA.w u.2.1, hA.w u.2.2.1, hA.w u.2.2.2, hA 68 2 f]
  exact h
theorem VI9.cg (h : VI9 (g 81 0) (g 81 1) (g 81 2) (g 82) (g 114) r p) (hA : Ag9 ch g g') (f : ch 81 0 = false ∧ ch 81 1 = false ∧ ch 81 2 = false) (u : Un ch 82 ∧ Un ch 114) : VI9 (g' 81 0) (g' 81 1) (g' 81 2) (g' 82) (g' 114) r p := by
  rw [hA 81 0 f.1, hA 81 1 f.2.1, hA 81 2 f.2.2, hA.w u.1, hA.w u.2]
  exact h
theorem II9.cg (h : II9 k g) (hA : Ag9 ch g g') (u : Un ch 17 ∧ Un ch 18 ∧ Un ch 19 ∧ Un ch 20 ∧ Un ch 21 ∧ Un ch 27 ∧ Un ch 28 ∧ Un ch 155 ∧ Un ch 156 ∧ Un ch 157 ∧ Un ch 158 ∧ Un ch 159 ∧ Un ch 160) (f : ch 1 2 = false ∧ ch 113 76 = false ∧ ch 113 77 = false ∧ ch 113 78 = false ∧ ch 113 79 = false) : II9 k g' := by
  obtain ⟨u1, u2, u3, u4, u5, u6, u7, u8, u9, u10, u11, u12, u13⟩ := u
  obtain ⟨f1, f2, f3, f4, f5⟩ := f
  obtain ⟨h1, h0, h2⟩ := h
  refine ⟨by rw [hA 1 2 f1, hA 113 76 f2]; exact h1, fun q hq => by rw [hA.w u5, hA.w u8]; exact h0 q hq, ?_⟩
  rw [hA 1 2 f1]
  rcases h2 with h2 | ⟨h2, r, p, m, h3⟩
  · exact Or.inl h2
  · refine Or.inr ⟨h2, r, p, m, ?_⟩
    unfold SI at h3 ⊢
    have e5 : g' (17 + 3) = g (17 + 3) := hA.w u4
    have e6 : g' (17 + 4) = g (17 + 4) := hA.w u5
    have e12 : g' (17 + 10) = g (17 + 10) := hA.w u6
    have e13 : g' (17 + 11) = g (17 + 11) := hA.w u7
    have e3 : g' (17 + 1) = g (17 + 1) := hA.w u2
    have e4 : g' (17 + 2) = g (17 + 2) := hA.w u3
    rw [e5, e6, e12, e13, e3, e4, hA.w u1, hA.w u8, hA.w u9, hA.w u10, hA.w u11, hA.w u12, hA.w u13, hA 113 77 f3, hA 113 78 f4, hA 113 79 f5]
    exact h3
end CG
/-! keep -/
def chK (c j : Nat) : Bool := (c == 1 && j == 4) || c == 32 || c == 33 || (c == 113 && j == 2) || c == 115
theorem x8_copy {d : DA} {o a : Nat} : X8_copy o a d = some ((), wA (wI d o 0 (d.1 a 0)) (o + 1) (pre ((wI d o 0 (d.1 a 0)).1 (o + 1)) ((wI d o 0 (d.1 a 0)).1 (a + 1)) 125)) := by
  unfold X8_copy
  rw [lt_pos, gd_pos (by omega), lt_pos]
  refine congrArg some (congrArg (Prod.mk ()) ?_)
  unfold cpI
  refine congrArg _ (funext fun q => ?_)
  unfold cpF pre
  have z : Int.toNat 0 = 0 := rfl
  rw [z, Int.toNat_natCast]
  by_cases c : q < 125
  · rw [if_pos (by omega), if_pos c, show 0 + (q - 0) = q by omega]
  · rw [if_neg (by omega), if_neg c]
theorem st_4 {Ln k : Nat} {sc : Int → Int} {x : XS} (h : Inv k x) (hk : k < 512) (h0 : 0 ≤ 8 * (k : Int) ∧ 8 * (k : Int) + 8 ≤ (Ln : Int)) (hL : Ln ≤ 4096) (hop : iand9 (sc (8 * (k : Int))) 31 = 4) : Step9 Ln sc k x := by
  unfold Step9
  rw [br_4 h0 hL hop]
  have e1 : X11_keep 1 x.1 = some ((), wI (wA (wI x.1 32 0 (x.1.1 5 0)) 33 (pre (x.1.1 33) (x.1.1 6) 125)) 1 4 1) := by
    unfold X11_keep
    rw [bd_pos (show X8_copy (1 + 31) (1 + 1 + 3) x.1 = some ((), wA (wI x.1 32 0 (x.1.1 5 0)) 33 (pre (x.1.1 33) (x.1.1 6) 125)) from x8_copy (o := 32) (a := 5)), gd_pos (Or.inr rfl), lt_pos]
  rw [bd_pos e1, lt_pos]
  generalize hA : wI (wA (wI x.1 32 0 (x.1.1 5 0)) 33 (pre (x.1.1 33) (x.1.1 6) 125)) 1 4 1 = A
  have oA : ∀ c, c ≠ 1 → c ≠ 32 → c ≠ 33 → A.1 c = x.1.1 c := fun c a1 a2 a3 => by rw [← hA, wI_ne a1, wA_ne a3, wI_ne a2]
  have fA : ∀ j, j ≠ 4 → A.1 1 j = x.1.1 1 j := fun j hj => by rw [← hA, wI_at, fu_n hj, wA_ne (by decide), wI_ne (by decide)]
  have e2 : X12_keep 113 A = some ((), wA (wI (wI A 113 0 0) 113 2 (A.1 113 1)) 115 (pre (A.1 115) (A.1 114) 125)) := by
    unfold X12_keep
    rw [lt_pos, lt_pos]
    refine (lpE_row (d := wI (wI A 113 0 0) 113 2 ((wI A 113 0 0).1 113 1)) 115 125 (A.1 114) (by omega) (fun i hi => ?_) ?_).trans rfl
    · unfold X12_keep_b15
      dsimp only
      rw [wA_ne (show 113 + 1 ≠ 115 by decide)]
      simp (disch := omega) only [gd_pos, if_pos, if_neg, lt_pos, reduceIte, Int.toNat_natCast]
      rfl
    · unfold X12_keep_b15
      simp (disch := omega) only [gd_pos, if_pos, if_neg, lt_pos, reduceIte]
  rw [show (xD x A).1 = A from rfl, bd_pos e2, lt_pos]
  generalize hB : wA (wI (wI A 113 0 0) 113 2 (A.1 113 1)) 115 (pre (A.1 115) (A.1 114) 125) = B
  have oB : ∀ c, c ≠ 113 → c ≠ 115 → B.1 c = A.1 c := fun c a1 a2 => by rw [← hB, wA_ne a2, wI_ne a1, wI_ne a1]
  have fB : ∀ j, j ≠ 0 → j ≠ 2 → B.1 113 j = A.1 113 j := fun j a1 a2 => by rw [← hB, wA_ne (by decide), wI_at, fu_n a2, wI_at, fu_n a1]
  refine ⟨_, rfl, ?_⟩
  obtain ⟨⟨z1, z2, z3, z4, z5, z6, z7⟩, r, p, m, D, U, tp, kr, la, hS, hH, hP, hK, hLi, hN, hC, hT, hV, hI⟩ := h
  have hAg : Ag9 chK (vw x.1.1) (vw B.1) := Ag9.of (fun c j hr hc => by
    unfold chK at hc
    simp only [Bool.or_eq_false_iff, Bool.and_eq_false_iff, beq_eq_false_iff_ne, ne_eq] at hc
    obtain ⟨⟨⟨⟨c1, c2⟩, c3⟩, c4⟩, c5⟩ := hc
    by_cases c113 : c = 113
    · subst c113
      have j0 : j ≠ 0 := fun e => by subst e; cases hr
      have j2 : j ≠ 2 := fun e => by subst e; rcases c4 with c4 | c4 <;> exact c4 rfl
      rw [fB j j0 j2, oA 113 (by decide) (by decide) (by decide)]
    · rw [oB c c113 c5]
      by_cases c9 : c = 1
      · subst c9
        exact fA j (fun e => by rcases c1 with c1 | c1; exact c1 rfl; exact c1 e)
      · rw [oA c c9 c2 c3])
  refine ⟨⟨(by omega), z2, z3, z4, z5, by show xc x ≤ _; have : xzc (xD (xD x A) B) = xzc x := rfl; have : xzf (xD (xD x A) B) = xzf x := rfl; omega, by show xs x ≤ _; have : xzc (xD (xD x A) B) = xzc x := rfl; have : xzf (xD (xD x A) B) = xzf x := rfl; omega⟩, r, p, m, D, U, tp, r, la, ?_⟩
  have t1 : x.1.1 5 0 = r := hS.1.1
  have t2 : x.1.1 113 1 = r := hS.1.2.1
  have t3 : x.1.1 6 = x.1.1 114 := hS.1.2.2.1
  have t4 : TG (x.1.1 114) r := hS.1.2.2.2
  refine ⟨(hS.cg hAg ⟨fun _ => rfl, fun _ => rfl, fun _ => rfl, fun _ => rfl, fun _ => rfl, fun _ => rfl, fun _ => rfl, fun _ => rfl, fun _ => rfl, fun _ => rfl, fun _ => rfl⟩ ⟨rfl, rfl, rfl, rfl, rfl, rfl, rfl, rfl⟩).up, hH.cg hAg ⟨fun _ => rfl, fun _ => rfl, fun _ => rfl, fun _ => rfl, fun _ => rfl, fun _ => rfl, fun _ => rfl, fun _ => rfl⟩ ⟨rfl, rfl, rfl, rfl⟩, hP.cg hAg ⟨fun _ => rfl, fun _ => rfl⟩ ⟨rfl, rfl, rfl, rfl⟩, ?_, hLi.cg hAg ⟨fun _ => rfl, fun _ => rfl, fun _ => rfl⟩ ⟨rfl, rfl, rfl, rfl, rfl, rfl, rfl⟩, hN.cg hAg (fun _ => rfl) rfl, CI.cg hC hAg ⟨fun _ => rfl, fun _ => rfl⟩ ⟨rfl, rfl⟩, hT.cg hAg ⟨fun _ => rfl, fun _ => rfl, fun _ => rfl, fun _ => rfl⟩ rfl, VI9.cg hV hAg ⟨rfl, rfl, rfl⟩ ⟨fun _ => rfl, fun _ => rfl⟩, (hI.cg hAg ⟨fun _ => rfl, fun _ => rfl, fun _ => rfl, fun _ => rfl, fun _ => rfl, fun _ => rfl, fun _ => rfl, fun _ => rfl, fun _ => rfl, fun _ => rfl, fun _ => rfl, fun _ => rfl, fun _ => rfl⟩ ⟨rfl, rfl, rfl, rfl, rfl⟩).up⟩
  have b115 : B.1 115 = pre (x.1.1 115) (x.1.1 114) 125 := by rw [← hB, wA_at, oA 115 (by decide) (by decide) (by decide), oA 114 (by decide) (by decide) (by decide)]
  have b33 : B.1 33 = pre (x.1.1 33) (x.1.1 6) 125 := by rw [oB 33 (by decide) (by decide), ← hA, wI_ne (by decide), wA_at]
  have hTK : TG (pre (x.1.1 115) (x.1.1 114) 125) r := by
    obtain ⟨a1, a2, a3, a4, a5⟩ := t4
    have hr := a1
    refine ⟨a1, fun j hj => by rw [pre_lt hj]; exact a2 j hj, fun i j k hi hj hk z => by rw [pre_lt (ti_lt hi hj hk)]; exact a3 i j k hi hj hk z, fun j k hj hk => by rw [pre_lt (ti_lt (by omega) (by omega) (by omega))]; exact a4 j k hj hk, fun j k hj hk => by rw [pre_lt (ti_lt (by omega) (by omega) (by omega))]; exact a5 j k hj hk⟩
  obtain ⟨-, k0, -⟩ := hK
  have k0' : ∀ q, ¬ q < 125 → x.1.1 33 q = x.1.1 115 q := k0
  have b3 : B.1 33 = B.1 115 := by
    rw [b33, b115, t3]
    funext q
    by_cases c : q < 125
    · rw [pre_lt c, pre_lt c]
    · rw [pre_ge c, pre_ge c]; exact k0' q c
  refine ⟨?_, fun q hq => by show B.1 33 q = B.1 115 q; rw [b3], fun z => by have := t4.1; omega, fun _ => ⟨?_, ?_, b3, ?_⟩⟩
  · show B.1 113 2 = r
    rw [← hB, wA_ne (by decide), wI_at, fu_s, oA 113 (by decide) (by decide) (by decide)]
    exact t2
  · show B.1 1 4 = 1
    rw [oB 1 (by decide) (by decide), ← hA, wI_at, fu_s]
  · show B.1 32 0 = r
    rw [oB 32 (by decide) (by decide), ← hA, wI_ne (by decide), wA_ne (by decide), wI_at, fu_s]
    exact t1
  · show TG (B.1 115) r
    rw [b115]; exact hTK

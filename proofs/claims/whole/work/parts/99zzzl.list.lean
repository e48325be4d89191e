/-! ===== list: renamings, on the reference's side ===== -/
/-- q renames the kinds from 1 on -/
def Inj9 (lr : Nat) (q : Nat → Nat) : Prop := (∀ i, 1 ≤ i → i < lr → 1 ≤ q i ∧ q i < lr) ∧ ∀ i j, 1 ≤ i → i < lr → 1 ≤ j → j < lr → q i = q j → i = j
def KQ9 (lr w : Nat) (q : Nat → Nat) : Prop := ∀ i, 1 ≤ i → i < lr → q (dl9 lr w i) = dl9 lr w (q i)
/-- q keeps duals and gives a row before -/
def Ls9 (lr w : Nat) (fg : Nat → Int) (q : Nat → Nat) : Prop := KQ9 lr w q ∧ Lw9 (gcn lr w) (rnG lr w fg q) fg
theorem rnc_all : ∀ p ∈ lw5, ∀ t ∈ List.range 6, (∀ i ∈ r4, 1 ≤ i → i < p.1 → pm9 t i < p.1 ∧ dl9 p.1 p.2 (pm9 t i) = pm9 t (dl9 p.1 p.2 i)) → ∀ a ∈ r4, ∀ b ∈ r4, ∀ c ∈ r4, 1 ≤ a → a ≤ b → b ≤ c → c < p.1 → grp p.1 p.2 (pm9 t a) (pm9 t b) (pm9 t c) = grp p.1 p.2 (pm9 t (fa9 p.1 p.2 (grp p.1 p.2 a b c))) (pm9 t (fb9 p.1 p.2 (grp p.1 p.2 a b c))) (pm9 t (fc9 p.1 p.2 (grp p.1 p.2 a b c))) := by decide +kernel
theorem pm_v : pm9 0 1 = 1 ∧ pm9 0 2 = 2 ∧ pm9 0 3 = 3 ∧ pm9 1 1 = 1 ∧ pm9 1 2 = 3 ∧ pm9 1 3 = 2 ∧ pm9 2 1 = 2 ∧ pm9 2 2 = 1 ∧ pm9 2 3 = 3 ∧ pm9 3 1 = 2 ∧ pm9 3 2 = 3 ∧ pm9 3 3 = 1 ∧ pm9 4 1 = 3 ∧ pm9 4 2 = 1 ∧ pm9 4 3 = 2 ∧ pm9 5 1 = 3 ∧ pm9 5 2 = 2 ∧ pm9 5 3 = 1 := by decide
theorem pm_inj9 : ∀ t ∈ List.range 6, ∀ i ∈ r4, ∀ j ∈ r4, 1 ≤ i → 1 ≤ j → pm9 t i = pm9 t j → i = j := by decide +kernel
section
variable {lr w : Nat}
theorem inj_pm {q : Nat → Nat} (h2 : 2 ≤ lr) (h4 : lr ≤ 4) (hI : Inj9 lr q) : ∃ t, t < 6 ∧ ∀ i, 1 ≤ i → i < lr → pm9 t i = q i := by
  obtain ⟨p1, p2, p3, p4, p5, p6, p7, p8, p9, p10, p11, p12, p13, p14, p15, p16, p17, p18⟩ := pm_v
  have all : ∀ t, (lr = 2 → pm9 t 1 = q 1) → (lr = 3 → pm9 t 1 = q 1 ∧ pm9 t 2 = q 2) → (lr = 4 → pm9 t 1 = q 1 ∧ pm9 t 2 = q 2 ∧ pm9 t 3 = q 3) → ∀ i, 1 ≤ i → i < lr → pm9 t i = q i := fun t a b c i i1 i2 => by
    rcases (show i = 1 ∨ i = 2 ∨ i = 3 by omega) with rfl | rfl | rfl
    · rcases (show lr = 2 ∨ lr = 3 ∨ lr = 4 by omega) with e | e | e
      · exact a e
      · exact (b e).1
      · exact (c e).1
    · rcases (show lr = 3 ∨ lr = 4 by omega) with e | e
      · exact (b e).2
      · exact (c e).2.1
    · exact (c (by omega)).2.2
  rcases (show lr = 2 ∨ lr = 3 ∨ lr = 4 by omega) with e | e | e
  · have b1 := hI.1 1 (by omega) (by omega)
    exact ⟨0, by decide, all 0 (fun _ => by omega) (fun z => by omega) (fun z => by omega)⟩
  · have b1 := hI.1 1 (by omega) (by omega)
    have b2 := hI.1 2 (by omega) (by omega)
    have n12 : q 1 ≠ q 2 := fun z => by have := hI.2 1 2 (by omega) (by omega) (by omega) (by omega) z; omega
    by_cases c : q 1 = 1
    · exact ⟨0, by decide, all 0 (fun z => by omega) (fun _ => by omega) (fun z => by omega)⟩
    · exact ⟨2, by decide, all 2 (fun z => by omega) (fun _ => by omega) (fun z => by omega)⟩
  · have b1 := hI.1 1 (by omega) (by omega)
    have b2 := hI.1 2 (by omega) (by omega)
    have b3 := hI.1 3 (by omega) (by omega)
    have n12 : q 1 ≠ q 2 := fun z => by have := hI.2 1 2 (by omega) (by omega) (by omega) (by omega) z; omega
    have n13 : q 1 ≠ q 3 := fun z => by have := hI.2 1 3 (by omega) (by omega) (by omega) (by omega) z; omega
    have n23 : q 2 ≠ q 3 := fun z => by have := hI.2 2 3 (by omega) (by omega) (by omega) (by omega) z; omega
    rcases (show (q 1 = 1 ∧ q 2 = 2 ∧ q 3 = 3) ∨ (q 1 = 1 ∧ q 2 = 3 ∧ q 3 = 2) ∨ (q 1 = 2 ∧ q 2 = 1 ∧ q 3 = 3) ∨ (q 1 = 2 ∧ q 2 = 3 ∧ q 3 = 1) ∨ (q 1 = 3 ∧ q 2 = 1 ∧ q 3 = 2) ∨ (q 1 = 3 ∧ q 2 = 2 ∧ q 3 = 1) by omega) with z | z | z | z | z | z
    · exact ⟨0, by decide, all 0 (fun z => by omega) (fun z => by omega) (fun _ => by omega)⟩
    · exact ⟨1, by decide, all 1 (fun z => by omega) (fun z => by omega) (fun _ => by omega)⟩
    · exact ⟨2, by decide, all 2 (fun z => by omega) (fun z => by omega) (fun _ => by omega)⟩
    · exact ⟨3, by decide, all 3 (fun z => by omega) (fun z => by omega) (fun _ => by omega)⟩
    · exact ⟨4, by decide, all 4 (fun z => by omega) (fun z => by omega) (fun _ => by omega)⟩
    · exact ⟨5, by decide, all 5 (fun z => by omega) (fun z => by omega) (fun _ => by omega)⟩
theorem pm_KD {q : Nat → Nat} {t : Nat} (hq : (lr, w) ∈ lw5) (hI : Inj9 lr q) (e : ∀ i, 1 ≤ i → i < lr → pm9 t i = q i) : KDc lr w t ↔ KQ9 lr w q := by
  constructor
  · intro h i i1 i2
    obtain ⟨d1, d2, -⟩ := dl9_bd hq i2
    have := (h i i1 i2).2
    rw [e i i1 i2, e _ (d2 i1) d1] at this
    exact this.symm
  · intro h i i1 i2
    obtain ⟨d1, d2, -⟩ := dl9_bd hq i2
    rw [e i i1 i2, e _ (d2 i1) d1]
    exact ⟨(hI.1 i i1 i2).2, (h i i1 i2).symm⟩
theorem rnG_cg {fg : Nat → Int} {q q' : Nat → Nat} {g : Nat} (hq : (lr, w) ∈ lw5) (hg : g < gcn lr w) (e : ∀ i, 1 ≤ i → i < lr → q i = q' i) : rnG lr w fg q g = rnG lr w fg q' g := by
  obtain ⟨-, f1, f2, f3, f4, -, -⟩ := fst_of hq hg
  unfold rnG
  rw [e _ f1 (by omega), e _ (by omega) (by omega), e _ (by omega) f4]
theorem Lw9.cg {L : Nat} {a b a' b' : Nat → Int} (ha : ∀ g, g < L → a g = a' g) (hb : ∀ g, g < L → b g = b' g) : Lw9 L a b ↔ Lw9 L a' b' := by
  constructor
  · rintro ⟨g, g1, g2, g3⟩
    exact ⟨g, g1, by rw [← ha g g1, ← hb g g1]; exact g2, fun h hh => by rw [← ha h (by omega), ← hb h (by omega)]; exact g3 h hh⟩
  · rintro ⟨g, g1, g2, g3⟩
    exact ⟨g, g1, by rw [ha g g1, hb g g1]; exact g2, fun h hh => by rw [ha h (by omega), hb h (by omega)]; exact g3 h hh⟩
/-- all renamings are six -/
theorem lst_iff {fg : Nat → Int} (hq : (lr, w) ∈ lw5) : LstN lr w fg ↔ ∀ q, Inj9 lr q → ¬ Ls9 lr w fg q := by
  obtain ⟨h2, h4, -, -⟩ := lw5_bd hq
  constructor
  · rintro h q hI ⟨k1, k2⟩
    obtain ⟨t, ht, e⟩ := inj_pm h2 h4 hI
    refine h t ht ((pm_KD hq hI e).mpr k1) ?_
    exact (Lw9.cg (fun g hg => (rnG_cg hq hg e).symm) (fun _ _ => rfl)).mp k2
  · intro h t ht hK hL
    have hI : Inj9 lr (pm9 t) := ⟨fun i i1 i2 => ⟨(pm_bd ht i1 (by omega)).1, (hK i i1 i2).1⟩, fun i j i1 i2 j1 j2 e => pm_inj9 t (List.mem_range.mpr ht) i (r4_mem (by omega)) j (r4_mem (by omega)) i1 j1 e⟩
    exact h _ hI ⟨(pm_KD hq hI (fun _ _ _ => rfl)).mp hK, hL⟩
/-- the renamed group depends on the group alone -/
theorem rn_co {q : Nat → Nat} (hq : (lr, w) ∈ lw5) (hI : Inj9 lr q) (hK : KQ9 lr w q) {a b c : Nat} (a1 : 1 ≤ a) (ab : a ≤ b) (bc : b ≤ c) (cl : c < lr) : grp lr w (q a) (q b) (q c) = grp lr w (q (fa9 lr w (grp lr w a b c))) (q (fb9 lr w (grp lr w a b c))) (q (fc9 lr w (grp lr w a b c))) := by
  obtain ⟨h2, h4, -, -⟩ := lw5_bd hq
  obtain ⟨t, ht, e⟩ := inj_pm h2 h4 hI
  have hKD := (pm_KD hq hI e).mpr hK
  have lg := grp_lt hq a1 (show a < lr by omega) (show 1 ≤ b by omega) (show b < lr by omega) (show 1 ≤ c by omega) cl
  obtain ⟨-, f1, f2, f3, f4, -, -⟩ := fst_of hq lg
  have k := rnc_all (lr, w) hq t (List.mem_range.mpr ht) (fun i _ i1 i2 => hKD i i1 i2) a (r4_mem (by omega)) b (r4_mem (by omega)) c (r4_mem (by omega)) a1 ab bc cl
  dsimp only at k
  rw [e a a1 (by omega), e b (by omega) (by omega), e c (by omega) cl, e _ f1 (by omega), e (fb9 lr w (grp lr w a b c)) (by omega) (by omega), e (fc9 lr w (grp lr w a b c)) (by omega) f4] at k
  exact k
/-- the reference's state: groups, figures, renaming -/
def RfL (d : DA) (lr w : Nat) (fg : Nat → Int) : Prop := (∀ a b c, 1 ≤ a → a < lr → 1 ≤ b → b < lr → 1 ≤ c → c < lr → d.1 131 (cl9 a b c) = (grp lr w a b c : Int)) ∧ (∀ g, g < gcn lr w → d.1 132 g = fg g ∧ 0 ≤ fg g ∧ fg g ≤ 9) ∧ d.1 113 36 = (gcn lr w : Int) ∧ d.1 113 43 = (w : Int)
theorem RfL.fr {d d' : DA} {fg : Nat → Int} (h : RfL d lr w fg) (e : ∀ c, c ≠ 133 → c ≠ 134 → d'.1 c = d.1 c) : RfL d' lr w fg := by
  unfold RfL at h ⊢
  rw [e 131 (by decide) (by decide), e 132 (by decide) (by decide), e 113 (by decide) (by decide)]
  exact h
theorem x12_oth {d : DA} {fg : Nat → Int} {q : Nat → Nat} (hq : (lr, w) ∈ lw5) (hR : RfL d lr w fg) (hI : Inj9 lr q) (hK : KQ9 lr w q) (h34 : ∀ i, 1 ≤ i → i < lr → d.1 134 i = (q i : Int)) {Y : Type} (K : DA → Option Y) : ∃ f, lpE (fun q => X12_isLesser_b48 113 lr q.1 q.2) (1, d) K = K (wA d 133 f) ∧ ∀ g, g < gcn lr w → f g = rnG lr w fg q g := by
  obtain ⟨h2, h4, -, -⟩ := lw5_bd hq
  obtain ⟨n1, n10⟩ := gcn_bd hq
  obtain ⟨r1, r2, r3, r4'⟩ := hR
  obtain ⟨T, hT⟩ : ∃ T : (Nat → Nat → Nat → Prop) → (Nat → Int) → Prop, ∀ S f, T S f ↔ ∀ a b c, 1 ≤ a → a ≤ b → b ≤ c → c < lr → S a b c → f (grp lr w a b c) = rnG lr w fg q (grp lr w a b c) := ⟨_, fun _ _ => Iff.rfl⟩
  have cel : ∀ (i j k : Nat) (E : DA), X12_cell (i : Int) (j : Int) (k : Int) E = some ((cl9 i j k : Nat) : Int) := fun i j k E => by
    unfold X12_cell cl9
    refine congrArg some ?_
    omega
  have clt : ∀ i j k, i < lr → j < lr → k < lr → cl9 i j k < 125 := fun i j k hi hj hk => by unfold cl9; omega
  have m131 : ∀ f, (wA d 133 f).1 131 = d.1 131 := fun f => wA_ne (by decide)
  have m132 : ∀ f, (wA d 133 f).1 132 = d.1 132 := fun f => wA_ne (by decide)
  have m134 : ∀ f, (wA d 133 f).1 134 = d.1 134 := fun f => wA_ne (by decide)
  have inner : ∀ (i j : Nat) (f0 : Nat → Int) (S : Nat → Nat → Nat → Prop), 1 ≤ i → i ≤ j → j < lr → T S f0 → ∀ {Y : Type} (K : DA → Option Y), ∃ f, lpE (fun q => X12_isLesser_b63 113 lr i j q.1 q.2) ((j : Int), wA d 133 f0) K = K (wA d 133 f) ∧ T (fun a b c => S a b c ∨ (a = i ∧ b = j)) f := fun i j f0 S i1 ij jl hS Y K => by
    obtain ⟨e, k1, f, rfl, k2⟩ := lpE_inv (b := fun q => X12_isLesser_b63 113 lr i j q.1 q.2) (k := K) (s0 := ((j : Int), wA d 133 f0)) (fun m s => s.1 = ((j + m : Nat) : Int) ∧ ∃ f, s.2 = wA d 133 f ∧ T (fun a b c => S a b c ∨ (a = i ∧ b = j ∧ c < j + m)) f) (fun e => ∃ f, e = wA d 133 f ∧ T (fun a b c => S a b c ∨ (a = i ∧ b = j)) f) (lr - j) (by omega) ⟨rfl, f0, rfl, (hT _ _).mpr (fun a b c a1 ab bc cl z => (hT _ _).mp hS a b c a1 ab bc cl (by
        rcases z with z | z
        · exact z
        · omega))⟩ (fun m s hm hI2 => by
      obtain ⟨v, E⟩ := s
      obtain ⟨y1, f, y2, y3⟩ := hI2
      dsimp only at y1 y2 ⊢
      subst y1 y2
      have kl : j + m < lr := by omega
      obtain ⟨qa1, qa2⟩ := hI.1 i i1 (show i < lr by omega)
      obtain ⟨qb1, qb2⟩ := hI.1 j (show 1 ≤ j by omega) jl
      obtain ⟨qc1, qc2⟩ := hI.1 (j + m) (show 1 ≤ j + m by omega) kl
      have x1 : (wA d 133 f).1 (113 + 18) (cl9 i j (j + m)) = (grp lr w i j (j + m) : Int) := by
        show (wA d 133 f).1 131 _ = _
        rw [m131]; exact r1 _ _ _ i1 (by omega) (by omega) jl (by omega) kl
      have x2 : (wA d 133 f).1 (113 + 18) (cl9 (q i) (q j) (q (j + m))) = (grp lr w (q i) (q j) (q (j + m)) : Int) := by
        show (wA d 133 f).1 131 _ = _
        rw [m131]; exact r1 _ _ _ qa1 qa2 qb1 qb2 qc1 qc2
      have z34 : ∀ a, 1 ≤ a → a < lr → (wA d 133 f).1 (113 + 21) a = (q a : Int) := fun a a1 a2 => by
        show (wA d 133 f).1 134 a = _
        rw [m134]; exact h34 a a1 a2
      have lg1 := grp_lt hq i1 (show i < lr by omega) (show 1 ≤ j by omega) jl (show 1 ≤ j + m by omega) kl
      have lg2 := grp_lt hq qa1 qa2 qb1 qb2 qc1 qc2
      have x3 : (wA d 133 f).1 (113 + 19) (grp lr w (q i) (q j) (q (j + m))) = fg (grp lr w (q i) (q j) (q (j + m))) := by
        show (wA d 133 f).1 132 _ = _
        rw [m132]; exact (r2 _ lg2).1
      have x4 : fg (grp lr w (q i) (q j) (q (j + m))) = rnG lr w fg q (grp lr w i j (j + m)) := by
        unfold rnG
        rw [rn_co hq hI hK i1 ij (show j ≤ j + m by omega) kl]
      refine ⟨(((j + m : Nat) : Int) + 1, wA d 133 (fu f (grp lr w i j (j + m)) (rnG lr w fg q (grp lr w i j (j + m))))), ?_, by show ((j + m : Nat) : Int) + 1 = ((j + (m + 1) : Nat) : Int); omega, _, rfl, (hT _ _).mpr (fun a b c a1 ab bc cl z => ?_)⟩
      · unfold X12_isLesser_b63
        rw [gd_pos (by omega), if_neg (by omega), b1_pos (cel i j (j + m) _), gd_pos (by have := clt i j (j + m) (by omega) jl kl; omega), gd_pos (by omega), gd_pos (by omega), gd_pos (by omega), Int.toNat_natCast, Int.toNat_natCast, Int.toNat_natCast, z34 i i1 (by omega), z34 j (by omega) jl, z34 (j + m) (by omega) kl, b1_pos (cel _ _ _ _), gd_pos (by have := clt _ _ _ qa2 qb2 qc2; omega), Int.toNat_natCast, x2, gd_pos (by omega), Int.toNat_natCast, x1, gd_pos (by omega), lt_pos, Int.toNat_natCast, Int.toNat_natCast, x3, x4, show (113 + 20 : Nat) = 133 from rfl, wA_wI]
      · rw [fu_app]
        by_cases eg : grp lr w a b c = grp lr w i j (j + m)
        · rw [if_pos eg, eg]
        · rw [if_neg eg]
          refine (hT _ _).mp y3 a b c a1 ab bc cl ?_
          rcases z with z | ⟨za, zb, zc⟩
          · exact Or.inl z
          · refine Or.inr ⟨za, zb, ?_⟩
            by_cases ec : c = j + m
            · subst za zb ec; exact absurd rfl eg
            · omega) (fun s hI2 => by
      obtain ⟨v, E⟩ := s
      obtain ⟨y1, f, y2, y3⟩ := hI2
      dsimp only at y1 y2 ⊢
      subst y1 y2
      refine ⟨wA d 133 f, ?_, f, rfl, (hT _ _).mpr (fun a b c a1 ab bc cl z => (hT _ _).mp y3 a b c a1 ab bc cl (by
        rcases z with z | z
        · exact Or.inl z
        · exact Or.inr ⟨z.1, z.2, (by omega)⟩))⟩
      unfold X12_isLesser_b63
      rw [gd_pos (by omega), if_pos (by omega)])
    exact ⟨f, k1, k2⟩
  have mid : ∀ (i : Nat) (f0 : Nat → Int) (S : Nat → Nat → Nat → Prop), 1 ≤ i → i < lr → T S f0 → ∀ {Y : Type} (K : DA → Option Y), ∃ f, lpE (fun q => X12_isLesser_b55 113 lr i q.1 q.2) ((i : Int), wA d 133 f0) K = K (wA d 133 f) ∧ T (fun a b c => S a b c ∨ a = i) f := fun i f0 S i1 il hS Y K => by
    obtain ⟨e, k1, f, rfl, k2⟩ := lpE_inv (b := fun q => X12_isLesser_b55 113 lr i q.1 q.2) (k := K) (s0 := ((i : Int), wA d 133 f0)) (fun m s => s.1 = ((i + m : Nat) : Int) ∧ ∃ f, s.2 = wA d 133 f ∧ T (fun a b c => S a b c ∨ (a = i ∧ b < i + m)) f) (fun e => ∃ f, e = wA d 133 f ∧ T (fun a b c => S a b c ∨ a = i) f) (lr - i) (by omega) ⟨rfl, f0, rfl, (hT _ _).mpr (fun a b c a1 ab bc cl z => (hT _ _).mp hS a b c a1 ab bc cl (by
        rcases z with z | z
        · exact z
        · omega))⟩ (fun m s hm hI2 => by
      obtain ⟨v, E⟩ := s
      obtain ⟨y1, f, y2, y3⟩ := hI2
      dsimp only at y1 y2 ⊢
      subst y1 y2
      obtain ⟨f', u1, u2⟩ := inner i (i + m) f _ i1 (by omega) (by omega) y3 (fun e => (some (.inl (((i + m : Nat) : Int) + 1, e)) : Option ((Int × DA) ⊕ DA)))
      refine ⟨(((i + m : Nat) : Int) + 1, wA d 133 f'), ?_, by show ((i + m : Nat) : Int) + 1 = ((i + (m + 1) : Nat) : Int); omega, f', rfl, (hT _ _).mpr (fun a b c a1 ab bc cl z => (hT _ _).mp u2 a b c a1 ab bc cl ?_)⟩
      · unfold X12_isLesser_b55
        rw [gd_pos (by omega), if_neg (by omega), u1]
      · rcases z with z | z
        · exact Or.inl (Or.inl z)
        · by_cases y : b = i + m
          · exact Or.inr ⟨z.1, y⟩
          · exact Or.inl (Or.inr ⟨z.1, (by omega)⟩)) (fun s hI2 => by
      obtain ⟨v, E⟩ := s
      obtain ⟨y1, f, y2, y3⟩ := hI2
      dsimp only at y1 y2 ⊢
      subst y1 y2
      refine ⟨wA d 133 f, ?_, f, rfl, (hT _ _).mpr (fun a b c a1 ab bc cl z => (hT _ _).mp y3 a b c a1 ab bc cl (by
        rcases z with z | z
        · exact Or.inl z
        · exact Or.inr ⟨z, (by omega)⟩))⟩
      unfold X12_isLesser_b55
      rw [gd_pos (by omega), if_pos (by omega)])
    exact ⟨f, k1, k2⟩
  obtain ⟨e, k1, f, rfl, k2⟩ := lpE_inv (b := fun q => X12_isLesser_b48 113 lr q.1 q.2) (k := K) (s0 := (1, wA d 133 (d.1 133))) (fun m s => s.1 = ((1 + m : Nat) : Int) ∧ ∃ f, s.2 = wA d 133 f ∧ T (fun a b c => a < 1 + m) f) (fun e => ∃ f, e = wA d 133 f ∧ T (fun a b c => True) f) (lr - 1) (by omega) ⟨rfl, _, rfl, (hT _ _).mpr (fun a b c a1 ab bc cl z => by omega)⟩ (fun m s hm hI2 => by
    obtain ⟨v, E⟩ := s
    obtain ⟨y1, f, y2, y3⟩ := hI2
    dsimp only at y1 y2 ⊢
    subst y1 y2
    obtain ⟨f', u1, u2⟩ := mid (1 + m) f _ (by omega) (by omega) y3 (fun e => (some (.inl (((1 + m : Nat) : Int) + 1, e)) : Option ((Int × DA) ⊕ DA)))
    refine ⟨(((1 + m : Nat) : Int) + 1, wA d 133 f'), ?_, by show ((1 + m : Nat) : Int) + 1 = ((1 + (m + 1) : Nat) : Int); omega, f', rfl, (hT _ _).mpr (fun a b c a1 ab bc cl z => (hT _ _).mp u2 a b c a1 ab bc cl ?_)⟩
    · unfold X12_isLesser_b48
      rw [gd_pos (by omega), if_neg (by omega), u1]
    · by_cases y : a = 1 + m
      · exact Or.inr y
      · exact Or.inl (by omega)) (fun s hI2 => by
    obtain ⟨v, E⟩ := s
    obtain ⟨y1, f, y2, y3⟩ := hI2
    dsimp only at y1 y2 ⊢
    subst y1 y2
    refine ⟨wA d 133 f, ?_, f, rfl, (hT _ _).mpr (fun a b c a1 ab bc cl z => (hT _ _).mp y3 a b c a1 ab bc cl (by omega))⟩
    unfold X12_isLesser_b48
    rw [gd_pos (by omega), if_pos (by omega)])
  rw [wA_same] at k1
  refine ⟨f, k1, fun g hg => ?_⟩
  obtain ⟨-, f1, f2, f3, f4, -, f6⟩ := fst_of hq hg
  have := (hT _ _).mp k2 _ _ _ f1 f2 f3 f4 trivial
  rw [f6] at this
  exact this
theorem x12_lesser {d : DA} {fg : Nat → Int} {q : Nat → Nat} (hq : (lr, w) ∈ lw5) (hR : RfL d lr w fg) (hI : Inj9 lr q) (h34 : ∀ i, 1 ≤ i → i < lr → d.1 134 i = (q i : Int)) : ∃ v d', X12_isLesser 113 lr d = some (v, d') ∧ d'.2 = d.2 ∧ (∀ c, c ≠ 133 → d'.1 c = d.1 c) ∧ ((v = 1 ∧ Ls9 lr w fg q) ∨ (v = 0 ∧ ¬ Ls9 lr w fg q)) := by
  obtain ⟨h2, h4, hw, -⟩ := lw5_bd hq
  obtain ⟨n1, n10⟩ := gcn_bd hq
  obtain ⟨r1, r2, r3, r4'⟩ := hR
  unfold X12_isLesser
  rcases lpR_al (b := fun q => X12_isLesser_b2 113 lr q d) (k := fun _ => X12_isLesser_j46 113 lr d) (j := fun r => some r) (z := ((0 : Int), d)) 1 lr (fun i => q (dl9 lr w i) = dl9 lr w (q i)) (by omega) (fun i i1 i2 => by
    show (_ ∧ X12_isLesser_b2 113 lr (i : Int) d = _) ∨ (_ ∧ X12_isLesser_b2 113 lr (i : Int) d = _)
    obtain ⟨d1, d2, -⟩ := dl9_bd hq i2
    obtain ⟨qa1, qa2⟩ := hI.1 i i1 i2
    have d3 := (dl9_bd hq qa2).1
    obtain ⟨qd1, qd2⟩ := hI.1 _ (d2 i1) d1
    have z1 : d.1 (113 + 21) i = (q i : Int) := h34 i i1 i2
    have z2 : d.1 (113 + 21) (dl9 lr w i) = (q (dl9 lr w i) : Int) := h34 _ (d2 i1) d1
    unfold X12_isLesser_b2
    rw [gd_pos (by omega), if_neg (by omega), r4', b1_pos (x12_dualBy h2 (by omega) hw (by omega)), gd_pos (by omega), gd_pos (by omega), Int.toNat_natCast, Int.toNat_natCast, z1, b1_pos (x12_dualBy h2 (by omega) hw (by omega)), z2, gd_pos (by omega)]
    by_cases c : q (dl9 lr w i) = dl9 lr w (q i)
    · rw [if_pos (by omega)]; exact Or.inl ⟨c, rfl⟩
    · rw [if_neg (by omega)]; exact Or.inr ⟨c, rfl⟩) (by
    show X12_isLesser_b2 113 lr (lr : Int) d = _
    unfold X12_isLesser_b2
    rw [gd_pos (by omega), if_pos (by omega)]) with ⟨hK, e⟩ | ⟨hK, e⟩
  · have e' : lpR (fun q => X12_isLesser_b2 113 lr q d) 1 (fun _ => X12_isLesser_j46 113 lr d) (fun r => some r) = X12_isLesser_j46 113 lr d := e
    rw [e']
    unfold X12_isLesser_j46
    obtain ⟨f, k1, k2⟩ := x12_oth hq ⟨r1, r2, r3, r4'⟩ hI hK h34 (fun e => X12_isLesser_j136 113 e)
    rw [k1]
    unfold X12_isLesser_j136
    have x33 : ∀ g, g < gcn lr w → (wA d 133 f).1 (113 + 20) g = rnG lr w fg q g := fun g hg => by
      show (wA d 133 f).1 133 g = _
      rw [wA_at]; exact k2 g hg
    have x32 : ∀ g, g < gcn lr w → (wA d 133 f).1 (113 + 19) g = fg g := fun g hg => by
      show (wA d 133 f).1 132 g = _
      rw [wA_ne (by decide)]; exact (r2 g hg).1
    have x36 : (wA d 133 f).1 113 36 = (gcn lr w : Int) := by rw [wA_ne (by decide)]; exact r3
    have rb : ∀ g, g < gcn lr w → 0 ≤ rnG lr w fg q g ∧ rnG lr w fg q g ≤ 9 := fun g hg => by
      obtain ⟨-, f1, f2, f3, f4, -, -⟩ := fst_of hq hg
      obtain ⟨u1, u2⟩ := hI.1 _ f1 (show fa9 lr w g < lr by omega)
      obtain ⟨u3, u4⟩ := hI.1 (fb9 lr w g) (by omega) (by omega)
      obtain ⟨u5, u6⟩ := hI.1 (fc9 lr w g) (by omega) f4
      exact (r2 _ (grp_lt hq u1 u2 u3 u4 u5 u6)).2
    have key := lpR_lw (b := fun q => X12_isLesser_b138 113 q (wA d 133 f)) (k := fun _ => some ((0 : Int), wA d 133 f)) (j := fun r => some r) (z0 := ((0 : Int), wA d 133 f)) (z1 := ((1 : Int), wA d 133 f)) (gcn lr w) (rnG lr w fg q) fg (by omega) (fun g hg => by
      show (_ ∧ X12_isLesser_b138 113 (g : Int) (wA d 133 f) = _) ∨ (_ ∧ X12_isLesser_b138 113 (g : Int) (wA d 133 f) = _) ∨ (_ ∧ X12_isLesser_b138 113 (g : Int) (wA d 133 f) = _)
      have b5 := rb g hg
      have b6 := (r2 g hg).2
      unfold X12_isLesser_b138
      rw [x36, gd_pos (by omega), if_neg (by omega), gd_pos (by omega), gd_pos (by omega), Int.toNat_natCast, x33 g hg, x32 g hg, gd_pos (by omega)]
      by_cases c : rnG lr w fg q g = fg g
      · rw [if_pos c]; exact Or.inl ⟨c, rfl⟩
      · rw [if_neg c, gd_pos (by omega), gd_pos (by omega), gd_pos (by omega)]
        by_cases c2 : fg g ≤ rnG lr w fg q g
        · rw [if_pos c2]; exact Or.inr (Or.inr ⟨by omega, rfl⟩)
        · rw [if_neg c2]; exact Or.inr (Or.inl ⟨by omega, rfl⟩)) (by
      show X12_isLesser_b138 113 (gcn lr w : Int) (wA d 133 f) = _
      unfold X12_isLesser_b138
      rw [x36, gd_pos (by omega), if_pos (by omega)])
    have fr : ∀ c, c ≠ 133 → (wA d 133 f).1 c = d.1 c := fun c z => wA_ne z
    rcases key with ⟨a, e⟩ | ⟨a, e | e⟩
    · exact ⟨1, wA d 133 f, e, rfl, fr, Or.inl ⟨rfl, hK, a⟩⟩
    · exact ⟨0, wA d 133 f, e, rfl, fr, Or.inr ⟨rfl, fun z => a z.2⟩⟩
    · exact ⟨0, wA d 133 f, e, rfl, fr, Or.inr ⟨rfl, fun z => a z.2⟩⟩
  · have e' : lpR (fun q => X12_isLesser_b2 113 lr q d) 1 (fun _ => X12_isLesser_j46 113 lr d) (fun r => some r) = some ((0 : Int), d) := e
    rw [e']
    exact ⟨0, d, rfl, rfl, fun _ _ => rfl, Or.inr ⟨rfl, fun z => hK z.1⟩⟩
end

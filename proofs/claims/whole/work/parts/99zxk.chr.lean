/-! ===== the reference finds a character ===== -/
theorem cut9 {P : Nat → Prop} : ∀ (m lo : Nat), (∀ i j, lo ≤ i → i < j → j < lo + m → P j → P i) → ∃ e, lo ≤ e ∧ e ≤ lo + m ∧ ∀ i, lo ≤ i → i < lo + m → (i < e ↔ P i) := by
  intro m
  induction m with
  | zero => intro lo _; exact ⟨lo, Nat.le_refl _, Nat.le_refl _, fun i h1 h2 => by omega⟩
  | succ m ih =>
    intro lo mono
    by_cases c : P lo
    · obtain ⟨e, h1, h2, h3⟩ := ih (lo + 1) (fun i j a b d => mono i j (by omega) b (by omega))
      refine ⟨e, (by omega), (by omega), fun i h4 h5 => ?_⟩
      by_cases ci : i = lo
      · subst ci; exact ⟨fun _ => c, fun _ => (by omega)⟩
      · exact h3 i (by omega) (by omega)
    · refine ⟨lo, Nat.le_refl _, (by omega), fun i h4 h5 => ⟨fun z => by omega, fun z => ?_⟩⟩
      by_cases ci : i = lo
      · subst ci; exact absurd z c
      · exact absurd (mono lo i (Nat.le_refl _) (by omega) h5 z) c
def FrH (d0 d : DA) : Prop := d.2 = d0.2 ∧ ∀ c j, c ≠ 135 → (c ≠ 113 ∨ (j ≠ 45 ∧ j ≠ 47)) → d.1 c j = d0.1 c j
theorem FrH.rf (d : DA) : FrH d d := ⟨rfl, fun _ _ _ _ => rfl⟩
theorem FrH.x {d0 d : DA} (h : FrH d0 d) {k : Nat} {v : Int} : FrH d0 (wI d 135 k v) := ⟨h.1, fun c j z1 z2 => by rw [wI_ne z1]; exact h.2 c j z1 z2⟩
theorem FrH.n {d0 d : DA} (h : FrH d0 d) {k : Nat} {v : Int} (hk : k = 45 ∨ k = 47) : FrH d0 (wI d 113 k v) := ⟨h.1, fun c j z1 z2 => by
  by_cases e : c = 113
  · subst e
    rw [wI_at, fu_n (by rcases z2 with z | z; exact absurd rfl z; omega)]; exact h.2 113 j z1 z2
  · rw [wI_ne e]; exact h.2 c j z1 z2⟩
theorem FrH.i {d0 d : DA} (h : FrH d0 d) {j : Nat} (h1 : j ≠ 45) (h2 : j ≠ 47) : d.1 113 j = d0.1 113 j := h.2 113 j (by decide) (Or.inr ⟨h1, h2⟩)
theorem FrH.c {d0 d : DA} (h : FrH d0 d) {c : Nat} (h1 : c ≠ 135) (h2 : c ≠ 113) : d.1 c = d0.1 c := funext fun j => h.2 c j h1 (Or.inl h2)
/-- what a search among the rows lo .. hi - 1 leaves -/
def ChE (C : Nat → Nat → Int) (r lo hi : Nat) (w : Int) (d' : DA) : Prop := (((lo : Int) ≤ w ∧ w < hi) ∧ d'.1 113 47 = 1 ∧ ∀ j, j < r → d'.1 135 j = C w.toNat j) ∨ (¬ ((lo : Int) ≤ w ∧ w < hi) ∧ d'.1 113 47 = 0 ∧ d'.1 113 45 = hi)
theorem chr_on {d0 : DA} {n : Nat → Int} {r p q : Nat} {C : Nat → Nat → Int} {w : Int} (hT : TG n r) (h14 : d0.1 114 = n) (hr : d0.1 113 1 = r) (hp : d0.1 113 4 = p) (h2 : 2 ≤ p) (h31 : p ≤ 31) (h46 : d0.1 113 46 = w) (hw : -1 ≤ w ∧ w < 2147483648) (hq : q ≤ 5) (hC : ChL n r p q C) : ∀ m k lo hi (c : Nat → Int) F d, k + m = r → m < F → 1 ≤ k → FrH d0 d → (∀ j, j < k → d.1 135 j = c j ∧ 0 ≤ c j ∧ c j < p) → c 0 = 1 → lo ≤ hi → hi ≤ q → (∀ i, i < q → ((lo ≤ i ∧ i < hi) ↔ ∀ j, j < k → C i j = c j)) → (k = r → isCh n r p c) → d.1 113 45 = lo → d.1 113 47 = 0 → ∃ d', X12_characterOn 113 F k d = some ((), d') ∧ FrH d0 d' ∧ ChE C r lo hi w d' ∧ ∀ j, j < k → d'.1 135 j = d.1 135 j := by
  intro m
  have h5 := hT.1.2
  induction m with
  | zero =>
    intro k lo hi c F d hk hF h1 hd hc hc0 hlh hhq hint hfull h45 h47
    obtain ⟨F, rfl⟩ : ∃ F', F = F' + 1 := ⟨F - 1, by omega⟩
    have hkr : k = r := by omega
    have hch := hfull hkr
    obtain ⟨i, hiq, hie⟩ := hC.2.2 c hch
    have hii := (hint i hiq).mpr (fun j hj => (hie j (by omega)).symm)
    have one : hi = lo + 1 := by
      rcases Nat.lt_or_ge (lo + 1) hi with z | z
      · exfalso
        have e1 := (hint lo (by omega)).mp ⟨Nat.le_refl _, (by omega)⟩
        have e2 := (hint (lo + 1) (by omega)).mp ⟨(by omega), z⟩
        obtain ⟨j, a1, a2, -⟩ := hC.2.1 lo (lo + 1) (by omega) (by omega)
        rw [e1 j (by omega), e2 j (by omega)] at a2
        omega
      · omega
    have e1 : d.1 113 1 = r := by rw [hd.i (by decide) (by decide)]; exact hr
    have e46 : d.1 113 46 = w := by rw [hd.i (by decide) (by decide)]; exact h46
    have eM : X12_characterOn 113 (F + 1) k d = X12_characterOn_m 113 (X12_characterOn 113 F) k d := rfl
    rw [eM]
    unfold X12_characterOn_m
    rw [e1, gd_pos (by omega), if_pos (by omega), h45, e46, gd_pos (by omega), h47]
    by_cases cw : (lo : Int) = w
    · rw [if_pos cw]
      have j29 : X12_characterOn_j29 113 (X12_characterOn 113 F) 0 1 d = some ((), wI d 113 47 1) := by
        unfold X12_characterOn_j29
        have i1 : ior9 0 1 = 1 := by decide
        have e : (wI d 113 47 1).1 113 47 = 1 := by rw [wI_at, fu_s]
        rw [i1, gd_pos (Or.inr rfl), lt_pos, e, gd_pos (by decide), if_neg (by decide)]
      rw [j29]
      refine ⟨_, rfl, hd.n (Or.inr rfl), Or.inl ⟨⟨(by omega), (by omega)⟩, by rw [wI_at, fu_s], fun j hj => ?_⟩, fun j hj => by rw [wI_ne (by decide)]⟩
      rw [wI_ne (by decide), (hc j (by omega)).1]
      have hwt : w.toNat = lo := by omega
      rw [hwt]
      exact ((hint lo (by omega)).mp ⟨Nat.le_refl _, (by omega)⟩ j (by omega)).symm
    · rw [if_neg cw]
      have j29 : X12_characterOn_j29 113 (X12_characterOn 113 F) 0 0 d = some ((), wI (wI d 113 47 0) 113 45 ((lo : Int) + 1)) := by
        unfold X12_characterOn_j29
        have i1 : ior9 0 0 = 0 := by decide
        have e : (wI d 113 47 0).1 113 47 = 0 := by rw [wI_at, fu_s]
        have e4 : (wI d 113 47 0).1 113 45 = lo := by rw [wI_at, fu_n (by decide)]; exact h45
        rw [i1, gd_pos (Or.inl rfl), lt_pos, e, gd_pos (by decide), if_pos rfl, e4, lt_pos]
      rw [j29]
      refine ⟨_, rfl, (hd.n (Or.inr rfl)).n (Or.inl rfl), Or.inr ⟨fun z => by omega, by rw [wI_at, fu_n (by decide), wI_at, fu_s], ?_⟩, fun j hj => by rw [wI_ne (by decide), wI_ne (by decide)]⟩
      rw [wI_at, fu_s, one]
      rfl
  | succ m ih =>
    intro k lo hi c F d hk hF h1 hd hc hc0 hlh hhq hint hfull h45 h47
    obtain ⟨F, rfl⟩ : ∃ F', F = F' + 1 := ⟨F - 1, by omega⟩
    have hkr : k < r := by omega
    have e1 : d.1 113 1 = r := by rw [hd.i (by decide) (by decide)]; exact hr
    have eM : X12_characterOn 113 (F + 1) k d = lpE (fun q => X12_characterOn_b53 113 (X12_characterOn 113 F) k q.1 q.2) (0, d) (fun e => some ((), e)) := by
      show X12_characterOn_m 113 (X12_characterOn 113 F) k d = _
      unfold X12_characterOn_m
      rw [e1, gd_pos (by omega), if_neg (by omega)]
    rw [eM]
    -- rows that begin alike stand by their number at k
    have mono : ∀ i j, lo ≤ i → i < j → j < hi → C i k ≤ C j k := fun i j a1 a2 a3 => by
      have z1 := (hint i (by omega)).mp ⟨a1, (by omega)⟩
      have z2 := (hint j (by omega)).mp ⟨(by omega), a3⟩
      obtain ⟨f, b1, b2, b3⟩ := hC.2.1 i j a2 (by omega)
      rcases Nat.lt_or_ge f k with y | y
      · rw [z1 f y, z2 f y] at b2; omega
      · rcases Nat.eq_or_lt_of_le y with y | y
        · subst y; omega
        · rw [b3 k y]; exact Int.le_refl _
    have key : ∃ e, lpE (fun q => X12_characterOn_b53 113 (X12_characterOn 113 F) k q.1 q.2) (0, d) (fun e => some ((), e)) = some ((), e) ∧ (FrH d0 e ∧ ChE C r lo hi w e ∧ ∀ j, j < k → e.1 135 j = d.1 135 j) := by
      refine lpE_may (fun (v : Nat) (s : Int × DA) => s.1 = (v : Int) ∧ FrH d0 s.2 ∧ (∀ j, j < k → s.2.1 135 j = d.1 135 j) ∧ ((((lo : Int) ≤ w ∧ w < hi) ∧ s.2.1 113 47 = 1 ∧ ∀ j, j < r → s.2.1 135 j = C w.toNat j) ∨ (∃ e, lo ≤ e ∧ e ≤ hi ∧ (∀ i, lo ≤ i → i < hi → (i < e ↔ C i k < v)) ∧ ¬ ((lo : Int) ≤ w ∧ w < e) ∧ s.2.1 113 47 = 0 ∧ s.2.1 113 45 = (e : Int)))) (fun D => FrH d0 D ∧ ChE C r lo hi w D ∧ ∀ j, j < k → D.1 135 j = d.1 135 j) p (by omega) ⟨rfl, hd, fun _ _ => rfl, Or.inr ⟨lo, Nat.le_refl _, hlh, fun i a1 a2 => ⟨fun z => by omega, fun z => ?_⟩, fun z => by omega, h47, h45⟩⟩ (fun v s hv hI => ?_) (fun s hI => ?_)
      · exfalso
        have := (hC.1 i (by omega)).2.1 k hkr
        have z' : C i k < ((0 : Nat) : Int) := z
        omega
      · obtain ⟨v', D⟩ := s
        obtain ⟨rfl, i2, i3, i4⟩ := hI
        have i2 : FrH d0 D := i2
        have i3 : ∀ j, j < k → D.1 135 j = d.1 135 j := i3
        have p4 : D.1 113 4 = p := by rw [i2.i (by decide) (by decide)]; exact hp
        rcases i4 with ⟨f1, f2, f3⟩ | ⟨e, f1, f2, f3, f4, f5, f6⟩
        · right
          have f2 : D.1 113 47 = 1 := f2
          refine ⟨D, ?_, i2, Or.inl ⟨f1, f2, f3⟩, i3⟩
          show X12_characterOn_b53 113 (X12_characterOn 113 F) k (v : Int) D = _
          unfold X12_characterOn_b53
          rw [p4, gd_pos (by omega), if_neg (by omega), f2, gd_pos (by decide), if_neg (by decide)]
        · left
          have f5 : D.1 113 47 = 0 := f5
          have f6 : D.1 113 45 = e := f6
          obtain ⟨e', g1, g2, g3⟩ := cut9 (P := fun i => C i k < ((v + 1 : Nat) : Int)) (hi - lo) lo (fun i j a1 a2 a3 z => by
            have := mono i j a1 a2 (by omega)
            have z' : C j k < ((v + 1 : Nat) : Int) := z
            show C i k < ((v + 1 : Nat) : Int)
            omega)
          rw [show lo + (hi - lo) = hi by omega] at g2 g3
          have ee : e ≤ e' := by
            rcases Nat.lt_or_ge e' e with z | z
            · exfalso
              have y1 := (f3 e' g1 (by omega)).mp z
              have y2 := (g3 e' g1 (by omega)).mpr (by show C e' k < ((v + 1 : Nat) : Int); omega)
              omega
            · exact z
          generalize hD1 : wI D 135 k (v : Int) = D1
          have hF1 : FrH d0 D1 := by rw [← hD1]; exact i2.x
          have c1 : ∀ j, j < k + 1 → D1.1 135 j = fu c k (v : Int) j ∧ 0 ≤ fu c k (v : Int) j ∧ fu c k (v : Int) j < p := fun j hj => by
            rw [← hD1, wI_at, fu_app, fu_app]
            by_cases y : j = k
            · rw [if_pos y, if_pos y]; exact ⟨rfl, (by omega), (by omega)⟩
            · rw [if_neg y, if_neg y, i3 j (by omega)]; exact hc j (by omega)
          have hint' : ∀ i, i < q → ((e ≤ i ∧ i < e') ↔ ∀ j, j < k + 1 → C i j = fu c k (v : Int) j) := fun i hi9 => by
            constructor
            · intro z j hj
              have zin : lo ≤ i ∧ i < hi := ⟨(by omega), (by omega)⟩
              rw [fu_app]
              by_cases y : j = k
              · rw [if_pos y, y]
                have u1 := (g3 i zin.1 zin.2).mp z.2
                have u1 : C i k < ((v + 1 : Nat) : Int) := u1
                have u2 : ¬ C i k < v := fun u => by have := (f3 i zin.1 zin.2).mpr u; omega
                omega
              · rw [if_neg y]; exact (hint i hi9).mp zin j (by omega)
            · intro z
              have zin := (hint i hi9).mpr (fun j hj => by rw [z j (by omega), fu_app, if_neg (by omega)])
              have zk : C i k = v := by rw [z k (by omega), fu_app, if_pos rfl]
              refine ⟨?_, (g3 i zin.1 zin.2).mpr (by show C i k < ((v + 1 : Nat) : Int); omega)⟩
              rcases Nat.lt_or_ge i e with y | y
              · have := (f3 i zin.1 zin.2).mp y; omega
              · exact y
          have r14 : D1.1 114 = n := by rw [hF1.c (by decide) (by decide)]; exact h14
          have r1 : D1.1 113 1 = r := by rw [hF1.i (by decide) (by decide)]; exact hr
          have r4 : D1.1 113 4 = p := by rw [hF1.i (by decide) (by decide)]; exact hp
          have head : ∀ b, X12_isCharacter 113 k D1 = some b → inR b → X12_characterOn_b53 113 (X12_characterOn 113 F) k (v : Int) D = if b = 0 then some (.inl ((v : Int) + 1, D1)) else bd (X12_characterOn 113 F ((k : Int) + 1) D1) fun _ d3 => some (.inl ((v : Int) + 1, d3)) := fun b hb hbR => by
            unfold X12_characterOn_b53
            have hD1' : wI D (113 + 22) k (v : Int) = D1 := hD1
            rw [p4, gd_pos (by omega), if_neg (by omega), f5, gd_pos (by decide), if_pos rfl, gd_pos (by omega), lt_pos, Int.toNat_natCast, hD1', b1_pos hb, gd_pos hbR]
          rcases x12_isCh (c := fu c k (v : Int)) hT r14 r1 r4 h2 h31 hkr (fun j hj => c1 j (by omega)) with ⟨b1, b2⟩ | ⟨b1, b2⟩
          · -- no character begins so
            have e0 : e' = e := by
              rcases Nat.lt_or_ge e e' with z | z
              · exfalso
                have := (hint' e (by omega)).mp ⟨Nat.le_refl _, z⟩
                exact b2 (C e) (hC.1 e (by omega)) (fun j hj => this j (by omega))
              · omega
            have hh := head 0 b1 (by decide)
            rw [if_pos rfl] at hh
            refine ⟨((v : Int) + 1, D1), hh, by show (v : Int) + 1 = _; omega, hF1, fun j hj => ?_, Or.inr ⟨e', (by omega), g2, g3, by rw [e0]; exact f4, ?_, ?_⟩⟩
            · show D1.1 135 j = _
              rw [← hD1, wI_at, fu_n (by omega)]; exact i3 j hj
            · show D1.1 113 47 = 0
              rw [← hD1, wI_ne (by decide)]; exact f5
            · show D1.1 113 45 = e'
              rw [← hD1, wI_ne (by decide), e0]; exact f6
          · have hh := head 1 b1 (by decide)
            rw [if_neg (by decide)] at hh
            obtain ⟨D2, k1, k2, k3, k4⟩ := ih (k + 1) e e' (fu c k (v : Int)) F D1 (by omega) (by omega) (by omega) hF1 c1 (by rw [fu_app, if_neg (by omega)]; exact hc0) ee (by omega) hint' (fun hk1 => b2 (by omega) (by rw [fu_app, if_neg (by omega)]; exact hc0)) (by rw [← hD1, wI_ne (by decide)]; exact f6) (by rw [← hD1, wI_ne (by decide)]; exact f5)
            have k1' : X12_characterOn 113 F ((k : Int) + 1) D1 = some ((), D2) := k1
            rw [bd_pos k1'] at hh
            refine ⟨((v : Int) + 1, D2), hh, by show (v : Int) + 1 = _; omega, k2, fun j hj => ?_, ?_⟩
            · show D2.1 135 j = _
              rw [k4 j (by omega), ← hD1, wI_at, fu_n (by omega)]; exact i3 j hj
            · rcases k3 with ⟨u1, u2, u3⟩ | ⟨u1, u2, u3⟩
              · exact Or.inl ⟨⟨(by omega), (by omega)⟩, u2, u3⟩
              · exact Or.inr ⟨e', (by omega), g2, g3, fun z => by omega, u2, u3⟩
      · obtain ⟨v', D⟩ := s
        obtain ⟨rfl, i2, i3, i4⟩ := hI
        have i2 : FrH d0 D := i2
        have p4 : D.1 113 4 = p := by rw [i2.i (by decide) (by decide)]; exact hp
        refine ⟨D, ?_, i2, ?_, i3⟩
        · show X12_characterOn_b53 113 (X12_characterOn 113 F) k (p : Int) D = _
          unfold X12_characterOn_b53
          rw [p4, gd_pos (by omega), if_pos (by omega)]
        · rcases i4 with f | ⟨e, f1, f2, f3, f4, f5, f6⟩
          · exact Or.inl f
          · have : e = hi := by
              rcases Nat.lt_or_ge e hi with z | z
              · exfalso
                have b := (hC.1 e (by omega)).2.1 k hkr
                have := (f3 e f1 z).mpr b.2
                omega
              · omega
            subst this
            exact Or.inr ⟨f4, f5, f6⟩
    obtain ⟨d', k1, k2, k3, k4⟩ := key
    exact ⟨d', k1, k2, k3, k4⟩
/-- the reference's search for the character w -/
theorem x12_findC {d : DA} {n : Nat → Int} {r p q : Nat} {C : Nat → Nat → Int} {w : Int} (hT : TG n r) (h14 : d.1 114 = n) (hr : d.1 113 1 = r) (hp : d.1 113 4 = p) (h2 : 2 ≤ p) (h31 : p ≤ 31) (hw : -1 ≤ w ∧ w < 2147483648) (hq : q ≤ 5) (hC : ChL n r p q C) : ∃ d', X12_findCharacter 113 w d = some ((if 0 ≤ w ∧ w < q then 1 else 0), d') ∧ d'.2 = d.2 ∧ (∀ c j, c ≠ 135 → (c ≠ 113 ∨ (j ≠ 45 ∧ j ≠ 46 ∧ j ≠ 47)) → d'.1 c j = d.1 c j) ∧ ((0 ≤ w ∧ w < q) → ∀ j, j < r → d'.1 135 j = C w.toNat j) ∧ (¬ (0 ≤ w ∧ w < q) → d'.1 113 45 = q) := by
  have r1 := hT.1.1
  generalize hd0 : wI (wI (wI (wI d 135 0 1) 113 45 0) 113 46 w) 113 47 0 = d0
  have c9 : ∀ c, c ≠ 113 → c ≠ 135 → d0.1 c = d.1 c := fun c z1 z2 => by rw [← hd0, wI_ne z1, wI_ne z1, wI_ne z1, wI_ne z2]
  have j9 : ∀ j, j ≠ 45 → j ≠ 46 → j ≠ 47 → d0.1 113 j = d.1 113 j := fun j z1 z2 z3 => by rw [← hd0, wI_at, fu_n z3, wI_at, fu_n z2, wI_at, fu_n z1, wI_ne (by decide)]
  obtain ⟨d', e1, e2, e3, -⟩ := chr_on (d0 := d0) (n := n) (r := r) (p := p) (q := q) (C := C) (w := w) hT ((c9 114 (by decide) (by decide)).trans h14) ((j9 1 (by decide) (by decide) (by decide)).trans hr) ((j9 4 (by decide) (by decide) (by decide)).trans hp) h2 h31 (by rw [← hd0, wI_at, fu_n (by decide), wI_at, fu_s]) hw hq hC (r - 1) 1 0 q (fun _ => 1) 12 d0 (by omega) (by have := hT.1.2; omega) (Nat.le_refl _) (FrH.rf d0) (fun j hj => by
      have : j = 0 := by omega
      subst this
      refine ⟨?_, (by omega), (by omega)⟩
      rw [← hd0, wI_ne (by decide), wI_ne (by decide), wI_ne (by decide), wI_at, fu_s]) rfl (Nat.zero_le _) (Nat.le_refl _) (fun i hi => ⟨fun _ j hj => by
      have : j = 0 := by omega
      subst this
      exact (hC.1 i hi).1, fun _ => ⟨Nat.zero_le _, hi⟩⟩) (fun h1 => ⟨rfl, fun k hk => ⟨by show (0 : Int) ≤ 1; omega, by show (1 : Int) < p; omega⟩, fun i j hi hi2 => by omega⟩) (by rw [← hd0, wI_at, fu_n (by decide), wI_at, fu_n (by decide), wI_at, fu_s]; rfl) (by rw [← hd0, wI_at, fu_s])
  have e1' : X12_characterOn 113 12 1 d0 = some ((), d') := e1
  have h01 : d'.1 113 47 = if 0 ≤ w ∧ w < q then 1 else 0 := by
    rcases e3 with ⟨u1, u2, -⟩ | ⟨u1, u2, -⟩
    · rw [u2, if_pos ⟨by have := u1.1; omega, u1.2⟩]
    · rw [u2, if_neg (fun z => u1 ⟨by have := z.1; omega, z.2⟩)]
  refine ⟨d', ?_, by rw [e2.1, ← hd0]; rfl, fun c j z1 z2 => ?_, fun hw2 => ?_, fun hw2 => ?_⟩
  · unfold X12_findCharacter
    have hd0' : wI (wI (wI (wI d (113 + 22) (Int.toNat 0) 1) 113 45 0) 113 46 w) 113 47 0 = d0 := hd0
    rw [gd_pos (by decide), lt_pos, lt_pos, lt_pos, gd_pos (Or.inl rfl), lt_pos, hd0', bd_pos e1', h01, gd_pos (by split; exact Or.inr rfl; exact Or.inl rfl)]
  · rw [e2.2 c j z1 (by omega)]
    by_cases e : c = 113
    · subst e; exact j9 j (by omega) (by omega) (by omega)
    · rw [c9 c e z1]
  · rcases e3 with ⟨u1, u2, u3⟩ | ⟨u1, u2, u3⟩
    · exact u3
    · exact absurd ⟨by have := hw2.1; omega, hw2.2⟩ u1
  · rcases e3 with ⟨u1, u2, u3⟩ | ⟨u1, u2, u3⟩
    · exact absurd ⟨by have := u1.1; omega, u1.2⟩ hw2
    · exact u3

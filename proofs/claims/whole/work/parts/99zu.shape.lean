/-! ===== shapes, one kind after the other ===== -/
abbrev Ac9 := Nat × Nat × (Nat → Nat)
def lf9a (S H : Bool) (x : Nat → Nat) (s : Ac9) : Ac9 := if S then (if H then (s.1 + 1, s.2.1, s.2.2) else (s.1 + 1, s.2.1 + 1, if s.2.1 = 0 then x else s.2.2)) else s
def sp9 (r : Nat) (stop : Bool) (may : Nat → (Nat → Nat) → Bool) (S H : (Nat → Nat) → Bool) : Nat → Nat → (Nat → Nat) → Ac9 → Ac9
  | 0, _, x, s => lf9a (S x) (H x) x s
  | n + 1, i, x, s => fo9 (fun v s => if (stop && decide (0 < s.2.1)) = true then s else if may i (fu x i v) = true then sp9 r stop may S H n (i + 1) (fu x i v) s else s) r s
theorem sp9_z {r : Nat} {stop : Bool} {may : Nat → (Nat → Nat) → Bool} {S H : (Nat → Nat) → Bool} {i : Nat} {x : Nat → Nat} {s : Ac9} : sp9 r stop may S H 0 i x s = lf9a (S x) (H x) x s := rfl
theorem sp9_s {r : Nat} {stop : Bool} {may : Nat → (Nat → Nat) → Bool} {S H : (Nat → Nat) → Bool} {n i : Nat} {x : Nat → Nat} {s : Ac9} : sp9 r stop may S H (n + 1) i x s = fo9 (fun v s => if (stop && decide (0 < s.2.1)) = true then s else if may i (fu x i v) = true then sp9 r stop may S H n (i + 1) (fu x i v) s else s) r s := rfl
/-- no more wrong than counted, and at most m -/
def Bd9a (m : Nat) (s : Ac9) : Prop := s.2.1 ≤ s.1 ∧ s.1 ≤ m
theorem Bd9a.up {m n : Nat} {s : Ac9} (h : Bd9a m s) (hn : m ≤ n) : Bd9a n s := ⟨h.1, Nat.le_trans h.2 hn⟩
theorem Bd9a.lf {m : Nat} {s : Ac9} {S H : Bool} {x : Nat → Nat} (h : Bd9a m s) : Bd9a (m + 1) (lf9a S H x s) := by
  obtain ⟨h1, h2⟩ := h
  unfold lf9a
  cases S
  · exact ⟨h1, by show s.1 ≤ m + 1; omega⟩
  · cases H
    · exact ⟨by show s.2.1 + 1 ≤ s.1 + 1; omega, by show s.1 + 1 ≤ m + 1; omega⟩
    · exact ⟨by show s.2.1 ≤ s.1 + 1; omega, by show s.1 + 1 ≤ m + 1; omega⟩
theorem fo9_bd {F : Nat → Ac9 → Ac9} {K : Nat} : ∀ r m s, (∀ v m s, v < r → Bd9a m s → Bd9a (m + K) (F v s)) → Bd9a m s → Bd9a (m + r * K) (fo9 F r s) := by
  intro r
  induction r with
  | zero => intro m s _ h; exact h.up (by omega)
  | succ r ih =>
    intro m s hF h
    have := hF r _ _ (Nat.lt_succ_self r) (ih m s (fun v m s hv => hF v m s (by omega)) h)
    exact this.up (by rw [Nat.succ_mul]; omega)
theorem sp9_bd {r : Nat} {stop : Bool} {may : Nat → (Nat → Nat) → Bool} {S H : (Nat → Nat) → Bool} : ∀ n i x m s, Bd9a m s → Bd9a (m + r ^ n) (sp9 r stop may S H n i x s) := by
  intro n
  induction n with
  | zero => intro i x m s h; rw [sp9_z]; exact h.lf
  | succ n ih =>
    intro i x m s h
    rw [sp9_s]
    have := fo9_bd (K := r ^ n) r m s (F := fun v s => if (stop && decide (0 < s.2.1)) = true then s else if may i (fu x i v) = true then sp9 r stop may S H n (i + 1) (fu x i v) s else s) (fun v m s _ hs => by
      by_cases c1 : (stop && decide (0 < s.2.1)) = true
      · rw [if_pos c1]; exact hs.up (by omega)
      · rw [if_neg c1]
        by_cases c2 : may i (fu x i v) = true
        · rw [if_pos c2]; exact ih _ _ _ _ hs
        · rw [if_neg c2]; exact hs.up (by omega)) h
    rw [Nat.pow_succ, Nat.mul_comm (r ^ n) r]
    exact this
theorem fo9_fix {S : Type} {F : Nat → S → S} {s : S} {v : Nat} (h : ∀ u, F u (fo9 F v s) = fo9 F v s) : ∀ m, fo9 F (v + m) s = fo9 F v s := by
  intro m
  induction m with
  | zero => rfl
  | succ m ih =>
    show F (v + m) (fo9 F (v + m) s) = _
    rw [ih, h]
theorem wl_may {S E : Type} {b : S → Option (S ⊕ E)} (I : Nat → S → Prop) (F : E → Prop) (r : Nat) (hb : ∀ i s, i < r → I i s → (∃ s', b s = some (.inl s') ∧ I (i + 1) s') ∨ (∃ e, b s = some (.inr e) ∧ F e)) (he : ∀ s, I r s → ∃ e, b s = some (.inr e) ∧ F e) : ∀ n i s, i ≤ r → r - i < n → I i s → ∃ e, wl9 b n s = some e ∧ F e := by
  intro n
  induction n with
  | zero => intro i s _ h; omega
  | succ n ih =>
    intro i s hi hn hI
    by_cases c : i = r
    · subst c
      obtain ⟨e, h1, h2⟩ := he s hI
      exact ⟨e, by unfold wl9; rw [h1], h2⟩
    · rcases hb i s (by omega) hI with ⟨s', h1, h2⟩ | ⟨e, h1, h2⟩
      · obtain ⟨e, h3, h4⟩ := ih (i + 1) s' (by omega) (by omega) h2
        exact ⟨e, by unfold wl9; rw [h1]; exact h3, h4⟩
      · exact ⟨e, by unfold wl9; rw [h1], h2⟩
theorem lpE_may {S E Y : Type} {b : S → Option (S ⊕ E)} {k : E → Option Y} {s0 : S} (I : Nat → S → Prop) (F : E → Prop) (r : Nat) (hr : r < 4000000) (h0 : I 0 s0) (hb : ∀ i s, i < r → I i s → (∃ s', b s = some (.inl s') ∧ I (i + 1) s') ∨ (∃ e, b s = some (.inr e) ∧ F e)) (he : ∀ s, I r s → ∃ e, b s = some (.inr e) ∧ F e) : ∃ e, lpE b s0 k = k e ∧ F e := by
  obtain ⟨e, h1, h2⟩ := wl_may I F r hb he FUEL 0 s0 (Nat.zero_le _) (by unfold FUEL; omega) h0
  refine ⟨e, ?_, h2⟩
  unfold lpE
  rw [h1]
/-- what the reference's counting of shapes leaves -/
def FrS (d0 d : DA) : Prop := d.2 = d0.2 ∧ ∀ c j, c ≠ 136 → c ≠ 137 → (c ≠ 113 ∨ (j ≠ 50 ∧ j ≠ 51)) → d.1 c j = d0.1 c j
theorem FrS.rf (d : DA) : FrS d d := ⟨rfl, fun _ _ _ _ _ => rfl⟩
theorem FrS.tr {a b c : DA} (h : FrS a b) (h2 : FrS b c) : FrS a c := ⟨h2.1.trans h.1, fun i j z1 z2 z3 => (h2.2 i j z1 z2 z3).trans (h.2 i j z1 z2 z3)⟩
theorem FrS.x {d0 d : DA} (h : FrS d0 d) {k : Nat} {v : Int} : FrS d0 (wI d 136 k v) := ⟨h.1, fun c j z1 z2 z3 => by rw [wI_ne z1]; exact h.2 c j z1 z2 z3⟩
theorem FrS.w {d0 d : DA} (h : FrS d0 d) {k : Nat} {v : Int} : FrS d0 (wI d 137 k v) := ⟨h.1, fun c j z1 z2 z3 => by rw [wI_ne z2]; exact h.2 c j z1 z2 z3⟩
theorem FrS.n {d0 d : DA} (h : FrS d0 d) {k : Nat} {v : Int} (hk : k = 50 ∨ k = 51) : FrS d0 (wI d 113 k v) := ⟨h.1, fun c j z1 z2 z3 => by
  by_cases e : c = 113
  · subst e
    rw [wI_at, fu_n (by rcases z3 with z | z; exact absurd rfl z; omega)]; exact h.2 113 j z1 z2 z3
  · rw [wI_ne e]; exact h.2 c j z1 z2 z3⟩
theorem FrS.c {d0 d : DA} (h : FrS d0 d) {c : Nat} (h1 : c ≠ 136) (h2 : c ≠ 137) (h3 : c ≠ 113) : d.1 c = d0.1 c := funext fun j => h.2 c j h1 h2 (Or.inl h3)
/-- the reference's counts -/
def RA9 (M : Nat) (d : DA) (s : Ac9) : Prop := d.1 113 50 = s.1 ∧ d.1 113 51 = s.2.1 ∧ (s.2.1 ≠ 0 → ∀ q, q < M → d.1 137 q = s.2.2 q)
theorem RA9.x {M : Nat} {d : DA} {s : Ac9} (h : RA9 M d s) {k : Nat} {v : Int} : RA9 M (wI d 136 k v) s := by
  unfold RA9
  rw [wI_ne (by decide), wI_ne (by decide)]
  exact h
theorem shape_on {d0 : DA} {r M : Nat} {stop : Bool} {may : Nat → (Nat → Nat) → Bool} {S H : (Nat → Nat) → Bool} (h3 : r ≤ 3) (hM : M ≤ 9) (hr : d0.1 113 1 = r) (he : d0.1 113 52 = if stop = true then 1 else 0)
    (hmay : ∀ (i : Nat) x d, i < M → FrS d0 d → (∀ q, q ≤ i → d.1 136 q = (x q : Nat) ∧ x q < r) → X12_mayGoOn 113 i M d = some (if may i x = true then 1 else 0))
    (hleaf : ∀ g x s d m, m ≤ 100000 → Bd9a m s → FrS d0 d → (∀ q, q < M → d.1 136 q = (x q : Nat) ∧ x q < r) → RA9 M d s → ∃ d', X12_shapeOn_m 113 g M M d = some ((), d') ∧ FrS d0 d' ∧ RA9 M d' (lf9a (S x) (H x) x s) ∧ d'.1 136 = d.1 136) :
    ∀ (n i F : Nat) x s d m, i + n = M → n < F → m + 3 ^ n ≤ 100000 → Bd9a m s → FrS d0 d → (∀ q, q < i → d.1 136 q = (x q : Nat) ∧ x q < r) → RA9 M d s → ∃ d', X12_shapeOn 113 F i M d = some ((), d') ∧ FrS d0 d' ∧ RA9 M d' (sp9 r stop may S H n i x s) ∧ ∀ q, q < i → d'.1 136 q = d.1 136 q := by
  intro n
  induction n with
  | zero =>
    intro i F x s d m hi hF hm hb hd hx hR
    obtain ⟨F, rfl⟩ : ∃ F', F = F' + 1 := ⟨F - 1, by omega⟩
    have : i = M := by omega
    subst this
    obtain ⟨d', e1, e2, e3, e4⟩ := hleaf (X12_shapeOn 113 F) x s d m (by omega) hb hd hx hR
    exact ⟨d', e1, e2, e3, fun q _ => by rw [e4]⟩
  | succ n ih =>
    intro i F x s d m hi hF hm hb hd hx hR
    obtain ⟨F, rfl⟩ : ∃ F', F = F' + 1 := ⟨F - 1, by omega⟩
    have e0 : X12_shapeOn 113 (F + 1) i M d = lpE (fun q => X12_shapeOn_b12 113 (X12_shapeOn 113 F) i M q) (wI d 136 i 0) (fun e => some ((), e)) := by
      show X12_shapeOn_m 113 (X12_shapeOn 113 F) i M d = _
      unfold X12_shapeOn_m
      rw [gd_pos (by omega), if_neg (by omega), gd_pos (by omega), lt_pos, Int.toNat_natCast]
    rw [e0]
    generalize hFF : (fun v (s : Ac9) => if (stop && decide (0 < s.2.1)) = true then s else if may i (fu x i v) = true then sp9 r stop may S H n (i + 1) (fu x i v) s else s) = FF
    have hbd : ∀ v, v ≤ r → Bd9a (m + v * r ^ n) (fo9 FF v s) := fun v hv => fo9_bd (K := r ^ n) v m s (fun u m s _ hs => by
      rw [← hFF]
      show Bd9a _ (if (stop && decide (0 < s.2.1)) = true then s else if may i (fu x i u) = true then sp9 r stop may S H n (i + 1) (fu x i u) s else s)
      by_cases c1 : (stop && decide (0 < s.2.1)) = true
      · rw [if_pos c1]; exact hs.up (by omega)
      · rw [if_neg c1]
        by_cases c2 : may i (fu x i u) = true
        · rw [if_pos c2]; exact sp9_bd _ _ _ _ _ hs
        · rw [if_neg c2]; exact hs.up (by omega)) hb
    have hpw : r ^ n ≤ 3 ^ n := Nat.pow_le_pow_left h3 n
    have hpw2 : 3 ^ (n + 1) = 3 * 3 ^ n := by rw [Nat.pow_succ, Nat.mul_comm]
    have hvr : ∀ v, v ≤ r → v * r ^ n ≤ 3 * 3 ^ n := fun v hv => Nat.mul_le_mul (Nat.le_trans hv h3) hpw
    have hvr2 : ∀ v, v < r → v * r ^ n + 3 ^ n ≤ 3 * 3 ^ n := fun v hv => by
      have : v * r ^ n ≤ 2 * 3 ^ n := Nat.mul_le_mul (by omega) hpw
      omega
    have key : ∃ e, lpE (fun q => X12_shapeOn_b12 113 (X12_shapeOn 113 F) i M q) (wI d 136 i 0) (fun e => some ((), e)) = some ((), e) ∧ (FrS d0 e ∧ RA9 M e (fo9 FF r s) ∧ ∀ q, q < i → e.1 136 q = d.1 136 q) := by
      refine lpE_may (fun v D => D.1 136 i = (v : Int) ∧ FrS d0 D ∧ RA9 M D (fo9 FF v s) ∧ ∀ q, q < i → D.1 136 q = d.1 136 q) (fun D => FrS d0 D ∧ RA9 M D (fo9 FF r s) ∧ ∀ q, q < i → D.1 136 q = d.1 136 q) r (by omega) ⟨by rw [wI_at, fu_s]; rfl, hd.x, hR.x, fun q hq => by rw [wI_at, fu_n (by omega)]⟩ (fun v D hv hI => ?_) (fun D hI => ?_)
      · obtain ⟨i1, i2, i3, i4⟩ := hI
        have hB := hbd v (by omega)
        have hm9 : m + v * r ^ n ≤ 100000 := by have := hvr v (by omega); omega
        obtain ⟨j1, j2⟩ := hB
        generalize hs1 : fo9 FF v s = s1 at i3 j1 j2
        have r1 : D.1 113 1 = r := by rw [i2.2 113 1 (by decide) (by decide) (Or.inr ⟨by decide, by decide⟩)]; exact hr
        have r52 : D.1 113 52 = if stop = true then 1 else 0 := by rw [i2.2 113 52 (by decide) (by decide) (Or.inr ⟨by decide, by decide⟩)]; exact he
        have i3' := i3.2.1
        have hx' : ∀ q, q ≤ i → D.1 136 q = ((fu x i v q : Nat) : Int) ∧ fu x i v q < r := fun q hq => by
          rw [fu_app]
          by_cases c : q = i
          · subst c; rw [if_pos rfl]; exact ⟨i1, hv⟩
          · rw [if_neg c, i4 q (by omega)]; exact hx q (by omega)
        have hFv : fo9 FF (v + 1) s = FF v s1 := by rw [← hs1]; rfl
        have j56 : ∀ E : DA, E.1 136 i = (v : Int) → X12_shapeOn_j56_12 113 (X12_shapeOn 113 F) i M E = some (.inl (wI E 136 i ((v : Int) + 1))) := fun E hE => by
          have hE' : E.1 (113 + 23) i = (v : Int) := hE
          unfold X12_shapeOn_j56_12
          rw [gd_pos (by omega), gd_pos (by omega), lt_pos, Int.toNat_natCast, hE']
        have head : X12_shapeOn_b12 113 (X12_shapeOn 113 F) i M D = if (stop && decide (0 < s1.2.1)) = true then some (.inr D) else X12_shapeOn_j39_12 113 (X12_shapeOn 113 F) i M D := by
          have i1' : D.1 (113 + 23) i = (v : Int) := i1
          unfold X12_shapeOn_b12
          rw [gd_pos (by omega), Int.toNat_natCast, i1', r1, gd_pos (by omega), if_neg (by omega), r52]
          cases stop
          · rw [if_neg (by decide), gd_pos (by decide), if_pos rfl]; rfl
          · rw [if_pos rfl, gd_pos (by decide), if_neg (by decide), i3', gd_pos (by omega)]
            by_cases c : 0 < s1.2.1
            · rw [if_pos (by omega), if_pos (by simp [c])]
            · rw [if_neg (by omega), if_neg (by simp [c])]
        by_cases c1 : (stop && decide (0 < s1.2.1)) = true
        · right
          rw [if_pos c1] at head
          refine ⟨D, head, i2, ?_, i4⟩
          have : fo9 FF r s = fo9 FF v s := by
            have := fo9_fix (F := FF) (s := s) (v := v) (fun u => by
              rw [hs1, ← hFF]
              exact if_pos c1) (r - v)
            rw [show v + (r - v) = r by omega] at this
            exact this
          rw [this, hs1]; exact i3
        · left
          rw [if_neg c1] at head
          have hm2 := hmay i (fu x i v) D (by omega) i2 hx'
          by_cases c2 : may i (fu x i v) = true
          · rw [if_pos c2] at hm2
            have hlt := hvr2 v hv
            obtain ⟨D', f1, f2, f3, f4⟩ := ih (i + 1) F (fu x i v) s1 D (m + v * r ^ n) (by omega) (by omega) (by omega) ⟨j1, j2⟩ i2 (fun q hq => hx' q (by omega)) i3
            refine ⟨wI D' 136 i ((v : Int) + 1), ?_, by rw [wI_at, fu_s]; rfl, f2.x, ?_, fun q hq => ?_⟩
            · rw [head]
              unfold X12_shapeOn_j39_12
              rw [b1_pos hm2, gd_pos (by omega), if_neg (by decide)]
              have f1' : X12_shapeOn 113 F ((i : Int) + 1) M D = some ((), D') := f1
              rw [bd_pos f1', j56 D' (by rw [f4 i (by omega)]; exact i1)]
            · rw [hFv, ← hFF]
              show RA9 M _ (if (stop && decide (0 < s1.2.1)) = true then s1 else if may i (fu x i v) = true then sp9 r stop may S H n (i + 1) (fu x i v) s1 else s1)
              rw [if_neg c1, if_pos c2]
              exact f3.x
            · rw [wI_at, fu_n (by omega), f4 q (by omega), i4 q hq]
          · rw [if_neg c2] at hm2
            refine ⟨wI D 136 i ((v : Int) + 1), ?_, by rw [wI_at, fu_s]; rfl, i2.x, ?_, fun q hq => ?_⟩
            · rw [head]
              unfold X12_shapeOn_j39_12
              rw [b1_pos hm2, gd_pos (by omega), if_pos rfl, j56 D i1]
            · rw [hFv, ← hFF]
              show RA9 M _ (if (stop && decide (0 < s1.2.1)) = true then s1 else if may i (fu x i v) = true then sp9 r stop may S H n (i + 1) (fu x i v) s1 else s1)
              rw [if_neg c1, if_neg c2]
              exact i3.x
            · rw [wI_at, fu_n (by omega), i4 q hq]
      · obtain ⟨i1, i2, i3, i4⟩ := hI
        have r1 : D.1 113 1 = r := by rw [i2.2 113 1 (by decide) (by decide) (Or.inr ⟨by decide, by decide⟩)]; exact hr
        have i1' : D.1 (113 + 23) i = (r : Int) := i1
        refine ⟨D, ?_, i2, i3, i4⟩
        show X12_shapeOn_b12 113 (X12_shapeOn 113 F) i M D = _
        unfold X12_shapeOn_b12
        rw [gd_pos (by omega), Int.toNat_natCast, i1', r1, gd_pos (by omega), if_pos (by omega)]
    obtain ⟨d', e1, e2⟩ := key
    refine ⟨d', e1, e2.1, ?_, e2.2.2⟩
    rw [sp9_s, hFF]; exact e2.2.1

/-! ===== partners, laws of tables ===== -/
/-- the partner found among the first j -/
def fo (N : Nat → Int) : Nat → Int
  | 0 => -1
  | j + 1 => if N j = 1 then (j : Int) else fo N j
theorem fo_s {N : Nat → Int} {j : Nat} : fo N (j + 1) = if N j = 1 then (j : Int) else fo N j := rfl
theorem fo_bd (N : Nat → Int) : ∀ j, -1 ≤ fo N j ∧ fo N j < (j : Int) := by
  intro j
  induction j with
  | zero => simp [fo]
  | succ j ih => unfold fo; split <;> omega
def ptn (N : Nat → Int) (r : Nat) : Int := (fs9 r (fun j => if 1 < N j ∨ (N j = 1 ∧ fo N j ≠ -1) then some (-1 : Int) else none)).elim (fo N r) id
theorem ptn_bd (N : Nat → Int) (r : Nat) : -1 ≤ ptn N r ∧ ptn N r < (r : Int) := by
  unfold ptn
  cases h : fs9 r (fun j => if 1 < N j ∨ (N j = 1 ∧ fo N j ≠ -1) then some (-1 : Int) else none) with
  | none => exact fo_bd N r
  | some x =>
    obtain ⟨i, h1, h2, -⟩ := (fs9_some r).mp h
    have : x = -1 := by
      split at h2
      · exact (Option.some.inj h2).symm
      · cases h2
    subst this
    exact ⟨Int.le_refl _, by show (-1 : Int) < (r : Int); omega⟩
theorem ptn_congr {N M : Nat → Int} {r : Nat} (h : ∀ j, j < r → N j = M j) : ptn N r = ptn M r := by
  have hf : ∀ j, j ≤ r → fo N j = fo M j := by
    intro j
    induction j with
    | zero => intro _; rfl
    | succ j ih => intro hj; unfold fo; rw [h j (by omega), ih (by omega)]
  unfold ptn
  rw [hf r (Nat.le_refl _), fs9_congr r (fun j hj => by rw [h j hj, hf j (by omega)])]
theorem x8_partner {d : DA} {o r i : Nat} (hr : d.1 o 0 = r) (h5 : r ≤ 5) (hn : Nb d o) (hi : i < 5) : X8_partner o i d = some (ptn (fun j => nn d o i j 0) r) := by
  unfold X8_partner
  rw [lt_pos]
  refine (lpR_for (fun j => (fo (fun j => nn d o i j 0) j, (j : Int))) r (fun j => if 1 < nn d o i j 0 ∨ (nn d o i j 0 = 1 ∧ fo (fun j => nn d o i j 0) j ≠ -1) then some (-1 : Int) else none) (fo (fun j => nn d o i j 0) r) rfl (by omega) (fun j hj _ => ?_) (fun _ => ?_)).trans ?_
  · unfold X8_partner_b4 X8_partner_j40_4
    have hb := hn.at (i := i) (j := j) (k := 0) hi (by omega) (by omega)
    have hf := fo_bd (fun j => nn d o i j 0) j
    have e : X8_at o i j 0 d = some (nn d o i j 0) := x8_at (k := 0) hi (by omega) (by omega)
    dsimp only
    rw [hr]
    rw [gd_pos (by omega)]; rw [if_neg (by omega)]
    rw [b1_pos e]
    rw [gd_pos (by omega)]
    rw [fo_s]
    by_cases c1 : 1 < nn d o i j 0
    · simp (disch := omega) only [gd_pos, if_pos, if_neg, lt_pos, reduceIte]; rfl
    · by_cases c2 : nn d o i j 0 = 1
      · by_cases c3 : fo (fun j => nn d o i j 0) j = -1
        · simp (disch := omega) only [gd_pos, if_pos, if_neg, lt_pos, reduceIte]; rfl
        · simp (disch := omega) only [gd_pos, if_pos, if_neg, lt_pos, reduceIte]; rfl
      · simp (disch := omega) only [gd_pos, if_pos, if_neg, lt_pos, reduceIte]; rfl
  · unfold X8_partner_b4
    dsimp only
    rw [hr]
    rw [gd_pos (by omega)]; rw [if_pos (by omega)]
  · unfold ptn
    cases fs9 r _ <;> rfl
theorem x12_partner {d : DA} {o r i : Nat} (hr : d.1 o 1 = r) (h5 : r ≤ 5) (hn : Nb d o) (hi : i < 5) : X12_partner o i d = some (ptn (fun j => nn d o i j 0) r) := by
  unfold X12_partner
  rw [lt_pos]
  refine (lpR_for (fun j => (fo (fun j => nn d o i j 0) j, (j : Int))) r (fun j => if 1 < nn d o i j 0 ∨ (nn d o i j 0 = 1 ∧ fo (fun j => nn d o i j 0) j ≠ -1) then some (-1 : Int) else none) (fo (fun j => nn d o i j 0) r) rfl (by omega) (fun j hj _ => ?_) (fun _ => ?_)).trans ?_
  · unfold X12_partner_b4
    have hb := hn.at (i := i) (j := j) (k := 0) hi (by omega) (by omega)
    have hf := fo_bd (fun j => nn d o i j 0) j
    have e : X12_of o i j 0 d = some (nn d o i j 0) := x12_of (k := 0) hi (by omega) (by omega)
    dsimp only
    rw [hr]
    rw [gd_pos (by omega)]; rw [if_neg (by omega)]
    rw [b1_pos e]
    rw [gd_pos (by omega)]
    rw [fo_s]
    by_cases c0 : nn d o i j 0 = 0
    · rw [if_pos c0, if_neg (by omega), if_neg (by omega)]; rfl
    · rw [if_neg c0, b1_pos e]
      rw [gd_pos (by omega)]
      by_cases c1 : 1 < nn d o i j 0
      · rw [if_pos c1, if_pos (Or.inl c1)]; rfl
      · rw [if_neg c1]
        rw [gd_pos (by omega)]
        have c2 : nn d o i j 0 = 1 := by omega
        by_cases c3 : fo (fun j => nn d o i j 0) j = -1
        · rw [if_pos c3, if_neg (by omega), if_pos c2]; rfl
        · rw [if_neg c3, if_pos (Or.inr ⟨c2, c3⟩)]; rfl
  · unfold X12_partner_b4
    dsimp only
    rw [hr]
    rw [gd_pos (by omega)]; rw [if_pos (by omega)]
  · unfold ptn
    cases fs9 r _ <;> rfl
/-- kind i has no dual -/
def noD (d : DA) (o r i : Nat) : Bool := ptn (fun j => nn d o i j 0) r = -1 ∨ ptn (fun j => nn d o (ptn (fun j => nn d o i j 0) r).toNat j 0) r ≠ i
def fwd (d : DA) (o r : Nat) : Option Nat := fs9 r fun i => if noD d o r i then some i else none
def duD (d : DA) (o r i : Nat) : DA := wA d (o + 2) (fun q => if q < i then ptn (fun j => nn d o q j 0) r else d.1 (o + 2) q)
theorem wA_same {d : DA} {c : Nat} : wA d c (d.1 c) = d := by
  unfold wA
  refine Prod.ext (funext fun q => ?_) rfl
  show fu d.1 c (d.1 c) q = d.1 q
  by_cases h : q = c
  · subst h; exact fu_s
  · exact fu_n h
theorem wA_wI {d : DA} {c k : Nat} {f : Nat → Int} {v : Int} : wI (wA d c f) c k v = wA d c (fu f k v) := by
  unfold wI wA
  refine Prod.ext (funext fun q => ?_) rfl
  show fu (fu d.1 c f) c (fu (fu d.1 c f c) k v) q = fu d.1 c (fu f k v) q
  by_cases h : q = c
  · subst h; rw [fu_s, fu_s, fu_s]
  · rw [fu_n h, fu_n h, fu_n h]
theorem wA_at {d : DA} {c : Nat} {f : Nat → Int} : (wA d c f).1 c = f := fu_s
theorem wA_ne {d : DA} {c q : Nat} {f : Nat → Int} (h : q ≠ c) : (wA d c f).1 q = d.1 q := fu_n h
theorem x8_fwd {d : DA} {o r : Nat} (hr : d.1 o 0 = r) (h5 : r ≤ 5) (hn : Nb d o) : X8_firstWithoutDual o d = (fwd d o r).elim (some (-1, duD d o r r)) (fun i => some ((i : Int), duD d o r i)) := by
  unfold X8_firstWithoutDual
  have hr' : ∀ i, (duD d o r i).1 o 0 = r := fun i => by unfold duD; rw [wA_ne (by omega), hr]
  have hn' : ∀ i, Nb (duD d o r i) o := fun i j hj => by unfold duD; rw [wA_ne (by omega)]; exact hn j hj
  have hN : ∀ i q j, nn (duD d o r i) o q j 0 = nn d o q j 0 := fun i q j => by unfold nn duD; rw [wA_ne (by omega)]
  refine (lpR_for (fun i => ((i : Int), duD d o r i)) r (fun i => if noD d o r i then some ((i : Int), duD d o r i) else none) (duD d o r r) ?_ (by omega) (fun i hi _ => ?_) (fun _ => ?_)).trans ?_
  · have : duD d o r 0 = d := by unfold duD; simp [wA_same]
    rw [this]; rfl
  · unfold X8_firstWithoutDual_b2
    have hp := ptn_bd (fun j => nn d o i j 0) r
    dsimp only
    rw [hr' i]
    rw [gd_pos (by omega)]; rw [if_neg (by omega)]
    have e1 := x8_partner (d := duD d o r i) (hr' i) h5 (hn' i) (i := i) (by omega)
    simp only [hN] at e1
    rw [b1_pos e1]
    rw [gd_pos (by omega)]
    by_cases c1 : ptn (fun j => nn d o i j 0) r = -1
    · rw [if_pos c1, if_pos (by unfold noD; simp [c1])]; rfl
    · rw [if_neg c1]
      have e2 := x8_partner (d := duD d o r i) (hr' i) h5 (hn' i) (i := (ptn (fun j => nn d o i j 0) r).toNat) (by omega)
      simp only [hN] at e2
      rw [show (((ptn (fun j => nn d o i j 0) r).toNat : Nat) : Int) = ptn (fun j => nn d o i j 0) r by omega] at e2
      have hp2 := ptn_bd (fun j => nn d o (ptn (fun j => nn d o i j 0) r).toNat j 0) r
      rw [b1_pos e2]
      rw [gd_pos (by omega)]
      by_cases c2 : ptn (fun j => nn d o (ptn (fun j => nn d o i j 0) r).toNat j 0) r = i
      · rw [if_pos c2, if_neg (by unfold noD; simp [c1, c2])]
        rw [gd_pos (by omega)]
        rw [lt_pos]
        have : wI (duD d o r i) (o + 2) (Int.toNat (i : Int)) (ptn (fun j => nn d o i j 0) r) = duD d o r (i + 1) := by
          unfold duD
          rw [wA_wI, Int.toNat_natCast]
          refine congrArg _ (funext fun q => ?_)
          rw [fu_app]
          by_cases h : q = i
          · subst h; rw [if_pos rfl, if_pos (by omega)]
          · rw [if_neg h]
            by_cases h2 : q < i
            · rw [if_pos h2, if_pos (by omega)]
            · rw [if_neg h2, if_neg (by omega)]
        rw [this]; rfl
      · rw [if_neg c2, if_pos (by unfold noD; simp [c2])]; rfl
  · unfold X8_firstWithoutDual_b2
    dsimp only
    rw [hr' r]
    rw [gd_pos (by omega)]; rw [if_pos (by omega)]
  · unfold fwd
    have : ∀ n, fs9 n (fun i => if noD d o r i then some ((i : Int), duD d o r i) else none) = (fs9 n (fun i => if noD d o r i then some i else none)).map (fun i : Nat => ((i : Int), duD d o r i)) := by
      intro n
      induction n with
      | zero => rfl
      | succ n ih =>
        unfold fs9
        rw [ih]
        cases fs9 n (fun i => if noD d o r i then some i else none) with
        | none => simp only [Option.map_none]; split <;> rfl
        | some z => rfl
    rw [this r]
    cases fs9 r (fun i => if noD d o r i then some i else none) <;> rfl
theorem x12_fwd {d : DA} {o r : Nat} (hr : d.1 o 1 = r) (h5 : r ≤ 5) (hn : Nb d o) : X12_firstWithoutDual o d = (fwd d o r).elim (some (-1)) (fun i => some (125 * (i : Int))) := by
  unfold X12_firstWithoutDual
  refine (lpR_cnt r (fun i => if noD d o r i then some (125 * (i : Int)) else none) (by omega) (fun i hi => ?_) ?_).trans ?_
  · unfold X12_firstWithoutDual_b2
    have hp := ptn_bd (fun j => nn d o i j 0) r
    rw [hr]
    rw [gd_pos (by omega)]; rw [if_neg (by omega)]
    have e1 := x12_partner (d := d) hr h5 hn (i := i) (by omega)
    rw [b1_pos e1]
    rw [gd_pos (by omega)]
    by_cases c1 : ptn (fun j => nn d o i j 0) r = -1
    · rw [if_pos c1, if_pos (by unfold noD; simp [c1])]; rfl
    · rw [if_neg c1, b1_pos e1]
      have e2 := x12_partner (d := d) hr h5 hn (i := (ptn (fun j => nn d o i j 0) r).toNat) (by omega)
      rw [show (((ptn (fun j => nn d o i j 0) r).toNat : Nat) : Int) = ptn (fun j => nn d o i j 0) r by omega] at e2
      have hp2 := ptn_bd (fun j => nn d o (ptn (fun j => nn d o i j 0) r).toNat j 0) r
      rw [b1_pos e2]
      rw [gd_pos (by omega)]
      by_cases c2 : ptn (fun j => nn d o (ptn (fun j => nn d o i j 0) r).toNat j 0) r = i
      · rw [if_pos c2, if_neg (by unfold noD; simp [c1, c2])]; rfl
      · rw [if_neg c2, if_pos (by unfold noD; simp [c2])]; rfl
  · unfold X12_firstWithoutDual_b2
    rw [hr]
    rw [gd_pos (by omega)]; rw [if_pos (by omega)]
  · unfold fwd
    have : ∀ n, fs9 n (fun i => if noD d o r i then some (125 * (i : Int)) else none) = (fs9 n (fun i => if noD d o r i then some i else none)).map (fun i : Nat => 125 * (i : Int)) := by
      intro n
      induction n with
      | zero => rfl
      | succ n ih =>
        unfold fs9
        rw [ih]
        cases fs9 n (fun i => if noD d o r i then some i else none) with
        | none => simp only [Option.map_none]; split <;> rfl
        | some z => rfl
    rw [this r]
    cases fs9 r (fun i => if noD d o r i then some i else none) <;> rfl

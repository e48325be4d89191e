/-! ===== laws of tables, both sides ===== -/
theorem mul_bd {a b A B : Int} (h1 : 0 ≤ a ∧ a ≤ A) (h2 : 0 ≤ b ∧ b ≤ B) : 0 ≤ a * b ∧ a * b ≤ A * B :=
  ⟨Int.mul_nonneg h1.1 h2.1, Int.mul_le_mul h1.2 h2.2 h2.1 (by omega)⟩
theorem sm_sub {f g : Nat → Int} : ∀ n, sm n (fun i => f i - g i) = sm n f - sm n g := by
  intro n
  induction n with
  | zero => rfl
  | succ n ih => simp only [sm, ih]; omega
theorem fs9_one {α : Type} {P : Nat → Option α} : fs9 1 P = P 0 := rfl
theorem x12_isFree {d : DA} {o : Nat} (hn : Nb d o) : X12_isFree o d = (fs9 125 (fun j => if d.1 (o + 1) j ≤ 1 then none else some (0 : Int))).elim (some 1) some := by
  unfold X12_isFree
  refine lpR_cnt 125 _ (by omega) (fun j hj => ?_) (by unfold X12_isFree_b2; simp (disch := omega) only [gd_pos, if_pos, if_neg, lt_pos, reduceIte])
  unfold X12_isFree_b2
  have := hn j hj
  simp (disch := omega) only [gd_pos, if_pos, if_neg, lt_pos, reduceIte, Int.toNat_natCast]
  by_cases c : d.1 (o + 1) j ≤ 1
  · simp (disch := omega) only [gd_pos, if_pos, if_neg, lt_pos, reduceIte]; rfl
  · simp (disch := omega) only [gd_pos, if_pos, if_neg, lt_pos, reduceIte]; rfl
/-- (i j) k and i (j k) have as many of l -/
def asL (d : DA) (o r i j k l : Nat) : Int := sm r fun e => nn d o i j e * nn d o e k l
def asR (d : DA) (o r i j k l : Nat) : Int := sm r fun e => nn d o j k e * nn d o i e l
theorem asL_bd {d : DA} {o r i j k l : Nat} (h5 : r ≤ 5) (hn : Nb d o) (hi : i < 5) (hj : j < 5) (hk : k < 5) (hl : l < 5) : 0 ≤ asL d o r i j k l ∧ asL d o r i j k l ≤ 405 := by
  have h := sm_bd (f := fun e => nn d o i j e * nn d o e k l) (lo := 0) (hi := 81) r (fun e he => mul_bd (hn.at hi hj (by omega)) (hn.at (by omega) hk hl))
  unfold asL
  omega
theorem asR_bd {d : DA} {o r i j k l : Nat} (h5 : r ≤ 5) (hn : Nb d o) (hi : i < 5) (hj : j < 5) (hk : k < 5) (hl : l < 5) : 0 ≤ asR d o r i j k l ∧ asR d o r i j k l ≤ 405 := by
  have h := sm_bd (f := fun e => nn d o j k e * nn d o i e l) (lo := 0) (hi := 81) r (fun e he => mul_bd (hn.at hj hk (by omega)) (hn.at hi (by omega) hl))
  unfold asR
  omega
theorem x8_isAss {d : DA} {o r i j k l : Nat} (hr : d.1 o 0 = r) (h5 : r ≤ 5) (hn : Nb d o) (hi : i < 5) (hj : j < 5) (hk : k < 5) (hl : l < 5) : X8_isAssociative o i j k l d = some (if asL d o r i j k l = asR d o r i j k l then 1 else 0) := by
  unfold X8_isAssociative
  refine (lpE_for (fun e => (sm e (fun e => nn d o i j e * nn d o e k l - nn d o j k e * nn d o i e l), (e : Int))) r (sm r (fun e => nn d o i j e * nn d o e k l - nn d o j k e * nn d o i e l)) rfl (by omega) (fun e he => ?_) ?_).trans ?_
  · unfold X8_isAssociative_b6
    dsimp only
    rw [hr]
    rw [gd_pos (by omega)]; rw [if_neg (by omega)]
    rw [b1_pos (x8_at hi hj (show e < 5 by omega)), b1_pos (x8_at (show e < 5 by omega) hk hl), b1_pos (x8_at hj hk (show e < 5 by omega)), b1_pos (x8_at hi (show e < 5 by omega) hl), lt_pos]
    rfl
  · unfold X8_isAssociative_b6
    dsimp only
    rw [hr]
    simp (disch := omega) only [gd_pos, if_pos, if_neg, lt_pos, reduceIte]
  · rw [sm_sub]
    show X8_isAssociative_j63 o (asL d o r i j k l - asR d o r i j k l) d = _
    have h1 := asL_bd (d := d) (o := o) (i := i) (j := j) (k := k) (l := l) h5 hn hi hj hk hl
    have h2 := asR_bd (d := d) (o := o) (i := i) (j := j) (k := k) (l := l) h5 hn hi hj hk hl
    unfold X8_isAssociative_j63
    by_cases c : asL d o r i j k l = asR d o r i j k l
    · simp (disch := omega) only [gd_pos, if_pos, if_neg, lt_pos, reduceIte]
    · simp (disch := omega) only [gd_pos, if_pos, if_neg, lt_pos, reduceIte]
theorem x12_isSum {d : DA} {o r i j k l : Nat} (hr : d.1 o 1 = r) (h5 : r ≤ 5) (hn : Nb d o) (hi : i < 5) (hj : j < 5) (hk : k < 5) (hl : l < 5) : X12_isSum o i j k l d = some (if asL d o r i j k l = asR d o r i j k l then 1 else 0) := by
  unfold X12_isSum
  refine (lpE_for (fun e => (sm e (fun e => nn d o i j e * nn d o e k l), sm e (fun e => nn d o j k e * nn d o i e l), (e : Int))) r (asL d o r i j k l, asR d o r i j k l) rfl (by omega) (fun e he => ?_) ?_).trans ?_
  · unfold X12_isSum_b9
    dsimp only
    rw [hr]
    rw [gd_pos (by omega)]; rw [if_neg (by omega)]
    rw [b1_pos (x12_of hi hj (show e < 5 by omega)), b1_pos (x12_of (show e < 5 by omega) hk hl), lt_pos, b1_pos (x12_of hj hk (show e < 5 by omega)), b1_pos (x12_of hi (show e < 5 by omega) hl), lt_pos]
    rfl
  · unfold X12_isSum_b9
    dsimp only
    rw [hr]
    simp (disch := omega) only [gd_pos, if_pos, if_neg, lt_pos, reduceIte]
    rfl
  · have h1 := asL_bd (d := d) (o := o) (i := i) (j := j) (k := k) (l := l) h5 hn hi hj hk hl
    have h2 := asR_bd (d := d) (o := o) (i := i) (j := j) (k := k) (l := l) h5 hn hi hj hk hl
    unfold X12_isSum_j70
    dsimp only
    by_cases c : asL d o r i j k l = asR d o r i j k l
    · simp (disch := omega) only [gd_pos, if_pos, if_neg, lt_pos, reduceIte]
    · simp (disch := omega) only [gd_pos, if_pos, if_neg, lt_pos, reduceIte]
def cd4 (i j k l : Nat) : Int := ((125 * (i : Int) + 25 * (j : Int)) + 5 * (k : Int)) + (l : Int)
def cd3 (i j k : Nat) : Int := (125 * (i : Int) + 25 * (j : Int)) + 5 * (k : Int)
def law1 (d : DA) (o r : Nat) : Option Int := fs9 r fun i => fs9 r fun j => fs9 r fun k => fs9 r fun l => if asL d o r i j k l = asR d o r i j k l then none else some (cd4 i j k l)
def law2 (d : DA) (o r : Nat) : Option Int := fs9 r fun i => fs9 r fun j => fs9 r fun k => if nn d o i j k = nn d o j i k then none else some (cd3 i j k)
def law3 (d : DA) (o r : Nat) : Option Int := fs9 r fun i => fs9 r fun j => fs9 r fun k => if nn d o i j k = nn d o (ptn (fun j => nn d o i j 0) r).toNat k j then none else some (cd3 i j k)
theorem x8_law1 {d : DA} {o r : Nat} (hr : d.1 o 0 = r) (h5 : r ≤ 5) (hn : Nb d o) : X8_firstNotAssociative o d = (law1 d o r).elim (some (-1)) some := by
  unfold X8_firstNotAssociative law1
  refine lpR_cnt r _ (by omega) (fun i hi => ?_) (by unfold X8_firstNotAssociative_b2; rw [hr]; simp (disch := omega) only [gd_pos, if_pos, if_neg, lt_pos, reduceIte])
  unfold X8_firstNotAssociative_b2
  rw [hr]
  simp (disch := omega) only [gd_pos, if_pos, if_neg, lt_pos, reduceIte]
  refine lpR_cnt r _ (by omega) (fun j hj => ?_) (by unfold X8_firstNotAssociative_b12; rw [hr]; simp (disch := omega) only [gd_pos, if_pos, if_neg, lt_pos, reduceIte])
  unfold X8_firstNotAssociative_b12
  rw [hr]
  simp (disch := omega) only [gd_pos, if_pos, if_neg, lt_pos, reduceIte]
  refine lpR_cnt r _ (by omega) (fun k hk => ?_) (by unfold X8_firstNotAssociative_b22; rw [hr]; simp (disch := omega) only [gd_pos, if_pos, if_neg, lt_pos, reduceIte])
  unfold X8_firstNotAssociative_b22
  rw [hr]
  simp (disch := omega) only [gd_pos, if_pos, if_neg, lt_pos, reduceIte]
  refine lpR_cnt r _ (by omega) (fun l hl => ?_) (by unfold X8_firstNotAssociative_b33; rw [hr]; simp (disch := omega) only [gd_pos, if_pos, if_neg, lt_pos, reduceIte])
  unfold X8_firstNotAssociative_b33
  rw [hr, b1_pos (x8_isAss hr h5 hn (by omega) (by omega) (by omega) (by omega))]
  by_cases c : asL d o r i j k l = asR d o r i j k l
  · rw [if_pos c, if_pos c]; simp (disch := omega) only [gd_pos, if_pos, if_neg, lt_pos, reduceIte]; rfl
  · rw [if_neg c, if_neg c]; simp (disch := omega) only [gd_pos, if_pos, if_neg, lt_pos, reduceIte]; rfl
theorem x8_law2 {d : DA} {o r : Nat} (hr : d.1 o 0 = r) (h5 : r ≤ 5) (hn : Nb d o) : X8_firstNotCommutative o d = (law2 d o r).elim (some (-1)) some := by
  unfold X8_firstNotCommutative law2
  refine lpR_cnt r _ (by omega) (fun i hi => ?_) (by unfold X8_firstNotCommutative_b2; rw [hr]; simp (disch := omega) only [gd_pos, if_pos, if_neg, lt_pos, reduceIte])
  unfold X8_firstNotCommutative_b2
  rw [hr]
  simp (disch := omega) only [gd_pos, if_pos, if_neg, lt_pos, reduceIte]
  refine lpR_cnt r _ (by omega) (fun j hj => ?_) (by unfold X8_firstNotCommutative_b12; rw [hr]; simp (disch := omega) only [gd_pos, if_pos, if_neg, lt_pos, reduceIte])
  unfold X8_firstNotCommutative_b12
  rw [hr]
  simp (disch := omega) only [gd_pos, if_pos, if_neg, lt_pos, reduceIte]
  refine lpR_cnt r _ (by omega) (fun k hk => ?_) (by unfold X8_firstNotCommutative_b22; rw [hr]; simp (disch := omega) only [gd_pos, if_pos, if_neg, lt_pos, reduceIte])
  unfold X8_firstNotCommutative_b22
  have h1 := hn.at (i := i) (j := j) (k := k) (by omega) (by omega) (by omega)
  have h2 := hn.at (i := j) (j := i) (k := k) (by omega) (by omega) (by omega)
  rw [hr, b1_pos (x8_at (d := d) (o := o) (i := i) (j := j) (k := k) (by omega) (by omega) (by omega)), b1_pos (x8_at (d := d) (o := o) (i := j) (j := i) (k := k) (by omega) (by omega) (by omega))]
  by_cases c : nn d o i j k = nn d o j i k
  · simp (disch := omega) only [gd_pos, if_pos, if_neg, lt_pos, reduceIte]; rfl
  · simp (disch := omega) only [gd_pos, if_pos, if_neg, lt_pos, reduceIte]; rfl
/-- both have the same partners -/
theorem ptn_ge {N : Nat → Int} {r : Nat} (h : ptn N r ≠ -1) : 0 ≤ ptn N r := by have := ptn_bd N r; omega
theorem fwd_none {d : DA} {o r i : Nat} (h : fwd d o r = none) (hi : i < r) : ptn (fun j => nn d o i j 0) r ≠ -1 := by
  have h1 := (fs9_none r).mp h i hi
  intro c
  rw [if_pos (by unfold noD; simp [c])] at h1
  cases h1
theorem x8_law3 {d : DA} {o r : Nat} (hr : d.1 o 0 = r) (h5 : r ≤ 5) (hn : Nb d o) : X8_firstNotTurnable o d = some ((fwd d o r).elim ((law3 d o r).elim (-1) id, duD d o r r) (fun i => (-1, duD d o r i))) := by
  unfold X8_firstNotTurnable
  have e := x8_fwd hr h5 hn
  cases hf : fwd d o r with
  | some i =>
    rw [hf] at e
    rw [bd_pos e]
    have := (fs9_some r).mp hf
    obtain ⟨q, h1, h2, -⟩ := this
    have hq : i = q := by
      split at h2
      · exact (Option.some.inj h2).symm
      · cases h2
    simp (disch := omega) only [gd_pos, if_pos, if_neg, lt_pos, reduceIte]
    rfl
  | none =>
    rw [hf] at e
    rw [bd_pos e]
    simp (disch := omega) only [gd_pos, if_pos, if_neg, lt_pos, reduceIte]
    have hr' : (duD d o r r).1 o 0 = r := by unfold duD; rw [wA_ne (by omega), hr]
    have hN : ∀ i j k, nn (duD d o r r) o i j k = nn d o i j k := fun i j k => by unfold nn duD; rw [wA_ne (by omega)]
    have key : lpR (fun q => X8_firstNotTurnable_b12 o q (duD d o r r)) 0 (fun _ => some (-1, duD d o r r)) (fun r => some r) = ((fs9 r fun i => fs9 r fun j => fs9 r fun k => if nn d o i j k = nn d o (ptn (fun j => nn d o i j 0) r).toNat k j then none else some (cd3 i j k, duD d o r r)) : Option (Int × DA)).elim (some (-1, duD d o r r)) some := by
      refine lpR_cnt r _ (by omega) (fun i hi => ?_) (by unfold X8_firstNotTurnable_b12; rw [hr']; simp (disch := omega) only [gd_pos, if_pos, if_neg, lt_pos, reduceIte])
      unfold X8_firstNotTurnable_b12
      rw [hr']
      simp (disch := omega) only [gd_pos, if_pos, if_neg, lt_pos, reduceIte]
      refine lpR_cnt r _ (by omega) (fun j hj => ?_) (by unfold X8_firstNotTurnable_b22; rw [hr']; simp (disch := omega) only [gd_pos, if_pos, if_neg, lt_pos, reduceIte])
      unfold X8_firstNotTurnable_b22
      rw [hr']
      simp (disch := omega) only [gd_pos, if_pos, if_neg, lt_pos, reduceIte]
      refine lpR_cnt r _ (by omega) (fun k hk => ?_) (by unfold X8_firstNotTurnable_b32; rw [hr']; simp (disch := omega) only [gd_pos, if_pos, if_neg, lt_pos, reduceIte])
      unfold X8_firstNotTurnable_b32
      have hp := ptn_ge (fwd_none hf hi)
      have hp2 := ptn_bd (fun j => nn d o i j 0) r
      have hd : (duD d o r r).1 (o + 2) (Int.toNat (i : Int)) = ((ptn (fun j => nn d o i j 0) r).toNat : Int) := by
        unfold duD
        rw [wA_at, Int.toNat_natCast, if_pos hi]
        omega
      have h1 := hn.at (i := i) (j := j) (k := k) (by omega) (by omega) (by omega)
      have h2 := hn.at (i := (ptn (fun j => nn d o i j 0) r).toNat) (j := k) (k := j) (by omega) (by omega) (by omega)
      rw [hr', hd, b1_pos (x8_at (d := duD d o r r) (o := o) (i := i) (j := j) (k := k) (by omega) (by omega) (by omega)), b1_pos (x8_at (d := duD d o r r) (o := o) (i := (ptn (fun j => nn d o i j 0) r).toNat) (j := k) (k := j) (by omega) (by omega) (by omega)), hN, hN]
      by_cases c : nn d o i j k = nn d o (ptn (fun j => nn d o i j 0) r).toNat k j
      · simp (disch := omega) only [gd_pos, if_pos, if_neg, lt_pos, reduceIte]; rfl
      · simp (disch := omega) only [gd_pos, if_pos, if_neg, lt_pos, reduceIte]; rfl
    rw [key]
    have m3 : ∀ n (Q : Nat → Option Int), fs9 n (fun i => (Q i).map (fun z => (z, duD d o r r))) = (fs9 n Q).map (fun z => (z, duD d o r r)) := by
      intro n Q
      induction n with
      | zero => rfl
      | succ n ih =>
        unfold fs9
        rw [ih]
        cases fs9 n Q <;> rfl
    have m4 : (fs9 r fun i => fs9 r fun j => fs9 r fun k => if nn d o i j k = nn d o (ptn (fun j => nn d o i j 0) r).toNat k j then none else some (cd3 i j k, duD d o r r)) = (law3 d o r).map (fun z => (z, duD d o r r)) := by
      unfold law3
      rw [← m3]
      refine fs9_congr r (fun i hi => ?_)
      rw [← m3]
      refine fs9_congr r (fun j hj => ?_)
      rw [← m3]
      refine fs9_congr r (fun k hk => ?_)
      split <;> rfl
    rw [m4]
    cases law3 d o r <;> rfl
theorem x12_keeps {d : DA} {o r i j k : Nat} (hr : d.1 o 1 = r) (h5 : r ≤ 5) (hn : Nb d o) (hi : i < r) (hj : j < r) (hk : k < r) (v : Int) (hv : v = 2 ∨ (v = 3 ∧ fwd d o r = none)) : X12_keeps o v i j k d = some (if (if v = 2 then nn d o i j k = nn d o j i k else nn d o i j k = nn d o (ptn (fun j => nn d o i j 0) r).toNat k j) then 1 else 0) := by
  unfold X12_keeps
  have h1 := hn.at (i := i) (j := j) (k := k) (by omega) (by omega) (by omega)
  have h2 := hn.at (i := j) (j := i) (k := k) (by omega) (by omega) (by omega)
  rcases hv with rfl | ⟨rfl, hf⟩
  · rw [b1_pos (x12_of (d := d) (o := o) (i := i) (j := j) (k := k) (by omega) (by omega) (by omega)), b1_pos (x12_of (d := d) (o := o) (i := j) (j := i) (k := k) (by omega) (by omega) (by omega))]
    by_cases c : nn d o i j k = nn d o j i k
    · simp (disch := omega) only [gd_pos, if_pos, if_neg, lt_pos, reduceIte]
    · simp (disch := omega) only [gd_pos, if_pos, if_neg, lt_pos, reduceIte]
  · have hp := ptn_ge (fwd_none hf hi)
    have hp2 := ptn_bd (fun j => nn d o i j 0) r
    have h3 := hn.at (i := (ptn (fun j => nn d o i j 0) r).toNat) (j := k) (k := j) (by omega) (by omega) (by omega)
    have e3 := x12_of (d := d) (o := o) (i := (ptn (fun j => nn d o i j 0) r).toNat) (j := k) (k := j) (by omega) (by omega) (by omega)
    rw [show (((ptn (fun j => nn d o i j 0) r).toNat : Nat) : Int) = ptn (fun j => nn d o i j 0) r by omega] at e3
    rw [gd_pos (by omega), if_neg (by omega), b1_pos (x12_of (d := d) (o := o) (i := i) (j := j) (k := k) (by omega) (by omega) (by omega)), b1_pos (x12_partner hr h5 hn (show i < 5 by omega)), b1_pos e3]
    by_cases c : nn d o i j k = nn d o (ptn (fun j => nn d o i j 0) r).toNat k j
    · simp (disch := omega) only [gd_pos, if_pos, if_neg, lt_pos, reduceIte]
    · simp (disch := omega) only [gd_pos, if_pos, if_neg, lt_pos, reduceIte]
theorem x12_broken {d : DA} {o r : Nat} (hr : d.1 o 1 = r) (h5 : r ≤ 5) (hn : Nb d o) (v : Int) (hv : v = 1 ∨ v = 2 ∨ (v = 3 ∧ fwd d o r = none)) : X12_firstBroken_j30 o v d = (if v = 1 then law1 d o r else if v = 2 then law2 d o r else law3 d o r).elim (some (-1)) some := by
  unfold X12_firstBroken_j30
  have hP : (if v = 1 then law1 d o r else if v = 2 then law2 d o r else law3 d o r) = fs9 r fun i => fs9 r fun j => fs9 r fun k => if v = 1 then (fs9 r fun l => if asL d o r i j k l = asR d o r i j k l then none else some (cd4 i j k l)) else fs9 1 fun l => if (if v = 2 then nn d o i j k = nn d o j i k else nn d o i j k = nn d o (ptn (fun j => nn d o i j 0) r).toNat k j) then none else some (cd4 i j k l) := by
    have e0 : ∀ i j k, cd4 i j k 0 = cd3 i j k := fun i j k => by unfold cd4 cd3; omega
    rcases hv with rfl | rfl | ⟨rfl, -⟩
    · rfl
    · simp only [fs9_one, e0]; rfl
    · simp only [fs9_one, e0]; rfl
  rw [hP]
  refine lpR_cnt r _ (by omega) (fun i hi => ?_) (by unfold X12_firstBroken_b32; rw [hr]; simp (disch := omega) only [gd_pos, if_pos, if_neg, lt_pos, reduceIte])
  unfold X12_firstBroken_b32
  rw [hr]
  simp (disch := omega) only [gd_pos, if_pos, if_neg, lt_pos, reduceIte]
  refine lpR_cnt r _ (by omega) (fun j hj => ?_) (by unfold X12_firstBroken_b42; rw [hr]; simp (disch := omega) only [gd_pos, if_pos, if_neg, lt_pos, reduceIte])
  unfold X12_firstBroken_b42
  rw [hr]
  simp (disch := omega) only [gd_pos, if_pos, if_neg, lt_pos, reduceIte]
  refine lpR_cnt r _ (by omega) (fun k hk => ?_) (by unfold X12_firstBroken_b53; rw [hr]; simp (disch := omega) only [gd_pos, if_pos, if_neg, lt_pos, reduceIte])
  unfold X12_firstBroken_b53
  rw [hr]
  simp (disch := omega) only [gd_pos, if_pos, if_neg, lt_pos, reduceIte]
  by_cases c1 : v = 1
  · subst c1
    rw [if_pos rfl]
    refine lpR_cnt r _ (by omega) (fun l hl => ?_) (by unfold X12_firstBroken_b65 X12_firstBroken_j80_65; rw [hr]; simp (disch := omega) only [gd_pos, if_pos, if_neg, lt_pos, reduceIte])
    unfold X12_firstBroken_b65 X12_firstBroken_j80_65 X12_firstBroken_j116_65
    rw [hr, b1_pos (x12_isSum hr h5 hn (by omega) (by omega) (by omega) (by omega))]
    by_cases c : asL d o r i j k l = asR d o r i j k l
    · rw [if_pos c, if_pos c]; simp (disch := omega) only [gd_pos, if_pos, if_neg, lt_pos, reduceIte]; rfl
    · rw [if_neg c, if_neg c]; simp (disch := omega) only [gd_pos, if_pos, if_neg, lt_pos, reduceIte]; rfl
  · rw [if_neg c1]
    refine lpR_cnt 1 _ (by omega) (fun l hl => ?_) (by unfold X12_firstBroken_b65 X12_firstBroken_j80_65; simp (disch := omega) only [gd_pos, if_pos, if_neg, lt_pos, reduceIte])
    unfold X12_firstBroken_b65 X12_firstBroken_j80_65 X12_firstBroken_j116_65
    rw [hr, b1_pos (x12_keeps hr h5 hn hi hj hk v (by rcases hv with h | h | h; exact absurd h c1; exact Or.inl h; exact Or.inr h))]
    by_cases c : (if v = 2 then nn d o i j k = nn d o j i k else nn d o i j k = nn d o (ptn (fun j => nn d o i j 0) r).toNat k j)
    · rw [if_pos c, if_pos c]; simp (disch := omega) only [gd_pos, if_pos, if_neg, lt_pos, reduceIte]; rfl
    · rw [if_neg c, if_neg c]; simp (disch := omega) only [gd_pos, if_pos, if_neg, lt_pos, reduceIte]; rfl

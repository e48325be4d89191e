/-! ===== turns: what must hold of the last turn ===== -/
theorem fo_1 {N : Nat → Int} {j : Nat} : ∀ m, fo N m = (j : Int) → N j = 1 := by
  intro m
  induction m with
  | zero => intro h; have : (-1 : Int) = j := h; omega
  | succ m ih =>
    intro h
    rw [fo_s] at h
    by_cases c : N m = 1
    · rw [if_pos c] at h
      have : m = j := by omega
      rw [← this]; exact c
    · rw [if_neg c] at h; exact ih h
theorem ptn_1 {N : Nat → Int} {r j : Nat} (h : ptn N r = (j : Int)) : N j = 1 := by
  unfold ptn at h
  cases hf : fs9 r (fun j => if 1 < N j ∨ (N j = 1 ∧ fo N j ≠ -1) then some (-1 : Int) else none) with
  | none => rw [hf] at h; exact fo_1 r h
  | some x =>
    rw [hf] at h
    obtain ⟨i, h1, h2, -⟩ := (fs9_some r).mp hf
    have : x = -1 := by
      split at h2
      · exact (Option.some.inj h2).symm
      · cases h2
    have h' : x = (j : Int) := h
    omega
theorem du_0 {n : Nat → Int} {r : Nat} {du : Nat → Nat} (hT : TG n r) (hdu : ∀ i, i < r → ptn (fun j => n (ti i j 0)) r = (du i : Nat) ∧ du i < r) : du 0 = 0 := by
  have h1 := hT.1.1
  have h := hdu 0 (by omega)
  have := ptn_1 h.1
  rw [hT.2.2.2.1 (du 0) 0 h.2 (by omega)] at this
  by_cases c : du 0 = 0
  · exact c
  · rw [if_neg c] at this; omega
section
variable {n c t : Nat → Int} {r p : Nat} {iv : Int → Int}
theorem iv_1 (hp : 2 ≤ p) (hiv : IvG p iv) : iv 1 = 1 := (iv_u hiv (v := 1) (x := 1) (by decide) (by omega) (by omega) (by show cgm p (1 * 1) 1; exact cgm.rf _)).symm
theorem iv_cg (hiv : IvG p iv) {v : Int} (h1 : 1 ≤ v) (h2 : v < p) : cgm p (v * iv v) 1 := (hiv v h1 h2).2
/-- S(0, l) is d(l) -/
theorem s0_c (hT : TG n r) (hp : 2 ≤ p) (hiv : IvG p iv) (hb : Cb p r c) (tb : Tb p r t) (t0 : t 0 = 1) {l : Nat} (hl : l < r) : sS9 n r p iv c t 0 l = c l := by
  have h1 := hT.1.1
  have e : (sm r fun k => n (ti 0 l k) * wt9 p c t k) = wt9 p c t l := by
    have := sm1 (f := fun k => n (ti 0 l k) * wt9 p c t k) r hl (fun k hk hkl => by
      show n (ti 0 l k) * _ = 0
      rw [hT.2.2.2.1 l k hl hk, if_neg (fun e => hkl e.symm), Int.zero_mul])
    rw [this]
    show n (ti 0 l l) * _ = _
    rw [hT.2.2.2.1 l l hl hl, if_pos rfl, Int.one_mul]
  have z : cgm p (sS9 n r p iv c t 0 l) (c l) := by
    unfold sS9
    rw [e, t0, iv_1 hp hiv, Int.one_mul]
    refine (cgm.em _).tr ?_
    have z1 : cgm p (wt9 p c t l % (p : Int) * iv (t l)) (t l * c l * iv (t l)) := ((cgm.em _).tr (cgm.em _)).mul (cgm.rf _)
    refine z1.tr ?_
    rw [show t l * c l * iv (t l) = c l * (t l * iv (t l)) by rw [Int.mul_comm (t l) (c l), Int.mul_assoc]]
    have := (cgm.rf (p := p) (c l)).mul (iv_cg hiv (tb l hl).1 (tb l hl).2)
    rw [Int.mul_one] at this
    exact this
  exact z.eq (sS9_b (r := r) (by omega) 0 l (by omega) hl) (hb l hl)
/-- what S by S tells at 0 and 1, by the turn of 1 -/
def Wq9 (n c t : Nat → Int) (iv : Int → Int) (r : Nat) : Int := sm r fun l => c l * iv (t l) * sm r fun k => n (ti l 1 k) * (t k * c k)
theorem ss01 (hT : TG n r) (hp : 2 ≤ p) (hiv : IvG p iv) (hb : Cb p r c) (tb : Tb p r t) (t0 : t 0 = 1) (h2 : 2 ≤ r) : cgm p (mm9 p r (sS9 n r p iv c t) (sS9 n r p iv c t) 0 1 * t 1) (Wq9 n c t iv r) := by
  have e1 : cgm p (mm9 p r (sS9 n r p iv c t) (sS9 n r p iv c t) 0 1 * t 1) ((sm r fun l => sS9 n r p iv c t 0 l * sS9 n r p iv c t l 1) * t 1) := mm_cg.mul (cgm.rf _)
  refine e1.tr ?_
  rw [← smR]
  unfold Wq9
  refine cgm.sm9 r (fun l hl => ?_)
  rw [s0_c hT hp hiv hb tb t0 hl, Int.mul_assoc, Int.mul_assoc]
  refine (cgm.rf _).mul ?_
  unfold sS9
  have z1 : cgm p (((sm r fun k => n (ti l 1 k) * wt9 p c t k) % (p : Int) * (iv (t l) * iv (t 1))) % (p : Int) * t 1) ((sm r fun k => n (ti l 1 k) * (t k * c k)) * (iv (t l) * iv (t 1)) * t 1) := by
    refine ((cgm.em _).tr (((cgm.em _).tr (cgm.sm9 r (fun k _ => ?_))).mul (cgm.rf _))).mul (cgm.rf _)
    exact (cgm.rf _).mul (cgm.em _)
  refine z1.tr ?_
  rw [show (sm r fun k => n (ti l 1 k) * (t k * c k)) * (iv (t l) * iv (t 1)) * t 1 = (iv (t l) * sm r fun k => n (ti l 1 k) * (t k * c k)) * (t 1 * iv (t 1)) by
    rw [Int.mul_comm (iv (t l)) (sm r _), Int.mul_assoc, Int.mul_assoc, Int.mul_assoc, Int.mul_comm (iv (t 1)) (t 1)]]
  have := (cgm.rf (p := p) (iv (t l) * sm r fun k => n (ti l 1 k) * (t k * c k))).mul (iv_cg hiv (tb 1 (by omega)).1 (tb 1 (by omega)).2)
  rw [Int.mul_one] at this
  exact this
/-- where all hold, what S by S tells at 0 and 1 is 0 -/
theorem Tn9.w0 {du : Nat → Nat} (hT : TG n r) (hp : 2 ≤ p) (hiv : IvG p iv) (hb : Cb p r c) (tb : Tb p r t) (t0 : t 0 = 1) (h2 : 2 ≤ r) (hdu : ∀ i, i < r → ptn (fun j => n (ti i j 0)) r = (du i : Nat) ∧ du i < r) (h : Tn9 n r p iv du c t) : cgm p (Wq9 n c t iv r) 0 := by
  have z := h.2.1 0 1 (by omega) (by omega)
  rw [du_0 hT hdu, if_neg (by decide)] at z
  have := ss01 hT hp hiv hb tb t0 h2
  rw [z, Int.zero_mul] at this
  exact this.sy
/-- where all hold, no d is 0, and D isn't -/
theorem Tn9.can {du : Nat → Nat} (hT : TG n r) (hp : 2 ≤ p) (hiv : IvG p iv) (hb : Cb p r c) (tb : Tb p r t) (t0 : t 0 = 1) (hdu : ∀ i, i < r → ptn (fun j => n (ti i j 0)) r = (du i : Nat) ∧ du i < r) (h : Tn9 n r p iv du c t) : (∀ l, l < r → c l ≠ 0) ∧ Dq9 p r c ≠ 0 := by
  have h1 := hT.1.1
  obtain ⟨a1, a2, a3, a4⟩ := h
  have bS := sS9_b (n := n) (r := r) (iv := iv) (c := c) (t := t) (show 0 < p by omega)
  refine ⟨fun l hl z => a4.1 l hl (by rw [s0_c hT hp hiv hb tb t0 hl]; exact z), fun z => ?_⟩
  -- S by S is 0: so is S, so is the unit
  have s0 : ∀ i j, i < r → j < r → cgm p (sm r fun k => sS9 n r p iv c t i k * sS9 n r p iv c t k j) 0 := fun i j hi hj => by
    have z2 := a2 i j hi hj
    rw [z, ite_self] at z2
    have z3 := (mm_cg (p := p) (m := r) (i := i) (j := j) (A := sS9 n r p iv c t) (B := sS9 n r p iv c t)).sy
    rw [z2] at z3
    exact z3
  have s1 : ∀ i, i < r → cgm p (sS9 n r p iv c t i 0) 0 := g_ker hp hiv bS a1 (v := fun k => sS9 n r p iv c t k 0) (fun i hi => s0 i 0 hi (by omega))
  have s2 := g_ker hp hiv bS a1 (v := fun k => if k = 0 then (1 : Int) else 0) (fun i hi => by
    have : (sm r fun k => sS9 n r p iv c t i k * (if k = 0 then (1 : Int) else 0)) = sS9 n r p iv c t i 0 := by
      have := sm1 (f := fun k => sS9 n r p iv c t i k * (if k = 0 then (1 : Int) else 0)) (j := 0) r (by omega) (fun k hk h0 => by
        show _ * (if k = 0 then (1 : Int) else 0) = 0
        rw [if_neg h0, Int.mul_zero])
      rw [this]
      show _ * (if (0 : Nat) = 0 then (1 : Int) else 0) = _
      rw [if_pos rfl, Int.mul_one]
    rw [this]
    exact s1 i hi) 0 (by omega)
  exact one_nz hp s2
/-- a table of one kind: its one row of turns holds -/
theorem Tn9.one {du : Nat → Nat} (hT : TG n 1) (hp : 2 ≤ p) (hiv : IvG p iv) (c0 : c 0 = 1) (t0 : t 0 = 1) (hdu : ∀ i, i < 1 → ptn (fun j => n (ti i j 0)) 1 = (du i : Nat) ∧ du i < 1) : Tn9 n 1 p iv du c t := by
  have d0 : du 0 = 0 := by have := (hdu 0 (by decide)).2; omega
  have tb : Tb p 1 t := fun k hk => by
    have : k = 0 := by omega
    rw [this, t0]; omega
  have hb : Cb p 1 c := fun k hk => by
    have : k = 0 := by omega
    rw [this, c0]; omega
  have s00 : sS9 n 1 p iv c t 0 0 = 1 := by rw [s0_c hT hp hiv hb tb t0 (by decide)]; exact c0
  have one : (1 : Int) % (p : Int) = 1 := Int.emod_eq_of_lt (by decide) (by omega)
  have bS := sS9_b (n := n) (r := 1) (iv := iv) (c := c) (t := t) (show 0 < p by omega)
  have D1 : Dq9 p 1 c = 1 := by
    show (0 + c 0 * c 0) % (p : Int) = 1
    rw [c0]; exact one
  have w1 : wt9 p c t 0 = 1 := by
    show (t 0 * c 0) % (p : Int) = 1
    rw [c0, t0]; exact one
  have P1 : Pq9 p 1 c t = 1 := by
    show (0 + wt9 p c t 0 * c 0) % (p : Int) = 1
    rw [c0, w1]; exact one
  have m1 : ∀ A B : Mx, A 0 0 = 1 → B 0 0 = 1 → mm9 p 1 A B 0 0 = 1 := fun A B a b => by
    show (0 + A 0 0 * B 0 0) % (p : Int) = 1
    rw [a, b]; exact one
  have mSS := m1 _ _ s00 s00
  have st1 : st9m p (sS9 n 1 p iv c t) t 0 0 = 1 := by
    show (sS9 n 1 p iv c t 0 0 * t 0) % (p : Int) = 1
    rw [s00, t0]; exact one
  refine ⟨?_, fun i j hi hj => ?_, fun i j hi hj => ?_, fun l hl => ?_, fun i j k hi hj hk => ?_⟩
  · cases hg : (gRun p 1 iv 1 0 (sS9 n 1 p iv c t, id9)).1 with
    | true => rfl
    | false =>
      exfalso
      obtain ⟨v, ⟨k, hk, hv⟩, hz⟩ := (g_run0 hp hiv bS).2.1 hg
      have : k = 0 := by omega
      subst this
      have := hz 0 (by decide)
      have e : (sm 1 fun k => sS9 n 1 p iv c t 0 k * v k) = v 0 := by
        show 0 + sS9 n 1 p iv c t 0 0 * v 0 = v 0
        rw [s00]; omega
      rw [e] at this
      exact hv this
  · have : i = 0 := by omega
    subst this
    have : j = 0 := by omega
    subst this
    rw [d0, if_pos rfl, mSS, D1]
  · have : i = 0 := by omega
    subst this
    have : j = 0 := by omega
    subst this
    rw [P1, mSS, m1 _ _ (m1 _ _ st1 st1) st1]
    exact one.symm
  · have : l = 0 := by omega
    subst this
    rw [s00]; decide
  · have : i = 0 := by omega
    subst this
    have : j = 0 := by omega
    subst this
    have : k = 0 := by omega
    subst this
    rw [d0, D1, hT.2.2.2.1 0 0 (by decide) (by decide), if_pos rfl]
    have : wn9 p 1 iv (sS9 n 1 p iv c t) 0 0 0 = 1 := by
      show 0 + sS9 n 1 p iv c t 0 0 * sS9 n 1 p iv c t 0 0 * sS9 n 1 p iv c t 0 0 * iv (sS9 n 1 p iv c t 0 0) = 1
      rw [s00, iv_1 hp hiv]; rfl
    rw [this]
    exact cgm.rf _
end

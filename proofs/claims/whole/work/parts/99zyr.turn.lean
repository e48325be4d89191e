/-! ===== turns: the last turn, tried ===== -/
def tlP (n c τ : Nat → Int) (p l : Nat) (iv : Int → Int) (i k : Nat) : Int := (n (ti i 1 k) * ((c i * iv (τ i)) % (p : Int)) * τ k * c k) % (p : Int)
def tlB (n c τ : Nat → Int) (p l : Nat) (iv : Int → Int) (i : Nat) : Int := n (ti i 1 l) * ((c i * iv (τ i)) % (p : Int)) * c l
def tlD (n c τ : Nat → Int) (l i : Nat) : Int := n (ti l 1 i) * c l * τ i * c i
theorem tl_cg {n c τ t : Nat → Int} {p l : Nat} {iv : Int → Int} {x : Int} (hiv : IvG p iv) (hx : 1 ≤ x ∧ x < p) (ht : ∀ j, j < l → t j = τ j) (hl : t l = x) : cgm p (Wq9 n c t iv (l + 1)) ((n (ti l 1 l) * c l * c l + sm l fun i => sm l fun k => tlP n c τ p l iv i k) + (sm l fun i => tlB n c τ p l iv i) * x + (sm l fun i => tlD n c τ l i) * iv x) := by
  have row : ∀ i, i < l → cgm p (c i * iv (t i) * sm (l + 1) fun k => n (ti i 1 k) * (t k * c k)) ((sm l fun k => tlP n c τ p l iv i k) + tlB n c τ p l iv i * x) := fun i hi => by
    have e : (sm (l + 1) fun k => n (ti i 1 k) * (t k * c k)) = (sm l fun k => n (ti i 1 k) * (τ k * c k)) + n (ti i 1 l) * (x * c l) := by
      show (sm l fun k => n (ti i 1 k) * (t k * c k)) + n (ti i 1 l) * (t l * c l) = _
      rw [hl, sm_congr l (fun k hk => by rw [ht k hk])]
    rw [e, ht i hi, Int.mul_add, ← smM]
    refine cgm.add (cgm.sm9 l (fun k _ => ?_)) ?_
    · have z : cgm p (tlP n c τ p l iv i k) (n (ti i 1 k) * (c i * iv (τ i)) * τ k * c k) := (cgm.em _).tr ((((cgm.rf _).mul (cgm.em _)).mul (cgm.rf _)).mul (cgm.rf _))
      rw [show c i * iv (τ i) * (n (ti i 1 k) * (τ k * c k)) = n (ti i 1 k) * (c i * iv (τ i)) * τ k * c k by ac_rfl]
      exact z.sy
    · have z : cgm p (tlB n c τ p l iv i) (n (ti i 1 l) * (c i * iv (τ i)) * c l) := ((cgm.rf _).mul (cgm.em _)).mul (cgm.rf _)
      rw [show c i * iv (τ i) * (n (ti i 1 l) * (x * c l)) = n (ti i 1 l) * (c i * iv (τ i)) * c l * x by ac_rfl]
      exact z.sy.mul (cgm.rf _)
  have last : cgm p (c l * iv (t l) * sm (l + 1) fun k => n (ti l 1 k) * (t k * c k)) ((sm l fun i => tlD n c τ l i) * iv x + n (ti l 1 l) * c l * c l) := by
    have e : (sm (l + 1) fun k => n (ti l 1 k) * (t k * c k)) = (sm l fun k => n (ti l 1 k) * (τ k * c k)) + n (ti l 1 l) * (x * c l) := by
      show (sm l fun k => n (ti l 1 k) * (t k * c k)) + n (ti l 1 l) * (t l * c l) = _
      rw [hl, sm_congr l (fun k hk => by rw [ht k hk])]
    rw [e, hl, Int.mul_add, ← smM, ← smR]
    refine cgm.add (cgm.of (sm_congr l (fun k _ => ?_))) ?_
    · unfold tlD
      ac_rfl
    · rw [show c l * iv x * (n (ti l 1 l) * (x * c l)) = n (ti l 1 l) * c l * c l * (x * iv x) by ac_rfl]
      have := (cgm.rf (p := p) (n (ti l 1 l) * c l * c l)).mul (iv_cg hiv hx.1 hx.2)
      rw [Int.mul_one] at this
      exact this
  have all : cgm p (Wq9 n c t iv (l + 1)) ((sm l fun i => (sm l fun k => tlP n c τ p l iv i k) + tlB n c τ p l iv i * x) + ((sm l fun i => tlD n c τ l i) * iv x + n (ti l 1 l) * c l * c l)) := cgm.add (cgm.sm9 l row) last
  rw [smA, smR] at all
  refine all.tr (cgm.of ?_)
  show _ + (sm l fun i => tlB n c τ p l iv i) * x + _ = _
  omega
/-- the class's three sums -/
theorem x10_sums {x : XS} {n c τ : Nat → Int} {l p : Nat} {iv : Int → Int} {du : Nat → Nat} (h1 : 1 ≤ l) (h3 : l ≤ 3) (hT : TG n (l + 1)) (hC : TC9 x n c (l + 1) p iv du) (hb : Cb p (l + 1) c) (h2 : 2 ≤ p) (h31 : p ≤ 31) (hiv : IvG p iv) (hτ : ∀ j, j < l → x.1.1 74 j = τ j ∧ 1 ≤ τ j ∧ τ j < p) : X10_tryLast x = lpE (fun q => X10_tryLast_b252 l ((n (ti l 1 l) * c l * c l + sm l fun i => sm l fun k => tlP n c τ p l iv i k) % (p : Int)) ((sm l fun i => tlB n c τ p l iv i) % (p : Int)) ((sm l fun i => tlD n c τ l i) % (p : Int)) q.1 q.2) (1, x) (fun e => some ((.inl (), e))) := by
  obtain ⟨⟨a1, a2, a3, a4, a5, a6, a7⟩, ⟨a8, a9, a10, a11⟩, a12⟩ := hC
  have hp0 : 0 < p := by omega
  have at9 : ∀ i k : Nat, i < l + 1 → k < l + 1 → X8_at 5 i 1 k x.1 = some (n (ti i 1 k)) ∧ (0 ≤ n (ti i 1 k) ∧ n (ti i 1 k) ≤ 9) := fun i k hi hk => by
    have := x8_at (d := x.1) (o := 5) (i := i) (j := 1) (k := k) (by omega) (by omega) (by omega)
    have e : nn x.1 5 i 1 k = n (ti i 1 k) := by unfold nn ti; rw [← a3]
    rw [e] at this
    refine ⟨this, hT.2.1 _ ?_⟩
    unfold ti; omega
  have cb : ∀ k, k < l + 1 → 0 ≤ c k ∧ c k ≤ 30 := fun k hk => by have := hb k hk; omega
  have tb : ∀ k, k < l → 0 ≤ τ k ∧ τ k ≤ 30 := fun k hk => by have := hτ k hk; omega
  have pb : ∀ i, 0 ≤ (c i * iv (τ i)) % (p : Int) ∧ (c i * iv (τ i)) % (p : Int) ≤ 30 := fun i => by have := em_bd hp0 (c i * iv (τ i)); omega
  have el : x.1.1 68 6 - 1 = (l : Int) := by rw [a1]; omega
  have c9 : ∀ k, k < l + 1 → x.1.1 72 k = c k := a7
  unfold X10_tryLast
  rw [lt_pos, el, gd_pos (by omega), if_neg (by omega), gd_pos a8, b1_pos (at9 l l (by omega) (by omega)).1, gd_pos (by omega), gd_pos (by omega), lt_pos, Int.toNat_natCast, c9 l (by omega)]
  refine (lpE_for (fun i => ((n (ti l 1 l) * c l * c l + sm i fun i => sm l fun k => tlP n c τ p l iv i k), (sm i fun i => tlB n c τ p l iv i), (sm i fun i => tlD n c τ l i), (i : Int))) l ((n (ti l 1 l) * c l * c l + sm l fun i => sm l fun k => tlP n c τ p l iv i k), (sm l fun i => tlB n c τ p l iv i), (sm l fun i => tlD n c τ l i)) ?_ (by omega) (fun i hi => ?_) ?_).trans ?_
  · show _ = (n (ti l 1 l) * c l * c l + 0, (0 : Int), (0 : Int), ((0 : Nat) : Int))
    rw [Int.add_zero]; rfl
  · show X10_tryLast_b57 l _ _ _ (i : Int) x = _
    obtain ⟨t1, t2, t3⟩ := hτ i hi
    obtain ⟨ιn, hι⟩ : ∃ ιn : Nat, τ i = ιn := ⟨(τ i).toNat, by omega⟩
    have e59 : x.1.1 59 (τ i).toNat = iv (τ i) := by
      rw [hι, Int.toNat_natCast]; exact a5 ιn (by omega) (by omega)
    have ivb := (hiv _ t2 t3).1
    have mb := mlb9 (u := 30) (v := 30) (cb i (by omega)) (show 0 ≤ iv (τ i) ∧ iv (τ i) ≤ 30 by omega)
    have er : X3_reduce 58 (c i * iv (τ i)) x.1 = some ((c i * iv (τ i)) % (p : Int)) := x3_reduce a4 h2 h31 (by omega) (by omega)
    unfold X10_tryLast_b57
    rw [gd_pos (by omega), if_neg (by omega), gd_pos a9, gd_pos (by omega), gd_pos a9, gd_pos (by omega), Int.toNat_natCast, t1, gd_pos (by omega), e59, c9 i (by omega), b1_pos er]
    refine (lpE_for (fun k => ((n (ti l 1 l) * c l * c l + sm i fun i => sm l fun k => tlP n c τ p l iv i k) + sm k fun k => tlP n c τ p l iv i k, (k : Int))) l ((n (ti l 1 l) * c l * c l + sm i fun i => sm l fun k => tlP n c τ p l iv i k) + sm l fun k => tlP n c τ p l iv i k) ?_ (by omega) (fun k hk => ?_) ?_).trans ?_
    · show (_, (0 : Int)) = (_ + 0, ((0 : Nat) : Int))
      rw [Int.add_zero]; rfl
    · show X10_tryLast_b98 l _ _ i _ _ (k : Int) x = _
      obtain ⟨q1, q2⟩ := at9 i k (by omega) (by omega)
      have m1 := mlb9 (u := 9) (v := 30) q2 (pb i)
      have m2 := mlb9 (u := 270) (v := 30) ⟨m1.1, by omega⟩ (tb k hk)
      have m3 := mlb9 (u := 8100) (v := 30) ⟨m2.1, by omega⟩ (cb k (by omega))
      have er2 : X3_reduce 58 (n (ti i 1 k) * ((c i * iv (τ i)) % (p : Int)) * τ k * c k) x.1 = some (tlP n c τ p l iv i k) := x3_reduce a4 h2 h31 (by omega) (by omega)
      unfold X10_tryLast_b98
      rw [gd_pos (by omega), if_neg (by omega), gd_pos a9, gd_pos a8, b1_pos q1, gd_pos (by omega), gd_pos (by omega), Int.toNat_natCast, (hτ k hk).1, c9 k (by omega), b1_pos er2, lt_pos]
      refine congrArg some (congrArg Sum.inl (Prod.ext ?_ rfl))
      show _ + _ + _ = _ + (_ + _)
      rw [Int.add_assoc]
    · show X10_tryLast_b98 l _ _ i _ _ (l : Int) x = _
      unfold X10_tryLast_b98
      rw [gd_pos (by omega), if_pos (by omega)]
    · show X10_tryLast_j151_57 l _ _ _ i _ x = _
      unfold X10_tryLast_j151_57
      rw [gd_pos a8, b1_pos (at9 i l (by omega) (by omega)).1, gd_pos (by omega), lt_pos, gd_pos a8, b1_pos (at9 l i (by omega) (by omega)).1, gd_pos (by omega), gd_pos (by omega), gd_pos (by omega), lt_pos, Int.toNat_natCast, Int.toNat_natCast, c9 l (by omega), c9 i (by omega), t1]
      refine congrArg some (congrArg Sum.inl (Prod.ext ?_ rfl))
      show _ + _ + _ = _ + (_ + _)
      rw [Int.add_assoc]
  · show X10_tryLast_b57 l _ _ _ (l : Int) x = _
    unfold X10_tryLast_b57
    rw [gd_pos (by omega), if_pos (by omega)]
  · show X10_tryLast_j220 l _ _ _ x = _
    have s1 := sm_bd (f := fun i => sm l fun k => tlP n c τ p l iv i k) (lo := 0) (hi := 90) l (fun i hi => by
      have := sm_bd (f := fun k => tlP n c τ p l iv i k) (lo := 0) (hi := 30) l (fun k hk => by
        have := em_bd hp0 (n (ti i 1 k) * ((c i * iv (τ i)) % (p : Int)) * τ k * c k)
        show 0 ≤ tlP n c τ p l iv i k ∧ tlP n c τ p l iv i k ≤ 30
        unfold tlP
        omega)
      omega)
    have s2 := sm_bd (f := fun i => tlB n c τ p l iv i) (lo := 0) (hi := 8100) l (fun i hi => by
      have m1 := mlb9 (u := 9) (v := 30) (at9 i l (by omega) (by omega)).2 (pb i)
      have m2 := mlb9 (u := 270) (v := 30) ⟨m1.1, by omega⟩ (cb l (by omega))
      show 0 ≤ tlB n c τ p l iv i ∧ tlB n c τ p l iv i ≤ 8100
      unfold tlB
      omega)
    have s3 := sm_bd (f := fun i => tlD n c τ l i) (lo := 0) (hi := 243000) l (fun i hi => by
      have m1 := mlb9 (u := 9) (v := 30) (at9 l i (by omega) (by omega)).2 (cb l (by omega))
      have m2 := mlb9 (u := 270) (v := 30) ⟨m1.1, by omega⟩ (tb i hi)
      have m3 := mlb9 (u := 8100) (v := 30) ⟨m2.1, by omega⟩ (cb i (by omega))
      show 0 ≤ tlD n c τ l i ∧ tlD n c τ l i ≤ 243000
      unfold tlD
      omega)
    have m1 := mlb9 (u := 9) (v := 30) (at9 l l (by omega) (by omega)).2 (cb l (by omega))
    have m2 := mlb9 (u := 270) (v := 30) ⟨m1.1, by omega⟩ (cb l (by omega))
    have b1 : 0 ≤ (n (ti l 1 l) * c l * c l + sm l fun i => sm l fun k => tlP n c τ p l iv i k) ∧ (n (ti l 1 l) * c l * c l + sm l fun i => sm l fun k => tlP n c τ p l iv i k) ≤ 10000 := by omega
    have b2 : 0 ≤ (sm l fun i => tlB n c τ p l iv i) ∧ (sm l fun i => tlB n c τ p l iv i) ≤ 100000 := by omega
    have b3 : 0 ≤ (sm l fun i => tlD n c τ l i) ∧ (sm l fun i => tlD n c τ l i) ≤ 1000000 := by omega
    have r1 := x3_reduce (d := x.1) a4 h2 h31 b1.1 (by omega)
    have r2 := x3_reduce (d := x.1) a4 h2 h31 b2.1 (by omega)
    have r3 := x3_reduce (d := x.1) a4 h2 h31 b3.1 (by omega)
    unfold X10_tryLast_j220
    rw [gd_pos a9, b1_pos r1, gd_pos a9, b1_pos r2, gd_pos a9, b1_pos r3]

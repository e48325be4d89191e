/-! ===== turning back, on both sides ===== -/
theorem x3_turnB {d : DA} {a1 n1 c0 n0 n p : Nat} {M : Mx} {iv : Int → Int} (hn : n ≤ 5) (h1 : 25 ≤ n1) (h1' : n1 < 2147483648) (h25 : 25 ≤ n0) (h31 : n0 < 2147483648) (hM : Ms n (d.1 a1) M) (bM : Mb p n M) (hp : d.1 58 0 = p) (h2 : 2 ≤ p) (hp31 : p ≤ 31) (h58 : c0 ≠ 58) (h59 : c0 ≠ 59) (h60 : c0 ≠ 60) (hiv : IvG p iv) (h9 : ∀ j : Nat, 1 ≤ j → j < p → d.1 59 j = iv j) : ∃ f' g', X3_turnBack 58 a1 n1 c0 n0 n d = some ((if (gRun p n iv n 0 (M, id9)).1 = true then 1 else 0), wA (wA d 60 f') c0 g') ∧ ((gRun p n iv n 0 (M, id9)).1 = true → Ms n g' (gRun p n iv n 0 (M, id9)).2.2) := by
  have h60' : (60 : Nat) ≠ c0 := Ne.symm h60
  obtain ⟨F0, hF0⟩ : ∃ F0, F0 = pre (d.1 60) (d.1 a1) 25 := ⟨_, rfl⟩
  have e1 : cpI d a1 0 (58 + 2) 0 ((25 : Nat) : Int) = wA d 60 F0 := by rw [hF0]; exact cp_A
  have mF : Ms n F0 M := fun i j hi hj => by
    rw [hF0, pre_lt (by omega)]; exact hM i j hi hj
  obtain ⟨g0, e2, m0⟩ := x3_unit (D := wA d 60 F0) (c0 := c0) (n0 := n0) (n := n) (f := (wA d 60 F0).1 c0) hn h25 h31
  rw [wA_same] at e2
  obtain ⟨f', g', e3, e4⟩ := x3_gauss (D := d) (a1 := a1) (n1 := n1) (c0 := c0) (n0 := n0) (iv := iv) hn h25 h31 mF m0 bM (id9_b h2) hp h2 hp31 h58 h59 h60 hiv h9
  refine ⟨f', g', ?_, e4⟩
  unfold X3_turnBack
  rw [gd_pos (by unfold cpg; omega), lt_pos, e1, bd_pos e2]
  exact e3
/-! the reference -/
theorem x12_over {d : DA} {p : Nat} {v : Int} (hp : d.1 113 4 = p) (h2 : 2 ≤ p) (h31 : p ≤ 31) (hv : -2147483648 < v ∧ v < 2147483648) : X12_over 113 v d = some (v % (p : Int)) := by
  unfold X12_over
  have b := tm_bd (show 0 < p by omega) v
  rw [hp, gd_pos (by unfold dvg; omega), lt_pos, gd_pos (by omega)]
  by_cases c : 0 ≤ Int.tmod v (p : Int)
  · rw [if_pos c]
    refine congrArg some (cgm.eq (p := p) ((cgm.tm v).tr (cgm.em v).sy) (by omega) (em_bd (by omega) v))
  · rw [if_neg c]
    refine congrArg some (cgm.eq (p := p) ?_ (by omega) (em_bd (by omega) v))
    exact cgm.tr (b := Int.tmod v (p : Int)) ⟨1, by omega⟩ ((cgm.tm v).tr (cgm.em v).sy)
theorem iv_u {p : Nat} {iv : Int → Int} (hiv : IvG p iv) {v x : Int} (h1 : 1 ≤ v) (h2 : v < p) (hx : 0 ≤ x ∧ x < p) (h : cgm p (x * v) 1) : x = iv v := by
  obtain ⟨⟨a1, a2⟩, a3⟩ := hiv v h1 h2
  refine cgm.eq (p := p) ?_ hx ⟨(by omega), a2⟩
  -- x = x * (v * iv v) = (x * v) * iv v = iv v
  have e1 : cgm p (x * (v * iv v)) (x * 1) := (cgm.rf x).mul a3
  have e2 : cgm p (x * v * iv v) (1 * iv v) := h.mul (cgm.rf _)
  rw [Int.mul_one] at e1
  rw [Int.one_mul, Int.mul_assoc] at e2
  exact e1.sy.tr e2
theorem x12_tb {d : DA} {p : Nat} {iv : Int → Int} {v : Int} (hiv : IvG p iv) (hp : d.1 113 4 = p) (h2 : 2 ≤ p) (h31 : p ≤ 31) (h1 : 1 ≤ v) (hv : v < p) : X12_turnedBack 113 v d = some (iv v) := by
  obtain ⟨⟨a1, a2⟩, a3⟩ := hiv v h1 hv
  unfold X12_turnedBack
  have em1 : ∀ x : Int, 0 ≤ x → (Int.tmod (x * v) (p : Int) = 1 ↔ cgm p (x * v) 1) := fun x hx => by
    have n0 : 0 ≤ x * v := Int.mul_nonneg hx (by omega)
    rw [tm_em n0]
    constructor
    · intro z
      have := cgm.em (p := p) (x * v)
      rw [z] at this
      exact this.sy
    · intro z
      exact cgm.eq (p := p) ((cgm.em _).tr z) (em_bd (by omega) _) (by omega)
  have st : ∀ m : Nat, (m : Int) < iv v → (Int.tmod ((1 + (m : Int)) * v) (p : Int) = 1 ↔ 1 + (m : Int) = iv v) := fun m hm => by
    rw [em1 _ (by omega)]
    constructor
    · intro z; exact iv_u hiv h1 hv (by omega) z
    · intro z; rw [z, Int.mul_comm]; exact a3
  refine lpE_for (fun m => 1 + (m : Int)) ((iv v).toNat - 1) (iv v) rfl (by omega) (fun m hm => ?_) ?_
  · show X12_turnedBack_b2 113 v (1 + (m : Int)) d = _
    unfold X12_turnedBack_b2
    have b := tm_bd (show 0 < p by omega) ((1 + (m : Int)) * v)
    have mb := mlb9 (u := 31) (v := 31) (show 0 ≤ 1 + (m : Int) ∧ 1 + (m : Int) ≤ 31 by omega) (show 0 ≤ v ∧ v ≤ 31 by omega)
    rw [hp, gd_pos (by unfold dvg; omega), gd_pos (by omega), if_neg (fun z => by have := (st m (by omega)).mp z; omega)]
    refine congrArg some (congrArg Sum.inl ?_)
    omega
  · show X12_turnedBack_b2 113 v (1 + (((iv v).toNat - 1 : Nat) : Int)) d = _
    have e : 1 + (((iv v).toNat - 1 : Nat) : Int) = iv v := by omega
    unfold X12_turnedBack_b2
    have b := tm_bd (show 0 < p by omega) (iv v * v)
    have mb := mlb9 (u := 31) (v := 31) (show 0 ≤ iv v ∧ iv v ≤ 31 by omega) (show 0 ≤ v ∧ v ≤ 31 by omega)
    rw [e, hp, gd_pos (by unfold dvg; omega), gd_pos (by omega), if_pos ((em1 _ (by omega)).mpr (by rw [Int.mul_comm]; exact a3))]
theorem x12_swapR {D : DA} {n a c : Nat} {f g : Nat → Int} {W V : Mx} (hn : n ≤ 5) (ha : a < n) (hc : c < n) (hW : Ms n f W) (hV : Ms n g V) : ∃ f' g', X12_swapRows 113 n a c (wA (wA D 138 f) 139 g) = some ((), wA (wA D 138 f') 139 g') ∧ Ms n f' (xr W a c) ∧ Ms n g' (xr V a c) := by
  have nx : ∀ (h : Nat → Int) (M : Mx) (m : Nat), m < n → Mc n m h M (xr M a c) → Mc n (m + 1) (fu (fu h (5 * a + m) (h (5 * c + m))) (5 * c + m) (h (5 * a + m))) M (xr M a c) := fun h M m hm h1 i j hi hj => by
    have ga := h1 a m ha hm
    have gc := h1 c m hc hm
    rw [if_neg (by omega)] at ga gc
    rw [fu_app, fu_app, ga, gc]
    by_cases cj : j = m
    · subst cj
      rw [if_pos (show j < j + 1 by omega)]
      unfold xr
      by_cases c1 : i = c
      · subst c1
        rw [if_pos rfl]
        by_cases c2 : i = a
        · rw [if_pos c2, c2]
        · rw [if_neg c2, if_pos rfl]
      · rw [if_neg (fun z => c1 ((ij5 (by omega) (by omega)).mp z).1)]
        by_cases c2 : i = a
        · subst c2; rw [if_pos rfl, if_pos rfl]
        · rw [if_neg (fun z => c2 ((ij5 (by omega) (by omega)).mp z).1), if_neg c2, if_neg c1, h1 i j hi hj, if_neg (by omega)]
    · rw [if_neg (fun z => cj ((ij5 (by omega) (by omega)).mp z).2), if_neg (fun z => cj ((ij5 (by omega) (by omega)).mp z).2), h1 i j hi hj]
      by_cases c2 : j < m
      · rw [if_pos c2, if_pos (by omega)]
      · rw [if_neg c2, if_neg (by omega)]
  obtain ⟨d', e1, f', g', e2, e3, e4⟩ := lev9i (b := fun q => X12_swapRows_b3 113 n a c q.1 q.2) (P := fun m E => ∃ f' g', E = wA (wA D 138 f') 139 g' ∧ Mc n m f' W (xr W a c) ∧ Mc n m g' V (xr V a c)) (r := n) (by omega) (fun m E hm hP => by
    obtain ⟨f', g', rfl, h1, h2⟩ := hP
    have ea : ((5 * (a : Int)) + (m : Int)).toNat = 5 * a + m := by omega
    have ec : ((5 * (c : Int)) + (m : Int)).toNat = 5 * c + m := by omega
    refine ⟨wA (wA D 138 (fu (fu f' (5 * a + m) (f' (5 * c + m))) (5 * c + m) (f' (5 * a + m)))) 139 (fu (fu g' (5 * a + m) (g' (5 * c + m))) (5 * c + m) (g' (5 * a + m))), ?_, _, _, rfl, nx _ _ _ hm h1, nx _ _ _ hm h2⟩
    show X12_swapRows_b3 113 n a c (m : Int) _ = _
    unfold X12_swapRows_b3
    have a8 : ∀ f g : Nat → Int, (wA (wA D 138 f) 139 g).1 (113 + 25) = f := fun f g => w2_a (by decide)
    have a9 : ∀ f g : Nat → Int, (wA (wA D 138 f) 139 g).1 (113 + 26) = g := fun f g => w2_b
    have s8 : ∀ (f g : Nat → Int) k v, wI (wA (wA D 138 f) 139 g) (113 + 25) k v = wA (wA D 138 (fu f k v)) 139 g := fun f g k v => w2_wa (by decide)
    have s9 : ∀ (f g : Nat → Int) k v, wI (wA (wA D 138 f) 139 g) (113 + 26) k v = wA (wA D 138 f) 139 (fu g k v) := fun f g k v => w2_wb
    rw [gd_pos (by omega), if_neg (by omega), gd_pos (by omega), lt_pos, gd_pos (by omega), gd_pos (by omega), lt_pos, gd_pos (by omega), lt_pos, gd_pos (by omega), lt_pos, gd_pos (by omega), gd_pos (by omega), lt_pos, gd_pos (by omega), lt_pos, ea, ec, a8, s8, s8, a9, s9, s9]) (fun E hP => by
    show X12_swapRows_b3 113 n a c (n : Int) E = _
    unfold X12_swapRows_b3
    rw [gd_pos (by omega), if_pos (by omega)]) (d := wA (wA D 138 f) 139 g) ⟨f, g, rfl, Mc.z hW, Mc.z hV⟩
  subst e2
  exact ⟨f', g', e1 _, e3.e, e4.e⟩
theorem x12_scaleR {D : DA} {n c p : Nat} {b : Int} {f g : Nat → Int} {W V : Mx} (hn : n ≤ 5) (hc : c < n) (hW : Ms n f W) (hV : Ms n g V) (bW : Mb p n W) (bV : Mb p n V) (hp : D.1 113 4 = p) (h2 : 2 ≤ p) (hp31 : p ≤ 31) (hb : 0 ≤ b ∧ b < p) : ∃ f' g', X12_addRow 113 n c c b (wA (wA D 138 f) 139 g) = some ((), wA (wA D 138 f') 139 g') ∧ Ms n f' (sr p W c b) ∧ Ms n g' (sr p V c b) := by
  have p4 : ∀ f g : Nat → Int, (wA (wA D 138 f) 139 g).1 113 4 = p := fun f g => by rw [w2_o (by decide) (by decide)]; exact hp
  have nx : ∀ (h : Nat → Int) (M : Mx) (m : Nat), m < n → Mc n m h M (sr p M c b) → Mc n (m + 1) (fu h (5 * c + m) ((M c m * b) % (p : Int))) M (sr p M c b) := fun h M m hm h1 i j hi hj => by
    rw [fu_app]
    by_cases cj : j = m
    · subst cj
      rw [if_pos (show j < j + 1 by omega)]
      unfold sr
      by_cases c1 : i = c
      · subst c1
        rw [if_pos rfl, if_pos rfl]
      · rw [if_neg (fun z => c1 ((ij5 (by omega) (by omega)).mp z).1), if_neg c1, h1 i j hi hj, if_neg (by omega)]
    · rw [if_neg (fun z => cj ((ij5 (by omega) (by omega)).mp z).2), h1 i j hi hj]
      by_cases c2 : j < m
      · rw [if_pos c2, if_pos (by omega)]
      · rw [if_neg c2, if_neg (by omega)]
  obtain ⟨d', e1, f', g', e2, e3, e4⟩ := lev9i (b := fun q => X12_addRow_b3 113 n c c b q.1 q.2) (P := fun m E => ∃ f' g', E = wA (wA D 138 f') 139 g' ∧ Mc n m f' W (sr p W c b) ∧ Mc n m g' V (sr p V c b)) (r := n) (by omega) (fun m E hm hP => by
    obtain ⟨f', g', rfl, h1, h2'⟩ := hP
    have ec : ((5 * (c : Int)) + (m : Int)).toNat = 5 * c + m := by omega
    have gc := h1 c m hc hm
    have hc2 := h2' c m hc hm
    rw [if_neg (by omega)] at gc hc2
    have bc := bW c m hc hm
    have bc2 := bV c m hc hm
    have mb := mlb9 (u := 30) (v := 30) (show 0 ≤ b ∧ b ≤ 30 by omega) (show 0 ≤ W c m ∧ W c m ≤ 30 by omega)
    have mb2 := mlb9 (u := 30) (v := 30) (show 0 ≤ b ∧ b ≤ 30 by omega) (show 0 ≤ V c m ∧ V c m ≤ 30 by omega)
    refine ⟨wA (wA D 138 (fu f' (5 * c + m) ((W c m * b) % (p : Int)))) 139 (fu g' (5 * c + m) ((V c m * b) % (p : Int))), ?_, _, _, rfl, nx _ _ _ hm h1, nx _ _ _ hm h2'⟩
    show X12_addRow_b3 113 n c c b (m : Int) _ = _
    have a8 : ∀ f g : Nat → Int, (wA (wA D 138 f) 139 g).1 (113 + 25) = f := fun f g => w2_a (by decide)
    have a9 : ∀ f g : Nat → Int, (wA (wA D 138 f) 139 g).1 (113 + 26) = g := fun f g => w2_b
    have s8 : ∀ (f g : Nat → Int) k v, wI (wA (wA D 138 f) 139 g) (113 + 25) k v = wA (wA D 138 (fu f k v)) 139 g := fun f g k v => w2_wa (by decide)
    have s9 : ∀ (f g : Nat → Int) k v, wI (wA (wA D 138 f) 139 g) (113 + 26) k v = wA (wA D 138 f) 139 (fu g k v) := fun f g k v => w2_wb
    unfold X12_addRow_b3 X12_addRow_j40_3 X12_addRow_j90_3
    rw [gd_pos (by omega), if_neg (by omega), gd_pos (by omega), if_pos rfl, gd_pos (by omega), ec, a8, gc, b1_pos (x12_over (p4 _ _) h2 hp31 (by omega)), gd_pos (by omega), lt_pos, s8, gd_pos (by omega), if_pos rfl, gd_pos (by omega), a9, hc2, b1_pos (x12_over (p4 _ _) h2 hp31 (by omega)), gd_pos (by omega), lt_pos, s9, Int.zero_add, Int.zero_add, Int.mul_comm b, Int.mul_comm b]) (fun E hP => by
    show X12_addRow_b3 113 n c c b (n : Int) E = _
    unfold X12_addRow_b3
    rw [gd_pos (by omega), if_pos (by omega)]) (d := wA (wA D 138 f) 139 g) ⟨f, g, rfl, Mc.z hW, Mc.z hV⟩
  subst e2
  exact ⟨f', g', e1 _, e3.e, e4.e⟩
theorem x12_clearR {D : DA} {n c p : Nat} {f g : Nat → Int} {W V : Mx} (hn : n ≤ 5) (hc : c < n) (hW : Ms n f W) (hV : Ms n g V) (bW : Mb p n W) (bV : Mb p n V) (hp : D.1 113 4 = p) (h2 : 2 ≤ p) (hp31 : p ≤ 31) : ∃ f' g', (∀ {Y : Type} (k : DA → Option Y), lpE (fun q => X12_turnBack_b122 113 n c q.1 q.2) (0, wA (wA D 138 f) 139 g) k = k (wA (wA D 138 f') 139 g')) ∧ Ms n f' (cr p W W c) ∧ Ms n g' (cr p V W c) := by
  have p4 : ∀ f g : Nat → Int, (wA (wA D 138 f) 139 g).1 113 4 = p := fun f g => by rw [w2_o (by decide) (by decide)]; exact hp
  have a8 : ∀ f g : Nat → Int, (wA (wA D 138 f) 139 g).1 (113 + 25) = f := fun f g => w2_a (by decide)
  have a9 : ∀ f g : Nat → Int, (wA (wA D 138 f) 139 g).1 (113 + 26) = g := fun f g => w2_b
  have s8 : ∀ (f g : Nat → Int) k v, wI (wA (wA D 138 f) 139 g) (113 + 25) k v = wA (wA D 138 (fu f k v)) 139 g := fun f g k v => w2_wa (by decide)
  have s9 : ∀ (f g : Nat → Int) k v, wI (wA (wA D 138 f) 139 g) (113 + 26) k v = wA (wA D 138 f) 139 (fu g k v) := fun f g k v => w2_wb
  obtain ⟨d', e1, f', g', e2, e3, e4⟩ := lev9i (b := fun q => X12_turnBack_b122 113 n c q.1 q.2) (P := fun m E => ∃ f' g', E = wA (wA D 138 f') 139 g' ∧ Rj n m 0 f' W (cr p W W c) ∧ Rj n m 0 g' V (cr p V W c)) (r := n) (by omega) (fun i E hi hP => by
    obtain ⟨f', g', rfl, r1, r2⟩ := hP
    have ei : ((5 * (i : Int)) + (c : Int)).toNat = 5 * i + c := by omega
    have vi := r1.at hi (Nat.zero_le _) hc
    have bi := bW i c hi hc
    by_cases c1 : i = c
    · refine ⟨wA (wA D 138 f') 139 g', ?_, f', g', rfl, r1.skip (fun j hj => by rw [c1]; exact cr_c), r2.skip (fun j hj => by rw [c1]; exact cr_c)⟩
      show X12_turnBack_b122 113 n c (i : Int) _ = _
      unfold X12_turnBack_b122
      rw [gd_pos (by omega), if_neg (by omega), gd_pos (by omega), if_pos (by omega)]
    · obtain ⟨d2, k1, f2, g2, k2, k3, k4⟩ := lev9i (b := fun q => X12_addRow_b3 113 n i c ((p : Int) - W i c) q.1 q.2) (P := fun m E => ∃ f' g', E = wA (wA D 138 f') 139 g' ∧ Rj n i m f' W (cr p W W c) ∧ Rj n i m g' V (cr p V W c)) (r := n) (by omega) (fun m E hm hP => by
        obtain ⟨f', g', rfl, r1, r2⟩ := hP
        have ei : ((5 * (i : Int)) + (m : Int)).toNat = 5 * i + m := by omega
        have ec : ((5 * (c : Int)) + (m : Int)).toNat = 5 * c + m := by omega
        have v1 := r1.at hi (Nat.le_refl _) hm
        have v2 := r2.at hi (Nat.le_refl _) hm
        have u1 := r1.c hc hm
        have u2 := r2.c hc hm
        have b1 := bW i m hi hm
        have b2 := bV i m hi hm
        have b3 := bW c m hc hm
        have b4 := bV c m hc hm
        have q1 := mlb9 (u := 31) (v := 30) (show 0 ≤ (p : Int) - W i c ∧ (p : Int) - W i c ≤ 31 by omega) (show 0 ≤ W c m ∧ W c m ≤ 30 by omega)
        have q2 := mlb9 (u := 31) (v := 30) (show 0 ≤ (p : Int) - W i c ∧ (p : Int) - W i c ≤ 31 by omega) (show 0 ≤ V c m ∧ V c m ≤ 30 by omega)
        have cW : cr p W W c i m = (W i m + ((p : Int) - W i c) * W c m) % (p : Int) := if_neg c1
        have cV : cr p V W c i m = (V i m + ((p : Int) - W i c) * V c m) % (p : Int) := if_neg c1
        refine ⟨wA (wA D 138 (fu f' (5 * i + m) (cr p W W c i m))) 139 (fu g' (5 * i + m) (cr p V W c i m)), ?_, _, _, rfl, r1.put hn hm rfl, r2.put hn hm rfl⟩
        show X12_addRow_b3 113 n i c ((p : Int) - W i c) (m : Int) _ = _
        unfold X12_addRow_b3 X12_addRow_j40_3 X12_addRow_j90_3
        rw [gd_pos (by omega), if_neg (by omega), gd_pos (by omega), if_neg (by omega), gd_pos (by omega), gd_pos (by omega), ei, ec, a8, v1, u1, b1_pos (x12_over (p4 _ _) h2 hp31 (by omega)), gd_pos (by omega), lt_pos, s8, gd_pos (by omega), if_neg (by omega), gd_pos (by omega), gd_pos (by omega), a9, v2, u2, b1_pos (x12_over (p4 _ _) h2 hp31 (by omega)), gd_pos (by omega), lt_pos, s9, ← cW, ← cV]) (fun E hP => by
        show X12_addRow_b3 113 n i c ((p : Int) - W i c) (n : Int) E = _
        unfold X12_addRow_b3
        rw [gd_pos (by omega), if_pos (by omega)]) (d := wA (wA D 138 f') 139 g') ⟨f', g', rfl, r1, r2⟩
      refine ⟨d2, ?_, f2, g2, k2, k3.nx, k4.nx⟩
      have ea : X12_addRow 113 n i c ((p : Int) - W i c) (wA (wA D 138 f') 139 g') = some ((), d2) := k1 _
      show X12_turnBack_b122 113 n c (i : Int) _ = _
      unfold X12_turnBack_b122
      rw [gd_pos (by omega), if_neg (by omega), gd_pos (by omega), if_neg (by omega), gd_pos (by omega), ei, a8, vi, p4, bd_pos ea]) (fun E hP => by
    show X12_turnBack_b122 113 n c (n : Int) E = _
    unfold X12_turnBack_b122
    rw [gd_pos (by omega), if_pos (by omega)]) (d := wA (wA D 138 f) 139 g) ⟨f, g, rfl, Rj.z hW, Rj.z hV⟩
  subst e2
  exact ⟨f', g', e1, e3.e, e4.e⟩
theorem x12_unit {D : DA} {n : Nat} {f : Nat → Int} (hn : n ≤ 5) : ∃ f', (∀ {Y : Type} (k : DA → Option Y), lpE (fun q => X12_turnBack_b2 113 n q.1 q.2) (0, wA D 139 f) k = k (wA D 139 f')) ∧ Ms n f' id9 := by
  have inner : ∀ (i : Nat) (g : Nat → Int), i < n → (∀ i' j, i' < i → j < n → g (5 * i' + j) = id9 i' j) → ∃ d', (∀ {Y : Type} (k : DA → Option Y), lpE (fun q => X12_turnBack_b9 113 n i q.1 q.2) (0, wA D 139 g) k = k d') ∧ ∃ g', d' = wA D 139 g' ∧ ∀ i' j, i' < i + 1 → j < n → g' (5 * i' + j) = id9 i' j := fun i g hi hg => by
    obtain ⟨d', e1, g', e2, e3⟩ := lev9i (b := fun q => X12_turnBack_b9 113 n i q.1 q.2) (P := fun m E => ∃ g', E = wA D 139 g' ∧ ∀ i' j, (i' < i ∧ j < n ∨ i' = i ∧ j < m) → g' (5 * i' + j) = id9 i' j) (r := n) (by omega) (fun m E hm hP => by
      obtain ⟨g', rfl, h1⟩ := hP
      have e5 : ((5 * (i : Int)) + (m : Int)).toNat = 5 * i + m := by omega
      refine ⟨wA D 139 (fu g' (5 * i + m) (id9 i m)), ?_, _, rfl, fun i' j hz => ?_⟩
      · show X12_turnBack_b9 113 n i (m : Int) (wA D 139 g') = _
        have s9 : ∀ (g : Nat → Int) k v, wI (wA D 139 g) (113 + 26) k v = wA D 139 (fu g k v) := fun g k v => wA_wI
        unfold X12_turnBack_b9 id9
        rw [gd_pos (by omega), if_neg (by omega), gd_pos (by omega)]
        by_cases c : i = m
        · rw [if_pos (by omega), gd_pos (by omega), lt_pos, e5, s9, if_pos c]
        · rw [if_neg (by omega), gd_pos (by omega), lt_pos, e5, s9, if_neg c]
      · rw [fu_app]
        by_cases c : 5 * i' + j = 5 * i + m
        · rw [if_pos c]
          obtain ⟨rfl, rfl⟩ := (ij5 (by omega) (by omega)).mp c
          rfl
        · rw [if_neg c]
          refine h1 i' j ?_
          rcases hz with z | z
          · exact Or.inl z
          · exact Or.inr ⟨z.1, by have : j ≠ m := fun e => c (by rw [e, z.1]); omega⟩) (fun E hP => by
      show X12_turnBack_b9 113 n i (n : Int) E = _
      unfold X12_turnBack_b9
      rw [gd_pos (by omega), if_pos (by omega)]) (d := wA D 139 g) ⟨g, rfl, fun i' j hz => by
        rcases hz with z | z
        · exact hg i' j z.1 z.2
        · omega⟩
    exact ⟨d', e1, g', e2, fun i' j h1 h2 => e3 i' j (by omega)⟩
  obtain ⟨d', e1, f', e2, e3⟩ := lev9i (b := fun q => X12_turnBack_b2 113 n q.1 q.2) (P := fun m E => ∃ g', E = wA D 139 g' ∧ ∀ i' j, i' < m → j < n → g' (5 * i' + j) = id9 i' j) (r := n) (by omega) (fun m E hm hP => by
    obtain ⟨g', rfl, h1⟩ := hP
    obtain ⟨d', f1, f2⟩ := inner m g' hm h1
    refine ⟨d', ?_, f2⟩
    show X12_turnBack_b2 113 n (m : Int) (wA D 139 g') = _
    unfold X12_turnBack_b2
    rw [gd_pos (by omega), if_neg (by omega), f1]) (fun E hP => by
    show X12_turnBack_b2 113 n (n : Int) E = _
    unfold X12_turnBack_b2
    rw [gd_pos (by omega), if_pos (by omega)]) (d := wA D 139 f) ⟨f, rfl, fun i' j h => absurd h (Nat.not_lt_zero _)⟩
  subst e2
  exact ⟨f', e1, fun i j hi hj => e3 i j hi hj⟩
/-- the reference turns back as the class does -/
theorem x12_turnB {d : DA} {n p : Nat} {M : Mx} {iv : Int → Int} (hn : n ≤ 5) (hM : Ms n (d.1 138) M) (bM : Mb p n M) (hp : d.1 113 4 = p) (h2 : 2 ≤ p) (hp31 : p ≤ 31) (hiv : IvG p iv) : ∃ f' g', X12_turnBack 113 n d = some ((if (gRun p n iv n 0 (M, id9)).1 = true then 1 else 0), wA (wA d 138 f') 139 g') ∧ ((gRun p n iv n 0 (M, id9)).1 = true → Ms n g' (gRun p n iv n 0 (M, id9)).2.2) := by
  obtain ⟨D, hD⟩ : ∃ D, D = d := ⟨_, rfl⟩
  have go : ∀ k c f g W V, c + k = n → Ms n f W → Ms n g V → Mb p n W → Mb p n V → ∃ f' g', ∀ F, k < F → wl9 (fun q => X12_turnBack_b48 113 n q.1 q.2) F ((c : Int), wA (wA D 138 f) 139 g) = some (if (gRun p n iv k c (W, V)).1 = true then .inl (wA (wA D 138 f') 139 g') else .inr ((0 : Int), wA (wA D 138 f') 139 g')) ∧ ((gRun p n iv k c (W, V)).1 = true → Ms n g' (gRun p n iv k c (W, V)).2.2) := by
    intro k
    have a8 : ∀ f g : Nat → Int, (wA (wA D 138 f) 139 g).1 (113 + 25) = f := fun f g => w2_a (by decide)
    have p4 : ∀ f g : Nat → Int, (wA (wA D 138 f) 139 g).1 113 4 = p := fun f g => by rw [w2_o (by decide) (by decide), hD]; exact hp
    induction k with
    | zero =>
      intro c f g W V hc hW hV bW bV
      refine ⟨f, g, fun F hF => ?_⟩
      obtain ⟨F, rfl⟩ : ∃ F', F = F' + 1 := ⟨F - 1, by omega⟩
      refine ⟨?_, fun _ => hV⟩
      have e : X12_turnBack_b48 113 n (c : Int) (wA (wA D 138 f) 139 g) = some (.inr (.inl (wA (wA D 138 f) 139 g))) := by
        unfold X12_turnBack_b48
        rw [gd_pos (by omega), if_pos (by omega)]
      unfold wl9
      show (match X12_turnBack_b48 113 n (c : Int) (wA (wA D 138 f) 139 g) with | _ => _) = _
      rw [e]
      rfl
    | succ k ih =>
      intro c f g W V hc hW hV bW bV
      have hpv : ∀ {Y : Type} (k : Int → Option Y), lpE (fun q => X12_turnBack_b55 113 n c q (wA (wA D 138 f) 139 g)) (c : Int) k = k (((piv n W c).getD n : Nat) : Int) := fun {Y} k => by
        refine piv_for hn (by omega) (fun i h1 h2 => ?_) ?_
        · show X12_turnBack_b55 113 n c (i : Int) _ = _
          unfold X12_turnBack_b55
          have ei : ((5 * (i : Int)) + (c : Int)).toNat = 5 * i + c := by omega
          have := bW i c h2 (by omega)
          rw [gd_pos (by omega), if_neg (by omega), gd_pos (by omega), ei, a8, hW i c h2 (by omega), gd_pos (by omega)]
        · show X12_turnBack_b55 113 n c (n : Int) _ = _
          unfold X12_turnBack_b55
          rw [gd_pos (by omega), if_pos (by omega)]
      have head : X12_turnBack_b48 113 n (c : Int) (wA (wA D 138 f) 139 g) = X12_turnBack_j79_48 113 n c (((piv n W c).getD n : Nat) : Int) (wA (wA D 138 f) 139 g) := by
        unfold X12_turnBack_b48
        rw [gd_pos (by omega), if_neg (by omega), hpv]
      cases h : piv n W c with
      | none =>
        rw [h, Option.getD_none] at head
        rw [gRun_n (s := (W, V)) h]
        refine ⟨f, g, fun F hF => ⟨?_, fun z => by cases z⟩⟩
        obtain ⟨F, rfl⟩ : ∃ F', F = F' + 1 := ⟨F - 1, by omega⟩
        have e : X12_turnBack_b48 113 n (c : Int) (wA (wA D 138 f) 139 g) = some (.inr (.inr ((0 : Int), wA (wA D 138 f) 139 g))) := by
          rw [head]
          unfold X12_turnBack_j79_48
          rw [gd_pos (by omega), if_pos rfl]
        unfold wl9
        show (match X12_turnBack_b48 113 n (c : Int) (wA (wA D 138 f) 139 g) with | _ => _) = _
        rw [e]
        rfl
      | some a =>
        rw [h, Option.getD_some] at head
        obtain ⟨s1, s2, s3, s4⟩ := piv_some h
        have hx := xr_piv h bW
        have hcn : c < n := by omega
        rw [gRun_s (s := (W, V)) h]
        -- the rows exchanged, or a is c
        have ex : ∃ f1 g1, X12_turnBack_j79_48 113 n c (a : Int) (wA (wA D 138 f) 139 g) = X12_turnBack_j98_48 113 n c (wA (wA D 138 f1) 139 g1) ∧ Ms n f1 (xr W a c) ∧ Ms n g1 (xr V a c) := by
          unfold X12_turnBack_j79_48
          rw [gd_pos (by omega), if_neg (by omega), gd_pos (by omega)]
          by_cases ca : a = c
          · rw [if_pos (by omega)]
            have xs : ∀ M : Mx, xr M a c = M := fun M => funext fun i => funext fun j => by
              unfold xr
              by_cases y : i = a
              · rw [if_pos y, y, ca]
              · rw [if_neg y, if_neg (fun z => y (z.trans ca.symm))]
            exact ⟨f, g, rfl, by rw [xs]; exact hW, by rw [xs]; exact hV⟩
          · rw [if_neg (by omega)]
            obtain ⟨f1, g1, e1, m1, m2⟩ := x12_swapR (D := D) hn s2 hcn hW hV
            exact ⟨f1, g1, by rw [bd_pos e1], m1, m2⟩
        obtain ⟨f1, g1, e1, m1, m2⟩ := ex
        have hivw := (hiv (xr W a c c c) hx.1 hx.2).1
        have bx := xr_b bW s2 hcn
        have bx2 := xr_b bV s2 hcn
        obtain ⟨f2, g2, e3, m3, m4⟩ := x12_scaleR (D := D) (p := p) (b := iv (xr W a c c c)) hn hcn m1 m2 bx bx2 (by rw [hD]; exact hp) h2 hp31 ⟨(by omega), (by omega)⟩
        obtain ⟨f3, g3, e5, m5, m6⟩ := x12_clearR (D := D) (p := p) hn hcn m3 m4 (sr_b bx (by omega)) (sr_b bx2 (by omega)) (by rw [hD]; exact hp) h2 hp31
        have hb := gst_b (b := iv (xr W a c c c)) (s := (W, V)) (show 0 < p by omega) bW bV s2 hcn
        obtain ⟨f', g', hF'⟩ := ih (c + 1) f3 g3 (gst p (W, V) c a (iv (xr W a c c c))).1 (gst p (W, V) c a (iv (xr W a c c c))).2 (by omega) m5 m6 hb.1 hb.2
        refine ⟨f', g', fun F hF => ?_⟩
        obtain ⟨F, rfl⟩ : ∃ F', F = F' + 1 := ⟨F - 1, by omega⟩
        have e : X12_turnBack_b48 113 n (c : Int) (wA (wA D 138 f) 139 g) = some (.inl (((c + 1 : Nat) : Int), wA (wA D 138 f3) 139 g3)) := by
          rw [head, e1]
          unfold X12_turnBack_j98_48
          have ecc : ((5 * (c : Int)) + (c : Int)).toNat = 5 * c + c := by omega
          rw [gd_pos (by omega), ecc, a8, m1 c c hcn hcn, b1_pos (x12_tb hiv (p4 _ _) h2 hp31 hx.1 hx.2), bd_pos e3, e5]
          rfl
        obtain ⟨q1, q2⟩ := hF' F (by omega)
        refine ⟨?_, q2⟩
        unfold wl9
        show (match X12_turnBack_b48 113 n (c : Int) (wA (wA D 138 f) 139 g) with | _ => _) = _
        rw [e]
        exact q1
  obtain ⟨g0, e2, m0⟩ := x12_unit (D := wA D 138 (d.1 138)) (n := n) (f := d.1 139) hn
  have hd : wA (wA D 138 (d.1 138)) 139 (d.1 139) = d := by
    rw [hD, wA_same, wA_same]
  rw [hd] at e2
  obtain ⟨f', g', h⟩ := go n 0 (d.1 138) g0 M id9 (by omega) hM m0 bM (id9_b h2)
  obtain ⟨q1, q2⟩ := h FUEL (by unfold FUEL; omega)
  refine ⟨f', g', ?_, q2⟩
  unfold X12_turnBack
  rw [e2]
  unfold X12_turnBack_j46 lpR
  rw [show ((0 : Int), wA (wA D 138 (d.1 138)) 139 g0) = (((0 : Nat) : Int), wA (wA D 138 (d.1 138)) 139 g0) from rfl, q1, hD]
  by_cases c : (gRun p n iv n 0 (M, id9)).1 = true
  · rw [if_pos c, if_pos c]
  · rw [if_neg c, if_neg c]

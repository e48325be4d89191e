/-! ===== a column cleared; the class's turning back ===== -/
theorem w2_a {D : DA} {a b : Nat} {f g : Nat → Int} (h : a ≠ b) : (wA (wA D a f) b g).1 a = f := by rw [wA_ne h, wA_at]
theorem w2_b {D : DA} {a b : Nat} {f g : Nat → Int} : (wA (wA D a f) b g).1 b = g := wA_at
theorem w2_o {D : DA} {a b c : Nat} {f g : Nat → Int} (h1 : c ≠ a) (h2 : c ≠ b) : (wA (wA D a f) b g).1 c = D.1 c := by rw [wA_ne h2, wA_ne h1]
theorem w2_wa {D : DA} {a b k : Nat} {f g : Nat → Int} {v : Int} (h : a ≠ b) : wI (wA (wA D a f) b g) a k v = wA (wA D a (fu f k v)) b g := by
  refine Prod.ext (funext fun c => ?_) rfl
  by_cases e : c = a
  · subst e
    rw [wI_at, w2_a h, w2_a h]
  · rw [wI_ne e]
    by_cases e2 : c = b
    · subst e2; rw [w2_b, w2_b]
    · rw [w2_o e e2, w2_o e e2]
theorem w2_wb {D : DA} {a b k : Nat} {f g : Nat → Int} {v : Int} : wI (wA (wA D a f) b g) b k v = wA (wA D a f) b (fu g k v) := wA_wI
theorem w2_sw {D : DA} {a b : Nat} {f g : Nat → Int} (h : a ≠ b) : wA (wA D a f) b g = wA (wA D b g) a f := by
  refine Prod.ext (funext fun c => ?_) rfl
  by_cases e : c = a
  · subst e
    rw [w2_a h, w2_b]
  · by_cases e2 : c = b
    · subst e2; rw [w2_b, w2_a (Ne.symm h)]
    · rw [w2_o e e2, w2_o e2 e]
/-- rows before i done, and of row i the columns before m -/
def Rj (n i m : Nat) (f : Nat → Int) (M M' : Mx) : Prop := ∀ i' j, i' < n → j < n → f (5 * i' + j) = if i' < i ∨ (i' = i ∧ j < m) then M' i' j else M i' j
theorem Rj.z {n : Nat} {f : Nat → Int} {M M' : Mx} (h : Ms n f M) : Rj n 0 0 f M M' := fun i j hi hj => by rw [if_neg (by omega)]; exact h i j hi hj
theorem Rj.e {n : Nat} {f : Nat → Int} {M M' : Mx} (h : Rj n n 0 f M M') : Ms n f M' := fun i j hi hj => by rw [h i j hi hj, if_pos (Or.inl hi)]
theorem Rj.nx {n i : Nat} {f : Nat → Int} {M M' : Mx} (h : Rj n i n f M M') : Rj n (i + 1) 0 f M M' := fun i' j hi hj => by
  rw [h i' j hi hj]
  by_cases c : i' < i ∨ (i' = i ∧ j < n)
  · rw [if_pos c, if_pos (by omega)]
  · rw [if_neg c, if_neg (by omega)]
theorem Rj.skip {n i : Nat} {f : Nat → Int} {M M' : Mx} (h : Rj n i 0 f M M') (e : ∀ j, j < n → M' i j = M i j) : Rj n (i + 1) 0 f M M' := fun i' j hi hj => by
  rw [h i' j hi hj]
  by_cases c : i' < i
  · rw [if_pos (Or.inl c), if_pos (by omega)]
  · by_cases c2 : i' = i
    · subst c2; rw [if_neg (by omega), if_pos (by omega), e j hj]
    · rw [if_neg (by omega), if_neg (by omega)]
theorem Rj.put {n i m : Nat} {f : Nat → Int} {M M' : Mx} {v : Int} (hn : n ≤ 5) (h : Rj n i m f M M') (hm : m < n) (hv : v = M' i m) : Rj n i (m + 1) (fu f (5 * i + m) v) M M' := fun i' j hi hj => by
  rw [fu_app]
  by_cases c : 5 * i' + j = 5 * i + m
  · obtain ⟨rfl, rfl⟩ := (ij5 (by omega) (by omega)).mp c
    rw [if_pos rfl, if_pos (by omega), hv]
  · rw [if_neg c, h i' j hi hj]
    have : ¬ (i' = i ∧ j = m) := fun z => c (by rw [z.1, z.2])
    by_cases c2 : i' < i ∨ (i' = i ∧ j < m)
    · rw [if_pos c2, if_pos (by omega)]
    · rw [if_neg c2, if_neg (by omega)]
theorem cr_c {p : Nat} {M W : Mx} {c j : Nat} : cr p M W c c j = M c j := if_pos rfl
theorem Rj.c {p n i m c j : Nat} {f : Nat → Int} {M W : Mx} (h : Rj n i m f M (cr p M W c)) (hc : c < n) (hj : j < n) : f (5 * c + j) = M c j := by
  rw [h c j hc hj, cr_c]
  split <;> rfl
theorem Rj.at {n i m j : Nat} {f : Nat → Int} {M M' : Mx} (h : Rj n i m f M M') (hi : i < n) (hm : m ≤ j) (hj : j < n) : f (5 * i + j) = M i j := by
  rw [h i j hi hj, if_neg (by omega)]
theorem x3_clear {D : DA} {c0 n0 n c p : Nat} {f g : Nat → Int} {W V : Mx} (hn : n ≤ 5) (h25 : 25 ≤ n0) (h31 : n0 < 2147483648) (hc : c < n) (hW : Ms n f W) (hV : Ms n g V) (bW : Mb p n W) (bV : Mb p n V) (hp : D.1 58 0 = p) (h2 : 2 ≤ p) (hp31 : p ≤ 31) (h58 : c0 ≠ 58) (h60 : c0 ≠ 60) : ∃ f' g', X3_clearColumn 58 c0 n0 c n (wA (wA D 60 f) c0 g) = some ((), wA (wA D 60 f') c0 g') ∧ Ms n f' (cr p W W c) ∧ Ms n g' (cr p V W c) := by
  have p58 : ∀ f g, (wA (wA D 60 f) c0 g).1 58 0 = p := fun f g => by rw [w2_o (by decide) (Ne.symm h58)]; exact hp
  have h60' : (60 : Nat) ≠ c0 := Ne.symm h60
  obtain ⟨d', e1, f', g', e2, e3, e4⟩ := lev9i (b := fun q => X3_clearColumn_b3 58 c0 n0 c n q.1 q.2) (P := fun m E => ∃ f' g', E = wA (wA D 60 f') c0 g' ∧ Rj n m 0 f' W (cr p W W c) ∧ Rj n m 0 g' V (cr p V W c)) (r := n) (by omega) (fun i E hi hP => by
    obtain ⟨f', g', rfl, r1, r2⟩ := hP
    have ei : ((5 * (i : Int)) + (c : Int)).toNat = 5 * i + c := by omega
    have a60 : (wA (wA D 60 f') c0 g').1 (58 + 2) = f' := w2_a h60'
    have vi := r1.at hi (Nat.zero_le _) hc
    have bi := bW i c hi hc
    by_cases c1 : i = c
    · refine ⟨wA (wA D 60 f') c0 g', ?_, f', g', rfl, r1.skip (fun j hj => by rw [c1]; exact cr_c), r2.skip (fun j hj => by rw [c1]; exact cr_c)⟩
      show X3_clearColumn_b3 58 c0 n0 c n (i : Int) _ = _
      unfold X3_clearColumn_b3
      rw [gd_pos (by omega), if_neg (by omega), gd_pos (by omega), lt_pos, gd_pos (by omega), if_pos (by omega)]
    · by_cases c2 : W i c = 0
      · have sk : ∀ (M : Mx), Mb p n M → ∀ j, j < n → cr p M W c i j = M i j := fun M hB j hj => by
          have := hB i j hi hj
          unfold cr
          rw [if_neg c1, c2, Int.sub_zero]
          refine cgm.eq (p := p) ?_ (em_bd (by omega) _) this
          exact (cgm.em _).tr ⟨M c j, by omega⟩
        refine ⟨wA (wA D 60 f') c0 g', ?_, f', g', rfl, r1.skip (sk W bW), r2.skip (sk V bV)⟩
        show X3_clearColumn_b3 58 c0 n0 c n (i : Int) _ = _
        unfold X3_clearColumn_b3
        rw [gd_pos (by omega), if_neg (by omega), gd_pos (by omega), lt_pos, gd_pos (by omega), if_neg (by omega), ei, a60, vi, gd_pos (by omega), if_pos c2]
      · obtain ⟨d2, k1, f2, g2, k2, k3, k4⟩ := lev9i (b := fun q => X3_clearColumn_b36 58 c0 n0 c n i (W i c) q.1 q.2) (P := fun m E => ∃ f' g', E = wA (wA D 60 f') c0 g' ∧ Rj n i m f' W (cr p W W c) ∧ Rj n i m g' V (cr p V W c)) (r := n) (by omega) (fun m E hm hP => by
          obtain ⟨f', g', rfl, r1, r2⟩ := hP
          have ei : ((5 * (i : Int)) + (m : Int)).toNat = 5 * i + m := by omega
          have ec : ((5 * (c : Int)) + (m : Int)).toNat = 5 * c + m := by omega
          have a60 : ∀ f' : Nat → Int, (wA (wA D 60 f') c0 g').1 (58 + 2) = f' := fun f' => w2_a h60'
          have v1 := r1.at hi (Nat.le_refl _) hm
          have v2 := r2.at hi (Nat.le_refl _) hm
          have u1 := r1.c hc hm
          have u2 := r2.c hc hm
          have b1 := bW i m hi hm
          have b2 := bV i m hi hm
          have b3 := bW c m hc hm
          have b4 := bV c m hc hm
          have q1 := mlb9 (u := 31) (v := 30) (show 0 ≤ (p : Int) - W i c ∧ (p : Int) - W i c ≤ 31 by omega) (show 0 ≤ W c m ∧ W c m ≤ 30 by omega)
          have q2 := mlb9 (u := 31) (v := 30) (show 0 ≤ (p : Int) - W i c ∧ (p : Int) - W i c ≤ 31 by omega) (show 0 ≤ V c m ∧ V c m ≤ 30 by omega)
          have cW : cr p W W c i m = (W i m + ((p : Int) - W i c) * W c m) % (p : Int) := if_neg c1
          have cV : cr p V W c i m = (V i m + ((p : Int) - W i c) * V c m) % (p : Int) := if_neg c1
          refine ⟨wA (wA D 60 (fu f' (5 * i + m) (cr p W W c i m))) c0 (fu g' (5 * i + m) (cr p V W c i m)), ?_, _, _, rfl, r1.put hn hm rfl, r2.put hn hm rfl⟩
          show X3_clearColumn_b36 58 c0 n0 c n i (W i c) (m : Int) _ = _
          unfold X3_clearColumn_b36
          rw [gd_pos (by omega), if_neg (by omega), gd_pos (by omega), gd_pos (by omega), ei, ec, a60, v1, u1, p58, b1_pos (x3_reduce (p58 _ _) h2 hp31 (by omega) (by omega)), gd_pos (by omega), lt_pos, ← cW]
          have e60 : wI (wA (wA D 60 f') c0 g') (58 + 2) (5 * i + m) (cr p W W c i m) = wA (wA D 60 (fu f' (5 * i + m) (cr p W W c i m))) c0 g' := w2_wa h60'
          rw [e60, gd_pos (by omega), gd_pos (by omega), w2_b, v2, u2, p58, b1_pos (x3_reduce (p58 _ _) h2 hp31 (by omega) (by omega)), gd_pos (by omega), lt_pos, ← cV, w2_wb]) (fun E hP => by
          show X3_clearColumn_b36 58 c0 n0 c n i (W i c) (n : Int) E = _
          unfold X3_clearColumn_b36
          rw [gd_pos (by omega), if_pos (by omega)]) (d := wA (wA D 60 f') c0 g') ⟨f', g', rfl, r1, r2⟩
        refine ⟨d2, ?_, f2, g2, k2, k3.nx, k4.nx⟩
        show X3_clearColumn_b3 58 c0 n0 c n (i : Int) _ = _
        unfold X3_clearColumn_b3
        rw [gd_pos (by omega), if_neg (by omega), gd_pos (by omega), lt_pos, gd_pos (by omega), if_neg (by omega), ei, a60, vi, gd_pos (by omega), if_neg c2, k1]) (fun E hP => by
    show X3_clearColumn_b3 58 c0 n0 c n (n : Int) E = _
    unfold X3_clearColumn_b3
    rw [gd_pos (by omega), if_pos (by omega)]) (d := wA (wA D 60 f) c0 g) ⟨f, g, rfl, Rj.z hW, Rj.z hV⟩
  subst e2
  exact ⟨f', g', e1 _, e3.e, e4.e⟩
/-- what the inverses are -/
def IvG (p : Nat) (iv : Int → Int) : Prop := ∀ v : Int, 1 ≤ v → v < p → (1 ≤ iv v ∧ iv v < p) ∧ cgm p (v * iv v) 1
theorem gst_b {p n c a : Nat} {b : Int} {s : Mx × Mx} (hp : 0 < p) (h1 : Mb p n s.1) (h2 : Mb p n s.2) (ha : a < n) (hc : c < n) : Mb p n (gst p s c a b).1 ∧ Mb p n (gst p s c a b).2 := ⟨cr_b (sr_b (xr_b h1 ha hc) hp) hp, cr_b (sr_b (xr_b h2 ha hc) hp) hp⟩
/-- the search for a pivot -/
theorem piv_for {b : Int → Option (Int ⊕ Int)} {n c : Nat} {W : Mx} (hn : n ≤ 5) (hc : c ≤ n) (hb : ∀ i : Nat, c ≤ i → i < n → b i = if W i c = 0 then some (.inl ((i : Int) + 1)) else some (.inr (i : Int))) (he : b (n : Int) = some (.inr (n : Int))) {Y : Type} {k : Int → Option Y} : lpE b (c : Int) k = k (((piv n W c).getD n : Nat) : Int) := by
  cases h : piv n W c with
  | none =>
    have hz := piv_none h
    refine lpE_for (fun m => ((c + m : Nat) : Int)) (n - c) _ rfl (by omega) (fun m hm => ?_) ?_
    · show b ((c + m : Nat) : Int) = _
      rw [hb (c + m) (by omega) (by omega), if_pos (hz _ (by omega) (by omega))]; rfl
    · show b ((c + (n - c) : Nat) : Int) = _
      rw [show c + (n - c) = n by omega, he]; rfl
  | some a =>
    obtain ⟨h1, h2, h3, h4⟩ := piv_some h
    refine lpE_for (fun m => ((c + m : Nat) : Int)) (a - c) _ rfl (by omega) (fun m hm => ?_) ?_
    · show b ((c + m : Nat) : Int) = _
      rw [hb (c + m) (by omega) (by omega), if_pos (h4 _ (by omega) (by omega))]; rfl
    · show b ((c + (a - c) : Nat) : Int) = _
      rw [show c + (a - c) = a by omega, hb a h1 h2, if_neg h3]; rfl
theorem id9_b {p n : Nat} (hp : 2 ≤ p) : Mb p n id9 := fun i j hi hj => by
  unfold id9
  by_cases c : i = j
  · rw [if_pos c]; omega
  · rw [if_neg c]; omega
/-- the pivot, after the exchange, is not 0 -/
theorem xr_piv {p n c a : Nat} {W : Mx} (h : piv n W c = some a) (hB : Mb p n W) : 1 ≤ xr W a c c c ∧ xr W a c c c < p := by
  obtain ⟨h1, h2, h3, h4⟩ := piv_some h
  have e : xr W a c c c = W a c := by
    unfold xr
    by_cases e : c = a
    · rw [if_pos e, ← e]
    · rw [if_neg e, if_pos rfl]
  rw [e]
  have := hB a c h2 (by omega)
  omega
theorem x3_gauss {D : DA} {a1 n1 c0 n0 n p : Nat} {f g : Nat → Int} {W V : Mx} {iv : Int → Int} (hn : n ≤ 5) (h25 : 25 ≤ n0) (h31 : n0 < 2147483648) (hW : Ms n f W) (hV : Ms n g V) (bW : Mb p n W) (bV : Mb p n V) (hp : D.1 58 0 = p) (h2 : 2 ≤ p) (hp31 : p ≤ 31) (h58 : c0 ≠ 58) (h59 : c0 ≠ 59) (h60 : c0 ≠ 60) (hiv : IvG p iv) (h9 : ∀ j : Nat, 1 ≤ j → j < p → D.1 59 j = iv j) : ∃ f' g', lpR (fun q => X3_turnBack_b23 58 a1 n1 c0 n0 n q.1 q.2) (0, wA (wA D 60 f) c0 g) (fun e => some ((1 : Int), e)) (fun r => some r) = some ((if (gRun p n iv n 0 (W, V)).1 = true then 1 else 0), wA (wA D 60 f') c0 g') ∧ ((gRun p n iv n 0 (W, V)).1 = true → Ms n g' (gRun p n iv n 0 (W, V)).2.2) := by
  have h60' : (60 : Nat) ≠ c0 := Ne.symm h60
  have go : ∀ k c f g W V, c + k = n → Ms n f W → Ms n g V → Mb p n W → Mb p n V → ∃ f' g', ∀ F, k < F → wl9 (fun q => X3_turnBack_b23 58 a1 n1 c0 n0 n q.1 q.2) F ((c : Int), wA (wA D 60 f) c0 g) = some (if (gRun p n iv k c (W, V)).1 = true then .inl (wA (wA D 60 f') c0 g') else .inr ((0 : Int), wA (wA D 60 f') c0 g')) ∧ ((gRun p n iv k c (W, V)).1 = true → Ms n g' (gRun p n iv k c (W, V)).2.2) := by
    intro k
    induction k with
    | zero =>
      intro c f g W V hc hW hV bW bV
      refine ⟨f, g, fun F hF => ?_⟩
      obtain ⟨F, rfl⟩ : ∃ F', F = F' + 1 := ⟨F - 1, by omega⟩
      refine ⟨?_, fun _ => hV⟩
      have e : X3_turnBack_b23 58 a1 n1 c0 n0 n (c : Int) (wA (wA D 60 f) c0 g) = some (.inr (.inl (wA (wA D 60 f) c0 g))) := by
        unfold X3_turnBack_b23
        rw [gd_pos (by omega), if_pos (by omega)]
      unfold wl9
      show (match X3_turnBack_b23 58 a1 n1 c0 n0 n (c : Int) (wA (wA D 60 f) c0 g) with | _ => _) = _
      rw [e]
      rfl
    | succ k ih =>
      intro c f g W V hc hW hV bW bV
      have a60 : ∀ (D : DA) (f g : Nat → Int), (wA (wA D 60 f) c0 g).1 (58 + 2) = f := fun D f g => w2_a h60'
      have hpv : ∀ {Y : Type} (k : Int → Option Y), lpE (fun q => X3_turnBack_b33 58 a1 n1 c0 n0 n c q (wA (wA D 60 f) c0 g)) (c : Int) k = k (((piv n W c).getD n : Nat) : Int) := fun {Y} k => by
        refine piv_for hn (by omega) (fun i h1 h2 => ?_) ?_
        · show X3_turnBack_b33 58 a1 n1 c0 n0 n c (i : Int) _ = _
          unfold X3_turnBack_b33
          have ei : ((5 * (i : Int)) + (c : Int)).toNat = 5 * i + c := by omega
          have := bW i c h2 (by omega)
          rw [gd_pos (by omega), if_neg (by omega), gd_pos (by omega), ei, a60, hW i c h2 (by omega), gd_pos (by omega)]
        · show X3_turnBack_b33 58 a1 n1 c0 n0 n c (n : Int) _ = _
          unfold X3_turnBack_b33
          rw [gd_pos (by omega), if_pos (by omega)]
      have head : X3_turnBack_b23 58 a1 n1 c0 n0 n (c : Int) (wA (wA D 60 f) c0 g) = X3_turnBack_j60_23 58 a1 n1 c0 n0 n c (((piv n W c).getD n : Nat) : Int) (wA (wA D 60 f) c0 g) := by
        unfold X3_turnBack_b23
        rw [gd_pos (by omega), if_neg (by omega), hpv]
      cases h : piv n W c with
      | none =>
        rw [h] at head
        rw [gRun_n (s := (W, V)) h]
        refine ⟨f, g, fun F hF => ⟨?_, fun z => by cases z⟩⟩
        obtain ⟨F, rfl⟩ : ∃ F', F = F' + 1 := ⟨F - 1, by omega⟩
        have e : X3_turnBack_b23 58 a1 n1 c0 n0 n (c : Int) (wA (wA D 60 f) c0 g) = some (.inr (.inr ((0 : Int), wA (wA D 60 f) c0 g))) := by
          rw [head]
          unfold X3_turnBack_j60_23
          show gd (inR (n : Int) ∧ inR (n : Int)) _ = _
          rw [gd_pos (by omega), if_neg (by show ¬ (n : Int) < (n : Int); omega)]
        unfold wl9
        show (match X3_turnBack_b23 58 a1 n1 c0 n0 n (c : Int) (wA (wA D 60 f) c0 g) with | _ => _) = _
        rw [e]
        rfl
      | some a =>
        rw [h, Option.getD_some] at head
        obtain ⟨s1, s2, s3, s4⟩ := piv_some h
        have hx := xr_piv h bW
        have hcn : c < n := by omega
        rw [gRun_s (s := (W, V)) h]
        obtain ⟨f1, e1, m1⟩ := x3_exch (D := wA D c0 g) (c0 := 60) (n0 := 25) hn (Nat.le_refl _) (by omega) s2 hcn hW
        rw [← w2_sw h60', ← w2_sw h60'] at e1
        obtain ⟨g1, e2, m2⟩ := x3_exch (D := wA D 60 f1) (c0 := c0) (n0 := n0) hn h25 h31 s2 hcn hV
        obtain ⟨w, hw⟩ : ∃ w : Nat, xr W a c c c = w := ⟨(xr W a c c c).toNat, by omega⟩
        have hivw := (hiv (xr W a c c c) hx.1 hx.2).1
        have bx := xr_b bW s2 hcn
        have bx2 := xr_b bV s2 hcn
        obtain ⟨f2, e3, m3⟩ := x3_scale (D := wA D c0 g1) (c0 := 60) (n0 := 25) (p := p) (b := iv (xr W a c c c)) hn (Nat.le_refl _) (by omega) hcn m1 bx (by rw [wA_ne (Ne.symm h58)]; exact hp) h2 hp31 (by decide) ⟨(by omega), (by omega)⟩
        rw [← w2_sw h60', ← w2_sw h60'] at e3
        obtain ⟨g2, e4, m4⟩ := x3_scale (D := wA D 60 f2) (c0 := c0) (n0 := n0) (p := p) (b := iv (xr W a c c c)) hn h25 h31 hcn m2 bx2 (by rw [wA_ne (by decide)]; exact hp) h2 hp31 h58 ⟨(by omega), (by omega)⟩
        obtain ⟨f3, g3, e5, m5, m6⟩ := x3_clear (D := D) (c0 := c0) (n0 := n0) (p := p) hn h25 h31 hcn m3 m4 (sr_b bx (by omega)) (sr_b bx2 (by omega)) hp h2 hp31 h58 h60
        have hb := gst_b (b := iv (xr W a c c c)) (s := (W, V)) (show 0 < p by omega) bW bV s2 hcn
        obtain ⟨f', g', hF'⟩ := ih (c + 1) f3 g3 (gst p (W, V) c a (iv (xr W a c c c))).1 (gst p (W, V) c a (iv (xr W a c c c))).2 (by omega) m5 m6 hb.1 hb.2
        refine ⟨f', g', fun F hF => ?_⟩
        obtain ⟨F, rfl⟩ : ∃ F', F = F' + 1 := ⟨F - 1, by omega⟩
        have e : X3_turnBack_b23 58 a1 n1 c0 n0 n (c : Int) (wA (wA D 60 f) c0 g) = some (.inl (((c + 1 : Nat) : Int), wA (wA D 60 f3) c0 g3)) := by
          rw [head]
          unfold X3_turnBack_j60_23
          have ecc : ((5 * (c : Int)) + (c : Int)).toNat = 5 * c + c := by omega
          have vcc : f1 (5 * c + c) = w := (m1 c c hcn hcn).trans hw
          have v59 : (wA (wA D 60 f1) c0 g1).1 (58 + 1) w = iv (xr W a c c c) := by
            show (wA (wA D 60 f1) c0 g1).1 59 w = _
            rw [w2_o (by decide) (Ne.symm h59), h9 w (by omega) (by omega), hw]
          have e1' : X3_exchangeRows (58 + 2) 25 a c n (wA (wA D 60 f) c0 g) = some ((), wA (wA D 60 f1) c0 g) := e1
          rw [gd_pos (by omega), if_pos (show (a : Int) < (n : Int) by omega)]
          have e3' : X3_scaleRow 58 (58 + 2) 25 c (iv (xr W a c c c)) n (wA (wA D 60 f1) c0 g1) = some ((), wA (wA D 60 f2) c0 g1) := e3
          rw [bd_pos e1', bd_pos e2, gd_pos (by omega), ecc, a60, vcc, gd_pos (by omega), lt_pos, Int.toNat_natCast, v59, bd_pos e3', bd_pos e4, bd_pos e5]
          rfl
        obtain ⟨q1, q2⟩ := hF' F (by omega)
        refine ⟨?_, q2⟩
        unfold wl9
        show (match X3_turnBack_b23 58 a1 n1 c0 n0 n (c : Int) (wA (wA D 60 f) c0 g) with | _ => _) = _
        rw [e]
        exact q1
  obtain ⟨f', g', h⟩ := go n 0 f g W V (by omega) hW hV bW bV
  obtain ⟨q1, q2⟩ := h FUEL (by unfold FUEL; omega)
  refine ⟨f', g', ?_, q2⟩
  unfold lpR
  rw [show ((0 : Int), wA (wA D 60 f) c0 g) = (((0 : Nat) : Int), wA (wA D 60 f) c0 g) from rfl, q1]
  by_cases c : (gRun p n iv n 0 (W, V)).1 = true
  · rw [if_pos c, if_pos c]
  · rw [if_neg c, if_neg c]

/-! ===== shapes: the class's loops ===== -/
theorem PN.bd {d0 d : DA} {m : Nat} {x : Nat → Nat} {s : Ac9} (h : PN d0 m x s d) {n F R : Nat → Int} {r p : Nat} (hD : CD d0 n F R r p) : d.1 5 0 = r ∧ d.1 6 = n := ⟨(h.1.D hD).1, (h.1.D hD).2.1⟩
/-- data fixed for the loops -/
def CE (d0 : DA) (n F R : Nat → Int) (r p : Nat) : Prop := CD d0 n F R r p ∧ TG n r ∧ r ≤ 3 ∧ (2 ≤ p ∧ p ≤ 31) ∧ ∀ a b c e g h, a < r → b < r → c < r → e < r → g < r → h < r → 0 ≤ F (six a b c e g h) ∧ F (six a b c e g h) < p
theorem CE.n9 {d0 : DA} {n F R : Nat → Int} {r p : Nat} (h : CE d0 n F R r p) {a b c : Nat} (ha : a < r) (hb : b < r) (hc : c < r) : 0 ≤ n (ti a b c) ∧ n (ti a b c) ≤ 9 := by
  have := h.2.2.1
  exact h.2.1.2.1 _ (ti_lt (by omega) (by omega) (by omega))
theorem lev9i {E : Type} {b : Int × E → Option ((Int × E) ⊕ E)} {P : Nat → E → Prop} {r : Nat} (hr : r < 4000000) (hb : ∀ (v : Nat) d, v < r → P v d → ∃ d', b ((v : Int), d) = some (.inl ((v : Int) + 1, d')) ∧ P (v + 1) d') (he : ∀ d, P r d → b ((r : Int), d) = some (.inr d)) {d : E} (h : P 0 d) : ∃ d', (∀ {Y : Type} (k : E → Option Y), lpE b (0, d) k = k d') ∧ P r d' := by
  have go : ∀ m, m ≤ r → ∃ e : Nat → E, e 0 = d ∧ (∀ i, i < m → b ((i : Int), e i) = some (.inl ((i : Int) + 1, e (i + 1)))) ∧ P m (e m) := by
    intro m
    induction m with
    | zero => intro _; exact ⟨fun _ => d, rfl, fun i hi => absurd hi (Nat.not_lt_zero _), h⟩
    | succ m ih =>
      intro hm
      obtain ⟨e, h0, h1, h2⟩ := ih (by omega)
      obtain ⟨d', h3, h4⟩ := hb m _ (by omega) h2
      refine ⟨fun i => if i ≤ m then e i else d', by show (if 0 ≤ m then e 0 else d') = d; rw [if_pos (Nat.zero_le _), h0], fun i hi => ?_, by show P _ (if m + 1 ≤ m then e (m + 1) else d'); rw [if_neg (by omega)]; exact h4⟩
      show b ((i : Int), if i ≤ m then e i else d') = some (.inl ((i : Int) + 1, if i + 1 ≤ m then e (i + 1) else d'))
      by_cases c : i = m
      · subst c
        rw [if_pos (Nat.le_refl _), if_neg (by omega)]; exact h3
      · rw [if_pos (by omega), if_pos (by omega)]; exact h1 i (by omega)
  obtain ⟨e, h0, h1, h2⟩ := go r (Nat.le_refl _)
  refine ⟨e r, fun {Y} k => ?_, h2⟩
  refine lpE_for (fun i => ((i : Int), e i)) r (e r) (by show _ = (((0 : Nat) : Int), e 0); rw [h0]; rfl) hr (fun i hi => ?_) (he _ h2)
  show b ((i : Int), e i) = some (.inl (((i + 1 : Nat) : Int), e (i + 1)))
  rw [h1 i hi]; rfl
/-- a level of a loop over kinds -/
theorem lvK {d0 : DA} {n F R : Nat → Int} {r p : Nat} (hE : CE d0 n F R r p) {b : Int × DA → Option ((Int × DA) ⊕ DA)} (bo : Int → DA → Option ((Int × DA) ⊕ DA)) {m K : Nat} {x : Nat → Nat} {G : Nat → Ac9 → Ac9} (hG : ∀ v m s, v < r → Bd9a m s → Bd9a (m + K) (G v s)) (hb : ∀ v d, b (v, d) = gd (inR v ∧ inR (d.1 5 0)) (if d.1 5 0 ≤ v then some (.inr d) else bo v d)) {M : Nat} (hM : M + 3 * K ≤ 90000) (ho : ∀ (v : Nat) s d, v < r → Bd9a (M + 2 * K) s → PN d0 m x s d → ∃ d', bo v d = some (.inl ((v : Int) + 1, d')) ∧ PN d0 m x (G v s) d') {s : Ac9} {d : DA} (hs : Bd9a M s) (h : PN d0 m x s d) : ∃ d', (∀ {Y : Type} (k : DA → Option Y), lpE b (0, d) k = k d') ∧ PN d0 m x (fo9 G r s) d' := by
  have h3 := hE.2.2.1
  have key := lev9i (b := b) (P := fun v d => Bd9a (M + v * K) (fo9 G v s) ∧ PN d0 m x (fo9 G v s) d) (r := r) (by omega) (fun v d hv hP => by
    obtain ⟨h1, h2⟩ := hP
    have hk : v * K ≤ 2 * K := Nat.mul_le_mul_right K (by omega)
    obtain ⟨d', e1, e2⟩ := ho v _ d hv (h1.up (by omega)) h2
    refine ⟨d', ?_, (hG v _ _ hv h1).up (by rw [Nat.succ_mul]; omega), e2⟩
    have := (h2.bd hE.1).1
    rw [hb, this, gd_pos (by omega), if_neg (by omega)]; exact e1) (fun d hP => by
    have := (hP.2.bd hE.1).1
    rw [hb, this, gd_pos (by omega), if_pos (by omega)]) (d := d) ⟨hs.up (by omega), h⟩
  obtain ⟨d', e1, e2⟩ := key
  exact ⟨d', e1, e2.2⟩
theorem spG_bd {r : Nat} {may : Nat → (Nat → Nat) → Bool} {S H : (Nat → Nat) → Bool} {n i : Nat} {x : Nat → Nat} (h3 : r ≤ 3) (v m : Nat) (s : Ac9) (hs : Bd9a m s) : Bd9a (m + 3 ^ n) (if may i (fu x i v) = true then sp9 r false may S H n (i + 1) (fu x i v) s else s) := by
  have hp : r ^ n ≤ 3 ^ n := Nat.pow_le_pow_left h3 n
  by_cases c : may i (fu x i v) = true
  · rw [if_pos c]; exact (sp9_bd _ _ _ _ _ hs).up (by omega)
  · rw [if_neg c]; exact hs.up (by omega)
theorem fu_ne {α : Type} {x : Nat → α} {i q : Nat} {v : α} (h : q ≠ i) : fu x i v q = x q := fu_n h
/-- the last kind -/
theorem lv8 {d0 d : DA} {n F R : Nat → Int} {r p k M : Nat} {x : Nat → Nat} {s : Ac9} (hE : CE d0 n F R r p) (hx : ∀ q, q < 7 → x q < r) (hk : k < r) (c1 : n (ti (x 0) (x 1) (x 5)) = 1) (c2 : n (ti (x 5) (x 2) (x 6)) = 1) (c3 : n (ti (x 6) (x 3) (x 4)) = 1) (c6 : n (ti (x 0) k (x 4)) = 1) (hM : M ≤ 80000) (hs : Bd9a M s) (h : PN d0 7 x s d) : ∃ d', (∀ {Y : Type} (f : DA → Option Y), lpE (fun q => X9_checkPentagonsWith_b39 11 58 k q.1 q.2) (0, d) f = f d') ∧ PN d0 7 x (sp9 r false (pnM n) (pnS n) (pnB F p r) 1 8 (fu x 7 k) s) d' := by
  have h3 := hE.2.2.1
  rw [sp9_f]
  refine lvK hE (fun v d => gd (ix 2 9) <| gd (ix 3 9) <| b1 (X8_at 5 (d.1 14 2) (d.1 14 3) v d) fun x2 => gd (inR x2 ∧ inR 1) <| if x2 = 1 then (gd (ix 1 9) <| b1 (X8_at 5 (d.1 14 1) v k d) fun x3 => gd (inR x3 ∧ inR 1) <| if x3 = 1 then (gd (ix 7 9) <| lt9 (wI d 14 7 k) fun d4 => gd (ix 8 9) <| lt9 (wI d4 14 8 v) fun d5 => bd (X9_checkPentagon 11 58 d5) fun _ d6 => some (.inl (v + 1, d6))) else some (.inl (v + 1, d))) else some (.inl (v + 1, d))) (K := 3 ^ 0) (fun v m s _ hs => spG_bd h3 v m s hs) (fun v d => rfl) (M := M) (by omega) (fun l s d hl hB hP => ?_) hs h
  have hn := (hP.bd hE.1).2
  have y1 := hP.2.2 1 (by omega)
  have y2 := hP.2.2 2 (by omega)
  have y3 := hP.2.2 3 (by omega)
  have b1 := hE.n9 (hx 2 (by omega)) (hx 3 (by omega)) hl
  have b2 := hE.n9 (hx 1 (by omega)) hl hk
  have x5 : ∀ q, q < 7 → x q < 5 := fun q hq => by have := hx q hq; omega
  rw [if_pos (show pnM n 8 (fu (fu x 7 k) 8 l) = true from rfl), sp9_z]
  have xe : ∀ q, q < 7 → fu (fu x 7 k) 8 l q = x q := fun q hq => by rw [fu_ne (by omega), fu_ne (by omega)]
  have x7 : fu (fu x 7 k) 8 l 7 = k := by rw [fu_ne (by omega), fu_app, if_pos rfl]
  have x8 : fu (fu x 7 k) 8 l 8 = l := by rw [fu_app, if_pos rfl]
  have eS : pnS n (fu (fu x 7 k) 8 l) = decide (n (ti (x 2) (x 3) l) = 1 ∧ n (ti (x 1) l k) = 1) := by
    unfold pnS
    rw [xe 0 (by omega), xe 1 (by omega), xe 2 (by omega), xe 3 (by omega), xe 4 (by omega), xe 5 (by omega), xe 6 (by omega), x7, x8]
    by_cases z : n (ti (x 2) (x 3) l) = 1 ∧ n (ti (x 1) l k) = 1
    · rw [decide_eq_true z, decide_eq_true ⟨c1, c2, c3, z.1, z.2, c6⟩]
    · rw [decide_eq_false z, decide_eq_false (fun y => z ⟨y.2.2.2.1, y.2.2.2.2.1⟩)]
  rw [eS]
  simp only [gd_pos (show ix 2 9 by decide), gd_pos (show ix 3 9 by decide), gd_pos (show ix 1 9 by decide), gd_pos (show ix 7 9 by decide), gd_pos (show ix 8 9 by decide), lt_pos, y1, y2, y3]
  rw [b1_pos (x8_at9 hn (x5 2 (by omega)) (x5 3 (by omega)) (by omega)), gd_pos (by omega)]
  by_cases z1 : n (ti (x 2) (x 3) l) = 1
  · rw [if_pos z1, b1_pos (x8_at9 hn (x5 1 (by omega)) (by omega) (by omega)), gd_pos (by omega)]
    by_cases z2 : n (ti (x 1) l k) = 1
    · rw [if_pos z2, decide_eq_true ⟨z1, z2⟩]
      have hP8 : PN d0 8 (fu x 7 k) s (wI d 14 7 k) := hP.more
      have hP9 : PN d0 9 (fu (fu x 7 k) 8 l) s (wI (wI d 14 7 k) 14 8 l) := hP8.more
      obtain ⟨d', e1, e2⟩ := cpen hE.1 h3 hE.2.2.2.1.1 hE.2.2.2.1.2 hE.2.2.2.2 (fun q hq => by
        rcases (show q < 7 ∨ q = 7 ∨ q = 8 by omega) with c | rfl | rfl
        · rw [xe q c]; exact hx q c
        · rw [x7]; exact hk
        · rw [x8]; exact hl) (hB.up (by omega)) hP9
      rw [bd_pos e1]
      exact ⟨d', rfl, e2.less (by omega) (fun q hq => xe q hq)⟩
    · rw [if_neg z2, decide_eq_false (fun y => z2 y.2)]
      exact ⟨d, rfl, hP⟩
  · rw [if_neg z1, decide_eq_false (fun y => z1 y.1)]
    exact ⟨d, rfl, hP⟩
theorem lv7 {d0 d : DA} {n F R : Nat → Int} {r p M : Nat} {x : Nat → Nat} {s : Ac9} (hE : CE d0 n F R r p) (hx : ∀ q, q < 7 → x q < r) (c1 : n (ti (x 0) (x 1) (x 5)) = 1) (c2 : n (ti (x 5) (x 2) (x 6)) = 1) (c3 : n (ti (x 6) (x 3) (x 4)) = 1) (hM : M ≤ 70000) (hs : Bd9a M s) (h : PN d0 7 x s d) : ∃ d', X9_checkPentagonsWith 11 58 d = some ((), d') ∧ PN d0 7 x (sp9 r false (pnM n) (pnS n) (pnB F p r) 2 7 x s) d' := by
  have h3 := hE.2.2.1
  have key : ∃ d', (∀ {Y : Type} (f : DA → Option Y), lpE (fun q => X9_checkPentagonsWith_b2 11 58 q.1 q.2) (0, d) f = f d') ∧ PN d0 7 x (sp9 r false (pnM n) (pnS n) (pnB F p r) 2 7 x s) d' := by
    rw [sp9_f]
    refine lvK hE (fun v d => gd (ix 0 9) <| gd (ix 4 9) <| b1 (X8_at 5 (d.1 14 0) v (d.1 14 4) d) fun x1 => gd (inR x1 ∧ inR 1) <| if x1 = 1 then (lpE (fun q => X9_checkPentagonsWith_b39 11 58 v q.1 q.2) (0, d) (fun e => some (.inl (v + 1, e)))) else some (.inl (v + 1, d))) (K := 3 ^ 1) (fun v m s _ hs => spG_bd h3 v m s hs) (fun v d => rfl) (M := M) (by omega) (fun k s d hk hB hP => ?_) hs h
    have hn := (hP.bd hE.1).2
    have y0 := hP.2.2 0 (by omega)
    have y4 := hP.2.2 4 (by omega)
    have b1 := hE.n9 (hx 0 (by omega)) hk (hx 4 (by omega))
    have x5 : ∀ q, q < 7 → x q < 5 := fun q hq => by have := hx q hq; omega
    have eM : pnM n 7 (fu x 7 k) = decide (n (ti (x 0) k (x 4)) = 1) := by
      unfold pnM
      rw [if_neg (by decide), if_neg (by decide), if_pos rfl, fu_ne (show (0 : Nat) ≠ 7 by decide), fu_ne (show (4 : Nat) ≠ 7 by decide), fu_app, if_pos rfl]
    rw [eM]
    simp only [gd_pos (show ix 0 9 by decide), gd_pos (show ix 4 9 by decide), y0, y4]
    rw [b1_pos (x8_at9 hn (x5 0 (by omega)) (by omega) (x5 4 (by omega))), gd_pos (by omega)]
    by_cases z1 : n (ti (x 0) k (x 4)) = 1
    · rw [if_pos z1, decide_eq_true z1, if_pos rfl]
      obtain ⟨d', e1, e2⟩ := lv8 hE hx hk c1 c2 c3 z1 (M := M + 2 * 3 ^ 1) (by omega) hB hP
      rw [e1]
      exact ⟨d', rfl, e2⟩
    · rw [if_neg z1, decide_eq_false z1, if_neg (by decide)]
      exact ⟨d, rfl, hP⟩
  obtain ⟨d', e1, e2⟩ := key
  exact ⟨d', e1 _, e2⟩
theorem lv6 {d0 d : DA} {n F R : Nat → Int} {r p M : Nat} {x : Nat → Nat} {s : Ac9} (hE : CE d0 n F R r p) (hx : ∀ q, q < 6 → x q < r) (c1 : n (ti (x 0) (x 1) (x 5)) = 1) (hM : M ≤ 60000) (hs : Bd9a M s) (h : PN d0 4 x s d) : ∃ d', (∀ {Y : Type} (f : DA → Option Y), lpE (fun q => X9_checkPentagonsOf_b48 11 58 (x 0) (x 1) (x 2) (x 3) (x 4) (x 5) q.1 q.2) (0, d) f = f d') ∧ PN d0 4 x (sp9 r false (pnM n) (pnS n) (pnB F p r) 3 6 x s) d' := by
  have h3 := hE.2.2.1
  rw [sp9_f]
  refine lvK hE (fun v d => b1 (X8_at 5 (x 5) (x 2) v d) fun x2 => gd (inR x2 ∧ inR 1) <| if x2 = 1 then (b1 (X8_at 5 v (x 3) (x 4) d) fun x3 => gd (inR x3 ∧ inR 1) <| if x3 = 1 then (gd (ix 4 9) <| lt9 (wI d 14 4 (x 4)) fun d4 => gd (ix 5 9) <| lt9 (wI d4 14 5 (x 5)) fun d5 => gd (ix 6 9) <| lt9 (wI d5 14 6 v) fun d6 => bd (X9_checkPentagonsWith 11 58 d6) fun _ d7 => some (.inl (v + 1, d7))) else some (.inl (v + 1, d))) else some (.inl (v + 1, d))) (K := 3 ^ 2) (fun v m s _ hs => spG_bd h3 v m s hs) (fun v d => rfl) (M := M) (by omega) (fun g s d hg hB hP => ?_) hs h
  have hn := (hP.bd hE.1).2
  have b1 := hE.n9 (hx 5 (by omega)) (hx 2 (by omega)) hg
  have b2 := hE.n9 hg (hx 3 (by omega)) (hx 4 (by omega))
  have x5 : ∀ q, q < 6 → x q < 5 := fun q hq => by have := hx q hq; omega
  have xe : ∀ q, q < 6 → fu x 6 g q = x q := fun q hq => fu_ne (by omega)
  have x6 : fu x 6 g 6 = g := by rw [fu_app, if_pos rfl]
  have eM : pnM n 6 (fu x 6 g) = decide (n (ti (x 5) (x 2) g) = 1 ∧ n (ti g (x 3) (x 4)) = 1) := by
    unfold pnM
    rw [if_neg (by decide), if_pos rfl, xe 5 (by omega), xe 2 (by omega), xe 3 (by omega), xe 4 (by omega), x6]
  rw [eM]
  rw [b1_pos (x8_at9 hn (x5 5 (by omega)) (x5 2 (by omega)) (by omega)), gd_pos (by omega)]
  by_cases z1 : n (ti (x 5) (x 2) g) = 1
  · rw [if_pos z1, b1_pos (x8_at9 hn (by omega) (x5 3 (by omega)) (x5 4 (by omega))), gd_pos (by omega)]
    by_cases z2 : n (ti g (x 3) (x 4)) = 1
    · rw [if_pos z2, decide_eq_true ⟨z1, z2⟩, if_pos rfl]
      simp only [gd_pos (show ix 4 9 by decide), gd_pos (show ix 5 9 by decide), gd_pos (show ix 6 9 by decide), lt_pos]
      have hP7 : PN d0 7 (fu (fu (fu x 4 (x 4)) 5 (x 5)) 6 g) s (wI (wI (wI d 14 4 (x 4)) 14 5 (x 5)) 14 6 g) := hP.more.more.more
      have hxx : fu (fu (fu x 4 (x 4)) 5 (x 5)) 6 g = fu x 6 g := funext fun q => by
        rw [fu_app, fu_app, fu_app, fu_app]
        by_cases a : q = 6
        · rw [if_pos a, if_pos a]
        · rw [if_neg a, if_neg a]
          by_cases b : q = 5
          · rw [if_pos b, b]
          · rw [if_neg b]
            by_cases c : q = 4
            · rw [if_pos c, c]
            · rw [if_neg c]
      rw [hxx] at hP7
      obtain ⟨d', e1, e2⟩ := lv7 hE (fun q hq => by
        by_cases c : q = 6
        · subst c; rw [x6]; exact hg
        · rw [xe q (by omega)]; exact hx q (by omega)) (by rw [xe 0 (by omega), xe 1 (by omega), xe 5 (by omega)]; exact c1) (by rw [xe 5 (by omega), xe 2 (by omega), x6]; exact z1) (by rw [x6, xe 3 (by omega), xe 4 (by omega)]; exact z2) (M := M + 2 * 3 ^ 2) (by omega) hB hP7
      rw [bd_pos e1]
      exact ⟨d', rfl, e2.less (by omega) (fun q hq => xe q (by omega))⟩
    · rw [if_neg z2, decide_eq_false (fun y => z2 y.2), if_neg (by decide)]
      exact ⟨d, rfl, hP⟩
  · rw [if_neg z1, decide_eq_false (fun y => z1 y.1), if_neg (by decide)]
    exact ⟨d, rfl, hP⟩
theorem lv5 {d0 d : DA} {n F R : Nat → Int} {r p M : Nat} {x : Nat → Nat} {s : Ac9} (hE : CE d0 n F R r p) (hx : ∀ q, q < 5 → x q < r) (hM : M ≤ 50000) (hs : Bd9a M s) (h : PN d0 4 x s d) : ∃ d', (∀ {Y : Type} (f : DA → Option Y), lpE (fun q => X9_checkPentagonsOf_b18 11 58 (x 0) (x 1) (x 2) (x 3) (x 4) q.1 q.2) (0, d) f = f d') ∧ PN d0 4 x (sp9 r false (pnM n) (pnS n) (pnB F p r) 4 5 x s) d' := by
  have h3 := hE.2.2.1
  rw [sp9_f]
  refine lvK hE (fun v d => b1 (X8_at 5 (x 0) (x 1) v d) fun x1 => gd (inR x1 ∧ inR 1) <| if x1 = 1 then (lpE (fun q => X9_checkPentagonsOf_b48 11 58 (x 0) (x 1) (x 2) (x 3) (x 4) v q.1 q.2) (0, d) (fun e => some (.inl (v + 1, e)))) else some (.inl (v + 1, d))) (K := 3 ^ 3) (fun v m s _ hs => spG_bd h3 v m s hs) (fun v d => rfl) (M := M) (by omega) (fun f s d hf hB hP => ?_) hs h
  have hn := (hP.bd hE.1).2
  have b1 := hE.n9 (hx 0 (by omega)) (hx 1 (by omega)) hf
  have x5 : ∀ q, q < 5 → x q < 5 := fun q hq => by have := hx q hq; omega
  have xe : ∀ q, q < 5 → fu x 5 f q = x q := fun q hq => fu_ne (by omega)
  have xf : fu x 5 f 5 = f := by rw [fu_app, if_pos rfl]
  have eM : pnM n 5 (fu x 5 f) = decide (n (ti (x 0) (x 1) f) = 1) := by
    unfold pnM
    rw [if_pos rfl, xe 0 (by omega), xe 1 (by omega), xf]
  rw [eM, b1_pos (x8_at9 hn (x5 0 (by omega)) (x5 1 (by omega)) (by omega)), gd_pos (by omega)]
  by_cases z1 : n (ti (x 0) (x 1) f) = 1
  · rw [if_pos z1, decide_eq_true z1, if_pos rfl]
    obtain ⟨d', e1, e2⟩ := lv6 (x := fu x 5 f) hE (fun q hq => by
      by_cases c : q = 5
      · subst c; rw [xf]; exact hf
      · rw [xe q (by omega)]; exact hx q (by omega)) (by rw [xe 0 (by omega), xe 1 (by omega), xf]; exact z1) (M := M + 2 * 3 ^ 3) (by omega) hB (hP.less (Nat.le_refl 4) (fun q hq => (xe q (by omega)).symm))
    rw [xe 0 (by omega), xe 1 (by omega), xe 2 (by omega), xe 3 (by omega), xe 4 (by omega), xf] at e1
    rw [e1]
    exact ⟨d', rfl, e2.less (Nat.le_refl 4) (fun q hq => xe q (by omega))⟩
  · rw [if_neg z1, decide_eq_false z1, if_neg (by decide)]
    exact ⟨d, rfl, hP⟩
theorem lv4 {d0 d : DA} {n F R : Nat → Int} {r p M : Nat} {x : Nat → Nat} {s : Ac9} (hE : CE d0 n F R r p) (hx : ∀ q, q < 4 → x q < r) (hM : M ≤ 40000) (hs : Bd9a M s) (h : PN d0 4 x s d) : ∃ d', X9_checkPentagonsOf 11 58 (x 0) (x 1) (x 2) (x 3) d = some ((), d') ∧ PN d0 4 x (sp9 r false (pnM n) (pnS n) (pnB F p r) 5 4 x s) d' := by
  have h3 := hE.2.2.1
  have key : ∃ d', (∀ {Y : Type} (f : DA → Option Y), lpE (fun q => X9_checkPentagonsOf_b3 11 58 (x 0) (x 1) (x 2) (x 3) q.1 q.2) (0, d) f = f d') ∧ PN d0 4 x (sp9 r false (pnM n) (pnS n) (pnB F p r) 5 4 x s) d' := by
    rw [sp9_f]
    refine lvK hE (fun v d => lpE (fun q => X9_checkPentagonsOf_b18 11 58 (x 0) (x 1) (x 2) (x 3) v q.1 q.2) (0, d) (fun e => some (.inl (v + 1, e)))) (K := 3 ^ 4) (fun v m s _ hs => spG_bd h3 v m s hs) (fun v d => rfl) (M := M) (by omega) (fun e s d he hB hP => ?_) hs h
    have xe : ∀ q, q < 4 → fu x 4 e q = x q := fun q hq => fu_ne (by omega)
    have xf : fu x 4 e 4 = e := by rw [fu_app, if_pos rfl]
    rw [if_pos (show pnM n 4 (fu x 4 e) = true from rfl)]
    obtain ⟨d', e1, e2⟩ := lv5 (x := fu x 4 e) hE (fun q hq => by
      by_cases c : q = 4
      · subst c; rw [xf]; exact he
      · rw [xe q (by omega)]; exact hx q (by omega)) (M := M + 2 * 3 ^ 4) (by omega) hB (hP.less (Nat.le_refl 4) (fun q hq => (xe q (by omega)).symm))
    rw [xe 0 (by omega), xe 1 (by omega), xe 2 (by omega), xe 3 (by omega), xf] at e1
    rw [e1]
    exact ⟨d', rfl, e2.less (Nat.le_refl 4) (fun q hq => xe q (by omega))⟩
  obtain ⟨d', e1, e2⟩ := key
  exact ⟨d', e1 _, e2⟩
theorem lv3 {d0 d : DA} {n F R : Nat → Int} {r p M : Nat} {x : Nat → Nat} {s : Ac9} (hE : CE d0 n F R r p) (hx : ∀ q, q < 3 → x q < r) (hM : M ≤ 35000) (hs : Bd9a M s) (h : PN d0 0 x s d) : ∃ d', (∀ {Y : Type} (f : DA → Option Y), lpE (fun q => X9_checkPentagons_b54 11 58 (x 0) (x 1) (x 2) q.1 q.2) (0, d) f = f d') ∧ PN d0 0 x (sp9 r false (pnM n) (pnS n) (pnB F p r) 6 3 x s) d' := by
  have h3 := hE.2.2.1
  rw [sp9_f]
  refine lvK hE (fun v d => gd (ix 0 9) <| lt9 (wI d 14 0 (x 0)) fun d3 => gd (ix 1 9) <| lt9 (wI d3 14 1 (x 1)) fun d4 => gd (ix 2 9) <| lt9 (wI d4 14 2 (x 2)) fun d5 => gd (ix 3 9) <| lt9 (wI d5 14 3 v) fun d6 => bd (X9_checkPentagonsOf 11 58 (x 0) (x 1) (x 2) v d6) fun _ d7 => some (.inl (v + 1, d7))) (K := 3 ^ 5) (fun v m s _ hs => spG_bd h3 v m s hs) (fun v d => rfl) (M := M) (by omega) (fun e s d he hB hP => ?_) hs h
  have xe : ∀ q, q < 3 → fu x 3 e q = x q := fun q hq => fu_ne (by omega)
  have xf : fu x 3 e 3 = e := by rw [fu_app, if_pos rfl]
  rw [if_pos (show pnM n 3 (fu x 3 e) = true from rfl)]
  simp only [gd_pos (show ix 0 9 by decide), gd_pos (show ix 1 9 by decide), gd_pos (show ix 2 9 by decide), gd_pos (show ix 3 9 by decide), lt_pos]
  have hP4 : PN d0 4 (fu (fu (fu (fu x 0 (x 0)) 1 (x 1)) 2 (x 2)) 3 e) s (wI (wI (wI (wI d 14 0 (x 0)) 14 1 (x 1)) 14 2 (x 2)) 14 3 e) := hP.more.more.more.more
  have hxx : fu (fu (fu (fu x 0 (x 0)) 1 (x 1)) 2 (x 2)) 3 e = fu x 3 e := funext fun q => by
    rw [fu_app, fu_app, fu_app, fu_app, fu_app]
    by_cases a : q = 3
    · rw [if_pos a, if_pos a]
    · rw [if_neg a, if_neg a]
      by_cases b : q = 2
      · rw [if_pos b, b]
      · rw [if_neg b]
        by_cases c : q = 1
        · rw [if_pos c, c]
        · rw [if_neg c]
          by_cases c : q = 0
          · rw [if_pos c, c]
          · rw [if_neg c]
  rw [hxx] at hP4
  obtain ⟨d', e1, e2⟩ := lv4 (x := fu x 3 e) hE (fun q hq => by
    by_cases c : q = 3
    · subst c; rw [xf]; exact he
    · rw [xe q (by omega)]; exact hx q (by omega)) (M := M + 2 * 3 ^ 5) (by omega) hB hP4
  rw [xe 0 (by omega), xe 1 (by omega), xe 2 (by omega), xf] at e1
  rw [bd_pos e1]
  exact ⟨d', rfl, e2.less (Nat.zero_le _) (fun q hq => absurd hq (Nat.not_lt_zero _))⟩
theorem lv2 {d0 d : DA} {n F R : Nat → Int} {r p M : Nat} {x : Nat → Nat} {s : Ac9} (hE : CE d0 n F R r p) (hx : ∀ q, q < 2 → x q < r) (hM : M ≤ 30000) (hs : Bd9a M s) (h : PN d0 0 x s d) : ∃ d', (∀ {Y : Type} (f : DA → Option Y), lpE (fun q => X9_checkPentagons_b39 11 58 (x 0) (x 1) q.1 q.2) (0, d) f = f d') ∧ PN d0 0 x (sp9 r false (pnM n) (pnS n) (pnB F p r) 7 2 x s) d' := by
  have h3 := hE.2.2.1
  rw [sp9_f]
  refine lvK hE (fun v d => lpE (fun q => X9_checkPentagons_b54 11 58 (x 0) (x 1) v q.1 q.2) (0, d) (fun e => some (.inl (v + 1, e)))) (K := 3 ^ 6) (fun v m s _ hs => spG_bd h3 v m s hs) (fun v d => rfl) (M := M) (by omega) (fun e s d he hB hP => ?_) hs h
  have xe : ∀ q, q < 2 → fu x 2 e q = x q := fun q hq => fu_ne (by omega)
  have xf : fu x 2 e 2 = e := by rw [fu_app, if_pos rfl]
  rw [if_pos (show pnM n 2 (fu x 2 e) = true from rfl)]
  obtain ⟨d', e1, e2⟩ := lv3 (x := fu x 2 e) hE (fun q hq => by
    by_cases c : q = 2
    · subst c; rw [xf]; exact he
    · rw [xe q (by omega)]; exact hx q (by omega)) (M := M + 2 * 3 ^ 6) (by omega) hB (hP.less (Nat.zero_le _) (fun q hq => absurd hq (Nat.not_lt_zero _)))
  rw [xe 0 (by omega), xe 1 (by omega), xf] at e1
  rw [e1]
  exact ⟨d', rfl, e2.less (Nat.zero_le _) (fun q hq => absurd hq (Nat.not_lt_zero _))⟩
theorem lv1 {d0 d : DA} {n F R : Nat → Int} {r p M : Nat} {x : Nat → Nat} {s : Ac9} (hE : CE d0 n F R r p) (hx : ∀ q, q < 1 → x q < r) (hM : M ≤ 20000) (hs : Bd9a M s) (h : PN d0 0 x s d) : ∃ d', (∀ {Y : Type} (f : DA → Option Y), lpE (fun q => X9_checkPentagons_b25 11 58 (x 0) q.1 q.2) (0, d) f = f d') ∧ PN d0 0 x (sp9 r false (pnM n) (pnS n) (pnB F p r) 8 1 x s) d' := by
  have h3 := hE.2.2.1
  rw [sp9_f]
  refine lvK hE (fun v d => lpE (fun q => X9_checkPentagons_b39 11 58 (x 0) v q.1 q.2) (0, d) (fun e => some (.inl (v + 1, e)))) (K := 3 ^ 7) (fun v m s _ hs => spG_bd h3 v m s hs) (fun v d => rfl) (M := M) (by omega) (fun e s d he hB hP => ?_) hs h
  have xe : ∀ q, q < 1 → fu x 1 e q = x q := fun q hq => fu_ne (by omega)
  have xf : fu x 1 e 1 = e := by rw [fu_app, if_pos rfl]
  rw [if_pos (show pnM n 1 (fu x 1 e) = true from rfl)]
  obtain ⟨d', e1, e2⟩ := lv2 (x := fu x 1 e) hE (fun q hq => by
    by_cases c : q = 1
    · subst c; rw [xf]; exact he
    · rw [xe q (by omega)]; exact hx q (by omega)) (M := M + 2 * 3 ^ 7) (by omega) hB (hP.less (Nat.zero_le _) (fun q hq => absurd hq (Nat.not_lt_zero _)))
  rw [xe 0 (by omega), xf] at e1
  rw [e1]
  exact ⟨d', rfl, e2.less (Nat.zero_le _) (fun q hq => absurd hq (Nat.not_lt_zero _))⟩
/-- all pentagons -/
theorem x9_pens {d : DA} {n F R : Nat → Int} {r p : Nat} (hE : CE d n F R r p) : ∃ d', X9_checkPentagons 11 58 d = some ((), d') ∧ FrC d d' ∧ CA9 d' (pn9 n F p r false) := by
  have h3 := hE.2.2.1
  have hP : PN d 0 (fun _ => 0) (0, 0, fun _ => 0) (wI (wI d 11 6 0) 11 7 0) := ⟨((FrC.rf d).n (Or.inl rfl)).n (Or.inr rfl), ⟨rfl, rfl, fun z => absurd rfl z⟩, fun q hq => absurd hq (Nat.not_lt_zero _)⟩
  have key : ∃ d', (∀ {Y : Type} (f : DA → Option Y), lpE (fun q => X9_checkPentagons_b12 11 58 q.1 q.2) (0, wI (wI d 11 6 0) 11 7 0) f = f d') ∧ PN d 0 (fun _ => 0) (pn9 n F p r false) d' := by
    unfold pn9
    rw [sp9_f]
    refine lvK hE (fun v d => lpE (fun q => X9_checkPentagons_b25 11 58 v q.1 q.2) (0, d) (fun e => some (.inl (v + 1, e)))) (K := 3 ^ 8) (fun v m s _ hs => spG_bd h3 v m s hs) (fun v d => rfl) (M := 0) (by omega) (fun e s d he hB hP => ?_) ⟨Nat.le_refl _, Nat.le_refl _⟩ hP
    have xf : fu (fun _ => 0) 0 e 0 = e := by rw [fu_app, if_pos rfl]
    rw [if_pos (show pnM n 0 (fu (fun _ => 0) 0 e) = true from rfl)]
    obtain ⟨d', e1, e2⟩ := lv1 (x := fu (fun _ => 0) 0 e) hE (fun q hq => by
      have : q = 0 := by omega
      subst this; rw [xf]; exact he) (M := 0 + 2 * 3 ^ 8) (by omega) hB (hP.less (Nat.zero_le _) (fun q hq => absurd hq (Nat.not_lt_zero _)))
    rw [xf] at e1
    rw [e1]
    exact ⟨d', rfl, e2.less (Nat.zero_le _) (fun q hq => absurd hq (Nat.not_lt_zero _))⟩
  obtain ⟨d', e1, e2⟩ := key
  exact ⟨d', by unfold X9_checkPentagons; rw [lt_pos, lt_pos]; exact e1 _, e2.1, e2.2.1⟩

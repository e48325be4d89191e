/-! ===== loops that fill a row, a square, a table ===== -/
def pre (f G : Nat → Int) (i : Nat) : Nat → Int := fun q => if q < i then G q else f q
theorem pre_0 {f G : Nat → Int} : pre f G 0 = f := funext fun q => if_neg (by omega)
theorem pre_s {f G : Nat → Int} {i : Nat} : fu (pre f G i) i (G i) = pre f G (i + 1) := funext fun q => by
  unfold pre
  rw [fu_app]
  by_cases h : q = i
  · subst h; simp (disch := omega) only [gd_pos, if_pos, if_neg, lt_pos, reduceIte]
  · by_cases h2 : q < i
    · simp (disch := omega) only [gd_pos, if_pos, if_neg, lt_pos, reduceIte]
    · simp (disch := omega) only [gd_pos, if_pos, if_neg, lt_pos, reduceIte]
theorem wB_same {d : DA} {c : Nat} : wB d c (d.2 c) = d := by
  unfold wB
  refine Prod.ext rfl (funext fun q => ?_)
  show fu d.2 c (d.2 c) q = d.2 q
  by_cases h : q = c
  · subst h; exact fu_s
  · exact fu_n h
theorem wB_wL {d : DA} {c k : Nat} {f : Nat → Int} {v : Int} : wL (wB d c f) c k v = wB d c (fu f k v) := by
  unfold wL wB
  refine Prod.ext rfl (funext fun q => ?_)
  show fu (fu d.2 c f) c (fu (fu d.2 c f c) k v) q = fu d.2 c (fu f k v) q
  by_cases h : q = c
  · subst h; rw [fu_s, fu_s, fu_s]
  · rw [fu_n h, fu_n h, fu_n h]
theorem wB_at {d : DA} {c : Nat} {f : Nat → Int} : (wB d c f).2 c = f := fu_s
theorem wB_ne {d : DA} {c q : Nat} {f : Nat → Int} (h : q ≠ c) : (wB d c f).2 q = d.2 q := fu_n h
theorem wI_at {d : DA} {c k : Nat} {v : Int} : (wI d c k v).1 c = fu (d.1 c) k v := fu_s
theorem wI_ne {d : DA} {c q k : Nat} {v : Int} (h : q ≠ c) : (wI d c k v).1 q = d.1 q := fu_n h
theorem wL_at {d : DA} {c k : Nat} {v : Int} : (wL d c k v).2 c = fu (d.2 c) k v := fu_s
theorem wL_ne {d : DA} {c q k : Nat} {v : Int} (h : q ≠ c) : (wL d c k v).2 q = d.2 q := fu_n h
theorem wA_wA {d : DA} {c : Nat} {f g : Nat → Int} : wA (wA d c f) c g = wA d c g := by
  unfold wA
  refine Prod.ext (funext fun q => ?_) rfl
  show fu (fu d.1 c f) c g q = fu d.1 c g q
  by_cases h : q = c
  · subst h; rw [fu_s, fu_s]
  · rw [fu_n h, fu_n h, fu_n h]
theorem wB_wB {d : DA} {c : Nat} {f g : Nat → Int} : wB (wB d c f) c g = wB d c g := by
  unfold wB
  refine Prod.ext rfl (funext fun q => ?_)
  show fu (fu d.2 c f) c g q = fu d.2 c g q
  by_cases h : q = c
  · subst h; rw [fu_s, fu_s]
  · rw [fu_n h, fu_n h, fu_n h]
theorem wI_wA {d : DA} {c k : Nat} {v : Int} : wI d c k v = wA d c (fu (d.1 c) k v) := rfl
theorem wL_wB {d : DA} {c k : Nat} {v : Int} : wL d c k v = wB d c (fu (d.2 c) k v) := rfl
theorem lpE_row {Y : Type} {b : Int × DA → Option ((Int × DA) ⊕ DA)} {k : DA → Option Y} {d : DA} (c r : Nat) (G : Nat → Int) (hr : r < 4000000)
    (hb : ∀ i, i < r → b ((i : Int), wA d c (pre (d.1 c) G i)) = some (.inl ((i : Int) + 1, wI (wA d c (pre (d.1 c) G i)) c i (G i))))
    (he : b ((r : Int), wA d c (pre (d.1 c) G r)) = some (.inr (wA d c (pre (d.1 c) G r)))) : lpE b (0, d) k = k (wA d c (pre (d.1 c) G r)) :=
  lpE_for (fun i => ((i : Int), wA d c (pre (d.1 c) G i))) r _ (by rw [pre_0, wA_same]; rfl) hr (fun i hi => by rw [hb i hi, wA_wI, pre_s]; rfl) he
theorem lpE_rowL {Y : Type} {b : Int × DA → Option ((Int × DA) ⊕ DA)} {k : DA → Option Y} {d : DA} (c r : Nat) (G : Nat → Int) (hr : r < 4000000)
    (hb : ∀ i, i < r → b ((i : Int), wB d c (pre (d.2 c) G i)) = some (.inl ((i : Int) + 1, wL (wB d c (pre (d.2 c) G i)) c i (G i))))
    (he : b ((r : Int), wB d c (pre (d.2 c) G r)) = some (.inr (wB d c (pre (d.2 c) G r)))) : lpE b (0, d) k = k (wB d c (pre (d.2 c) G r)) :=
  lpE_for (fun i => ((i : Int), wB d c (pre (d.2 c) G i))) r _ (by rw [pre_0, wB_same]; rfl) hr (fun i hi => by rw [hb i hi, wB_wL, pre_s]; rfl) he
/-- a square in rows of five: filled up to the row i and the column j -/
def pm (f : Nat → Int) (G : Nat → Nat → Int) (r i j : Nat) : Nat → Int := fun q => if (q / 5 < i ∧ q % 5 < r) ∨ (q / 5 = i ∧ q % 5 < j) then G (q / 5) (q % 5) else f q
theorem pm_0 {f : Nat → Int} {G : Nat → Nat → Int} {r : Nat} : pm f G r 0 0 = f := funext fun q => if_neg (by omega)
theorem pm_s {f : Nat → Int} {G : Nat → Nat → Int} {r i j : Nat} (hj : j < r) (h5 : r ≤ 5) : fu (pm f G r i j) (5 * i + j) (G i j) = pm f G r i (j + 1) := funext fun q => by
  unfold pm
  rw [fu_app]
  by_cases h : q = 5 * i + j
  · subst h
    rw [if_pos rfl, if_pos (by omega), show (5 * i + j) / 5 = i by omega, show (5 * i + j) % 5 = j by omega]
  · rw [if_neg h]
    by_cases h2 : (q / 5 < i ∧ q % 5 < r) ∨ (q / 5 = i ∧ q % 5 < j)
    · rw [if_pos h2, if_pos (by omega)]
    · rw [if_neg h2, if_neg (by omega)]
theorem pm_n {f : Nat → Int} {G : Nat → Nat → Int} {r i : Nat} : pm f G r i r = pm f G r (i + 1) 0 := funext fun q => by
  unfold pm
  by_cases h2 : (q / 5 < i ∧ q % 5 < r) ∨ (q / 5 = i ∧ q % 5 < r)
  · rw [if_pos h2, if_pos (by omega)]
  · rw [if_neg h2, if_neg (by omega)]
theorem pm_at {f : Nat → Int} {G : Nat → Nat → Int} {r i j : Nat} (hi : i < r) (hj : j < r) (h5 : r ≤ 5) : pm f G r r 0 (5 * i + j) = G i j := by
  unfold pm
  rw [if_pos (by omega), show (5 * i + j) / 5 = i by omega, show (5 * i + j) % 5 = j by omega]
theorem lpE_sq {Y : Type} {bo : Int × DA → Option ((Int × DA) ⊕ DA)} {bi : Nat → Int × DA → Option ((Int × DA) ⊕ DA)} {k : DA → Option Y} {d : DA} (c r : Nat) (G : Nat → Nat → Int) (h5 : r ≤ 5)
    (ho : ∀ i, i < r → ∀ f, bo ((i : Int), wA d c f) = lpE (bi i) (0, wA d c f) (fun e => some (.inl ((i : Int) + 1, e))))
    (hoe : ∀ f, bo ((r : Int), wA d c f) = some (.inr (wA d c f)))
    (hi : ∀ i j, i < r → j < r → ∀ f, f = pm (d.1 c) G r i j → bi i ((j : Int), wA d c f) = some (.inl ((j : Int) + 1, wI (wA d c f) c (5 * i + j) (G i j))))
    (hie : ∀ i, i < r → ∀ f, bi i ((r : Int), wA d c f) = some (.inr (wA d c f))) : lpE bo (0, d) k = k (wA d c (pm (d.1 c) G r r 0)) :=
  lpE_for (fun i => ((i : Int), wA d c (pm (d.1 c) G r i 0))) r _ (by rw [pm_0, wA_same]; rfl) (by omega) (fun i hi9 => by
    rw [ho i hi9]
    refine (lpE_for (fun j => ((j : Int), wA d c (pm (d.1 c) G r i j))) r _ rfl (by omega) (fun j hj => ?_) (hie i hi9 _)).trans ?_
    · rw [hi i j hi9 hj _ rfl, wA_wI, pm_s hj h5]; rfl
    · rw [pm_n]; rfl) (hoe _)
/-- a cube in rows of five -/
def pc (f : Nat → Int) (G : Nat → Nat → Nat → Int) (r i j k : Nat) : Nat → Int := fun q => if (q / 25 < i ∧ q / 5 % 5 < r ∧ q % 5 < r) ∨ (q / 25 = i ∧ q / 5 % 5 < j ∧ q % 5 < r) ∨ (q / 25 = i ∧ q / 5 % 5 = j ∧ q % 5 < k) then G (q / 25) (q / 5 % 5) (q % 5) else f q
theorem pc_0 {f : Nat → Int} {G : Nat → Nat → Nat → Int} {r : Nat} : pc f G r 0 0 0 = f := funext fun q => if_neg (by omega)
theorem pc_s {f : Nat → Int} {G : Nat → Nat → Nat → Int} {r i j k : Nat} (hj : j < r) (hk : k < r) (h5 : r ≤ 5) : fu (pc f G r i j k) (25 * i + 5 * j + k) (G i j k) = pc f G r i j (k + 1) := funext fun q => by
  unfold pc
  rw [fu_app]
  by_cases h : q = 25 * i + 5 * j + k
  · subst h
    rw [if_pos rfl, if_pos (by omega), show (25 * i + 5 * j + k) / 25 = i by omega, show (25 * i + 5 * j + k) / 5 % 5 = j by omega, show (25 * i + 5 * j + k) % 5 = k by omega]
  · rw [if_neg h]
    by_cases h2 : (q / 25 < i ∧ q / 5 % 5 < r ∧ q % 5 < r) ∨ (q / 25 = i ∧ q / 5 % 5 < j ∧ q % 5 < r) ∨ (q / 25 = i ∧ q / 5 % 5 = j ∧ q % 5 < k)
    · rw [if_pos h2, if_pos (by omega)]
    · rw [if_neg h2, if_neg (by omega)]
theorem pc_n {f : Nat → Int} {G : Nat → Nat → Nat → Int} {r i j : Nat} : pc f G r i j r = pc f G r i (j + 1) 0 := funext fun q => by
  unfold pc
  by_cases h2 : (q / 25 < i ∧ q / 5 % 5 < r ∧ q % 5 < r) ∨ (q / 25 = i ∧ q / 5 % 5 < j ∧ q % 5 < r) ∨ (q / 25 = i ∧ q / 5 % 5 = j ∧ q % 5 < r)
  · rw [if_pos h2, if_pos (by omega)]
  · rw [if_neg h2, if_neg (by omega)]
theorem pc_n2 {f : Nat → Int} {G : Nat → Nat → Nat → Int} {r i : Nat} : pc f G r i r 0 = pc f G r (i + 1) 0 0 := funext fun q => by
  unfold pc
  by_cases h2 : (q / 25 < i ∧ q / 5 % 5 < r ∧ q % 5 < r) ∨ (q / 25 = i ∧ q / 5 % 5 < r ∧ q % 5 < r) ∨ (q / 25 = i ∧ q / 5 % 5 = r ∧ q % 5 < 0)
  · rw [if_pos h2, if_pos (by omega)]
  · rw [if_neg h2, if_neg (by omega)]
theorem pc_at {f : Nat → Int} {G : Nat → Nat → Nat → Int} {r i j k : Nat} (hi : i < r) (hj : j < r) (hk : k < r) (h5 : r ≤ 5) : pc f G r r 0 0 (25 * i + 5 * j + k) = G i j k := by
  unfold pc
  rw [show (25 * i + 5 * j + k) / 25 = i by omega, show (25 * i + 5 * j + k) / 5 % 5 = j by omega, show (25 * i + 5 * j + k) % 5 = k by omega, if_pos (by omega)]
theorem lpE_cu {Y : Type} {b1 : Int × DA → Option ((Int × DA) ⊕ DA)} {b2 : Nat → Int × DA → Option ((Int × DA) ⊕ DA)} {b3 : Nat → Nat → Int × DA → Option ((Int × DA) ⊕ DA)} {k : DA → Option Y} {d : DA} (c r : Nat) (G : Nat → Nat → Nat → Int) (h5 : r ≤ 5)
    (h1 : ∀ i, i < r → ∀ f, b1 ((i : Int), wA d c f) = lpE (b2 i) (0, wA d c f) (fun e => some (.inl ((i : Int) + 1, e))))
    (h1e : ∀ f, b1 ((r : Int), wA d c f) = some (.inr (wA d c f)))
    (h2 : ∀ i j, i < r → j < r → ∀ f, b2 i ((j : Int), wA d c f) = lpE (b3 i j) (0, wA d c f) (fun e => some (.inl ((j : Int) + 1, e))))
    (h2e : ∀ i, i < r → ∀ f, b2 i ((r : Int), wA d c f) = some (.inr (wA d c f)))
    (h3 : ∀ i j q, i < r → j < r → q < r → ∀ f, f = pc (d.1 c) G r i j q → b3 i j ((q : Int), wA d c f) = some (.inl ((q : Int) + 1, wI (wA d c f) c (25 * i + 5 * j + q) (G i j q))))
    (h3e : ∀ i j, i < r → j < r → ∀ f, b3 i j ((r : Int), wA d c f) = some (.inr (wA d c f))) : lpE b1 (0, d) k = k (wA d c (pc (d.1 c) G r r 0 0)) :=
  lpE_for (fun i => ((i : Int), wA d c (pc (d.1 c) G r i 0 0))) r _ (by rw [pc_0, wA_same]; rfl) (by omega) (fun i hi => by
    rw [h1 i hi]
    refine (lpE_for (fun j => ((j : Int), wA d c (pc (d.1 c) G r i j 0))) r _ rfl (by omega) (fun j hj => ?_) (h2e i hi _)).trans ?_
    · rw [h2 i j hi hj]
      refine (lpE_for (fun q => ((q : Int), wA d c (pc (d.1 c) G r i j q))) r _ rfl (by omega) (fun q hq => ?_) (h3e i j hi hj _)).trans ?_
      · rw [h3 i j q hi hj hq _ rfl, wA_wI, pc_s hj hq h5]; rfl
      · rw [pc_n]; rfl
    · rw [pc_n2]; rfl) (h1e _)
/-- Arrays.fill -/
theorem fillI {d : DA} {a n : Nat} {v : Int} (hn : n < 4000000) : J7_fill_53178 a n v d = some ((), wA d a (pre (d.1 a) (fun _ => v) n)) := by
  unfold J7_fill_53178
  rw [lt_pos]
  refine lpE_row a n (fun _ => v) hn (fun i hi => ?_) ?_
  · unfold J7_fill_53178_b5
    simp (disch := omega) only [gd_pos, if_pos, if_neg, lt_pos, reduceIte, Int.toNat_natCast]
  · unfold J7_fill_53178_b5
    simp (disch := omega) only [gd_pos, if_pos, if_neg, lt_pos, reduceIte]
theorem fillL {d : DA} {a n : Nat} {v : Int} (hn : n < 4000000) : J7_fill_d0a16 a n v d = some ((), wB d a (pre (d.2 a) (fun _ => v) n)) := by
  unfold J7_fill_d0a16
  rw [lt_pos]
  refine lpE_rowL a n (fun _ => v) hn (fun i hi => ?_) ?_
  · unfold J7_fill_d0a16_b6
    simp (disch := omega) only [gd_pos, if_pos, if_neg, lt_pos, reduceIte, Int.toNat_natCast]
  · unfold J7_fill_d0a16_b6
    simp (disch := omega) only [gd_pos, if_pos, if_neg, lt_pos, reduceIte]

/-! ===== the invariant ===== -/
def NI9 (g : Nat → Nat → Int) (p : Nat) : Prop := g 58 0 = p ∧ ∀ j, 1 ≤ j → j < p → (1 ≤ g 59 j ∧ g 59 j < p) ∧ (p : Int) ∣ (j : Int) * g 59 j - 1
/-- a state of the reference with this table and this field -/
def RfT (n : Nat → Int) (r p : Nat) (d : DA) : Prop := d.1 114 = n ∧ d.1 113 1 = r ∧ d.1 113 4 = p ∧ (∀ q, q < 729 → 0 ≤ d.1 117 q ∧ d.1 117 q < p) ∧ (∀ j, j < 5 → 1 ≤ d.1 119 j ∧ d.1 119 j < p) ∧ d.1 119 0 = 1
/-- the reference answers v with the code c, and nothing that counts has changed -/
def MA9 (o : Option (Int × DA)) (d : DA) (c v : Int) : Prop := ∃ d', o = some (v, d') ∧ d'.1 113 0 = c ∧ Sm d d' ∧ d'.2 161 = d.2 161
/-- what was found of the turns by the c-th character: all that the reference answers of them -/
def TK9 (c am st : Nat) (fd n : Nat → Int) (r p : Nat) : Prop := (∀ i, i < am → 0 ≤ fd (st + i) ∧ fd (st + i) < 32768) ∧ ∀ d, RfT n r p d → ∀ i k : Int, inR i → inR k → (i = -1 → MA9 (X12_turned 113 (c : Int) i k d) d 0 am) ∧ (i ≠ -1 → ((0 ≤ i ∧ i < am ∧ 0 ≤ k ∧ k < r) → MA9 (X12_turned 113 (c : Int) i k d) d 0 (if k = 0 then 1 else fd (st + i.toNat) / 32 ^ (k.toNat - 1) % 32)) ∧ (¬ (0 ≤ i ∧ i < am ∧ 0 ≤ k ∧ k < r) → MA9 (X12_turned 113 (c : Int) i k d) d 1 0))
def TI9 (g : Nat → Nat → Int) (r p zf : Nat) : Prop := ∃ fi : Nat, g 68 2 = fi ∧ fi ≤ zf ∧ (fi : Int) ≤ (sm 5 fun c => if g 69 c = -1 then 0 else 27000) ∧ ∀ c, c < 5 → g 69 c = -1 ∨ ∃ am st : Nat, g 69 c = am ∧ g 70 c = st ∧ st + am ≤ fi ∧ TK9 c am st (g 71) (g 114) r p
theorem TI9.no {g : Nat → Nat → Int} {r p zf : Nat} (h1 : g 68 2 = 0) (h2 : ∀ c, c < 5 → g 69 c = -1) : TI9 g r p zf := by
  refine ⟨0, h1, Nat.zero_le _, ?_, fun c hc => Or.inl (h2 c hc)⟩
  have := (sm_bd (f := fun c => if g 69 c = -1 then (0 : Int) else 27000) (lo := 0) (hi := 27000) 5 (fun i _ => by
    show (0 : Int) ≤ (if g 69 i = -1 then (0 : Int) else 27000) ∧ (if g 69 i = -1 then (0 : Int) else 27000) ≤ 27000
    split <;> omega)).1
  omega
/-- what was found of solutions: all that the reference answers of them -/
def VI9 (a am un : Int) (fst n : Nat → Int) (r p : Nat) : Prop := a = 0 ∨ (a = 1 ∧ (0 ≤ am ∧ am < 2147483648) ∧ (0 ≤ un ∧ un ≤ 5) ∧ (am ≠ 0 → ∀ q : Nat, (q : Int) < un → inR (fst q)) ∧ ((r ≤ 2 ∧ fre n r ∧ p ≤ 13) → ∀ d, RfT n r p d → ∀ i : Int, inR i → (i = -1 → MA9 (X12_solve 113 i d) d 0 am) ∧ (i ≠ -1 → ((0 ≤ i ∧ i < un ∧ am ≠ 0) → MA9 (X12_solve 113 i d) d 0 (fst i.toNat)) ∧ (¬ (0 ≤ i ∧ i < un ∧ am ≠ 0) → MA9 (X12_solve 113 i d) d 1 0))))
def II9 (k : Nat) (g : Nat → Nat → Int) : Prop := g 1 2 = g 113 76 ∧ (∀ q, ¬ q < 125 → g 21 q = g 155 q) ∧ (g 1 2 = 0 ∨ (g 1 2 = 1 ∧ ∃ r p m, SI k g 17 77 78 79 155 156 157 158 159 160 r p m))
def ZI9 (k : Nat) (x : XS) : Prop := k ≤ 512 ∧ (64 ≤ xzc x ∧ xzc x ≤ 8192) ∧ (64 ≤ xzf x ∧ xzf x ≤ 270000) ∧ xe x = 0 ∧ xok9 x ∧ xc x ≤ 161 + 100 * k + xzc x + xzf x ∧ xs x ≤ 18688 + 1000 * k + 2 * xzc x + 2 * xzf x
def IG (k : Nat) (g : Nat → Nat → Int) (r p m D U tp kr la zc zf : Nat) : Prop :=
  SI k g 2 1 4 13 114 117 118 119 120 121 r p m ∧ HI g r p m D U ∧ PI9 g tp ∧ KI g kr ∧ LI9 g la zc ∧ NI9 g p ∧ CI (g 61 0) (g 61 1) (g 62) (g 114) r p ∧ TI9 g r p zf ∧ VI9 (g 81 0) (g 81 1) (g 81 2) (g 82) (g 114) r p ∧ II9 k g
def Inv (k : Nat) (x : XS) : Prop := ZI9 k x ∧ ∃ r p m D U tp kr la, IG k (vw x.1.1) r p m D U tp kr la (xzc x) (xzf x)
theorem SI.up {k : Nat} {g : Nat → Nat → Int} {o cr cp cl cn cf cs ct cw cu r p m : Nat} (h : SI k g o cr cp cl cn cf cs ct cw cu r p m) : SI (k + 1) g o cr cp cl cn cf cs ct cw cu r p m := by
  obtain ⟨h1, h2, h3, h4, h5, a1, a2, a3, a4, a5, a6⟩ := h
  exact ⟨h1, h2, h3, h4, h5, a1, a2, a3, (by omega), a5, (by omega)⟩
theorem II9.up {k : Nat} {g : Nat → Nat → Int} (h : II9 k g) : II9 (k + 1) g := by
  obtain ⟨h1, h0, h2⟩ := h
  refine ⟨h1, h0, ?_⟩
  rcases h2 with h2 | ⟨h2, r, p, m, h3⟩
  · exact Or.inl h2
  · exact Or.inr ⟨h2, r, p, m, h3.up⟩
theorem IG.up {k : Nat} {g : Nat → Nat → Int} {r p m D U tp kr la zc zf : Nat} (h : IG k g r p m D U tp kr la zc zf) : IG (k + 1) g r p m D U tp kr la zc zf := by
  obtain ⟨h1, h2, h3, h4, h5, h6, h7, h8, h9, h10⟩ := h
  exact ⟨h1.up, h2, h3, h4, h5, h6, h7, h8, h9, h10.up⟩
/-- nothing that counts has changed -/
theorem Inv.fr {k : Nat} {x x' : XS} (h : Inv k x) (hk : k < 512) (hS : Sm x.1 x'.1) (hz : xzc x' = xzc x ∧ xzf x' = xzf x ∧ xe x' = 0 ∧ xok9 x') (hc : xc x' ≤ xc x + 100 ∧ xs x' ≤ xs x + 1000) : Inv (k + 1) x' := by
  obtain ⟨⟨z1, z2, z3, z4, z5, z6, z7⟩, r, p, m, D, U, tp, kr, la, h⟩ := h
  obtain ⟨e1, e2, e3, e4⟩ := hz
  refine ⟨⟨(by omega), by rw [e1]; exact z2, by rw [e2]; exact z3, e3, e4, by rw [e1, e2]; omega, by rw [e1, e2]; omega⟩, r, p, m, D, U, tp, kr, la, ?_⟩
  rw [vw_eq hS, e1, e2]
  exact h.up
/-- what a call finds -/
theorem Inv.tab {k : Nat} {x : XS} (h : Inv k x) : ∃ r : Nat, (1 ≤ r ∧ r ≤ 5) ∧ x.1.1 5 0 = r ∧ x.1.1 113 1 = r ∧ x.1.1 6 = x.1.1 114 ∧ TG (x.1.1 114) r ∧ Nb x.1 5 ∧ Nb x.1 113 := by
  obtain ⟨-, r, p, m, D, U, tp, kr, la, ⟨⟨h1, h2, h3, h4⟩, -⟩, -⟩ := h
  have e6 : x.1.1 6 = x.1.1 114 := h3
  have hT : TG (x.1.1 114) r := h4
  exact ⟨r, hT.1, h1, h2, e6, hT, fun j hj => by show 0 ≤ x.1.1 6 j ∧ x.1.1 6 j ≤ 9; rw [e6]; exact hT.2.1 j hj, fun j hj => hT.2.1 j hj⟩
theorem Inv.z {k : Nat} {x : XS} (h : Inv k x) : ZI9 k x := h.1
/-! calls that throw, and their ends in the law -/
theorem xb_ok {R Y : Type} {x x1 : XS} {o : Option ((R ⊕ Nat) × XS)} {r : R} {k : R → XS → Option Y} {j : Nat → XS → Option Y} (h : o = some (.inl r, x1)) (hm : xc x ≤ xc x1 ∧ xs x ≤ xs x1) : xb x o k j = k r x1 := by
  rw [h]; exact gd_pos hm
theorem xb_er {R Y : Type} {x x1 : XS} {o : Option ((R ⊕ Nat) × XS)} {e : Nat} {k : R → XS → Option Y} {j : Nat → XS → Option Y} (h : o = some (.inr e, x1)) (hm : xc x ≤ xc x1 ∧ xs x ≤ xs x1) : xb x o k j = j e x1 := by
  rw [h]; exact gd_pos hm
theorem law_tail {Z : Type} {x : XS} {c v : Int} {k bad : Option Z} (h1 : x.1.1 113 0 = c) (h2 : c = 0 ∨ c = 1) (hv : inR v) (h3 : c = 0 → x.1.2 161 0 = v) : (gd (inR (x.1.1 113 0) ∧ inR c) <| if x.1.1 113 0 = c then (gd (inR c) <| if c = 0 then (gd (ix 0 1) <| gd (inR v) <| gd (inR64 (x.1.2 161 (Int.toNat 0)) ∧ inR64 v) <| gd (inR (lcmp9 (x.1.2 161 (Int.toNat 0)) v)) <| if (lcmp9 (x.1.2 161 (Int.toNat 0)) v) = 0 then k else bad) else k) else bad) = k := by
  rw [h1]
  have z : Int.toNat 0 = 0 := rfl
  rw [z]
  rcases h2 with rfl | rfl
  · rw [h3 rfl]
    unfold lcmp9
    simp (disch := omega) only [gd_pos, if_pos, if_neg, lt_pos, reduceIte]
  · simp (disch := omega) only [gd_pos, if_pos, if_neg, lt_pos, reduceIte]
theorem xT_z {x : XS} : xzc (xT x) = xzc x ∧ xzf (xT x) = xzf x ∧ xe (xT x) = xe x ∧ (xok9 (xT x) ↔ xok9 x) ∧ xc (xT x) = xc x + 1 ∧ xs (xT x) = xs x + 6 ∧ (xT x).1 = x.1 := ⟨rfl, rfl, rfl, Iff.rfl, rfl, rfl, rfl⟩
theorem xD_z {x : XS} {d : DA} : xzc (xD x d) = xzc x ∧ xzf (xD x d) = xzf x ∧ xe (xD x d) = xe x ∧ (xok9 (xD x d) ↔ xok9 x) ∧ xc (xD x d) = xc x ∧ xs (xD x d) = xs x ∧ (xD x d).1 = d := ⟨rfl, rfl, rfl, Iff.rfl, rfl, rfl, rfl⟩
/-- a call of the class: it answers v and leaves x2, or throws -/
def Ans (o : Option ((Int ⊕ Nat) × XS)) (x : XS) (en : Nat) (c v : Int) (x2 : XS) : Prop := (c = 0 ∧ o = some (.inl v, x2) ∨ c = 1 ∧ o = some (.inr en, x2)) ∧ xc x ≤ xc x2 ∧ xs x ≤ xs x2
def LX (o : Option ((Int ⊕ Nat) × XS)) (x : XS) (en : Nat) : Option (Int × XS) := xb x o (fun r1 x2 =>
  gd (inR r1) <|
  gd (ix 0 1) <|
  lt9 (wL x2.1 161 (Int.toNat 0) r1) fun d3 =>
  lt9 (xD x2 d3) fun x4 =>
  some ((0, x4))) (fun e x => gd (e = en) (some (1, x)))
theorem lx_ans {o : Option ((Int ⊕ Nat) × XS)} {x x2 : XS} {en : Nat} {c v : Int} (h : Ans o x en c v x2) (hv : inR v) : ∃ x3, LX o x en = some (c, x3) ∧ xc x ≤ xc x3 ∧ xs x ≤ xs x3 ∧ x3.1.1 = x2.1.1 ∧ x3.2 = x2.2 ∧ (c = 0 → x3.1.2 161 0 = v) := by
  obtain ⟨h | h, hm⟩ := h
  · obtain ⟨rfl, h⟩ := h
    refine ⟨xD x2 (wL x2.1 161 0 v), ?_, hm.1, hm.2, rfl, rfl, fun _ => ?_⟩
    · unfold LX
      rw [xb_ok h hm, gd_pos hv, gd_pos (by omega)]
      rfl
    · show (wL x2.1 161 0 v).2 161 0 = v
      rw [wL_at, fu_s]
  · obtain ⟨rfl, h⟩ := h
    refine ⟨x2, ?_, hm.1, hm.2, rfl, rfl, fun h9 => by omega⟩
    unfold LX
    rw [xb_er h hm, gd_pos rfl]

/-! ===== the heap holds the pure state ===== -/
def ce9 (G : GT) (ad : Nat → Nat) (σ : HS) (i : Nat) : va_E :=
  if kK σ i = 13 then .inl (gI G, zZ σ i, .inl (fun j => Int32.ofInt (iI σ i j)))
  else if kK σ i = 14 then .inl (gJ G, zZ σ i, .inr (.inl (fun j => Int64.ofInt (lL σ i j))))
  else .inr (kK σ i, (List.range (fN (kK σ i))).map (fun k => if fR (kK σ i) k then rf9 ad (pP σ i k) else vi (iI σ i k)))
def wl (G : GT) (ad : Nat → Nat) (σ : HS) : va_W := (List.range (nN σ)).map (fun i => (ad (i + 1), ce9 G ad σ (i + 1)))
def Rp (G : GT) (ad : Nat → Nat) (σ : HS) (H : Heap) : Prop := va_P (gD G) vwCl (wl G ad σ) H ∧ va_D (gA G) (wl G ad σ)
def Rh (G : GT) (s : State) (ad : Nat → Nat) (σ : HS) (H : Heap) (locs : List Loc) : Prop := Rp G ad σ H ∧ va_S (gA G) s.heap H locs
/-- a cell that is there -/
abbrev isC (σ : HS) (i : Nat) : Prop := 1 ≤ i ∧ i ≤ nN σ
theorem wl_at {G : GT} {ad : Nat → Nat} {σ : HS} {i : Nat} (h : isC σ i) : (wl G ad σ)[i - 1]? = some (ad i, ce9 G ad σ i) := by
  obtain ⟨h1, h2⟩ := h
  unfold wl
  have h3 : i - 1 < nN σ := by omega
  rw [List.getElem?_map, List.getElem?_range h3]
  have h4 : i - 1 + 1 = i := by omega
  simp [h4]
theorem ce_I {G : GT} {ad : Nat → Nat} {σ : HS} {i : Nat} (h : kK σ i = 13) : ce9 G ad σ i = .inl (gI G, zZ σ i, .inl (fun j => Int32.ofInt (iI σ i j))) := by simp [ce9, h]
theorem ce_L {G : GT} {ad : Nat → Nat} {σ : HS} {i : Nat} (h : kK σ i = 14) : ce9 G ad σ i = .inl (gJ G, zZ σ i, .inr (.inl (fun j => Int64.ofInt (lL σ i j)))) := by simp [ce9, h]
theorem ce_O {G : GT} {ad : Nat → Nat} {σ : HS} {i ci : Nat} (h : kK σ i = ci) (hc : ci < 13) : ce9 G ad σ i = .inr (ci, (List.range (fN ci)).map (fun k => if fR ci k then rf9 ad (pP σ i k) else vi (iI σ i k))) := by
  subst h
  unfold ce9
  rw [if_neg (by omega), if_neg (by omega)]
theorem fu_s {α : Type} {f : Nat → α} {k : Nat} {v : α} : fu f k v k = v := if_pos rfl
theorem fu_n {α : Type} {f : Nat → α} {k j : Nat} {v : α} (h : j ≠ k) : fu f k v j = f j := if_neg h
/-- the world's list with one cell another -/
theorem wl_set {G : GT} {ad : Nat → Nat} {σ σ' : HS} {i : Nat} {e : va_E} (h : isC σ i) (hn : nN σ' = nN σ) (he : ce9 G ad σ' i = e) (ho : ∀ j, j ≠ i → ce9 G ad σ' j = ce9 G ad σ j) : (wl G ad σ).set (i - 1) (ad i, e) = wl G ad σ' := by
  obtain ⟨h1, h2⟩ := h
  apply List.ext_getElem?
  intro k
  unfold wl
  rw [hn]
  by_cases hk : k = i - 1
  · subst hk
    have h3 : i - 1 < nN σ := by omega
    rw [List.getElem?_set_self (by simpa using h3), List.getElem?_map, List.getElem?_range h3]
    have h4 : i - 1 + 1 = i := by omega
    simp [h4, he]
  · rw [List.getElem?_set_ne (Ne.symm hk), List.getElem?_map, List.getElem?_map]
    cases hr : (List.range (nN σ))[k]? with
    | none => rfl
    | some v =>
      have hv : v = k := by
        have := List.getElem?_eq_some_iff.mp hr
        obtain ⟨q1, q2⟩ := this
        simpa using q2.symm
      subst hv
      simp only [Option.map_some]
      rw [ho (v + 1) (by omega)]
/-- what holds all through a method's body -/
def Cx (G : GT) (l : Launch) (p : Program) (s : State) (m : MethodId) (meth : Method) (c : Code) (cc : ByteArray) (own : String) (nL : Nat) (ret : Option FieldType) : Prop :=
  p.tables.exec = Jvm.exec ∧ c.code = cc ∧ c.maxLocals = nL ∧ s.vm.findClass own = some m.cls ∧ Wd s ∧ Kx G s ∧ Sf G s ∧ meth.locks = false ∧ meth.sig.returnType = ret ∧ (∀ q, s.heap.size ≤ q → gA G q) ∧ l.stackTraces = false
def Dc (cc : ByteArray) (pc : Nat) (i : Instr) (n pc1 : Nat) : Prop := decode cc pc = .ok (i, n) ∧ pc + n = pc1
def Dj (cc : ByteArray) (pc : Nat) (i : Instr) (off : Int) (n pc1 tgt : Nat) : Prop := decode cc pc = .ok (i, n) ∧ pc + n = pc1 ∧ (pc : Int) + off = (tgt : Int)
/-! ===== numbers ===== -/
theorem oi_add (a b : Int) : Int32.ofInt a + Int32.ofInt b = Int32.ofInt (a + b) := (Int32.ofInt_add a b).symm
theorem oi_sub (a b : Int) : Int32.ofInt a - Int32.ofInt b = Int32.ofInt (a - b) := (Int32.ofInt_sub a b).symm
theorem oi_mul (a b : Int) : Int32.ofInt a * Int32.ofInt b = Int32.ofInt (a * b) := (Int32.ofInt_mul a b).symm
theorem oi_neg (a : Int) : -Int32.ofInt a = Int32.ofInt (-a) := (Int32.ofInt_neg a).symm
theorem ol_add (a b : Int) : Int64.ofInt a + Int64.ofInt b = Int64.ofInt (a + b) := (Int64.ofInt_add a b).symm
theorem ol_mul (a b : Int) : Int64.ofInt a * Int64.ofInt b = Int64.ofInt (a * b) := (Int64.ofInt_mul a b).symm
theorem oi_t {a : Int} (h : inR a) : (Int32.ofInt a).toInt = a := by
  obtain ⟨h1, h2⟩ := h
  exact Int32.toInt_ofInt_of_le (by simpa using h1) (by show a < 2147483648; omega)
theorem ol_t {a : Int} (h : inR64 a) : (Int64.ofInt a).toInt = a := by
  obtain ⟨h1, h2⟩ := h
  exact Int64.toInt_ofInt_of_le (by simpa using h1) (by show a < 9223372036854775808; omega)
theorem oi_le {a b : Int} (ha : inR a) (hb : inR b) : Int32.ofInt a ≤ Int32.ofInt b ↔ a ≤ b := by rw [Int32.le_iff_toInt_le, oi_t ha, oi_t hb]
theorem oi_lt {a b : Int} (ha : inR a) (hb : inR b) : Int32.ofInt a < Int32.ofInt b ↔ a < b := by rw [Int32.lt_iff_toInt_lt, oi_t ha, oi_t hb]
theorem oi_eq {a b : Int} (ha : inR a) (hb : inR b) : Int32.ofInt a = Int32.ofInt b ↔ a = b := by rw [← Int32.toInt_inj, oi_t ha, oi_t hb]
theorem inR_0 : inR 0 := ⟨by decide, by decide⟩
theorem oi_of (x : Int32) : Int32.ofInt x.toInt = x := Int32.ofInt_toInt x
theorem ol_of (x : Int64) : Int64.ofInt x.toInt = x := Int64.ofInt_toInt x
theorem oi_div {a b : Int} (h0 : 0 ≤ a) (ha : inR a) (hb : inR b) (h : 0 < b) : Int32.ofInt a / Int32.ofInt b = Int32.ofInt (a / b) := by
  rw [← Int.tdiv_eq_ediv_of_nonneg h0]
  have hne : Int32.ofInt b ≠ -1 := fun h9 => by
    have := congrArg Int32.toInt h9
    rw [oi_t hb] at this
    have : b = -1 := this
    omega
  apply Int32.toInt_inj.mp
  rw [Int32.toInt_div_of_ne_right _ _ hne, oi_t ha, oi_t hb, oi_t]
  obtain ⟨h1, h2⟩ := ha
  have h3 : (a.tdiv b).natAbs ≤ a.natAbs := by rw [Int.natAbs_tdiv]; exact Nat.div_le_self _ _
  have h4 : 0 ≤ a.tdiv b := by rw [Int.tdiv_eq_ediv_of_nonneg h0]; exact Int.ediv_nonneg h0 (Int.le_of_lt h)
  constructor <;> omega
theorem oi_rem {a b : Int} (ha : inR a) (hb : inR b) (h : 0 < b) : Int32.ofInt a - Int32.ofInt a / Int32.ofInt b * Int32.ofInt b = Int32.ofInt (a.tmod b) := by
  apply Int32.toInt_inj.mp
  rw [rem_toInt, oi_t ha, oi_t hb, oi_t]
  obtain ⟨h1, h2⟩ := hb
  have := tmod_bounds (a := a) h
  constructor <;> omega
theorem ol_div {a b : Int} (h0 : 0 ≤ a) (ha : inR64 a) (hb : inR64 b) (h : 0 < b) : Int64.ofInt a / Int64.ofInt b = Int64.ofInt (a / b) := by
  rw [← Int.tdiv_eq_ediv_of_nonneg h0]
  have hne : Int64.ofInt b ≠ -1 := fun h9 => by
    have := congrArg Int64.toInt h9
    rw [ol_t hb] at this
    have : b = -1 := this
    omega
  apply Int64.toInt_inj.mp
  rw [Int64.toInt_div_of_ne_right _ _ hne, ol_t ha, ol_t hb, ol_t]
  obtain ⟨h1, h2⟩ := ha
  have h3 : (a.tdiv b).natAbs ≤ a.natAbs := by rw [Int.natAbs_tdiv]; exact Nat.div_le_self _ _
  have h4 : 0 ≤ a.tdiv b := by rw [Int.tdiv_eq_ediv_of_nonneg h0]; exact Int.ediv_nonneg h0 (Int.le_of_lt h)
  constructor <;> omega
theorem ol_rem {a b : Int} (h0 : 0 ≤ a) (ha : inR64 a) (hb : inR64 b) (h : 0 < b) : Int64.ofInt a - Int64.ofInt a / Int64.ofInt b * Int64.ofInt b = Int64.ofInt (a % b) := by
  rw [ol_div h0 ha hb h, ← Int64.ofInt_mul, ← Int64.ofInt_sub, Int.emod_def, Int.mul_comm b]
theorem oi_clamp {j : Int} {n : Nat} (h : 0 ≤ j ∧ j < (n : Int)) (hn : n < 2 ^ 31) : (Int32.ofInt j).toNatClampNeg = j.toNat ∧ vp_in (Int32.ofInt j) n := by
  have hr : inR j := ⟨by omega, by omega⟩
  refine ⟨?_, vp_in_iff.mpr (by rw [oi_t hr]; exact h)⟩
  show (Int32.ofInt j).toInt.toNat = j.toNat
  rw [oi_t hr]

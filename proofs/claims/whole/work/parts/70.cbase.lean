/-! ===== the worlds while the objects are made: the cells 1 .. k ===== -/
abbrev TT : Type := List Nat × List Nat
def csX (Tb : TT) (k : Nat) (pp : Nat → Nat → Nat) : HS := (k, fun i => Tb.1.getD i 0, fun i => Tb.2.getD i 0, pp, fun _ _ => 0, fun _ _ => 0, 0, 0)
def dz (d : DA) (i : Nat) : DA := (fu d.1 i (fun _ => 0), fu d.2 i (fun _ => 0))
def Cl (k : Nat) (pp : Nat → Nat → Nat) : Prop := ∀ i j, pp i j ≤ k
theorem Cl.up {k : Nat} {pp : Nat → Nat → Nat} (h : Cl k pp) : Cl (k + 1) (fu pp (k + 1) (fun _ => 0)) := by
  intro i j
  by_cases hi : i = k + 1
  · subst hi; rw [fu_s]; exact Nat.zero_le _
  · rw [fu_n hi]; exact Nat.le_succ_of_le (h i j)
theorem Cl.put {k o j v : Nat} {pp : Nat → Nat → Nat} (h : Cl k pp) (hv : v ≤ k) : Cl k (fu pp o (fu (pp o) j v)) := by
  intro a b
  by_cases ha : a = o
  · subst ha
    rw [fu_s]
    by_cases hb : b = j
    · subst hb; rw [fu_s]; exact hv
    · rw [fu_n hb]; exact h a b
  · rw [fu_n ha]; exact h a b
theorem wl_up {Tb : TT} {G : GT} {ad : Nat → Nat} {k q : Nat} {pp : Nat → Nat → Nat} {d : DA} {e : va_E} (hcl : Cl k pp) (he : ce9 G (fu ad (k + 1) q) (wD (csX Tb (k + 1) (fu pp (k + 1) (fun _ => 0))) (dz d (k + 1))) (k + 1) = e) : wl G (fu ad (k + 1) q) (wD (csX Tb (k + 1) (fu pp (k + 1) (fun _ => 0))) (dz d (k + 1))) = wl G ad (wD (csX Tb k pp) d) ++ [(q, e)] := by
  have e1 : nN (wD (csX Tb k pp) d) = k := rfl
  have e2 : nN (wD (csX Tb (k + 1) (fu pp (k + 1) (fun _ => 0))) (dz d (k + 1))) = k + 1 := rfl
  unfold wl
  rw [e1, e2, List.range_succ, List.map_append]
  refine congr (congrArg _ (List.map_congr_left fun i hi => ?_)) ?_
  · have h1 : i + 1 ≠ k + 1 := by have := List.mem_range.mp hi; omega
    rw [fu_n h1]
    refine congrArg _ (ce_ne rfl rfl ?_ ?_ (fun j => ?_))
    · show fu d.1 (k + 1) (fun _ => 0) (i + 1) = d.1 (i + 1)
      rw [fu_n h1]
    · show fu d.2 (k + 1) (fun _ => 0) (i + 1) = d.2 (i + 1)
      rw [fu_n h1]
    · show rf9 (fu ad (k + 1) q) (fu pp (k + 1) (fun _ => 0) (i + 1) j) = rf9 ad (pp (i + 1) j)
      rw [fu_n h1]
      have := hcl (i + 1) j
      exact rf_ne (by omega)
  · show [(fu ad (k + 1) q (k + 1), ce9 G (fu ad (k + 1) q) _ (k + 1))] = _
    rw [fu_s, he]
theorem arr_wJ : Cond.arrayClass .long ∈ allw := am1 82 (by decide +kernel) rfl
section CB
variable {Tb : TT} {B : BT} {ad : Nat → Nat} {cc : ByteArray} {own : String} {nL fr lo pc pc1 c9 s9 k : Nat} {pp : Nat → Nat → Nat} {d : DA} {ret : Option FieldType} {lv : List (Nat × Value)} {st : List Value}
theorem j_cnI (hK : Ok9 (KE B ad (csX Tb k pp) c9 s9) cc own nL ret fr lo) (hcl : Cl k pp) {n : Int} {N : Nat} (hN : n = (N : Int)) (hk : Tb.1.getD (k + 1) 0 = 13) (hz : Tb.2.getD (k + 1) 0 = N) (hb : N ≤ 67108864) (hd : Dc cc pc (.newarray .int) 2 pc1) (kk : ∀ q, J (KE B (fu ad (k + 1) q) (csX Tb (k + 1) (fu pp (k + 1) (fun _ => 0))) (c9 + 1) (s9 + N)) nL (dz d (k + 1)) lv pc1 (.ref q :: st)) : J (KE B ad (csX Tb k pp) c9 s9) nL d lv pc (vi n :: st) := by
  subst hN
  obtain ⟨⟨b1, b2⟩, b3, b4⟩ := (kk 0).1
  have b1' : c9 + 1 ≤ B.2.2.2.2.1.cells := b1
  have b2' : s9 + N ≤ B.2.2.2.2.1.slots := b2
  have b3' : c9 + 1 ≤ B.2.2.2.2.2.2.2.2.2.2.2.2.2.1 := b3
  have b4' : s9 + N ≤ B.2.2.2.2.2.2.2.2.2.2.2.2.2.2 := b4
  have c1 : c9 ≤ B.2.2.2.2.1.cells := Nat.le_of_succ_le b1'
  have c2 : s9 ≤ B.2.2.2.2.1.slots := Nat.le_trans (Nat.le_add_right _ _) b2'
  have c3 : c9 ≤ B.2.2.2.2.2.2.2.2.2.2.2.2.2.1 := Nat.le_of_succ_le b3'
  have c4 : s9 ≤ B.2.2.2.2.2.2.2.2.2.2.2.2.2.2 := Nat.le_trans (Nat.le_add_right _ _) b4'
  refine ⟨⟨⟨c1, c2⟩, c3, c4⟩, fun H locs ls hR hl => ?_⟩
  obtain ⟨hd, rfl⟩ := hd
  have h0 : (0 : Int) ≤ (N : Int) := Int.natCast_nonneg N
  have h1 : (N : Int) < 2147483648 := by omega
  obtain ⟨u1, u2⟩ := oi_nn h0 h1
  have u3 : (Int32.ofInt (N : Int)).toNatClampNeg = N := u2
  have hKx : va_K (gD B.1) vwCl (gT B.1) B.2.2.2.2.2.1 := hK.1.2.2.2.2.2.1
  have hby : N * componentBytes .int ≤ 536870912 := by
    have e : componentBytes .int = 4 := rfl
    rw [e]
    omega
  have hAg : ∀ q, (B.2.2.2.2.2.1).heap.size ≤ q → gA B.1 q := hK.1.2.2.2.2.2.2.2.2.2.1
  have hw : (Cond.arrayClass (newarray.typeOf .int)).before B.2.2.2.2.2.2.2.1 B.2.2.2.2.2.1 = true := hK.1.2.2.2.2.1 _ arr_w _
  have hP0 : va_P (gD B.1) vwCl (wl B.1 ad (wD (csX Tb k pp) d)) H := hR.1.1
  have hD0 : va_D (gA B.1) (wl B.1 ad (wD (csX Tb k pp) d)) := hR.1.2
  have hS0 : va_S (gA B.1) (B.2.2.2.2.2.1).heap H locs := hR.2
  refine va_newa (D := gD B.1) (cl := vwCl) (tys := gT B.1) (ws := wl B.1 ad (wD (csX Tb k pp) d)) (A := gA B.1) (ty := .int) (a0 := (N, .inl (fun _ => Int32.ofInt 0))) hK.1.1 hK.1.2.1 hw rfl hKx hP0 hD0 hS0 hAg (fun cA => rfl) u1 u3 hby b1' b2' hd (fun q cA H1 hK1 hP hD hS => ?_)
  have g1 : va_RA B.2.2.2.2.2.1 cA .int := (hK1.2 2 (cA, .int) rfl).2
  have g2 : va_RA B.2.2.2.2.2.1 (gI B.1) .int := (hKx.2 0 (gI B.1, .int) rfl).2
  have hcA : cA = gI B.1 := Option.some.inj (g1.symm.trans g2)
  subst hcA
  have he : ce9 B.1 (fu ad (k + 1) q) (wD (csX Tb (k + 1) (fu pp (k + 1) (fun _ => 0))) (dz d (k + 1))) (k + 1) = .inl (gI B.1, N, .inl (fun _ => Int32.ofInt 0)) := by
    rw [ce_I (show kK (wD (csX Tb (k + 1) (fu pp (k + 1) (fun _ => 0))) (dz d (k + 1))) (k + 1) = 13 from hk), show zZ (wD (csX Tb (k + 1) (fu pp (k + 1) (fun _ => 0))) (dz d (k + 1))) (k + 1) = N from hz]
    have e3 : iI (wD (csX Tb (k + 1) (fu pp (k + 1) (fun _ => 0))) (dz d (k + 1))) (k + 1) = fun _ => 0 := by
      show fu d.1 (k + 1) (fun _ => 0) (k + 1) = _
      exact fu_s
    rw [e3]
  rw [← wl_up hcl he] at hP hD
  exact (kk q).2 H1 locs ls ⟨⟨hP, hD⟩, hS⟩ hl
theorem j_cnJ (hK : Ok9 (KE B ad (csX Tb k pp) c9 s9) cc own nL ret fr lo) (hcl : Cl k pp) {n : Int} {N : Nat} (hN : n = (N : Int)) (hk : Tb.1.getD (k + 1) 0 = 14) (hz : Tb.2.getD (k + 1) 0 = N) (hb : N ≤ 67108864) (hd : Dc cc pc (.newarray .long) 2 pc1) (kk : ∀ q, J (KE B (fu ad (k + 1) q) (csX Tb (k + 1) (fu pp (k + 1) (fun _ => 0))) (c9 + 1) (s9 + N)) nL (dz d (k + 1)) lv pc1 (.ref q :: st)) : J (KE B ad (csX Tb k pp) c9 s9) nL d lv pc (vi n :: st) := by
  subst hN
  obtain ⟨⟨b1, b2⟩, b3, b4⟩ := (kk 0).1
  have b1' : c9 + 1 ≤ B.2.2.2.2.1.cells := b1
  have b2' : s9 + N ≤ B.2.2.2.2.1.slots := b2
  have b3' : c9 + 1 ≤ B.2.2.2.2.2.2.2.2.2.2.2.2.2.1 := b3
  have b4' : s9 + N ≤ B.2.2.2.2.2.2.2.2.2.2.2.2.2.2 := b4
  have c1 : c9 ≤ B.2.2.2.2.1.cells := Nat.le_of_succ_le b1'
  have c2 : s9 ≤ B.2.2.2.2.1.slots := Nat.le_trans (Nat.le_add_right _ _) b2'
  have c3 : c9 ≤ B.2.2.2.2.2.2.2.2.2.2.2.2.2.1 := Nat.le_of_succ_le b3'
  have c4 : s9 ≤ B.2.2.2.2.2.2.2.2.2.2.2.2.2.2 := Nat.le_trans (Nat.le_add_right _ _) b4'
  refine ⟨⟨⟨c1, c2⟩, c3, c4⟩, fun H locs ls hR hl => ?_⟩
  obtain ⟨hd, rfl⟩ := hd
  have h0 : (0 : Int) ≤ (N : Int) := Int.natCast_nonneg N
  have h1 : (N : Int) < 2147483648 := by omega
  obtain ⟨u1, u2⟩ := oi_nn h0 h1
  have u3 : (Int32.ofInt (N : Int)).toNatClampNeg = N := u2
  have hKx : va_K (gD B.1) vwCl (gT B.1) B.2.2.2.2.2.1 := hK.1.2.2.2.2.2.1
  have hby : N * componentBytes .long ≤ 536870912 := by
    have e : componentBytes .long = 8 := rfl
    rw [e]
    omega
  have hAg : ∀ q, (B.2.2.2.2.2.1).heap.size ≤ q → gA B.1 q := hK.1.2.2.2.2.2.2.2.2.2.1
  have hw : (Cond.arrayClass (newarray.typeOf .long)).before B.2.2.2.2.2.2.2.1 B.2.2.2.2.2.1 = true := hK.1.2.2.2.2.1 _ arr_wJ _
  have hP0 : va_P (gD B.1) vwCl (wl B.1 ad (wD (csX Tb k pp) d)) H := hR.1.1
  have hD0 : va_D (gA B.1) (wl B.1 ad (wD (csX Tb k pp) d)) := hR.1.2
  have hS0 : va_S (gA B.1) (B.2.2.2.2.2.1).heap H locs := hR.2
  refine va_newa (D := gD B.1) (cl := vwCl) (tys := gT B.1) (ws := wl B.1 ad (wD (csX Tb k pp) d)) (A := gA B.1) (ty := .long) (a0 := (N, .inr (.inl (fun _ => Int64.ofInt 0)))) hK.1.1 hK.1.2.1 hw rfl hKx hP0 hD0 hS0 hAg (fun cA => rfl) u1 u3 hby b1' b2' hd (fun q cA H1 hK1 hP hD hS => ?_)
  have g1 : va_RA B.2.2.2.2.2.1 cA .long := (hK1.2 2 (cA, .long) rfl).2
  have g2 : va_RA B.2.2.2.2.2.1 (gJ B.1) .long := (hKx.2 1 (gJ B.1, .long) rfl).2
  have hcA : cA = gJ B.1 := Option.some.inj (g1.symm.trans g2)
  subst hcA
  have he : ce9 B.1 (fu ad (k + 1) q) (wD (csX Tb (k + 1) (fu pp (k + 1) (fun _ => 0))) (dz d (k + 1))) (k + 1) = .inl (gJ B.1, N, .inr (.inl (fun _ => Int64.ofInt 0))) := by
    rw [ce_L (show kK (wD (csX Tb (k + 1) (fu pp (k + 1) (fun _ => 0))) (dz d (k + 1))) (k + 1) = 14 from hk), show zZ (wD (csX Tb (k + 1) (fu pp (k + 1) (fun _ => 0))) (dz d (k + 1))) (k + 1) = N from hz]
    have e3 : lL (wD (csX Tb (k + 1) (fu pp (k + 1) (fun _ => 0))) (dz d (k + 1))) (k + 1) = fun _ => 0 := by
      show fu d.2 (k + 1) (fun _ => 0) (k + 1) = _
      exact fu_s
    rw [e3]
  rw [← wl_up hcl he] at hP hD
  exact (kk q).2 H1 locs ls ⟨⟨hP, hD⟩, hS⟩ hl
def fs0 (ci : Nat) : List Value := (List.range (fN ci)).map (fun j => if fR ci j then Value.null else .int 0)
theorem j_cnO (hK : Ok9 (KE B ad (csX Tb k pp) c9 s9) cc own nL ret fr lo) (hcl : Cl k pp) {ci idx N : Nat} {C : String} {T : u_T} {ty : Nat → FieldType} (hk : Tb.1.getD (k + 1) 0 = ci) (hci : ci < 13) (hc : vwCl[ci]? = some (C, T, N)) (hin : ∀ w ∈ u_ws C T N, w ∈ allw) (hty : ∀ j, j < N → parseFieldDescriptor (T j).2.2.1 = some (ty j)) (hlk : Cond.classLink own idx C ∈ allw) (hins : Cond.instantiable C N ∈ allw) (hini : Cond.initialized C ∈ allw) (hfs : ∀ j, j < N → defaultValue (ty j) = vp_V (fs0 ci) j) (hd : Dc cc pc (.new idx) 3 pc1)
    (kk : ∀ q, J (KE B (fu ad (k + 1) q) (csX Tb (k + 1) (fu pp (k + 1) (fun _ => 0))) (c9 + 1) (s9 + N)) nL (dz d (k + 1)) lv pc1 (.ref q :: st)) : J (KE B ad (csX Tb k pp) c9 s9) nL d lv pc st := by
  obtain ⟨⟨b1, b2⟩, b3, b4⟩ := (kk 0).1
  have b1' : c9 + 1 ≤ B.2.2.2.2.1.cells := b1
  have b2' : s9 + N ≤ B.2.2.2.2.1.slots := b2
  have b3' : c9 + 1 ≤ B.2.2.2.2.2.2.2.2.2.2.2.2.2.1 := b3
  have b4' : s9 + N ≤ B.2.2.2.2.2.2.2.2.2.2.2.2.2.2 := b4
  have c1 : c9 ≤ B.2.2.2.2.1.cells := Nat.le_of_succ_le b1'
  have c2 : s9 ≤ B.2.2.2.2.1.slots := Nat.le_trans (Nat.le_add_right _ _) b2'
  have c3 : c9 ≤ B.2.2.2.2.2.2.2.2.2.2.2.2.2.1 := Nat.le_of_succ_le b3'
  have c4 : s9 ≤ B.2.2.2.2.2.2.2.2.2.2.2.2.2.2 := Nat.le_trans (Nat.le_add_right _ _) b4'
  refine ⟨⟨⟨c1, c2⟩, c3, c4⟩, fun H locs ls hR hl => ?_⟩
  obtain ⟨hd, rfl⟩ := hd
  have hKx : va_K (gD B.1) vwCl (gT B.1) B.2.2.2.2.2.1 := hK.1.2.2.2.2.2.1
  have hAg : ∀ q, (B.2.2.2.2.2.1).heap.size ≤ q → gA B.1 q := hK.1.2.2.2.2.2.2.2.2.2.1
  have hP0 : va_P (gD B.1) vwCl (wl B.1 ad (wD (csX Tb k pp) d)) H := hR.1.1
  have hD0 : va_D (gA B.1) (wl B.1 ad (wD (csX Tb k pp) d)) := hR.1.2
  have hS0 : va_S (gA B.1) (B.2.2.2.2.2.1).heap H locs := hR.2
  refine va_new (D := gD B.1) (cl := vwCl) (tys := gT B.1) (ws := wl B.1 ad (wD (csX Tb k pp) d)) (A := gA B.1) (Ts := allw) (fs := fs0 ci) hK.1.1 hK.1.2.1 (fun w hw => hK.1.2.2.2.2.1 w hw _) hin ty hty hK.1.2.2.2.1 (hK.1.2.2.2.2.1 _ hlk _) (hK.1.2.2.2.2.1 _ hins _) (hK.1.2.2.2.2.1 _ hini _) hKx hP0 hD0 hS0 hAg hc hfs b1' b2' hd (fun q H1 hP hD hS => ?_)
  have he : ce9 B.1 (fu ad (k + 1) q) (wD (csX Tb (k + 1) (fu pp (k + 1) (fun _ => 0))) (dz d (k + 1))) (k + 1) = .inr (ci, fs0 ci) := by
    rw [ce_O (show kK (wD (csX Tb (k + 1) (fu pp (k + 1) (fun _ => 0))) (dz d (k + 1))) (k + 1) = ci from hk) hci]
    have e3 : ∀ j, pP (wD (csX Tb (k + 1) (fu pp (k + 1) (fun _ => 0))) (dz d (k + 1))) (k + 1) j = 0 := fun j => by
      show fu pp (k + 1) (fun _ => 0) (k + 1) j = 0
      rw [fu_s]
    have e4 : ∀ j, iI (wD (csX Tb (k + 1) (fu pp (k + 1) (fun _ => 0))) (dz d (k + 1))) (k + 1) j = 0 := fun j => by
      show fu d.1 (k + 1) (fun _ => 0) (k + 1) j = 0
      rw [fu_s]
    unfold fs0
    simp only [e3, e4]
    rfl
  rw [← wl_up hcl he] at hP hD
  exact (kk q).2 H1 locs ls ⟨⟨hP, hD⟩, hS⟩ hl
/-- a final reference, in a constructor -/
def FPF (own : String) (idx ci k : Nat) (ty : FieldType) : Prop := ∃ (C : String) (T : u_T) (N : Nat), vwCl[ci]? = some (C, T, N) ∧ (T k).2.2.2 = true ∧ (T k).1 = own ∧ parseFieldDescriptor (T k).2.2.1 = some ty ∧ Cond.fieldLink own idx (T k).1 (T k).2.1 (T k).2.2.1 ∈ allw
theorem j_cpF (hK : Ok9 (KE B ad (csX Tb k pp) c9 s9) cc own nL ret fr lo) (hnm9 : B.2.2.2.2.2.2.2.2.2.1.name = "<init>") {o idx ci f v : Nat} {ty : FieldType} (ho : 1 ≤ o ∧ o ≤ k) (hk : Tb.1.getD o 0 = ci) (hF : FL own idx ci f) (hP : FPF own idx ci f ty) (hf : fR ci f = true) (hv : v ≠ 0) (hnar : ∀ a : Nat, narrow ty (.ref a) = .ref a) (hfit : ∀ a : Nat, fits ty (.ref a) = true) (hd : Dc cc pc (.putfield idx) 3 pc1) (kk : J (KE B ad (csX Tb k (fu pp o (fu (pp o) f v))) c9 s9) nL d lv pc1 st) : J (KE B ad (csX Tb k pp) c9 s9) nL d lv pc (.ref (ad v) :: .ref (ad o) :: st) := by
  refine ⟨kk.1, fun H locs ls hR hl => ?_⟩
  obtain ⟨hd, rfl⟩ := hd
  obtain ⟨hci, C, T, N, ty0, hcl, hfN, hkN, hin, hty, hnm, -⟩ := hF
  obtain ⟨C2, T2, N2, hcl2, hfin, hdc, hpd, hlk⟩ := hP
  cases Option.some.inj (hcl.symm.trans hcl2)
  have hKx : va_K (gD B.1) vwCl (gT B.1) B.2.2.2.2.2.1 := hK.1.2.2.2.2.2.1
  have hR' : Rh B.1 B.2.2.2.2.2.1 ad (wD (csX Tb k pp) d) H locs := hR
  have hi : isC (wD (csX Tb k pp) d) o := ho
  have hE := wl_at (G := B.1) (ad := ad) hi
  rw [ce_O (show kK (wD (csX Tb k pp) d) o = ci from hk) hci] at hE
  have hkf : f < fN ci := by rw [hfN]; exact hkN
  have hset : (wl B.1 ad (wD (csX Tb k pp) d)).set (o - 1) (ad o, .inr (ci, ((List.range (fN ci)).map (fun j => if fR ci j then rf9 ad (pP (wD (csX Tb k pp) d) o j) else vi (iI (wD (csX Tb k pp) d) o j))).set f (.ref (ad v)))) = wl B.1 ad (wD (csX Tb k (fu pp o (fu (pp o) f v))) d) := by
    refine wl_set hi rfl ?_ (fun j hj => ce_ne rfl rfl rfl rfl (fun j2 => ?_))
    · rw [ce_O (show kK (wD (csX Tb k (fu pp o (fu (pp o) f v))) d) o = ci from hk) hci]
      refine congrArg _ (congrArg _ ?_)
      have ev : (if fR ci f then rf9 ad (pP (wD (csX Tb k (fu pp o (fu (pp o) f v))) d) o f) else vi (iI (wD (csX Tb k (fu pp o (fu (pp o) f v))) d) o f)) = .ref (ad v) := by
        rw [hf, if_pos rfl]
        show rf9 ad (fu pp o (fu (pp o) f v) o f) = _
        rw [fu_s, fu_s]
        unfold rf9
        rw [if_neg hv]
      rw [← ev]
      refine (set_fs (f := fun j => if fR ci j then rf9 ad (pP (wD (csX Tb k pp) d) o j) else vi (iI (wD (csX Tb k pp) d) o j)) (g := fun j => if fR ci j then rf9 ad (pP (wD (csX Tb k (fu pp o (fu (pp o) f v))) d) o j) else vi (iI (wD (csX Tb k (fu pp o (fu (pp o) f v))) d) o j)) hkf (fun j hj => ?_)).symm
      have e5 : pP (wD (csX Tb k (fu pp o (fu (pp o) f v))) d) o j = pP (wD (csX Tb k pp) d) o j := by
        show fu pp o (fu (pp o) f v) o j = pp o j
        rw [fu_s, fu_n hj]
      rw [e5]
      rfl
    · show rf9 ad (fu pp o (fu (pp o) f v) j j2) = rf9 ad (pp j j2)
      rw [fu_n hj]
  refine va_putF (D := gD B.1) (cl := vwCl) (tys := gT B.1) (Ts := allw) hK.1.1 hK.1.2.1 (fun w hw => hK.1.2.2.2.2.1 w hw _) hin ty0 hty hnm hK.1.2.2.2.1 hKx hR'.1.1 hR'.1.2 hR'.2 (o - 1) hE hcl f hkN (hK.1.2.2.2.2.1 _ hlk _) (fun _ h9 => h9) hfin hnm9 hdc hpd (hnar _) (hfit _) (by simpa using hkf) hd (fun H1 locs1 hP1 hD1 hS1 => ?_)
  rw [hset] at hP1 hD1
  exact kk.2 H1 locs1 ls ⟨⟨hP1, hD1⟩, hS1⟩ hl
end CB

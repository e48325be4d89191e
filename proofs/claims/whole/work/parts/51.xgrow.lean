/-! ===== a cell more ===== -/
def xok (x : XS) : Prop := (xrt x = 0 ∨ xrt x = 44) ∧ (xrb x = 0 ∨ xrb x = 38) ∧ (xtt x = 0 ∨ xtt x = 5) ∧ (xtn x = 0 ∨ xtn x = 58)
abbrev xok9 (x : XS) : Prop := (xrt x = 0 ∨ xrt x = 44) ∧ (xrb x = 0 ∨ xrb x = 38) ∧ (xtt x = 0 ∨ xtt x = 5) ∧ (xtn x = 0 ∨ xtn x = 58)
theorem pt_in : ∀ c, c < 163 → ∀ k, k < 90 → (pTl.getD c []).getD k 0 ≤ 161 ∧ ((pTl.getD c []).getD k 0 = 47 → c = 46 ∧ k = 4) ∧ ((pTl.getD c []).getD k 0 = 71 → c = 68 ∧ k = 3) := by decide +kernel
theorem pt_len : ∀ r ∈ pTl, r.length ≤ 90 := by decide +kernel
theorem pt_all (c k : Nat) : (pTl.getD c []).getD k 0 ≤ 161 ∧ ((pTl.getD c []).getD k 0 = 47 → c = 46 ∧ k = 4) ∧ ((pTl.getD c []).getD k 0 = 71 → c = 68 ∧ k = 3) := by
  by_cases hc : c < 163
  · by_cases hk : k < 90
    · exact pt_in c hc k hk
    · have hl : (pTl.getD c []).length ≤ 90 := by
        rw [List.getD_eq_getElem?_getD]
        cases hr : pTl[c]? with
        | none => exact Nat.zero_le _
        | some r => exact pt_len r (List.mem_of_getElem? hr)
      have e : (pTl.getD c []).getD k 0 = 0 := by
        rw [List.getD_eq_getElem?_getD (l := pTl.getD c []), List.getElem?_eq_none (by omega)]
        rfl
      rw [e]
      exact ⟨by decide, fun h => absurd h (by decide), fun h => absurd h (by decide)⟩
  · have e : (pTl.getD c []) = [] := by
      rw [List.getD_eq_getElem?_getD, List.getElem?_eq_none (by rw [show pTl.length = 163 from rfl]; omega)]
      rfl
    rw [e]
    exact ⟨by simp, fun h => absurd h (by simp), fun h => absurd h (by simp)⟩
theorem pp_all {x : XS} (h : xok9 x) (c k : Nat) : pP (sg x) c k ≤ 161 ∧ (pP (sg x) c k = 47 → c = 46 ∧ k = 4) ∧ (pP (sg x) c k = 71 → c = 68 ∧ k = 3) := by
  obtain ⟨h1, h2, h3, h4⟩ := h
  show (if c = 45 then (if k = 0 then xrt x else if k = 10 then xrb x else 0) else if c = 68 then (if k = 4 then xtt x else if k = 5 then xtn x else (pTl.getD 68 []).getD k 0) else (pTl.getD c []).getD k 0) ≤ 161 ∧ ((if c = 45 then (if k = 0 then xrt x else if k = 10 then xrb x else 0) else if c = 68 then (if k = 4 then xtt x else if k = 5 then xtn x else (pTl.getD 68 []).getD k 0) else (pTl.getD c []).getD k 0) = 47 → c = 46 ∧ k = 4) ∧ ((if c = 45 then (if k = 0 then xrt x else if k = 10 then xrb x else 0) else if c = 68 then (if k = 4 then xtt x else if k = 5 then xtn x else (pTl.getD 68 []).getD k 0) else (pTl.getD c []).getD k 0) = 71 → c = 68 ∧ k = 3)
  by_cases c1 : c = 45
  · rw [if_pos c1]
    by_cases k1 : k = 0
    · rw [if_pos k1]; refine ⟨by omega, fun h => by omega, fun h => by omega⟩
    · rw [if_neg k1]
      by_cases k2 : k = 10
      · rw [if_pos k2]; refine ⟨by omega, fun h => by omega, fun h => by omega⟩
      · rw [if_neg k2]; refine ⟨by omega, fun h => by omega, fun h => by omega⟩
  · rw [if_neg c1]
    by_cases c2 : c = 68
    · rw [if_pos c2]
      by_cases k1 : k = 4
      · rw [if_pos k1]; refine ⟨by omega, fun h => by omega, fun h => by omega⟩
      · rw [if_neg k1]
        by_cases k2 : k = 5
        · rw [if_pos k2]; refine ⟨by omega, fun h => by omega, fun h => by omega⟩
        · rw [if_neg k2, c2]
          exact pt_all 68 k
    · rw [if_neg c2]
      exact pt_all c k
/-- the world with the row 162 of n ints -/
def sE (x : XS) (n : Nat) : HS := (162, fun i => kTl.getD i 0, fun i => if i = 162 then n else zZ (sg x) i, pP (sg x), x.1.1, x.1.2, 0, 0)
def dE (d : DA) : DA := (fu d.1 162 (fun _ => 0), d.2)
theorem ce_ne {G : GT} {ad ad' : Nat → Nat} {σ σ' : HS} {i : Nat} (hk : kK σ' i = kK σ i) (hz : zZ σ' i = zZ σ i) (hi : iI σ' i = iI σ i) (hl : lL σ' i = lL σ i) (hp : ∀ k, rf9 ad' (pP σ' i k) = rf9 ad (pP σ i k)) : ce9 G ad' σ' i = ce9 G ad σ i := by
  unfold ce9
  rw [hk, hz, hi, hl]
  simp only [hp]
theorem rf_ne {ad : Nat → Nat} {g p r : Nat} (h : r ≠ g) : rf9 (fu ad g p) r = rf9 ad r := by
  unfold rf9
  rw [fu_n h]
theorem wl_E {G : GT} {ad : Nat → Nat} {x : XS} {n q : Nat} {d : DA} (he : xe x = 0) (ho : xok9 x) : wl G (fu ad 162 q) (wD (sE x n) (dE d)) = wl G ad (wD (sg x) d) ++ [(q, .inl (gI G, n, .inl (fun _ => Int32.ofInt 0)))] := by
  have e1 : nN (wD (sg x) d) = 161 := by show 161 + xe x = 161; rw [he]
  have e2 : nN (wD (sE x n) (dE d)) = 161 + 1 := rfl
  unfold wl
  rw [e1, e2, List.range_succ, List.map_append]
  refine congr (congrArg _ (List.map_congr_left fun i hi => ?_)) ?_
  · have h1 : i + 1 ≠ 162 := by have := List.mem_range.mp hi; omega
    rw [fu_n h1]
    refine congrArg _ (ce_ne rfl ?_ ?_ rfl (fun k => ?_))
    · show (if i + 1 = 162 then n else zZ (sg x) (i + 1)) = _
      rw [if_neg h1]
      rfl
    · show fu d.1 162 (fun _ => 0) (i + 1) = d.1 (i + 1)
      rw [fu_n h1]
    · have := (pp_all ho (i + 1) k).1
      exact rf_ne (r := pP (sg x) (i + 1) k) (by omega)
  · show [(fu ad 162 q 162, ce9 G (fu ad 162 q) (wD (sE x n) (dE d)) 162)] = _
    rw [fu_s, ce_I (show kK (wD (sE x n) (dE d)) 162 = 13 from rfl)]
    have e4 : zZ (wD (sE x n) (dE d)) 162 = n := by
      show (if (162 : Nat) = 162 then n else zZ (sg x) 162) = n
      exact if_pos rfl
    rw [e4]
    have e3 : iI (wD (sE x n) (dE d)) 162 = fun _ => 0 := by
      show fu d.1 162 (fun _ => 0) 162 = _
      exact fu_s
    rw [e3]
def KE (B : BT) (ad : Nat → Nat) (σ : HS) (c s : Nat) : KT := (B, ad, σ, c, s)
theorem arr_w : Cond.arrayClass .int ∈ allw := am1 81 (by decide +kernel) rfl
section XG
variable {B : BT} {c0 s0 g : Nat} {ad ad0 : Nat → Nat} {x x1 : XS} {XC : String → State → State → Prop} {cc : ByteArray} {own : String} {nL fr lo pc pc1 tgt c9 s9 : Nat} {ret : Option FieldType} {lv lv' : List (Nat × Value)} {st : List Value} {Y : Type} {y : Y}
theorem j_newE (hK : Ok9 (KE B ad (sg x) c9 s9) cc own nL ret fr lo) (he : xe x = 0) (ho : xok9 x) {n : Int} {N : Nat} (hN : n = (N : Int)) (hb : N ≤ 134217728) (hd : Dc cc pc (.newarray .int) 2 pc1) (kk : ∀ q, J (KE B (fu ad 162 q) (sE x N) (c9 + 1) (s9 + N)) nL (dE x.1) lv pc1 (.ref q :: st)) : J (KE B ad (sg x) c9 s9) nL x.1 lv pc (vi n :: st) := by
  subst hN
  obtain ⟨⟨b1, b2⟩, b3, b4⟩ := (kk 0).1
  have b1' : c9 + 1 ≤ B.2.2.2.2.1.cells := b1
  have b2' : s9 + N ≤ B.2.2.2.2.1.slots := b2
  have b3' : c9 + 1 ≤ B.2.2.2.2.2.2.2.2.2.2.2.2.2.1 := b3
  have b4' : s9 + N ≤ B.2.2.2.2.2.2.2.2.2.2.2.2.2.2 := b4
  have c1 : c9 ≤ B.2.2.2.2.1.cells := Nat.le_of_succ_le b1'
  have c2 : s9 ≤ B.2.2.2.2.1.slots := Nat.le_trans (Nat.le_add_right _ _) b2'
  have c3 : c9 ≤ B.2.2.2.2.2.2.2.2.2.2.2.2.2.1 := Nat.le_of_succ_le b3'
  have c4 : s9 ≤ B.2.2.2.2.2.2.2.2.2.2.2.2.2.2 := Nat.le_trans (Nat.le_add_right _ _) b4'
  refine ⟨⟨⟨c1, c2⟩, c3, c4⟩, fun H locs ls hR hl => ?_⟩
  obtain ⟨hd, rfl⟩ := hd
  have h0 : (0 : Int) ≤ (N : Int) := Int.natCast_nonneg N
  have h1 : (N : Int) < 2147483648 := by omega
  obtain ⟨u1, u2⟩ := oi_nn h0 h1
  have u3 : (Int32.ofInt (N : Int)).toNatClampNeg = N := u2
  have hKx : va_K (gD B.1) vwCl (gT B.1) B.2.2.2.2.2.1 := hK.1.2.2.2.2.2.1
  have hby : N * componentBytes .int ≤ 536870912 := by
    have e : componentBytes .int = 4 := rfl
    rw [e]
    omega
  have hAg : ∀ q, (B.2.2.2.2.2.1).heap.size ≤ q → gA B.1 q := hK.1.2.2.2.2.2.2.2.2.2.1
  have hw : (Cond.arrayClass (newarray.typeOf .int)).before B.2.2.2.2.2.2.2.1 B.2.2.2.2.2.1 = true := hK.1.2.2.2.2.1 _ arr_w _
  have hP0 : va_P (gD B.1) vwCl (wl B.1 ad (wD (sg x) x.1)) H := hR.1.1
  have hD0 : va_D (gA B.1) (wl B.1 ad (wD (sg x) x.1)) := hR.1.2
  have hS0 : va_S (gA B.1) (B.2.2.2.2.2.1).heap H locs := hR.2
  refine va_newa (D := gD B.1) (cl := vwCl) (tys := gT B.1) (ws := wl B.1 ad (wD (sg x) x.1)) (A := gA B.1) (ty := .int) (a0 := (N, .inl (fun _ => Int32.ofInt 0))) hK.1.1 hK.1.2.1 hw rfl hKx hP0 hD0 hS0 hAg (fun cA => rfl) u1 u3 hby b1' b2' hd (fun q cA H1 hK1 hP hD hS => ?_)
  have g1 : va_RA B.2.2.2.2.2.1 cA .int := (hK1.2 2 (cA, .int) rfl).2
  have g2 : va_RA B.2.2.2.2.2.1 (gI B.1) .int := (hKx.2 0 (gI B.1, .int) rfl).2
  have hcA : cA = gI B.1 := Option.some.inj (g1.symm.trans g2)
  subst hcA
  rw [← wl_E he ho] at hP hD
  exact (kk q).2 H1 locs ls ⟨⟨hP, hD⟩, hS⟩ hl
end XG

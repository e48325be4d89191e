def xGC (x : XS) : XS := ((fu x.1.1 47 (fun k => if k < xzc x then x.1.1 47 k else 0), x.1.2), 2 * xzc x, xzf x, xrt x, xrb x, xtt x, xtn x, xe x, xc x + 1, xs x + 2 * xzc x)
def gmC (k : Nat) : Nat := if k = 46 then 161 else k
theorem ppC (x : XS) : pP (sg x) 46 4 = 47 := rfl
theorem gsC {x : XS} {i : Nat} (h : i ≠ 47) : zZ (sg (xGC x)) i = zZ (sg x) i := by
  show (if i = 47 then xzc (xGC x) else if i = 71 then xzf (xGC x) else zTl.getD i 0) = (if i = 47 then xzc x else if i = 71 then xzf x else zTl.getD i 0)
  by_cases h1 : i = 47
  · first | exact absurd h1 h | (rw [if_pos h1, if_pos h1]; rfl)
  · rw [if_neg h1, if_neg h1]
    by_cases h2 : i = 71
    · first | exact absurd h2 h | (rw [if_pos h2, if_pos h2]; rfl)
    · rw [if_neg h2, if_neg h2]
theorem cpDC {x : XS} : (cpI (dE x.1) 47 0 162 0 (xzc x : Int)).1 162 = fun k => if k < xzc x then x.1.1 47 k else 0 := by
  show fu (fu x.1.1 162 (fun _ => 0)) 162 (cpF (fu x.1.1 162 (fun _ => 0) 47) (fu x.1.1 162 (fun _ => 0) 162) 0 0 (xzc x : Int)) 162 = _
  rw [fu_s, fu_s, fu_n (show (47 : Nat) ≠ 162 by decide)]
  funext k
  unfold cpF
  by_cases h : k < xzc x
  · rw [if_pos ⟨Nat.zero_le _, by simp; exact h⟩, if_pos h]
    simp
  · rw [if_neg (fun h9 => h (by simpa using h9.2)), if_neg h]
theorem remapC {G : GT} {ad : Nat → Nat} {x : XS} {q : Nat} {H : Heap} (he : xe x = 0) (ho : xok9 x) (h : Rp G (fu ad 162 q) (stP (wD (sE x (2 * xzc x)) (cpI (dE x.1) 47 0 162 0 (xzc x : Int))) 46 4 162) H) : Rp G (fu ad 47 q) (sg (xGC x)) H := by
  have hw : ∀ (k : Nat) (e : Nat × va_E), (wl G (fu ad 47 q) (sg (xGC x)))[k]? = some e → k < 161 ∧ (wl G (fu ad 162 q) (stP (wD (sE x (2 * xzc x)) (cpI (dE x.1) 47 0 162 0 (xzc x : Int))) 46 4 162))[gmC k]? = some e := by
    intro k e hk
    unfold wl at hk ⊢
    rw [List.getElem?_map] at hk ⊢
    have e1 : nN (sg (xGC x)) = 161 := by show 161 + xe x = 161; rw [he]
    rw [e1] at hk
    have hl : k < 161 := by
      by_cases hl : k < 161
      · exact hl
      · rw [List.getElem?_eq_none (by rw [List.length_range]; omega)] at hk
        cases hk
    refine ⟨hl, ?_⟩
    rw [List.getElem?_range hl] at hk
    have hg : gmC k < 162 := by unfold gmC; split <;> omega
    rw [List.getElem?_range (show gmC k < nN (stP (wD (sE x (2 * xzc x)) (cpI (dE x.1) 47 0 162 0 (xzc x : Int))) 46 4 162) from hg)]
    rw [← hk]
    refine congrArg some ?_
    by_cases hk1 : k = 46
    · subst hk1
      show (fu ad 162 q 162, ce9 G (fu ad 162 q) _ 162) = (fu ad 47 q 47, ce9 G (fu ad 47 q) (sg (xGC x)) 47)
      rw [fu_s, fu_s, ce_I (show kK (stP (wD (sE x (2 * xzc x)) (cpI (dE x.1) 47 0 162 0 (xzc x : Int))) 46 4 162) 162 = 13 from rfl), ce_I (show kK (sg (xGC x)) 47 = 13 from rfl)]
      have e2 : iI (stP (wD (sE x (2 * xzc x)) (cpI (dE x.1) 47 0 162 0 (xzc x : Int))) 46 4 162) 162 = iI (sg (xGC x)) 47 := by
        show (cpI (dE x.1) 47 0 162 0 (xzc x : Int)).1 162 = fu x.1.1 47 (fun k => if k < xzc x then x.1.1 47 k else 0) 47
        rw [cpDC, fu_s]
      have e3 : zZ (stP (wD (sE x (2 * xzc x)) (cpI (dE x.1) 47 0 162 0 (xzc x : Int))) 46 4 162) 162 = zZ (sg (xGC x)) 47 := rfl
      rw [e2, e3]
    · have hgk : gmC k = k := by unfold gmC; rw [if_neg hk1]
      rw [hgk]
      have n1 : k + 1 ≠ 47 := by omega
      have n2 : k + 1 ≠ 162 := by omega
      dsimp only
      rw [fu_n n1, fu_n n2]
      refine congrArg _ (ce_ne rfl ?_ ?_ rfl (fun j => ?_))
      · rw [gsC n1]
        show (if k + 1 = 162 then 2 * xzc x else zZ (sg x) (k + 1)) = _
        rw [if_neg n2]
      · show fu (fu x.1.1 162 (fun _ => 0)) 162 _ (k + 1) = fu x.1.1 47 _ (k + 1)
        rw [fu_n n2, fu_n n2, fu_n n1]
      · have hp := pp_all ho (k + 1) j
        have hpx : pP (sg (xGC x)) (k + 1) j = pP (sg x) (k + 1) j := rfl
        rw [hpx]
        show rf9 (fu ad 162 q) (fu (pP (sg x)) 46 (fu (pP (sg x) 46) 4 162) (k + 1) j) = _
        by_cases ho1 : k + 1 = 46
        · rw [ho1, fu_s]
          by_cases hj : j = 4
          · subst hj
            rw [fu_s, ppC]
            unfold rf9
            rw [if_neg (by decide), if_neg (by decide), fu_s, fu_s]
          · rw [fu_n hj]
            rw [ho1] at hp
            have m1 : pP (sg x) 46 j ≠ 162 := by have := hp.1; omega
            have m2 : pP (sg x) 46 j ≠ 47 := fun h9 => hj (hp.2.1 h9).2
            rw [rf_ne m1, rf_ne m2]
        · rw [fu_n ho1]
          have m1 : pP (sg x) (k + 1) j ≠ 162 := by have := hp.1; omega
          have m2 : pP (sg x) (k + 1) j ≠ 47 := fun h9 => ho1 (hp.2.1 h9).1
          rw [rf_ne m1, rf_ne m2]
  refine ⟨fun k e hk => h.1 _ e (hw k e hk).2, fun i j p e hi hj hpq => ?_, fun k e hk => h.2.2 _ e (hw k e hk).2⟩
  have hi' := hw i p hi
  have hj' := hw j e hj
  have hij := h.2.1 _ _ p e hi'.2 hj'.2 hpq
  unfold gmC at hij
  have a1 := hi'.1
  have a2 := hj'.1
  split at hij <;> split at hij <;> omega
theorem fpgC : FP RX2 15 2 4 (.array .int) := ⟨RX2, TX2, 12, rfl, rfl, by decide +kernel⟩
theorem j_growC {B : BT} {c0 s0 : Nat} {ad : Nat → Nat} {x : XS} {cc : ByteArray} {nL fr lo pc pc1 pc2 : Nat} {ret : Option FieldType} {lv : List (Nat × Value)} {st : List Value} {Y : Type} {y : Y} (hK : Ok9 (KX B c0 s0 ad x) cc RX2 nL ret fr lo) {n : Int} {q : XS → Option Y} (hL : CL RX2 120 yJ7_copyOf_59c91 2) (hF : FL RX2 15 2 4) (hfr : 7 ≤ fr) (hlo : 222 ≤ lo) (hW : ((Value.ref (ad 46) :: st).map fun v => v.category).sum ≤ 8) (hd : Dc cc pc (.invokestatic 120) 3 pc1) (hd2 : Dc cc pc1 (.putfield 15) 3 pc2) (hC : HC c0 s0 x) (h : gd (n = 2 * (xzc x : Int) ∧ 64 ≤ xzc x ∧ xzc x ≤ 1048576 ∧ xe x = 0 ∧ xok9 x) (lt9 (xGC x) q) = some y) (f : ∀ p x1, HC c0 s0 x1 → q x1 = some y → J (KX B c0 s0 (fu ad 47 p) x1) nL x1.1 lv pc2 st) : J (KX B c0 s0 ad x) nL x.1 lv pc (vi n :: .ref (ad 47) :: .ref (ad 46) :: st) := by
  obtain ⟨hg9, h9⟩ := gd_some h
  obtain ⟨hn9, h1, h2, he, ho⟩ := hg9
  subst hn9
  have hm : xc x ≤ xc (xGC x) ∧ xs x ≤ xs (xGC x) := ⟨Nat.le_succ _, Nat.le_add_right _ _⟩
  have hJ := fun p => f p (xGC x) (hc_up hC hm) h9
  have hmm : mmin (xzc x : Int) (2 * (xzc x : Int)) = (xzc x : Int) := by
    unfold mmin
    rw [if_neg (by omega)]
  refine ⟨bd_dn (hJ 0).1 hm, fun H locs ls hR hl => ?_⟩
  obtain ⟨hd, rfl⟩ := hd
  have hM := c_cpyC (G := B.1) (l := B.2.1) (ad := ad) (x := x) (hst9 hK) he ho h1 h2
  rw [hmm] at hM
  have e1 : xc x - c0 + 1 = xc (xGC x) - c0 := by show xc x - c0 + 1 = xc x + 1 - c0; have := hC.1; omega
  have e2 : xs x - s0 + 2 * xzc x = xs (xGC x) - s0 := by show xs x - s0 + 2 * xzc x = xs x + 2 * xzc x - s0; have := hC.2; omega
  have b1 : xc (xGC x) - c0 ≤ B.2.2.2.2.1.cells := (hJ 0).1.1.1
  have b2 : xs (xGC x) - s0 ≤ B.2.2.2.2.1.slots := (hJ 0).1.1.2
  have hr := va_runS (cells := xc x - c0) (slots := xs x - s0) (As := [.ref (ad 47), vi (2 * (xzc x : Int))]) (rest := .ref (ad 46) :: st) (g := F0 (km (KX B c0 s0 ad x)) pc ls (vi (2 * (xzc x : Int)) :: .ref (ad 47) :: .ref (ad 46) :: st)) (e := ke (KX B c0 s0 ad x)) (below := kb (KX B c0 s0 ad x)) (meth := kme (KX B c0 s0 ad x)) (locs := locs) (H := H) ⟨hK.1.1, hK.1.2.1, hK.1.2.2.1, hK.1.2.2.2.1, fun w hw => hK.1.2.2.2.2.1 w hw (kav (KX B c0 s0 ad x))⟩ hM ⟨cl_Bx (R := kR (KX B c0 s0 ad x)) hK.1 hL cd_J7_copyOf_59c91 (Nat.le_trans hfr hK.2.1) (Nat.le_trans hlo hK.2.2.1), hK.1.2.2.2.2.1 _ sm_J7_copyOf_59c91 _⟩ ⟨pc_blind, fun U hU hW => pc_pre hK.1 hR U hU hW⟩ rfl rfl hl.1 rfl (lv_room hW) hd ⟨by rw [e1]; exact b1, by rw [e2]; exact b2⟩
  intro T hT X
  obtain ⟨v, st₀, t, T', L, h0, X', hL9, e3, e4, ⟨p, hv, hRp, hF9⟩, stp⟩ := hr T hT X
  cases hv
  obtain ⟨hz, hk⟩ := hF9
  rw [h0] at hz hk
  have hS : va_S (gA B.1) B.2.2.2.2.2.1.heap T'.heap (locs ++ L) := ⟨Nat.le_trans hR.2.1 (by rw [e3]; exact hz), fun q h1 h2 => by rw [e3, hk q (Nat.lt_of_lt_of_le h1 hR.2.1) h2]; exact hR.2.2.1 q h1 h2, fun q hq => by
    rcases List.mem_append.mp hq with h | h
    · exact hR.2.2.2 q h
    · exact hL9 q h⟩
  have hR1 : Rh B.1 B.2.2.2.2.2.1 (fu ad 162 p) (wD (sE x (2 * xzc x)) (cpI (dE x.1) 47 0 162 0 (xzc x : Int))) T'.heap (locs ++ L) := ⟨by rw [e3]; exact hRp, hS⟩
  have hput : W (kp (KX B c0 s0 ad x)) (kl (KX B c0 s0 ad x)) (ke (KX B c0 s0 ad x)) (kR (KX B c0 s0 ad x)) (ks (KX B c0 s0 ad x)) (km (KX B c0 s0 ad x)) (kav (KX B c0 s0 ad x)) (kb (KX B c0 s0 ad x)) (kme (KX B c0 s0 ad x)) (kc (KX B c0 s0 ad x)) T'.heap (locs ++ L) (xc x - c0 + 1) (xs x - s0 + 2 * xzc x) (kQ (KX B c0 s0 ad x)) (F0 (km (KX B c0 s0 ad x)) (pc + 3) ls (.ref p :: .ref (ad 46) :: st)) := by
    rw [e1, e2]
    refine r_put0 (ad := fu ad 162 p) (σ := wD (sE x (2 * xzc x)) (cpI (dE x.1) 47 0 162 0 (xzc x : Int))) (σ' := stP (wD (sE x (2 * xzc x)) (cpI (dE x.1) 47 0 162 0 (xzc x : Int))) 46 4 162) (i := 46) (k := 4) (ci := 2) hK.1 hR1 ⟨(Nat.le_of_ble_eq_true rfl), (Nat.le_of_ble_eq_true rfl)⟩ rfl hF fpgC rfl rfl rfl rfl rfl (fun j hj => ?_) (fun j hj => ?_) hd2 (fun H1 locs1 hR2 => (hJ p).2 H1 locs1 ls ⟨remapC he ho hR2.1, hR2.2⟩ hl)
    · refine ce_ne rfl rfl rfl rfl (fun k9 => ?_)
      show rf9 _ (fu (pP (sg x)) 46 (fu (pP (sg x) 46) 4 162) j k9) = _
      rw [fu_n hj]
      rfl
    · have e5 : pP (stP (wD (sE x (2 * xzc x)) (cpI (dE x.1) 47 0 162 0 (xzc x : Int))) 46 4 162) 46 j = pP (sg x) 46 j := by
        show fu (pP (sg x)) 46 (fu (pP (sg x) 46) 4 162) 46 j = _
        rw [fu_s, fu_n hj]
      rw [e5]
      rfl
  obtain ⟨t2, a1, b9⟩ := hput T' rfl X'
  exact ⟨t2, stp t2 a1, b9⟩
def xGF (x : XS) : XS := ((fu x.1.1 71 (fun k => if k < xzf x then x.1.1 71 k else 0), x.1.2), xzc x, 2 * xzf x, xrt x, xrb x, xtt x, xtn x, xe x, xc x + 1, xs x + 2 * xzf x)
def gmF (k : Nat) : Nat := if k = 70 then 161 else k
theorem ppF (x : XS) : pP (sg x) 68 3 = 71 := rfl
theorem gsF {x : XS} {i : Nat} (h : i ≠ 71) : zZ (sg (xGF x)) i = zZ (sg x) i := by
  show (if i = 47 then xzc (xGF x) else if i = 71 then xzf (xGF x) else zTl.getD i 0) = (if i = 47 then xzc x else if i = 71 then xzf x else zTl.getD i 0)
  by_cases h1 : i = 47
  · first | exact absurd h1 h | (rw [if_pos h1, if_pos h1]; rfl)
  · rw [if_neg h1, if_neg h1]
    by_cases h2 : i = 71
    · first | exact absurd h2 h | (rw [if_pos h2, if_pos h2]; rfl)
    · rw [if_neg h2, if_neg h2]
theorem cpDF {x : XS} : (cpI (dE x.1) 71 0 162 0 (xzf x : Int)).1 162 = fun k => if k < xzf x then x.1.1 71 k else 0 := by
  show fu (fu x.1.1 162 (fun _ => 0)) 162 (cpF (fu x.1.1 162 (fun _ => 0) 71) (fu x.1.1 162 (fun _ => 0) 162) 0 0 (xzf x : Int)) 162 = _
  rw [fu_s, fu_s, fu_n (show (71 : Nat) ≠ 162 by decide)]
  funext k
  unfold cpF
  by_cases h : k < xzf x
  · rw [if_pos ⟨Nat.zero_le _, by simp; exact h⟩, if_pos h]
    simp
  · rw [if_neg (fun h9 => h (by simpa using h9.2)), if_neg h]
theorem remapF {G : GT} {ad : Nat → Nat} {x : XS} {q : Nat} {H : Heap} (he : xe x = 0) (ho : xok9 x) (h : Rp G (fu ad 162 q) (stP (wD (sE x (2 * xzf x)) (cpI (dE x.1) 71 0 162 0 (xzf x : Int))) 68 3 162) H) : Rp G (fu ad 71 q) (sg (xGF x)) H := by
  have hw : ∀ (k : Nat) (e : Nat × va_E), (wl G (fu ad 71 q) (sg (xGF x)))[k]? = some e → k < 161 ∧ (wl G (fu ad 162 q) (stP (wD (sE x (2 * xzf x)) (cpI (dE x.1) 71 0 162 0 (xzf x : Int))) 68 3 162))[gmF k]? = some e := by
    intro k e hk
    unfold wl at hk ⊢
    rw [List.getElem?_map] at hk ⊢
    have e1 : nN (sg (xGF x)) = 161 := by show 161 + xe x = 161; rw [he]
    rw [e1] at hk
    have hl : k < 161 := by
      by_cases hl : k < 161
      · exact hl
      · rw [List.getElem?_eq_none (by rw [List.length_range]; omega)] at hk
        cases hk
    refine ⟨hl, ?_⟩
    rw [List.getElem?_range hl] at hk
    have hg : gmF k < 162 := by unfold gmF; split <;> omega
    rw [List.getElem?_range (show gmF k < nN (stP (wD (sE x (2 * xzf x)) (cpI (dE x.1) 71 0 162 0 (xzf x : Int))) 68 3 162) from hg)]
    rw [← hk]
    refine congrArg some ?_
    by_cases hk1 : k = 70
    · subst hk1
      show (fu ad 162 q 162, ce9 G (fu ad 162 q) _ 162) = (fu ad 71 q 71, ce9 G (fu ad 71 q) (sg (xGF x)) 71)
      rw [fu_s, fu_s, ce_I (show kK (stP (wD (sE x (2 * xzf x)) (cpI (dE x.1) 71 0 162 0 (xzf x : Int))) 68 3 162) 162 = 13 from rfl), ce_I (show kK (sg (xGF x)) 71 = 13 from rfl)]
      have e2 : iI (stP (wD (sE x (2 * xzf x)) (cpI (dE x.1) 71 0 162 0 (xzf x : Int))) 68 3 162) 162 = iI (sg (xGF x)) 71 := by
        show (cpI (dE x.1) 71 0 162 0 (xzf x : Int)).1 162 = fu x.1.1 71 (fun k => if k < xzf x then x.1.1 71 k else 0) 71
        rw [cpDF, fu_s]
      have e3 : zZ (stP (wD (sE x (2 * xzf x)) (cpI (dE x.1) 71 0 162 0 (xzf x : Int))) 68 3 162) 162 = zZ (sg (xGF x)) 71 := rfl
      rw [e2, e3]
    · have hgk : gmF k = k := by unfold gmF; rw [if_neg hk1]
      rw [hgk]
      have n1 : k + 1 ≠ 71 := by omega
      have n2 : k + 1 ≠ 162 := by omega
      dsimp only
      rw [fu_n n1, fu_n n2]
      refine congrArg _ (ce_ne rfl ?_ ?_ rfl (fun j => ?_))
      · rw [gsF n1]
        show (if k + 1 = 162 then 2 * xzf x else zZ (sg x) (k + 1)) = _
        rw [if_neg n2]
      · show fu (fu x.1.1 162 (fun _ => 0)) 162 _ (k + 1) = fu x.1.1 71 _ (k + 1)
        rw [fu_n n2, fu_n n2, fu_n n1]
      · have hp := pp_all ho (k + 1) j
        have hpx : pP (sg (xGF x)) (k + 1) j = pP (sg x) (k + 1) j := rfl
        rw [hpx]
        show rf9 (fu ad 162 q) (fu (pP (sg x)) 68 (fu (pP (sg x) 68) 3 162) (k + 1) j) = _
        by_cases ho1 : k + 1 = 68
        · rw [ho1, fu_s]
          by_cases hj : j = 3
          · subst hj
            rw [fu_s, ppF]
            unfold rf9
            rw [if_neg (by decide), if_neg (by decide), fu_s, fu_s]
          · rw [fu_n hj]
            rw [ho1] at hp
            have m1 : pP (sg x) 68 j ≠ 162 := by have := hp.1; omega
            have m2 : pP (sg x) 68 j ≠ 71 := fun h9 => hj (hp.2.2 h9).2
            rw [rf_ne m1, rf_ne m2]
        · rw [fu_n ho1]
          have m1 : pP (sg x) (k + 1) j ≠ 162 := by have := hp.1; omega
          have m2 : pP (sg x) (k + 1) j ≠ 71 := fun h9 => ho1 (hp.2.2 h9).1
          rw [rf_ne m1, rf_ne m2]
  refine ⟨fun k e hk => h.1 _ e (hw k e hk).2, fun i j p e hi hj hpq => ?_, fun k e hk => h.2.2 _ e (hw k e hk).2⟩
  have hi' := hw i p hi
  have hj' := hw j e hj
  have hij := h.2.1 _ _ p e hi'.2 hj'.2 hpq
  unfold gmF at hij
  have a1 := hi'.1
  have a2 := hj'.1
  split at hij <;> split at hij <;> omega
theorem fpgF : FP RX10 18 10 3 (.array .int) := ⟨RX10, TX10, 18, rfl, rfl, by decide +kernel⟩
theorem j_growF {B : BT} {c0 s0 : Nat} {ad : Nat → Nat} {x : XS} {cc : ByteArray} {nL fr lo pc pc1 pc2 : Nat} {ret : Option FieldType} {lv : List (Nat × Value)} {st : List Value} {Y : Type} {y : Y} (hK : Ok9 (KX B c0 s0 ad x) cc RX10 nL ret fr lo) {n : Int} {q : XS → Option Y} (hL : CL RX10 148 yJ7_copyOf_59c91 2) (hF : FL RX10 18 10 3) (hfr : 7 ≤ fr) (hlo : 222 ≤ lo) (hW : ((Value.ref (ad 68) :: st).map fun v => v.category).sum ≤ 8) (hd : Dc cc pc (.invokestatic 148) 3 pc1) (hd2 : Dc cc pc1 (.putfield 18) 3 pc2) (hC : HC c0 s0 x) (h : gd (n = 2 * (xzf x : Int) ∧ 64 ≤ xzf x ∧ xzf x ≤ 1048576 ∧ xe x = 0 ∧ xok9 x) (lt9 (xGF x) q) = some y) (f : ∀ p x1, HC c0 s0 x1 → q x1 = some y → J (KX B c0 s0 (fu ad 71 p) x1) nL x1.1 lv pc2 st) : J (KX B c0 s0 ad x) nL x.1 lv pc (vi n :: .ref (ad 71) :: .ref (ad 68) :: st) := by
  obtain ⟨hg9, h9⟩ := gd_some h
  obtain ⟨hn9, h1, h2, he, ho⟩ := hg9
  subst hn9
  have hm : xc x ≤ xc (xGF x) ∧ xs x ≤ xs (xGF x) := ⟨Nat.le_succ _, Nat.le_add_right _ _⟩
  have hJ := fun p => f p (xGF x) (hc_up hC hm) h9
  have hmm : mmin (xzf x : Int) (2 * (xzf x : Int)) = (xzf x : Int) := by
    unfold mmin
    rw [if_neg (by omega)]
  refine ⟨bd_dn (hJ 0).1 hm, fun H locs ls hR hl => ?_⟩
  obtain ⟨hd, rfl⟩ := hd
  have hM := c_cpyF (G := B.1) (l := B.2.1) (ad := ad) (x := x) (hst9 hK) he ho h1 h2
  rw [hmm] at hM
  have e1 : xc x - c0 + 1 = xc (xGF x) - c0 := by show xc x - c0 + 1 = xc x + 1 - c0; have := hC.1; omega
  have e2 : xs x - s0 + 2 * xzf x = xs (xGF x) - s0 := by show xs x - s0 + 2 * xzf x = xs x + 2 * xzf x - s0; have := hC.2; omega
  have b1 : xc (xGF x) - c0 ≤ B.2.2.2.2.1.cells := (hJ 0).1.1.1
  have b2 : xs (xGF x) - s0 ≤ B.2.2.2.2.1.slots := (hJ 0).1.1.2
  have hr := va_runS (cells := xc x - c0) (slots := xs x - s0) (As := [.ref (ad 71), vi (2 * (xzf x : Int))]) (rest := .ref (ad 68) :: st) (g := F0 (km (KX B c0 s0 ad x)) pc ls (vi (2 * (xzf x : Int)) :: .ref (ad 71) :: .ref (ad 68) :: st)) (e := ke (KX B c0 s0 ad x)) (below := kb (KX B c0 s0 ad x)) (meth := kme (KX B c0 s0 ad x)) (locs := locs) (H := H) ⟨hK.1.1, hK.1.2.1, hK.1.2.2.1, hK.1.2.2.2.1, fun w hw => hK.1.2.2.2.2.1 w hw (kav (KX B c0 s0 ad x))⟩ hM ⟨cl_Bx (R := kR (KX B c0 s0 ad x)) hK.1 hL cd_J7_copyOf_59c91 (Nat.le_trans hfr hK.2.1) (Nat.le_trans hlo hK.2.2.1), hK.1.2.2.2.2.1 _ sm_J7_copyOf_59c91 _⟩ ⟨pc_blind, fun U hU hW => pc_pre hK.1 hR U hU hW⟩ rfl rfl hl.1 rfl (lv_room hW) hd ⟨by rw [e1]; exact b1, by rw [e2]; exact b2⟩
  intro T hT X
  obtain ⟨v, st₀, t, T', L, h0, X', hL9, e3, e4, ⟨p, hv, hRp, hF9⟩, stp⟩ := hr T hT X
  cases hv
  obtain ⟨hz, hk⟩ := hF9
  rw [h0] at hz hk
  have hS : va_S (gA B.1) B.2.2.2.2.2.1.heap T'.heap (locs ++ L) := ⟨Nat.le_trans hR.2.1 (by rw [e3]; exact hz), fun q h1 h2 => by rw [e3, hk q (Nat.lt_of_lt_of_le h1 hR.2.1) h2]; exact hR.2.2.1 q h1 h2, fun q hq => by
    rcases List.mem_append.mp hq with h | h
    · exact hR.2.2.2 q h
    · exact hL9 q h⟩
  have hR1 : Rh B.1 B.2.2.2.2.2.1 (fu ad 162 p) (wD (sE x (2 * xzf x)) (cpI (dE x.1) 71 0 162 0 (xzf x : Int))) T'.heap (locs ++ L) := ⟨by rw [e3]; exact hRp, hS⟩
  have hput : W (kp (KX B c0 s0 ad x)) (kl (KX B c0 s0 ad x)) (ke (KX B c0 s0 ad x)) (kR (KX B c0 s0 ad x)) (ks (KX B c0 s0 ad x)) (km (KX B c0 s0 ad x)) (kav (KX B c0 s0 ad x)) (kb (KX B c0 s0 ad x)) (kme (KX B c0 s0 ad x)) (kc (KX B c0 s0 ad x)) T'.heap (locs ++ L) (xc x - c0 + 1) (xs x - s0 + 2 * xzf x) (kQ (KX B c0 s0 ad x)) (F0 (km (KX B c0 s0 ad x)) (pc + 3) ls (.ref p :: .ref (ad 68) :: st)) := by
    rw [e1, e2]
    refine r_put0 (ad := fu ad 162 p) (σ := wD (sE x (2 * xzf x)) (cpI (dE x.1) 71 0 162 0 (xzf x : Int))) (σ' := stP (wD (sE x (2 * xzf x)) (cpI (dE x.1) 71 0 162 0 (xzf x : Int))) 68 3 162) (i := 68) (k := 3) (ci := 10) hK.1 hR1 ⟨(Nat.le_of_ble_eq_true rfl), (Nat.le_of_ble_eq_true rfl)⟩ rfl hF fpgF rfl rfl rfl rfl rfl (fun j hj => ?_) (fun j hj => ?_) hd2 (fun H1 locs1 hR2 => (hJ p).2 H1 locs1 ls ⟨remapF he ho hR2.1, hR2.2⟩ hl)
    · refine ce_ne rfl rfl rfl rfl (fun k9 => ?_)
      show rf9 _ (fu (pP (sg x)) 68 (fu (pP (sg x) 68) 3 162) j k9) = _
      rw [fu_n hj]
      rfl
    · have e5 : pP (stP (wD (sE x (2 * xzf x)) (cpI (dE x.1) 71 0 162 0 (xzf x : Int))) 68 3 162) 68 j = pP (sg x) 68 j := by
        show fu (pP (sg x)) 68 (fu (pP (sg x) 68) 3 162) 68 j = _
        rw [fu_s, fu_n hj]
      rw [e5]
      rfl
  obtain ⟨t2, a1, b9⟩ := hput T' rfl X'
  exact ⟨t2, stp t2 a1, b9⟩

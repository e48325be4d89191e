/-! ===== the extra cell of isRelated ===== -/
def xN (x : XS) : XS := ((fu x.1.1 162 (fun _ => 0), x.1.2), xzc x, xzf x, xrt x, xrb x, xtt x, xtn x, 1, xc x + 1, xs x + 25)
def xO (x : XS) : XS := (x.1, xzc x, xzf x, xrt x, xrb x, xtt x, xtn x, 0, xc x, xs x)
theorem at162 {x : XS} (h : xe x = 1) : ArS (sg x) 162 25 := ⟨⟨by decide, by show 162 ≤ 161 + xe x; rw [h]; decide⟩, rfl, rfl⟩
theorem sE25 {x : XS} : wD (sE x 25) (dE x.1) = sg (xN x) := by
  have hz : (fun i => if i = 162 then 25 else zZ (sg x) i) = zZ (sg (xN x)) := by
    funext i
    show (if i = 162 then 25 else if i = 47 then xzc x else if i = 71 then xzf x else zTl.getD i 0) = (if i = 47 then xzc x else if i = 71 then xzf x else zTl.getD i 0)
    by_cases h : i = 162
    · subst h; rfl
    · rw [if_neg h]
  unfold sE
  rw [hz]
  rfl
theorem Rp_drop {G : GT} {ad : Nat → Nat} {x : XS} {H : Heap} (h : Rp G ad (sg x) H) : Rp G ad (sg (xO x)) H := by
  have hw : ∀ (k : Nat) (q : Nat × va_E), (wl G ad (sg (xO x)))[k]? = some q → (wl G ad (sg x))[k]? = some q := by
    intro k q hk
    unfold wl at hk ⊢
    rw [List.getElem?_map] at hk ⊢
    have e1 : nN (sg (xO x)) = 161 := rfl
    rw [e1] at hk
    have hl : k < 161 := by
      by_cases hl : k < 161
      · exact hl
      · rw [List.getElem?_eq_none (by rw [List.length_range]; omega)] at hk
        cases hk
    rw [List.getElem?_range hl] at hk
    rw [List.getElem?_range (show k < nN (sg x) from Nat.lt_of_lt_of_le hl (Nat.le_add_right 161 (xe x)))]
    exact hk
  exact ⟨fun k q hk => h.1 k q (hw k q hk), fun i j p q hi hj hpq => h.2.1 i j p q (hw i p hi) (hw j q hj) hpq, fun k q hk => h.2.2 k q (hw k q hk)⟩
section XH
variable {B : BT} {c0 s0 g : Nat} {ad ad0 : Nat → Nat} {x x1 : XS} {XC : String → State → State → Prop} {cc : ByteArray} {own : String} {nL fr lo pc pc1 tgt c9 s9 : Nat} {ret : Option FieldType} {lv lv' : List (Nat × Value)} {st : List Value} {Y : Type} {y : Y}
theorem enxO {rv : Option Value} (h : EX B c0 s0 XC g ad0 (.inl rv) (xO x)) (hA : Ag g ad0 ad) : En (KX B c0 s0 ad x) rv x.1 :=
  ⟨h.1, fun H locs t hR ht _ => h.2 ad hA t (by rw [ht]; exact Rp_drop hR.1) (hR.2.F ht)⟩
theorem j_new25 (hK : Ok9 (KX B c0 s0 ad x) cc own nL ret fr lo) {q : XS → Option Y} (hd : Dc cc pc (.newarray .int) 2 pc1) (hC : HC c0 s0 x) (h : gd (xe x = 0 ∧ xok9 x) (lt9 (xN x) q) = some y) (f : ∀ p x1, HC c0 s0 x1 → xe x1 = 1 → q x1 = some y → J (KX B c0 s0 (fu ad 162 p) x1) nL x1.1 lv pc1 (.ref p :: st)) : J (KX B c0 s0 ad x) nL x.1 lv pc (vi 25 :: st) := by
  obtain ⟨⟨he, ho⟩, h⟩ := gd_some h
  refine j_newE (B := B) (ad := ad) (x := x) (c9 := xc x - c0) (s9 := xs x - s0) (N := 25) hK he ho rfl (by decide) hd (fun p => ?_)
  have k := f p (xN x) ⟨Nat.le_succ_of_le hC.1, Nat.le_trans hC.2 (Nat.le_add_right _ 25)⟩ rfl h
  have e1 : xc x - c0 + 1 = xc (xN x) - c0 := by show xc x - c0 + 1 = xc x + 1 - c0; have := hC.1; omega
  have e2 : xs x - s0 + 25 = xs (xN x) - s0 := by show xs x - s0 + 25 = xs x + 25 - s0; have := hC.2; omega
  rw [e1, e2]
  refine ⟨k.1, fun H locs ls hR hl => k.2 H locs ls ?_ hl⟩
  have hR' : Rh B.1 B.2.2.2.2.2.1 (fu ad 162 p) (wD (sE x 25) (dE x.1)) H locs := hR
  rw [sE25] at hR'
  exact hR'
end XH
/-! ===== Arrays.copyOf ===== -/
theorem DJ7_copyOf_59c91 : Dt cJ7_copyOf_59c91 [(0, .iload_n 1, 1, 1), (1, .aload_n 0, 1, 2), (2, .arraylength, 1, 3), (3, .if_icmp .ne 11, 3, 6), (6, .aload_n 0, 1, 7), (7, .invokevirtual 316, 3, 10), (10, .checkcast 317, 3, 13), (13, .areturn, 1, 14), (14, .iload_n 1, 1, 15), (15, .newarray .int, 2, 17), (17, .astore_n 2, 1, 18), (18, .aload_n 0, 1, 19), (19, .iconst 0, 1, 20), (20, .aload_n 2, 1, 21), (21, .iconst 0, 1, 22), (22, .aload_n 0, 1, 23), (23, .arraylength, 1, 24), (24, .iload_n 1, 1, 25), (25, .invokestatic 304, 3, 28), (28, .invokestatic 150, 3, 31), (31, .aload_n 2, 1, 32), (32, .areturn, 1, 33)] := by unfold Dt; decide +kernel
theorem clA_304 : CL RJ7 304 yJ9_min_7cf53 2 := ⟨am5 193 (by decide +kernel) rfl, am1 23 (by decide +kernel) rfl, by decide +kernel⟩
theorem acA_150 : Cond.methodLink RJ7 150 arraycopyName ∈ allw := am5 194 (by decide +kernel) rfl
def CQ (G : GT) (ad : Nat → Nat) (x : XS) (N : Nat) (d' : DA) : Array Value → State → Outcome → State → Prop := fun _ st o t => ∃ q, o = .returned (some (.ref q)) ∧ Rp G (fu ad 162 q) (wD (sE x N) d') t.heap ∧ va_F (gA G) st t
theorem c_cpyC {G : GT} {l : Launch} {ad : Nat → Nat} {x : XS} (hst : l.stackTraces = false) (he : xe x = 0) (ho : xok9 x) (h1 : 64 ≤ xzc x) (h2 : xzc x ≤ 1048576) : Met l yJ7_copyOf_59c91 [.code yJ7_copyOf_59c91 cJ7_copyOf_59c91 3 (some (.array .int))] (rmX 6 200 1 (2 * xzc x)) (PC G ad (sg x) [.ref (ad 47), vi (2 * (xzc x : Int))]) (CQ G ad x (2 * xzc x) (cpI (dE x.1) 47 0 162 0 (mmin (xzc x : Int) (2 * (xzc x : Int))))) 1 (2 * xzc x) (gA G) := by
  refine Met.ofW (cc := cJ7_copyOf_59c91) (maxL := 3) (ret := some (.array .int)) rfl rfl ?_
  intro p e s m args below meth c s₁ B0 hml hv
  obtain ⟨rfl, hW, hKx, hSf, hR, hA⟩ := hv
  rw [lg_entry_eq]
  have hC : Cx G l p s m meth c cJ7_copyOf_59c91 RJ7 3 (some (.array .int)) := ⟨B0.exec, B0.bytes, hml, findClass_of_methodNamed B0.named, hW, hKx, hSf, B0.notSynchronized, B0.returns, hA, hst⟩
  generalize hd' : cpI (dE x.1) 47 0 162 0 (mmin (xzc x : Int) (2 * (xzc x : Int))) = d'
  obtain ⟨B, hB⟩ : ∃ B : BT, B = (G, l, p, e, rmX 6 200 1 (2 * xzc x), s, m, ([.ref (ad 47), vi (2 * (xzc x : Int))] : List Value).toArray, below, meth, c, CQ G ad x (2 * xzc x) d', MQ below (CQ G ad x (2 * xzc x) d') ([.ref (ad 47), vi (2 * (xzc x : Int))] : List Value).toArray s 1 (2 * xzc x) (gA G), 1, 2 * xzc x) := ⟨_, rfl⟩
  have hO : ∀ (ad1 : Nat → Nat) (σ1 : HS) (c1 s1 : Nat), Ok9 (KE B ad1 σ1 c1 s1) cJ7_copyOf_59c91 RJ7 3 (some (.array .int)) 6 200 := by
    intro ad1 σ1 c1 s1
    subst hB
    refine ⟨hC, Nat.le_refl _, Nat.le_refl _, fun H locs c2 s2 g1 g2 g3 k => ?_⟩
    intro T hT X
    obtain ⟨t, a1, o, b1, b2, b3, L, b4, b5⟩ := k T hT X
    exact ⟨t, a1, o, b1, b2, b3, L, ⟨b4.1, b4.2.1, b4.2.2.mono g2 g3⟩, b5⟩
  have hr : inR (2 * (xzc x : Int)) := ⟨by omega, by omega⟩
  have hr2 : inR (xzc x : Int) := ⟨by omega, by omega⟩
  have g1 : gd (inR (2 * (xzc x : Int)) ∧ inR (xzc x : Int)) (if (2 * (xzc x : Int)) = (xzc x : Int) then none else some ()) = some () := by
    unfold gd
    rw [if_pos ⟨hr, hr2⟩, if_neg (by omega)]
  have g2 : gd (inR (xzc x : Int) ∧ inR (2 * (xzc x : Int))) (some ()) = some () := by
    unfold gd
    rw [if_pos ⟨hr2, hr⟩]
  have hmm : mmin (xzc x : Int) (2 * (xzc x : Int)) = (xzc x : Int) := by
    unfold mmin
    rw [if_neg (by omega)]
  have g3 : gd (cpg 0 (xzc x) 0 (2 * xzc x) (mmin (xzc x : Int) (2 * (xzc x : Int)))) (lt9 (cpI (dE x.1) 47 0 162 0 (mmin (xzc x : Int) (2 * (xzc x : Int)))) some) = some d' := by
    unfold gd lt9
    rw [hmm] at hd' ⊢
    rw [if_pos ⟨by omega, by omega, by omega, by omega, by omega⟩, hd']
  have hAr0 : Ar (KE B ad (sg x) 0 0) 47 (xzc x) := ⟨ic _ (Nat.le_of_ble_eq_true rfl) (Nat.le_of_ble_eq_true rfl), rfl, rfl⟩
  have hb0 : xzc x < 2147483648 := by omega
  have hb1 : 2 * xzc x < 2147483648 := by omega
  have hb2 : 2 * xzc x ≤ 134217728 := by omega
  have hJ : J (KE B ad (sg x) 0 0) 3 x.1 [(0, .ref (ad 47)), (1, vi (2 * (xzc x : Int)))] 0 [] := by
    refine j_iload_n (hO _ _ _ _) (dc9 DJ7_copyOf_59c91 0 rfl) 1 rfl rfl (j_aload_n (hO _ _ _ _) (dc9 DJ7_copyOf_59c91 1 rfl) 0 rfl rfl (j_alen (hO _ _ _ _) hAr0 (dc9 DJ7_copyOf_59c91 2 rfl) (j_icmp_ne (hO _ _ _ _) (dj9 DJ7_copyOf_59c91 3 14 rfl rfl) g1 (fun _ => j_iload_n (hO _ _ _ _) (dc9 DJ7_copyOf_59c91 8 rfl) 1 rfl rfl (j_newE (N := 2 * xzc x) (hO _ _ _ _) he ho (by omega) hb2 (dc9 DJ7_copyOf_59c91 9 rfl) (fun q => ?_))) (fun h => nomatch h))))
    have hAr1 : Ar (KE B (fu ad 162 q) (sE x (2 * xzc x)) (0 + 1) (0 + 2 * xzc x)) 47 (xzc x) := ⟨⟨(Nat.le_of_ble_eq_true rfl), (Nat.le_of_ble_eq_true rfl)⟩, rfl, rfl⟩
    have hAr2 : Ar (KE B (fu ad 162 q) (sE x (2 * xzc x)) (0 + 1) (0 + 2 * xzc x)) 162 (2 * xzc x) := ⟨⟨(Nat.le_of_ble_eq_true rfl), (Nat.le_of_ble_eq_true rfl)⟩, rfl, rfl⟩
    have hEn : En (KE B (fu ad 162 q) (sE x (2 * xzc x)) (0 + 1) (0 + 2 * xzc x)) (some (.ref q)) d' := by
      subst hB
      exact ⟨⟨⟨Nat.le_of_eq (Nat.zero_add _), Nat.le_of_eq (Nat.zero_add _)⟩, Nat.le_of_eq (Nat.zero_add _), Nat.le_of_eq (Nat.zero_add _)⟩, fun H locs t hR1 ht _ => ⟨q, rfl, by rw [ht]; exact hR1.1, hR1.2.F ht⟩⟩
    refine j_astore_n (hO _ _ _ _) (dc9 DJ7_copyOf_59c91 10 rfl) rfl (Nat.le_of_ble_eq_true rfl) rfl (j_aload_n (hO _ _ _ _) (dc9 DJ7_copyOf_59c91 11 rfl) 1 rfl rfl (j_iconst (hO _ _ _ _) (dc9 DJ7_copyOf_59c91 12 rfl) (j_aload_n (hO _ _ _ _) (dc9 DJ7_copyOf_59c91 13 rfl) 0 rfl rfl (j_iconst (hO _ _ _ _) (dc9 DJ7_copyOf_59c91 14 rfl) (j_aload_n (hO _ _ _ _) (dc9 DJ7_copyOf_59c91 15 rfl) 1 rfl rfl (j_alen (hO _ _ _ _) hAr1 (dc9 DJ7_copyOf_59c91 16 rfl) (j_iload_n (hO _ _ _ _) (dc9 DJ7_copyOf_59c91 17 rfl) 2 rfl rfl (j_mmin (hO _ _ _ _) clA_304 (Nat.le_of_ble_eq_true rfl) (Nat.le_of_ble_eq_true rfl) (dc9 DJ7_copyOf_59c91 18 rfl) g2 (fun _ => j_cpI (i := 47) (j := 162) (hO _ _ _ _) hAr1 hb0 hAr2 hb1 acA_150 (Nat.le_of_ble_eq_true rfl) (Nat.le_of_ble_eq_true rfl) (dc9 DJ7_copyOf_59c91 19 rfl) g3 (fun d1 hd1 => ?_))))))))))
    cases hd1
    exact j_aload_n (hO _ _ _ _) (dc9 DJ7_copyOf_59c91 20 rfl) 0 rfl rfl (j_aret (i := 162) (hO _ _ _ _) (dc9 DJ7_copyOf_59c91 21 rfl) hEn)
  subst hB
  exact hJ.2 s.heap [] _ ⟨hR, va_S.rf⟩ (lv_entry _ (Nat.le_of_ble_eq_true rfl))
theorem c_cpyF {G : GT} {l : Launch} {ad : Nat → Nat} {x : XS} (hst : l.stackTraces = false) (he : xe x = 0) (ho : xok9 x) (h1 : 64 ≤ xzf x) (h2 : xzf x ≤ 1048576) : Met l yJ7_copyOf_59c91 [.code yJ7_copyOf_59c91 cJ7_copyOf_59c91 3 (some (.array .int))] (rmX 6 200 1 (2 * xzf x)) (PC G ad (sg x) [.ref (ad 71), vi (2 * (xzf x : Int))]) (CQ G ad x (2 * xzf x) (cpI (dE x.1) 71 0 162 0 (mmin (xzf x : Int) (2 * (xzf x : Int))))) 1 (2 * xzf x) (gA G) := by
  refine Met.ofW (cc := cJ7_copyOf_59c91) (maxL := 3) (ret := some (.array .int)) rfl rfl ?_
  intro p e s m args below meth c s₁ B0 hml hv
  obtain ⟨rfl, hW, hKx, hSf, hR, hA⟩ := hv
  rw [lg_entry_eq]
  have hC : Cx G l p s m meth c cJ7_copyOf_59c91 RJ7 3 (some (.array .int)) := ⟨B0.exec, B0.bytes, hml, findClass_of_methodNamed B0.named, hW, hKx, hSf, B0.notSynchronized, B0.returns, hA, hst⟩
  generalize hd' : cpI (dE x.1) 71 0 162 0 (mmin (xzf x : Int) (2 * (xzf x : Int))) = d'
  obtain ⟨B, hB⟩ : ∃ B : BT, B = (G, l, p, e, rmX 6 200 1 (2 * xzf x), s, m, ([.ref (ad 71), vi (2 * (xzf x : Int))] : List Value).toArray, below, meth, c, CQ G ad x (2 * xzf x) d', MQ below (CQ G ad x (2 * xzf x) d') ([.ref (ad 71), vi (2 * (xzf x : Int))] : List Value).toArray s 1 (2 * xzf x) (gA G), 1, 2 * xzf x) := ⟨_, rfl⟩
  have hO : ∀ (ad1 : Nat → Nat) (σ1 : HS) (c1 s1 : Nat), Ok9 (KE B ad1 σ1 c1 s1) cJ7_copyOf_59c91 RJ7 3 (some (.array .int)) 6 200 := by
    intro ad1 σ1 c1 s1
    subst hB
    refine ⟨hC, Nat.le_refl _, Nat.le_refl _, fun H locs c2 s2 g1 g2 g3 k => ?_⟩
    intro T hT X
    obtain ⟨t, a1, o, b1, b2, b3, L, b4, b5⟩ := k T hT X
    exact ⟨t, a1, o, b1, b2, b3, L, ⟨b4.1, b4.2.1, b4.2.2.mono g2 g3⟩, b5⟩
  have hr : inR (2 * (xzf x : Int)) := ⟨by omega, by omega⟩
  have hr2 : inR (xzf x : Int) := ⟨by omega, by omega⟩
  have g1 : gd (inR (2 * (xzf x : Int)) ∧ inR (xzf x : Int)) (if (2 * (xzf x : Int)) = (xzf x : Int) then none else some ()) = some () := by
    unfold gd
    rw [if_pos ⟨hr, hr2⟩, if_neg (by omega)]
  have g2 : gd (inR (xzf x : Int) ∧ inR (2 * (xzf x : Int))) (some ()) = some () := by
    unfold gd
    rw [if_pos ⟨hr2, hr⟩]
  have hmm : mmin (xzf x : Int) (2 * (xzf x : Int)) = (xzf x : Int) := by
    unfold mmin
    rw [if_neg (by omega)]
  have g3 : gd (cpg 0 (xzf x) 0 (2 * xzf x) (mmin (xzf x : Int) (2 * (xzf x : Int)))) (lt9 (cpI (dE x.1) 71 0 162 0 (mmin (xzf x : Int) (2 * (xzf x : Int)))) some) = some d' := by
    unfold gd lt9
    rw [hmm] at hd' ⊢
    rw [if_pos ⟨by omega, by omega, by omega, by omega, by omega⟩, hd']
  have hAr0 : Ar (KE B ad (sg x) 0 0) 71 (xzf x) := ⟨ic _ (Nat.le_of_ble_eq_true rfl) (Nat.le_of_ble_eq_true rfl), rfl, rfl⟩
  have hb0 : xzf x < 2147483648 := by omega
  have hb1 : 2 * xzf x < 2147483648 := by omega
  have hb2 : 2 * xzf x ≤ 134217728 := by omega
  have hJ : J (KE B ad (sg x) 0 0) 3 x.1 [(0, .ref (ad 71)), (1, vi (2 * (xzf x : Int)))] 0 [] := by
    refine j_iload_n (hO _ _ _ _) (dc9 DJ7_copyOf_59c91 0 rfl) 1 rfl rfl (j_aload_n (hO _ _ _ _) (dc9 DJ7_copyOf_59c91 1 rfl) 0 rfl rfl (j_alen (hO _ _ _ _) hAr0 (dc9 DJ7_copyOf_59c91 2 rfl) (j_icmp_ne (hO _ _ _ _) (dj9 DJ7_copyOf_59c91 3 14 rfl rfl) g1 (fun _ => j_iload_n (hO _ _ _ _) (dc9 DJ7_copyOf_59c91 8 rfl) 1 rfl rfl (j_newE (N := 2 * xzf x) (hO _ _ _ _) he ho (by omega) hb2 (dc9 DJ7_copyOf_59c91 9 rfl) (fun q => ?_))) (fun h => nomatch h))))
    have hAr1 : Ar (KE B (fu ad 162 q) (sE x (2 * xzf x)) (0 + 1) (0 + 2 * xzf x)) 71 (xzf x) := ⟨⟨(Nat.le_of_ble_eq_true rfl), (Nat.le_of_ble_eq_true rfl)⟩, rfl, rfl⟩
    have hAr2 : Ar (KE B (fu ad 162 q) (sE x (2 * xzf x)) (0 + 1) (0 + 2 * xzf x)) 162 (2 * xzf x) := ⟨⟨(Nat.le_of_ble_eq_true rfl), (Nat.le_of_ble_eq_true rfl)⟩, rfl, rfl⟩
    have hEn : En (KE B (fu ad 162 q) (sE x (2 * xzf x)) (0 + 1) (0 + 2 * xzf x)) (some (.ref q)) d' := by
      subst hB
      exact ⟨⟨⟨Nat.le_of_eq (Nat.zero_add _), Nat.le_of_eq (Nat.zero_add _)⟩, Nat.le_of_eq (Nat.zero_add _), Nat.le_of_eq (Nat.zero_add _)⟩, fun H locs t hR1 ht _ => ⟨q, rfl, by rw [ht]; exact hR1.1, hR1.2.F ht⟩⟩
    refine j_astore_n (hO _ _ _ _) (dc9 DJ7_copyOf_59c91 10 rfl) rfl (Nat.le_of_ble_eq_true rfl) rfl (j_aload_n (hO _ _ _ _) (dc9 DJ7_copyOf_59c91 11 rfl) 1 rfl rfl (j_iconst (hO _ _ _ _) (dc9 DJ7_copyOf_59c91 12 rfl) (j_aload_n (hO _ _ _ _) (dc9 DJ7_copyOf_59c91 13 rfl) 0 rfl rfl (j_iconst (hO _ _ _ _) (dc9 DJ7_copyOf_59c91 14 rfl) (j_aload_n (hO _ _ _ _) (dc9 DJ7_copyOf_59c91 15 rfl) 1 rfl rfl (j_alen (hO _ _ _ _) hAr1 (dc9 DJ7_copyOf_59c91 16 rfl) (j_iload_n (hO _ _ _ _) (dc9 DJ7_copyOf_59c91 17 rfl) 2 rfl rfl (j_mmin (hO _ _ _ _) clA_304 (Nat.le_of_ble_eq_true rfl) (Nat.le_of_ble_eq_true rfl) (dc9 DJ7_copyOf_59c91 18 rfl) g2 (fun _ => j_cpI (i := 71) (j := 162) (hO _ _ _ _) hAr1 hb0 hAr2 hb1 acA_150 (Nat.le_of_ble_eq_true rfl) (Nat.le_of_ble_eq_true rfl) (dc9 DJ7_copyOf_59c91 19 rfl) g3 (fun d1 hd1 => ?_))))))))))
    cases hd1
    exact j_aload_n (hO _ _ _ _) (dc9 DJ7_copyOf_59c91 20 rfl) 0 rfl rfl (j_aret (i := 162) (hO _ _ _ _) (dc9 DJ7_copyOf_59c91 21 rfl) hEn)
  subst hB
  exact hJ.2 s.heap [] _ ⟨hR, va_S.rf⟩ (lv_entry _ (Nat.le_of_ble_eq_true rfl))

/-! ===== image ===== -/
theorem cp_A {d : DA} {a b n : Nat} : cpI d a 0 b 0 ((n : Nat) : Int) = wA d b (pre (d.1 b) (d.1 a) n) := by
  unfold cpI
  refine congrArg _ (funext fun q => ?_)
  unfold cpF pre
  have z : Int.toNat 0 = 0 := rfl
  rw [z, Int.toNat_natCast]
  by_cases c : q < n
  · rw [if_pos (by omega), if_pos c, show 0 + (q - 0) = q by omega]
  · rw [if_neg (by omega), if_neg c]
theorem x12_be {d : DA} {a0 n0 a1 n1 : Nat} (ha : a1 ≠ a0) (h1 : n0 ≤ n1) (h2 : n0 ≤ 800) : X12_be a0 n0 a1 n1 d = some ((), wA d a0 (pre (d.1 a0) (d.1 a1) n0)) := by
  unfold X12_be
  refine (lpE_row (d := d) a0 n0 (d.1 a1) (by omega) (fun i hi => ?_) ?_).trans rfl
  · show X12_be_b2 a0 n0 a1 n1 (i : Int) _ = _
    unfold X12_be_b2
    rw [wA_ne ha, Int.toNat_natCast]
    simp (disch := omega) only [gd_pos, if_pos, if_neg, lt_pos, reduceIte]
  · show X12_be_b2 a0 n0 a1 n1 (n0 : Int) _ = _
    unfold X12_be_b2
    simp (disch := omega) only [gd_pos, if_pos, if_neg, lt_pos, reduceIte]
/-! a state copied -/
theorem TG.eqv {n n' : Nat → Int} {r : Nat} (h : TG n r) (e : ∀ q, q < 125 → n' q = n q) : TG n' r := by
  obtain ⟨a1, a2, a3, a4, a5⟩ := h
  exact ⟨a1, fun j hj => by rw [e j hj]; exact a2 j hj, fun i j k hi hj hk z => by rw [e _ (ti_lt hi hj hk)]; exact a3 i j k hi hj hk z, fun j k hj hk => by rw [e _ (ti_lt (by omega) (by omega) (by omega))]; exact a4 j k hj hk, fun j k hj hk => by rw [e _ (ti_lt (by omega) (by omega) (by omega))]; exact a5 j k hj hk⟩
theorem fre.eqv {n n' : Nat → Int} {r : Nat} (h5 : r ≤ 5) (h : fre n' r) (e : ∀ q, q < 125 → n' q = n q) : fre n r := fun i j k hi hj hk => by
  rw [← e _ (ti_lt (by omega) (by omega) (by omega))]; exact h i j k hi hj hk
theorem isTr.eqv {n n' : Nat → Int} {r a b c d f g : Nat} (h5 : r ≤ 5) (ha : a < r) (hb : b < r) (hc : c < r) (hd : d < r) (hf : f < r) (hg : g < r) (e : ∀ q, q < 125 → n' q = n q) : isTr n' a b c d f g ↔ isTr n a b c d f g := by
  unfold isTr
  rw [e _ (ti_lt (by omega) (by omega) (by omega)), e _ (ti_lt (by omega) (by omega) (by omega)), e _ (ti_lt (by omega) (by omega) (by omega)), e _ (ti_lt (by omega) (by omega) (by omega))]
theorem FG.eqv {n n' f f' f9 f9' : Nat → Int} {r : Nat} (h3 : r ≤ 3) (h : FG n f f9 r) (e : ∀ q, q < 125 → n' q = n q) (e1 : ∀ q, q < 729 → f' q = f q) (e2 : ∀ q, q < 729 → f9' q = f9 q) : FG n' f' f9' r := fun a b c d i g ha hb hc hd hi hg => by
  have hq : six a b c d i g < 729 := by unfold six; omega
  rw [isTr.eqv (by omega) ha hb hc hd hi hg e, e1 _ hq, e2 _ hq]
  exact h a b c d i g ha hb hc hd hi hg
theorem RG.eqv {n n' s s' s9 s9' : Nat → Int} {r : Nat} (h3 : r ≤ 3) (h : RG n s s9 r) (e : ∀ q, q < 125 → n' q = n q) (e1 : ∀ q, q < 27 → s' q = s q) (e2 : ∀ q, q < 27 → s9' q = s9 q) : RG n' s' s9' r := fun a b c ha hb hc => by
  have hq : thr a b c < 27 := by unfold thr; omega
  rw [e _ (ti_lt (by omega) (by omega) (by omega)), e1 _ hq, e2 _ hq]
  exact h a b c ha hb hc
/-- the copied cells of the class's state -/
def Cp (o a : Nat) (g g' : Nat → Nat → Int) : Prop := g' (o + 3) 0 = g (a + 3) 0 ∧ (∀ q, q < 125 → g' (o + 4) q = g (a + 4) q) ∧ (∀ q, q < 729 → g' (o + 10) q = g (a + 10) q) ∧ (∀ q, q < 27 → g' (o + 11) q = g (a + 11) q) ∧ (∀ q, q < 5 → g' (o + 1) q = g (a + 1) q) ∧ (∀ q, q < 12 → g' (o + 2) q = g (a + 2) q) ∧ g' o 4 = g a 4 ∧ g' o 5 = g a 5 ∧ g' o 6 = g a 6 ∧ g' o 7 = g a 7
/-- the copied cells of the reference's -/
def Cr (cr cp cl cn cf cs ct cw cu br bp bl bn bf bs bt bw bu : Nat) (g g' : Nat → Nat → Int) : Prop := g' 113 cr = g 113 br ∧ g' 113 cp = g 113 bp ∧ g' 113 cl = g 113 bl ∧ (∀ q, q < 125 → g' cn q = g bn q) ∧ (∀ q, q < 729 → g' cf q = g bf q) ∧ (∀ q, q < 27 → g' cs q = g bs q) ∧ (∀ q, q < 5 → g' ct q = g bt q) ∧ (∀ q, q < 12 → g' cw q = g bw q) ∧ (∀ q, q < 2 → g' cu q = g bu q)
theorem SI.copy {k : Nat} {g g' : Nat → Nat → Int} {a br bp bl bn bf bs bt bw bu o cr cp cl cn cf cs ct cw cu r p m : Nat} (h : SI k g a br bp bl bn bf bs bt bw bu r p m) (h1 : Cp o a g g') (h2 : Cr cr cp cl cn cf cs ct cw cu br bp bl bn bf bs bt bw bu g g') (h3 : g' (o + 4) = g' cn) : SI k g' o cr cp cl cn cf cs ct cw cu r p m := by
  obtain ⟨c1, c2, c3, c4, c5, c6, c7, c8, c9, c10⟩ := h1
  obtain ⟨e1, e2, e3, e4, e5, e6, e7, e8, e9⟩ := h2
  obtain ⟨⟨t1, t2, t3, t4⟩, ⟨p1, p2, p3⟩, ⟨f1, f2, f3⟩, ⟨u1, u2⟩, ⟨l1, l2, l3, l4⟩, ⟨a1, a2, a3, a4, a5, a6⟩⟩ := h
  have h5 := t4.1
  refine ⟨⟨by rw [c1]; exact t1, by rw [e1]; exact t2, h3, t4.eqv e4⟩, ⟨by rw [c8]; exact p1, by rw [e2]; exact p2, p3⟩, ⟨fun w1 w2 => ?_, fun q hq => by rw [e5 q hq]; exact f2 q hq, fun q hq => by rw [e6 q hq]; exact f3 q hq⟩, ⟨fun j hj => by rw [c5 j hj, e7 j hj]; exact u1 j hj, by rw [e7 0 (by omega)]; exact u2⟩, ⟨by rw [c7]; exact l1, by rw [e3]; exact l2, l3, fun j hj => by rw [c6 j (by omega), e8 j (by omega)]; exact l4 j hj⟩, by rw [c9, e9 0 (by omega)]; exact a1, by rw [c10, e9 1 (by omega)]; exact a2, by rw [e9 0 (by omega)]; exact a3, by rw [e9 0 (by omega)]; exact a4, by rw [e9 1 (by omega)]; exact a5, by rw [e9 1 (by omega)]; exact a6⟩
  obtain ⟨y1, y2⟩ := f1 w1 (fre.eqv (by omega) w2 e4)
  exact ⟨FG.eqv w1 y1 e4 e5 c3, RG.eqv w1 y2 e4 e6 c4⟩
/-- the class copies a state -/
theorem x6_copy {d : DA} {o a : Nat} (h : (o = 17 ∧ a = 2) ∨ (o = 2 ∧ a = 17)) : ∃ E, X6_copy o a d = some ((), E) ∧ Cp o a d.1 E.1 ∧ (∀ q, ¬ q < 125 → E.1 (o + 4) q = d.1 (o + 4) q) ∧ (∀ c, c ≠ o → c ≠ o + 1 → c ≠ o + 2 → c ≠ o + 3 → c ≠ o + 4 → c ≠ o + 10 → c ≠ o + 11 → E.1 c = d.1 c) ∧ (∀ i, i ≠ 4 → i ≠ 5 → i ≠ 6 → i ≠ 7 → E.1 o i = d.1 o i) ∧ (∀ i, i ≠ 0 → E.1 (o + 3) i = d.1 (o + 3) i) := by
  let d1 := wI d (o + 3) 0 (d.1 (a + 3) 0)
  let d2 := wA d1 (o + 4) (pre (d1.1 (o + 4)) (d1.1 (a + 4)) 125)
  let d3 := wA d2 (o + 10) (pre (d2.1 (o + 10)) (d2.1 (a + 10)) 729)
  let d4 := wA d3 (o + 11) (pre (d3.1 (o + 11)) (d3.1 (a + 11)) 27)
  let d5 := wA d4 (o + 1) (pre (d4.1 (o + 1)) (d4.1 (a + 1)) 5)
  let d6 := wA d5 (o + 2) (pre (d5.1 (o + 2)) (d5.1 (a + 2)) 12)
  let d7 := wI d6 o 4 (d6.1 a 4)
  let d8 := wI d7 o 5 (d7.1 a 5)
  let d9 := wI d8 o 6 (d8.1 a 6)
  let d10 := wI d9 o 7 (d9.1 a 7)
  have n1 : ∀ c, c ≠ o + 3 → d1.1 c = d.1 c := fun c z => wI_ne z
  have n2 : ∀ c, c ≠ o + 4 → d2.1 c = d1.1 c := fun c z => wA_ne z
  have n3 : ∀ c, c ≠ o + 10 → d3.1 c = d2.1 c := fun c z => wA_ne z
  have n4 : ∀ c, c ≠ o + 11 → d4.1 c = d3.1 c := fun c z => wA_ne z
  have n5 : ∀ c, c ≠ o + 1 → d5.1 c = d4.1 c := fun c z => wA_ne z
  have n6 : ∀ c, c ≠ o + 2 → d6.1 c = d5.1 c := fun c z => wA_ne z
  have n7 : ∀ c, c ≠ o → d7.1 c = d6.1 c := fun c z => wI_ne z
  have n8 : ∀ c, c ≠ o → d8.1 c = d7.1 c := fun c z => wI_ne z
  have n9 : ∀ c, c ≠ o → d9.1 c = d8.1 c := fun c z => wI_ne z
  have n10 : ∀ c, c ≠ o → d10.1 c = d9.1 c := fun c z => wI_ne z
  have m6 : ∀ c, c ≠ o → d10.1 c = d6.1 c := fun c z => by rw [n10 c z, n9 c z, n8 c z, n7 c z]
  have q1 : d1.1 (o + 3) = fu (d.1 (o + 3)) 0 (d.1 (a + 3) 0) := wI_at
  have q2 : d2.1 (o + 4) = pre (d1.1 (o + 4)) (d1.1 (a + 4)) 125 := wA_at
  have q3 : d3.1 (o + 10) = pre (d2.1 (o + 10)) (d2.1 (a + 10)) 729 := wA_at
  have q4 : d4.1 (o + 11) = pre (d3.1 (o + 11)) (d3.1 (a + 11)) 27 := wA_at
  have q5 : d5.1 (o + 1) = pre (d4.1 (o + 1)) (d4.1 (a + 1)) 5 := wA_at
  have q6 : d6.1 (o + 2) = pre (d5.1 (o + 2)) (d5.1 (a + 2)) 12 := wA_at
  have q7 : d7.1 o = fu (d6.1 o) 4 (d6.1 a 4) := wI_at
  have q8 : d8.1 o = fu (d7.1 o) 5 (d7.1 a 5) := wI_at
  have q9 : d9.1 o = fu (d8.1 o) 6 (d8.1 a 6) := wI_at
  have q10 : d10.1 o = fu (d9.1 o) 7 (d9.1 a 7) := wI_at
  have ho : d6.1 o = d.1 o := by rw [n6 o (by omega), n5 o (by omega), n4 o (by omega), n3 o (by omega), n2 o (by omega), n1 o (by omega)]
  have ha : d6.1 a = d.1 a := by rw [n6 a (by omega), n5 a (by omega), n4 a (by omega), n3 a (by omega), n2 a (by omega), n1 a (by omega)]
  refine ⟨d10, ?_, ⟨?_, fun q hq => ?_, fun q hq => ?_, fun q hq => ?_, fun q hq => ?_, fun q hq => ?_, ?_, ?_, ?_, ?_⟩, fun q hq => ?_, fun c z0 z1 z2 z3 z4 z5 z6 => ?_, fun i z1 z2 z3 z4 => ?_, fun i z => ?_⟩
  · unfold X6_copy
    rw [bd_pos x8_copy]
    have e9 : X9_copy (o + 9) (a + 9) d2 = some ((), d4) := by
      unfold X9_copy
      rw [gd_pos (by omega), lt_pos, cp_A, gd_pos (by omega), lt_pos, cp_A]
    have e9' : X9_copy (o + 9) (a + 9) (wA (wI d (o + 3) 0 (d.1 (a + 3) 0)) (o + 3 + 1) (pre ((wI d (o + 3) 0 (d.1 (a + 3) 0)).1 (o + 3 + 1)) ((wI d (o + 3) 0 (d.1 (a + 3) 0)).1 (a + 3 + 1)) 125)) = some ((), d4) := e9
    rw [bd_pos e9', gd_pos (by omega), lt_pos, cp_A, gd_pos (by omega), lt_pos, cp_A, lt_pos, lt_pos, lt_pos, lt_pos]
  · rw [m6 _ (by omega), n6 _ (by omega), n5 _ (by omega), n4 _ (by omega), n3 _ (by omega), n2 _ (by omega), q1, fu_s]
  · rw [m6 _ (by omega), n6 _ (by omega), n5 _ (by omega), n4 _ (by omega), n3 _ (by omega), q2, pre_lt hq, n1 _ (by omega)]
  · rw [m6 _ (by omega), n6 _ (by omega), n5 _ (by omega), n4 _ (by omega), q3, pre_lt hq, n2 _ (by omega), n1 _ (by omega)]
  · rw [m6 _ (by omega), n6 _ (by omega), n5 _ (by omega), q4, pre_lt hq, n3 _ (by omega), n2 _ (by omega), n1 _ (by omega)]
  · rw [m6 _ (by omega), n6 _ (by omega), q5, pre_lt hq, n4 _ (by omega), n3 _ (by omega), n2 _ (by omega), n1 _ (by omega)]
  · rw [m6 _ (by omega), q6, pre_lt hq, n5 _ (by omega), n4 _ (by omega), n3 _ (by omega), n2 _ (by omega), n1 _ (by omega)]
  · rw [q10, fu_n (by decide), q9, fu_n (by decide), q8, fu_n (by decide), q7, fu_s, ha]
  · rw [q10, fu_n (by decide), q9, fu_n (by decide), q8, fu_s, n7 a (by omega), ha]
  · rw [q10, fu_n (by decide), q9, fu_s, n8 a (by omega), n7 a (by omega), ha]
  · rw [q10, fu_s, n9 a (by omega), n8 a (by omega), n7 a (by omega), ha]
  · rw [m6 _ (by omega), n6 _ (by omega), n5 _ (by omega), n4 _ (by omega), n3 _ (by omega), q2, pre_ge hq, n1 _ (by omega)]
  · rw [m6 c z0, n6 c z2, n5 c z1, n4 c z6, n3 c z5, n2 c z4, n1 c z3]
  · rw [q10, fu_n z4, q9, fu_n z3, q8, fu_n z2, q7, fu_n z1, ho]
  · rw [m6 _ (by omega), n6 _ (by omega), n5 _ (by omega), n4 _ (by omega), n3 _ (by omega), n2 _ (by omega), q1, fu_n z]

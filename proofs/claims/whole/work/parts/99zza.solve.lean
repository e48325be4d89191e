/-! ===== solve: which pentagons must hold ===== -/
/-- no shape is broken -/
theorem sp_zero {r : Nat} {stop : Bool} {may : Nat → (Nat → Nat) → Bool} {S H : (Nat → Nat) → Bool} (hS : ∀ y y' : Nat → Nat, (∀ q, q < 9 → y q = y' q) → S y = S y' ∧ H y = H y') (hm : ∀ i (y y' : Nat → Nat), (∀ q, q ≤ i → y' q = y q) → S y = true → may i y' = true) : ∀ n i x s, i + n = 9 → ((sp9 r stop may S H n i x s).2.1 = 0 ↔ s.2.1 = 0 ∧ ∀ y : Nat → Nat, (∀ q, q < i → y q = x q) → (∀ q, i ≤ q → q < 9 → y q < r) → S y = true → H y = true) := by
  intro n
  induction n with
  | zero =>
    intro i x s hi
    rw [sp9_z]
    have key : (S x = true → H x = true) ↔ ∀ y : Nat → Nat, (∀ q, q < i → y q = x q) → (∀ q, i ≤ q → q < 9 → y q < r) → S y = true → H y = true := by
      refine ⟨fun z y a1 a2 a3 => ?_, fun z a => z x (fun _ _ => rfl) (fun q a b => by omega) a⟩
      have := hS y x (fun q hq => a1 q (by omega))
      rw [this.2]
      rw [this.1] at a3
      exact z a3
    rw [← key]
    unfold lf9a
    cases hs : S x
    · exact ⟨fun z => ⟨z, fun y => by cases y⟩, fun z => z.1⟩
    · cases hh : H x
      · refine ⟨fun z => ?_, fun z => ?_⟩
        · have z' : s.2.1 + 1 = 0 := z
          omega
        · have := z.2 rfl
          cases this
      · exact ⟨fun z => ⟨z, fun _ => rfl⟩, fun z => z.1⟩
  | succ n ih =>
    intro i x s hi
    rw [sp9_s]
    have go : ∀ j, j ≤ r → ((fo9 (fun v s => if (stop && decide (0 < s.2.1)) = true then s else if may i (fu x i v) = true then sp9 r stop may S H n (i + 1) (fu x i v) s else s) j s).2.1 = 0 ↔ s.2.1 = 0 ∧ ∀ y : Nat → Nat, (∀ q, q < i → y q = x q) → y i < j → (∀ q, i ≤ q → q < 9 → y q < r) → S y = true → H y = true) := by
      intro j
      induction j with
      | zero => intro _; exact ⟨fun z => ⟨z, fun y _ a => absurd a (Nat.not_lt_zero _)⟩, fun z => z.1⟩
      | succ j ihj =>
        intro hj
        have ihj' := ihj (by omega)
        unfold fo9
        generalize fo9 (fun v s => if (stop && decide (0 < s.2.1)) = true then s else if may i (fu x i v) = true then sp9 r stop may S H n (i + 1) (fu x i v) s else s) j s = A at ihj'
        have split : (s.2.1 = 0 ∧ ∀ y : Nat → Nat, (∀ q, q < i → y q = x q) → y i < j + 1 → (∀ q, i ≤ q → q < 9 → y q < r) → S y = true → H y = true) ↔ A.2.1 = 0 ∧ ∀ y : Nat → Nat, (∀ q, q < i + 1 → y q = fu x i j q) → (∀ q, i + 1 ≤ q → q < 9 → y q < r) → S y = true → H y = true := by
          rw [ihj']
          refine ⟨fun z => ⟨⟨z.1, fun y a b c => z.2 y a (by omega) c⟩, fun y a b c => ?_⟩, fun z => ⟨z.1.1, fun y a b c d => ?_⟩⟩
          · have yi : y i = j := by rw [a i (by omega), fu_s]
            refine z.2 y (fun q hq => by rw [a q (by omega), fu_n (by omega)]) (by omega) (fun q a1 a2 => ?_) c
            by_cases e : q = i
            · rw [e, yi]; omega
            · exact b q (by omega) a2
          · by_cases e : y i = j
            · refine z.2 y (fun q hq => ?_) (fun q a1 a2 => c q (by omega) a2) d
              by_cases e2 : q = i
              · rw [e2, fu_s, e]
              · rw [fu_n e2]; exact a q (by omega)
            · exact z.1.2 y a (by omega) c d
        rw [split]
        by_cases c1 : (stop && decide (0 < A.2.1)) = true
        · rw [if_pos c1]
          have : A.2.1 ≠ 0 := fun z => by rw [z] at c1; simp at c1
          exact ⟨fun z => absurd z this, fun z => absurd z.1 this⟩
        · rw [if_neg c1]
          by_cases c2 : may i (fu x i j) = true
          · rw [if_pos c2]
            exact ih (i + 1) (fu x i j) A (by omega)
          · rw [if_neg c2]
            refine ⟨fun z => ⟨z, fun y a b c => ?_⟩, fun z => z.1⟩
            exact absurd (hm i y (fu x i j) (fun q hq => (a q (by omega)).symm) c) c2
    rw [go r (Nat.le_refl _)]
    refine ⟨fun z => ⟨z.1, fun y a b c => z.2 y a (b i (Nat.le_refl _) (by omega)) b c⟩, fun z => ⟨z.1, fun y a _ c d => z.2 y a c d⟩⟩
theorem pn9_zero {n F : Nat → Int} {p r : Nat} {stop : Bool} : (pn9 n F p r stop).2.1 = 0 ↔ ∀ y : Nat → Nat, (∀ q, q < 9 → y q < r) → pnS n y = true → pnH F p r y := by
  unfold pn9
  rw [sp_zero (r := r) (stop := stop) (may := pnM n) (S := pnS n) (H := pnB F p r) (fun y y' h => ?_) (fun i y y' h hs => ?_) 9 0 (fun _ => 0) (0, 0, fun _ => 0) rfl]
  · refine ⟨fun z y a b => pnB_iff.mp (z.2 y (fun q hq => absurd hq (Nat.not_lt_zero _)) (fun q _ hq => a q hq) b), fun z => ⟨rfl, fun y _ a b => pnB_iff.mpr (z y (fun q hq => a q (Nat.zero_le _) hq) b)⟩⟩
  · unfold pnS pnB pnL
    have e : pnT F y = pnT F y' := funext fun k => by unfold pnT; rw [h 0 (by omega), h 1 (by omega), h 2 (by omega), h 3 (by omega), h 4 (by omega), h 5 (by omega), h 6 (by omega), h 7 (by omega), h 8 (by omega)]
    rw [e, h 0 (by omega), h 1 (by omega), h 2 (by omega), h 3 (by omega), h 4 (by omega), h 5 (by omega), h 6 (by omega), h 7 (by omega), h 8 (by omega)]
    exact ⟨rfl, rfl⟩
  · unfold pnS at hs
    have hs := of_decide_eq_true hs
    unfold pnM
    by_cases e5 : i = 5
    · rw [if_pos e5, h 0 (by omega), h 1 (by omega), h 5 (by omega)]; exact decide_eq_true hs.1
    · rw [if_neg e5]
      by_cases e6 : i = 6
      · rw [if_pos e6, h 5 (by omega), h 2 (by omega), h 6 (by omega), h 3 (by omega), h 4 (by omega)]; exact decide_eq_true ⟨hs.2.1, hs.2.2.1⟩
      · rw [if_neg e6]
        by_cases e7 : i = 7
        · rw [if_pos e7, h 0 (by omega), h 7 (by omega), h 4 (by omega)]; exact decide_eq_true hs.2.2.2.2.2
        · rw [if_neg e7]
/-- the trees that are 1 by themselves, and those that aren't there -/
def FZ (n F : Nat → Int) (r : Nat) : Prop := ∀ a b c d e g, a < r → b < r → c < r → d < r → e < r → g < r → (isTr n a b c d e g → (a = 0 ∨ b = 0 ∨ c = 0) → F (six a b c d e g) = 1) ∧ (¬ isTr n a b c d e g → F (six a b c d e g) = 0)
/-- a pentagon with the kind 0 among its first four holds -/
theorem pent0 {n F : Nat → Int} {r p : Nat} (hT : TG n r) (hF : FZ n F r) {x : Nat → Nat} (hx : ∀ q, q < 9 → x q < r) (hs : pnS n x = true) (h0 : x 0 = 0 ∨ x 1 = 0 ∨ x 2 = 0 ∨ x 3 = 0) : pnH F p r x := by
  unfold pnS at hs
  obtain ⟨s1, s2, s3, s4, s5, s6⟩ := of_decide_eq_true hs
  have a := hx 0 (by omega)
  have b := hx 1 (by omega)
  have c := hx 2 (by omega)
  have d := hx 3 (by omega)
  have e := hx 4 (by omega)
  have f := hx 5 (by omega)
  have g := hx 6 (by omega)
  have k := hx 7 (by omega)
  have l := hx 8 (by omega)
  have r1 := hT.1.1
  -- kinds by 0
  have le : ∀ u v, u < r → v < r → n (ti 0 u v) = 1 → v = u := fun u v hu hv h => by
    rw [hT.2.2.2.1 u v hu hv] at h
    by_cases z : u = v
    · exact z.symm
    · rw [if_neg z] at h; omega
  have re : ∀ u v, u < r → v < r → n (ti u 0 v) = 1 → v = u := fun u v hu hv h => by
    rw [hT.2.2.2.2 u v hu hv] at h
    by_cases z : u = v
    · exact z.symm
    · rw [if_neg z] at h; omega
  have lo : ∀ u, u < r → n (ti 0 u u) = 1 := fun u hu => by rw [hT.2.2.2.1 u u hu hu, if_pos rfl]
  have ro : ∀ u, u < r → n (ti u 0 u) = 1 := fun u hu => by rw [hT.2.2.2.2 u u hu hu, if_pos rfl]
  have one : ∀ {a b c d e g : Nat}, a < r → b < r → c < r → d < r → e < r → g < r → isTr n a b c d e g → (a = 0 ∨ b = 0 ∨ c = 0) → F (six a b c d e g) = 1 := fun h1 h2 h3 h4 h5 h6 => (hF _ _ _ _ _ _ h1 h2 h3 h4 h5 h6).1
  have zero : ∀ {a b c d e g : Nat}, a < r → b < r → c < r → d < r → e < r → g < r → ¬ isTr n a b c d e g → F (six a b c d e g) = 0 := fun h1 h2 h3 h4 h5 h6 => (hF _ _ _ _ _ _ h1 h2 h3 h4 h5 h6).2
  refine cgm.of ?_
  unfold pnL
  generalize hxa : x 0 = A at *
  generalize hxb : x 1 = B at *
  generalize hxc : x 2 = C at *
  generalize hxd : x 3 = D at *
  generalize hxe : x 4 = E at *
  generalize hxf : x 5 = P at *
  generalize hxg : x 6 = Q at *
  generalize hxk : x 7 = K at *
  generalize hxl : x 8 = L at *
  have eT : pnT F x = fun h => F (six A B C Q P h) * F (six A h D E Q K) * F (six B C D K h L) := funext fun h => by unfold pnT; rw [hxa, hxb, hxc, hxd, hxe, hxf, hxg, hxk, hxl]
  rw [eT]
  rcases h0 with z | z | z | z
  · subst z
    have e1 := le B P b f s1
    have e2 := le K E k e s6
    subst e1 e2
    rw [sm1 (f := fun h => F (six 0 P C Q P h) * F (six 0 h D E Q E) * F (six P C D E h L)) (j := Q) r g (fun h hh hq => by
      show F (six 0 P C Q P h) * _ * _ = 0
      rw [zero a b c g f hh (fun t => hq (le h Q hh g t.2.2.2).symm), Int.zero_mul, Int.zero_mul])]
    show _ = F (six 0 P C Q P Q) * F (six 0 Q D E Q E) * F (six P C D E Q L)
    rw [one a b l e f e ⟨lo P b, s5, s5, lo E e⟩ (Or.inl rfl), one a b c g f g ⟨lo P b, s2, s2, lo Q g⟩ (Or.inl rfl), one a g d e g e ⟨lo Q g, s3, s3, lo E e⟩ (Or.inl rfl)]
    omega
  · subst z
    have e1 := re A P a f s1
    have e2 := le L K l k s5
    subst e1 e2
    rw [sm1 (f := fun h => F (six P 0 C Q P h) * F (six P h D E Q K) * F (six 0 C D K h K)) (j := C) r c (fun h hh hq => by
      show F (six P 0 C Q P h) * _ * _ = 0
      rw [zero a b c g f hh (fun t => hq (le C h c hh t.2.2.1)), Int.zero_mul, Int.zero_mul])]
    show _ = F (six P 0 C Q P C) * F (six P C D E Q K) * F (six 0 C D K C K)
    rw [one a b l e f k ⟨ro P a, s6, lo K k, s6⟩ (Or.inr (Or.inl rfl)), one a b c g f c ⟨ro P a, s2, lo C c, s2⟩ (Or.inr (Or.inl rfl)), one b c d k c l ⟨lo C c, s4, s4, lo K k⟩ (Or.inl rfl)]
    omega
  · subst z
    have e1 := re P Q f g s2
    have e2 := le D L d l s4
    subst e1 e2
    rw [sm1 (f := fun h => F (six A B 0 Q Q h) * F (six A h L E Q K) * F (six B 0 L K h L)) (j := B) r b (fun h hh hq => by
      show F (six A B 0 Q Q h) * _ * _ = 0
      rw [zero a b c g f hh (fun t => hq (re B h b hh t.2.2.1)), Int.zero_mul, Int.zero_mul])]
    show _ = F (six A B 0 Q Q B) * F (six A B L E Q K) * F (six B 0 L K B L)
    rw [one f c d e g l ⟨ro Q f, s3, lo L d, s3⟩ (Or.inr (Or.inl rfl)), one a b c g f b ⟨s1, ro Q f, ro B b, s1⟩ (Or.inr (Or.inr rfl)), one b c d k b l ⟨ro B b, s5, lo L d, s5⟩ (Or.inr (Or.inl rfl))]
    omega
  · subst z
    have e1 := re Q E g e s3
    have e2 := re C L c l s4
    subst e1 e2
    rw [sm1 (f := fun h => F (six A B L E P h) * F (six A h 0 E E K) * F (six B L 0 K h L)) (j := K) r k (fun h hh hq => by
      show F (six A B L E P h) * F (six A h 0 E E K) * _ = 0
      rw [zero a hh d e g k (fun t => hq (re h K hh k t.2.2.1).symm), Int.mul_zero, Int.zero_mul])]
    show _ = F (six A B L E P K) * F (six A K 0 E E K) * F (six B L 0 K K L)
    rw [one f c d e g l ⟨s2, ro E g, ro L c, s2⟩ (Or.inr (Or.inr rfl)), one a k d e g k ⟨s6, ro E g, ro K k, s6⟩ (Or.inr (Or.inr rfl)), one b c d k k l ⟨s5, ro K k, ro L c, s5⟩ (Or.inr (Or.inr rfl))]
    omega
/-- the nine kinds of the pentagon with the number q, all of whose first four are 1 -/
def xq9 (q : Nat) : Nat → Nat := fun i => if i < 4 then 1 else if i = 4 then q / 16 else if i = 5 then q / 8 % 2 else if i = 6 then q / 4 % 2 else if i = 7 then q / 2 % 2 else q % 2
theorem xq9_lt {q : Nat} (hq : q < 32) : ∀ i, i < 9 → xq9 q i < 2 := fun i hi => by
  unfold xq9
  split
  · omega
  · split
    · omega
    · split
      · omega
      · split
        · omega
        · split <;> omega
theorem pent_all {n F : Nat → Int} {p : Nat} (hT : TG n 2) (hF : FZ n F 2) : (∀ y : Nat → Nat, (∀ q, q < 9 → y q < 2) → pnS n y = true → pnH F p 2 y) ↔ ∀ q, q < 32 → pnS n (xq9 q) = true → pnH F p 2 (xq9 q) := by
  refine ⟨fun z q hq hs => z _ (xq9_lt hq) hs, fun z y hy hs => ?_⟩
  have y0 := hy 0 (by omega)
  have y1 := hy 1 (by omega)
  have y2 := hy 2 (by omega)
  have y3 := hy 3 (by omega)
  by_cases c0 : y 0 = 0 ∨ y 1 = 0 ∨ y 2 = 0 ∨ y 3 = 0
  · exact pent0 hT hF hy hs c0
  · have y4 := hy 4 (by omega)
    have y5 := hy 5 (by omega)
    have y6 := hy 6 (by omega)
    have y7 := hy 7 (by omega)
    have y8 := hy 8 (by omega)
    obtain ⟨Q, hQ⟩ : ∃ Q, Q = 16 * y 4 + 8 * y 5 + 4 * y 6 + 2 * y 7 + y 8 := ⟨_, rfl⟩
    have e0 : xq9 Q 0 = y 0 := by show 1 = _; omega
    have e1 : xq9 Q 1 = y 1 := by show 1 = _; omega
    have e2 : xq9 Q 2 = y 2 := by show 1 = _; omega
    have e3 : xq9 Q 3 = y 3 := by show 1 = _; omega
    have e4 : xq9 Q 4 = y 4 := by show Q / 16 = _; omega
    have e5 : xq9 Q 5 = y 5 := by show Q / 8 % 2 = _; omega
    have e6 : xq9 Q 6 = y 6 := by show Q / 4 % 2 = _; omega
    have e7 : xq9 Q 7 = y 7 := by show Q / 2 % 2 = _; omega
    have e8 : xq9 Q 8 = y 8 := by show Q % 2 = _; omega
    have z2 := z Q (by omega) (by
      unfold pnS at hs ⊢
      rw [e0, e1, e2, e3, e4, e5, e6, e7, e8]; exact hs)
    have eT : pnT F (xq9 Q) = pnT F y := funext fun k => by unfold pnT; rw [e0, e1, e2, e3, e4, e5, e6, e7, e8]
    unfold pnH pnL at z2 ⊢
    rw [eT, e0, e1, e2, e3, e4, e5, e6, e7, e8] at z2
    exact z2

/-! ===== product ===== -/
theorem wl_ei {S E R : Type} {b : S → Option (S ⊕ (E ⊕ R))} (I : Nat → S → Prop) (F : E → Prop) (X : R → Prop) (r : Nat) (hb : ∀ i s, i < r → I i s → (∃ s', b s = some (.inl s') ∧ I (i + 1) s') ∨ (∃ x, b s = some (.inr (.inr x)) ∧ X x)) (he : ∀ s, I r s → ∃ e, b s = some (.inr (.inl e)) ∧ F e) : ∀ n i s, i ≤ r → r - i < n → I i s → (∃ e, wl9 b n s = some (.inl e) ∧ F e) ∨ (∃ x, wl9 b n s = some (.inr x) ∧ X x) := by
  intro n
  induction n with
  | zero => intro i s _ h; omega
  | succ n ih =>
    intro i s hi hn hI
    unfold wl9
    by_cases c : i = r
    · subst c
      obtain ⟨e, h1, h2⟩ := he s hI
      rw [h1]
      exact Or.inl ⟨e, rfl, h2⟩
    · rcases hb i s (by omega) hI with ⟨s', h1, h2⟩ | ⟨x, h1, h2⟩
      · rw [h1]
        exact ih (i + 1) s' (by omega) (by omega) h2
      · rw [h1]
        exact Or.inr ⟨x, rfl, h2⟩
/-- a search by its invariant: it ends, or it leaves -/
theorem lpR_ei {S E R Y : Type} {b : S → Option (S ⊕ (E ⊕ R))} {k : E → Option Y} {j : R → Option Y} {s0 : S} (I : Nat → S → Prop) (F : E → Prop) (X : R → Prop) (r : Nat) (hr : r < 4000000) (h0 : I 0 s0) (hb : ∀ i s, i < r → I i s → (∃ s', b s = some (.inl s') ∧ I (i + 1) s') ∨ (∃ x, b s = some (.inr (.inr x)) ∧ X x)) (he : ∀ s, I r s → ∃ e, b s = some (.inr (.inl e)) ∧ F e) : (∃ e, lpR b s0 k j = k e ∧ F e) ∨ (∃ x, lpR b s0 k j = j x ∧ X x) := by
  rcases wl_ei I F X r hb he FUEL 0 s0 (Nat.zero_le _) (by unfold FUEL; omega) h0 with ⟨e, h1, h2⟩ | ⟨x, h1, h2⟩
  · refine Or.inl ⟨e, ?_, h2⟩
    unfold lpR
    rw [h1]
  · refine Or.inr ⟨x, ?_, h2⟩
    unfold lpR
    rw [h1]
theorem qr_inj {k A a A' a' : Nat} (ha : a < k) (ha' : a' < k) (h : A * k + a = A' * k + a') : A = A' ∧ a = a' := by
  have e1 : (A * k + a) / k = A := by rw [Nat.mul_comm, Nat.mul_add_div (by omega), Nat.div_eq_of_lt ha]; omega
  have e2 : (A' * k + a') / k = A' := by rw [Nat.mul_comm, Nat.mul_add_div (by omega), Nat.div_eq_of_lt ha']; omega
  have : A = A' := by rw [← e1, ← e2, h]
  subst this
  exact ⟨rfl, by omega⟩
theorem qr_lt {k r A a : Nat} (hA : A < r) (ha : a < k) : A * k + a < r * k := by
  have : (A + 1) * k ≤ r * k := Nat.mul_le_mul_right k hA
  rw [Nat.succ_mul] at this
  omega
abbrev S6 := Nat → Nat → Nat → Nat → Nat → Nat → Prop
def pd (n kn : Nat → Int) (A B C a b c : Nat) : Int := n (ti A B C) * kn (ti a b c)
/-- the cells of S hold their products, those outside the cube are as they were -/
def Wc (n kn : Nat → Int) (r kr : Nat) (f0 : Nat → Int) (S : S6) (f : Nat → Int) : Prop :=
  (∀ A B C a b c, A < r → B < r → C < r → a < kr → b < kr → c < kr → S A B C a b c → f (ti (A * kr + a) (B * kr + b) (C * kr + c)) = pd n kn A B C a b c ∧ pd n kn A B C a b c ≤ 9) ∧
  (∀ q, (¬ ∃ i j k, i < r * kr ∧ j < r * kr ∧ k < r * kr ∧ q = ti i j k) → f q = f0 q)
def Bd9 (n kn : Nat → Int) (r kr : Nat) : Prop := ∃ A B C a b c, A < r ∧ B < r ∧ C < r ∧ a < kr ∧ b < kr ∧ c < kr ∧ 9 < pd n kn A B C a b c
theorem Wc.sub {n kn : Nat → Int} {r kr : Nat} {f0 f : Nat → Int} {S S' : S6} (h : Wc n kn r kr f0 S f) (hS : ∀ A B C a b c, A < r → B < r → C < r → a < kr → b < kr → c < kr → S' A B C a b c → S A B C a b c) : Wc n kn r kr f0 S' f :=
  ⟨fun A B C a b c h1 h2 h3 h4 h5 h6 h7 => h.1 A B C a b c h1 h2 h3 h4 h5 h6 (hS A B C a b c h1 h2 h3 h4 h5 h6 h7), h.2⟩
theorem Wc.put {n kn : Nat → Int} {r kr : Nat} {f0 f : Nat → Int} {S S' : S6} {A B C a b c : Nat} (h : Wc n kn r kr f0 S f) (h5 : r * kr ≤ 5) (hA : A < r) (hB : B < r) (hC : C < r) (ha : a < kr) (hb : b < kr) (hc : c < kr) (h9 : pd n kn A B C a b c ≤ 9) (hS : ∀ A' B' C' a' b' c', A' < r → B' < r → C' < r → a' < kr → b' < kr → c' < kr → S' A' B' C' a' b' c' → S A' B' C' a' b' c' ∨ (A' = A ∧ B' = B ∧ C' = C ∧ a' = a ∧ b' = b ∧ c' = c)) : Wc n kn r kr f0 S' (fu f (ti (A * kr + a) (B * kr + b) (C * kr + c)) (pd n kn A B C a b c)) := by
  have lA := qr_lt hA ha
  have lB := qr_lt hB hb
  have lC := qr_lt hC hc
  refine ⟨fun A' B' C' a' b' c' k1 k2 k3 k4 k5 k6 k7 => ?_, fun q hq => ?_⟩
  · have mA := qr_lt k1 k4
    have mB := qr_lt k2 k5
    have mC := qr_lt k3 k6
    rw [fu_app]
    by_cases e : ti (A' * kr + a') (B' * kr + b') (C' * kr + c') = ti (A * kr + a) (B * kr + b) (C * kr + c)
    · obtain ⟨e1, e2, e3⟩ := ti_inj (by omega) (by omega) (by omega) (by omega) e
      obtain ⟨rfl, rfl⟩ := qr_inj k4 ha e1
      obtain ⟨rfl, rfl⟩ := qr_inj k5 hb e2
      obtain ⟨rfl, rfl⟩ := qr_inj k6 hc e3
      rw [if_pos e]
      exact ⟨rfl, h9⟩
    · rw [if_neg e]
      rcases hS A' B' C' a' b' c' k1 k2 k3 k4 k5 k6 k7 with z | ⟨rfl, rfl, rfl, rfl, rfl, rfl⟩
      · exact h.1 A' B' C' a' b' c' k1 k2 k3 k4 k5 k6 z
      · exact absurd rfl e
  · rw [fu_app, if_neg (fun e => hq ⟨_, _, _, lA, lB, lC, e⟩)]
    exact h.2 q hq
/-- what the class's product finds -/
def PdC (D : DA) (n kn : Nat → Int) (r kr : Nat) : Prop := D.1 5 0 = r ∧ D.1 32 0 = kr ∧ D.1 6 = n ∧ D.1 33 = kn ∧ (∀ q, q < 125 → 0 ≤ n q ∧ n q ≤ 9) ∧ (∀ q, q < 125 → 0 ≤ kn q ∧ kn q ≤ 9) ∧ 1 ≤ r ∧ 1 ≤ kr ∧ r * kr ≤ 5 ∧ r ≤ 5 ∧ kr ≤ 5
theorem pd_bd {n kn : Nat → Int} {A B C a b c : Nat} (h1 : ∀ q, q < 125 → 0 ≤ n q ∧ n q ≤ 9) (h2 : ∀ q, q < 125 → 0 ≤ kn q ∧ kn q ≤ 9) (hA : A < 5) (hB : B < 5) (hC : C < 5) (ha : a < 5) (hb : b < 5) (hc : c < 5) : 0 ≤ pd n kn A B C a b c ∧ pd n kn A B C a b c ≤ 81 := by
  have e1 := h1 _ (ti_lt hA hB hC)
  have e2 := h2 _ (ti_lt ha hb hc)
  unfold pd
  exact ⟨Int.mul_nonneg e1.1 e2.1, Int.mul_le_mul e1.2 e2.2 e2.1 (by omega)⟩
/-- the inner loops of the class -/
theorem x8_spread {D : DA} {n kn : Nat → Int} {r kr : Nat} {f0 f : Nat → Int} {S : S6} {A B C : Nat} (hD : PdC D n kn r kr) (hA : A < r) (hB : B < r) (hC : C < r) (hW : Wc n kn r kr f0 S f) : (∃ f', X8_spread 38 32 (n (ti A B C)) A B C (wA D 39 f) = some (1, wA D 39 f') ∧ Wc n kn r kr f0 (fun A' B' C' a b c => S A' B' C' a b c ∨ (A' = A ∧ B' = B ∧ C' = C)) f') ∨ (∃ f', X8_spread 38 32 (n (ti A B C)) A B C (wA D 39 f) = some (0, wA D 39 f') ∧ Bd9 n kn r kr) := by
  obtain ⟨p1, p2, p3, p4, p5, p6, p7, p8, p9, p10, p11⟩ := hD
  have hr32 : ∀ f, (wA D 39 f).1 32 0 = kr := fun f => by rw [wA_ne (by decide)]; exact p2
  have inner : ∀ (a b : Nat) (f : Nat → Int) (S : S6), a < kr → b < kr → Wc n kn r kr f0 S f → ∀ {Y : Type} (k : DA → Option Y) (j : Int × DA → Option Y), (∃ e, lpR (fun q => X8_spread_b29 38 32 (n (ti A B C)) A B C kr a b q.1 q.2) (0, wA D 39 f) k j = k e ∧ ∃ f', e = wA D 39 f' ∧ Wc n kn r kr f0 (fun A' B' C' a' b' c' => S A' B' C' a' b' c' ∨ (A' = A ∧ B' = B ∧ C' = C ∧ a' = a ∧ b' = b)) f') ∨ (∃ x, lpR (fun q => X8_spread_b29 38 32 (n (ti A B C)) A B C kr a b q.1 q.2) (0, wA D 39 f) k j = j x ∧ (∃ f', x = (0, wA D 39 f')) ∧ Bd9 n kn r kr) := fun a b f S ha hb hW Y k j => by
    refine lpR_ei (fun i s => s.1 = (i : Int) ∧ ∃ f', s.2 = wA D 39 f' ∧ Wc n kn r kr f0 (fun A' B' C' a' b' c' => S A' B' C' a' b' c' ∨ (A' = A ∧ B' = B ∧ C' = C ∧ a' = a ∧ b' = b ∧ c' < i)) f') _ _ kr (by omega) ⟨rfl, f, rfl, hW.sub (fun A' B' C' a' b' c' _ _ _ _ _ _ z => by rcases z with z | z; exact z; omega)⟩ (fun i s hi hI => ?_) (fun s hI => ?_)
    · obtain ⟨v, E⟩ := s
      obtain ⟨rfl, f', rfl, hW'⟩ := hI
      have hat : X8_at 32 (a : Int) b i (wA D 39 f') = some (kn (ti a b i)) := by
        rw [x8_at (by omega) (by omega) (by omega)]
        unfold nn
        rw [wA_ne (by decide), p4]; rfl
      have hpd := pd_bd (A := A) (B := B) (C := C) (a := a) (b := b) (c := i) p5 p6 (by omega) (by omega) (by omega) (by omega) (by omega) (by omega)
      have hv : n (ti A B C) * kn (ti a b i) = pd n kn A B C a b i := rfl
      have lA := qr_lt hA ha
      have lB := qr_lt hB hb
      have lC := qr_lt hC hi
      by_cases c9 : pd n kn A B C a b i ≤ 9
      · left
        have hp : X8_put 38 ((A : Int) * kr + a) ((B : Int) * kr + b) ((C : Int) * kr + i) (pd n kn A B C a b i) (wA D 39 f') = some ((), wI (wA D 39 f') 39 (ti (A * kr + a) (B * kr + b) (C * kr + i)) (pd n kn A B C a b i)) := by
          have := x8_put (d := wA D 39 f') (o := 38) (i := A * kr + a) (j := B * kr + b) (k := C * kr + i) (v := pd n kn A B C a b i) (by omega) (by omega) (by omega)
          rw [Int.natCast_add, Int.natCast_add, Int.natCast_add, Int.natCast_mul, Int.natCast_mul, Int.natCast_mul] at this
          exact this
        refine ⟨((i : Int) + 1, wA D 39 (fu f' (ti (A * kr + a) (B * kr + b) (C * kr + i)) (pd n kn A B C a b i))), ?_, by show (i : Int) + 1 = _; omega, _, rfl, hW'.put p9 hA hB hC ha hb hi c9 (fun A' B' C' a' b' c' _ _ _ _ _ _ z => by rcases z with z | z; exact Or.inl (Or.inl z); omega)⟩
        show X8_spread_b29 38 32 (n (ti A B C)) A B C kr a b (i : Int) (wA D 39 f') = _
        unfold X8_spread_b29
        rw [gd_pos (by omega), if_neg (by omega), b1_pos hat, lt_pos, hv, gd_pos (by omega), if_pos c9, bd_pos hp, wA_wI]
      · right
        refine ⟨(0, wA D 39 f'), ?_, ⟨f', rfl⟩, A, B, C, a, b, i, hA, hB, hC, ha, hb, hi, (by omega)⟩
        show X8_spread_b29 38 32 (n (ti A B C)) A B C kr a b (i : Int) (wA D 39 f') = _
        unfold X8_spread_b29
        rw [gd_pos (by omega), if_neg (by omega), b1_pos hat, lt_pos, hv, gd_pos (by omega), if_neg c9]
    · obtain ⟨v, E⟩ := s
      obtain ⟨rfl, f', rfl, hW'⟩ := hI
      refine ⟨wA D 39 f', ?_, f', rfl, hW'.sub (fun A' B' C' a' b' c' _ _ _ _ _ z6 z => by rcases z with z | z; exact Or.inl z; exact Or.inr (by omega))⟩
      show X8_spread_b29 38 32 (n (ti A B C)) A B C kr a b (kr : Int) (wA D 39 f') = _
      unfold X8_spread_b29
      rw [gd_pos (by omega), if_pos (by omega)]
  have mid : ∀ (a : Nat) (f : Nat → Int) (S : S6), a < kr → Wc n kn r kr f0 S f → ∀ {Y : Type} (k : DA → Option Y) (j : Int × DA → Option Y), (∃ e, lpR (fun q => X8_spread_b19 38 32 (n (ti A B C)) A B C kr a q.1 q.2) (0, wA D 39 f) k j = k e ∧ ∃ f', e = wA D 39 f' ∧ Wc n kn r kr f0 (fun A' B' C' a' b' c' => S A' B' C' a' b' c' ∨ (A' = A ∧ B' = B ∧ C' = C ∧ a' = a)) f') ∨ (∃ x, lpR (fun q => X8_spread_b19 38 32 (n (ti A B C)) A B C kr a q.1 q.2) (0, wA D 39 f) k j = j x ∧ (∃ f', x = (0, wA D 39 f')) ∧ Bd9 n kn r kr) := fun a f S ha hW Y k j => by
    refine lpR_ei (fun i s => s.1 = (i : Int) ∧ ∃ f', s.2 = wA D 39 f' ∧ Wc n kn r kr f0 (fun A' B' C' a' b' c' => S A' B' C' a' b' c' ∨ (A' = A ∧ B' = B ∧ C' = C ∧ a' = a ∧ b' < i)) f') _ _ kr (by omega) ⟨rfl, f, rfl, hW.sub (fun A' B' C' a' b' c' _ _ _ _ _ _ z => by rcases z with z | z; exact z; omega)⟩ (fun i s hi hI => ?_) (fun s hI => ?_)
    · obtain ⟨v, E⟩ := s
      obtain ⟨rfl, f', rfl, hW'⟩ := hI
      have e0 : X8_spread_b19 38 32 (n (ti A B C)) A B C kr a (i : Int) (wA D 39 f') = lpR (fun q => X8_spread_b29 38 32 (n (ti A B C)) A B C kr a i q.1 q.2) (0, wA D 39 f') (fun e => some (.inl ((i : Int) + 1, e))) (fun r => some (.inr (.inr r))) := by
        unfold X8_spread_b19
        rw [gd_pos (by omega), if_neg (by omega)]
      rcases inner a i f' _ ha hi hW' (fun e => some (Sum.inl ((i : Int) + 1, e))) (fun r => some (Sum.inr (Sum.inr r))) with ⟨e, h1, f2, rfl, hW2⟩ | ⟨x, h1, ⟨f2, rfl⟩, hb⟩
      · left
        refine ⟨((i : Int) + 1, wA D 39 f2), e0.trans h1, by show (i : Int) + 1 = _; omega, f2, rfl, hW2.sub (fun A' B' C' a' b' c' _ _ _ _ _ _ z => by rcases z with z | z; exact Or.inl (Or.inl z); by_cases y : b' = i; exact Or.inr (by omega); exact Or.inl (Or.inr (by omega)))⟩
      · right
        exact ⟨_, e0.trans h1, ⟨f2, rfl⟩, hb⟩
    · obtain ⟨v, E⟩ := s
      obtain ⟨rfl, f', rfl, hW'⟩ := hI
      refine ⟨wA D 39 f', ?_, f', rfl, hW'.sub (fun A' B' C' a' b' c' _ _ _ _ z5 z6 z => by rcases z with z | z; exact Or.inl z; exact Or.inr (by omega))⟩
      show X8_spread_b19 38 32 (n (ti A B C)) A B C kr a (kr : Int) (wA D 39 f') = _
      unfold X8_spread_b19
      rw [gd_pos (by omega), if_pos (by omega)]
  have outer : ∀ {Y : Type} (k : DA → Option Y) (j : Int × DA → Option Y), (∃ e, lpR (fun q => X8_spread_b9 38 32 (n (ti A B C)) A B C kr q.1 q.2) (0, wA D 39 f) k j = k e ∧ ∃ f', e = wA D 39 f' ∧ Wc n kn r kr f0 (fun A' B' C' a' b' c' => S A' B' C' a' b' c' ∨ (A' = A ∧ B' = B ∧ C' = C)) f') ∨ (∃ x, lpR (fun q => X8_spread_b9 38 32 (n (ti A B C)) A B C kr q.1 q.2) (0, wA D 39 f) k j = j x ∧ (∃ f', x = (0, wA D 39 f')) ∧ Bd9 n kn r kr) := fun k j => by
    refine lpR_ei (fun i s => s.1 = (i : Int) ∧ ∃ f', s.2 = wA D 39 f' ∧ Wc n kn r kr f0 (fun A' B' C' a' b' c' => S A' B' C' a' b' c' ∨ (A' = A ∧ B' = B ∧ C' = C ∧ a' < i)) f') _ _ kr (by omega) ⟨rfl, f, rfl, hW.sub (fun A' B' C' a' b' c' _ _ _ _ _ _ z => by rcases z with z | z; exact z; omega)⟩ (fun i s hi hI => ?_) (fun s hI => ?_)
    · obtain ⟨v, E⟩ := s
      obtain ⟨rfl, f', rfl, hW'⟩ := hI
      have e0 : X8_spread_b9 38 32 (n (ti A B C)) A B C kr (i : Int) (wA D 39 f') = lpR (fun q => X8_spread_b19 38 32 (n (ti A B C)) A B C kr i q.1 q.2) (0, wA D 39 f') (fun e => some (.inl ((i : Int) + 1, e))) (fun r => some (.inr (.inr r))) := by
        unfold X8_spread_b9
        rw [gd_pos (by omega), if_neg (by omega)]
      rcases mid i f' _ hi hW' (fun e => some (Sum.inl ((i : Int) + 1, e))) (fun r => some (Sum.inr (Sum.inr r))) with ⟨e, h1, f2, rfl, hW2⟩ | ⟨x, h1, ⟨f2, rfl⟩, hb⟩
      · left
        refine ⟨((i : Int) + 1, wA D 39 f2), e0.trans h1, by show (i : Int) + 1 = _; omega, f2, rfl, hW2.sub (fun A' B' C' a' b' c' _ _ _ _ _ _ z => by rcases z with z | z; exact Or.inl (Or.inl z); by_cases y : a' = i; exact Or.inr (by omega); exact Or.inl (Or.inr (by omega)))⟩
      · right
        exact ⟨_, e0.trans h1, ⟨f2, rfl⟩, hb⟩
    · obtain ⟨v, E⟩ := s
      obtain ⟨rfl, f', rfl, hW'⟩ := hI
      refine ⟨wA D 39 f', ?_, f', rfl, hW'.sub (fun A' B' C' a' b' c' _ _ _ z4 z5 z6 z => by rcases z with z | z; exact Or.inl z; exact Or.inr (by omega))⟩
      show X8_spread_b9 38 32 (n (ti A B C)) A B C kr (kr : Int) (wA D 39 f') = _
      unfold X8_spread_b9
      rw [gd_pos (by omega), if_pos (by omega)]
  unfold X8_spread
  rw [lt_pos, hr32]
  rcases outer (fun e => some ((1 : Int), e)) (fun r => some r) with ⟨e, h1, f2, rfl, hW2⟩ | ⟨x, h1, ⟨f2, rfl⟩, hb⟩
  · exact Or.inl ⟨f2, h1, hW2⟩
  · exact Or.inr ⟨f2, h1, hb⟩

/-! ===== the groups are the same ===== -/
/-- equal below n -/
def Eb (n : Nat) (f g : Nat → Int) : Prop := ∀ q, q < n → f q = g q
theorem Eb.m69 {n : Nat} {ix : Nat → Nat → Nat → Nat} {f g : Nat → Int} (h : Eb n f g) (a b c : Nat) (v : Int) : Eb n (mk6 ix f a b c v) (mk6 ix g a b c v) := by
  have st : ∀ (f g : Nat → Int) (k : Nat), Eb n f g → Eb n (fu f k v) (fu g k v) := fun f g k h q hq => by
    rw [fu_app, fu_app]
    by_cases e : q = k
    · rw [if_pos e, if_pos e]
    · rw [if_neg e, if_neg e]; exact h q hq
  exact st _ _ _ (st _ _ _ (st _ _ _ (st _ _ _ (st _ _ _ (st _ _ _ h)))))
theorem Eb.bS9 {dl : Nat → Nat} {i j k n : Nat} {f g : Nat → Int} (h : Eb 125 f g) (hq : cl9 i j k < 125) : Eb 125 (bS dl i j k (f, n)).1 (bS dl i j k (g, n)).1 ∧ (bS dl i j k (f, n)).2 = (bS dl i j k (g, n)).2 := by
  have e : f (cl9 i j k) = g (cl9 i j k) := h _ hq
  by_cases c : g (cl9 i j k) = -1
  · have c' : f (cl9 i j k) = -1 := e.trans c
    have e1 : bS dl i j k (f, n) = (mk6 cl9 (mk6 cl9 f i j k (n : Int)) (dl i) (dl j) (dl k) (n : Int), n + 1) := if_pos c'
    have e2 : bS dl i j k (g, n) = (mk6 cl9 (mk6 cl9 g i j k (n : Int)) (dl i) (dl j) (dl k) (n : Int), n + 1) := if_pos c
    rw [e1, e2]
    exact ⟨(h.m69 _ _ _ _).m69 _ _ _ _, rfl⟩
  · have c' : ¬ f (cl9 i j k) = -1 := fun z => c (e.symm.trans z)
    have e1 : bS dl i j k (f, n) = (f, n) := if_neg c'
    have e2 : bS dl i j k (g, n) = (g, n) := if_neg c
    rw [e1, e2]
    exact ⟨h, rfl⟩

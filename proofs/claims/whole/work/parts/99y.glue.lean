/-! ===== from the steps to the law ===== -/
def All9 : Prop := ∀ (Ln k : Nat) (sc : Int → Int) (x : XS), Inv k x → k < 512 → (0 ≤ 8 * (k : Int) ∧ 8 * (k : Int) + 8 ≤ (Ln : Int)) → Ln ≤ 4096 → ScR sc → Step9 Ln sc k x
def Beg9 : Prop := ∃ d, N_law dN0 = some d ∧ Inv 0 (x0 d)
theorem scR_I (xs : Nat → Int32) : ScR (scI xs) := fun j => by
  unfold scI
  have h1 := Int32.le_toInt (xs j.toNat)
  have h2 := Int32.toInt_lt (xs j.toNat)
  constructor <;> omega
theorem pure_of (h1 : Beg9) (h2 : All9) : PureLaw := fun L ys hL => by
  obtain ⟨d, hd, hI⟩ := h1
  have hsc := scR_I ys
  generalize scI ys = sc at hsc
  unfold Plaw
  rw [b1_pos hd]
  have key := lpR_ei (b := fun q : Int × XS => L_law__b23 L sc q.1 q.2) (k := fun x => some ((1 : Int), x)) (j := fun r => some r) (s0 := ((0 : Int), x0 d)) (fun k s => s.1 = 8 * (k : Int) ∧ Inv k s.2) (fun e => Inv (L / 8) e) (fun _ => False) (L / 8) (by omega) ⟨rfl, hI⟩ (fun k s hk hs => by
    obtain ⟨v, x⟩ := s
    obtain ⟨rfl, hx⟩ := hs
    obtain ⟨x', e1, e2⟩ := h2 L k sc x hx (by omega) (by omega) hL hsc
    exact Or.inl ⟨_, e1, by show 8 * (k : Int) + 8 = _; omega, e2⟩) (fun s hs => by
    obtain ⟨v, x⟩ := s
    obtain ⟨rfl, hx⟩ := hs
    refine ⟨x, ?_, hx⟩
    show L_law__b23 L sc (8 * ((L / 8 : Nat) : Int)) x = _
    unfold L_law__b23
    rw [gd_pos (by omega), if_pos (by omega)])
  rcases key with ⟨e, he, hF⟩ | ⟨_, _, hF⟩
  · refine ⟨(1, e), he, ?_⟩
    obtain ⟨⟨z1, z2, z3, z4, z5, z6, z7⟩, -⟩ := hF
    refine ⟨rfl, ?_, ?_⟩
    · show xc e ≤ _; omega
    · show xs e ≤ _; omega
  · exact hF.elim

/-! ===== list: the reference goes through all renamings ===== -/
theorem bit_or : ∀ u ∈ List.range 16, ∀ k ∈ r4, ∀ m ∈ r4, ((u ||| 2 ^ k) / 2 ^ m % 2 = 1 ↔ (u / 2 ^ m % 2 = 1 ∨ m = k)) ∧ u ||| 2 ^ k < 16 := by decide +kernel
section
variable {lr w : Nat}
/-- the kinds before i are renamed, u their bits -/
def Pr9 (d : DA) (lr i u : Nat) : Prop := (∀ j, 1 ≤ j → j < i → ∃ a : Nat, d.1 134 j = a ∧ 1 ≤ a ∧ a < lr) ∧ (∀ j j', 1 ≤ j → j < i → 1 ≤ j' → j' < i → d.1 134 j = d.1 134 j' → j = j') ∧ (∀ k, k < lr → (u / 2 ^ k % 2 = 1 ↔ ∃ j, 1 ≤ j ∧ j < i ∧ d.1 134 j = (k : Nat))) ∧ u < 16
/-- q goes on from there -/
def Ex9 (d : DA) (lr i : Nat) (q : Nat → Nat) : Prop := Inj9 lr q ∧ ∀ j, 1 ≤ j → j < i → d.1 134 j = (q j : Nat)
theorem x12_lst {fg : Nat → Int} (hq : (lr, w) ∈ lw5) : ∀ n i u (d : DA), 1 ≤ i → i ≤ lr → lr < i + n → RfL d lr w fg → Pr9 d lr i u → ∃ v d', X12_isLeast 113 n lr i u d = some (v, d') ∧ d'.2 = d.2 ∧ (∀ c, c ≠ 133 → c ≠ 134 → d'.1 c = d.1 c) ∧ (∀ j, j < i → d'.1 134 j = d.1 134 j) ∧ ((v = 1 ∧ ∀ q, Ex9 d lr i q → ¬ Ls9 lr w fg q) ∨ (v = 0 ∧ ∃ q, Ex9 d lr i q ∧ Ls9 lr w fg q)) := by
  obtain ⟨h2, h4, hw, -⟩ := lw5_bd hq
  intro n
  induction n with
  | zero => intro i u d i1 il hn; omega
  | succ n ih =>
    intro i u d i1 il hn hR hP
    obtain ⟨p1, p2, p3, p4⟩ := hP
    show ∃ v d', X12_isLeast_m 113 (X12_isLeast 113 n) lr i u d = _ ∧ _
    unfold X12_isLeast_m
    rw [gd_pos (by omega)]
    by_cases ci : i = lr
    · -- all are renamed
      obtain ⟨q, hqq⟩ : ∃ q : Nat → Nat, ∀ j, q j = (d.1 134 j).toNat := ⟨_, fun _ => rfl⟩
      have eq : ∀ j, 1 ≤ j → j < lr → d.1 134 j = (q j : Nat) ∧ 1 ≤ q j ∧ q j < lr := fun j j1 j2 => by
        obtain ⟨a, e, a1, a2⟩ := p1 j j1 (by omega)
        have : q j = a := by rw [hqq, e]; exact Int.toNat_natCast _
        rw [this]; exact ⟨e, a1, a2⟩
      have hI : Inj9 lr q := ⟨fun j j1 j2 => (eq j j1 j2).2, fun j j' j1 j2 j1' j2' e => p2 j j' j1 (by omega) j1' (by omega) (by rw [(eq j j1 j2).1, (eq j' j1' j2').1, e])⟩
      obtain ⟨v, d', e1, e2, e3, e4⟩ := x12_lesser hq hR hI (fun j j1 j2 => (eq j j1 j2).1)
      have only : ∀ q', Ex9 d lr i q' → Ls9 lr w fg q' → Ls9 lr w fg q := fun q' hE hL => by
        have ag : ∀ j, 1 ≤ j → j < lr → q' j = q j := fun j j1 j2 => by
          have := hE.2 j j1 (by omega)
          rw [(eq j j1 j2).1] at this
          omega
        obtain ⟨k1, k2⟩ := hL
        refine ⟨fun j j1 j2 => ?_, (Lw9.cg (fun g hg => rnG_cg hq hg ag) (fun _ _ => rfl)).mp k2⟩
        obtain ⟨d1, d2, -⟩ := dl9_bd hq j2
        rw [← ag _ (d2 j1) d1, ← ag j j1 j2]
        exact k1 j j1 j2
      rw [if_pos (by omega), bd_pos e1]
      rcases e4 with ⟨rfl, z⟩ | ⟨rfl, z⟩
      · rw [gd_pos (by decide), if_neg (by decide)]
        exact ⟨0, d', rfl, e2, fun c z1 z2 => e3 c z1, fun j _ => by rw [e3 134 (by decide)], Or.inr ⟨rfl, q, ⟨hI, fun j j1 j2 => (eq j j1 (by omega)).1⟩, z⟩⟩
      · rw [gd_pos (by decide), if_pos rfl]
        exact ⟨1, d', rfl, e2, fun c z1 z2 => e3 c z1, fun j _ => by rw [e3 134 (by decide)], Or.inl ⟨rfl, fun q' hE hL => z (only q' hE hL)⟩⟩
    · rw [if_neg (by omega)]
      have body : ∀ (k : Nat) (e : DA), 1 ≤ k → k < lr → (e.2 = d.2 ∧ (∀ c, c ≠ 133 → c ≠ 134 → e.1 c = d.1 c) ∧ ∀ j, j < i → e.1 134 j = d.1 134 j) → (∃ e', X12_isLeast_b22 113 (X12_isLeast 113 n) lr i u (k : Int) e = some (.inl ((k : Int) + 1, e')) ∧ (e'.2 = d.2 ∧ (∀ c, c ≠ 133 → c ≠ 134 → e'.1 c = d.1 c) ∧ ∀ j, j < i → e'.1 134 j = d.1 134 j) ∧ ∀ q, Ex9 d lr i q → q i = k → ¬ Ls9 lr w fg q) ∨ (∃ e', X12_isLeast_b22 113 (X12_isLeast 113 n) lr i u (k : Int) e = some (.inr (.inr (0, e'))) ∧ (e'.2 = d.2 ∧ (∀ c, c ≠ 133 → c ≠ 134 → e'.1 c = d.1 c) ∧ ∀ j, j < i → e'.1 134 j = d.1 134 j) ∧ ∃ q, Ex9 d lr i q ∧ Ls9 lr w fg q) := fun k e k1 kl he => by
        obtain ⟨f1, f2, f3⟩ := he
        have eb : iand9 (ishr9 (u : Int) (k : Int)) 1 = ((u / 2 ^ k % 2 : Nat) : Int) := by
          rw [shr_nat9 (by omega) (by omega)]
          have := mask_nat9 (a := u / 2 ^ k) (s := 1) (by have := Nat.div_le_self u (2 ^ k); omega) (by decide)
          exact this
        have b2 : u / 2 ^ k % 2 < 2 := Nat.mod_lt _ (by decide)
        have pk := p3 k kl
        unfold X12_isLeast_b22
        rw [gd_pos (by omega), if_neg (by omega), eb, gd_pos (by omega)]
        by_cases cu : u / 2 ^ k % 2 = 1
        · rw [if_pos (by omega)]
          refine Or.inl ⟨e, rfl, ⟨f1, f2, f3⟩, fun q hE hqi => ?_⟩
          obtain ⟨j, j1, ji, ej⟩ := pk.mp cu
          have := hE.2 j j1 ji
          have := hE.1.2 j i j1 (by omega) i1 (by omega) (by omega)
          omega
        · rw [if_neg (by omega), gd_pos (by omega), lt_pos, Int.toNat_natCast]
          have eo : ior9 (u : Int) (ishl9 1 (k : Int)) = ((u ||| 2 ^ k : Nat) : Int) := by
            have kp : (2 : Nat) ^ k ≤ 2 ^ 3 := Nat.pow_le_pow_right (by decide) (by omega)
            rw [shl_nat9 (by omega), or_nat9 (by omega) (by omega)]
          rw [eo]
          have bo := fun m (hm : m < 4) => bit_or u (List.mem_range.mpr p4) k (r4_mem (by omega)) m (r4_mem hm)
          obtain ⟨e1, he1⟩ : ∃ e1, e1 = wI e (113 + 21) i (k : Int) := ⟨_, rfl⟩
          have g134 : e1.1 134 = fu (e.1 134) i (k : Int) := by
            rw [he1]
            show (wI e 134 i _).1 134 = _
            rw [wI_at]
          have go : ∀ c, c ≠ 134 → e1.1 c = e.1 c := fun c z => by
            rw [he1]
            show (wI e 134 i _).1 c = _
            rw [wI_ne z]
          have j134 : ∀ j, j < i → e1.1 134 j = d.1 134 j := fun j hj => by rw [g134, fu_n (by omega)]; exact f3 j hj
          have i134 : e1.1 134 i = (k : Int) := by rw [g134, fu_s]
          have hR1 : RfL e1 lr w fg := hR.fr (fun c z1 z2 => by rw [go c z2, f2 c z1 z2])
          have hP1 : Pr9 e1 lr (i + 1) (u ||| 2 ^ k) := by
            refine ⟨fun j j1 j2 => ?_, fun j j' j1 j2 j1' j2' ej => ?_, fun m hm => ?_, (bo 0 (by decide)).2⟩
            · by_cases c : j = i
              · rw [c, i134]; exact ⟨k, rfl, k1, kl⟩
              · rw [j134 j (by omega)]; exact p1 j j1 (by omega)
            · by_cases c : j = i
              · by_cases c' : j' = i
                · rw [c, c']
                · exfalso
                  rw [c, i134, j134 j' (by omega)] at ej
                  exact cu (pk.mpr ⟨j', j1', (by omega), ej.symm⟩)
              · by_cases c' : j' = i
                · exfalso
                  rw [c', i134, j134 j (by omega)] at ej
                  exact cu (pk.mpr ⟨j, j1, (by omega), ej⟩)
                · rw [j134 j (by omega), j134 j' (by omega)] at ej
                  exact p2 j j' j1 (by omega) j1' (by omega) ej
            · rw [(bo m (by omega)).1, p3 m hm]
              constructor
              · rintro (⟨j, j1, j2, ej⟩ | rfl)
                · exact ⟨j, j1, (by omega), by rw [j134 j j2]; exact ej⟩
                · exact ⟨i, i1, (by omega), i134⟩
              · rintro ⟨j, j1, j2, ej⟩
                by_cases c : j = i
                · right
                  rw [c, i134] at ej
                  omega
                · exact Or.inl ⟨j, j1, (by omega), by rw [← j134 j (by omega)]; exact ej⟩
          obtain ⟨v, d', y1, y2, y3, y4, y5⟩ := ih (i + 1) (u ||| 2 ^ k) e1 (by omega) (by omega) (by omega) hR1 hP1
          have y1' : X12_isLeast 113 n (lr : Int) ((i : Int) + 1) ((u ||| 2 ^ k : Nat) : Int) e1 = some (v, d') := y1
          rw [← he1, bd_pos y1']
          have fr' : d'.2 = d.2 ∧ (∀ c, c ≠ 133 → c ≠ 134 → d'.1 c = d.1 c) ∧ ∀ j, j < i → d'.1 134 j = d.1 134 j := ⟨by rw [y2, he1]; exact f1, fun c z1 z2 => by rw [y3 c z1 z2, go c z2, f2 c z1 z2], fun j hj => by rw [y4 j (by omega), j134 j hj]⟩
          have exI : ∀ q, Ex9 e1 lr (i + 1) q ↔ (Ex9 d lr i q ∧ q i = k) := fun q => by
            constructor
            · rintro ⟨a, b⟩
              refine ⟨⟨a, fun j j1 j2 => by rw [← j134 j j2]; exact b j j1 (by omega)⟩, ?_⟩
              have := b i i1 (by omega)
              rw [i134] at this
              omega
            · rintro ⟨⟨a, b⟩, c⟩
              refine ⟨a, fun j j1 j2 => ?_⟩
              by_cases cj : j = i
              · rw [cj, i134, c]
              · rw [j134 j (by omega)]; exact b j j1 (by omega)
          rcases y5 with ⟨rfl, z⟩ | ⟨rfl, q, z1, z2⟩
          · rw [gd_pos (by decide), if_neg (by decide)]
            exact Or.inl ⟨d', rfl, fr', fun q hE hqi => z q ((exI q).mpr ⟨hE, hqi⟩)⟩
          · rw [gd_pos (by decide), if_pos rfl]
            exact Or.inr ⟨d', rfl, fr', q, ((exI q).mp z1).1, z2⟩
      rcases lpR_ei (b := fun q => X12_isLeast_b22 113 (X12_isLeast 113 n) lr i u q.1 q.2) (k := fun e => some ((1 : Int), e)) (j := fun r : Int × DA => some r) (s0 := (1, d)) (fun m s => s.1 = ((1 + m : Nat) : Int) ∧ (s.2.2 = d.2 ∧ (∀ c, c ≠ 133 → c ≠ 134 → s.2.1 c = d.1 c) ∧ ∀ j, j < i → s.2.1 134 j = d.1 134 j) ∧ ∀ q, Ex9 d lr i q → q i < 1 + m → ¬ Ls9 lr w fg q) (fun e => (e.2 = d.2 ∧ (∀ c, c ≠ 133 → c ≠ 134 → e.1 c = d.1 c) ∧ ∀ j, j < i → e.1 134 j = d.1 134 j) ∧ ∀ q, Ex9 d lr i q → ¬ Ls9 lr w fg q) (fun x => x.1 = 0 ∧ (x.2.2 = d.2 ∧ (∀ c, c ≠ 133 → c ≠ 134 → x.2.1 c = d.1 c) ∧ ∀ j, j < i → x.2.1 134 j = d.1 134 j) ∧ ∃ q, Ex9 d lr i q ∧ Ls9 lr w fg q) (lr - 1) (by omega) ⟨rfl, ⟨rfl, fun _ _ _ => rfl, fun _ _ => rfl⟩, fun q hE hlt => by
          have := (hE.1.1 i i1 (by omega)).1
          omega⟩ (fun m s hm hI => by
          obtain ⟨v, e⟩ := s
          obtain ⟨y1, y2, y3⟩ := hI
          dsimp only at y1 y2 y3 ⊢
          subst y1
          rcases body (1 + m) e (by omega) (by omega) y2 with ⟨e', b1', b2', b3'⟩ | ⟨e', b1', b2', b3'⟩
          · refine Or.inl ⟨_, b1', by show ((1 + m : Nat) : Int) + 1 = ((1 + (m + 1) : Nat) : Int); omega, b2', fun q hE hlt => ?_⟩
            by_cases c : q i = 1 + m
            · exact b3' q hE c
            · exact y3 q hE (by omega)
          · exact Or.inr ⟨_, b1', rfl, b2', b3'⟩) (fun s hI => by
          obtain ⟨v, e⟩ := s
          obtain ⟨y1, y2, y3⟩ := hI
          dsimp only at y1 y2 y3 ⊢
          subst y1
          refine ⟨e, ?_, y2, fun q hE => y3 q hE (by have := (hE.1.1 i i1 (by omega)).2; omega)⟩
          unfold X12_isLeast_b22
          rw [gd_pos (by omega), if_pos (by omega)]) with ⟨e, z1, z2, z3⟩ | ⟨⟨v, e⟩, z1, rfl, z2, z3⟩
      · exact ⟨1, e, z1, z2.1, z2.2.1, z2.2.2, Or.inl ⟨rfl, z3⟩⟩
      · exact ⟨0, e, z1, z2.1, z2.2.1, z2.2.2, Or.inr ⟨rfl, z3⟩⟩
theorem x12_least {fg : Nat → Int} {d : DA} (hq : (lr, w) ∈ lw5) (hR : RfL d lr w fg) : ∃ v d', X12_isLeast 113 12 lr 1 0 d = some (v, d') ∧ d'.2 = d.2 ∧ (∀ c, c ≠ 133 → c ≠ 134 → d'.1 c = d.1 c) ∧ ((v = 1 ∧ LstN lr w fg) ∨ (v = 0 ∧ ¬ LstN lr w fg)) := by
  obtain ⟨h2, h4, hw, -⟩ := lw5_bd hq
  have hP : Pr9 d lr 1 0 := ⟨fun j j1 j2 => by omega, fun j j' j1 j2 => by omega, fun k hk => by
    constructor
    · intro z
      rw [Nat.zero_div] at z
      omega
    · rintro ⟨j, j1, j2, -⟩
      omega, by decide⟩
  obtain ⟨v, d', e1, e2, e3, -, e5⟩ := x12_lst hq 12 1 0 d (Nat.le_refl _) (by omega) (by omega) hR hP
  have e1' : X12_isLeast 113 12 (lr : Int) 1 0 d = some (v, d') := e1
  refine ⟨v, d', e1', e2, e3, ?_⟩
  rw [lst_iff hq]
  rcases e5 with ⟨a, b⟩ | ⟨a, q, b, c⟩
  · exact Or.inl ⟨a, fun q hI => b q ⟨hI, fun j j1 j2 => by omega⟩⟩
  · exact Or.inr ⟨a, fun z => z q b.1 c⟩
end

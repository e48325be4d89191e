/-! ===== the beginning ===== -/
/-- nothing stands from n on -/
def Zf (n : Nat) (d : DA) : Prop := ∀ c, n ≤ c → d.1 c = fun _ => 0
theorem Zf.up {n m : Nat} {d : DA} (h : Zf n d) (hm : n ≤ m) : Zf m d := fun c hc => h c (by omega)
theorem Zf.eq {n : Nat} {d e : DA} (h : Zf n d) (he : e.1 = d.1) : Zf n e := fun c hc => by rw [he]; exact h c hc
theorem dz_1 {n i : Nat} {d : DA} (h : Zf n d) (hi : n ≤ i) : (dz d i).1 = d.1 := funext fun c => by
  show fu d.1 i (fun _ => 0) c = d.1 c
  rw [fu_app]
  by_cases e : c = i
  · subst e; rw [if_pos rfl, h c hi]
  · rw [if_neg e]
theorem Zf.dz {n i : Nat} {d : DA} (h : Zf n d) (hi : n ≤ i) : Zf n (dz d i) := h.eq (dz_1 h hi)
theorem Zf.wI {n c j : Nat} {d : DA} {v : Int} (h : Zf n d) (hc : c < n) : Zf n (wI d c j v) := fun a ha => by rw [wI_ne (by omega)]; exact h a ha
theorem wI_1 {d e : DA} {c j : Nat} {v : Int} (h : d.1 = e.1) : (wI d c j v).1 = (wI e c j v).1 := funext fun a => by
  by_cases z : a = c
  · subst z; rw [wI_at, wI_at, h]
  · rw [wI_ne z, wI_ne z, h]
/-- five fresh rows are nothing new -/
theorem dz_5 {n : Nat} {d : DA} (h : Zf n d) : (dz (dz (dz (dz (dz d n) (n + 1)) (n + 2)) (n + 3)) (n + 4)).1 = d.1 := by
  have h1 := h.dz (i := n) (Nat.le_refl _)
  have h2 := h1.dz (i := n + 1) (by omega)
  have h3 := h2.dz (i := n + 2) (by omega)
  have h4 := h3.dz (i := n + 3) (by omega)
  rw [dz_1 h4 (by omega), dz_1 h3 (by omega), dz_1 h2 (by omega), dz_1 h1 (by omega), dz_1 h (by omega)]
/-- a new table -/
def Nt (t : Nat) (d e : DA) : Prop := (∀ c, c ≠ t → c ≠ t + 1 → e.1 c = d.1 c) ∧ e.1 t = fu (d.1 t) 0 1 ∧ e.1 (t + 1) = fu (fun _ => 0) 0 1
theorem Nt.of {t : Nat} {d e : DA} (h : Zf (t + 1) d) (he : e.1 = (wI (wI d t 0 1) (t + 1) 0 1).1) : Nt t d e := by
  refine ⟨fun c z1 z2 => by rw [he, wI_ne z2, wI_ne z1], by rw [he, wI_ne (by omega), wI_at], by rw [he, wI_at, wI_ne (by omega), h (t + 1) (Nat.le_refl _)]⟩
theorem Nt.z {t n : Nat} {d e : DA} (h : Nt t d e) (hz : Zf n d) (hn : t + 2 ≤ n) : Zf n e := fun c hc => by rw [h.1 c (by omega) (by omega)]; exact hz c hc
theorem Nt.re {t : Nat} {d e d' e' : DA} (h : Nt t d e) (hd : d'.1 = d.1) (he : e'.1 = e.1) : Nt t d' e' := by
  unfold Nt at h ⊢
  rw [hd, he]; exact h
theorem ta_ge {b c : Nat} (h : b ≤ c) : b ≤ ta9 b c ∧ (ta9 b c = b + 1 → c = b) ∧ (ta9 b c = b + 2 → c = b + 1) := by
  unfold ta9
  rw [if_neg (by omega)]
  by_cases h2 : c < b + 6
  · rw [if_pos h2]; omega
  · rw [if_neg h2]
    by_cases h3 : c = b + 6
    · rw [if_pos h3]; omega
    · rw [if_neg h3]; omega
/-- a new table, its cells renumbered -/
theorem Nt.rn {b : Nat} {d e : DA} (h : Nt (b + 1) d e) (hz : Zf b d) : Nt b d (dr9 b e) := by
  obtain ⟨h1, h2, h3⟩ := h
  refine ⟨fun c z1 z2 => ?_, ?_, ?_⟩
  · show e.1 (ta9 b c) = d.1 c
    by_cases hc : c < b
    · rw [ta_lt hc]; exact h1 c (by omega) (by omega)
    · obtain ⟨g1, g2, g3⟩ := ta_ge (b := b) (c := c) (by omega)
      rw [h1 _ (fun z => z1 (g2 z)) (fun z => z2 (g3 (by omega))), hz _ g1, hz c (by omega)]
  · show e.1 (ta9 b b) = _
    have e1 : ta9 b b = b + 1 := by unfold ta9; rw [if_neg (by omega), if_pos (by omega)]
    rw [e1, h2, hz (b + 1) (by omega), hz b (Nat.le_refl _)]
  · show e.1 (ta9 b (b + 1)) = _
    have e1 : ta9 b (b + 1) = b + 2 := by unfold ta9; rw [if_neg (by omega), if_pos (by omega)]
    rw [e1]; exact h3
theorem n8_6 {d : DA} (h : Zf 7 d) : ∃ e, N8_6 d = some e ∧ Nt 6 d e := ⟨_, rfl, Nt.of h (wI_1 (wI_1 (dz_5 h)))⟩
theorem n8_21 {d : DA} (h : Zf 22 d) : ∃ e, N8_21 d = some e ∧ Nt 21 d e := ⟨_, rfl, Nt.of h (wI_1 (wI_1 (dz_5 h)))⟩
theorem n8_86 {d : DA} (h : Zf 87 d) : ∃ e, N8_86 d = some e ∧ Nt 86 d e := ⟨_, rfl, Nt.of h (wI_1 (wI_1 (dz_5 h)))⟩
theorem n8_32 {d : DA} (h : Zf 33 d) : ∃ e, N8_32 d = some e ∧ Nt 32 d e := ⟨_, rfl, Nt.of h (wI_1 (wI_1 (dz_5 h)))⟩
theorem n8_38 {d : DA} (h : Zf 39 d) : ∃ e, N8_38 d = some e ∧ Nt 38 d e := ⟨_, rfl, Nt.of h (wI_1 (wI_1 (dz_5 h)))⟩
theorem n9_5 {d : DA} (h : Zf 6 d) : ∃ e, N9_5 d = some e ∧ Nt 6 d e := by
  obtain ⟨a, a1, a2⟩ := n8_6 ((h.dz (i := 6) (by omega)).up (by omega))
  have za : Zf 8 a := a2.z ((h.dz (i := 6) (by omega)).up (by omega)) (by omega)
  have zb : Zf 12 a := za.up (by omega)
  refine ⟨_, ?_, a2.re (dz_1 h (by omega)).symm (dz_5 zb)⟩
  unfold N9_5
  rw [lt_pos, b1_pos a1]
  rfl
theorem n9_20 {d : DA} (h : Zf 21 d) : ∃ e, N9_20 d = some e ∧ Nt 21 d e := by
  obtain ⟨a, a1, a2⟩ := n8_21 ((h.dz (i := 21) (by omega)).up (by omega))
  have za : Zf 23 a := a2.z ((h.dz (i := 21) (by omega)).up (by omega)) (by omega)
  have zb : Zf 27 a := za.up (by omega)
  refine ⟨_, ?_, a2.re (dz_1 h (by omega)).symm (dz_5 zb)⟩
  unfold N9_20
  rw [lt_pos, b1_pos a1]
  rfl
theorem n9_85 {d : DA} (h : Zf 86 d) : ∃ e, N9_85 d = some e ∧ Nt 86 d e := by
  obtain ⟨a, a1, a2⟩ := n8_86 ((h.dz (i := 86) (by omega)).up (by omega))
  have za : Zf 88 a := a2.z ((h.dz (i := 86) (by omega)).up (by omega)) (by omega)
  have zb : Zf 92 a := za.up (by omega)
  refine ⟨_, ?_, a2.re (dz_1 h (by omega)).symm (dz_5 zb)⟩
  unfold N9_85
  rw [lt_pos, b1_pos a1]
  rfl

/-! ===== the beginning ===== -/
/-- nothing stands from n on -/
def Zf (n : Nat) (d : DA) : Prop := ∀ c, n ≤ c → d.1 c = fun _ => 0
theorem Zf.up {n m : Nat} {d : DA} (h : Zf n d) (hm : n ≤ m) : Zf m d := fun c hc => h c (by omega)
theorem Zf.eq {n : Nat} {d e : DA} (h : Zf n d) (he : e.1 = d.1) : Zf n e := fun c hc => by rw [he]; exact h c hc
theorem dz_1 {n i : Nat} {d : DA} (h : Zf n d) (hi : n ≤ i) : (dz d i).1 = d.1 := funext fun c => by
  show fu d.1 i (fun _ => 0) c = d.1 c
  rw [fu_app]
  by_cases e : c = i
  · subst e; rw [if_pos rfl, h c hi]
  · rw [if_neg e]
theorem Zf.dz {n i : Nat} {d : DA} (h : Zf n d) (hi : n ≤ i) : Zf n (dz d i) := h.eq (dz_1 h hi)
theorem Zf.wI {n c j : Nat} {d : DA} {v : Int} (h : Zf n d) (hc : c < n) : Zf n (wI d c j v) := fun a ha => by rw [wI_ne (by omega)]; exact h a ha
theorem wI_1 {d e : DA} {c j : Nat} {v : Int} (h : d.1 = e.1) : (wI d c j v).1 = (wI e c j v).1 := funext fun a => by
  by_cases z : a = c
  · subst z; rw [wI_at, wI_at, h]
  · rw [wI_ne z, wI_ne z, h]
/-- five fresh rows are nothing new -/
theorem dz_5 {n : Nat} {d : DA} (h : Zf n d) : (dz (dz (dz (dz (dz d n) (n + 1)) (n + 2)) (n + 3)) (n + 4)).1 = d.1 := by
  have h1 := h.dz (i := n) (Nat.le_refl _)
  have h2 := h1.dz (i := n + 1) (by omega)
  have h3 := h2.dz (i := n + 2) (by omega)
  have h4 := h3.dz (i := n + 3) (by omega)
  rw [dz_1 h4 (by omega), dz_1 h3 (by omega), dz_1 h2 (by omega), dz_1 h1 (by omega), dz_1 h (by omega)]
/-- a new table -/
def Nt (t : Nat) (d e : DA) : Prop := (∀ c, c ≠ t → c ≠ t + 1 → e.1 c = d.1 c) ∧ e.1 t = fu (d.1 t) 0 1 ∧ e.1 (t + 1) = fu (fun _ => 0) 0 1
theorem Nt.of {t : Nat} {d e : DA} (h : Zf (t + 1) d) (he : e.1 = (wI (wI d t 0 1) (t + 1) 0 1).1) : Nt t d e := by
  refine ⟨fun c z1 z2 => by rw [he, wI_ne z2, wI_ne z1], by rw [he, wI_ne (by omega), wI_at], by rw [he, wI_at, wI_ne (by omega), h (t + 1) (Nat.le_refl _)]⟩
theorem Nt.z {t n : Nat} {d e : DA} (h : Nt t d e) (hz : Zf n d) (hn : t + 2 ≤ n) : Zf n e := fun c hc => by rw [h.1 c (by omega) (by omega)]; exact hz c hc
theorem n8_5 {d : DA} (h : Zf 6 d) : ∃ e, N8_5 d = some e ∧ Nt 5 d e := ⟨_, rfl, Nt.of h (wI_1 (wI_1 (dz_5 h)))⟩
theorem n8_20 {d : DA} (h : Zf 21 d) : ∃ e, N8_20 d = some e ∧ Nt 20 d e := ⟨_, rfl, Nt.of h (wI_1 (wI_1 (dz_5 h)))⟩
theorem n8_32 {d : DA} (h : Zf 33 d) : ∃ e, N8_32 d = some e ∧ Nt 32 d e := ⟨_, rfl, Nt.of h (wI_1 (wI_1 (dz_5 h)))⟩
theorem n8_38 {d : DA} (h : Zf 39 d) : ∃ e, N8_38 d = some e ∧ Nt 38 d e := ⟨_, rfl, Nt.of h (wI_1 (wI_1 (dz_5 h)))⟩
theorem n8_85 {d : DA} (h : Zf 86 d) : ∃ e, N8_85 d = some e ∧ Nt 85 d e := ⟨_, rfl, Nt.of h (wI_1 (wI_1 (dz_5 h)))⟩
theorem n9_11 {d : DA} (h : Zf 12 d) : ∃ e, N9_11 d = some e ∧ e.1 = d.1 := ⟨_, rfl, dz_5 h⟩
theorem n9_26 {d : DA} (h : Zf 27 d) : ∃ e, N9_26 d = some e ∧ e.1 = d.1 := ⟨_, rfl, dz_5 h⟩
theorem n9_91 {d : DA} (h : Zf 92 d) : ∃ e, N9_91 d = some e ∧ e.1 = d.1 := ⟨_, rfl, dz_5 h⟩

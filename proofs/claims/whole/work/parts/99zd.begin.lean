/-! ===== the beginning: the reference ===== -/
def Mw (e : DA) : Prop := (∀ j, j ≠ 1 → j ≠ 4 → j ≠ 30 → e.1 113 j = 0) ∧ e.1 113 1 = 1 ∧ e.1 113 4 = 7 ∧ e.1 113 30 = -1 ∧ e.1 114 = fu (fun _ => 0) 0 1 ∧ (∀ j, j < 729 → e.1 117 j = 0) ∧ (∀ j, j < 27 → e.1 118 j = 0) ∧ (∀ j, j < 5 → e.1 119 j = 1) ∧ ∀ c, 115 ≤ c → c ≠ 117 → c ≠ 118 → c ≠ 119 → e.1 c = fun _ => 0
theorem n12_113 {d : DA} (h : Zf 113 d) : ∃ e, N12_113 d = some e ∧ (∀ c, c < 113 → e.1 c = d.1 c) ∧ Mw e := by
  have z1 : Zf 114 (wI (wI d 113 1 1) 113 4 7) := ((h.up (m := 114) (by omega)).wI (by omega)).wI (by omega)
  generalize hA : wI (wI d 113 1 1) 113 4 7 = a at z1
  have o2 : (dzl [114, 115, 116, 117, 118, 119, 120, 121, 122, 123, 124, 125, 126] a).1 = a.1 := dzl_1 (n := 114) _ _ z1 (by decide)
  generalize hB : dzl [114, 115, 116, 117, 118, 119, 120, 121, 122, 123, 124, 125, 126] a = b at o2
  have z3 : Zf 114 (wI b 113 30 (-1)) := (z1.eq o2).wI (by omega)
  generalize hC : wI b 113 30 (-1) = c at z3
  have o4 : (dzl [127, 128, 129, 130, 131, 132, 133, 134, 135, 136, 137, 138, 139, 140, 141, 142, 143, 144, 145, 146, 147, 148, 149, 150, 151, 152, 153, 154, 155, 156, 157, 158, 159, 160] c).1 = c.1 := dzl_1 (n := 114) _ _ z3 (by decide)
  generalize hD : dzl [127, 128, 129, 130, 131, 132, 133, 134, 135, 136, 137, 138, 139, 140, 141, 142, 143, 144, 145, 146, 147, 148, 149, 150, 151, 152, 153, 154, 155, 156, 157, 158, 159, 160] c = e at o4
  obtain ⟨⟨u, f⟩, r1, f1, -, ⟨f2, f3, f4, f5⟩, f6, f7, f8⟩ := x12_fresh (d := wI e 114 0 1)
  have fo : ∀ a j, a ≠ 113 → a ≠ 114 → a ≠ 117 → a ≠ 118 → a ≠ 119 → f.1 a j = d.1 a j := fun a j y1 y2 y3 y4 y5 => by
    have : f.1 a j = (wI e 114 0 1).1 a j := f1 a j y1 y3 y4 y5
    rw [this, wI_ne y2, o4, ← hC, wI_ne y1, o2, ← hA, wI_ne y1, wI_ne y1]
  have e113 : ∀ j, (wI e 114 0 1).1 113 j = fu (fu (fu (fun _ => 0) 1 1) 4 7) 30 (-1) j := fun j => by
    rw [wI_ne (by decide), o4, ← hC, wI_at, o2, ← hA, wI_at, wI_at, h 113 (by omega)]
  refine ⟨f, ?_, fun a ha => funext fun j => fo a j (by omega) (by omega) (by omega) (by omega) (by omega), fun j y1 y2 y3 => ?_, ?_, ?_, ?_, funext fun j => ?_, f6, f7, f8, fun a y1 y2 y3 y4 => funext fun j => ?_⟩
  · unfold N12_113
    have r1' : X12_fresh 113 (wI (dzl [127, 128, 129, 130, 131, 132, 133, 134, 135, 136, 137, 138, 139, 140, 141, 142, 143, 144, 145, 146, 147, 148, 149, 150, 151, 152, 153, 154, 155, 156, 157, 158, 159, 160] (wI (dzl [114, 115, 116, 117, 118, 119, 120, 121, 122, 123, 124, 125, 126] (wI (wI d 113 1 1) 113 4 7)) 113 30 (-1))) 114 0 1) = some (u, f) := by rw [hA, hB, hC, hD]; exact r1
    repeat rw [lt_pos]
    rw [gd_pos (by omega)]
    exact bd_pos r1'
  · by_cases c13 : j = 13
    · subst c13; exact f2
    · by_cases c18 : j = 18
      · subst c18; exact f3
      · by_cases c19 : j = 19
        · subst c19; exact f4
        · have : f.1 113 j = (wI e 114 0 1).1 113 j := f5 j c13 c18 c19
          rw [this, e113, fu_n y3, fu_n y2, fu_n y1]
  · have : f.1 113 1 = (wI e 114 0 1).1 113 1 := f5 1 (by decide) (by decide) (by decide)
    rw [this, e113]; rfl
  · have : f.1 113 4 = (wI e 114 0 1).1 113 4 := f5 4 (by decide) (by decide) (by decide)
    rw [this, e113]; rfl
  · have : f.1 113 30 = (wI e 114 0 1).1 113 30 := f5 30 (by decide) (by decide) (by decide)
    rw [this, e113]; rfl
  · have : f.1 114 j = (wI e 114 0 1).1 114 j := f1 114 j (by decide) (by decide) (by decide) (by decide)
    rw [this, wI_at, o4, z3 114 (by omega)]
  · rw [fo a j (by omega) (by omega) y2 y3 y4, h a (by omega)]
def Nu (e : DA) : Prop := Ns 2 e ∧ Ns 17 e ∧ e.1 1 = fu (fun _ => 0) 8 (-1) ∧ e.1 33 = fu (fun _ => 0) 0 1 ∧ e.1 46 = fu (fun _ => 0) 1 1 ∧ (e.1 54 = fun _ => 0) ∧ (e.1 58 0 = 7 ∧ ∀ j, 1 ≤ j → j < 7 → (1 ≤ e.1 59 j ∧ e.1 59 j < 7) ∧ (7 : Int) ∣ (j : Int) * e.1 59 j - 1) ∧ (e.1 61 = fun _ => 0) ∧ (e.1 68 2 = 0 ∧ ∀ j, j < 5 → e.1 69 j = -1) ∧ (e.1 81 = fun _ => 0)
theorem n_law : ∃ e, N_law dN0 = some e ∧ Nu e ∧ Mw e := by
  have z0 : Zf 1 dN0 := fun c _ => rfl
  obtain ⟨a, r1, n1⟩ := n11_1 (z0.dz (i := 1) (by omega))
  have z1 : Zf 113 a := n1.2.2.2.2.2.2.2.2.2.2
  obtain ⟨b, r2, o2, m2⟩ := n12_113 (z1.dz (i := 113) (by omega))
  have o2' : ∀ c, c < 113 → b.1 c = a.1 c := fun c hc => by rw [o2 c hc, dz_1 z1 (by omega)]
  have o3 : ∀ c, c ≠ 161 → (dz b 161).1 c = b.1 c := fun c y => by
    show fu b.1 161 (fun _ => 0) c = b.1 c
    rw [fu_n y]
  have o3' : (dz b 161).1 161 = fun _ => 0 := by
    show fu b.1 161 (fun _ => 0) 161 = _
    rw [fu_s]
  refine ⟨dz b 161, ?_, ?_, ?_⟩
  · unfold N_law
    rw [lt_pos, b1_pos r1, lt_pos, b1_pos r2, lt_pos]
  · obtain ⟨a1, a2, a3, a4, a5, a6, a7, a8, a9, a10, a11⟩ := n1
    have g : ∀ c, c < 113 → (dz b 161).1 c = a.1 c := fun c hc => by rw [o3 c (by omega), o2' c hc]
    unfold Nu
    rw [g 1 (by omega), g 33 (by omega), g 46 (by omega), g 54 (by omega), g 58 (by omega), g 59 (by omega), g 61 (by omega), g 68 (by omega), g 69 (by omega), g 81 (by omega)]
    exact ⟨a1.eq (fun c y1 y2 => g c (by omega)), a2.eq (fun c y1 y2 => g c (by omega)), a3, a4, a5, a6, a7, a8, a9, a10⟩
  · obtain ⟨b1, b2, b3, b4, b5, b6, b7, b8, b9⟩ := m2
    unfold Mw
    rw [o3 113 (by decide), o3 114 (by decide), o3 117 (by decide), o3 118 (by decide), o3 119 (by decide)]
    refine ⟨b1, b2, b3, b4, b5, b6, b7, b8, fun c y1 y2 y3 y4 => ?_⟩
    by_cases c161 : c = 161
    · subst c161; exact o3'
    · rw [o3 c c161]; exact b9 c y1 y2 y3 y4

/-! ===== the beginning: states ===== -/
/-- a new state of the class -/
def Ns (o : Nat) (e : DA) : Prop := e.1 (o + 3) 0 = 1 ∧ e.1 (o + 4) = fu (fun _ => 0) 0 1 ∧ e.1 o 5 = 7 ∧ e.1 o 4 = 0 ∧ e.1 o 6 = 0 ∧ e.1 o 7 = 0 ∧ (∀ j, j < 5 → e.1 (o + 1) j = 1) ∧ TrB (e.1 (o + 4)) 1 27 (e.1 (o + 10)) (e.1 (o + 11))
theorem Ns.eq {o : Nat} {d e : DA} (h : Ns o d) (he : ∀ c, o ≤ c → c ≤ o + 11 → e.1 c = d.1 c) : Ns o e := by
  unfold Ns at h ⊢
  rw [he o (by omega) (by omega), he (o + 1) (by omega) (by omega), he (o + 3) (by omega) (by omega), he (o + 4) (by omega) (by omega), he (o + 10) (by omega) (by omega), he (o + 11) (by omega) (by omega)]
  exact h
theorem x6_forget {d : DA} {o : Nat} (h1 : d.1 (o + 3) 0 = 1) (hn : Nb d (o + 3)) : ∃ e, X6_forgetTold o d = some ((), e) ∧ (∀ c, c ≠ o → c ≠ o + 1 → c ≠ o + 10 → c ≠ o + 11 → e.1 c = d.1 c) ∧ e.1 o = fu (d.1 o) 4 0 ∧ (∀ j, j < 5 → e.1 (o + 1) j = 1) ∧ TrB (d.1 (o + 4)) 1 27 (e.1 (o + 10)) (e.1 (o + 11)) := by
  obtain ⟨⟨u, D⟩, e1, hB, hT⟩ := x9_begin (d := d) (o := o + 9) (r := 1) (by omega) (by rw [show o + 9 - 6 = o + 3 by omega]; exact h1) (by omega) (by rw [show o + 9 - 6 = o + 3 by omega]; exact hn)
  have hB' : B2 (o + 10) (o + 11) d D := hB
  have hT' := hT (by omega)
  rw [show o + 9 - 6 + 1 = o + 4 by omega] at hT'
  have hT9 : TrB (d.1 (o + 4)) 1 27 (D.1 (o + 10)) (D.1 (o + 11)) := hT'
  refine ⟨wI (wA D (o + 1) (pre (D.1 (o + 1)) (fun _ => 1) 5)) o 4 0, ?_, fun c z1 z2 z3 z4 => ?_, ?_, fun j hj => ?_, ?_⟩
  · unfold X6_forgetTold
    rw [bd_pos e1, bd_pos (fillI (by omega)), lt_pos]
  · rw [wI_ne z1, wA_ne z2, hB'.2 c z3 z4]
  · rw [wI_at, wA_ne (by omega), hB'.2 o (by omega) (by omega)]
  · rw [wI_ne (by omega), wA_at, pre_lt hj]
  · rw [wI_ne (by omega), wA_ne (by omega), wI_ne (by omega), wA_ne (by omega)]; exact hT9
theorem nb_one {d : DA} {t : Nat} (h : d.1 (t + 1) = fu (fun _ => 0) 0 1) : Nb d t := fun j hj => by
  rw [h, fu_app]
  by_cases c : j = 0
  · rw [if_pos c]; omega
  · rw [if_neg c]; omega
/-- a state made, from the writes -/
theorem ns_of {d a b : DA} {o : Nat} (hz : Zf o d) (ha : ∃ a0 : DA, a0.1 = d.1 ∧ Nt (o + 3) a0 a) (hb : b.1 = (wI a o 5 7).1) : ∃ e, X6_forgetTold o b = some ((), e) ∧ (∀ c, c < o → e.1 c = d.1 c) ∧ Zf (o + 12) e ∧ Ns o e := by
  obtain ⟨a0, a1, n1, n2, n3⟩ := ha
  have bo : ∀ c, c ≠ o → b.1 c = a.1 c := fun c z => by rw [hb, wI_ne z]
  have b3 : b.1 (o + 3) 0 = 1 := by rw [bo _ (by omega), n2, fu_s]
  have b4 : b.1 (o + 4) = fu (fun _ => 0) 0 1 := by rw [bo _ (by omega)]; exact n3
  have b0 : b.1 o = fu (fun _ => 0) 5 7 := by rw [hb, wI_at, n1 o (by omega) (by omega), a1, hz o (Nat.le_refl _)]
  obtain ⟨e, e1, eo, e2, e3, e4⟩ := x6_forget b3 (nb_one (t := o + 3) b4)
  refine ⟨e, e1, fun c hc => by rw [eo c (by omega) (by omega) (by omega) (by omega), bo c (by omega), n1 c (by omega) (by omega), a1], fun c hc => by rw [eo c (by omega) (by omega) (by omega) (by omega), bo c (by omega), n1 c (by omega) (by omega), a1]; exact hz c (by omega), ?_, ?_, ?_, ?_, ?_, ?_, e3, ?_⟩
  · rw [eo _ (by omega) (by omega) (by omega) (by omega)]; exact b3
  · rw [eo _ (by omega) (by omega) (by omega) (by omega)]; exact b4
  · rw [e2, b0]; rfl
  · rw [e2, b0]; rfl
  · rw [e2, b0]; rfl
  · rw [e2, b0]; rfl
  · rw [eo (o + 4) (by omega) (by omega) (by omega) (by omega)]; exact e4
theorem n6_2 {d : DA} (h : Zf 2 d) : ∃ e, N6_2 d = some e ∧ (∀ c, c < 2 → e.1 c = d.1 c) ∧ Zf 14 e ∧ Ns 2 e := by
  have z3 := h.dz (i := 3) (by omega)
  have z4 := z3.dz (i := 4) (by omega)
  have z5 := z4.dz (i := 5) (by omega)
  have q5 : (dz (dz (dz d 3) 4) 5).1 = d.1 := by rw [dz_1 z4 (by omega), dz_1 z3 (by omega), dz_1 h (by omega)]
  obtain ⟨a, a1, a2⟩ := n9_5 (z5.up (by omega))
  have a3 : Nt 5 (dz (dz (dz d 3) 4) 5) (dr9 5 a) := a2.rn (z5.up (by omega))
  obtain ⟨e, e1, e2, e3, e4⟩ := ns_of (o := 2) (b := wI (dr9 5 a) 2 5 7) h ⟨_, q5, a3⟩ rfl
  refine ⟨e, ?_, e2, e3, e4⟩
  unfold N6_2
  rw [lt_pos, lt_pos, lt_pos, b1_pos a1, lt_pos, lt_pos, bd_pos e1]
theorem n6_17 {d : DA} (h : Zf 17 d) : ∃ e, N6_17 d = some e ∧ (∀ c, c < 17 → e.1 c = d.1 c) ∧ Zf 29 e ∧ Ns 17 e := by
  have z3 := h.dz (i := 18) (by omega)
  have z4 := z3.dz (i := 19) (by omega)
  have z5 := z4.dz (i := 20) (by omega)
  have q5 : (dz (dz (dz d 18) 19) 20).1 = d.1 := by rw [dz_1 z4 (by omega), dz_1 z3 (by omega), dz_1 h (by omega)]
  obtain ⟨a, a1, a2⟩ := n9_20 (z5.up (by omega))
  have a3 : Nt 20 (dz (dz (dz d 18) 19) 20) (dr9 20 a) := a2.rn (z5.up (by omega))
  obtain ⟨e, e1, e2, e3, e4⟩ := ns_of (o := 17) (b := wI (dr9 20 a) 17 5 7) h ⟨_, q5, a3⟩ rfl
  refine ⟨e, ?_, e2, e3, e4⟩
  unfold N6_17
  rw [lt_pos, lt_pos, lt_pos, b1_pos a1, lt_pos, lt_pos, bd_pos e1]

/-! ===== the beginning: the class ===== -/
def dzl : List Nat → DA → DA
  | [], d => d
  | i :: l, d => dzl l (dz d i)
theorem dzl_1 {n : Nat} : ∀ (l : List Nat) (d : DA), Zf n d → (∀ i, i ∈ l → n ≤ i) → (dzl l d).1 = d.1 := by
  intro l
  induction l with
  | nil => intro d _ _; rfl
  | cons i l ih =>
    intro d h hl
    show (dzl l (dz d i)).1 = d.1
    rw [ih (dz d i) (h.dz (hl i (List.mem_cons_self ..))) (fun j hj => hl j (List.mem_cons_of_mem _ hj)), dz_1 h (hl i (List.mem_cons_self ..))]
/-- what the new object holds -/
def Nw (e : DA) : Prop := Ns 2 e ∧ Ns 17 e ∧ e.1 1 = fu (fun _ => 0) 8 (-1) ∧ e.1 33 = fu (fun _ => 0) 0 1 ∧ e.1 46 = fu (fun _ => 0) 1 1 ∧ (e.1 54 = fun _ => 0) ∧ (e.1 58 0 = 7 ∧ ∀ j, 1 ≤ j → j < 7 → (1 ≤ e.1 59 j ∧ e.1 59 j < 7) ∧ (7 : Int) ∣ (j : Int) * e.1 59 j - 1) ∧ (e.1 61 = fun _ => 0) ∧ (e.1 68 2 = 0 ∧ ∀ j, j < 5 → e.1 69 j = -1) ∧ (e.1 81 = fun _ => 0) ∧ Zf 113 e
theorem Nw.eq {d e : DA} (h : Nw d) (he : e.1 = d.1) : Nw e := by
  unfold Nw Ns Zf at h ⊢
  rw [he]; exact h
theorem n11_1 {d : DA} (h : Zf 1 d) : ∃ e, N11_1 d = some e ∧ Nw e := by
  obtain ⟨e1, r1, o1, z1, s1⟩ := n6_2 ((h.dz (i := 2) (by omega)).up (by omega))
  have q1 : e1.1 1 = fun _ => 0 := by rw [o1 1 (by omega), dz_1 h (by omega)]; exact h 1 (by omega)
  obtain ⟨e2, r2, o2, z2, s2⟩ := n6_17 ((z1.dz (i := 17) (by omega)).up (by omega))
  have o2' : ∀ c, c < 17 → e2.1 c = e1.1 c := fun c hc => by rw [o2 c hc, dz_1 z1 (by omega)]
  have z2d := z2.dz (i := 32) (by omega)
  obtain ⟨e3, r3, o3⟩ := n8_32 (z2d.up (by omega))
  have z3 : Zf 34 e3 := o3.z (z2d.up (by omega)) (by omega)
  have o3' : ∀ c, c ≠ 32 → c ≠ 33 → e3.1 c = e2.1 c := fun c y1 y2 => by rw [o3.1 c y1 y2, dz_1 z2 (by omega)]
  have z3d := z3.dz (i := 38) (by omega)
  obtain ⟨e4, r4, o4⟩ := n8_38 (z3d.up (by omega))
  have z4 : Zf 40 e4 := o4.z (z3d.up (by omega)) (by omega)
  have o4' : ∀ c, c ≠ 38 → c ≠ 39 → e4.1 c = e3.1 c := fun c y1 y2 => by rw [o4.1 c y1 y2, dz_1 z3 (by omega)]
  have z5 : Zf 40 (wI (dz e4 44) 1 8 (-1)) := (z4.dz (by omega)).wI (by omega)
  have o5 : ∀ c, c ≠ 1 → (wI (dz e4 44) 1 8 (-1)).1 c = e4.1 c := fun c y => by rw [wI_ne y, dz_1 z4 (by omega)]
  have q5 : (wI (dz e4 44) 1 8 (-1)).1 1 = fu (e4.1 1) 8 (-1) := by rw [wI_at, dz_1 z4 (by omega)]
  generalize hE5 : wI (dz e4 44) 1 8 (-1) = e5 at z5 o5 q5
  have z5a : Zf 40 (dz (dz e5 45) 46) := (z5.dz (by omega)).dz (by omega)
  have o5a : (dz (dz e5 45) 46).1 = e5.1 := by rw [dz_1 (z5.dz (by omega)) (by omega), dz_1 z5 (by omega)]
  have z5b : Zf 47 (wI (dz (dz e5 45) 46) 46 1 1) := (z5a.up (by omega)).wI (by omega)
  have o5b : ∀ c, c ≠ 46 → (wI (dz (dz e5 45) 46) 46 1 1).1 c = e5.1 c := fun c y => by rw [wI_ne y, o5a]
  have q5b : (wI (dz (dz e5 45) 46) 46 1 1).1 46 = fu (fun _ => 0) 1 1 := by rw [wI_at, o5a, z5 46 (by omega)]
  generalize hE6 : wI (dz (dz e5 45) 46) 46 1 1 = e6 at z5b o5b q5b
  have o6 : (dzl [47, 48, 49, 50, 51, 52, 53, 54, 55, 56, 57, 58, 59, 60] e6).1 = e6.1 := dzl_1 (n := 47) _ _ z5b (by decide)
  have p7 : PG 7 := by unfold PG; decide
  obtain ⟨⟨u7, e7⟩, r7, o7, q7, -, n7⟩ := x3_begin (d := dzl [47, 48, 49, 50, 51, 52, 53, 54, 55, 56, 57, 58, 59, 60] e6) p7
  have o7' : ∀ c, c ≠ 58 → c ≠ 59 → e7.1 c = e6.1 c := fun c y1 y2 => by rw [← o6]; exact o7 c y1 y2
  have q7' : e7.1 58 0 = 7 := by
    have : e7.1 58 = fu ((dzl [47, 48, 49, 50, 51, 52, 53, 54, 55, 56, 57, 58, 59, 60] e6).1 58) 0 ((7 : Nat) : Int) := q7
    rw [this, fu_s]; rfl
  have z7 : Zf 60 e7 := fun c hc => by rw [o7' c (by omega) (by omega)]; exact z5b c (by omega)
  have o8 : (dzl [61, 62, 63, 64, 65, 66, 67, 68, 69, 70, 71, 72, 73, 74, 75, 76, 77, 78, 79, 80] e7).1 = e7.1 := dzl_1 (n := 61) _ _ (z7.up (by omega)) (by decide)
  generalize hE8 : dzl [61, 62, 63, 64, 65, 66, 67, 68, 69, 70, 71, 72, 73, 74, 75, 76, 77, 78, 79, 80] e7 = d8 at o8
  have r8 : X10_forget 68 d8 = some ((), wI (wA d8 69 (pre (d8.1 69) (fun _ => -1) 5)) 68 2 0) := x10_forget
  have o8' : ∀ c, c ≠ 68 → c ≠ 69 → (wI (wA d8 69 (pre (d8.1 69) (fun _ => -1) 5)) 68 2 0).1 c = e7.1 c := fun c y1 y2 => by rw [wI_ne y1, wA_ne y2, o8]
  have q8 : (wI (wA d8 69 (pre (d8.1 69) (fun _ => -1) 5)) 68 2 0).1 68 2 = 0 := rfl
  have q8' : ∀ j, j < 5 → (wI (wA d8 69 (pre (d8.1 69) (fun _ => -1) 5)) 68 2 0).1 69 j = -1 := fun j hj => by rw [wI_ne (by decide), wA_at, pre_lt hj]
  generalize hE9 : wI (wA d8 69 (pre (d8.1 69) (fun _ => -1) 5)) 68 2 0 = e8 at r8 o8' q8 q8'
  have z8 : Zf 70 e8 := fun c hc => by rw [o8' c (by omega) (by omega)]; exact z7 c (by omega)
  have o9 : (dzl [81, 82, 83, 84, 85] e8).1 = e8.1 := dzl_1 (n := 81) _ _ (z8.up (by omega)) (by decide)
  generalize hE10 : dzl [81, 82, 83, 84, 85] e8 = d9 at o9
  obtain ⟨e9, r9, n9⟩ := n9_85 (d := d9) ((z8.eq o9).up (by omega))
  have n10 : Nt 85 d9 (dr9 85 e9) := n9.rn ((z8.eq o9).up (by omega))
  generalize hE11 : dr9 85 e9 = e10 at n10
  have z10 : Zf 87 e10 := n10.z ((z8.eq o9).up (by omega)) (by omega)
  have o11 : (dzl [97, 98, 99, 100, 101, 102, 103, 104, 105, 106, 107, 108, 109, 110, 111, 112] e10).1 = e10.1 := dzl_1 (n := 97) _ _ (z10.up (by omega)) (by decide)
  have f9 : ∀ c, c ≠ 85 → c ≠ 86 → (dzl [97, 98, 99, 100, 101, 102, 103, 104, 105, 106, 107, 108, 109, 110, 111, 112] e10).1 c = e8.1 c := fun c y1 y2 => by rw [o11, n10.1 c y1 y2, o9]
  have z11 : Zf 113 (dzl [97, 98, 99, 100, 101, 102, 103, 104, 105, 106, 107, 108, 109, 110, 111, 112] e10) := (z10.eq o11).up (by omega)
  refine ⟨dzl [97, 98, 99, 100, 101, 102, 103, 104, 105, 106, 107, 108, 109, 110, 111, 112] e10, ?_, ?_⟩
  · have r6 : N3_58 (dzl [47, 48, 49, 50, 51, 52, 53, 54, 55, 56, 57, 58] e6) = some e7 := by
      unfold N3_58
      have r7' : X3_begin 58 (7 : Int) (dz (dz (dzl [47, 48, 49, 50, 51, 52, 53, 54, 55, 56, 57, 58] e6) 59) 60) = some (u7, e7) := r7
      rw [lt_pos, lt_pos, bd_pos r7']
    have r68 : N10_68 (dzl [61, 62, 63, 64, 65, 66, 67, 68] e7) = some e8 := by
      unfold N10_68
      have r8' : X10_forget 68 (dzl [69, 70, 71, 72, 73, 74, 75, 76, 77, 78, 79, 80] (dzl [61, 62, 63, 64, 65, 66, 67, 68] e7)) = some ((), e8) := by
        rw [← r8, ← hE8]; rfl
      rw [lt_pos, lt_pos, lt_pos, lt_pos, lt_pos, lt_pos, lt_pos, lt_pos, lt_pos, lt_pos, lt_pos, lt_pos]
      exact bd_pos r8'
    have r81 : N5_81 (dz e8 81) = some (dzl [97, 98, 99, 100] e10) := by
      unfold N5_81
      have r9' : N9_85 (dz (dz (dz (dz (dz e8 81) 82) 83) 84) 85) = some e9 := by rw [← r9, ← hE10]; rfl
      rw [lt_pos, lt_pos, lt_pos, lt_pos, b1_pos r9', lt_pos, hE11]
      rfl
    unfold N11_1
    rw [lt_pos, b1_pos r1, lt_pos, b1_pos r2, lt_pos, b1_pos r3, lt_pos, b1_pos r4, lt_pos, lt_pos, hE5, lt_pos]
    have t1 : N4_45 (dz e5 45) = some (dz e5 45) := rfl
    have t2 : N2_46 (dz (dz e5 45) 46) = some (dzl [47, 48, 49, 50, 51, 52, 53] e6) := by rw [← hE6]; rfl
    have t3 : N7_54 (dz (dzl [47, 48, 49, 50, 51, 52, 53] e6) 54) = some (dzl [47, 48, 49, 50, 51, 52, 53, 54, 55, 56, 57] e6) := rfl
    have t4 : N3_58 (dz (dzl [47, 48, 49, 50, 51, 52, 53, 54, 55, 56, 57] e6) 58) = some e7 := r6
    have t5 : N1_61 (dz e7 61) = some (dzl [61, 62, 63, 64, 65, 66, 67] e7) := rfl
    have t6 : N10_68 (dz (dzl [61, 62, 63, 64, 65, 66, 67] e7) 68) = some e8 := r68
    have t7 : N0_101 (dz (dzl [97, 98, 99, 100] e10) 101) = some (dzl [97, 98, 99, 100, 101, 102, 103, 104, 105, 106, 107, 108, 109, 110, 111, 112] e10) := rfl
    rw [b1_pos t1, lt_pos, b1_pos t2, lt_pos, b1_pos t3, lt_pos, b1_pos t4, lt_pos, b1_pos t5, lt_pos, b1_pos t6, lt_pos, b1_pos r81, lt_pos, b1_pos t7]
  · generalize dzl [97, 98, 99, 100, 101, 102, 103, 104, 105, 106, 107, 108, 109, 110, 111, 112] e10 = e at f9 z11
    have g6 : ∀ c, c < 58 → e.1 c = e6.1 c := fun c hc => by rw [f9 c (by omega) (by omega), o8' c (by omega) (by omega), o7' c (by omega) (by omega)]
    have g5 : ∀ c, c < 58 → c ≠ 46 → e.1 c = e5.1 c := fun c hc y => by rw [g6 c hc, o5b c y]
    have g2 : ∀ c, 1 < c → c < 32 → e.1 c = e2.1 c := fun c y1 y2 => by rw [g5 c (by omega) (by omega), o5 c (by omega), o4' c (by omega) (by omega), o3' c (by omega) (by omega)]
    refine ⟨s1.eq (fun c y1 y2 => by rw [g2 c (by omega) (by omega), o2' c (by omega)]), s2.eq (fun c y1 y2 => g2 c (by omega) (by omega)), ?_, ?_, ?_, ?_, ⟨?_, fun j j1 j2 => ?_⟩, ?_, ⟨?_, fun j hj => ?_⟩, ?_, z11⟩
    · rw [g5 1 (by omega) (by omega), q5, o4' 1 (by omega) (by omega), o3' 1 (by omega) (by omega), o2' 1 (by omega), q1]
    · rw [g5 33 (by omega) (by omega), o5 33 (by omega), o4' 33 (by omega) (by omega)]; exact o3.2.2
    · rw [g6 46 (by omega)]; exact q5b
    · rw [g5 54 (by omega) (by omega)]; exact z5 54 (by omega)
    · rw [f9 58 (by omega) (by omega), o8' 58 (by omega) (by omega)]; exact q7'
    · rw [f9 59 (by omega) (by omega), o8' 59 (by omega) (by omega)]; exact n7 j j1 j2
    · rw [f9 61 (by omega) (by omega), o8' 61 (by omega) (by omega)]; exact z7 61 (by omega)
    · rw [f9 68 (by omega) (by omega)]; exact q8
    · rw [f9 69 (by omega) (by omega)]; exact q8' j hj
    · rw [f9 81 (by omega) (by omega)]; exact z8 81 (by omega)

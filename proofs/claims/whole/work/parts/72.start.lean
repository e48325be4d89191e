/-! ===== the law's start: classes and constants ===== -/
abbrev fl9 : List Cond := flatC (Jvm.Cond.and given_1 narrow_1)
abbrev tmS (i : Nat) : Term := if i = 0 then Term.string "FuseKinds$Reader" 73 else Term.string "FuseKinds$Reader" 79
theorem st_ex : ∀ i, i < 2 → Cond.exactly (tmS i) "java/lang/String" ∈ fl9 := by decide +kernel
theorem st_co : ∀ i, i < 2 → Cond.eq (.field (tmS i) "java/lang/String" "coder" "B") (.int 0) ∈ fl9 := by decide +kernel
theorem st_ar : ∀ i, i < 2 → Cond.arrayOf (.field (tmS i) "java/lang/String" "value" "[B") .byte ∈ fl9 := by decide +kernel
theorem st_le : ∀ i, i < 2 → Cond.eq (.length (.field (tmS i) "java/lang/String" "value" "[B")) (.int (Int32.ofNat (strL.getD i 0))) ∈ fl9 := by decide +kernel
theorem st_el : ∀ i, i < 2 → ∀ j, j < strL.getD i 0 → Cond.eq (.elem (.field (tmS i) "java/lang/String" "value" "[B") (.int (Int32.ofNat j))) (.int ((strB.getD i []).getD j 0)) ∈ fl9 := by decide +kernel
theorem st_ne : Cond.not (Cond.eq (tmS 0) (tmS 1)) ∈ fl9 := by decide +kernel
theorem st_tx : ∀ q ∈ strT, Cond.stringRef q.1 q.2.1 q.2.2 ∈ tables_1 ∧ Cond.exactly (Term.string q.1 q.2.1) "java/lang/String" ∈ fl9 := by decide +kernel
theorem st_r4 : (Cond.stringRef "FuseKinds$Reader" 73 "rank" ∈ tables_1 ∧ Cond.stringRef "FuseKinds$Reader" 79 "none" ∈ tables_1) ∧ Cond.stringRef "FuseKindsModel" 274 "rank" ∈ tables_1 ∧ Cond.stringRef "FuseKindsModel" 265 "none" ∈ tables_1 := by decide +kernel
theorem st_e4 : Cond.eq (Term.string "FuseKinds$Reader" 73) (Term.string "FuseKindsModel" 274) ∈ fl9 ∧ Cond.eq (Term.string "FuseKinds$Reader" 79) (Term.string "FuseKindsModel" 265) ∈ fl9 := by decide +kernel
abbrev tmR : Term := Term.static "FuseKinds$Lister" "RENAMINGS" "[I"
theorem st_rA : Cond.arrayOf tmR .int ∈ fl9 := by decide +kernel
theorem st_rL : Cond.eq (.length tmR) (.int (Int32.ofNat 18)) ∈ fl9 := by decide +kernel
theorem st_rE : ∀ j, j < 18 → Cond.eq (.elem tmR (.int (Int32.ofNat j))) (.int (renT.getD j 0)) ∈ fl9 := by decide +kernel
theorem st_z : Cond.isRef (.static Bundle.tN "UNASSIGNED_STACK" Bundle.steD) ∈ fl9 ∧ Cond.isRef (.static Bundle.tN "SUPPRESSED_SENTINEL" Bundle.listD) ∈ fl9 ∧ Cond.isRef (.static "jdk/internal/util/Preconditions" "SIOOBE_FORMATTER" "Ljava/util/function/BiFunction;") ∈ fl9 ∧ Cond.eq (.static "java/lang/String" "COMPACT_STRINGS" "Z") (.int 1) ∈ fl9 := by decide +kernel
theorem st_l : Cond.laysStatic Bundle.tN "UNASSIGNED_STACK" Bundle.steD ∈ tables_1 ∧ Cond.laysStatic Bundle.tN "SUPPRESSED_SENTINEL" Bundle.listD ∈ tables_1 ∧ Cond.laysStatic "java/lang/String" "COMPACT_STRINGS" "Z" ∈ tables_1 ∧ Cond.laysStatic "FuseKinds$Lister" "RENAMINGS" "[I" ∈ tables_1 ∧ Cond.laysStatic "jdk/internal/util/Preconditions" "SIOOBE_FORMATTER" "Ljava/util/function/BiFunction;" ∈ tables_1 := by decide +kernel
theorem lw_G {s : State} {b : Nat} (hts : ∀ w ∈ lw_tbl, w.before #[Value.ref b] s = true) (hgv : (Jvm.Cond.and given_1 narrow_1).before #[Value.ref b] s = true) : ∃ G : GT, gz G = s.heap.size ∧ Kx G s ∧ Sf G s := by
  have hW : Wd s := Wd.of hts
  have hs : ∀ w ∈ fl9, w.before #[Value.ref b] s = true := flat_of_before _ hgv
  have ht1 : ∀ w ∈ tables_1, w.before #[Value.ref b] s = true := fun w hw => hts w (List.mem_append_right _ hw)
  have hU : ∀ k : Nat, ∃ z : ClassId × (Nat → Nat), ∀ q, vwCl[k]? = some q → u_Kn s q.1 q.2.1 q.2.2 z.1 z.2 := by
    intro k
    match k with
    | 0 =>
      obtain ⟨c9, i9, h9⟩ := u_known (C := RX0) (T := TX0) (N := 13) (n := 13) (args := #[]) (fun w hw => hW w hw #[]) inx0 (hW _ (am3 13 (by decide +kernel) rfl) #[])
      exact ⟨(c9, i9), fun q hq => by cases hq; exact h9⟩
    | 1 =>
      obtain ⟨c9, i9, h9⟩ := u_known (C := RX1) (T := TX1) (N := 8) (n := 8) (args := #[]) (fun w hw => hW w hw #[]) inx1 (hW _ (am2 100 (by decide +kernel) rfl) #[])
      exact ⟨(c9, i9), fun q hq => by cases hq; exact h9⟩
    | 2 =>
      obtain ⟨c9, i9, h9⟩ := u_known (C := RX2) (T := TX2) (N := 12) (n := 12) (args := #[]) (fun w hw => hW w hw #[]) inx2 (hW _ (am1 239 (by decide +kernel) rfl) #[])
      exact ⟨(c9, i9), fun q hq => by cases hq; exact h9⟩
    | 3 =>
      obtain ⟨c9, i9, h9⟩ := u_known (C := RX3) (T := TX3) (N := 3) (n := 3) (args := #[]) (fun w hw => hW w hw #[]) inx3 (hW _ (am2 70 (by decide +kernel) rfl) #[])
      exact ⟨(c9, i9), fun q hq => by cases hq; exact h9⟩
    | 4 =>
      obtain ⟨c9, i9, h9⟩ := u_known (C := RX4) (T := TX4) (N := 14) (n := 14) (args := #[]) (fun w hw => hW w hw #[]) inx4 (hW _ (am1 189 (by decide +kernel) rfl) #[])
      exact ⟨(c9, i9), fun q hq => by cases hq; exact h9⟩
    | 5 =>
      obtain ⟨c9, i9, h9⟩ := u_known (C := RX5) (T := TX5) (N := 13) (n := 13) (args := #[]) (fun w hw => hW w hw #[]) inx5 (hW _ (am2 201 (by decide +kernel) rfl) #[])
      exact ⟨(c9, i9), fun q hq => by cases hq; exact h9⟩
    | 6 =>
      obtain ⟨c9, i9, h9⟩ := u_known (C := RX6) (T := TX6) (N := 8) (n := 8) (args := #[]) (fun w hw => hW w hw #[]) inx6 (hW _ (am1 35 (by decide +kernel) rfl) #[])
      exact ⟨(c9, i9), fun q hq => by cases hq; exact h9⟩
    | 7 =>
      obtain ⟨c9, i9, h9⟩ := u_known (C := RX7) (T := TX7) (N := 5) (n := 5) (args := #[]) (fun w hw => hW w hw #[]) inx7 (hW _ (am2 43 (by decide +kernel) rfl) #[])
      exact ⟨(c9, i9), fun q hq => by cases hq; exact h9⟩
    | 8 =>
      obtain ⟨c9, i9, h9⟩ := u_known (C := RX8) (T := TX8) (N := 6) (n := 6) (args := #[]) (fun w hw => hW w hw #[]) inx8 (hW _ (am1 47 (by decide +kernel) rfl) #[])
      exact ⟨(c9, i9), fun q hq => by cases hq; exact h9⟩
    | 9 =>
      obtain ⟨c9, i9, h9⟩ := u_known (C := RX9) (T := TX9) (N := 8) (n := 8) (args := #[]) (fun w hw => hW w hw #[]) inx9 (hW _ (am1 41 (by decide +kernel) rfl) #[])
      exact ⟨(c9, i9), fun q hq => by cases hq; exact h9⟩
    | 10 =>
      obtain ⟨c9, i9, h9⟩ := u_known (C := RX10) (T := TX10) (N := 18) (n := 18) (args := #[]) (fun w hw => hW w hw #[]) inx10 (hW _ (am2 133 (by decide +kernel) rfl) #[])
      exact ⟨(c9, i9), fun q hq => by cases hq; exact h9⟩
    | 11 =>
      obtain ⟨c9, i9, h9⟩ := u_known (C := RX11) (T := TX11) (N := 17) (n := 17) (args := #[]) (fun w hw => hW w hw #[]) inx11 (hW _ (am1 27 (by decide +kernel) rfl) #[])
      exact ⟨(c9, i9), fun q hq => by cases hq; exact h9⟩
    | 12 =>
      obtain ⟨c9, i9, h9⟩ := u_known (C := RX12) (T := TX12) (N := 86) (n := 86) (args := #[]) (fun w hw => hW w hw #[]) inx12 (hW _ (am7 82 (by decide +kernel) rfl) #[])
      exact ⟨(c9, i9), fun q hq => by cases hq; exact h9⟩
    | k + 13 => exact ⟨(0, fun _ => 0), fun q hq => by simp [vwCl] at hq⟩
  obtain ⟨f, hf⟩ := Classical.axiomOfChoice hU
  obtain ⟨cI, kI, pI, i1, i2, i3⟩ := Cond.arrayClass_spec (hW _ arr_w #[])
  obtain ⟨cJ, kJ, pJ, j1, j2, j3⟩ := Cond.arrayClass_spec (hW _ arr_wJ #[])
  have hA : ∀ a : Nat, a < s.heap.size → ¬ (fun q : Nat => s.heap.size ≤ q) a := fun a h => Nat.not_le.mpr h
  obtain ⟨aK, aV, hvS, hvE⟩ := vk_Sof (args := #[Value.ref b]) (s := s) (N := 2) (tm := tmS) (len := strL) (byt := strB) (A := fun q : Nat => s.heap.size ≤ q) (by decide) (fun i hi => hs _ (st_ex i hi)) (fun i hi => hs _ (st_co i hi)) (fun i hi => hs _ (st_ar i hi)) (fun i hi => hs _ (st_le i hi)) (fun i hi j hj => hs _ (st_el i hi j hj)) (fun i j hi hj hij => by
    rcases (show (i = 0 ∧ j = 1) ∨ (i = 1 ∧ j = 0) by omega) with ⟨rfl, rfl⟩ | ⟨rfl, rfl⟩
    · exact Or.inl (hs _ st_ne)
    · exact Or.inr (hs _ st_ne)) hA
  obtain ⟨tR, hR1, hR2⟩ := va_Tof (args := #[Value.ref b]) (s := s) (tm := tmR) (ty := .int) (N := 18) (f := fun j => .int (renT.getD j 0)) (A := fun q : Nat => s.heap.size ≤ q) (by decide) (hs _ st_rA) (va_eqt (hs _ st_rL)) (fun j hj => va_eqt (hs _ (st_rE j hj))) hA
  have e0 : (Term.string "FuseKinds$Reader" 73).eval #[Value.ref b] s none [] s = some (.ref (aK 0)) := hvE 0 (by decide)
  have e1 : (Term.string "FuseKinds$Reader" 79).eval #[Value.ref b] s none [] s = some (.ref (aK 1)) := hvE 1 (by decide)
  have e2 : (Term.string "FuseKindsModel" 274).eval #[Value.ref b] s none [] s = some (.ref (aK 0)) := by
    obtain ⟨y, h1, h2⟩ := Cond.eq_one (hs _ st_e4.1)
    rw [h2, ← h1, e0]
  have e3 : (Term.string "FuseKindsModel" 265).eval #[Value.ref b] s none [] s = some (.ref (aK 1)) := by
    obtain ⟨y, h1, h2⟩ := Cond.eq_one (hs _ st_e4.2)
    rw [h2, ← h1, e1]
  refine ⟨(fun k => (f k).1, fun k => (f k).2, cI, cJ, s.heap.size, aK, aV, tR), rfl, ⟨fun k q hq => hf k q hq, fun k q hk => ?_⟩, ?_, ?_, ?_, ?_, ?_, ?_, ?_, ?_, ?_⟩
  · match k, hk with
    | 0, hk => cases hk; exact ⟨fun n z => ⟨fun k h => (by cases h), kI, i2, pI, i3⟩, i1⟩
    | 1, hk => cases hk; exact ⟨fun n z => ⟨fun k h => (by cases h), kJ, j2, pJ, j3⟩, j1⟩
    | k + 2, hk => simp at hk
  · exact vx_Zqof (ht1 _ st_l.1) (hW _ (am1 15 (by decide +kernel) rfl) _) (hs _ st_z.1) hA
  · exact vx_Zqof (ht1 _ st_l.2.1) (hW _ (am1 15 (by decide +kernel) rfl) _) (hs _ st_z.2.1) hA
  · intro q hq
    obtain ⟨h1, h2⟩ := st_tx q hq
    obtain ⟨a, c, cA, kA, q1, -⟩ := Cond.exactly_spec (args := #[Value.ref b]) (first := s) (o := none) (s := s) (idx := []) (hs _ h2)
    exact ⟨a, vk_R.of (ht1 _ h1) q1⟩
  · exact ⟨vk_R.of (ht1 _ st_r4.1.1) e0, vk_R.of (ht1 _ st_r4.1.2) e1, vk_R.of (ht1 _ st_r4.2.1) e2, vk_R.of (ht1 _ st_r4.2.2) e3⟩
  · exact hvS
  · exact va_Zof (ht1 _ st_l.2.2.1) (hW _ (am1 19 (by decide +kernel) rfl) _) (va_eqt (hs _ st_z.2.2.2)) hA
  · exact va_Zof (ht1 _ st_l.2.2.2.1) (hW _ (am1 7 (by decide +kernel) rfl) _) hR1 hA
  · exact hR2
  · exact vx_Zqof (ht1 _ st_l.2.2.2.2) (hW _ (am1 21 (by decide +kernel) rfl) _) (hs _ st_z.2.2.1) hA

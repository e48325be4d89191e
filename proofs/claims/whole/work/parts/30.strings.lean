theorem cd_J0_charAt_5068e : Cond.code yJ0_charAt_5068e cJ0_charAt_5068e 2 (some .char) ∈ allw := am4 108 rfl rfl
theorem im_J0_charAt_5068e : Cond.instanceMethod yJ0_charAt_5068e ∈ allw := am4 106 (by decide +kernel) rfl
theorem se_J0_charAt_5068e : Cond.selects "java/lang/String" yJ0_charAt_5068e yJ0_charAt_5068e ∈ allw := am4 107 (by decide +kernel) rfl
theorem DJ0_charAt_5068e : Dt cJ0_charAt_5068e [(0, .aload_n 0, 1, 1), (1, .invokevirtual 492, 3, 4), (4, .ifCond .eq 12, 3, 7), (7, .aload_n 0, 1, 8), (8, .getfield 9, 3, 11), (11, .iload_n 1, 1, 12), (12, .invokestatic 495, 3, 15), (15, .ireturn, 1, 16), (16, .aload_n 0, 1, 17), (17, .getfield 9, 3, 20), (20, .iload_n 1, 1, 21), (21, .invokestatic 498, 3, 24), (24, .ireturn, 1, 25)] := by unfold Dt; decide +kernel
theorem cd_J0_coder_7d493 : Cond.code yJ0_coder_7d493 cJ0_coder_7d493 1 (some .byte) ∈ allw := am4 102 rfl rfl
theorem im_J0_coder_7d493 : Cond.instanceMethod yJ0_coder_7d493 ∈ allw := am4 100 (by decide +kernel) rfl
theorem se_J0_coder_7d493 : Cond.selects "java/lang/String" yJ0_coder_7d493 yJ0_coder_7d493 ∈ allw := am4 101 (by decide +kernel) rfl
theorem clS_RJ0_335 : CL RJ0 335 yJ0_coder_7d493 0 := ⟨am4 99 (by decide +kernel) rfl, am1 19 (by decide +kernel) rfl, by decide +kernel⟩
theorem DJ0_coder_7d493 : Dt cJ0_coder_7d493 [(0, .getstatic 38, 3, 3), (3, .ifCond .eq 10, 3, 6), (6, .aload_n 0, 1, 7), (7, .getfield 15, 3, 10), (10, .goto 4, 3, 13), (13, .iconst 1, 1, 14), (14, .ireturn, 1, 15)] := by unfold Dt; decide +kernel
theorem clS_RJ1_9 : CL RJ1 9 yJ0_checkIndex_df160 2 := ⟨am4 116 (by decide +kernel) rfl, am1 19 (by decide +kernel) rfl, by decide +kernel⟩
theorem DJ0_checkIndex_df160 : Dt cJ0_checkIndex_df160 [(0, .iload_n 0, 1, 1), (1, .iload_n 1, 1, 2), (2, .getstatic 1053, 3, 5), (5, .invokestatic 1059, 3, 8), (8, .pop, 1, 9), (9, .return_, 1, 10)] := by unfold Dt; decide +kernel
theorem cd_J1_charAt_3b067 : Cond.code yJ1_charAt_3b067 cJ1_charAt_3b067 2 (some .char) ∈ allw := am4 115 rfl rfl
theorem sm_J1_charAt_3b067 : Cond.static yJ1_charAt_3b067 ∈ allw := am4 114 (by decide +kernel) rfl
theorem clS_RJ0_495 : CL RJ0 495 yJ1_charAt_3b067 2 := ⟨am4 113 (by decide +kernel) rfl, am1 20 (by decide +kernel) rfl, by decide +kernel⟩
theorem DJ1_charAt_3b067 : Dt cJ1_charAt_3b067 [(0, .iload_n 1, 1, 1), (1, .aload_n 0, 1, 2), (2, .arraylength, 1, 3), (3, .invokestatic 9, 3, 6), (6, .aload_n 0, 1, 7), (7, .iload_n 1, 1, 8), (8, .baload, 1, 9), (9, .sipush 255, 3, 12), (12, .iand, 1, 13), (13, .i2c, 1, 14), (14, .ireturn, 1, 15)] := by unfold Dt; decide +kernel
theorem clS_RJ0_1059 : CL RJ0 1059 yJ3_checkIndex_8e157 3 := ⟨am4 121 (by decide +kernel) rfl, am1 21 (by decide +kernel) rfl, by decide +kernel⟩
theorem DJ3_checkIndex_8e157 : Dt cJ3_checkIndex_8e157 [(0, .iload_n 0, 1, 1), (1, .ifCond .lt 8, 3, 4), (4, .iload_n 0, 1, 5), (5, .iload_n 1, 1, 6), (6, .if_icmp .lt 10, 3, 9), (9, .aload_n 2, 1, 10), (10, .iload_n 0, 1, 11), (11, .iload_n 1, 1, 12), (12, .invokestatic 95, 3, 15), (15, .athrow, 1, 16), (16, .iload_n 0, 1, 17), (17, .ireturn, 1, 18)] := by unfold Dt; decide +kernel
theorem se_J0_isLatin1_aae02 : Cond.selects "java/lang/String" yJ0_isLatin1_aae02 yJ0_isLatin1_aae02 ∈ allw := am4 111 (by decide +kernel) rfl
theorem clS_RJ0_492 : CL RJ0 492 yJ0_isLatin1_aae02 0 := ⟨am4 109 (by decide +kernel) rfl, am1 19 (by decide +kernel) rfl, by decide +kernel⟩
theorem DJ0_isLatin1_aae02 : Dt cJ0_isLatin1_aae02 [(0, .getstatic 38, 3, 3), (3, .ifCond .eq 14, 3, 6), (6, .aload_n 0, 1, 7), (7, .getfield 15, 3, 10), (10, .ifCond .ne 7, 3, 13), (13, .iconst 1, 1, 14), (14, .goto 4, 3, 17), (17, .iconst 0, 1, 18), (18, .ireturn, 1, 19)] := by unfold Dt; decide +kernel
theorem se_J0_length_8abf5 : Cond.selects "java/lang/String" yJ0_length_8abf5 yJ0_length_8abf5 ∈ allw := am4 97 (by decide +kernel) rfl
theorem DJ0_length_8abf5 : Dt cJ0_length_8abf5 [(0, .aload_n 0, 1, 1), (1, .getfield 9, 3, 4), (4, .arraylength, 1, 5), (5, .aload_n 0, 1, 6), (6, .invokevirtual 335, 3, 9), (9, .ishr, 1, 10), (10, .ireturn, 1, 11)] := by unfold Dt; decide +kernel
theorem fs_38 : Cond.fieldLink RJ0 38 "java/lang/String" "COMPACT_STRINGS" "Z" ∈ allw := am4 103 (by decide +kernel) rfl
theorem fs_1053 : Cond.fieldLink RJ0 1053 "jdk/internal/util/Preconditions" "SIOOBE_FORMATTER" "Ljava/util/function/BiFunction;" ∈ allw := am4 119 (by decide +kernel) rfl
theorem fs_9 : Cond.fieldLink RJ0 9 "java/lang/String" "value" "[B" ∈ allw := am10 131 (by decide +kernel) rfl
theorem fs_15 : Cond.fieldLink RJ0 15 "java/lang/String" "coder" "B" ∈ allw := am10 132 (by decide +kernel) rfl
def strC (w : Nat) (j : Int) : Int := ((strB.getD w []).getD j.toNat 0).toInt
theorem strC_ok : ∀ w, w < 2 → ∀ j, j < 4 → 0 ≤ strC w (j : Nat) ∧ strC w (j : Nat) < 128 := by decide +kernel
section ST
variable {K : KT} {cc : ByteArray} {own : String} {nL fr lo pc pc1 tgt : Nat} {ret : Option FieldType} {d : DA} {lv lv' : List (Nat × Value)} {st : List Value} {Y : Type} {y : Y}
theorem j_lds0 (hK : Ok9 K cc RX4 nL ret fr lo) (hd : Dc cc pc (.ldc 73) 2 pc1) (k : J K nL d lv pc1 (.ref (gS (kG K) 0) :: st)) : J K nL d lv pc st := ⟨k.1, fun H locs ls hR hl => by
  obtain ⟨hd, rfl⟩ := hd
  exact va_ldcS hK.1.1 hK.1.2.1 hK.1.2.2.2.1 hK.1.2.2.2.2.2.2.1.2.2.2.1.1 hd (k.2 H locs ls hR hl)⟩
theorem j_lds1 (hK : Ok9 K cc RX4 nL ret fr lo) (hd : Dc cc pc (.ldc 79) 2 pc1) (k : J K nL d lv pc1 (.ref (gS (kG K) 1) :: st)) : J K nL d lv pc st := ⟨k.1, fun H locs ls hR hl => by
  obtain ⟨hd, rfl⟩ := hd
  exact va_ldcS hK.1.1 hK.1.2.1 hK.1.2.2.2.1 hK.1.2.2.2.2.2.2.1.2.2.2.1.2.1 hd (k.2 H locs ls hR hl)⟩
theorem r_ldwS {p : Program} {l : Launch} {e : Env} {R : Room} {s : State} {m : MethodId} {args : Array Value} {below : List Frame} {meth : Method} {c : Code} {H : Heap} {locs : List Loc} {cells slots : Nat} {Q : State → Prop} {ls : Array Slot} {rest : List Value} (hexec : p.tables.exec = Jvm.exec) (hb : c.code = cc) {tx : String} {index q : Nat} (hown : s.vm.findClass own = some m.cls) (hZ : vk_R own index tx q s) (hdg : decode cc pc = .ok (.ldc_w index, 3))
    (k : W p l e R s m args below meth c H locs cells slots Q (F0 m (pc + 3) ls (.ref q :: rest))) : W p l e R s m args below meth c H locs cells slots Q (F0 m pc ls rest) := by
  intro T hT X
  obtain ⟨t, a1, b1⟩ := k T hT X
  exact ⟨t, X.ldcStringW hexec hown (text := tx) (a := q) hZ.1 hZ.2 (g := F0 m pc ls rest) rfl (by rw [hb]; exact hdg) t a1, b1⟩
theorem j_lds2 (hK : Ok9 K cc RX12 nL ret fr lo) (hd : Dc cc pc (.ldc_w 274) 3 pc1) (k : J K nL d lv pc1 (.ref (gS (kG K) 0) :: st)) : J K nL d lv pc st := ⟨k.1, fun H locs ls hR hl => by
  obtain ⟨hd, rfl⟩ := hd
  exact r_ldwS hK.1.1 hK.1.2.1 hK.1.2.2.2.1 hK.1.2.2.2.2.2.2.1.2.2.2.1.2.2.1 hd (k.2 H locs ls hR hl)⟩
theorem j_lds3 (hK : Ok9 K cc RX12 nL ret fr lo) (hd : Dc cc pc (.ldc_w 265) 3 pc1) (k : J K nL d lv pc1 (.ref (gS (kG K) 1) :: st)) : J K nL d lv pc st := ⟨k.1, fun H locs ls hR hl => by
  obtain ⟨hd, rfl⟩ := hd
  exact r_ldwS hK.1.1 hK.1.2.1 hK.1.2.2.2.1 hK.1.2.2.2.2.2.2.1.2.2.2.1.2.2.2 hd (k.2 H locs ls hR hl)⟩
/-! inside a String -/
theorem j_gcs (hK : Ok9 K cc RJ0 nL ret fr lo) (hd : Dc cc pc (.getstatic 38) 3 pc1) (k : J K nL d lv pc1 (vi 1 :: st)) : J K nL d lv pc st := ⟨k.1, fun H locs ls hR hl => by
  obtain ⟨hd, rfl⟩ := hd
  exact va_gets hK.1.1 hK.1.2.1 hK.1.2.2.2.2.2.2.1.2.2.2.2.2.1 hR.2 hK.1.2.2.2.1 (hK.1.2.2.2.2.1 _ fs_38 _) (fun _ h => h) hd (k.2 H locs ls hR hl)⟩
theorem j_sco {w : Nat} (hw : w < 2) (hK : Ok9 K cc RJ0 nL ret fr lo) (hd : Dc cc pc (.getfield 15) 3 pc1) (k : J K nL d lv pc1 (vi 0 :: st)) : J K nL d lv pc (.ref (gS (kG K) w) :: st) := ⟨k.1, fun H locs ls hR hl => by
  obtain ⟨hd, rfl⟩ := hd
  exact vk_getf hK.1.1 hK.1.2.1 (hK.1.2.2.2.2.2.2.1.2.2.2.2.1.1 w hw).2.1 hR.2 hK.1.2.2.2.1 (hK.1.2.2.2.2.1 _ fs_15 _) (fun _ h => h) hd (k.2 H locs ls hR hl)⟩
theorem j_sva {w : Nat} (hw : w < 2) (hK : Ok9 K cc RJ0 nL ret fr lo) (hd : Dc cc pc (.getfield 9) 3 pc1) (k : J K nL d lv pc1 (.ref (gV (kG K) w) :: st)) : J K nL d lv pc (.ref (gS (kG K) w) :: st) := ⟨k.1, fun H locs ls hR hl => by
  obtain ⟨hd, rfl⟩ := hd
  exact vk_getf hK.1.1 hK.1.2.1 (hK.1.2.2.2.2.2.2.1.2.2.2.2.1.1 w hw).2.2.1 hR.2 hK.1.2.2.2.1 (hK.1.2.2.2.2.1 _ fs_9 _) (fun _ h => h) hd (k.2 H locs ls hR hl)⟩
theorem strL_4 : ∀ w, w < 2 → strL.getD w 0 = 4 := by decide
theorem j_svlen {w : Nat} (hw : w < 2) (hK : Ok9 K cc own nL ret fr lo) (hd : Dc cc pc .arraylength 1 pc1) (k : J K nL d lv pc1 (vi 4 :: st)) : J K nL d lv pc (.ref (gV (kG K) w) :: st) := ⟨k.1, fun H locs ls hR hl => by
  obtain ⟨hd, rfl⟩ := hd
  refine va_tlen hK.1.1 hK.1.2.1 (hK.1.2.2.2.2.2.2.1.2.2.2.2.1.1 w hw).2.2.2 hR.2 (v := Int32.ofInt 4) ?_ hd (k.2 H locs ls hR hl)
  rw [strL_4 w hw]
  rfl⟩
theorem j_svld {w : Nat} {j : Int} (hw : w < 2) (hj : ix j 4) (hK : Ok9 K cc own nL ret fr lo) (hd : Dc cc pc .baload 1 pc1) (k : J K nL d lv pc1 (vi (strC w j) :: st)) : J K nL d lv pc (vi j :: .ref (gV (kG K) w) :: st) := ⟨k.1, fun H locs ls hR hl => by
  obtain ⟨hd, rfl⟩ := hd
  obtain ⟨h1, h2⟩ := oi_clamp (n := 4) hj (by decide)
  refine va_tb hK.1.1 hK.1.2.1 (hK.1.2.2.2.2.2.2.1.2.2.2.2.1.1 w hw).2.2.2 hR.2 (by rw [strL_4 w hw]; exact h2) (v := vi (strC w j)) ?_ hd (k.2 H locs ls hR hl)
  rw [h1]
  exact congrArg Value.int (oi_of _).symm⟩
theorem j_gsio (hK : Ok9 K cc RJ0 nL ret fr lo) (hd : Dc cc pc (.getstatic 1053) 3 pc1) (k : ∀ v : Value, v.category = 1 → J K nL d lv pc1 (v :: st)) : J K nL d lv pc st := ⟨(k .null rfl).1, fun H locs ls hR hl => by
  obtain ⟨hd, rfl⟩ := hd
  rcases (hK.1.2.2.2.2.2.2.1.2.2.2.2.2.2.2.2).1 with hz | ⟨t, hz⟩
  · exact va_gets hK.1.1 hK.1.2.1 hz hR.2 hK.1.2.2.2.1 (hK.1.2.2.2.2.1 _ fs_1053 _) (fun _ h => h) hd ((k .null rfl).2 H locs ls hR hl)
  · exact va_gets hK.1.1 hK.1.2.1 hz hR.2 hK.1.2.2.2.1 (hK.1.2.2.2.2.1 _ fs_1053 _) (fun _ h => h) hd ((k (.ref t) rfl).2 H locs ls hR hl)⟩
theorem j_i2c (hK : Ok9 K cc own nL ret fr lo) {a : Int} (ha : 0 ≤ a ∧ a < 128) (hd : Dc cc pc .i2c 1 pc1) (k : J K nL d lv pc1 (vi a :: st)) : J K nL d lv pc (vi a :: st) := ⟨k.1, fun H locs ls hR hl => by
  obtain ⟨hd, rfl⟩ := hd
  have e : ∀ n : Fin 128, ((Int32.ofInt (n.val : Int)).toUInt32 % 65536).toInt32 = Int32.ofInt (n.val : Int) := by decide +kernel
  have e1 := e ⟨a.toNat, by omega⟩
  simp only [show ((a.toNat : Nat) : Int) = a by omega] at e1
  exact lv_i2c hK.1.1 hK.1.2.1 hd e1 (k.2 H locs ls hR hl)⟩
/-! a call on a String -/
theorem j_cVs {w : Nat} (hw : w < 2) (hK : Ok9 K cc own nL ret fr lo) {idx : Nat} {y : MethodName} {n' n fr' lo' : Nat} {cy : ByteArray} {rt : Option FieldType} {av : List Value} {rv : Option Value} {d' : DA} {st0 st1 : List Value} (hM : CtK K y cy n' rt fr' lo' d (.ref (gS (kG K) w) :: av) rv d')
    (hL : CL own idx y n) (hcw : Cond.code y cy n' rt ∈ allw) (hin : Cond.instanceMethod y ∈ allw) (hse : Cond.selects "java/lang/String" y y ∈ allw) (hfr : fr' + 1 ≤ fr) (hlo : 8 + (n' + 11) + lo' ≤ lo) (hn : av.length = n) (hst : st0 = av.reverse ++ .ref (gS (kG K) w) :: st) (hW : (st.map fun v => v.category).sum ≤ 8)
    (hd : Dc cc pc (.invokevirtual idx) 3 pc1) (hst1 : rv.toList ++ st = st1) (kk : J K nL d' lv pc1 st1) : J K nL d lv pc st0 :=
  ⟨kk.1, fun H locs ls hR hl => by
    obtain ⟨hd, rfl⟩ := hd
    subst hst1
    exact r_back (Pc := PC (kG K) (ka K) (wD (kσ K) d) (.ref (gS (kG K) w) :: av)) hR (va_runV (As := av) (rest := st) ⟨hK.1.1, hK.1.2.1, hK.1.2.2.1, hK.1.2.2.2.1, fun w hw => hK.1.2.2.2.2.1 w hw _⟩ hM ⟨cl_B hK.1 hL hcw (Nat.le_trans hfr hK.2.1) (Nat.le_trans hlo hK.2.2.1), hK.1.2.2.2.2.1 _ hin _, hK.1.2.2.2.2.1 _ hse _⟩ ⟨pc_blind, vk_recv hK.1.2.2.2.2.2.2.1.2.2.2.2.1 hw hR.2, fun U hU hW => pc_pre hK.1 hR U hU hW⟩ rfl hn hl.1 hst (lv_room hW) hd kk.1.1) (fun H1 locs1 hR1 => kk.2 H1 locs1 ls hR1 hl)⟩
end ST
section SM
variable {G : GT} {l : Launch} {ad : Nat → Nat} {σ : HS} {d : DA}
theorem c_coder (hst : l.stackTraces = false) {w : Nat} (hw : w < 2) : Ct G l yJ0_coder_7d493 cJ0_coder_7d493 1 (some .byte) 0 0 ad (wD σ d) [.ref (gS G w)] (some (vi 0)) (wD σ d) :=
  ct_of hst rfl (Nat.le_of_ble_eq_true rfl) (fun K e0 e9 e1 e2 e3 hK => by
    subst e0; subst e9; subst e1; subst e2
    have h1 : gd (inR 1) (if (1 : Int) = 0 then none else some ()) = some () := by decide
    exact j_gcs hK (dc9 DJ0_coder_7d493 0 rfl) (j_if_eq hK (dj9 DJ0_coder_7d493 1 13 rfl rfl) h1 (fun h => nomatch h) (fun _ => j_aload_n hK (dc9 DJ0_coder_7d493 2 rfl) 0 rfl rfl (j_sco hw hK (dc9 DJ0_coder_7d493 3 rfl) (j_goto hK (dj9 DJ0_coder_7d493 4 14 rfl rfl) (j_nret hK rfl (dc9 DJ0_coder_7d493 6 rfl) e3))))))
theorem c_isLatin1 (hst : l.stackTraces = false) {w : Nat} (hw : w < 2) : Ct G l yJ0_isLatin1_aae02 cJ0_isLatin1_aae02 1 (some .boolean) 0 0 ad (wD σ d) [.ref (gS G w)] (some (vi 1)) (wD σ d) :=
  ct_of hst rfl (Nat.le_of_ble_eq_true rfl) (fun K e0 e9 e1 e2 e3 hK => by
    subst e0; subst e9; subst e1; subst e2
    have h1 : gd (inR 1) (if (1 : Int) = 0 then none else some ()) = some () := by decide
    have h2 : gd (inR 0) (if (0 : Int) = 0 then some () else none) = some () := by decide
    exact j_gcs hK (dc9 DJ0_isLatin1_aae02 0 rfl) (j_if_eq hK (dj9 DJ0_isLatin1_aae02 1 17 rfl rfl) h1 (fun h => nomatch h) (fun _ => j_aload_n hK (dc9 DJ0_isLatin1_aae02 2 rfl) 0 rfl rfl (j_sco hw hK (dc9 DJ0_isLatin1_aae02 3 rfl) (j_if_ne hK (dj9 DJ0_isLatin1_aae02 4 17 rfl rfl) h2 (fun h => nomatch h) (fun _ => j_iconst hK (dc9 DJ0_isLatin1_aae02 5 rfl) (j_goto hK (dj9 DJ0_isLatin1_aae02 6 18 rfl rfl) (j_zret hK (Or.inr rfl) (dc9 DJ0_isLatin1_aae02 8 rfl) e3))))))))
theorem c_slen (hst : l.stackTraces = false) {w : Nat} (hw : w < 2) : Ct G l yJ0_length_8abf5 cJ0_length_8abf5 1 (some .int) 1 20 ad (wD σ d) [.ref (gS G w)] (some (vi 4)) (wD σ d) :=
  ct_of hst rfl (Nat.le_of_ble_eq_true rfl) (fun K e0 e9 e1 e2 e3 hK => by
    subst e0; subst e9; subst e1; subst e2
    refine j_aload_n hK (dc9 DJ0_length_8abf5 0 rfl) 0 rfl rfl (j_sva hw hK (dc9 DJ0_length_8abf5 1 rfl) (j_svlen hw hK (dc9 DJ0_length_8abf5 2 rfl) (j_aload_n hK (dc9 DJ0_length_8abf5 3 rfl) 0 rfl rfl (j_cVs hw hK (c_coder (hst9 hK) hw) clS_RJ0_335 cd_J0_coder_7d493 im_J0_coder_7d493 se_J0_coder_7d493 (Nat.le_of_ble_eq_true rfl) (Nat.le_of_ble_eq_true rfl) rfl (st := [vi 4]) rfl (Nat.le_of_ble_eq_true rfl) (dc9 DJ0_length_8abf5 4 rfl) rfl (j_ishr hK (dc9 DJ0_length_8abf5 5 rfl) ?_)))))
    rw [show ishr9 4 0 = 4 by decide +kernel]
    exact j_iret hK (dc9 DJ0_length_8abf5 6 rfl) e3)
theorem c_pchk (hst : l.stackTraces = false) {j : Int} (hj : ix j 4) {v : Value} (hv : v.category = 1) : Ct G l yJ3_checkIndex_8e157 cJ3_checkIndex_8e157 3 (some .int) 0 0 ad (wD σ d) [vi j, vi 4, v] (some (vi j)) (wD σ d) := by
  have hlen : (lg_sl [vi j, vi 4, v]).length ≤ 3 := by
    cases v <;> first | exact Nat.le_of_ble_eq_true rfl | (exact absurd hv (by decide)) | (cases hv)
  refine ct_of hst rfl hlen (fun K e0 e9 e1 e2 e3 hK => ?_)
  subst e0; subst e9; subst e1; subst e2
  have hr : inR j := ⟨by have := hj.1; omega, by have := hj.2; omega⟩
  have h1 : gd (inR j) (if j < 0 then none else some ()) = some () := by
    unfold gd
    rw [if_pos hr, if_neg (by have := hj.1; omega)]
  have h2 : gd (inR j ∧ inR 4) (if j < 4 then some () else none) = some () := by
    unfold gd
    rw [if_pos ⟨hr, by decide⟩, if_pos (show j < 4 from hj.2)]
  exact j_iload_n hK (dc9 DJ3_checkIndex_8e157 0 rfl) 0 rfl rfl (j_if_lt hK (dj9 DJ3_checkIndex_8e157 1 9 rfl rfl) h1 (fun h => nomatch h) (fun _ => j_iload_n hK (dc9 DJ3_checkIndex_8e157 2 rfl) 0 rfl rfl (j_iload_n hK (dc9 DJ3_checkIndex_8e157 3 rfl) 1 rfl rfl (j_icmp_lt hK (dj9 DJ3_checkIndex_8e157 4 16 rfl rfl) h2 (fun _ => j_iload_n hK (dc9 DJ3_checkIndex_8e157 10 rfl) 0 rfl rfl (j_iret hK (dc9 DJ3_checkIndex_8e157 11 rfl) e3)) (fun h => nomatch h)))))
theorem c_schk (hst : l.stackTraces = false) {j : Int} (hj : ix j 4) : Ct G l yJ0_checkIndex_df160 cJ0_checkIndex_df160 2 none 1 22 ad (wD σ d) [vi j, vi 4] none (wD σ d) :=
  ct_of hst rfl (Nat.le_of_ble_eq_true rfl) (fun K e0 e9 e1 e2 e3 hK => by
    subst e0; subst e9; subst e1; subst e2
    exact j_iload_n hK (dc9 DJ0_checkIndex_df160 0 rfl) 0 rfl rfl (j_iload_n hK (dc9 DJ0_checkIndex_df160 1 rfl) 1 rfl rfl (j_gsio hK (dc9 DJ0_checkIndex_df160 2 rfl) (fun v hv => j_cS hK (c_pchk (hst9 hK) hj hv) clS_RJ0_1059 cd_J3_checkIndex_8e157 sm_J3_checkIndex_8e157 (Nat.le_of_ble_eq_true rfl) (Nat.le_of_ble_eq_true rfl) rfl (st := []) rfl (Nat.le_of_ble_eq_true rfl) (dc9 DJ0_checkIndex_df160 3 rfl) rfl (j_pop hK (dc9 DJ0_checkIndex_df160 4 rfl) rfl (j_vret hK (dc9 DJ0_checkIndex_df160 5 rfl) e3))))))
theorem strC_i {w : Nat} {j : Int} (hw : w < 2) (hj : ix j 4) : 0 ≤ strC w j ∧ strC w j < 128 := by
  have h := strC_ok w hw j.toNat (by have := hj.1; have := hj.2; omega)
  rwa [show ((j.toNat : Nat) : Int) = j from Int.toNat_of_nonneg hj.1] at h
theorem iand255 {a : Int} (h : 0 ≤ a ∧ a < 128) : iand9 a 255 = a := by
  have e : ∀ n : Fin 128, iand9 (n.val : Int) 255 = (n.val : Int) := by decide +kernel
  have e1 := e ⟨a.toNat, by omega⟩
  simpa only [show ((a.toNat : Nat) : Int) = a by omega] using e1
theorem nar_char {a : Int} (h : 0 ≤ a ∧ a < 128) : narrow .char (vi a) = vi a := by
  have e : ∀ n : Fin 128, narrow .char (vi (n.val : Int)) = vi (n.val : Int) := by decide +kernel
  have e1 := e ⟨a.toNat, by omega⟩
  simpa only [show ((a.toNat : Nat) : Int) = a by omega] using e1
theorem c_lchar (hst : l.stackTraces = false) {w : Nat} {j : Int} (hw : w < 2) (hj : ix j 4) : Ct G l yJ1_charAt_3b067 cJ1_charAt_3b067 2 (some .char) 2 43 ad (wD σ d) [.ref (gV G w), vi j] (some (vi (strC w j))) (wD σ d) :=
  ct_of hst rfl (Nat.le_of_ble_eq_true rfl) (fun K e0 e9 e1 e2 e3 hK => by
    subst e0; subst e9; subst e1; subst e2
    refine j_iload_n hK (dc9 DJ1_charAt_3b067 0 rfl) 1 rfl rfl (j_aload_n hK (dc9 DJ1_charAt_3b067 1 rfl) 0 rfl rfl (j_svlen hw hK (dc9 DJ1_charAt_3b067 2 rfl) (j_cS hK (c_schk (hst9 hK) hj) clS_RJ1_9 cd_J0_checkIndex_df160 sm_J0_checkIndex_df160 (Nat.le_of_ble_eq_true rfl) (Nat.le_of_ble_eq_true rfl) rfl (st := []) rfl (Nat.le_of_ble_eq_true rfl) (dc9 DJ1_charAt_3b067 3 rfl) rfl (j_aload_n hK (dc9 DJ1_charAt_3b067 4 rfl) 0 rfl rfl (j_iload_n hK (dc9 DJ1_charAt_3b067 5 rfl) 1 rfl rfl (j_svld hw hj hK (dc9 DJ1_charAt_3b067 6 rfl) (j_sipush hK (dc9 DJ1_charAt_3b067 7 rfl) (by decide) (j_iand hK (dc9 DJ1_charAt_3b067 8 rfl) ?_))))))))
    rw [iand255 (strC_i hw hj)]
    exact j_i2c hK (strC_i hw hj) (dc9 DJ1_charAt_3b067 9 rfl) (j_nret hK (nar_char (strC_i hw hj)) (dc9 DJ1_charAt_3b067 10 rfl) e3))
theorem c_schar (hst : l.stackTraces = false) {w : Nat} {j : Int} (hw : w < 2) (hj : ix j 4) : Ct G l yJ0_charAt_5068e cJ0_charAt_5068e 2 (some .char) 3 64 ad (wD σ d) [.ref (gS G w), vi j] (some (vi (strC w j))) (wD σ d) :=
  ct_of hst rfl (Nat.le_of_ble_eq_true rfl) (fun K e0 e9 e1 e2 e3 hK => by
    subst e0; subst e9; subst e1; subst e2
    have h1 : gd (inR 1) (if (1 : Int) = 0 then none else some ()) = some () := by decide
    exact j_aload_n hK (dc9 DJ0_charAt_5068e 0 rfl) 0 rfl rfl (j_cVs hw hK (c_isLatin1 (hst9 hK) hw) clS_RJ0_492 cd_J0_isLatin1_aae02 im_J0_isLatin1_aae02 se_J0_isLatin1_aae02 (Nat.le_of_ble_eq_true rfl) (Nat.le_of_ble_eq_true rfl) rfl (st := []) rfl (Nat.le_of_ble_eq_true rfl) (dc9 DJ0_charAt_5068e 1 rfl) rfl (j_if_eq hK (dj9 DJ0_charAt_5068e 2 16 rfl rfl) h1 (fun h => nomatch h) (fun _ => j_aload_n hK (dc9 DJ0_charAt_5068e 3 rfl) 0 rfl rfl (j_sva hw hK (dc9 DJ0_charAt_5068e 4 rfl) (j_iload_n hK (dc9 DJ0_charAt_5068e 5 rfl) 1 rfl rfl (j_cS hK (c_lchar (hst9 hK) hw hj) clS_RJ0_495 cd_J1_charAt_3b067 sm_J1_charAt_3b067 (Nat.le_of_ble_eq_true rfl) (Nat.le_of_ble_eq_true rfl) rfl (st := []) rfl (Nat.le_of_ble_eq_true rfl) (dc9 DJ0_charAt_5068e 6 rfl) rfl (j_nret hK (nar_char (strC_i hw hj)) (dc9 DJ0_charAt_5068e 7 rfl) e3)))))))) 
end SM
section ST2
variable {K : KT} {cc : ByteArray} {own : String} {nL fr lo pc pc1 tgt : Nat} {ret : Option FieldType} {d : DA} {lv lv' : List (Nat × Value)} {st : List Value} {Y : Type} {y : Y}
theorem j_slen (hK : Ok9 K cc own nL ret fr lo) {idx w : Nat} (hw : w < 2) (hL : CL own idx yJ0_length_8abf5 0) (hfr : 2 ≤ fr) (hlo : 40 ≤ lo) (hW : (st.map fun v => v.category).sum ≤ 8) (hd : Dc cc pc (.invokevirtual idx) 3 pc1) (k : J K nL d lv pc1 (vi 4 :: st)) : J K nL d lv pc (.ref (gS (kG K) w) :: st) :=
  j_cVs hw hK (c_slen (hst9 hK) hw) hL cd_J0_length_8abf5 im_J0_length_8abf5 se_J0_length_8abf5 hfr hlo rfl (st := st) rfl hW hd rfl k
theorem j_schar (hK : Ok9 K cc own nL ret fr lo) {idx w : Nat} {j : Int} {k : Option Y} (hw : w < 2) (hL : CL own idx yJ0_charAt_5068e 1) (hfr : 4 ≤ fr) (hlo : 85 ≤ lo) (hW : (st.map fun v => v.category).sum ≤ 8) (hd : Dc cc pc (.invokevirtual idx) 3 pc1) (h : gd (ix j 4) k = some y) (f : k = some y → J K nL d lv pc1 (vi (strC w j) :: st)) : J K nL d lv pc (vi j :: .ref (gS (kG K) w) :: st) :=
  gd9 h fun hj h => j_cVs hw hK (c_schar (hst9 hK) hw hj) hL cd_J0_charAt_5068e im_J0_charAt_5068e se_J0_charAt_5068e hfr hlo rfl (st := st) rfl hW hd rfl (f h)
end ST2

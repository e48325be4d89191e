/-! X4_isWord -/
theorem DX4_isWord : Dt cX4_isWord [(0, .aload_n 0, 1, 1), (1, .getfield 19, 3, 4), (4, .aload_n 0, 1, 5), (5, .getfield 48, 3, 8), (8, .isub, 1, 9), (9, .aload_n 1, 1, 10), (10, .invokevirtual 81, 3, 13), (13, .if_icmp .eq 5, 3, 16), (16, .iconst 0, 1, 17), (17, .ireturn, 1, 18), (18, .iconst 0, 1, 19), (19, .istore_n 2, 1, 20), (20, .iload_n 2, 1, 21), (21, .aload_n 1, 1, 22), (22, .invokevirtual 81, 3, 25), (25, .if_icmp .ge 30, 3, 28), (28, .aload_n 0, 1, 29), (29, .getfield 9, 3, 32), (32, .aload_n 0, 1, 33), (33, .getfield 48, 3, 36), (36, .iload_n 2, 1, 37), (37, .iadd, 1, 38), (38, .iaload, 1, 39), (39, .aload_n 1, 1, 40), (40, .iload_n 2, 1, 41), (41, .invokevirtual 86, 3, 44), (44, .if_icmp .eq 5, 3, 47), (47, .iconst 0, 1, 48), (48, .ireturn, 1, 49), (49, .iinc 2 1, 3, 52), (52, .goto (-32), 3, 55), (55, .iconst 1, 1, 56), (56, .ireturn, 1, 57)] := by unfold Dt; decide +kernel
def X4_isWord_T20 (K : KT) (o : Nat) (a1 : Nat) (d : DA) (q : Int) : Prop := J K 3 d [(0, rf K o), (1, .ref (gS (kG K) a1)), (2, vi q)] 20 []
def X4_isWord_F20 (K : KT) (o : Nat) (a1 : Nat) (d : DA) (q : Unit) : Prop := J K 3 d [] 55 []
def X4_isWord_b20 (o : Nat) (a1 : Nat) (v2 : Int) (d : DA) : Option ((Int) ⊕ ((Unit) ⊕ (Int))) :=
  gd (inR v2 ∧ inR 4) <|
  if 4 ≤ v2 then (some (.inr (.inl ()))) else
  gd (ix ((d.1 o 3) + v2) 400) <|
  gd (ix v2 4) <|
  gd (inR (d.1 (o - 1) (Int.toNat ((d.1 o 3) + v2))) ∧ inR (strC a1 v2)) <|
  if (d.1 (o - 1) (Int.toNat ((d.1 o 3) + v2))) = (strC a1 v2) then (some (.inl (v2 + 1))) else
  some (.inr (.inr (0)))
theorem X4_isWord_wb20 {K : KT} (hK : Ok9 K cX4_isWord RX4 3 (some .boolean) 6 200) {o : Nat} {a1 : Nat} (hw : W_4 (kσ K) o) (ha1 : a1 < 2) (hm : M_4 (kσ K) o) {v2 : Int} {d : DA} {y : (Int) ⊕ ((Unit) ⊕ (Int))} (h : X4_isWord_b20 o a1 v2 d = some y) (hk : S3 (X4_isWord_T20 K o a1 d) (X4_isWord_F20 K o a1 d) (FI0 K d) y) : J K 3 d [(0, rf K o), (1, .ref (gS (kG K) a1)), (2, vi v2)] 20 [] :=
  j_iload_n hK (dc9 DX4_isWord 12 rfl) 2 rfl rfl (j_aload_n hK (dc9 DX4_isWord 13 rfl) 1 rfl rfl (j_slen hK ha1 cl4_81 (Nat.le_of_ble_eq_true rfl) (Nat.le_of_ble_eq_true rfl) (Nat.le_of_ble_eq_true rfl) (dc9 DX4_isWord 14 rfl) (j_icmp_ge hK (dj9 DX4_isWord 15 55 rfl rfl) h (fun h => j_sub [] rfl ((have z := lf9 h hk; z))) (fun h =>
  j_aload_n hK (dc9 DX4_isWord 16 rfl) 0 rfl rfl (j_getR hK (hw.1) fl4_9 rfl (hm.1.1) (hm.1.2.1) (dc9 DX4_isWord 17 rfl) (j_aload_n hK (dc9 DX4_isWord 18 rfl) 0 rfl rfl (j_getI hK (hw.1) fl4_48 rfl (dc9 DX4_isWord 19 rfl) (j_iload_n hK (dc9 DX4_isWord 20 rfl) 2 rfl rfl (j_iadd hK (dc9 DX4_isWord 21 rfl) (j_iald hK (hm.1.2) (Nat.le_of_ble_eq_true rfl) (dc9 DX4_isWord 22 rfl) h fun h => (j_aload_n hK (dc9 DX4_isWord 23 rfl) 1 rfl rfl (j_iload_n hK (dc9 DX4_isWord 24 rfl) 2 rfl rfl (j_schar hK ha1 cl4_86 (Nat.le_of_ble_eq_true rfl) (Nat.le_of_ble_eq_true rfl) (Nat.le_of_ble_eq_true rfl) (dc9 DX4_isWord 25 rfl) h fun h => (j_icmp_eq hK (dj9 DX4_isWord 26 49 rfl rfl) h (fun h => j_iinc hK (dc9 DX4_isWord 29 rfl) 2 rfl (Nat.le_of_ble_eq_true rfl) rfl (j_goto hK (dj9 DX4_isWord 30 20 rfl rfl) (j_sub [1, 2, 0] rfl ((have z := lf9 h hk; z))))) (fun h =>
  j_iconst hK (dc9 DX4_isWord 27 rfl) (j_zret hK (Or.inl rfl) (dc9 DX4_isWord 28 rfl) (have z := lf9 h hk; z)))))))))))))))))
def X4_isWord (o : Nat) (a1 : Nat) (d : DA) : Option (Int) :=
  gd (inR ((d.1 o 2) - (d.1 o 3)) ∧ inR 4) <|
  if ((d.1 o 2) - (d.1 o 3)) = 4 then (lpR (fun q => X4_isWord_b20 o a1 q d) 0 (fun e => some (1)) (fun r => some r)) else
  some (0)
theorem X4_isWord_w {K : KT} (hK : Ok9 K cX4_isWord RX4 3 (some .boolean) 6 200) {o : Nat} {a1 : Nat} (hw : W_4 (kσ K) o) (ha1 : a1 < 2) (hm : M_4 (kσ K) o) {d : DA} {y : Int} (h : X4_isWord o a1 d = some y) (hk : (FI0 K d) y) : J K 3 d [(0, rf K o), (1, .ref (gS (kG K) a1))] 0 [] :=
  j_aload_n hK (dc9 DX4_isWord 0 rfl) 0 rfl rfl (j_getI hK (hw.1) fl4_19 rfl (dc9 DX4_isWord 1 rfl) (j_aload_n hK (dc9 DX4_isWord 2 rfl) 0 rfl rfl (j_getI hK (hw.1) fl4_48 rfl (dc9 DX4_isWord 3 rfl) (j_isub hK (dc9 DX4_isWord 4 rfl) (j_aload_n hK (dc9 DX4_isWord 5 rfl) 1 rfl rfl (j_slen hK ha1 cl4_81 (Nat.le_of_ble_eq_true rfl) (Nat.le_of_ble_eq_true rfl) (Nat.le_of_ble_eq_true rfl) (dc9 DX4_isWord 6 rfl) (j_icmp_eq hK (dj9 DX4_isWord 7 18 rfl rfl) h (fun h => j_iconst hK (dc9 DX4_isWord 10 rfl) (j_istore_n hK (dc9 DX4_isWord 11 rfl) rfl (Nat.le_of_ble_eq_true rfl) rfl (j_sub [1, 2, 0] rfl ((have z := j_lpR (X4_isWord_T20 K o a1 d) (X4_isWord_F20 K o a1 d) (FI0 K d) h (fun q y h hk => X4_isWord_wb20 hK hw ha1 hm h hk) (fun e h => j_iconst hK (dc9 DX4_isWord 31 rfl) (j_zret hK (Or.inr rfl) (dc9 DX4_isWord 32 rfl) (have z := lf9 h hk; z))) (fun r h => (have z := lf9 h hk; z)); z))))) (fun h =>
  j_iconst hK (dc9 DX4_isWord 8 rfl) (j_zret hK (Or.inl rfl) (dc9 DX4_isWord 9 rfl) (have z := lf9 h hk; z))))))))))
theorem c_X4_isWord {G : GT} {l : Launch} {ad : Nat → Nat} {σ : HS} {d : DA} (hst : l.stackTraces = false) {o : Nat} {a1 : Nat} (hw : W_4 σ o) (ha1 : a1 < 2) (hm : M_4 σ o) {r : Int} (h : X4_isWord o a1  d = some r) : Ct G l yX4_isWord cX4_isWord 3 (some .boolean) 6 200 ad (wD σ d) [.ref (ad o), .ref (gS G a1)] (some (vi r)) (wD σ d) :=
  ct_of hst rfl (Nat.le_of_ble_eq_true rfl) (fun K e0 e9 e1 e2 e3 hK => by subst e0; subst e9; subst e1; subst e2; exact X4_isWord_w hK hw ha1 hm h e3)
/-! X12_is -/
theorem DX12_is : Dt cX12_is [(0, .aload_n 0, 1, 1), (1, .getfield 223, 3, 4), (4, .ifCond .ne 31, 3, 7), (7, .aload_n 0, 1, 8), (8, .getfield 201, 3, 11), (11, .iconst 1, 1, 12), (12, .if_icmp .ne 23, 3, 15), (15, .aload_n 1, 1, 16), (16, .invokevirtual 229, 3, 19), (19, .aload_n 0, 1, 20), (20, .getfield 220, 3, 23), (23, .aload_n 0, 1, 24), (24, .getfield 198, 3, 27), (27, .isub, 1, 28), (28, .if_icmp .ne 7, 3, 31), (31, .iconst 1, 1, 32), (32, .goto 4, 3, 35), (35, .iconst 0, 1, 36), (36, .istore_n 2, 1, 37), (37, .iconst 0, 1, 38), (38, .istore_n 3, 1, 39), (39, .iload_n 2, 1, 40), (40, .ifCond .eq 42, 3, 43), (43, .iload_n 3, 1, 44), (44, .aload_n 1, 1, 45), (45, .invokevirtual 229, 3, 48), (48, .if_icmp .ge 34, 3, 51), (51, .aload_n 1, 1, 52), (52, .iload_n 3, 1, 53), (53, .invokevirtual 235, 3, 56), (56, .aload_n 0, 1, 57), (57, .getfield 53, 3, 60), (60, .aload_n 0, 1, 61), (61, .getfield 198, 3, 64), (64, .iload_n 3, 1, 65), (65, .iadd, 1, 66), (66, .iaload, 1, 67), (67, .if_icmp .ne 7, 3, 70), (70, .iconst 1, 1, 71), (71, .goto 4, 3, 74), (74, .iconst 0, 1, 75), (75, .istore_n 2, 1, 76), (76, .iinc 3 1, 3, 79), (79, .goto (-40), 3, 82), (82, .iload_n 2, 1, 83), (83, .ireturn, 1, 84)] := by unfold Dt; decide +kernel
def X12_is_T39 (K : KT) (o : Nat) (a1 : Nat) (d : DA) (q : Int × Int) : Prop := J K 4 d [(0, rf K o), (1, .ref (gS (kG K) a1)), (2, vi (q.1)), (3, vi (q.2))] 39 []
def X12_is_F39 (K : KT) (o : Nat) (a1 : Nat) (d : DA) (q : Int) : Prop := J K 4 d [(2, vi q)] 82 []
def X12_is_b39 (o : Nat) (a1 : Nat) (v2 v3 : Int) (d : DA) : Option ((Int × Int) ⊕ (Int)) :=
  gd (inR v2) <|
  if v2 = 0 then (some (.inr v2)) else
  gd (inR v3 ∧ inR 4) <|
  if 4 ≤ v3 then (some (.inr v2)) else
  gd (ix v3 4) <|
  gd (ix ((d.1 o 26) + v3) 400) <|
  gd (inR (strC a1 v3) ∧ inR (d.1 (o + 13) (Int.toNat ((d.1 o 26) + v3)))) <|
  if (strC a1 v3) = (d.1 (o + 13) (Int.toNat ((d.1 o 26) + v3))) then (some (.inl (1, v3 + 1))) else
  some (.inl (0, v3 + 1))
theorem X12_is_wb39 {K : KT} (hK : Ok9 K cX12_is RX12 4 (some .boolean) 6 200) {o : Nat} {a1 : Nat} (hw : W_12 (kσ K) o) (ha1 : a1 < 2) {v2 v3 : Int} {d : DA} {y : (Int × Int) ⊕ (Int)} (h : X12_is_b39 o a1 v2 v3 d = some y) (hk : S2 (X12_is_T39 K o a1 d) (X12_is_F39 K o a1 d) y) : J K 4 d [(0, rf K o), (1, .ref (gS (kG K) a1)), (2, vi v2), (3, vi v3)] 39 [] :=
  j_iload_n hK (dc9 DX12_is 21 rfl) 2 rfl rfl (j_if_eq hK (dj9 DX12_is 22 82 rfl rfl) h (fun h => j_sub [2] rfl ((have z := lf9 h hk; z))) (fun h =>
  j_iload_n hK (dc9 DX12_is 23 rfl) 3 rfl rfl (j_aload_n hK (dc9 DX12_is 24 rfl) 1 rfl rfl (j_slen hK ha1 cl12_229 (Nat.le_of_ble_eq_true rfl) (Nat.le_of_ble_eq_true rfl) (Nat.le_of_ble_eq_true rfl) (dc9 DX12_is 25 rfl) (j_icmp_ge hK (dj9 DX12_is 26 82 rfl rfl) h (fun h => j_sub [2] rfl ((have z := lf9 h hk; z))) (fun h =>
  j_aload_n hK (dc9 DX12_is 27 rfl) 1 rfl rfl (j_iload_n hK (dc9 DX12_is 28 rfl) 3 rfl rfl (j_schar hK ha1 cl12_235 (Nat.le_of_ble_eq_true rfl) (Nat.le_of_ble_eq_true rfl) (Nat.le_of_ble_eq_true rfl) (dc9 DX12_is 29 rfl) h fun h => (j_aload_n hK (dc9 DX12_is 30 rfl) 0 rfl rfl (j_getR hK (hw.1) fl12_53 rfl (hw.2.2.2.2.2.2.2.2.2.2.2.2.2.1.1) (hw.2.2.2.2.2.2.2.2.2.2.2.2.2.1.2.1) (dc9 DX12_is 31 rfl) (j_aload_n hK (dc9 DX12_is 32 rfl) 0 rfl rfl (j_getI hK (hw.1) fl12_198 rfl (dc9 DX12_is 33 rfl) (j_iload_n hK (dc9 DX12_is 34 rfl) 3 rfl rfl (j_iadd hK (dc9 DX12_is 35 rfl) (j_iald hK (hw.2.2.2.2.2.2.2.2.2.2.2.2.2.1.2) (Nat.le_of_ble_eq_true rfl) (dc9 DX12_is 36 rfl) h fun h => (j_icmp_ne hK (dj9 DX12_is 37 74 rfl rfl) h (fun h => j_iconst hK (dc9 DX12_is 40 rfl) (j_istore_n hK (dc9 DX12_is 41 rfl) rfl (Nat.le_of_ble_eq_true rfl) rfl (j_iinc hK (dc9 DX12_is 42 rfl) 3 rfl (Nat.le_of_ble_eq_true rfl) rfl (j_goto hK (dj9 DX12_is 43 39 rfl rfl) (j_sub [2, 3, 1, 0] rfl ((have z := lf9 h hk; z))))))) (fun h =>
  j_iconst hK (dc9 DX12_is 38 rfl) (j_goto hK (dj9 DX12_is 39 75 rfl rfl) (j_istore_n hK (dc9 DX12_is 41 rfl) rfl (Nat.le_of_ble_eq_true rfl) rfl (j_iinc hK (dc9 DX12_is 42 rfl) 3 rfl (Nat.le_of_ble_eq_true rfl) rfl (j_goto hK (dj9 DX12_is 43 39 rfl rfl) (j_sub [2, 3, 1, 0] rfl ((have z := lf9 h hk; z))))))))))))))))))))))))
def X12_is_j36 (o : Nat) (a1 : Nat) (s0 : Int) (d : DA) : Option (Int) :=
  lpE (fun q => X12_is_b39 o a1 q.1 q.2 d) (s0, 0) (fun e => gd (e = 0 ∨ e = 1) <|
  some (e))
theorem X12_is_wj36 {K : KT} (hK : Ok9 K cX12_is RX12 4 (some .boolean) 6 200) {o : Nat} {a1 : Nat} (hw : W_12 (kσ K) o) (ha1 : a1 < 2) {s0 : Int} {d : DA} {y : Int} (h : X12_is_j36 o a1 s0 d = some y) (hk : (FI0 K d) y) : J K 4 d [(0, rf K o), (1, .ref (gS (kG K) a1))] 36 [vi s0] :=
  j_istore_n hK (dc9 DX12_is 18 rfl) rfl (Nat.le_of_ble_eq_true rfl) rfl (j_iconst hK (dc9 DX12_is 19 rfl) (j_istore_n hK (dc9 DX12_is 20 rfl) rfl (Nat.le_of_ble_eq_true rfl) rfl (j_sub [2, 3, 1, 0] rfl ((have z := j_lpE (X12_is_T39 K o a1 d) (X12_is_F39 K o a1 d) h (fun q y h hk => X12_is_wb39 hK hw ha1 h hk) (fun e h => j_iload_n hK (dc9 DX12_is 44 rfl) 0 rfl rfl (gd9 h fun hz h => j_zret hK hz (dc9 DX12_is 45 rfl) (have z := lf9 h hk; z))); z)))))
def X12_is_j35 (o : Nat) (a1 : Nat) (d : DA) : Option (Int) :=
  X12_is_j36 o a1 0 d
theorem X12_is_wj35 {K : KT} (hK : Ok9 K cX12_is RX12 4 (some .boolean) 6 200) {o : Nat} {a1 : Nat} (hw : W_12 (kσ K) o) (ha1 : a1 < 2) {d : DA} {y : Int} (h : X12_is_j35 o a1 d = some y) (hk : (FI0 K d) y) : J K 4 d [(0, rf K o), (1, .ref (gS (kG K) a1))] 35 [] :=
  j_iconst hK (dc9 DX12_is 17 rfl) (X12_is_wj36 hK hw ha1 h hk)
def X12_is (o : Nat) (a1 : Nat) (d : DA) : Option (Int) :=
  gd (inR (d.1 o 28)) <|
  if (d.1 o 28) = 0 then (gd (inR (d.1 o 24) ∧ inR 1) <|
  if (d.1 o 24) = 1 then (gd (inR 4 ∧ inR ((d.1 o 27) - (d.1 o 26))) <|
  if 4 = ((d.1 o 27) - (d.1 o 26)) then (X12_is_j36 o a1 1 d) else
  X12_is_j35 o a1 d) else
  X12_is_j35 o a1 d) else
  X12_is_j35 o a1 d
theorem X12_is_w {K : KT} (hK : Ok9 K cX12_is RX12 4 (some .boolean) 6 200) {o : Nat} {a1 : Nat} (hw : W_12 (kσ K) o) (ha1 : a1 < 2) {d : DA} {y : Int} (h : X12_is o a1 d = some y) (hk : (FI0 K d) y) : J K 4 d [(0, rf K o), (1, .ref (gS (kG K) a1))] 0 [] :=
  j_aload_n hK (dc9 DX12_is 0 rfl) 0 rfl rfl (j_getI hK (hw.1) fl12_223 rfl (dc9 DX12_is 1 rfl) (j_if_ne hK (dj9 DX12_is 2 35 rfl rfl) h (fun h => X12_is_wj35 hK hw ha1 h hk) (fun h =>
  j_aload_n hK (dc9 DX12_is 3 rfl) 0 rfl rfl (j_getI hK (hw.1) fl12_201 rfl (dc9 DX12_is 4 rfl) (j_iconst hK (dc9 DX12_is 5 rfl) (j_icmp_ne hK (dj9 DX12_is 6 35 rfl rfl) h (fun h => X12_is_wj35 hK hw ha1 h hk) (fun h =>
  j_aload_n hK (dc9 DX12_is 7 rfl) 1 rfl rfl (j_slen hK ha1 cl12_229 (Nat.le_of_ble_eq_true rfl) (Nat.le_of_ble_eq_true rfl) (Nat.le_of_ble_eq_true rfl) (dc9 DX12_is 8 rfl) (j_aload_n hK (dc9 DX12_is 9 rfl) 0 rfl rfl (j_getI hK (hw.1) fl12_220 rfl (dc9 DX12_is 10 rfl) (j_aload_n hK (dc9 DX12_is 11 rfl) 0 rfl rfl (j_getI hK (hw.1) fl12_198 rfl (dc9 DX12_is 12 rfl) (j_isub hK (dc9 DX12_is 13 rfl) (j_icmp_ne hK (dj9 DX12_is 14 35 rfl rfl) h (fun h => X12_is_wj35 hK hw ha1 h hk) (fun h =>
  j_iconst hK (dc9 DX12_is 15 rfl) (j_goto hK (dj9 DX12_is 16 36 rfl rfl) (X12_is_wj36 hK hw ha1 h hk)))))))))))))))))
theorem c_X12_is {G : GT} {l : Launch} {ad : Nat → Nat} {σ : HS} {d : DA} (hst : l.stackTraces = false) {o : Nat} {a1 : Nat} (hw : W_12 σ o) (ha1 : a1 < 2) {r : Int} (h : X12_is o a1  d = some r) : Ct G l yX12_is cX12_is 4 (some .boolean) 6 200 ad (wD σ d) [.ref (ad o), .ref (gS G a1)] (some (vi r)) (wD σ d) :=
  ct_of hst rfl (Nat.le_of_ble_eq_true rfl) (fun K e0 e9 e1 e2 e3 hK => by subst e0; subst e9; subst e1; subst e2; exact X12_is_w hK hw ha1 h e3)
/-! X12_wordIs -/
theorem DX12_wordIs : Dt cX12_wordIs [(0, .aload_n 0, 1, 1), (1, .getfield 223, 3, 4), (4, .ifCond .ne 16, 3, 7), (7, .aload_n 0, 1, 8), (8, .aload_n 1, 1, 9), (9, .invokevirtual 239, 3, 12), (12, .ifCond .ne 8, 3, 15), (15, .aload_n 0, 1, 16), (16, .iconst 1, 1, 17), (17, .invokevirtual 243, 3, 20), (20, .aload_n 0, 1, 21), (21, .getfield 223, 3, 24), (24, .ifCond .ne 7, 3, 27), (27, .aload_n 0, 1, 28), (28, .invokevirtual 247, 3, 31), (31, .return_, 1, 32)] := by unfold Dt; decide +kernel
def X12_wordIs_j20 (o : Nat) (a1 : Nat) (d : DA) : Option (Unit × DA) :=
  gd (inR (d.1 o 28)) <|
  if (d.1 o 28) = 0 then (bd (X12_stepOn o d) fun _ d1 =>
  some (((), d1))) else
  some (((), d))
theorem X12_wordIs_wj20 {K : KT} (hK : Ok9 K cX12_wordIs RX12 2 none 7 223) {o : Nat} {a1 : Nat} (hw : W_12 (kσ K) o) (ha1 : a1 < 2) {d : DA} {y : Unit × DA} (h : X12_wordIs_j20 o a1 d = some y) (hk : (FV K) y) : J K 2 d [(0, rf K o)] 20 [] :=
  j_aload_n hK (dc9 DX12_wordIs 10 rfl) 0 rfl rfl (j_getI hK (hw.1) fl12_223 rfl (dc9 DX12_wordIs 11 rfl) (j_if_ne hK (dj9 DX12_wordIs 12 31 rfl rfl) h (fun h => j_vret hK (dc9 DX12_wordIs 15 rfl) (have z := lf9 h hk; z)) (fun h =>
  j_aload_n hK (dc9 DX12_wordIs 13 rfl) 0 rfl rfl (bd9 h fun _ d1 hc h => j_cV hK (c_X12_stepOn (hst9 hK) (hw) hc) cl12_247 cd_X12_stepOn im_X12_stepOn se_X12_stepOn (hw.1) (Nat.le_of_ble_eq_true rfl) rfl (Nat.le_of_ble_eq_true rfl) (Nat.le_of_ble_eq_true rfl) rfl (st := []) rfl (Nat.le_of_ble_eq_true rfl) (dc9 DX12_wordIs 14 rfl) rfl (j_vret hK (dc9 DX12_wordIs 15 rfl) (have z := lf9 h hk; z))))))
def X12_wordIs (o : Nat) (a1 : Nat) (d : DA) : Option (Unit × DA) :=
  gd (inR (d.1 o 28)) <|
  if (d.1 o 28) = 0 then (b1 (X12_is o a1 d) fun x2 =>
  gd (inR x2) <|
  if x2 = 0 then (bd (X12_wrong o 1 d) fun _ d3 =>
  X12_wordIs_j20 o a1 d3) else
  X12_wordIs_j20 o a1 d) else
  X12_wordIs_j20 o a1 d
theorem X12_wordIs_w {K : KT} (hK : Ok9 K cX12_wordIs RX12 2 none 7 223) {o : Nat} {a1 : Nat} (hw : W_12 (kσ K) o) (ha1 : a1 < 2) {d : DA} {y : Unit × DA} (h : X12_wordIs o a1 d = some y) (hk : (FV K) y) : J K 2 d [(0, rf K o), (1, .ref (gS (kG K) a1))] 0 [] :=
  j_aload_n hK (dc9 DX12_wordIs 0 rfl) 0 rfl rfl (j_getI hK (hw.1) fl12_223 rfl (dc9 DX12_wordIs 1 rfl) (j_if_ne hK (dj9 DX12_wordIs 2 20 rfl rfl) h (fun h => j_sub [0] rfl (X12_wordIs_wj20 hK hw ha1 h hk)) (fun h =>
  j_aload_n hK (dc9 DX12_wordIs 3 rfl) 0 rfl rfl (j_aload_n hK (dc9 DX12_wordIs 4 rfl) 1 rfl rfl (b19 h fun x2 hc h => j_cV hK (c_X12_is (hst9 hK) (hw) (ha1) hc) cl12_239 cd_X12_is im_X12_is se_X12_is (hw.1) (Nat.le_of_ble_eq_true rfl) rfl (Nat.le_of_ble_eq_true rfl) (Nat.le_of_ble_eq_true rfl) rfl (st := []) rfl (Nat.le_of_ble_eq_true rfl) (dc9 DX12_wordIs 5 rfl) rfl (j_if_ne hK (dj9 DX12_wordIs 6 20 rfl rfl) h (fun h => j_sub [0] rfl (X12_wordIs_wj20 hK hw ha1 h hk)) (fun h =>
  j_aload_n hK (dc9 DX12_wordIs 7 rfl) 0 rfl rfl (j_iconst hK (dc9 DX12_wordIs 8 rfl) (bd9 h fun _ d3 hc h => j_cV hK (c_X12_wrong (hst9 hK) (hw) hc) cl12_243 cd_X12_wrong im_X12_wrong se_X12_wrong (hw.1) (Nat.le_of_ble_eq_true rfl) rfl (Nat.le_of_ble_eq_true rfl) (Nat.le_of_ble_eq_true rfl) rfl (st := []) rfl (Nat.le_of_ble_eq_true rfl) (dc9 DX12_wordIs 9 rfl) rfl (j_sub [0] rfl (X12_wordIs_wj20 hK hw ha1 h hk)))))))))))
theorem c_X12_wordIs {G : GT} {l : Launch} {ad : Nat → Nat} {σ : HS} {d d' : DA} (hst : l.stackTraces = false) {o : Nat} {a1 : Nat} (hw : W_12 σ o) (ha1 : a1 < 2) {r : Unit} (h : X12_wordIs o a1  d = some (r, d')) : Ct G l yX12_wordIs cX12_wordIs 2 none 7 223 ad (wD σ d) [.ref (ad o), .ref (gS G a1)] none (wD σ d') :=
  ct_of hst rfl (Nat.le_of_ble_eq_true rfl) (fun K e0 e9 e1 e2 e3 hK => by subst e0; subst e9; subst e1; subst e2; exact X12_wordIs_w hK hw ha1 h e3)
/-! X12_readLine -/
theorem DX12_readLine : Dt cX12_readLine [(0, .aload_n 0, 1, 1), (1, .iconst 1, 1, 2), (2, .invokevirtual 259, 3, 5), (5, .istore_n 2, 1, 6), (6, .aload_n 0, 1, 7), (7, .iconst 1, 1, 8), (8, .invokevirtual 256, 3, 11), (11, .istore_n 3, 1, 12), (12, .aload_n 0, 1, 13), (13, .getfield 223, 3, 16), (16, .ifCond .ne 21, 3, 19), (19, .iload_n 1, 1, 20), (20, .iconst 5, 1, 21), (21, .iload_n 2, 1, 22), (22, .imul, 1, 23), (23, .iload_n 3, 1, 24), (24, .iadd, 1, 25), (25, .ishr, 1, 26), (26, .iconst 1, 1, 27), (27, .iand, 1, 28), (28, .iconst 1, 1, 29), (29, .if_icmp .ne 8, 3, 32), (32, .aload_n 0, 1, 33), (33, .iconst 4, 1, 34), (34, .invokevirtual 243, 3, 37), (37, .aload_n 0, 1, 38), (38, .getfield 223, 3, 41), (41, .ifCond .eq 5, 3, 44), (44, .iload_n 1, 1, 45), (45, .ireturn, 1, 46), (46, .aload_n 0, 1, 47), (47, .invokevirtual 247, 3, 50), (50, .aload_n 0, 1, 51), (51, .bipush 61, 2, 53), (53, .invokevirtual 262, 3, 56), (56, .aload_n 0, 1, 57), (57, .ldc_w 265, 3, 60), (60, .invokevirtual 239, 3, 63), (63, .ifCond .eq 10, 3, 66), (66, .aload_n 0, 1, 67), (67, .invokevirtual 247, 3, 70), (70, .goto 9, 3, 73), (73, .aload_n 0, 1, 74), (74, .iload_n 2, 1, 75), (75, .iload_n 3, 1, 76), (76, .invokevirtual 267, 3, 79), (79, .aload_n 0, 1, 80), (80, .bipush 59, 2, 82), (82, .invokevirtual 262, 3, 85), (85, .iconst 0, 1, 86), (86, .istore 4, 2, 88), (88, .iload 4, 2, 90), (90, .iconst 5, 1, 91), (91, .if_icmp .ge 40, 3, 94), (94, .aload_n 0, 1, 95), (95, .getfield 223, 3, 98), (98, .ifCond .ne 33, 3, 101), (101, .aload_n 0, 1, 102), (102, .getfield 23, 3, 105), (105, .iload_n 3, 1, 106), (106, .iload_n 2, 1, 107), (107, .iload 4, 2, 109), (109, .invokestatic 172, 3, 112), (112, .aload_n 0, 1, 113), (113, .getfield 23, 3, 116), (116, .iload_n 2, 1, 117), (117, .iload_n 3, 1, 118), (118, .iload 4, 2, 120), (120, .invokestatic 172, 3, 123), (123, .iaload, 1, 124), (124, .iastore, 1, 125), (125, .iinc 4 1, 3, 128), (128, .goto (-40), 3, 131), (131, .iload_n 1, 1, 132), (132, .iconst 1, 1, 133), (133, .iconst 5, 1, 134), (134, .iload_n 2, 1, 135), (135, .imul, 1, 136), (136, .iload_n 3, 1, 137), (137, .iadd, 1, 138), (138, .ishl, 1, 139), (139, .ior, 1, 140), (140, .iconst 1, 1, 141), (141, .iconst 5, 1, 142), (142, .iload_n 3, 1, 143), (143, .imul, 1, 144), (144, .iload_n 2, 1, 145), (145, .iadd, 1, 146), (146, .ishl, 1, 147), (147, .ior, 1, 148), (148, .ireturn, 1, 149)] := by unfold Dt; decide +kernel
def X12_readLine_T88 (K : KT) (o : Nat) (v1 : Int) (v2 : Int) (v3 : Int) (q : Int × DA) : Prop := J K 5 q.2 [(0, rf K o), (1, vi v1), (2, vi v2), (3, vi v3), (4, vi (q.1))] 88 []
def X12_readLine_F88 (K : KT) (o : Nat) (v1 : Int) (v2 : Int) (v3 : Int) (q : DA) : Prop := J K 5 q [(1, vi v1), (2, vi v2), (3, vi v3)] 131 []
def X12_readLine_b88 (o : Nat) (v1 v2 v3 v4 : Int) (d : DA) : Option ((Int × DA) ⊕ (DA)) :=
  gd (inR v4 ∧ inR 5) <|
  if 5 ≤ v4 then (some (.inr d)) else
  gd (inR (d.1 o 28)) <|
  if (d.1 o 28) = 0 then (b1 (X12_cell v3 v2 v4 d) fun x10 =>
  b1 (X12_cell v2 v3 v4 d) fun x11 =>
  gd (ix x11 125) <|
  gd (ix x10 125) <|
  lt9 (wI d (o + 3) (Int.toNat x10) (d.1 (o + 3) (Int.toNat x11))) fun d12 =>
  some (.inl (v4 + 1, d12))) else
  some (.inr d)
theorem X12_readLine_wb88 {K : KT} (hK : Ok9 K cX12_readLine RX12 5 (some .int) 8 245) {o : Nat} (hw : W_12 (kσ K) o) {v1 v2 v3 v4 : Int} {d : DA} {y : (Int × DA) ⊕ (DA)} (h : X12_readLine_b88 o v1 v2 v3 v4 d = some y) (hk : S2 (X12_readLine_T88 K o v1 v2 v3) (X12_readLine_F88 K o v1 v2 v3) y) : J K 5 d [(0, rf K o), (1, vi v1), (2, vi v2), (3, vi v3), (4, vi v4)] 88 [] :=
  j_iload hK (dc9 DX12_readLine 51 rfl) 4 rfl (j_iconst hK (dc9 DX12_readLine 52 rfl) (j_icmp_ge hK (dj9 DX12_readLine 53 131 rfl rfl) h (fun h => j_sub [1, 2, 3] rfl ((have z := lf9 h hk; z))) (fun h =>
  j_aload_n hK (dc9 DX12_readLine 54 rfl) 0 rfl rfl (j_getI hK (hw.1) fl12_223 rfl (dc9 DX12_readLine 55 rfl) (j_if_ne hK (dj9 DX12_readLine 56 131 rfl rfl) h (fun h => j_sub [1, 2, 3] rfl ((have z := lf9 h hk; z))) (fun h =>
  j_aload_n hK (dc9 DX12_readLine 57 rfl) 0 rfl rfl (j_getR hK (hw.1) fl12_23 rfl (hw.2.2.2.1.1) (hw.2.2.2.1.2.1) (dc9 DX12_readLine 58 rfl) (j_iload_n hK (dc9 DX12_readLine 59 rfl) 3 rfl rfl (j_iload_n hK (dc9 DX12_readLine 60 rfl) 2 rfl rfl (j_iload hK (dc9 DX12_readLine 61 rfl) 4 rfl (b19 h fun x10 hc h => j_cS hK (c_X12_cell (hst9 hK)  hc) cl12_172 cd_X12_cell sm_X12_cell (Nat.le_of_ble_eq_true rfl) (Nat.le_of_ble_eq_true rfl) rfl (st := [rf K (o + 3)]) rfl (Nat.le_of_ble_eq_true rfl) (dc9 DX12_readLine 62 rfl) rfl (j_aload_n hK (dc9 DX12_readLine 63 rfl) 0 rfl rfl (j_getR hK (hw.1) fl12_23 rfl (hw.2.2.2.1.1) (hw.2.2.2.1.2.1) (dc9 DX12_readLine 64 rfl) (j_iload_n hK (dc9 DX12_readLine 65 rfl) 2 rfl rfl (j_iload_n hK (dc9 DX12_readLine 66 rfl) 3 rfl rfl (j_iload hK (dc9 DX12_readLine 67 rfl) 4 rfl (b19 h fun x11 hc h => j_cS hK (c_X12_cell (hst9 hK)  hc) cl12_172 cd_X12_cell sm_X12_cell (Nat.le_of_ble_eq_true rfl) (Nat.le_of_ble_eq_true rfl) rfl (st := [rf K (o + 3), vi x10, rf K (o + 3)]) rfl (Nat.le_of_ble_eq_true rfl) (dc9 DX12_readLine 68 rfl) rfl (j_iald hK (hw.2.2.2.1.2) (Nat.le_of_ble_eq_true rfl) (dc9 DX12_readLine 69 rfl) h fun h => (j_iast hK (hw.2.2.2.1.2) (Nat.le_of_ble_eq_true rfl) (dc9 DX12_readLine 70 rfl) h fun d12 h => (j_iinc hK (dc9 DX12_readLine 71 rfl) 4 rfl (Nat.le_of_ble_eq_true rfl) rfl (j_goto hK (dj9 DX12_readLine 72 88 rfl rfl) (j_sub [1, 2, 3, 4, 0] rfl ((have z := lf9 h hk; z))))))))))))))))))))))))
def X12_readLine_j131 (o : Nat) (v1 v2 v3 : Int) (d : DA) : Option (Int × DA) :=
  some ((ior9 (ior9 v1 (ishl9 1 ((5 * v2) + v3))) (ishl9 1 ((5 * v3) + v2)), d))
theorem X12_readLine_wj131 {K : KT} (hK : Ok9 K cX12_readLine RX12 5 (some .int) 8 245) {o : Nat} (hw : W_12 (kσ K) o) {v1 v2 v3 : Int} {d : DA} {y : Int × DA} (h : X12_readLine_j131 o v1 v2 v3 d = some y) (hk : (FI K) y) : J K 5 d [(1, vi v1), (2, vi v2), (3, vi v3)] 131 [] :=
  j_iload_n hK (dc9 DX12_readLine 73 rfl) 0 rfl rfl (j_iconst hK (dc9 DX12_readLine 74 rfl) (j_iconst hK (dc9 DX12_readLine 75 rfl) (j_iload_n hK (dc9 DX12_readLine 76 rfl) 1 rfl rfl (j_imul hK (dc9 DX12_readLine 77 rfl) (j_iload_n hK (dc9 DX12_readLine 78 rfl) 2 rfl rfl (j_iadd hK (dc9 DX12_readLine 79 rfl) (j_ishl hK (dc9 DX12_readLine 80 rfl) (j_ior hK (dc9 DX12_readLine 81 rfl) (j_iconst hK (dc9 DX12_readLine 82 rfl) (j_iconst hK (dc9 DX12_readLine 83 rfl) (j_iload_n hK (dc9 DX12_readLine 84 rfl) 2 rfl rfl (j_imul hK (dc9 DX12_readLine 85 rfl) (j_iload_n hK (dc9 DX12_readLine 86 rfl) 1 rfl rfl (j_iadd hK (dc9 DX12_readLine 87 rfl) (j_ishl hK (dc9 DX12_readLine 88 rfl) (j_ior hK (dc9 DX12_readLine 89 rfl) (j_iret hK (dc9 DX12_readLine 90 rfl) (have z := lf9 h hk; z))))))))))))))))))
def X12_readLine_j79 (o : Nat) (v1 v2 v3 : Int) (d : DA) : Option (Int × DA) :=
  bd (X12_mark o 59 d) fun _ d9 =>
  lpE (fun q => X12_readLine_b88 o v1 v2 v3 q.1 q.2) (0, d9) (fun e => X12_readLine_j131 o v1 v2 v3 e)
theorem X12_readLine_wj79 {K : KT} (hK : Ok9 K cX12_readLine RX12 5 (some .int) 8 245) {o : Nat} (hw : W_12 (kσ K) o) {v1 v2 v3 : Int} {d : DA} {y : Int × DA} (h : X12_readLine_j79 o v1 v2 v3 d = some y) (hk : (FI K) y) : J K 5 d [(0, rf K o), (1, vi v1), (2, vi v2), (3, vi v3)] 79 [] :=
  j_aload_n hK (dc9 DX12_readLine 46 rfl) 0 rfl rfl (j_bipush hK (dc9 DX12_readLine 47 rfl) (by decide) (bd9 h fun _ d9 hc h => j_cV hK (c_X12_mark (hst9 hK) (hw) hc) cl12_262 cd_X12_mark im_X12_mark se_X12_mark (hw.1) (Nat.le_of_ble_eq_true rfl) rfl (Nat.le_of_ble_eq_true rfl) (Nat.le_of_ble_eq_true rfl) rfl (st := []) rfl (Nat.le_of_ble_eq_true rfl) (dc9 DX12_readLine 48 rfl) rfl (j_iconst hK (dc9 DX12_readLine 49 rfl) (j_istore hK (dc9 DX12_readLine 50 rfl) (Nat.le_of_ble_eq_true rfl) rfl (j_sub [1, 2, 3, 4, 0] rfl ((have z := j_lpE (X12_readLine_T88 K o v1 v2 v3) (X12_readLine_F88 K o v1 v2 v3) h (fun q y h hk => X12_readLine_wb88 hK hw h hk) (fun e h => X12_readLine_wj131 hK hw h hk); z)))))))
def X12_readLine_j37 (o : Nat) (v1 v2 v3 : Int) (d : DA) : Option (Int × DA) :=
  gd (inR (d.1 o 28)) <|
  if (d.1 o 28) = 0 then (bd (X12_stepOn o d) fun _ d5 =>
  bd (X12_mark o 61 d5) fun _ d6 =>
  b1 (X12_is o 1 d6) fun x7 =>
  gd (inR x7) <|
  if x7 = 0 then (bd (X12_readSum o v2 v3 d6) fun _ d8 =>
  X12_readLine_j79 o v1 v2 v3 d8) else
  bd (X12_stepOn o d6) fun _ d13 =>
  X12_readLine_j79 o v1 v2 v3 d13) else
  some ((v1, d))
theorem X12_readLine_wj37 {K : KT} (hK : Ok9 K cX12_readLine RX12 5 (some .int) 8 245) {o : Nat} (hw : W_12 (kσ K) o) {v1 v2 v3 : Int} {d : DA} {y : Int × DA} (h : X12_readLine_j37 o v1 v2 v3 d = some y) (hk : (FI K) y) : J K 5 d [(0, rf K o), (1, vi v1), (2, vi v2), (3, vi v3)] 37 [] :=
  j_aload_n hK (dc9 DX12_readLine 25 rfl) 0 rfl rfl (j_getI hK (hw.1) fl12_223 rfl (dc9 DX12_readLine 26 rfl) (j_if_eq hK (dj9 DX12_readLine 27 46 rfl rfl) h (fun h => j_aload_n hK (dc9 DX12_readLine 30 rfl) 0 rfl rfl (bd9 h fun _ d5 hc h => j_cV hK (c_X12_stepOn (hst9 hK) (hw) hc) cl12_247 cd_X12_stepOn im_X12_stepOn se_X12_stepOn (hw.1) (Nat.le_of_ble_eq_true rfl) rfl (Nat.le_of_ble_eq_true rfl) (Nat.le_of_ble_eq_true rfl) rfl (st := []) rfl (Nat.le_of_ble_eq_true rfl) (dc9 DX12_readLine 31 rfl) rfl (j_aload_n hK (dc9 DX12_readLine 32 rfl) 0 rfl rfl (j_bipush hK (dc9 DX12_readLine 33 rfl) (by decide) (bd9 h fun _ d6 hc h => j_cV hK (c_X12_mark (hst9 hK) (hw) hc) cl12_262 cd_X12_mark im_X12_mark se_X12_mark (hw.1) (Nat.le_of_ble_eq_true rfl) rfl (Nat.le_of_ble_eq_true rfl) (Nat.le_of_ble_eq_true rfl) rfl (st := []) rfl (Nat.le_of_ble_eq_true rfl) (dc9 DX12_readLine 34 rfl) rfl (j_aload_n hK (dc9 DX12_readLine 35 rfl) 0 rfl rfl (j_lds3 hK (dc9 DX12_readLine 36 rfl) (b19 h fun x7 hc h => j_cV hK (c_X12_is (hst9 hK) (hw) ((Nat.le_of_ble_eq_true rfl)) hc) cl12_239 cd_X12_is im_X12_is se_X12_is (hw.1) (Nat.le_of_ble_eq_true rfl) rfl (Nat.le_of_ble_eq_true rfl) (Nat.le_of_ble_eq_true rfl) rfl (st := []) rfl (Nat.le_of_ble_eq_true rfl) (dc9 DX12_readLine 37 rfl) rfl (j_if_eq hK (dj9 DX12_readLine 38 73 rfl rfl) h (fun h => j_aload_n hK (dc9 DX12_readLine 42 rfl) 0 rfl rfl (j_iload_n hK (dc9 DX12_readLine 43 rfl) 2 rfl rfl (j_iload_n hK (dc9 DX12_readLine 44 rfl) 3 rfl rfl (bd9 h fun _ d8 hc h => j_cV hK (c_X12_readSum (hst9 hK) (hw) hc) cl12_267 cd_X12_readSum im_X12_readSum se_X12_readSum (hw.1) (Nat.le_of_ble_eq_true rfl) rfl (Nat.le_of_ble_eq_true rfl) (Nat.le_of_ble_eq_true rfl) rfl (st := []) rfl (Nat.le_of_ble_eq_true rfl) (dc9 DX12_readLine 45 rfl) rfl (X12_readLine_wj79 hK hw h hk))))) (fun h =>
  j_aload_n hK (dc9 DX12_readLine 39 rfl) 0 rfl rfl (bd9 h fun _ d13 hc h => j_cV hK (c_X12_stepOn (hst9 hK) (hw) hc) cl12_247 cd_X12_stepOn im_X12_stepOn se_X12_stepOn (hw.1) (Nat.le_of_ble_eq_true rfl) rfl (Nat.le_of_ble_eq_true rfl) (Nat.le_of_ble_eq_true rfl) rfl (st := []) rfl (Nat.le_of_ble_eq_true rfl) (dc9 DX12_readLine 40 rfl) rfl (j_goto hK (dj9 DX12_readLine 41 79 rfl rfl) (X12_readLine_wj79 hK hw h hk))))))))))))) (fun h =>
  j_iload_n hK (dc9 DX12_readLine 28 rfl) 1 rfl rfl (j_iret hK (dc9 DX12_readLine 29 rfl) (have z := lf9 h hk; z)))))
def X12_readLine (o : Nat) (v1 : Int) (d : DA) : Option (Int × DA) :=
  bd (X12_readKind o 1 d) fun x2 d1 =>
  bd (X12_kindNow o 1 d1) fun x4 d3 =>
  gd (inR (d3.1 o 28)) <|
  if (d3.1 o 28) = 0 then (gd (inR (iand9 (ishr9 v1 ((5 * x2) + x4)) 1) ∧ inR 1) <|
  if (iand9 (ishr9 v1 ((5 * x2) + x4)) 1) = 1 then (bd (X12_wrong o 4 d3) fun _ d14 =>
  X12_readLine_j37 o v1 x2 x4 d14) else
  X12_readLine_j37 o v1 x2 x4 d3) else
  X12_readLine_j37 o v1 x2 x4 d3
theorem X12_readLine_w {K : KT} (hK : Ok9 K cX12_readLine RX12 5 (some .int) 8 245) {o : Nat} (hw : W_12 (kσ K) o) {v1 : Int} {d : DA} {y : Int × DA} (h : X12_readLine o v1 d = some y) (hk : (FI K) y) : J K 5 d [(0, rf K o), (1, vi v1)] 0 [] :=
  j_aload_n hK (dc9 DX12_readLine 0 rfl) 0 rfl rfl (j_iconst hK (dc9 DX12_readLine 1 rfl) (bd9 h fun x2 d1 hc h => j_cV hK (c_X12_readKind (hst9 hK) (hw) hc) cl12_259 cd_X12_readKind im_X12_readKind se_X12_readKind (hw.1) (Nat.le_of_ble_eq_true rfl) rfl (Nat.le_of_ble_eq_true rfl) (Nat.le_of_ble_eq_true rfl) rfl (st := []) rfl (Nat.le_of_ble_eq_true rfl) (dc9 DX12_readLine 2 rfl) rfl (j_istore_n hK (dc9 DX12_readLine 3 rfl) rfl (Nat.le_of_ble_eq_true rfl) rfl (j_aload_n hK (dc9 DX12_readLine 4 rfl) 1 rfl rfl (j_iconst hK (dc9 DX12_readLine 5 rfl) (bd9 h fun x4 d3 hc h => j_cV hK (c_X12_kindNow (hst9 hK) (hw) hc) cl12_256 cd_X12_kindNow im_X12_kindNow se_X12_kindNow (hw.1) (Nat.le_of_ble_eq_true rfl) rfl (Nat.le_of_ble_eq_true rfl) (Nat.le_of_ble_eq_true rfl) rfl (st := []) rfl (Nat.le_of_ble_eq_true rfl) (dc9 DX12_readLine 6 rfl) rfl (j_istore_n hK (dc9 DX12_readLine 7 rfl) rfl (Nat.le_of_ble_eq_true rfl) rfl (j_aload_n hK (dc9 DX12_readLine 8 rfl) 2 rfl rfl (j_getI hK (hw.1) fl12_223 rfl (dc9 DX12_readLine 9 rfl) (j_if_ne hK (dj9 DX12_readLine 10 37 rfl rfl) h (fun h => j_sub [2, 3, 1, 0] rfl (X12_readLine_wj37 hK hw h hk)) (fun h =>
  j_iload_n hK (dc9 DX12_readLine 11 rfl) 3 rfl rfl (j_iconst hK (dc9 DX12_readLine 12 rfl) (j_iload_n hK (dc9 DX12_readLine 13 rfl) 1 rfl rfl (j_imul hK (dc9 DX12_readLine 14 rfl) (j_iload_n hK (dc9 DX12_readLine 15 rfl) 0 rfl rfl (j_iadd hK (dc9 DX12_readLine 16 rfl) (j_ishr hK (dc9 DX12_readLine 17 rfl) (j_iconst hK (dc9 DX12_readLine 18 rfl) (j_iand hK (dc9 DX12_readLine 19 rfl) (j_iconst hK (dc9 DX12_readLine 20 rfl) (j_icmp_ne hK (dj9 DX12_readLine 21 37 rfl rfl) h (fun h => j_sub [2, 3, 1, 0] rfl (X12_readLine_wj37 hK hw h hk)) (fun h =>
  j_aload_n hK (dc9 DX12_readLine 22 rfl) 2 rfl rfl (j_iconst hK (dc9 DX12_readLine 23 rfl) (bd9 h fun _ d14 hc h => j_cV hK (c_X12_wrong (hst9 hK) (hw) hc) cl12_243 cd_X12_wrong im_X12_wrong se_X12_wrong (hw.1) (Nat.le_of_ble_eq_true rfl) rfl (Nat.le_of_ble_eq_true rfl) (Nat.le_of_ble_eq_true rfl) rfl (st := []) rfl (Nat.le_of_ble_eq_true rfl) (dc9 DX12_readLine 24 rfl) rfl (j_sub [2, 3, 1, 0] rfl (X12_readLine_wj37 hK hw h hk))))))))))))))))))))))))))
theorem c_X12_readLine {G : GT} {l : Launch} {ad : Nat → Nat} {σ : HS} {d d' : DA} (hst : l.stackTraces = false) {o : Nat} (hw : W_12 σ o) {v1 : Int} {r : Int} (h : X12_readLine o v1 d = some (r, d')) : Ct G l yX12_readLine cX12_readLine 5 (some .int) 8 245 ad (wD σ d) [.ref (ad o), vi v1] (some (vi r)) (wD σ d') :=
  ct_of hst rfl (Nat.le_of_ble_eq_true rfl) (fun K e0 e9 e1 e2 e3 hK => by subst e0; subst e9; subst e1; subst e2; exact X12_readLine_w hK hw h e3)
/-! X12_characterOn -/
theorem DX12_characterOn : Dt cX12_characterOn [(0, .iload_n 1, 1, 1), (1, .aload_n 0, 1, 2), (2, .getfield 7, 3, 5), (5, .if_icmp .ne 46, 3, 8), (8, .aload_n 0, 1, 9), (9, .dup, 1, 10), (10, .getfield 384, 3, 13), (13, .aload_n 0, 1, 14), (14, .getfield 388, 3, 17), (17, .aload_n 0, 1, 18), (18, .getfield 391, 3, 21), (21, .if_icmp .ne 7, 3, 24), (24, .iconst 1, 1, 25), (25, .goto 4, 3, 28), (28, .iconst 0, 1, 29), (29, .ior, 1, 30), (30, .putfield 384, 3, 33), (33, .aload_n 0, 1, 34), (34, .getfield 384, 3, 37), (37, .ifCond .ne 13, 3, 40), (40, .aload_n 0, 1, 41), (41, .dup, 1, 42), (42, .getfield 388, 3, 45), (45, .iconst 1, 1, 46), (46, .iadd, 1, 47), (47, .putfield 388, 3, 50), (50, .return_, 1, 51), (51, .iconst 0, 1, 52), (52, .istore_n 2, 1, 53), (53, .iload_n 2, 1, 54), (54, .aload_n 0, 1, 55), (55, .getfield 13, 3, 58), (58, .if_icmp .ge 38, 3, 61), (61, .aload_n 0, 1, 62), (62, .getfield 384, 3, 65), (65, .ifCond .ne 31, 3, 68), (68, .aload_n 0, 1, 69), (69, .getfield 84, 3, 72), (72, .iload_n 1, 1, 73), (73, .iload_n 2, 1, 74), (74, .iastore, 1, 75), (75, .aload_n 0, 1, 76), (76, .iload_n 1, 1, 77), (77, .invokevirtual 394, 3, 80), (80, .ifCond .eq 10, 3, 83), (83, .aload_n 0, 1, 84), (84, .iload_n 1, 1, 85), (85, .iconst 1, 1, 86), (86, .iadd, 1, 87), (87, .invokevirtual 397, 3, 90), (90, .iinc 2 1, 3, 93), (93, .goto (-40), 3, 96), (96, .return_, 1, 97)] := by unfold Dt; decide +kernel
def X12_characterOn_T53 (K : KT) (o : Nat) (v1 : Int) (q : Int × DA) : Prop := J K 3 q.2 [(0, rf K o), (1, vi v1), (2, vi (q.1))] 53 []
def X12_characterOn_F53 (K : KT) (o : Nat) (v1 : Int) (q : DA) : Prop := J K 3 q [] 96 []
def X12_characterOn_b53 (o : Nat) (g : Int → DA → Option (Unit × DA)) (v1 v2 : Int) (d : DA) : Option ((Int × DA) ⊕ (DA)) :=
  gd (inR v2 ∧ inR (d.1 o 4)) <|
  if (d.1 o 4) ≤ v2 then (some (.inr d)) else
  gd (inR (d.1 o 47)) <|
  if (d.1 o 47) = 0 then (gd (ix v1 5) <|
  lt9 (wI d (o + 22) (Int.toNat v1) v2) fun d1 =>
  b1 (X12_isCharacter o v1 d1) fun x2 =>
  gd (inR x2) <|
  if x2 = 0 then (some (.inl (v2 + 1, d1))) else
  bd (g (v1 + 1) d1) fun _ d3 =>
  some (.inl (v2 + 1, d3))) else
  some (.inr d)
theorem X12_characterOn_wb53 {K : KT} {fr0 lo0 : Nat} (hK : Ok9 K cX12_characterOn RX12 3 none (fr0 + 3) (lo0 + 71)) {o : Nat} {g : Int → DA → Option (Unit × DA)} (hw : W_12 (kσ K) o) (hg : ∀ (v1 : Int) (r : Unit) (d d' : DA), g v1 d = some (r, d') → CtK K yX12_characterOn cX12_characterOn 3 none fr0 lo0 d [rf K o, vi v1] none d') {v1 v2 : Int} {d : DA} {y : (Int × DA) ⊕ (DA)} (h : X12_characterOn_b53 o g v1 v2 d = some y) (hk : S2 (X12_characterOn_T53 K o v1) (X12_characterOn_F53 K o v1) y) : J K 3 d [(0, rf K o), (1, vi v1), (2, vi v2)] 53 [] :=
  j_iload_n hK (dc9 DX12_characterOn 29 rfl) 2 rfl rfl (j_aload_n hK (dc9 DX12_characterOn 30 rfl) 0 rfl rfl (j_getI hK (hw.1) fl12_13 rfl (dc9 DX12_characterOn 31 rfl) (j_icmp_ge hK (dj9 DX12_characterOn 32 96 rfl rfl) h (fun h => j_sub [] rfl ((have z := lf9 h hk; z))) (fun h =>
  j_aload_n hK (dc9 DX12_characterOn 33 rfl) 0 rfl rfl (j_getI hK (hw.1) fl12_384 rfl (dc9 DX12_characterOn 34 rfl) (j_if_ne hK (dj9 DX12_characterOn 35 96 rfl rfl) h (fun h => j_sub [] rfl ((have z := lf9 h hk; z))) (fun h =>
  j_aload_n hK (dc9 DX12_characterOn 36 rfl) 0 rfl rfl (j_getR hK (hw.1) fl12_84 rfl (hw.2.2.2.2.2.2.2.2.2.2.2.2.2.2.2.2.2.2.2.2.2.2.1.1) (hw.2.2.2.2.2.2.2.2.2.2.2.2.2.2.2.2.2.2.2.2.2.2.1.2.1) (dc9 DX12_characterOn 37 rfl) (j_iload_n hK (dc9 DX12_characterOn 38 rfl) 1 rfl rfl (j_iload_n hK (dc9 DX12_characterOn 39 rfl) 2 rfl rfl (j_iast hK (hw.2.2.2.2.2.2.2.2.2.2.2.2.2.2.2.2.2.2.2.2.2.2.1.2) (Nat.le_of_ble_eq_true rfl) (dc9 DX12_characterOn 40 rfl) h fun d1 h => (j_aload_n hK (dc9 DX12_characterOn 41 rfl) 0 rfl rfl (j_iload_n hK (dc9 DX12_characterOn 42 rfl) 1 rfl rfl (b19 h fun x2 hc h => j_cV hK (c_X12_isCharacter (hst9 hK) (hw) hc) cl12_394 cd_X12_isCharacter im_X12_isCharacter se_X12_isCharacter (hw.1) (Nat.le_of_ble_eq_true rfl) rfl (by omega) (by omega) rfl (st := []) rfl (Nat.le_of_ble_eq_true rfl) (dc9 DX12_characterOn 43 rfl) rfl (j_if_eq hK (dj9 DX12_characterOn 44 90 rfl rfl) h (fun h => j_iinc hK (dc9 DX12_characterOn 50 rfl) 2 rfl (Nat.le_of_ble_eq_true rfl) rfl (j_goto hK (dj9 DX12_characterOn 51 53 rfl rfl) (j_sub [1, 2, 0] rfl ((have z := lf9 h hk; z))))) (fun h =>
  j_aload_n hK (dc9 DX12_characterOn 45 rfl) 0 rfl rfl (j_iload_n hK (dc9 DX12_characterOn 46 rfl) 1 rfl rfl (j_iconst hK (dc9 DX12_characterOn 47 rfl) (j_iadd hK (dc9 DX12_characterOn 48 rfl) (bd9 h fun _ d3 hc h => j_cV hK (hg _ _ _ _ hc) cl12_397 cd_X12_characterOn im_X12_characterOn se_X12_characterOn (hw.1) (Nat.le_of_ble_eq_true rfl) rfl (by omega) (by omega) rfl (st := []) rfl (Nat.le_of_ble_eq_true rfl) (dc9 DX12_characterOn 49 rfl) rfl (j_iinc hK (dc9 DX12_characterOn 50 rfl) 2 rfl (Nat.le_of_ble_eq_true rfl) rfl (j_goto hK (dj9 DX12_characterOn 51 53 rfl rfl) (j_sub [1, 2, 0] rfl ((have z := lf9 h hk; z)))))))))))))))))))))))))
def X12_characterOn_j29 (o : Nat) (g : Int → DA → Option (Unit × DA)) (s1 s2 : Int) (d : DA) : Option (Unit × DA) :=
  gd (ior9 s1 s2 = 0 ∨ ior9 s1 s2 = 1) <|
  lt9 (wI d o 47 (ior9 s1 s2)) fun d4 =>
  gd (inR (d4.1 o 47)) <|
  if (d4.1 o 47) = 0 then (lt9 (wI d4 o 45 ((d4.1 o 45) + 1)) fun d5 =>
  some (((), d5))) else
  some (((), d4))
theorem X12_characterOn_wj29 {K : KT} {fr0 lo0 : Nat} (hK : Ok9 K cX12_characterOn RX12 3 none (fr0 + 3) (lo0 + 71)) {o : Nat} {g : Int → DA → Option (Unit × DA)} (hw : W_12 (kσ K) o) (hg : ∀ (v1 : Int) (r : Unit) (d d' : DA), g v1 d = some (r, d') → CtK K yX12_characterOn cX12_characterOn 3 none fr0 lo0 d [rf K o, vi v1] none d') {s1 s2 : Int} {d : DA} {y : Unit × DA} (h : X12_characterOn_j29 o g s1 s2 d = some y) (hk : (FV K) y) : J K 3 d [(0, rf K o)] 29 [vi s2, vi s1, rf K o] :=
  j_ior hK (dc9 DX12_characterOn 15 rfl) (j_putZ hK (hw.1) fl12_384 fp12_384 rfl (dc9 DX12_characterOn 16 rfl) h fun d4 h => (j_aload_n hK (dc9 DX12_characterOn 17 rfl) 0 rfl rfl (j_getI hK (hw.1) fl12_384 rfl (dc9 DX12_characterOn 18 rfl) (j_if_ne hK (dj9 DX12_characterOn 19 50 rfl rfl) h (fun h => j_vret hK (dc9 DX12_characterOn 26 rfl) (have z := lf9 h hk; z)) (fun h =>
  j_aload_n hK (dc9 DX12_characterOn 20 rfl) 0 rfl rfl (j_dup hK (dc9 DX12_characterOn 21 rfl) rfl (j_getI hK (hw.1) fl12_388 rfl (dc9 DX12_characterOn 22 rfl) (j_iconst hK (dc9 DX12_characterOn 23 rfl) (j_iadd hK (dc9 DX12_characterOn 24 rfl) (j_putI hK (hw.1) fl12_388 fp12_388 rfl (dc9 DX12_characterOn 25 rfl) h fun d5 h => (j_vret hK (dc9 DX12_characterOn 26 rfl) (have z := lf9 h hk; z))))))))))))
def X12_characterOn_m (o : Nat) (g : Int → DA → Option (Unit × DA)) (v1 : Int) (d : DA) : Option (Unit × DA) :=
  gd (inR v1 ∧ inR (d.1 o 1)) <|
  if v1 = (d.1 o 1) then (gd (inR (d.1 o 45) ∧ inR (d.1 o 46)) <|
  if (d.1 o 45) = (d.1 o 46) then (X12_characterOn_j29 o g (d.1 o 47) 1 d) else
  X12_characterOn_j29 o g (d.1 o 47) 0 d) else
  lpE (fun q => X12_characterOn_b53 o g v1 q.1 q.2) (0, d) (fun e => some (((), e)))
theorem X12_characterOn_w {K : KT} {fr0 lo0 : Nat} (hK : Ok9 K cX12_characterOn RX12 3 none (fr0 + 3) (lo0 + 71)) {o : Nat} {g : Int → DA → Option (Unit × DA)} (hw : W_12 (kσ K) o) (hg : ∀ (v1 : Int) (r : Unit) (d d' : DA), g v1 d = some (r, d') → CtK K yX12_characterOn cX12_characterOn 3 none fr0 lo0 d [rf K o, vi v1] none d') {v1 : Int} {d : DA} {y : Unit × DA} (h : X12_characterOn_m o g v1 d = some y) (hk : (FV K) y) : J K 3 d [(0, rf K o), (1, vi v1)] 0 [] :=
  j_iload_n hK (dc9 DX12_characterOn 0 rfl) 1 rfl rfl (j_aload_n hK (dc9 DX12_characterOn 1 rfl) 0 rfl rfl (j_getI hK (hw.1) fl12_7 rfl (dc9 DX12_characterOn 2 rfl) (j_icmp_ne hK (dj9 DX12_characterOn 3 51 rfl rfl) h (fun h => j_iconst hK (dc9 DX12_characterOn 27 rfl) (j_istore_n hK (dc9 DX12_characterOn 28 rfl) rfl (Nat.le_of_ble_eq_true rfl) rfl (j_sub [1, 2, 0] rfl ((have z := j_lpE (X12_characterOn_T53 K o v1) (X12_characterOn_F53 K o v1) h (fun q y h hk => X12_characterOn_wb53 hK hw hg h hk) (fun e h => j_vret hK (dc9 DX12_characterOn 52 rfl) (have z := lf9 h hk; z)); z))))) (fun h =>
  j_aload_n hK (dc9 DX12_characterOn 4 rfl) 0 rfl rfl (j_dup hK (dc9 DX12_characterOn 5 rfl) rfl (j_getI hK (hw.1) fl12_384 rfl (dc9 DX12_characterOn 6 rfl) (j_aload_n hK (dc9 DX12_characterOn 7 rfl) 0 rfl rfl (j_getI hK (hw.1) fl12_388 rfl (dc9 DX12_characterOn 8 rfl) (j_aload_n hK (dc9 DX12_characterOn 9 rfl) 0 rfl rfl (j_getI hK (hw.1) fl12_391 rfl (dc9 DX12_characterOn 10 rfl) (j_icmp_ne hK (dj9 DX12_characterOn 11 28 rfl rfl) h (fun h => j_iconst hK (dc9 DX12_characterOn 14 rfl) (j_sub [0] rfl (X12_characterOn_wj29 hK hw hg h hk))) (fun h =>
  j_iconst hK (dc9 DX12_characterOn 12 rfl) (j_goto hK (dj9 DX12_characterOn 13 29 rfl rfl) (j_sub [0] rfl (X12_characterOn_wj29 hK hw hg h hk)))))))))))))))
def X12_characterOn (o : Nat) : Nat → Int → DA → Option (Unit × DA)
  | 0, _, _ => none
  | n + 1, v1, d => X12_characterOn_m o (X12_characterOn o n) v1 d
theorem c_X12_characterOn (n : Nat) {G : GT} {l : Launch} {ad : Nat → Nat} {σ : HS} (hst : l.stackTraces = false) {o : Nat} (hw : W_12 σ o) {v1 : Int} {r : Unit} {d d' : DA} (h : X12_characterOn o n v1 d = some (r, d')) : Ct G l yX12_characterOn cX12_characterOn 3 none (3 * n) (71 * n) ad (wD σ d) [.ref (ad o), vi v1] none (wD σ d') := by
  induction n generalizing v1 r d d' with
  | zero => cases h
  | succ n ih =>
    refine ct_of hst rfl (Nat.le_of_ble_eq_true rfl) (fun K e0 e9 e1 e2 e3 hK => ?_)
    subst e0; subst e9; subst e1; subst e2
    exact X12_characterOn_w (fr0 := 3 * n) (lo0 := 71 * n) hK hw (g := X12_characterOn o n) (fun _ _ _ _ hc => ih hc) h e3
/-! X12_findCharacter -/
theorem DX12_findCharacter : Dt cX12_findCharacter [(0, .aload_n 0, 1, 1), (1, .getfield 84, 3, 4), (4, .iconst 0, 1, 5), (5, .iconst 1, 1, 6), (6, .iastore, 1, 7), (7, .aload_n 0, 1, 8), (8, .iconst 0, 1, 9), (9, .putfield 388, 3, 12), (12, .aload_n 0, 1, 13), (13, .iload_n 1, 1, 14), (14, .putfield 391, 3, 17), (17, .aload_n 0, 1, 18), (18, .iconst 0, 1, 19), (19, .putfield 384, 3, 22), (22, .aload_n 0, 1, 23), (23, .iconst 1, 1, 24), (24, .invokevirtual 397, 3, 27), (27, .aload_n 0, 1, 28), (28, .getfield 384, 3, 31), (31, .ireturn, 1, 32)] := by unfold Dt; decide +kernel
def X12_findCharacter (o : Nat) (v1 : Int) (d : DA) : Option (Int × DA) :=
  gd (ix 0 5) <|
  lt9 (wI d (o + 22) (Int.toNat 0) 1) fun d1 =>
  lt9 (wI d1 o 45 0) fun d2 =>
  lt9 (wI d2 o 46 v1) fun d3 =>
  gd (0 = 0 ∨ 0 = 1) <|
  lt9 (wI d3 o 47 0) fun d4 =>
  bd (X12_characterOn o 12 1 d4) fun _ d5 =>
  gd (d5.1 o 47 = 0 ∨ d5.1 o 47 = 1) <|
  some ((d5.1 o 47, d5))
theorem X12_findCharacter_w {K : KT} (hK : Ok9 K cX12_findCharacter RX12 2 (some .boolean) 37 874) {o : Nat} (hw : W_12 (kσ K) o) {v1 : Int} {d : DA} {y : Int × DA} (h : X12_findCharacter o v1 d = some y) (hk : (FI K) y) : J K 2 d [(0, rf K o), (1, vi v1)] 0 [] :=
  j_aload_n hK (dc9 DX12_findCharacter 0 rfl) 0 rfl rfl (j_getR hK (hw.1) fl12_84 rfl (hw.2.2.2.2.2.2.2.2.2.2.2.2.2.2.2.2.2.2.2.2.2.2.1.1) (hw.2.2.2.2.2.2.2.2.2.2.2.2.2.2.2.2.2.2.2.2.2.2.1.2.1) (dc9 DX12_findCharacter 1 rfl) (j_iconst hK (dc9 DX12_findCharacter 2 rfl) (j_iconst hK (dc9 DX12_findCharacter 3 rfl) (j_iast hK (hw.2.2.2.2.2.2.2.2.2.2.2.2.2.2.2.2.2.2.2.2.2.2.1.2) (Nat.le_of_ble_eq_true rfl) (dc9 DX12_findCharacter 4 rfl) h fun d1 h => (j_aload_n hK (dc9 DX12_findCharacter 5 rfl) 0 rfl rfl (j_iconst hK (dc9 DX12_findCharacter 6 rfl) (j_putI hK (hw.1) fl12_388 fp12_388 rfl (dc9 DX12_findCharacter 7 rfl) h fun d2 h => (j_aload_n hK (dc9 DX12_findCharacter 8 rfl) 0 rfl rfl (j_iload_n hK (dc9 DX12_findCharacter 9 rfl) 1 rfl rfl (j_putI hK (hw.1) fl12_391 fp12_391 rfl (dc9 DX12_findCharacter 10 rfl) h fun d3 h => (j_aload_n hK (dc9 DX12_findCharacter 11 rfl) 0 rfl rfl (j_iconst hK (dc9 DX12_findCharacter 12 rfl) (j_putZ hK (hw.1) fl12_384 fp12_384 rfl (dc9 DX12_findCharacter 13 rfl) h fun d4 h => (j_aload_n hK (dc9 DX12_findCharacter 14 rfl) 0 rfl rfl (j_iconst hK (dc9 DX12_findCharacter 15 rfl) (bd9 h fun _ d5 hc h => j_cV hK (c_X12_characterOn 12 (hst9 hK) (hw) hc) cl12_397 cd_X12_characterOn im_X12_characterOn se_X12_characterOn (hw.1) (Nat.le_of_ble_eq_true rfl) rfl (Nat.le_of_ble_eq_true rfl) (Nat.le_of_ble_eq_true rfl) rfl (st := []) rfl (Nat.le_of_ble_eq_true rfl) (dc9 DX12_findCharacter 16 rfl) rfl (j_aload_n hK (dc9 DX12_findCharacter 17 rfl) 0 rfl rfl (j_getI hK (hw.1) fl12_384 rfl (dc9 DX12_findCharacter 18 rfl) (gd9 h fun hz h => j_zret hK hz (dc9 DX12_findCharacter 19 rfl) (have z := lf9 h hk; z))))))))))))))))))))
theorem c_X12_findCharacter {G : GT} {l : Launch} {ad : Nat → Nat} {σ : HS} {d d' : DA} (hst : l.stackTraces = false) {o : Nat} (hw : W_12 σ o) {v1 : Int} {r : Int} (h : X12_findCharacter o v1 d = some (r, d')) : Ct G l yX12_findCharacter cX12_findCharacter 2 (some .boolean) 37 874 ad (wD σ d) [.ref (ad o), vi v1] (some (vi r)) (wD σ d') :=
  ct_of hst rfl (Nat.le_of_ble_eq_true rfl) (fun K e0 e9 e1 e2 e3 hK => by subst e0; subst e9; subst e1; subst e2; exact X12_findCharacter_w hK hw h e3)
/-! X12_character -/
theorem DX12_character : Dt cX12_character [(0, .aload_n 0, 1, 1), (1, .iconst 0, 1, 2), (2, .putfield 165, 3, 5), (5, .iload_n 1, 1, 6), (6, .iconst (-1), 1, 7), (7, .if_icmp .ne 14, 3, 10), (10, .aload_n 0, 1, 11), (11, .iconst (-1), 1, 12), (12, .invokevirtual 400, 3, 15), (15, .pop, 1, 16), (16, .aload_n 0, 1, 17), (17, .getfield 388, 3, 20), (20, .ireturn, 1, 21), (21, .aload_n 0, 1, 22), (22, .iload_n 2, 1, 23), (23, .invokevirtual 310, 3, 26), (26, .ifCond .eq 24, 3, 29), (29, .iload_n 1, 1, 30), (30, .ifCond .lt 20, 3, 33), (33, .aload_n 0, 1, 34), (34, .iload_n 1, 1, 35), (35, .invokevirtual 400, 3, 38), (38, .ifCond .eq 12, 3, 41), (41, .aload_n 0, 1, 42), (42, .getfield 84, 3, 45), (45, .iload_n 2, 1, 46), (46, .iaload, 1, 47), (47, .goto 8, 3, 50), (50, .aload_n 0, 1, 51), (51, .iconst 1, 1, 52), (52, .invokevirtual 271, 3, 55), (55, .ireturn, 1, 56)] := by unfold Dt; decide +kernel
def X12_character_j50 (o : Nat) (d : DA) : Option (Int × DA) :=
  bd (X12_fail o 1 d) fun x4 d3 =>
  some ((x4, d3))
theorem X12_character_wj50 {K : KT} (hK : Ok9 K cX12_character RX12 3 (some .int) 38 895) {o : Nat} (hw : W_12 (kσ K) o) {d : DA} {y : Int × DA} (h : X12_character_j50 o d = some y) (hk : (FI K) y) : J K 3 d [(0, rf K o)] 50 [] :=
  j_aload_n hK (dc9 DX12_character 28 rfl) 0 rfl rfl (j_iconst hK (dc9 DX12_character 29 rfl) (bd9 h fun x4 d3 hc h => j_cV hK (c_X12_fail (hst9 hK) (hw) hc) cl12_271 cd_X12_fail im_X12_fail se_X12_fail (hw.1) (Nat.le_of_ble_eq_true rfl) rfl (Nat.le_of_ble_eq_true rfl) (Nat.le_of_ble_eq_true rfl) rfl (st := []) rfl (Nat.le_of_ble_eq_true rfl) (dc9 DX12_character 30 rfl) rfl (j_iret hK (dc9 DX12_character 31 rfl) (have z := lf9 h hk; z))))
def X12_character (o : Nat) (v1 v2 : Int) (d : DA) : Option (Int × DA) :=
  lt9 (wI d o 0 0) fun d1 =>
  gd (inR v1 ∧ inR (-1)) <|
  if v1 = (-1) then (bd (X12_findCharacter o (-1) d1) fun x8 d7 =>
  some ((d7.1 o 45, d7))) else
  b1 (X12_isKind o v2 d1) fun x2 =>
  gd (inR x2) <|
  if x2 = 0 then (X12_character_j50 o d1) else
  gd (inR v1) <|
  if v1 < 0 then (X12_character_j50 o d1) else
  bd (X12_findCharacter o v1 d1) fun x6 d5 =>
  gd (inR x6) <|
  if x6 = 0 then (X12_character_j50 o d5) else
  gd (ix v2 5) <|
  some ((d5.1 (o + 22) (Int.toNat v2), d5))
theorem X12_character_w {K : KT} (hK : Ok9 K cX12_character RX12 3 (some .int) 38 895) {o : Nat} (hw : W_12 (kσ K) o) {v1 v2 : Int} {d : DA} {y : Int × DA} (h : X12_character o v1 v2 d = some y) (hk : (FI K) y) : J K 3 d [(0, rf K o), (1, vi v1), (2, vi v2)] 0 [] :=
  j_aload_n hK (dc9 DX12_character 0 rfl) 0 rfl rfl (j_iconst hK (dc9 DX12_character 1 rfl) (j_putI hK (hw.1) fl12_165 fp12_165 rfl (dc9 DX12_character 2 rfl) h fun d1 h => (j_iload_n hK (dc9 DX12_character 3 rfl) 1 rfl rfl (j_iconst hK (dc9 DX12_character 4 rfl) (j_icmp_ne hK (dj9 DX12_character 5 21 rfl rfl) h (fun h => j_aload_n hK (dc9 DX12_character 13 rfl) 0 rfl rfl (j_iload_n hK (dc9 DX12_character 14 rfl) 2 rfl rfl (b19 h fun x2 hc h => j_cV hK (c_X12_isKind (hst9 hK) (hw) hc) cl12_310 cd_X12_isKind im_X12_isKind se_X12_isKind (hw.1) (Nat.le_of_ble_eq_true rfl) rfl (Nat.le_of_ble_eq_true rfl) (Nat.le_of_ble_eq_true rfl) rfl (st := []) rfl (Nat.le_of_ble_eq_true rfl) (dc9 DX12_character 15 rfl) rfl (j_if_eq hK (dj9 DX12_character 16 50 rfl rfl) h (fun h => j_sub [0] rfl (X12_character_wj50 hK hw h hk)) (fun h =>
  j_iload_n hK (dc9 DX12_character 17 rfl) 1 rfl rfl (j_if_lt hK (dj9 DX12_character 18 50 rfl rfl) h (fun h => j_sub [0] rfl (X12_character_wj50 hK hw h hk)) (fun h =>
  j_aload_n hK (dc9 DX12_character 19 rfl) 0 rfl rfl (j_iload_n hK (dc9 DX12_character 20 rfl) 1 rfl rfl (bd9 h fun x6 d5 hc h => j_cV hK (c_X12_findCharacter (hst9 hK) (hw) hc) cl12_400 cd_X12_findCharacter im_X12_findCharacter se_X12_findCharacter (hw.1) (Nat.le_of_ble_eq_true rfl) rfl (Nat.le_of_ble_eq_true rfl) (Nat.le_of_ble_eq_true rfl) rfl (st := []) rfl (Nat.le_of_ble_eq_true rfl) (dc9 DX12_character 21 rfl) rfl (j_if_eq hK (dj9 DX12_character 22 50 rfl rfl) h (fun h => j_sub [0] rfl (X12_character_wj50 hK hw h hk)) (fun h =>
  j_aload_n hK (dc9 DX12_character 23 rfl) 0 rfl rfl (j_getR hK (hw.1) fl12_84 rfl (hw.2.2.2.2.2.2.2.2.2.2.2.2.2.2.2.2.2.2.2.2.2.2.1.1) (hw.2.2.2.2.2.2.2.2.2.2.2.2.2.2.2.2.2.2.2.2.2.2.1.2.1) (dc9 DX12_character 24 rfl) (j_iload_n hK (dc9 DX12_character 25 rfl) 2 rfl rfl (j_iald hK (hw.2.2.2.2.2.2.2.2.2.2.2.2.2.2.2.2.2.2.2.2.2.2.1.2) (Nat.le_of_ble_eq_true rfl) (dc9 DX12_character 26 rfl) h fun h => (j_goto hK (dj9 DX12_character 27 55 rfl rfl) (j_iret hK (dc9 DX12_character 31 rfl) (have z := lf9 h hk; z))))))))))))))))) (fun h =>
  j_aload_n hK (dc9 DX12_character 6 rfl) 0 rfl rfl (j_iconst hK (dc9 DX12_character 7 rfl) (bd9 h fun x8 d7 hc h => j_cV hK (c_X12_findCharacter (hst9 hK) (hw) hc) cl12_400 cd_X12_findCharacter im_X12_findCharacter se_X12_findCharacter (hw.1) (Nat.le_of_ble_eq_true rfl) rfl (Nat.le_of_ble_eq_true rfl) (Nat.le_of_ble_eq_true rfl) rfl (st := []) rfl (Nat.le_of_ble_eq_true rfl) (dc9 DX12_character 8 rfl) rfl (j_pop hK (dc9 DX12_character 9 rfl) rfl (j_aload_n hK (dc9 DX12_character 10 rfl) 0 rfl rfl (j_getI hK (hw.1) fl12_388 rfl (dc9 DX12_character 11 rfl) (j_iret hK (dc9 DX12_character 12 rfl) (have z := lf9 h hk; z)))))))))))))
theorem c_X12_character {G : GT} {l : Launch} {ad : Nat → Nat} {σ : HS} {d d' : DA} (hst : l.stackTraces = false) {o : Nat} (hw : W_12 σ o) {v1 v2 : Int} {r : Int} (h : X12_character o v1 v2 d = some (r, d')) : Ct G l yX12_character cX12_character 3 (some .int) 38 895 ad (wD σ d) [.ref (ad o), vi v1, vi v2] (some (vi r)) (wD σ d') :=
  ct_of hst rfl (Nat.le_of_ble_eq_true rfl) (fun K e0 e9 e1 e2 e3 hK => by subst e0; subst e9; subst e1; subst e2; exact X12_character_w hK hw h e3)
/-! X12_s -/
theorem DX12_s : Dt cX12_s [(0, .aload_n 0, 1, 1), (1, .iconst 0, 1, 2), (2, .putfield 165, 3, 5), (5, .aload_n 0, 1, 6), (6, .iload_n 2, 1, 7), (7, .invokevirtual 310, 3, 10), (10, .ifCond .eq 23, 3, 13), (13, .aload_n 0, 1, 14), (14, .iload_n 3, 1, 15), (15, .invokevirtual 310, 3, 18), (18, .ifCond .eq 15, 3, 21), (21, .iload_n 1, 1, 22), (22, .ifCond .lt 11, 3, 25), (25, .aload_n 0, 1, 26), (26, .iload_n 1, 1, 27), (27, .invokevirtual 400, 3, 30), (30, .ifCond .ne 9, 3, 33), (33, .aload_n 0, 1, 34), (34, .iconst 1, 1, 35), (35, .invokevirtual 271, 3, 38), (38, .ireturn, 1, 39), (39, .aload_n 0, 1, 40), (40, .invokevirtual 505, 3, 43), (43, .aload_n 0, 1, 44), (44, .getfield 108, 3, 47), (47, .iconst 5, 1, 48), (48, .iload_n 2, 1, 49), (49, .imul, 1, 50), (50, .iload_n 3, 1, 51), (51, .iadd, 1, 52), (52, .iaload, 1, 53), (53, .ireturn, 1, 54)] := by unfold Dt; decide +kernel
def X12_s_j33 (o : Nat) (d : DA) : Option (Int × DA) :=
  bd (X12_fail o 1 d) fun x4 d3 =>
  some ((x4, d3))
theorem X12_s_wj33 {K : KT} (hK : Ok9 K cX12_s RX12 4 (some .int) 38 895) {o : Nat} (hw : W_12 (kσ K) o) {d : DA} {y : Int × DA} (h : X12_s_j33 o d = some y) (hk : (FI K) y) : J K 4 d [(0, rf K o)] 33 [] :=
  j_aload_n hK (dc9 DX12_s 17 rfl) 0 rfl rfl (j_iconst hK (dc9 DX12_s 18 rfl) (bd9 h fun x4 d3 hc h => j_cV hK (c_X12_fail (hst9 hK) (hw) hc) cl12_271 cd_X12_fail im_X12_fail se_X12_fail (hw.1) (Nat.le_of_ble_eq_true rfl) rfl (Nat.le_of_ble_eq_true rfl) (Nat.le_of_ble_eq_true rfl) rfl (st := []) rfl (Nat.le_of_ble_eq_true rfl) (dc9 DX12_s 19 rfl) rfl (j_iret hK (dc9 DX12_s 20 rfl) (have z := lf9 h hk; z))))
def X12_s (o : Nat) (v1 v2 v3 : Int) (d : DA) : Option (Int × DA) :=
  lt9 (wI d o 0 0) fun d1 =>
  b1 (X12_isKind o v2 d1) fun x2 =>
  gd (inR x2) <|
  if x2 = 0 then (X12_s_j33 o d1) else
  b1 (X12_isKind o v3 d1) fun x5 =>
  gd (inR x5) <|
  if x5 = 0 then (X12_s_j33 o d1) else
  gd (inR v1) <|
  if v1 < 0 then (X12_s_j33 o d1) else
  bd (X12_findCharacter o v1 d1) fun x7 d6 =>
  gd (inR x7) <|
  if x7 = 0 then (X12_s_j33 o d6) else
  bd (X12_tellS o d6) fun _ d8 =>
  gd (ix ((5 * v2) + v3) 25) <|
  some ((d8.1 (o + 30) (Int.toNat ((5 * v2) + v3)), d8))
theorem X12_s_w {K : KT} (hK : Ok9 K cX12_s RX12 4 (some .int) 38 895) {o : Nat} (hw : W_12 (kσ K) o) {v1 v2 v3 : Int} {d : DA} {y : Int × DA} (h : X12_s o v1 v2 v3 d = some y) (hk : (FI K) y) : J K 4 d [(0, rf K o), (1, vi v1), (2, vi v2), (3, vi v3)] 0 [] :=
  j_aload_n hK (dc9 DX12_s 0 rfl) 0 rfl rfl (j_iconst hK (dc9 DX12_s 1 rfl) (j_putI hK (hw.1) fl12_165 fp12_165 rfl (dc9 DX12_s 2 rfl) h fun d1 h => (j_aload_n hK (dc9 DX12_s 3 rfl) 0 rfl rfl (j_iload_n hK (dc9 DX12_s 4 rfl) 2 rfl rfl (b19 h fun x2 hc h => j_cV hK (c_X12_isKind (hst9 hK) (hw) hc) cl12_310 cd_X12_isKind im_X12_isKind se_X12_isKind (hw.1) (Nat.le_of_ble_eq_true rfl) rfl (Nat.le_of_ble_eq_true rfl) (Nat.le_of_ble_eq_true rfl) rfl (st := []) rfl (Nat.le_of_ble_eq_true rfl) (dc9 DX12_s 5 rfl) rfl (j_if_eq hK (dj9 DX12_s 6 33 rfl rfl) h (fun h => j_sub [0] rfl (X12_s_wj33 hK hw h hk)) (fun h =>
  j_aload_n hK (dc9 DX12_s 7 rfl) 0 rfl rfl (j_iload_n hK (dc9 DX12_s 8 rfl) 3 rfl rfl (b19 h fun x5 hc h => j_cV hK (c_X12_isKind (hst9 hK) (hw) hc) cl12_310 cd_X12_isKind im_X12_isKind se_X12_isKind (hw.1) (Nat.le_of_ble_eq_true rfl) rfl (Nat.le_of_ble_eq_true rfl) (Nat.le_of_ble_eq_true rfl) rfl (st := []) rfl (Nat.le_of_ble_eq_true rfl) (dc9 DX12_s 9 rfl) rfl (j_if_eq hK (dj9 DX12_s 10 33 rfl rfl) h (fun h => j_sub [0] rfl (X12_s_wj33 hK hw h hk)) (fun h =>
  j_iload_n hK (dc9 DX12_s 11 rfl) 1 rfl rfl (j_if_lt hK (dj9 DX12_s 12 33 rfl rfl) h (fun h => j_sub [0] rfl (X12_s_wj33 hK hw h hk)) (fun h =>
  j_aload_n hK (dc9 DX12_s 13 rfl) 0 rfl rfl (j_iload_n hK (dc9 DX12_s 14 rfl) 1 rfl rfl (bd9 h fun x7 d6 hc h => j_cV hK (c_X12_findCharacter (hst9 hK) (hw) hc) cl12_400 cd_X12_findCharacter im_X12_findCharacter se_X12_findCharacter (hw.1) (Nat.le_of_ble_eq_true rfl) rfl (Nat.le_of_ble_eq_true rfl) (Nat.le_of_ble_eq_true rfl) rfl (st := []) rfl (Nat.le_of_ble_eq_true rfl) (dc9 DX12_s 15 rfl) rfl (j_if_ne hK (dj9 DX12_s 16 39 rfl rfl) h (fun h => j_aload_n hK (dc9 DX12_s 21 rfl) 0 rfl rfl (bd9 h fun _ d8 hc h => j_cV hK (c_X12_tellS (hst9 hK) (hw) hc) cl12_505 cd_X12_tellS im_X12_tellS se_X12_tellS (hw.1) (Nat.le_of_ble_eq_true rfl) rfl (Nat.le_of_ble_eq_true rfl) (Nat.le_of_ble_eq_true rfl) rfl (st := []) rfl (Nat.le_of_ble_eq_true rfl) (dc9 DX12_s 22 rfl) rfl (j_aload_n hK (dc9 DX12_s 23 rfl) 0 rfl rfl (j_getR hK (hw.1) fl12_108 rfl (hw.2.2.2.2.2.2.2.2.2.2.2.2.2.2.2.2.2.2.2.2.2.2.2.2.2.2.2.2.2.2.1.1) (hw.2.2.2.2.2.2.2.2.2.2.2.2.2.2.2.2.2.2.2.2.2.2.2.2.2.2.2.2.2.2.1.2.1) (dc9 DX12_s 24 rfl) (j_iconst hK (dc9 DX12_s 25 rfl) (j_iload_n hK (dc9 DX12_s 26 rfl) 2 rfl rfl (j_imul hK (dc9 DX12_s 27 rfl) (j_iload_n hK (dc9 DX12_s 28 rfl) 3 rfl rfl (j_iadd hK (dc9 DX12_s 29 rfl) (j_iald hK (hw.2.2.2.2.2.2.2.2.2.2.2.2.2.2.2.2.2.2.2.2.2.2.2.2.2.2.2.2.2.2.1.2) (Nat.le_of_ble_eq_true rfl) (dc9 DX12_s 30 rfl) h fun h => (j_iret hK (dc9 DX12_s 31 rfl) (have z := lf9 h hk; z)))))))))))) (fun h =>
  j_sub [0] rfl (X12_s_wj33 hK hw h hk))))))))))))))))))
theorem c_X12_s {G : GT} {l : Launch} {ad : Nat → Nat} {σ : HS} {d d' : DA} (hst : l.stackTraces = false) {o : Nat} (hw : W_12 σ o) {v1 v2 v3 : Int} {r : Int} (h : X12_s o v1 v2 v3 d = some (r, d')) : Ct G l yX12_s cX12_s 4 (some .int) 38 895 ad (wD σ d) [.ref (ad o), vi v1, vi v2, vi v3] (some (vi r)) (wD σ d') :=
  ct_of hst rfl (Nat.le_of_ble_eq_true rfl) (fun K e0 e9 e1 e2 e3 hK => by subst e0; subst e9; subst e1; subst e2; exact X12_s_w hK hw h e3)
/-! X12_holds -/
theorem DX12_holds : Dt cX12_holds [(0, .aload_n 0, 1, 1), (1, .iconst 0, 1, 2), (2, .putfield 165, 3, 5), (5, .iload_n 1, 1, 6), (6, .ifCond .lt 11, 3, 9), (9, .aload_n 0, 1, 10), (10, .iload_n 1, 1, 11), (11, .invokevirtual 400, 3, 14), (14, .ifCond .ne 9, 3, 17), (17, .aload_n 0, 1, 18), (18, .iconst 1, 1, 19), (19, .invokevirtual 271, 3, 22), (22, .ireturn, 1, 23), (23, .aload_n 0, 1, 24), (24, .invokevirtual 329, 3, 27), (27, .ifCond .eq 10, 3, 30), (30, .aload_n 0, 1, 31), (31, .invokevirtual 527, 3, 34), (34, .goto 4, 3, 37), (37, .iconst (-1), 1, 38), (38, .ireturn, 1, 39)] := by unfold Dt; decide +kernel
def X12_holds_j17 (o : Nat) (d : DA) : Option (Int × DA) :=
  bd (X12_fail o 1 d) fun x3 d2 =>
  some ((x3, d2))
theorem X12_holds_wj17 {K : KT} (hK : Ok9 K cX12_holds RX12 2 (some .int) 38 895) {o : Nat} (hw : W_12 (kσ K) o) {d : DA} {y : Int × DA} (h : X12_holds_j17 o d = some y) (hk : (FI K) y) : J K 2 d [(0, rf K o)] 17 [] :=
  j_aload_n hK (dc9 DX12_holds 9 rfl) 0 rfl rfl (j_iconst hK (dc9 DX12_holds 10 rfl) (bd9 h fun x3 d2 hc h => j_cV hK (c_X12_fail (hst9 hK) (hw) hc) cl12_271 cd_X12_fail im_X12_fail se_X12_fail (hw.1) (Nat.le_of_ble_eq_true rfl) rfl (Nat.le_of_ble_eq_true rfl) (Nat.le_of_ble_eq_true rfl) rfl (st := []) rfl (Nat.le_of_ble_eq_true rfl) (dc9 DX12_holds 11 rfl) rfl (j_iret hK (dc9 DX12_holds 12 rfl) (have z := lf9 h hk; z))))
def X12_holds (o : Nat) (v1 : Int) (d : DA) : Option (Int × DA) :=
  lt9 (wI d o 0 0) fun d1 =>
  gd (inR v1) <|
  if v1 < 0 then (X12_holds_j17 o d1) else
  bd (X12_findCharacter o v1 d1) fun x5 d4 =>
  gd (inR x5) <|
  if x5 = 0 then (X12_holds_j17 o d4) else
  b1 (X12_hasDuals o d4) fun x6 =>
  gd (inR x6) <|
  if x6 = 0 then (some (((-1), d4))) else
  bd (X12_holdsOf o d4) fun x8 d7 =>
  some ((x8, d7))
theorem X12_holds_w {K : KT} (hK : Ok9 K cX12_holds RX12 2 (some .int) 38 895) {o : Nat} (hw : W_12 (kσ K) o) {v1 : Int} {d : DA} {y : Int × DA} (h : X12_holds o v1 d = some y) (hk : (FI K) y) : J K 2 d [(0, rf K o), (1, vi v1)] 0 [] :=
  j_aload_n hK (dc9 DX12_holds 0 rfl) 0 rfl rfl (j_iconst hK (dc9 DX12_holds 1 rfl) (j_putI hK (hw.1) fl12_165 fp12_165 rfl (dc9 DX12_holds 2 rfl) h fun d1 h => (j_iload_n hK (dc9 DX12_holds 3 rfl) 1 rfl rfl (j_if_lt hK (dj9 DX12_holds 4 17 rfl rfl) h (fun h => j_sub [0] rfl (X12_holds_wj17 hK hw h hk)) (fun h =>
  j_aload_n hK (dc9 DX12_holds 5 rfl) 0 rfl rfl (j_iload_n hK (dc9 DX12_holds 6 rfl) 1 rfl rfl (bd9 h fun x5 d4 hc h => j_cV hK (c_X12_findCharacter (hst9 hK) (hw) hc) cl12_400 cd_X12_findCharacter im_X12_findCharacter se_X12_findCharacter (hw.1) (Nat.le_of_ble_eq_true rfl) rfl (Nat.le_of_ble_eq_true rfl) (Nat.le_of_ble_eq_true rfl) rfl (st := []) rfl (Nat.le_of_ble_eq_true rfl) (dc9 DX12_holds 7 rfl) rfl (j_if_ne hK (dj9 DX12_holds 8 23 rfl rfl) h (fun h => j_aload_n hK (dc9 DX12_holds 13 rfl) 0 rfl rfl (b19 h fun x6 hc h => j_cV hK (c_X12_hasDuals (hst9 hK) (hw) hc) cl12_329 cd_X12_hasDuals im_X12_hasDuals se_X12_hasDuals (hw.1) (Nat.le_of_ble_eq_true rfl) rfl (Nat.le_of_ble_eq_true rfl) (Nat.le_of_ble_eq_true rfl) rfl (st := []) rfl (Nat.le_of_ble_eq_true rfl) (dc9 DX12_holds 14 rfl) rfl (j_if_eq hK (dj9 DX12_holds 15 37 rfl rfl) h (fun h => j_iconst hK (dc9 DX12_holds 19 rfl) (j_iret hK (dc9 DX12_holds 20 rfl) (have z := lf9 h hk; z))) (fun h =>
  j_aload_n hK (dc9 DX12_holds 16 rfl) 0 rfl rfl (bd9 h fun x8 d7 hc h => j_cV hK (c_X12_holdsOf (hst9 hK) (hw) hc) cl12_527 cd_X12_holdsOf im_X12_holdsOf se_X12_holdsOf (hw.1) (Nat.le_of_ble_eq_true rfl) rfl (Nat.le_of_ble_eq_true rfl) (Nat.le_of_ble_eq_true rfl) rfl (st := []) rfl (Nat.le_of_ble_eq_true rfl) (dc9 DX12_holds 17 rfl) rfl (j_goto hK (dj9 DX12_holds 18 38 rfl rfl) (j_iret hK (dc9 DX12_holds 20 rfl) (have z := lf9 h hk; z)))))))) (fun h =>
  j_sub [0] rfl (X12_holds_wj17 hK hw h hk))))))))))
theorem c_X12_holds {G : GT} {l : Launch} {ad : Nat → Nat} {σ : HS} {d d' : DA} (hst : l.stackTraces = false) {o : Nat} (hw : W_12 σ o) {v1 : Int} {r : Int} (h : X12_holds o v1 d = some (r, d')) : Ct G l yX12_holds cX12_holds 2 (some .int) 38 895 ad (wD σ d) [.ref (ad o), vi v1] (some (vi r)) (wD σ d') :=
  ct_of hst rfl (Nat.le_of_ble_eq_true rfl) (fun K e0 e9 e1 e2 e3 hK => by subst e0; subst e9; subst e1; subst e2; exact X12_holds_w hK hw h e3)
/-! X12_turnOn -/
theorem DX12_turnOn : Dt cX12_turnOn [(0, .iload_n 1, 1, 1), (1, .aload_n 0, 1, 2), (2, .getfield 7, 3, 5), (5, .if_icmp .ne 92, 3, 8), (8, .aload_n 0, 1, 9), (9, .invokevirtual 505, 3, 12), (12, .aload_n 0, 1, 13), (13, .invokevirtual 515, 3, 16), (16, .ifCond .eq 24, 3, 19), (19, .aload_n 0, 1, 20), (20, .invokevirtual 518, 3, 23), (23, .ifCond .eq 17, 3, 26), (26, .aload_n 0, 1, 27), (27, .invokevirtual 521, 3, 30), (30, .ifCond .eq 10, 3, 33), (33, .aload_n 0, 1, 34), (34, .invokevirtual 524, 3, 37), (37, .ifCond .ne 4, 3, 40), (40, .return_, 1, 41), (41, .aload_n 0, 1, 42), (42, .getfield 530, 3, 45), (45, .aload_n 0, 1, 46), (46, .getfield 533, 3, 49), (49, .if_icmp .ne 37, 3, 52), (52, .iconst 0, 1, 53), (53, .istore_n 2, 1, 54), (54, .iload_n 2, 1, 55), (55, .aload_n 0, 1, 56), (56, .getfield 7, 3, 59), (59, .if_icmp .ge 21, 3, 62), (62, .aload_n 0, 1, 63), (63, .getfield 120, 3, 66), (66, .iload_n 2, 1, 67), (67, .aload_n 0, 1, 68), (68, .getfield 32, 3, 71), (71, .iload_n 2, 1, 72), (72, .iaload, 1, 73), (73, .iastore, 1, 74), (74, .iinc 2 1, 3, 77), (77, .goto (-23), 3, 80), (80, .aload_n 0, 1, 81), (81, .iconst 1, 1, 82), (82, .putfield 536, 3, 85), (85, .return_, 1, 86), (86, .aload_n 0, 1, 87), (87, .dup, 1, 88), (88, .getfield 530, 3, 91), (91, .iconst 1, 1, 92), (92, .iadd, 1, 93), (93, .putfield 530, 3, 96), (96, .return_, 1, 97), (97, .iconst 1, 1, 98), (98, .istore_n 2, 1, 99), (99, .iload_n 2, 1, 100), (100, .aload_n 0, 1, 101), (101, .getfield 13, 3, 104), (104, .if_icmp .ge 30, 3, 107), (107, .aload_n 0, 1, 108), (108, .getfield 536, 3, 111), (111, .ifCond .ne 23, 3, 114), (114, .aload_n 0, 1, 115), (115, .getfield 32, 3, 118), (118, .iload_n 1, 1, 119), (119, .iload_n 2, 1, 120), (120, .iastore, 1, 121), (121, .aload_n 0, 1, 122), (122, .iload_n 1, 1, 123), (123, .iconst 1, 1, 124), (124, .iadd, 1, 125), (125, .invokevirtual 539, 3, 128), (128, .iinc 2 1, 3, 131), (131, .goto (-32), 3, 134), (134, .return_, 1, 135)] := by unfold Dt; decide +kernel
def X12_turnOn_T99 (K : KT) (o : Nat) (v1 : Int) (q : Int × DA) : Prop := J K 3 q.2 [(0, rf K o), (1, vi v1), (2, vi (q.1))] 99 []
def X12_turnOn_F99 (K : KT) (o : Nat) (v1 : Int) (q : DA) : Prop := J K 3 q [] 134 []
def X12_turnOn_b99 (o : Nat) (g : Int → DA → Option (Unit × DA)) (v1 v2 : Int) (d : DA) : Option ((Int × DA) ⊕ (DA)) :=
  gd (inR v2 ∧ inR (d.1 o 4)) <|
  if (d.1 o 4) ≤ v2 then (some (.inr d)) else
  gd (inR (d.1 o 67)) <|
  if (d.1 o 67) = 0 then (gd (ix v1 5) <|
  lt9 (wI d (o + 6) (Int.toNat v1) v2) fun d1 =>
  bd (g (v1 + 1) d1) fun _ d2 =>
  some (.inl (v2 + 1, d2))) else
  some (.inr d)
theorem X12_turnOn_wb99 {K : KT} {fr0 lo0 : Nat} (hK : Ok9 K cX12_turnOn RX12 3 none (fr0 + 4) (lo0 + 94)) {o : Nat} {g : Int → DA → Option (Unit × DA)} (hw : W_12 (kσ K) o) (hg : ∀ (v1 : Int) (r : Unit) (d d' : DA), g v1 d = some (r, d') → CtK K yX12_turnOn cX12_turnOn 3 none fr0 lo0 d [rf K o, vi v1] none d') {v1 v2 : Int} {d : DA} {y : (Int × DA) ⊕ (DA)} (h : X12_turnOn_b99 o g v1 v2 d = some y) (hk : S2 (X12_turnOn_T99 K o v1) (X12_turnOn_F99 K o v1) y) : J K 3 d [(0, rf K o), (1, vi v1), (2, vi v2)] 99 [] :=
  j_iload_n hK (dc9 DX12_turnOn 53 rfl) 2 rfl rfl (j_aload_n hK (dc9 DX12_turnOn 54 rfl) 0 rfl rfl (j_getI hK (hw.1) fl12_13 rfl (dc9 DX12_turnOn 55 rfl) (j_icmp_ge hK (dj9 DX12_turnOn 56 134 rfl rfl) h (fun h => j_sub [] rfl ((have z := lf9 h hk; z))) (fun h =>
  j_aload_n hK (dc9 DX12_turnOn 57 rfl) 0 rfl rfl (j_getI hK (hw.1) fl12_536 rfl (dc9 DX12_turnOn 58 rfl) (j_if_ne hK (dj9 DX12_turnOn 59 134 rfl rfl) h (fun h => j_sub [] rfl ((have z := lf9 h hk; z))) (fun h =>
  j_aload_n hK (dc9 DX12_turnOn 60 rfl) 0 rfl rfl (j_getR hK (hw.1) fl12_32 rfl (hw.2.2.2.2.2.2.1.1) (hw.2.2.2.2.2.2.1.2.1) (dc9 DX12_turnOn 61 rfl) (j_iload_n hK (dc9 DX12_turnOn 62 rfl) 1 rfl rfl (j_iload_n hK (dc9 DX12_turnOn 63 rfl) 2 rfl rfl (j_iast hK (hw.2.2.2.2.2.2.1.2) (Nat.le_of_ble_eq_true rfl) (dc9 DX12_turnOn 64 rfl) h fun d1 h => (j_aload_n hK (dc9 DX12_turnOn 65 rfl) 0 rfl rfl (j_iload_n hK (dc9 DX12_turnOn 66 rfl) 1 rfl rfl (j_iconst hK (dc9 DX12_turnOn 67 rfl) (j_iadd hK (dc9 DX12_turnOn 68 rfl) (bd9 h fun _ d2 hc h => j_cV hK (hg _ _ _ _ hc) cl12_539 cd_X12_turnOn im_X12_turnOn se_X12_turnOn (hw.1) (Nat.le_of_ble_eq_true rfl) rfl (by omega) (by omega) rfl (st := []) rfl (Nat.le_of_ble_eq_true rfl) (dc9 DX12_turnOn 69 rfl) rfl (j_iinc hK (dc9 DX12_turnOn 70 rfl) 2 rfl (Nat.le_of_ble_eq_true rfl) rfl (j_goto hK (dj9 DX12_turnOn 71 99 rfl rfl) (j_sub [1, 2, 0] rfl ((have z := lf9 h hk; z)))))))))))))))))))))
def X12_turnOn_T54 (K : KT) (o : Nat) (q : Int × DA) : Prop := J K 3 q.2 [(0, rf K o), (2, vi (q.1))] 54 []
def X12_turnOn_F54 (K : KT) (o : Nat) (q : DA) : Prop := J K 3 q [(0, rf K o)] 80 []
def X12_turnOn_b54 (o : Nat) (g : Int → DA → Option (Unit × DA)) (v2 : Int) (d : DA) : Option ((Int × DA) ⊕ (DA)) :=
  gd (inR v2 ∧ inR (d.1 o 1)) <|
  if (d.1 o 1) ≤ v2 then (some (.inr d)) else
  gd (ix v2 5) <|
  gd (ix v2 5) <|
  lt9 (wI d (o + 34) (Int.toNat v2) (d.1 (o + 6) (Int.toNat v2))) fun d12 =>
  some (.inl (v2 + 1, d12))
theorem X12_turnOn_wb54 {K : KT} {fr0 lo0 : Nat} (hK : Ok9 K cX12_turnOn RX12 3 none (fr0 + 4) (lo0 + 94)) {o : Nat} {g : Int → DA → Option (Unit × DA)} (hw : W_12 (kσ K) o) (hg : ∀ (v1 : Int) (r : Unit) (d d' : DA), g v1 d = some (r, d') → CtK K yX12_turnOn cX12_turnOn 3 none fr0 lo0 d [rf K o, vi v1] none d') {v2 : Int} {d : DA} {y : (Int × DA) ⊕ (DA)} (h : X12_turnOn_b54 o g v2 d = some y) (hk : S2 (X12_turnOn_T54 K o) (X12_turnOn_F54 K o) y) : J K 3 d [(0, rf K o), (2, vi v2)] 54 [] :=
  j_iload_n hK (dc9 DX12_turnOn 26 rfl) 1 rfl rfl (j_aload_n hK (dc9 DX12_turnOn 27 rfl) 0 rfl rfl (j_getI hK (hw.1) fl12_7 rfl (dc9 DX12_turnOn 28 rfl) (j_icmp_ge hK (dj9 DX12_turnOn 29 80 rfl rfl) h (fun h => j_sub [0] rfl ((have z := lf9 h hk; z))) (fun h =>
  j_aload_n hK (dc9 DX12_turnOn 30 rfl) 0 rfl rfl (j_getR hK (hw.1) fl12_120 rfl (hw.2.2.2.2.2.2.2.2.2.2.2.2.2.2.2.2.2.2.2.2.2.2.2.2.2.2.2.2.2.2.2.2.2.2.1.1) (hw.2.2.2.2.2.2.2.2.2.2.2.2.2.2.2.2.2.2.2.2.2.2.2.2.2.2.2.2.2.2.2.2.2.2.1.2.1) (dc9 DX12_turnOn 31 rfl) (j_iload_n hK (dc9 DX12_turnOn 32 rfl) 1 rfl rfl (j_aload_n hK (dc9 DX12_turnOn 33 rfl) 0 rfl rfl (j_getR hK (hw.1) fl12_32 rfl (hw.2.2.2.2.2.2.1.1) (hw.2.2.2.2.2.2.1.2.1) (dc9 DX12_turnOn 34 rfl) (j_iload_n hK (dc9 DX12_turnOn 35 rfl) 1 rfl rfl (j_iald hK (hw.2.2.2.2.2.2.1.2) (Nat.le_of_ble_eq_true rfl) (dc9 DX12_turnOn 36 rfl) h fun h => (j_iast hK (hw.2.2.2.2.2.2.2.2.2.2.2.2.2.2.2.2.2.2.2.2.2.2.2.2.2.2.2.2.2.2.2.2.2.2.1.2) (Nat.le_of_ble_eq_true rfl) (dc9 DX12_turnOn 37 rfl) h fun d12 h => (j_iinc hK (dc9 DX12_turnOn 38 rfl) 1 rfl (Nat.le_of_ble_eq_true rfl) rfl (j_goto hK (dj9 DX12_turnOn 39 54 rfl rfl) (j_sub [1, 0] rfl ((have z := lf9 h hk; z))))))))))))))))
def X12_turnOn_m (o : Nat) (g : Int → DA → Option (Unit × DA)) (v1 : Int) (d : DA) : Option (Unit × DA) :=
  gd (inR v1 ∧ inR (d.1 o 1)) <|
  if v1 = (d.1 o 1) then (bd (X12_tellS o d) fun _ d3 =>
  bd (X12_isSTurned o d3) fun x5 d4 =>
  gd (inR x5) <|
  if x5 = 0 then (some (((), d4))) else
  bd (X12_isSquareOfS o d4) fun x7 d6 =>
  gd (inR x7) <|
  if x7 = 0 then (some (((), d6))) else
  bd (X12_isCubeOfST o d6) fun x9 d8 =>
  gd (inR x9) <|
  if x9 = 0 then (some (((), d8))) else
  b1 (X12_isWonBack o d8) fun x10 =>
  gd (inR x10) <|
  if x10 = 0 then (some (((), d8))) else
  gd (inR (d8.1 o 65) ∧ inR (d8.1 o 66)) <|
  if (d8.1 o 65) = (d8.1 o 66) then (lpE (fun q => X12_turnOn_b54 o g q.1 q.2) (0, d8) (fun e => gd (1 = 0 ∨ 1 = 1) <|
  lt9 (wI e o 67 1) fun d13 =>
  some (((), d13)))) else
  lt9 (wI d8 o 65 ((d8.1 o 65) + 1)) fun d11 =>
  some (((), d11))) else
  lpE (fun q => X12_turnOn_b99 o g v1 q.1 q.2) (1, d) (fun e => some (((), e)))
theorem X12_turnOn_w {K : KT} {fr0 lo0 : Nat} (hK : Ok9 K cX12_turnOn RX12 3 none (fr0 + 4) (lo0 + 94)) {o : Nat} {g : Int → DA → Option (Unit × DA)} (hw : W_12 (kσ K) o) (hg : ∀ (v1 : Int) (r : Unit) (d d' : DA), g v1 d = some (r, d') → CtK K yX12_turnOn cX12_turnOn 3 none fr0 lo0 d [rf K o, vi v1] none d') {v1 : Int} {d : DA} {y : Unit × DA} (h : X12_turnOn_m o g v1 d = some y) (hk : (FV K) y) : J K 3 d [(0, rf K o), (1, vi v1)] 0 [] :=
  j_iload_n hK (dc9 DX12_turnOn 0 rfl) 1 rfl rfl (j_aload_n hK (dc9 DX12_turnOn 1 rfl) 0 rfl rfl (j_getI hK (hw.1) fl12_7 rfl (dc9 DX12_turnOn 2 rfl) (j_icmp_ne hK (dj9 DX12_turnOn 3 97 rfl rfl) h (fun h => j_iconst hK (dc9 DX12_turnOn 51 rfl) (j_istore_n hK (dc9 DX12_turnOn 52 rfl) rfl (Nat.le_of_ble_eq_true rfl) rfl (j_sub [1, 2, 0] rfl ((have z := j_lpE (X12_turnOn_T99 K o v1) (X12_turnOn_F99 K o v1) h (fun q y h hk => X12_turnOn_wb99 hK hw hg h hk) (fun e h => j_vret hK (dc9 DX12_turnOn 72 rfl) (have z := lf9 h hk; z)); z))))) (fun h =>
  j_aload_n hK (dc9 DX12_turnOn 4 rfl) 0 rfl rfl (bd9 h fun _ d3 hc h => j_cV hK (c_X12_tellS (hst9 hK) (hw) hc) cl12_505 cd_X12_tellS im_X12_tellS se_X12_tellS (hw.1) (Nat.le_of_ble_eq_true rfl) rfl (by omega) (by omega) rfl (st := []) rfl (Nat.le_of_ble_eq_true rfl) (dc9 DX12_turnOn 5 rfl) rfl (j_aload_n hK (dc9 DX12_turnOn 6 rfl) 0 rfl rfl (bd9 h fun x5 d4 hc h => j_cV hK (c_X12_isSTurned (hst9 hK) (hw) hc) cl12_515 cd_X12_isSTurned im_X12_isSTurned se_X12_isSTurned (hw.1) (Nat.le_of_ble_eq_true rfl) rfl (by omega) (by omega) rfl (st := []) rfl (Nat.le_of_ble_eq_true rfl) (dc9 DX12_turnOn 7 rfl) rfl (j_if_eq hK (dj9 DX12_turnOn 8 40 rfl rfl) h (fun h => j_vret hK (dc9 DX12_turnOn 18 rfl) (have z := lf9 h hk; z)) (fun h =>
  j_aload_n hK (dc9 DX12_turnOn 9 rfl) 0 rfl rfl (bd9 h fun x7 d6 hc h => j_cV hK (c_X12_isSquareOfS (hst9 hK) (hw) hc) cl12_518 cd_X12_isSquareOfS im_X12_isSquareOfS se_X12_isSquareOfS (hw.1) (Nat.le_of_ble_eq_true rfl) rfl (by omega) (by omega) rfl (st := []) rfl (Nat.le_of_ble_eq_true rfl) (dc9 DX12_turnOn 10 rfl) rfl (j_if_eq hK (dj9 DX12_turnOn 11 40 rfl rfl) h (fun h => j_vret hK (dc9 DX12_turnOn 18 rfl) (have z := lf9 h hk; z)) (fun h =>
  j_aload_n hK (dc9 DX12_turnOn 12 rfl) 0 rfl rfl (bd9 h fun x9 d8 hc h => j_cV hK (c_X12_isCubeOfST (hst9 hK) (hw) hc) cl12_521 cd_X12_isCubeOfST im_X12_isCubeOfST se_X12_isCubeOfST (hw.1) (Nat.le_of_ble_eq_true rfl) rfl (by omega) (by omega) rfl (st := []) rfl (Nat.le_of_ble_eq_true rfl) (dc9 DX12_turnOn 13 rfl) rfl (j_if_eq hK (dj9 DX12_turnOn 14 40 rfl rfl) h (fun h => j_vret hK (dc9 DX12_turnOn 18 rfl) (have z := lf9 h hk; z)) (fun h =>
  j_aload_n hK (dc9 DX12_turnOn 15 rfl) 0 rfl rfl (b19 h fun x10 hc h => j_cV hK (c_X12_isWonBack (hst9 hK) (hw) hc) cl12_524 cd_X12_isWonBack im_X12_isWonBack se_X12_isWonBack (hw.1) (Nat.le_of_ble_eq_true rfl) rfl (by omega) (by omega) rfl (st := []) rfl (Nat.le_of_ble_eq_true rfl) (dc9 DX12_turnOn 16 rfl) rfl (j_if_ne hK (dj9 DX12_turnOn 17 41 rfl rfl) h (fun h => j_aload_n hK (dc9 DX12_turnOn 19 rfl) 0 rfl rfl (j_getI hK (hw.1) fl12_530 rfl (dc9 DX12_turnOn 20 rfl) (j_aload_n hK (dc9 DX12_turnOn 21 rfl) 0 rfl rfl (j_getI hK (hw.1) fl12_533 rfl (dc9 DX12_turnOn 22 rfl) (j_icmp_ne hK (dj9 DX12_turnOn 23 86 rfl rfl) h (fun h => j_aload_n hK (dc9 DX12_turnOn 44 rfl) 0 rfl rfl (j_dup hK (dc9 DX12_turnOn 45 rfl) rfl (j_getI hK (hw.1) fl12_530 rfl (dc9 DX12_turnOn 46 rfl) (j_iconst hK (dc9 DX12_turnOn 47 rfl) (j_iadd hK (dc9 DX12_turnOn 48 rfl) (j_putI hK (hw.1) fl12_530 fp12_530 rfl (dc9 DX12_turnOn 49 rfl) h fun d11 h => (j_vret hK (dc9 DX12_turnOn 50 rfl) (have z := lf9 h hk; z)))))))) (fun h =>
  j_iconst hK (dc9 DX12_turnOn 24 rfl) (j_istore_n hK (dc9 DX12_turnOn 25 rfl) rfl (Nat.le_of_ble_eq_true rfl) rfl (j_sub [1, 0] rfl ((have z := j_lpE (X12_turnOn_T54 K o) (X12_turnOn_F54 K o) h (fun q y h hk => X12_turnOn_wb54 hK hw hg h hk) (fun e h => j_aload_n hK (dc9 DX12_turnOn 40 rfl) 0 rfl rfl (j_iconst hK (dc9 DX12_turnOn 41 rfl) (j_putZ hK (hw.1) fl12_536 fp12_536 rfl (dc9 DX12_turnOn 42 rfl) h fun d13 h => (j_vret hK (dc9 DX12_turnOn 43 rfl) (have z := lf9 h hk; z))))); z)))))))))) (fun h =>
  j_vret hK (dc9 DX12_turnOn 18 rfl) (have z := lf9 h hk; z)))))))))))))))))))
def X12_turnOn (o : Nat) : Nat → Int → DA → Option (Unit × DA)
  | 0, _, _ => none
  | n + 1, v1, d => X12_turnOn_m o (X12_turnOn o n) v1 d
theorem c_X12_turnOn (n : Nat) {G : GT} {l : Launch} {ad : Nat → Nat} {σ : HS} (hst : l.stackTraces = false) {o : Nat} (hw : W_12 σ o) {v1 : Int} {r : Unit} {d d' : DA} (h : X12_turnOn o n v1 d = some (r, d')) : Ct G l yX12_turnOn cX12_turnOn 3 none (4 * n) (94 * n) ad (wD σ d) [.ref (ad o), vi v1] none (wD σ d') := by
  induction n generalizing v1 r d d' with
  | zero => cases h
  | succ n ih =>
    refine ct_of hst rfl (Nat.le_of_ble_eq_true rfl) (fun K e0 e9 e1 e2 e3 hK => ?_)
    subst e0; subst e9; subst e1; subst e2
    exact X12_turnOn_w (fr0 := 4 * n) (lo0 := 94 * n) hK hw (g := X12_turnOn o n) (fun _ _ _ _ hc => ih hc) h e3
/-! X12_findTurns -/
theorem DX12_findTurns : Dt cX12_findTurns [(0, .iconst 0, 1, 1), (1, .istore_n 2, 1, 2), (2, .iload_n 2, 1, 3), (3, .iconst 5, 1, 4), (4, .if_icmp .ge 21, 3, 7), (7, .aload_n 0, 1, 8), (8, .getfield 117, 3, 11), (11, .iload_n 2, 1, 12), (12, .aload_n 0, 1, 13), (13, .getfield 32, 3, 16), (16, .iload_n 2, 1, 17), (17, .iaload, 1, 18), (18, .iastore, 1, 19), (19, .iinc 2 1, 3, 22), (22, .goto (-20), 3, 25), (25, .aload_n 0, 1, 26), (26, .iconst 0, 1, 27), (27, .putfield 530, 3, 30), (30, .aload_n 0, 1, 31), (31, .iload_n 1, 1, 32), (32, .putfield 533, 3, 35), (35, .aload_n 0, 1, 36), (36, .iconst 0, 1, 37), (37, .putfield 536, 3, 40), (40, .aload_n 0, 1, 41), (41, .iconst 1, 1, 42), (42, .invokevirtual 539, 3, 45), (45, .iconst 0, 1, 46), (46, .istore_n 2, 1, 47), (47, .iload_n 2, 1, 48), (48, .iconst 5, 1, 49), (49, .if_icmp .ge 21, 3, 52), (52, .aload_n 0, 1, 53), (53, .getfield 32, 3, 56), (56, .iload_n 2, 1, 57), (57, .aload_n 0, 1, 58), (58, .getfield 117, 3, 61), (61, .iload_n 2, 1, 62), (62, .iaload, 1, 63), (63, .iastore, 1, 64), (64, .iinc 2 1, 3, 67), (67, .goto (-20), 3, 70), (70, .return_, 1, 71)] := by unfold Dt; decide +kernel
def X12_findTurns_T2 (K : KT) (o : Nat) (v1 : Int) (q : Int × DA) : Prop := J K 3 q.2 [(0, rf K o), (1, vi v1), (2, vi (q.1))] 2 []
def X12_findTurns_F2 (K : KT) (o : Nat) (v1 : Int) (q : DA) : Prop := J K 3 q [(0, rf K o), (1, vi v1)] 25 []
def X12_findTurns_b2 (o : Nat) (v1 v2 : Int) (d : DA) : Option ((Int × DA) ⊕ (DA)) :=
  gd (inR v2 ∧ inR 5) <|
  if 5 ≤ v2 then (some (.inr d)) else
  gd (ix v2 5) <|
  gd (ix v2 5) <|
  lt9 (wI d (o + 33) (Int.toNat v2) (d.1 (o + 6) (Int.toNat v2))) fun d1 =>
  some (.inl (v2 + 1, d1))
theorem X12_findTurns_wb2 {K : KT} (hK : Ok9 K cX12_findTurns RX12 3 none 49 1150) {o : Nat} (hw : W_12 (kσ K) o) {v1 v2 : Int} {d : DA} {y : (Int × DA) ⊕ (DA)} (h : X12_findTurns_b2 o v1 v2 d = some y) (hk : S2 (X12_findTurns_T2 K o v1) (X12_findTurns_F2 K o v1) y) : J K 3 d [(0, rf K o), (1, vi v1), (2, vi v2)] 2 [] :=
  j_iload_n hK (dc9 DX12_findTurns 2 rfl) 2 rfl rfl (j_iconst hK (dc9 DX12_findTurns 3 rfl) (j_icmp_ge hK (dj9 DX12_findTurns 4 25 rfl rfl) h (fun h => j_sub [0, 1] rfl ((have z := lf9 h hk; z))) (fun h =>
  j_aload_n hK (dc9 DX12_findTurns 5 rfl) 0 rfl rfl (j_getR hK (hw.1) fl12_117 rfl (hw.2.2.2.2.2.2.2.2.2.2.2.2.2.2.2.2.2.2.2.2.2.2.2.2.2.2.2.2.2.2.2.2.2.1.1) (hw.2.2.2.2.2.2.2.2.2.2.2.2.2.2.2.2.2.2.2.2.2.2.2.2.2.2.2.2.2.2.2.2.2.1.2.1) (dc9 DX12_findTurns 6 rfl) (j_iload_n hK (dc9 DX12_findTurns 7 rfl) 2 rfl rfl (j_aload_n hK (dc9 DX12_findTurns 8 rfl) 0 rfl rfl (j_getR hK (hw.1) fl12_32 rfl (hw.2.2.2.2.2.2.1.1) (hw.2.2.2.2.2.2.1.2.1) (dc9 DX12_findTurns 9 rfl) (j_iload_n hK (dc9 DX12_findTurns 10 rfl) 2 rfl rfl (j_iald hK (hw.2.2.2.2.2.2.1.2) (Nat.le_of_ble_eq_true rfl) (dc9 DX12_findTurns 11 rfl) h fun h => (j_iast hK (hw.2.2.2.2.2.2.2.2.2.2.2.2.2.2.2.2.2.2.2.2.2.2.2.2.2.2.2.2.2.2.2.2.2.1.2) (Nat.le_of_ble_eq_true rfl) (dc9 DX12_findTurns 12 rfl) h fun d1 h => (j_iinc hK (dc9 DX12_findTurns 13 rfl) 2 rfl (Nat.le_of_ble_eq_true rfl) rfl (j_goto hK (dj9 DX12_findTurns 14 2 rfl rfl) (j_sub [1, 2, 0] rfl ((have z := lf9 h hk; z)))))))))))))))
def X12_findTurns_T47 (K : KT) (o : Nat) (q : Int × DA) : Prop := J K 3 q.2 [(0, rf K o), (2, vi (q.1))] 47 []
def X12_findTurns_F47 (K : KT) (o : Nat) (q : DA) : Prop := J K 3 q [] 70 []
def X12_findTurns_b47 (o : Nat) (v2 : Int) (d : DA) : Option ((Int × DA) ⊕ (DA)) :=
  gd (inR v2 ∧ inR 5) <|
  if 5 ≤ v2 then (some (.inr d)) else
  gd (ix v2 5) <|
  gd (ix v2 5) <|
  lt9 (wI d (o + 6) (Int.toNat v2) (d.1 (o + 33) (Int.toNat v2))) fun d6 =>
  some (.inl (v2 + 1, d6))
theorem X12_findTurns_wb47 {K : KT} (hK : Ok9 K cX12_findTurns RX12 3 none 49 1150) {o : Nat} (hw : W_12 (kσ K) o) {v2 : Int} {d : DA} {y : (Int × DA) ⊕ (DA)} (h : X12_findTurns_b47 o v2 d = some y) (hk : S2 (X12_findTurns_T47 K o) (X12_findTurns_F47 K o) y) : J K 3 d [(0, rf K o), (2, vi v2)] 47 [] :=
  j_iload_n hK (dc9 DX12_findTurns 29 rfl) 1 rfl rfl (j_iconst hK (dc9 DX12_findTurns 30 rfl) (j_icmp_ge hK (dj9 DX12_findTurns 31 70 rfl rfl) h (fun h => j_sub [] rfl ((have z := lf9 h hk; z))) (fun h =>
  j_aload_n hK (dc9 DX12_findTurns 32 rfl) 0 rfl rfl (j_getR hK (hw.1) fl12_32 rfl (hw.2.2.2.2.2.2.1.1) (hw.2.2.2.2.2.2.1.2.1) (dc9 DX12_findTurns 33 rfl) (j_iload_n hK (dc9 DX12_findTurns 34 rfl) 1 rfl rfl (j_aload_n hK (dc9 DX12_findTurns 35 rfl) 0 rfl rfl (j_getR hK (hw.1) fl12_117 rfl (hw.2.2.2.2.2.2.2.2.2.2.2.2.2.2.2.2.2.2.2.2.2.2.2.2.2.2.2.2.2.2.2.2.2.1.1) (hw.2.2.2.2.2.2.2.2.2.2.2.2.2.2.2.2.2.2.2.2.2.2.2.2.2.2.2.2.2.2.2.2.2.1.2.1) (dc9 DX12_findTurns 36 rfl) (j_iload_n hK (dc9 DX12_findTurns 37 rfl) 1 rfl rfl (j_iald hK (hw.2.2.2.2.2.2.2.2.2.2.2.2.2.2.2.2.2.2.2.2.2.2.2.2.2.2.2.2.2.2.2.2.2.1.2) (Nat.le_of_ble_eq_true rfl) (dc9 DX12_findTurns 38 rfl) h fun h => (j_iast hK (hw.2.2.2.2.2.2.1.2) (Nat.le_of_ble_eq_true rfl) (dc9 DX12_findTurns 39 rfl) h fun d6 h => (j_iinc hK (dc9 DX12_findTurns 40 rfl) 1 rfl (Nat.le_of_ble_eq_true rfl) rfl (j_goto hK (dj9 DX12_findTurns 41 47 rfl rfl) (j_sub [1, 0] rfl ((have z := lf9 h hk; z)))))))))))))))
def X12_findTurns_j25 (o : Nat) (v1 : Int) (d : DA) : Option (Unit × DA) :=
  lt9 (wI d o 65 0) fun d2 =>
  lt9 (wI d2 o 66 v1) fun d3 =>
  gd (0 = 0 ∨ 0 = 1) <|
  lt9 (wI d3 o 67 0) fun d4 =>
  bd (X12_turnOn o 12 1 d4) fun _ d5 =>
  lpE (fun q => X12_findTurns_b47 o q.1 q.2) (0, d5) (fun e => some (((), e)))
theorem X12_findTurns_wj25 {K : KT} (hK : Ok9 K cX12_findTurns RX12 3 none 49 1150) {o : Nat} (hw : W_12 (kσ K) o) {v1 : Int} {d : DA} {y : Unit × DA} (h : X12_findTurns_j25 o v1 d = some y) (hk : (FV K) y) : J K 3 d [(0, rf K o), (1, vi v1)] 25 [] :=
  j_aload_n hK (dc9 DX12_findTurns 15 rfl) 0 rfl rfl (j_iconst hK (dc9 DX12_findTurns 16 rfl) (j_putI hK (hw.1) fl12_530 fp12_530 rfl (dc9 DX12_findTurns 17 rfl) h fun d2 h => (j_aload_n hK (dc9 DX12_findTurns 18 rfl) 0 rfl rfl (j_iload_n hK (dc9 DX12_findTurns 19 rfl) 1 rfl rfl (j_putI hK (hw.1) fl12_533 fp12_533 rfl (dc9 DX12_findTurns 20 rfl) h fun d3 h => (j_aload_n hK (dc9 DX12_findTurns 21 rfl) 0 rfl rfl (j_iconst hK (dc9 DX12_findTurns 22 rfl) (j_putZ hK (hw.1) fl12_536 fp12_536 rfl (dc9 DX12_findTurns 23 rfl) h fun d4 h => (j_aload_n hK (dc9 DX12_findTurns 24 rfl) 0 rfl rfl (j_iconst hK (dc9 DX12_findTurns 25 rfl) (bd9 h fun _ d5 hc h => j_cV hK (c_X12_turnOn 12 (hst9 hK) (hw) hc) cl12_539 cd_X12_turnOn im_X12_turnOn se_X12_turnOn (hw.1) (Nat.le_of_ble_eq_true rfl) rfl (Nat.le_of_ble_eq_true rfl) (Nat.le_of_ble_eq_true rfl) rfl (st := []) rfl (Nat.le_of_ble_eq_true rfl) (dc9 DX12_findTurns 26 rfl) rfl (j_iconst hK (dc9 DX12_findTurns 27 rfl) (j_istore_n hK (dc9 DX12_findTurns 28 rfl) rfl (Nat.le_of_ble_eq_true rfl) rfl (j_sub [1, 0] rfl ((have z := j_lpE (X12_findTurns_T47 K o) (X12_findTurns_F47 K o) h (fun q y h hk => X12_findTurns_wb47 hK hw h hk) (fun e h => j_vret hK (dc9 DX12_findTurns 42 rfl) (have z := lf9 h hk; z)); z))))))))))))))))
def X12_findTurns (o : Nat) (v1 : Int) (d : DA) : Option (Unit × DA) :=
  lpE (fun q => X12_findTurns_b2 o v1 q.1 q.2) (0, d) (fun e => X12_findTurns_j25 o v1 e)
theorem X12_findTurns_w {K : KT} (hK : Ok9 K cX12_findTurns RX12 3 none 49 1150) {o : Nat} (hw : W_12 (kσ K) o) {v1 : Int} {d : DA} {y : Unit × DA} (h : X12_findTurns o v1 d = some y) (hk : (FV K) y) : J K 3 d [(0, rf K o), (1, vi v1)] 0 [] :=
  j_iconst hK (dc9 DX12_findTurns 0 rfl) (j_istore_n hK (dc9 DX12_findTurns 1 rfl) rfl (Nat.le_of_ble_eq_true rfl) rfl (j_sub [1, 2, 0] rfl ((have z := j_lpE (X12_findTurns_T2 K o v1) (X12_findTurns_F2 K o v1) h (fun q y h hk => X12_findTurns_wb2 hK hw h hk) (fun e h => X12_findTurns_wj25 hK hw h hk); z))))
theorem c_X12_findTurns {G : GT} {l : Launch} {ad : Nat → Nat} {σ : HS} {d d' : DA} (hst : l.stackTraces = false) {o : Nat} (hw : W_12 σ o) {v1 : Int} {r : Unit} (h : X12_findTurns o v1 d = some (r, d')) : Ct G l yX12_findTurns cX12_findTurns 3 none 49 1150 ad (wD σ d) [.ref (ad o), vi v1] none (wD σ d') :=
  ct_of hst rfl (Nat.le_of_ble_eq_true rfl) (fun K e0 e9 e1 e2 e3 hK => by subst e0; subst e9; subst e1; subst e2; exact X12_findTurns_w hK hw h e3)
/-! X12_turned -/
theorem DX12_turned : Dt cX12_turned [(0, .aload_n 0, 1, 1), (1, .iconst 0, 1, 2), (2, .putfield 165, 3, 5), (5, .iload_n 1, 1, 6), (6, .ifCond .lt 11, 3, 9), (9, .aload_n 0, 1, 10), (10, .iload_n 1, 1, 11), (11, .invokevirtual 400, 3, 14), (14, .ifCond .ne 9, 3, 17), (17, .aload_n 0, 1, 18), (18, .iconst 1, 1, 19), (19, .invokevirtual 271, 3, 22), (22, .ireturn, 1, 23), (23, .aload_n 0, 1, 24), (24, .getfield 7, 3, 27), (27, .iconst 4, 1, 28), (28, .if_icmp .gt 14, 3, 31), (31, .aload_n 0, 1, 32), (32, .invokevirtual 329, 3, 35), (35, .ifCond .eq 7, 3, 38), (38, .iconst 1, 1, 39), (39, .goto 4, 3, 42), (42, .iconst 0, 1, 43), (43, .istore 4, 2, 45), (45, .iload_n 2, 1, 46), (46, .iconst (-1), 1, 47), (47, .if_icmp .ne 27, 3, 50), (50, .iload 4, 2, 52), (52, .ifCond .eq 8, 3, 55), (55, .aload_n 0, 1, 56), (56, .iconst (-1), 1, 57), (57, .invokevirtual 542, 3, 60), (60, .iload 4, 2, 62), (62, .ifCond .eq 10, 3, 65), (65, .aload_n 0, 1, 66), (66, .getfield 530, 3, 69), (69, .goto 4, 3, 72), (72, .iconst (-1), 1, 73), (73, .ireturn, 1, 74), (74, .iload 4, 2, 76), (76, .ifCond .eq 15, 3, 79), (79, .aload_n 0, 1, 80), (80, .iload_n 3, 1, 81), (81, .invokevirtual 310, 3, 84), (84, .ifCond .eq 7, 3, 87), (87, .iload_n 2, 1, 88), (88, .ifCond .ge 9, 3, 91), (91, .aload_n 0, 1, 92), (92, .iconst 1, 1, 93), (93, .invokevirtual 271, 3, 96), (96, .ireturn, 1, 97), (97, .aload_n 0, 1, 98), (98, .iload_n 2, 1, 99), (99, .invokevirtual 542, 3, 102), (102, .aload_n 0, 1, 103), (103, .getfield 536, 3, 106), (106, .ifCond .eq 12, 3, 109), (109, .aload_n 0, 1, 110), (110, .getfield 120, 3, 113), (113, .iload_n 3, 1, 114), (114, .iaload, 1, 115), (115, .goto 8, 3, 118), (118, .aload_n 0, 1, 119), (119, .iconst 1, 1, 120), (120, .invokevirtual 271, 3, 123), (123, .ireturn, 1, 124)] := by unfold Dt; decide +kernel
def X12_turned_j17 (o : Nat) (d : DA) : Option (Int × DA) :=
  bd (X12_fail o 1 d) fun x3 d2 =>
  some ((x3, d2))
theorem X12_turned_wj17 {K : KT} (hK : Ok9 K cX12_turned RX12 5 (some .int) 50 1172) {o : Nat} (hw : W_12 (kσ K) o) {d : DA} {y : Int × DA} (h : X12_turned_j17 o d = some y) (hk : (FI K) y) : J K 5 d [(0, rf K o)] 17 [] :=
  j_aload_n hK (dc9 DX12_turned 9 rfl) 0 rfl rfl (j_iconst hK (dc9 DX12_turned 10 rfl) (bd9 h fun x3 d2 hc h => j_cV hK (c_X12_fail (hst9 hK) (hw) hc) cl12_271 cd_X12_fail im_X12_fail se_X12_fail (hw.1) (Nat.le_of_ble_eq_true rfl) rfl (Nat.le_of_ble_eq_true rfl) (Nat.le_of_ble_eq_true rfl) rfl (st := []) rfl (Nat.le_of_ble_eq_true rfl) (dc9 DX12_turned 11 rfl) rfl (j_iret hK (dc9 DX12_turned 12 rfl) (have z := lf9 h hk; z))))
def X12_turned_j91 (o : Nat) (d : DA) : Option (Int × DA) :=
  bd (X12_fail o 1 d) fun x7 d6 =>
  some ((x7, d6))
theorem X12_turned_wj91 {K : KT} (hK : Ok9 K cX12_turned RX12 5 (some .int) 50 1172) {o : Nat} (hw : W_12 (kσ K) o) {d : DA} {y : Int × DA} (h : X12_turned_j91 o d = some y) (hk : (FI K) y) : J K 5 d [(0, rf K o)] 91 [] :=
  j_aload_n hK (dc9 DX12_turned 47 rfl) 0 rfl rfl (j_iconst hK (dc9 DX12_turned 48 rfl) (bd9 h fun x7 d6 hc h => j_cV hK (c_X12_fail (hst9 hK) (hw) hc) cl12_271 cd_X12_fail im_X12_fail se_X12_fail (hw.1) (Nat.le_of_ble_eq_true rfl) rfl (Nat.le_of_ble_eq_true rfl) (Nat.le_of_ble_eq_true rfl) rfl (st := []) rfl (Nat.le_of_ble_eq_true rfl) (dc9 DX12_turned 49 rfl) rfl (j_iret hK (dc9 DX12_turned 50 rfl) (have z := lf9 h hk; z))))
def X12_turned_j60 (o : Nat) (v4 : Int) (d : DA) : Option (Int × DA) :=
  gd (inR v4) <|
  if v4 = 0 then (some (((-1), d))) else
  some ((d.1 o 65, d))
theorem X12_turned_wj60 {K : KT} (hK : Ok9 K cX12_turned RX12 5 (some .int) 50 1172) {o : Nat} (hw : W_12 (kσ K) o) {v4 : Int} {d : DA} {y : Int × DA} (h : X12_turned_j60 o v4 d = some y) (hk : (FI K) y) : J K 5 d [(0, rf K o), (4, vi v4)] 60 [] :=
  j_iload hK (dc9 DX12_turned 32 rfl) 1 rfl (j_if_eq hK (dj9 DX12_turned 33 72 rfl rfl) h (fun h => j_iconst hK (dc9 DX12_turned 37 rfl) (j_iret hK (dc9 DX12_turned 38 rfl) (have z := lf9 h hk; z))) (fun h =>
  j_aload_n hK (dc9 DX12_turned 34 rfl) 0 rfl rfl (j_getI hK (hw.1) fl12_530 rfl (dc9 DX12_turned 35 rfl) (j_goto hK (dj9 DX12_turned 36 73 rfl rfl) (j_iret hK (dc9 DX12_turned 38 rfl) (have z := lf9 h hk; z))))))
def X12_turned_j43 (o : Nat) (v2 v3 s0 : Int) (d : DA) : Option (Int × DA) :=
  gd (inR v2 ∧ inR (-1)) <|
  if v2 = (-1) then (gd (inR s0) <|
  if s0 = 0 then (X12_turned_j60 o s0 d) else
  bd (X12_findTurns o (-1) d) fun _ d12 =>
  X12_turned_j60 o s0 d12) else
  gd (inR s0) <|
  if s0 = 0 then (X12_turned_j91 o d) else
  b1 (X12_isKind o v3 d) fun x8 =>
  gd (inR x8) <|
  if x8 = 0 then (X12_turned_j91 o d) else
  gd (inR v2) <|
  if 0 ≤ v2 then (bd (X12_findTurns o v2 d) fun _ d9 =>
  gd (inR (d9.1 o 67)) <|
  if (d9.1 o 67) = 0 then (bd (X12_fail o 1 d9) fun x11 d10 =>
  some ((x11, d10))) else
  gd (ix v3 5) <|
  some ((d9.1 (o + 34) (Int.toNat v3), d9))) else
  X12_turned_j91 o d
theorem X12_turned_wj43 {K : KT} (hK : Ok9 K cX12_turned RX12 5 (some .int) 50 1172) {o : Nat} (hw : W_12 (kσ K) o) {v2 v3 s0 : Int} {d : DA} {y : Int × DA} (h : X12_turned_j43 o v2 v3 s0 d = some y) (hk : (FI K) y) : J K 5 d [(0, rf K o), (2, vi v2), (3, vi v3)] 43 [vi s0] :=
  j_istore hK (dc9 DX12_turned 23 rfl) (Nat.le_of_ble_eq_true rfl) rfl (j_iload_n hK (dc9 DX12_turned 24 rfl) 2 rfl rfl (j_iconst hK (dc9 DX12_turned 25 rfl) (j_icmp_ne hK (dj9 DX12_turned 26 74 rfl rfl) h (fun h => j_iload hK (dc9 DX12_turned 39 rfl) 0 rfl (j_if_eq hK (dj9 DX12_turned 40 91 rfl rfl) h (fun h => j_sub [1] rfl (X12_turned_wj91 hK hw h hk)) (fun h =>
  j_aload_n hK (dc9 DX12_turned 41 rfl) 1 rfl rfl (j_iload_n hK (dc9 DX12_turned 42 rfl) 3 rfl rfl (b19 h fun x8 hc h => j_cV hK (c_X12_isKind (hst9 hK) (hw) hc) cl12_310 cd_X12_isKind im_X12_isKind se_X12_isKind (hw.1) (Nat.le_of_ble_eq_true rfl) rfl (Nat.le_of_ble_eq_true rfl) (Nat.le_of_ble_eq_true rfl) rfl (st := []) rfl (Nat.le_of_ble_eq_true rfl) (dc9 DX12_turned 43 rfl) rfl (j_if_eq hK (dj9 DX12_turned 44 91 rfl rfl) h (fun h => j_sub [1] rfl (X12_turned_wj91 hK hw h hk)) (fun h =>
  j_iload_n hK (dc9 DX12_turned 45 rfl) 2 rfl rfl (j_if_ge hK (dj9 DX12_turned 46 97 rfl rfl) h (fun h => j_aload_n hK (dc9 DX12_turned 51 rfl) 1 rfl rfl (j_iload_n hK (dc9 DX12_turned 52 rfl) 2 rfl rfl (bd9 h fun _ d9 hc h => j_cV hK (c_X12_findTurns (hst9 hK) (hw) hc) cl12_542 cd_X12_findTurns im_X12_findTurns se_X12_findTurns (hw.1) (Nat.le_of_ble_eq_true rfl) rfl (Nat.le_of_ble_eq_true rfl) (Nat.le_of_ble_eq_true rfl) rfl (st := []) rfl (Nat.le_of_ble_eq_true rfl) (dc9 DX12_turned 53 rfl) rfl (j_aload_n hK (dc9 DX12_turned 54 rfl) 1 rfl rfl (j_getI hK (hw.1) fl12_536 rfl (dc9 DX12_turned 55 rfl) (j_if_eq hK (dj9 DX12_turned 56 118 rfl rfl) h (fun h => j_aload_n hK (dc9 DX12_turned 62 rfl) 1 rfl rfl (j_iconst hK (dc9 DX12_turned 63 rfl) (bd9 h fun x11 d10 hc h => j_cV hK (c_X12_fail (hst9 hK) (hw) hc) cl12_271 cd_X12_fail im_X12_fail se_X12_fail (hw.1) (Nat.le_of_ble_eq_true rfl) rfl (Nat.le_of_ble_eq_true rfl) (Nat.le_of_ble_eq_true rfl) rfl (st := []) rfl (Nat.le_of_ble_eq_true rfl) (dc9 DX12_turned 64 rfl) rfl (j_iret hK (dc9 DX12_turned 65 rfl) (have z := lf9 h hk; z))))) (fun h =>
  j_aload_n hK (dc9 DX12_turned 57 rfl) 1 rfl rfl (j_getR hK (hw.1) fl12_120 rfl (hw.2.2.2.2.2.2.2.2.2.2.2.2.2.2.2.2.2.2.2.2.2.2.2.2.2.2.2.2.2.2.2.2.2.2.1.1) (hw.2.2.2.2.2.2.2.2.2.2.2.2.2.2.2.2.2.2.2.2.2.2.2.2.2.2.2.2.2.2.2.2.2.2.1.2.1) (dc9 DX12_turned 58 rfl) (j_iload_n hK (dc9 DX12_turned 59 rfl) 3 rfl rfl (j_iald hK (hw.2.2.2.2.2.2.2.2.2.2.2.2.2.2.2.2.2.2.2.2.2.2.2.2.2.2.2.2.2.2.2.2.2.2.1.2) (Nat.le_of_ble_eq_true rfl) (dc9 DX12_turned 60 rfl) h fun h => (j_goto hK (dj9 DX12_turned 61 123 rfl rfl) (j_iret hK (dc9 DX12_turned 65 rfl) (have z := lf9 h hk; z))))))))))))) (fun h =>
  j_sub [1] rfl (X12_turned_wj91 hK hw h hk)))))))))) (fun h =>
  j_iload hK (dc9 DX12_turned 27 rfl) 0 rfl (j_if_eq hK (dj9 DX12_turned 28 60 rfl rfl) h (fun h => j_sub [1, 0] rfl (X12_turned_wj60 hK hw h hk)) (fun h =>
  j_aload_n hK (dc9 DX12_turned 29 rfl) 1 rfl rfl (j_iconst hK (dc9 DX12_turned 30 rfl) (bd9 h fun _ d12 hc h => j_cV hK (c_X12_findTurns (hst9 hK) (hw) hc) cl12_542 cd_X12_findTurns im_X12_findTurns se_X12_findTurns (hw.1) (Nat.le_of_ble_eq_true rfl) rfl (Nat.le_of_ble_eq_true rfl) (Nat.le_of_ble_eq_true rfl) rfl (st := []) rfl (Nat.le_of_ble_eq_true rfl) (dc9 DX12_turned 31 rfl) rfl (j_sub [1, 0] rfl (X12_turned_wj60 hK hw h hk))))))))))
def X12_turned_j42 (o : Nat) (v2 v3 : Int) (d : DA) : Option (Int × DA) :=
  X12_turned_j43 o v2 v3 0 d
theorem X12_turned_wj42 {K : KT} (hK : Ok9 K cX12_turned RX12 5 (some .int) 50 1172) {o : Nat} (hw : W_12 (kσ K) o) {v2 v3 : Int} {d : DA} {y : Int × DA} (h : X12_turned_j42 o v2 v3 d = some y) (hk : (FI K) y) : J K 5 d [(0, rf K o), (2, vi v2), (3, vi v3)] 42 [] :=
  j_iconst hK (dc9 DX12_turned 22 rfl) (X12_turned_wj43 hK hw h hk)
def X12_turned (o : Nat) (v1 v2 v3 : Int) (d : DA) : Option (Int × DA) :=
  lt9 (wI d o 0 0) fun d1 =>
  gd (inR v1) <|
  if v1 < 0 then (X12_turned_j17 o d1) else
  bd (X12_findCharacter o v1 d1) fun x5 d4 =>
  gd (inR x5) <|
  if x5 = 0 then (X12_turned_j17 o d4) else
  gd (inR (d4.1 o 1) ∧ inR 4) <|
  if 4 < (d4.1 o 1) then (X12_turned_j42 o v2 v3 d4) else
  b1 (X12_hasDuals o d4) fun x13 =>
  gd (inR x13) <|
  if x13 = 0 then (X12_turned_j42 o v2 v3 d4) else
  X12_turned_j43 o v2 v3 1 d4
theorem X12_turned_w {K : KT} (hK : Ok9 K cX12_turned RX12 5 (some .int) 50 1172) {o : Nat} (hw : W_12 (kσ K) o) {v1 v2 v3 : Int} {d : DA} {y : Int × DA} (h : X12_turned o v1 v2 v3 d = some y) (hk : (FI K) y) : J K 5 d [(0, rf K o), (1, vi v1), (2, vi v2), (3, vi v3)] 0 [] :=
  j_aload_n hK (dc9 DX12_turned 0 rfl) 0 rfl rfl (j_iconst hK (dc9 DX12_turned 1 rfl) (j_putI hK (hw.1) fl12_165 fp12_165 rfl (dc9 DX12_turned 2 rfl) h fun d1 h => (j_iload_n hK (dc9 DX12_turned 3 rfl) 1 rfl rfl (j_if_lt hK (dj9 DX12_turned 4 17 rfl rfl) h (fun h => j_sub [0] rfl (X12_turned_wj17 hK hw h hk)) (fun h =>
  j_aload_n hK (dc9 DX12_turned 5 rfl) 0 rfl rfl (j_iload_n hK (dc9 DX12_turned 6 rfl) 1 rfl rfl (bd9 h fun x5 d4 hc h => j_cV hK (c_X12_findCharacter (hst9 hK) (hw) hc) cl12_400 cd_X12_findCharacter im_X12_findCharacter se_X12_findCharacter (hw.1) (Nat.le_of_ble_eq_true rfl) rfl (Nat.le_of_ble_eq_true rfl) (Nat.le_of_ble_eq_true rfl) rfl (st := []) rfl (Nat.le_of_ble_eq_true rfl) (dc9 DX12_turned 7 rfl) rfl (j_if_ne hK (dj9 DX12_turned 8 23 rfl rfl) h (fun h => j_aload_n hK (dc9 DX12_turned 13 rfl) 0 rfl rfl (j_getI hK (hw.1) fl12_7 rfl (dc9 DX12_turned 14 rfl) (j_iconst hK (dc9 DX12_turned 15 rfl) (j_icmp_gt hK (dj9 DX12_turned 16 42 rfl rfl) h (fun h => j_sub [0, 2, 3] rfl (X12_turned_wj42 hK hw h hk)) (fun h =>
  j_aload_n hK (dc9 DX12_turned 17 rfl) 0 rfl rfl (b19 h fun x13 hc h => j_cV hK (c_X12_hasDuals (hst9 hK) (hw) hc) cl12_329 cd_X12_hasDuals im_X12_hasDuals se_X12_hasDuals (hw.1) (Nat.le_of_ble_eq_true rfl) rfl (Nat.le_of_ble_eq_true rfl) (Nat.le_of_ble_eq_true rfl) rfl (st := []) rfl (Nat.le_of_ble_eq_true rfl) (dc9 DX12_turned 18 rfl) rfl (j_if_eq hK (dj9 DX12_turned 19 42 rfl rfl) h (fun h => j_sub [0, 2, 3] rfl (X12_turned_wj42 hK hw h hk)) (fun h =>
  j_iconst hK (dc9 DX12_turned 20 rfl) (j_goto hK (dj9 DX12_turned 21 43 rfl rfl) (j_sub [0, 2, 3] rfl (X12_turned_wj43 hK hw h hk))))))))))) (fun h =>
  j_sub [0] rfl (X12_turned_wj17 hK hw h hk))))))))))
theorem c_X12_turned {G : GT} {l : Launch} {ad : Nat → Nat} {σ : HS} {d d' : DA} (hst : l.stackTraces = false) {o : Nat} (hw : W_12 σ o) {v1 v2 v3 : Int} {r : Int} (h : X12_turned o v1 v2 v3 d = some (r, d')) : Ct G l yX12_turned cX12_turned 5 (some .int) 50 1172 ad (wD σ d) [.ref (ad o), vi v1, vi v2, vi v3] (some (vi r)) (wD σ d') :=
  ct_of hst rfl (Nat.le_of_ble_eq_true rfl) (fun K e0 e9 e1 e2 e3 hK => by subst e0; subst e9; subst e1; subst e2; exact X12_turned_w hK hw h e3)
/-! X12_braidOn -/
theorem DX12_braidOn : Dt cX12_braidOn [(0, .iload_n 1, 1, 1), (1, .iconst 1, 1, 2), (2, .if_icmp .eq 8, 3, 5), (5, .iload_n 1, 1, 6), (6, .iconst (-1), 1, 7), (7, .if_icmp .ne 10, 3, 10), (10, .aload_n 0, 1, 11), (11, .getfield 126, 3, 14), (14, .goto 7, 3, 17), (17, .aload_n 0, 1, 18), (18, .getfield 129, 3, 21), (21, .astore_n 2, 1, 22), (22, .iload_n 1, 1, 23), (23, .ifCond .ge 35, 3, 26), (26, .iconst 0, 1, 27), (27, .istore_n 3, 1, 28), (28, .iload_n 3, 1, 29), (29, .bipush 25, 2, 31), (31, .if_icmp .ge 18, 3, 34), (34, .aload_n 0, 1, 35), (35, .getfield 93, 3, 38), (38, .iload_n 3, 1, 39), (39, .aload_n 2, 1, 40), (40, .iload_n 3, 1, 41), (41, .iaload, 1, 42), (42, .iastore, 1, 43), (43, .iinc 3 1, 3, 46), (46, .goto (-18), 3, 49), (49, .aload_n 0, 1, 50), (50, .aload_n 0, 1, 51), (51, .getfield 545, 3, 54), (54, .invokevirtual 487, 3, 57), (57, .pop, 1, 58), (58, .iconst 0, 1, 59), (59, .istore_n 3, 1, 60), (60, .iload_n 3, 1, 61), (61, .aload_n 0, 1, 62), (62, .getfield 545, 3, 65), (65, .if_icmp .ge 111, 3, 68), (68, .iconst 0, 1, 69), (69, .istore 4, 2, 71), (71, .iload 4, 2, 73), (73, .aload_n 0, 1, 74), (74, .getfield 545, 3, 77), (77, .if_icmp .ge 93, 3, 80), (80, .iconst 0, 1, 81), (81, .istore 5, 2, 83), (83, .iconst 0, 1, 84), (84, .istore 6, 2, 86), (86, .iload 6, 2, 88), (88, .aload_n 0, 1, 89), (89, .getfield 545, 3, 92), (92, .if_icmp .ge 54, 3, 95), (95, .iload 5, 2, 97), (97, .aload_n 0, 1, 98), (98, .getfield 132, 3, 101), (101, .iconst 5, 1, 102), (102, .iload_n 3, 1, 103), (103, .imul, 1, 104), (104, .iload 6, 2, 106), (106, .iadd, 1, 107), (107, .iaload, 1, 108), (108, .iload_n 1, 1, 109), (109, .ifCond .ge 18, 3, 112), (112, .aload_n 0, 1, 113), (113, .getfield 96, 3, 116), (116, .iconst 5, 1, 117), (117, .iload 6, 2, 119), (119, .imul, 1, 120), (120, .iload 4, 2, 122), (122, .iadd, 1, 123), (123, .iaload, 1, 124), (124, .goto 12, 3, 127), (127, .aload_n 2, 1, 128), (128, .iconst 5, 1, 129), (129, .iload 6, 2, 131), (131, .imul, 1, 132), (132, .iload 4, 2, 134), (134, .iadd, 1, 135), (135, .iaload, 1, 136), (136, .imul, 1, 137), (137, .iadd, 1, 138), (138, .istore 5, 2, 140), (140, .iinc 6 1, 3, 143), (143, .goto (-57), 3, 146), (146, .aload_n 0, 1, 147), (147, .getfield 111, 3, 150), (150, .iconst 5, 1, 151), (151, .iload_n 3, 1, 152), (152, .imul, 1, 153), (153, .iload 4, 2, 155), (155, .iadd, 1, 156), (156, .iload 5, 2, 158), (158, .aload_n 0, 1, 159), (159, .getfield 13, 3, 162), (162, .irem, 1, 163), (163, .iastore, 1, 164), (164, .iinc 4 1, 3, 167), (167, .goto (-96), 3, 170), (170, .iinc 3 1, 3, 173), (173, .goto (-113), 3, 176), (176, .iconst 0, 1, 177), (177, .istore_n 3, 1, 178), (178, .iload_n 3, 1, 179), (179, .bipush 25, 2, 181), (181, .if_icmp .ge 21, 3, 184), (184, .aload_n 0, 1, 185), (185, .getfield 132, 3, 188), (188, .iload_n 3, 1, 189), (189, .aload_n 0, 1, 190), (190, .getfield 111, 3, 193), (193, .iload_n 3, 1, 194), (194, .iaload, 1, 195), (195, .iastore, 1, 196), (196, .iinc 3 1, 3, 199), (199, .goto (-21), 3, 202), (202, .return_, 1, 203)] := by unfold Dt; decide +kernel
def X12_braidOn_T60 (K : KT) (o : Nat) (a0_m : Nat) (v1 : Int) (q : Int × DA) : Prop := J K 7 q.2 [(0, rf K o), (1, vi v1), (2, rf K a0_m), (3, vi (q.1))] 60 []
def X12_braidOn_F60 (K : KT) (o : Nat) (a0_m : Nat) (v1 : Int) (q : DA) : Prop := J K 7 q [(0, rf K o)] 176 []
def X12_braidOn_T71 (K : KT) (o : Nat) (a0_m : Nat) (v1 : Int) (v3 : Int) (q : Int × DA) : Prop := J K 7 q.2 [(0, rf K o), (1, vi v1), (2, rf K a0_m), (3, vi v3), (4, vi (q.1))] 71 []
def X12_braidOn_F71 (K : KT) (o : Nat) (a0_m : Nat) (v1 : Int) (v3 : Int) (q : DA) : Prop := J K 7 q [(0, rf K o), (1, vi v1), (2, rf K a0_m), (3, vi v3)] 170 []
def X12_braidOn_T86 (K : KT) (o : Nat) (a0_m : Nat) (v1 : Int) (v3 : Int) (v4 : Int) (d : DA) (q : Int × Int) : Prop := J K 7 d [(0, rf K o), (1, vi v1), (2, rf K a0_m), (3, vi v3), (4, vi v4), (5, vi (q.1)), (6, vi (q.2))] 86 []
def X12_braidOn_F86 (K : KT) (o : Nat) (a0_m : Nat) (v1 : Int) (v3 : Int) (v4 : Int) (d : DA) (q : Int) : Prop := J K 7 d [(0, rf K o), (1, vi v1), (2, rf K a0_m), (3, vi v3), (4, vi v4), (5, vi q)] 146 []
def X12_braidOn_b86 (o : Nat) (a0_m : Nat) (v1 v3 v4 v5 v6 : Int) (d : DA) : Option ((Int × Int) ⊕ (Int)) :=
  gd (inR v6 ∧ inR (d.1 o 74)) <|
  if (d.1 o 74) ≤ v6 then (some (.inr v5)) else
  gd (ix ((5 * v3) + v6) 25) <|
  gd (inR v1) <|
  if 0 ≤ v1 then (gd (ix ((5 * v6) + v4) 25) <|
  lt9 (v5 + ((d.1 (o + 38) (Int.toNat ((5 * v3) + v6))) * (d.1 a0_m (Int.toNat ((5 * v6) + v4))))) fun x1 =>
  some (.inl (x1, v6 + 1))) else
  gd (ix ((5 * v6) + v4) 25) <|
  lt9 (v5 + ((d.1 (o + 38) (Int.toNat ((5 * v3) + v6))) * (d.1 (o + 26) (Int.toNat ((5 * v6) + v4))))) fun x2 =>
  some (.inl (x2, v6 + 1))
theorem X12_braidOn_wb86 {K : KT} (hK : Ok9 K cX12_braidOn RX12 7 none 3 71) {o : Nat} (hw : W_12 (kσ K) o) {a0_m : Nat} (ha0_m : Ar K a0_m 25) {v1 v3 v4 v5 v6 : Int} {d : DA} {y : (Int × Int) ⊕ (Int)} (h : X12_braidOn_b86 o a0_m v1 v3 v4 v5 v6 d = some y) (hk : S2 (X12_braidOn_T86 K o a0_m v1 v3 v4 d) (X12_braidOn_F86 K o a0_m v1 v3 v4 d) y) : J K 7 d [(0, rf K o), (1, vi v1), (2, rf K a0_m), (3, vi v3), (4, vi v4), (5, vi v5), (6, vi v6)] 86 [] :=
  j_iload hK (dc9 DX12_braidOn 49 rfl) 6 rfl (j_aload_n hK (dc9 DX12_braidOn 50 rfl) 0 rfl rfl (j_getI hK (hw.1) fl12_545 rfl (dc9 DX12_braidOn 51 rfl) (j_icmp_ge hK (dj9 DX12_braidOn 52 146 rfl rfl) h (fun h => j_sub [0, 1, 2, 3, 4, 5] rfl ((have z := lf9 h hk; z))) (fun h =>
  j_iload hK (dc9 DX12_braidOn 53 rfl) 5 rfl (j_aload_n hK (dc9 DX12_braidOn 54 rfl) 0 rfl rfl (j_getR hK (hw.1) fl12_132 rfl (hw.2.2.2.2.2.2.2.2.2.2.2.2.2.2.2.2.2.2.2.2.2.2.2.2.2.2.2.2.2.2.2.2.2.2.2.2.2.2.1.1) (hw.2.2.2.2.2.2.2.2.2.2.2.2.2.2.2.2.2.2.2.2.2.2.2.2.2.2.2.2.2.2.2.2.2.2.2.2.2.2.1.2.1) (dc9 DX12_braidOn 55 rfl) (j_iconst hK (dc9 DX12_braidOn 56 rfl) (j_iload_n hK (dc9 DX12_braidOn 57 rfl) 3 rfl rfl (j_imul hK (dc9 DX12_braidOn 58 rfl) (j_iload hK (dc9 DX12_braidOn 59 rfl) 6 rfl (j_iadd hK (dc9 DX12_braidOn 60 rfl) (j_iald hK (hw.2.2.2.2.2.2.2.2.2.2.2.2.2.2.2.2.2.2.2.2.2.2.2.2.2.2.2.2.2.2.2.2.2.2.2.2.2.2.1.2) (Nat.le_of_ble_eq_true rfl) (dc9 DX12_braidOn 61 rfl) h fun h => (j_iload_n hK (dc9 DX12_braidOn 62 rfl) 1 rfl rfl (j_if_ge hK (dj9 DX12_braidOn 63 127 rfl rfl) h (fun h => j_aload_n hK (dc9 DX12_braidOn 73 rfl) 2 rfl rfl (j_iconst hK (dc9 DX12_braidOn 74 rfl) (j_iload hK (dc9 DX12_braidOn 75 rfl) 6 rfl (j_imul hK (dc9 DX12_braidOn 76 rfl) (j_iload hK (dc9 DX12_braidOn 77 rfl) 4 rfl (j_iadd hK (dc9 DX12_braidOn 78 rfl) (j_iald hK ha0_m (Nat.le_of_ble_eq_true rfl) (dc9 DX12_braidOn 79 rfl) h fun h => (j_imul hK (dc9 DX12_braidOn 80 rfl) (j_iadd hK (dc9 DX12_braidOn 81 rfl) (j_letI h fun x1 h => j_istore hK (dc9 DX12_braidOn 82 rfl) (Nat.le_of_ble_eq_true rfl) rfl (j_iinc hK (dc9 DX12_braidOn 83 rfl) 6 rfl (Nat.le_of_ble_eq_true rfl) rfl (j_goto hK (dj9 DX12_braidOn 84 86 rfl rfl) (j_sub [2, 3, 4, 5, 6, 1, 0] rfl ((have z := lf9 h hk; z))))))))))))))) (fun h =>
  j_aload_n hK (dc9 DX12_braidOn 64 rfl) 0 rfl rfl (j_getR hK (hw.1) fl12_96 rfl (hw.2.2.2.2.2.2.2.2.2.2.2.2.2.2.2.2.2.2.2.2.2.2.2.2.2.2.1.1) (hw.2.2.2.2.2.2.2.2.2.2.2.2.2.2.2.2.2.2.2.2.2.2.2.2.2.2.1.2.1) (dc9 DX12_braidOn 65 rfl) (j_iconst hK (dc9 DX12_braidOn 66 rfl) (j_iload hK (dc9 DX12_braidOn 67 rfl) 6 rfl (j_imul hK (dc9 DX12_braidOn 68 rfl) (j_iload hK (dc9 DX12_braidOn 69 rfl) 4 rfl (j_iadd hK (dc9 DX12_braidOn 70 rfl) (j_iald hK (hw.2.2.2.2.2.2.2.2.2.2.2.2.2.2.2.2.2.2.2.2.2.2.2.2.2.2.1.2) (Nat.le_of_ble_eq_true rfl) (dc9 DX12_braidOn 71 rfl) h fun h => (j_goto hK (dj9 DX12_braidOn 72 136 rfl rfl) (j_imul hK (dc9 DX12_braidOn 80 rfl) (j_iadd hK (dc9 DX12_braidOn 81 rfl) (j_letI h fun x2 h => j_istore hK (dc9 DX12_braidOn 82 rfl) (Nat.le_of_ble_eq_true rfl) rfl (j_iinc hK (dc9 DX12_braidOn 83 rfl) 6 rfl (Nat.le_of_ble_eq_true rfl) rfl (j_goto hK (dj9 DX12_braidOn 84 86 rfl rfl) (j_sub [2, 3, 4, 5, 6, 1, 0] rfl ((have z := lf9 h hk; z)))))))))))))))))))))))))))))))
def X12_braidOn_j146_71 (o : Nat) (a0_m : Nat) (v1 v3 v4 v5 : Int) (d : DA) : Option ((Int × DA) ⊕ (DA)) :=
  gd (dvg v5 (d.1 o 4)) <|
  gd (ix ((5 * v3) + v4) 25) <|
  lt9 (wI d (o + 31) (Int.toNat ((5 * v3) + v4)) (Int.tmod v5 (d.1 o 4))) fun d3 =>
  some (.inl (v4 + 1, d3))
theorem X12_braidOn_wj146_71 {K : KT} (hK : Ok9 K cX12_braidOn RX12 7 none 3 71) {o : Nat} (hw : W_12 (kσ K) o) {a0_m : Nat} (ha0_m : Ar K a0_m 25) {v1 v3 v4 v5 : Int} {d : DA} {y : (Int × DA) ⊕ (DA)} (h : X12_braidOn_j146_71 o a0_m v1 v3 v4 v5 d = some y) (hk : S2 (X12_braidOn_T71 K o a0_m v1 v3) (X12_braidOn_F71 K o a0_m v1 v3) y) : J K 7 d [(0, rf K o), (1, vi v1), (2, rf K a0_m), (3, vi v3), (4, vi v4), (5, vi v5)] 146 [] :=
  j_aload_n hK (dc9 DX12_braidOn 85 rfl) 0 rfl rfl (j_getR hK (hw.1) fl12_111 rfl (hw.2.2.2.2.2.2.2.2.2.2.2.2.2.2.2.2.2.2.2.2.2.2.2.2.2.2.2.2.2.2.2.1.1) (hw.2.2.2.2.2.2.2.2.2.2.2.2.2.2.2.2.2.2.2.2.2.2.2.2.2.2.2.2.2.2.2.1.2.1) (dc9 DX12_braidOn 86 rfl) (j_iconst hK (dc9 DX12_braidOn 87 rfl) (j_iload_n hK (dc9 DX12_braidOn 88 rfl) 3 rfl rfl (j_imul hK (dc9 DX12_braidOn 89 rfl) (j_iload hK (dc9 DX12_braidOn 90 rfl) 4 rfl (j_iadd hK (dc9 DX12_braidOn 91 rfl) (j_iload hK (dc9 DX12_braidOn 92 rfl) 5 rfl (j_aload_n hK (dc9 DX12_braidOn 93 rfl) 0 rfl rfl (j_getI hK (hw.1) fl12_13 rfl (dc9 DX12_braidOn 94 rfl) (j_irem hK (dc9 DX12_braidOn 95 rfl) h fun h => (j_iast hK (hw.2.2.2.2.2.2.2.2.2.2.2.2.2.2.2.2.2.2.2.2.2.2.2.2.2.2.2.2.2.2.2.1.2) (Nat.le_of_ble_eq_true rfl) (dc9 DX12_braidOn 96 rfl) h fun d3 h => (j_iinc hK (dc9 DX12_braidOn 97 rfl) 4 rfl (Nat.le_of_ble_eq_true rfl) rfl (j_goto hK (dj9 DX12_braidOn 98 71 rfl rfl) (j_sub [1, 2, 3, 4, 0] rfl ((have z := lf9 h hk; z))))))))))))))))
def X12_braidOn_b71 (o : Nat) (a0_m : Nat) (v1 v3 v4 : Int) (d : DA) : Option ((Int × DA) ⊕ (DA)) :=
  gd (inR v4 ∧ inR (d.1 o 74)) <|
  if (d.1 o 74) ≤ v4 then (some (.inr d)) else
  lpE (fun q => X12_braidOn_b86 o a0_m v1 v3 v4 q.1 q.2 d) (0, 0) (fun e => X12_braidOn_j146_71 o a0_m v1 v3 v4 e d)
theorem X12_braidOn_wb71 {K : KT} (hK : Ok9 K cX12_braidOn RX12 7 none 3 71) {o : Nat} (hw : W_12 (kσ K) o) {a0_m : Nat} (ha0_m : Ar K a0_m 25) {v1 v3 v4 : Int} {d : DA} {y : (Int × DA) ⊕ (DA)} (h : X12_braidOn_b71 o a0_m v1 v3 v4 d = some y) (hk : S2 (X12_braidOn_T71 K o a0_m v1 v3) (X12_braidOn_F71 K o a0_m v1 v3) y) : J K 7 d [(0, rf K o), (1, vi v1), (2, rf K a0_m), (3, vi v3), (4, vi v4)] 71 [] :=
  j_iload hK (dc9 DX12_braidOn 41 rfl) 4 rfl (j_aload_n hK (dc9 DX12_braidOn 42 rfl) 0 rfl rfl (j_getI hK (hw.1) fl12_545 rfl (dc9 DX12_braidOn 43 rfl) (j_icmp_ge hK (dj9 DX12_braidOn 44 170 rfl rfl) h (fun h => j_sub [0, 1, 2, 3] rfl ((have z := lf9 h hk; z))) (fun h =>
  j_iconst hK (dc9 DX12_braidOn 45 rfl) (j_istore hK (dc9 DX12_braidOn 46 rfl) (Nat.le_of_ble_eq_true rfl) rfl (j_iconst hK (dc9 DX12_braidOn 47 rfl) (j_istore hK (dc9 DX12_braidOn 48 rfl) (Nat.le_of_ble_eq_true rfl) rfl (j_sub [2, 3, 4, 5, 6, 1, 0] rfl ((have z := j_lpE (X12_braidOn_T86 K o a0_m v1 v3 v4 d) (X12_braidOn_F86 K o a0_m v1 v3 v4 d) h (fun q y h hk => X12_braidOn_wb86 hK hw (ha0_m) h hk) (fun e h => X12_braidOn_wj146_71 hK hw (ha0_m) h hk); z))))))))))
def X12_braidOn_b60 (o : Nat) (a0_m : Nat) (v1 v3 : Int) (d : DA) : Option ((Int × DA) ⊕ (DA)) :=
  gd (inR v3 ∧ inR (d.1 o 74)) <|
  if (d.1 o 74) ≤ v3 then (some (.inr d)) else
  lpE (fun q => X12_braidOn_b71 o a0_m v1 v3 q.1 q.2) (0, d) (fun e => some (.inl (v3 + 1, e)))
theorem X12_braidOn_wb60 {K : KT} (hK : Ok9 K cX12_braidOn RX12 7 none 3 71) {o : Nat} (hw : W_12 (kσ K) o) {a0_m : Nat} (ha0_m : Ar K a0_m 25) {v1 v3 : Int} {d : DA} {y : (Int × DA) ⊕ (DA)} (h : X12_braidOn_b60 o a0_m v1 v3 d = some y) (hk : S2 (X12_braidOn_T60 K o a0_m v1) (X12_braidOn_F60 K o a0_m v1) y) : J K 7 d [(0, rf K o), (1, vi v1), (2, rf K a0_m), (3, vi v3)] 60 [] :=
  j_iload_n hK (dc9 DX12_braidOn 35 rfl) 3 rfl rfl (j_aload_n hK (dc9 DX12_braidOn 36 rfl) 0 rfl rfl (j_getI hK (hw.1) fl12_545 rfl (dc9 DX12_braidOn 37 rfl) (j_icmp_ge hK (dj9 DX12_braidOn 38 176 rfl rfl) h (fun h => j_sub [0] rfl ((have z := lf9 h hk; z))) (fun h =>
  j_iconst hK (dc9 DX12_braidOn 39 rfl) (j_istore hK (dc9 DX12_braidOn 40 rfl) (Nat.le_of_ble_eq_true rfl) rfl (j_sub [1, 2, 3, 4, 0] rfl ((have z := j_lpE (X12_braidOn_T71 K o a0_m v1 v3) (X12_braidOn_F71 K o a0_m v1 v3) h (fun q y h hk => X12_braidOn_wb71 hK hw (ha0_m) h hk) (fun e h => j_iinc hK (dc9 DX12_braidOn 99 rfl) 3 rfl (Nat.le_of_ble_eq_true rfl) rfl (j_goto hK (dj9 DX12_braidOn 100 60 rfl rfl) (j_sub [1, 2, 3, 0] rfl ((have z := lf9 h hk; z))))); z))))))))
def X12_braidOn_T178 (K : KT) (o : Nat) (q : Int × DA) : Prop := J K 7 q.2 [(0, rf K o), (3, vi (q.1))] 178 []
def X12_braidOn_F178 (K : KT) (o : Nat) (q : DA) : Prop := J K 7 q [] 202 []
def X12_braidOn_b178 (o : Nat) (v3 : Int) (d : DA) : Option ((Int × DA) ⊕ (DA)) :=
  gd (inR v3 ∧ inR 25) <|
  if 25 ≤ v3 then (some (.inr d)) else
  gd (ix v3 25) <|
  gd (ix v3 25) <|
  lt9 (wI d (o + 38) (Int.toNat v3) (d.1 (o + 31) (Int.toNat v3))) fun d4 =>
  some (.inl (v3 + 1, d4))
theorem X12_braidOn_wb178 {K : KT} (hK : Ok9 K cX12_braidOn RX12 7 none 3 71) {o : Nat} (hw : W_12 (kσ K) o) {v3 : Int} {d : DA} {y : (Int × DA) ⊕ (DA)} (h : X12_braidOn_b178 o v3 d = some y) (hk : S2 (X12_braidOn_T178 K o) (X12_braidOn_F178 K o) y) : J K 7 d [(0, rf K o), (3, vi v3)] 178 [] :=
  j_iload_n hK (dc9 DX12_braidOn 103 rfl) 1 rfl rfl (j_bipush hK (dc9 DX12_braidOn 104 rfl) (by decide) (j_icmp_ge hK (dj9 DX12_braidOn 105 202 rfl rfl) h (fun h => j_sub [] rfl ((have z := lf9 h hk; z))) (fun h =>
  j_aload_n hK (dc9 DX12_braidOn 106 rfl) 0 rfl rfl (j_getR hK (hw.1) fl12_132 rfl (hw.2.2.2.2.2.2.2.2.2.2.2.2.2.2.2.2.2.2.2.2.2.2.2.2.2.2.2.2.2.2.2.2.2.2.2.2.2.2.1.1) (hw.2.2.2.2.2.2.2.2.2.2.2.2.2.2.2.2.2.2.2.2.2.2.2.2.2.2.2.2.2.2.2.2.2.2.2.2.2.2.1.2.1) (dc9 DX12_braidOn 107 rfl) (j_iload_n hK (dc9 DX12_braidOn 108 rfl) 1 rfl rfl (j_aload_n hK (dc9 DX12_braidOn 109 rfl) 0 rfl rfl (j_getR hK (hw.1) fl12_111 rfl (hw.2.2.2.2.2.2.2.2.2.2.2.2.2.2.2.2.2.2.2.2.2.2.2.2.2.2.2.2.2.2.2.1.1) (hw.2.2.2.2.2.2.2.2.2.2.2.2.2.2.2.2.2.2.2.2.2.2.2.2.2.2.2.2.2.2.2.1.2.1) (dc9 DX12_braidOn 110 rfl) (j_iload_n hK (dc9 DX12_braidOn 111 rfl) 1 rfl rfl (j_iald hK (hw.2.2.2.2.2.2.2.2.2.2.2.2.2.2.2.2.2.2.2.2.2.2.2.2.2.2.2.2.2.2.2.1.2) (Nat.le_of_ble_eq_true rfl) (dc9 DX12_braidOn 112 rfl) h fun h => (j_iast hK (hw.2.2.2.2.2.2.2.2.2.2.2.2.2.2.2.2.2.2.2.2.2.2.2.2.2.2.2.2.2.2.2.2.2.2.2.2.2.2.1.2) (Nat.le_of_ble_eq_true rfl) (dc9 DX12_braidOn 113 rfl) h fun d4 h => (j_iinc hK (dc9 DX12_braidOn 114 rfl) 1 rfl (Nat.le_of_ble_eq_true rfl) rfl (j_goto hK (dj9 DX12_braidOn 115 178 rfl rfl) (j_sub [1, 0] rfl ((have z := lf9 h hk; z)))))))))))))))
def X12_braidOn_j176 (o : Nat) (d : DA) : Option (Unit × DA) :=
  lpE (fun q => X12_braidOn_b178 o q.1 q.2) (0, d) (fun e => some (((), e)))
theorem X12_braidOn_wj176 {K : KT} (hK : Ok9 K cX12_braidOn RX12 7 none 3 71) {o : Nat} (hw : W_12 (kσ K) o) {d : DA} {y : Unit × DA} (h : X12_braidOn_j176 o d = some y) (hk : (FV K) y) : J K 7 d [(0, rf K o)] 176 [] :=
  j_iconst hK (dc9 DX12_braidOn 101 rfl) (j_istore_n hK (dc9 DX12_braidOn 102 rfl) rfl (Nat.le_of_ble_eq_true rfl) rfl (j_sub [1, 0] rfl ((have z := j_lpE (X12_braidOn_T178 K o) (X12_braidOn_F178 K o) h (fun q y h hk => X12_braidOn_wb178 hK hw h hk) (fun e h => j_vret hK (dc9 DX12_braidOn 116 rfl) (have z := lf9 h hk; z)); z))))
def X12_braidOn_j58 (o : Nat) (a0_m : Nat) (v1 : Int) (d : DA) : Option (Unit × DA) :=
  lpE (fun q => X12_braidOn_b60 o a0_m v1 q.1 q.2) (0, d) (fun e => X12_braidOn_j176 o e)
theorem X12_braidOn_wj58 {K : KT} (hK : Ok9 K cX12_braidOn RX12 7 none 3 71) {o : Nat} (hw : W_12 (kσ K) o) {a0_m : Nat} (ha0_m : Ar K a0_m 25) {v1 : Int} {d : DA} {y : Unit × DA} (h : X12_braidOn_j58 o a0_m v1 d = some y) (hk : (FV K) y) : J K 7 d [(0, rf K o), (1, vi v1), (2, rf K a0_m)] 58 [] :=
  j_iconst hK (dc9 DX12_braidOn 33 rfl) (j_istore_n hK (dc9 DX12_braidOn 34 rfl) rfl (Nat.le_of_ble_eq_true rfl) rfl (j_sub [1, 2, 3, 0] rfl ((have z := j_lpE (X12_braidOn_T60 K o a0_m v1) (X12_braidOn_F60 K o a0_m v1) h (fun q y h hk => X12_braidOn_wb60 hK hw (ha0_m) h hk) (fun e h => X12_braidOn_wj176 hK hw h hk); z))))
def X12_braidOn_T28 (K : KT) (o : Nat) (a0_m : Nat) (v1 : Int) (q : Int × DA) : Prop := J K 7 q.2 [(0, rf K o), (1, vi v1), (2, rf K a0_m), (3, vi (q.1))] 28 []
def X12_braidOn_F28 (K : KT) (o : Nat) (a0_m : Nat) (v1 : Int) (q : DA) : Prop := J K 7 q [(0, rf K o), (1, vi v1), (2, rf K a0_m)] 49 []
def X12_braidOn_b28 (o : Nat) (a0_m : Nat) (v1 v3 : Int) (d : DA) : Option ((Int × DA) ⊕ (DA)) :=
  gd (inR v3 ∧ inR 25) <|
  if 25 ≤ v3 then (some (.inr d)) else
  gd (ix v3 25) <|
  gd (ix v3 25) <|
  lt9 (wI d (o + 25) (Int.toNat v3) (d.1 a0_m (Int.toNat v3))) fun d5 =>
  some (.inl (v3 + 1, d5))
theorem X12_braidOn_wb28 {K : KT} (hK : Ok9 K cX12_braidOn RX12 7 none 3 71) {o : Nat} (hw : W_12 (kσ K) o) {a0_m : Nat} (ha0_m : Ar K a0_m 25) {v1 v3 : Int} {d : DA} {y : (Int × DA) ⊕ (DA)} (h : X12_braidOn_b28 o a0_m v1 v3 d = some y) (hk : S2 (X12_braidOn_T28 K o a0_m v1) (X12_braidOn_F28 K o a0_m v1) y) : J K 7 d [(0, rf K o), (1, vi v1), (2, rf K a0_m), (3, vi v3)] 28 [] :=
  j_iload_n hK (dc9 DX12_braidOn 16 rfl) 3 rfl rfl (j_bipush hK (dc9 DX12_braidOn 17 rfl) (by decide) (j_icmp_ge hK (dj9 DX12_braidOn 18 49 rfl rfl) h (fun h => j_sub [0, 1, 2] rfl ((have z := lf9 h hk; z))) (fun h =>
  j_aload_n hK (dc9 DX12_braidOn 19 rfl) 0 rfl rfl (j_getR hK (hw.1) fl12_93 rfl (hw.2.2.2.2.2.2.2.2.2.2.2.2.2.2.2.2.2.2.2.2.2.2.2.2.2.1.1) (hw.2.2.2.2.2.2.2.2.2.2.2.2.2.2.2.2.2.2.2.2.2.2.2.2.2.1.2.1) (dc9 DX12_braidOn 20 rfl) (j_iload_n hK (dc9 DX12_braidOn 21 rfl) 3 rfl rfl (j_aload_n hK (dc9 DX12_braidOn 22 rfl) 2 rfl rfl (j_iload_n hK (dc9 DX12_braidOn 23 rfl) 3 rfl rfl (j_iald hK ha0_m (Nat.le_of_ble_eq_true rfl) (dc9 DX12_braidOn 24 rfl) h fun h => (j_iast hK (hw.2.2.2.2.2.2.2.2.2.2.2.2.2.2.2.2.2.2.2.2.2.2.2.2.2.1.2) (Nat.le_of_ble_eq_true rfl) (dc9 DX12_braidOn 25 rfl) h fun d5 h => (j_iinc hK (dc9 DX12_braidOn 26 rfl) 3 rfl (Nat.le_of_ble_eq_true rfl) rfl (j_goto hK (dj9 DX12_braidOn 27 28 rfl rfl) (j_sub [1, 2, 3, 0] rfl ((have z := lf9 h hk; z))))))))))))))
def X12_braidOn_j49 (o : Nat) (a0_m : Nat) (v1 : Int) (d : DA) : Option (Unit × DA) :=
  bd (X12_turnBack o (d.1 o 74) d) fun x7 d6 =>
  X12_braidOn_j58 o a0_m v1 d6
theorem X12_braidOn_wj49 {K : KT} (hK : Ok9 K cX12_braidOn RX12 7 none 3 71) {o : Nat} (hw : W_12 (kσ K) o) {a0_m : Nat} (ha0_m : Ar K a0_m 25) {v1 : Int} {d : DA} {y : Unit × DA} (h : X12_braidOn_j49 o a0_m v1 d = some y) (hk : (FV K) y) : J K 7 d [(0, rf K o), (1, vi v1), (2, rf K a0_m)] 49 [] :=
  j_aload_n hK (dc9 DX12_braidOn 28 rfl) 0 rfl rfl (j_aload_n hK (dc9 DX12_braidOn 29 rfl) 0 rfl rfl (j_getI hK (hw.1) fl12_545 rfl (dc9 DX12_braidOn 30 rfl) (bd9 h fun x7 d6 hc h => j_cV hK (c_X12_turnBack (hst9 hK) (hw) hc) cl12_487 cd_X12_turnBack im_X12_turnBack se_X12_turnBack (hw.1) (Nat.le_of_ble_eq_true rfl) rfl (Nat.le_of_ble_eq_true rfl) (Nat.le_of_ble_eq_true rfl) rfl (st := []) rfl (Nat.le_of_ble_eq_true rfl) (dc9 DX12_braidOn 31 rfl) rfl (j_pop hK (dc9 DX12_braidOn 32 rfl) rfl (X12_braidOn_wj58 hK hw (ha0_m) h hk)))))
def X12_braidOn_j21 (o : Nat) (a0_m : Nat) (v1 : Int) (d : DA) : Option (Unit × DA) :=
  gd (inR v1) <|
  if 0 ≤ v1 then (X12_braidOn_j58 o a0_m v1 d) else
  lpE (fun q => X12_braidOn_b28 o a0_m v1 q.1 q.2) (0, d) (fun e => X12_braidOn_j49 o a0_m v1 e)
theorem X12_braidOn_wj21 {K : KT} (hK : Ok9 K cX12_braidOn RX12 7 none 3 71) {o : Nat} (hw : W_12 (kσ K) o) {a0_m : Nat} (ha0_m : Ar K a0_m 25) {v1 : Int} {d : DA} {y : Unit × DA} (h : X12_braidOn_j21 o a0_m v1 d = some y) (hk : (FV K) y) : J K 7 d [(0, rf K o), (1, vi v1)] 21 [rf K a0_m] :=
  j_astore_n hK (dc9 DX12_braidOn 11 rfl) rfl (Nat.le_of_ble_eq_true rfl) rfl (j_iload_n hK (dc9 DX12_braidOn 12 rfl) 2 rfl rfl (j_if_ge hK (dj9 DX12_braidOn 13 58 rfl rfl) h (fun h => j_sub [1, 2, 0] rfl (X12_braidOn_wj58 hK hw (ha0_m) h hk)) (fun h =>
  j_iconst hK (dc9 DX12_braidOn 14 rfl) (j_istore_n hK (dc9 DX12_braidOn 15 rfl) rfl (Nat.le_of_ble_eq_true rfl) rfl (j_sub [2, 3, 1, 0] rfl ((have z := j_lpE (X12_braidOn_T28 K o a0_m v1) (X12_braidOn_F28 K o a0_m v1) h (fun q y h hk => X12_braidOn_wb28 hK hw (ha0_m) h hk) (fun e h => X12_braidOn_wj49 hK hw (ha0_m) h hk); z)))))))
def X12_braidOn_j10 (o : Nat) (v1 : Int) (d : DA) : Option (Unit × DA) :=
  X12_braidOn_j21 o (o + 36) v1 d
theorem X12_braidOn_wj10 {K : KT} (hK : Ok9 K cX12_braidOn RX12 7 none 3 71) {o : Nat} (hw : W_12 (kσ K) o) {v1 : Int} {d : DA} {y : Unit × DA} (h : X12_braidOn_j10 o v1 d = some y) (hk : (FV K) y) : J K 7 d [(0, rf K o), (1, vi v1)] 10 [] :=
  j_aload_n hK (dc9 DX12_braidOn 6 rfl) 0 rfl rfl (j_getR hK (hw.1) fl12_126 rfl (hw.2.2.2.2.2.2.2.2.2.2.2.2.2.2.2.2.2.2.2.2.2.2.2.2.2.2.2.2.2.2.2.2.2.2.2.2.1.1) (hw.2.2.2.2.2.2.2.2.2.2.2.2.2.2.2.2.2.2.2.2.2.2.2.2.2.2.2.2.2.2.2.2.2.2.2.2.1.2.1) (dc9 DX12_braidOn 7 rfl) (j_goto hK (dj9 DX12_braidOn 8 21 rfl rfl) (X12_braidOn_wj21 hK hw (hw.2.2.2.2.2.2.2.2.2.2.2.2.2.2.2.2.2.2.2.2.2.2.2.2.2.2.2.2.2.2.2.2.2.2.2.2.1.2) h hk)))
def X12_braidOn (o : Nat) (v1 : Int) (d : DA) : Option (Unit × DA) :=
  gd (inR v1 ∧ inR 1) <|
  if v1 = 1 then (X12_braidOn_j10 o v1 d) else
  gd (inR v1 ∧ inR (-1)) <|
  if v1 = (-1) then (X12_braidOn_j10 o v1 d) else
  X12_braidOn_j21 o (o + 37) v1 d
theorem X12_braidOn_w {K : KT} (hK : Ok9 K cX12_braidOn RX12 7 none 3 71) {o : Nat} (hw : W_12 (kσ K) o) {v1 : Int} {d : DA} {y : Unit × DA} (h : X12_braidOn o v1 d = some y) (hk : (FV K) y) : J K 7 d [(0, rf K o), (1, vi v1)] 0 [] :=
  j_iload_n hK (dc9 DX12_braidOn 0 rfl) 1 rfl rfl (j_iconst hK (dc9 DX12_braidOn 1 rfl) (j_icmp_eq hK (dj9 DX12_braidOn 2 10 rfl rfl) h (fun h => X12_braidOn_wj10 hK hw h hk) (fun h =>
  j_iload_n hK (dc9 DX12_braidOn 3 rfl) 1 rfl rfl (j_iconst hK (dc9 DX12_braidOn 4 rfl) (j_icmp_ne hK (dj9 DX12_braidOn 5 17 rfl rfl) h (fun h => j_aload_n hK (dc9 DX12_braidOn 9 rfl) 0 rfl rfl (j_getR hK (hw.1) fl12_129 rfl (hw.2.2.2.2.2.2.2.2.2.2.2.2.2.2.2.2.2.2.2.2.2.2.2.2.2.2.2.2.2.2.2.2.2.2.2.2.2.1.1) (hw.2.2.2.2.2.2.2.2.2.2.2.2.2.2.2.2.2.2.2.2.2.2.2.2.2.2.2.2.2.2.2.2.2.2.2.2.2.1.2.1) (dc9 DX12_braidOn 10 rfl) (X12_braidOn_wj21 hK hw (hw.2.2.2.2.2.2.2.2.2.2.2.2.2.2.2.2.2.2.2.2.2.2.2.2.2.2.2.2.2.2.2.2.2.2.2.2.2.1.2) h hk))) (fun h =>
  X12_braidOn_wj10 hK hw h hk))))))
theorem c_X12_braidOn {G : GT} {l : Launch} {ad : Nat → Nat} {σ : HS} {d d' : DA} (hst : l.stackTraces = false) {o : Nat} (hw : W_12 σ o) {v1 : Int} {r : Unit} (h : X12_braidOn o v1 d = some (r, d')) : Ct G l yX12_braidOn cX12_braidOn 7 none 3 71 ad (wD σ d) [.ref (ad o), vi v1] none (wD σ d') :=
  ct_of hst rfl (Nat.le_of_ble_eq_true rfl) (fun K e0 e9 e1 e2 e3 hK => by subst e0; subst e9; subst e1; subst e2; exact X12_braidOn_w hK hw h e3)
/-! X4_readWord -/
theorem DX4_readWord : Dt cX4_readWord [(0, .aload_n 0, 1, 1), (1, .getfield 19, 3, 4), (4, .aload_n 0, 1, 5), (5, .getfield 15, 3, 8), (8, .if_icmp .ge 31, 3, 11), (11, .aload_n 0, 1, 12), (12, .getfield 9, 3, 15), (15, .aload_n 0, 1, 16), (16, .getfield 19, 3, 19), (19, .iaload, 1, 20), (20, .invokestatic 58, 3, 23), (23, .ifCond .eq 16, 3, 26), (26, .aload_n 0, 1, 27), (27, .dup, 1, 28), (28, .getfield 19, 3, 31), (31, .iconst 1, 1, 32), (32, .iadd, 1, 33), (33, .putfield 19, 3, 36), (36, .goto (-36), 3, 39), (39, .aload_n 0, 1, 40), (40, .aload_n 0, 1, 41), (41, .ldc 73, 2, 43), (43, .invokevirtual 75, 3, 46), (46, .ifCond .eq 7, 3, 49), (49, .iconst 1, 1, 50), (50, .goto 18, 3, 53), (53, .aload_n 0, 1, 54), (54, .ldc 79, 2, 56), (56, .invokevirtual 75, 3, 59), (59, .ifCond .eq 7, 3, 62), (62, .iconst 2, 1, 63), (63, .goto 5, 3, 66), (66, .bipush 6, 2, 68), (68, .putfield 55, 3, 71), (71, .return_, 1, 72)] := by unfold Dt; decide +kernel
def X4_readWord_j39 (o : Nat) (d : DA) : Option (Unit × DA) :=
  b1 (X4_isWord o 0 d) fun x1 =>
  gd (inR x1) <|
  if x1 = 0 then (b1 (X4_isWord o 1 d) fun x2 =>
  gd (inR x2) <|
  if x2 = 0 then (lt9 (wI d o 4 6) fun d3 =>
  some (((), d3))) else
  lt9 (wI d o 4 2) fun d4 =>
  some (((), d4))) else
  lt9 (wI d o 4 1) fun d5 =>
  some (((), d5))
theorem X4_readWord_wj39 {K : KT} (hK : Ok9 K cX4_readWord RX4 1 none 7 222) {o : Nat} (hw : W_4 (kσ K) o) (hm : M_4 (kσ K) o) {d : DA} {y : Unit × DA} (h : X4_readWord_j39 o d = some y) (hk : (FV K) y) : J K 1 d [(0, rf K o)] 39 [] :=
  j_aload_n hK (dc9 DX4_readWord 19 rfl) 0 rfl rfl (j_aload_n hK (dc9 DX4_readWord 20 rfl) 0 rfl rfl (j_lds0 hK (dc9 DX4_readWord 21 rfl) (b19 h fun x1 hc h => j_cV hK (c_X4_isWord (hst9 hK) (hw) ((Nat.le_of_ble_eq_true rfl)) hm hc) cl4_75 cd_X4_isWord im_X4_isWord se_X4_isWord (hw.1) (Nat.le_of_ble_eq_true rfl) rfl (Nat.le_of_ble_eq_true rfl) (Nat.le_of_ble_eq_true rfl) rfl (st := [rf K o]) rfl (Nat.le_of_ble_eq_true rfl) (dc9 DX4_readWord 22 rfl) rfl (j_if_eq hK (dj9 DX4_readWord 23 53 rfl rfl) h (fun h => j_aload_n hK (dc9 DX4_readWord 26 rfl) 0 rfl rfl (j_lds1 hK (dc9 DX4_readWord 27 rfl) (b19 h fun x2 hc h => j_cV hK (c_X4_isWord (hst9 hK) (hw) ((Nat.le_of_ble_eq_true rfl)) hm hc) cl4_75 cd_X4_isWord im_X4_isWord se_X4_isWord (hw.1) (Nat.le_of_ble_eq_true rfl) rfl (Nat.le_of_ble_eq_true rfl) (Nat.le_of_ble_eq_true rfl) rfl (st := [rf K o]) rfl (Nat.le_of_ble_eq_true rfl) (dc9 DX4_readWord 28 rfl) rfl (j_if_eq hK (dj9 DX4_readWord 29 66 rfl rfl) h (fun h => j_bipush hK (dc9 DX4_readWord 32 rfl) (by decide) (j_putI hK (hw.1) fl4_55 fp4_55 rfl (dc9 DX4_readWord 33 rfl) h fun d3 h => (j_vret hK (dc9 DX4_readWord 34 rfl) (have z := lf9 h hk; z)))) (fun h =>
  j_iconst hK (dc9 DX4_readWord 30 rfl) (j_goto hK (dj9 DX4_readWord 31 68 rfl rfl) (j_putI hK (hw.1) fl4_55 fp4_55 rfl (dc9 DX4_readWord 33 rfl) h fun d4 h => (j_vret hK (dc9 DX4_readWord 34 rfl) (have z := lf9 h hk; z))))))))) (fun h =>
  j_iconst hK (dc9 DX4_readWord 24 rfl) (j_goto hK (dj9 DX4_readWord 25 68 rfl rfl) (j_putI hK (hw.1) fl4_55 fp4_55 rfl (dc9 DX4_readWord 33 rfl) h fun d5 h => (j_vret hK (dc9 DX4_readWord 34 rfl) (have z := lf9 h hk; z)))))))))
def X4_readWord_T0 (K : KT) (o : Nat) (q : DA) : Prop := J K 1 q [(0, rf K o)] 0 []
def X4_readWord_F0 (K : KT) (o : Nat) (q : DA) : Prop := J K 1 q [(0, rf K o)] 39 []
def X4_readWord_b0 (o : Nat) (d : DA) : Option ((DA) ⊕ (DA)) :=
  gd (inR (d.1 o 2) ∧ inR (d.1 o 1)) <|
  if (d.1 o 1) ≤ (d.1 o 2) then (some (.inr d)) else
  gd (ix (d.1 o 2) 400) <|
  b1 (X4_isLetter (d.1 (o - 1) (Int.toNat (d.1 o 2))) d) fun x8 =>
  gd (inR x8) <|
  if x8 = 0 then (some (.inr d)) else
  lt9 (wI d o 2 ((d.1 o 2) + 1)) fun d9 =>
  some (.inl d9)
theorem X4_readWord_wb0 {K : KT} (hK : Ok9 K cX4_readWord RX4 1 none 7 222) {o : Nat} (hw : W_4 (kσ K) o) (hm : M_4 (kσ K) o) {d : DA} {y : (DA) ⊕ (DA)} (h : X4_readWord_b0 o d = some y) (hk : S2 (X4_readWord_T0 K o) (X4_readWord_F0 K o) y) : J K 1 d [(0, rf K o)] 0 [] :=
  j_aload_n hK (dc9 DX4_readWord 0 rfl) 0 rfl rfl (j_getI hK (hw.1) fl4_19 rfl (dc9 DX4_readWord 1 rfl) (j_aload_n hK (dc9 DX4_readWord 2 rfl) 0 rfl rfl (j_getI hK (hw.1) fl4_15 rfl (dc9 DX4_readWord 3 rfl) (j_icmp_ge hK (dj9 DX4_readWord 4 39 rfl rfl) h (fun h => (have z := lf9 h hk; z)) (fun h =>
  j_aload_n hK (dc9 DX4_readWord 5 rfl) 0 rfl rfl (j_getR hK (hw.1) fl4_9 rfl (hm.1.1) (hm.1.2.1) (dc9 DX4_readWord 6 rfl) (j_aload_n hK (dc9 DX4_readWord 7 rfl) 0 rfl rfl (j_getI hK (hw.1) fl4_19 rfl (dc9 DX4_readWord 8 rfl) (j_iald hK (hm.1.2) (Nat.le_of_ble_eq_true rfl) (dc9 DX4_readWord 9 rfl) h fun h => (b19 h fun x8 hc h => j_cS hK (c_X4_isLetter (hst9 hK)  hc) cl4_58 cd_X4_isLetter sm_X4_isLetter (Nat.le_of_ble_eq_true rfl) (Nat.le_of_ble_eq_true rfl) rfl (st := []) rfl (Nat.le_of_ble_eq_true rfl) (dc9 DX4_readWord 10 rfl) rfl (j_if_eq hK (dj9 DX4_readWord 11 39 rfl rfl) h (fun h => (have z := lf9 h hk; z)) (fun h =>
  j_aload_n hK (dc9 DX4_readWord 12 rfl) 0 rfl rfl (j_dup hK (dc9 DX4_readWord 13 rfl) rfl (j_getI hK (hw.1) fl4_19 rfl (dc9 DX4_readWord 14 rfl) (j_iconst hK (dc9 DX4_readWord 15 rfl) (j_iadd hK (dc9 DX4_readWord 16 rfl) (j_putI hK (hw.1) fl4_19 fp4_19 rfl (dc9 DX4_readWord 17 rfl) h fun d9 h => (j_goto hK (dj9 DX4_readWord 18 0 rfl rfl) ((have z := lf9 h hk; z))))))))))))))))))))
def X4_readWord (o : Nat) (d : DA) : Option (Unit × DA) :=
  gd (inR (d.1 o 2) ∧ inR (d.1 o 1)) <|
  if (d.1 o 1) ≤ (d.1 o 2) then (X4_readWord_j39 o d) else
  gd (ix (d.1 o 2) 400) <|
  b1 (X4_isLetter (d.1 (o - 1) (Int.toNat (d.1 o 2))) d) fun x6 =>
  gd (inR x6) <|
  if x6 = 0 then (X4_readWord_j39 o d) else
  lt9 (wI d o 2 ((d.1 o 2) + 1)) fun d7 =>
  lpE (fun q => X4_readWord_b0 o q) d7 (fun e => X4_readWord_j39 o e)
theorem X4_readWord_w {K : KT} (hK : Ok9 K cX4_readWord RX4 1 none 7 222) {o : Nat} (hw : W_4 (kσ K) o) (hm : M_4 (kσ K) o) {d : DA} {y : Unit × DA} (h : X4_readWord o d = some y) (hk : (FV K) y) : J K 1 d [(0, rf K o)] 0 [] :=
  j_aload_n hK (dc9 DX4_readWord 0 rfl) 0 rfl rfl (j_getI hK (hw.1) fl4_19 rfl (dc9 DX4_readWord 1 rfl) (j_aload_n hK (dc9 DX4_readWord 2 rfl) 0 rfl rfl (j_getI hK (hw.1) fl4_15 rfl (dc9 DX4_readWord 3 rfl) (j_icmp_ge hK (dj9 DX4_readWord 4 39 rfl rfl) h (fun h => X4_readWord_wj39 hK hw hm h hk) (fun h =>
  j_aload_n hK (dc9 DX4_readWord 5 rfl) 0 rfl rfl (j_getR hK (hw.1) fl4_9 rfl (hm.1.1) (hm.1.2.1) (dc9 DX4_readWord 6 rfl) (j_aload_n hK (dc9 DX4_readWord 7 rfl) 0 rfl rfl (j_getI hK (hw.1) fl4_19 rfl (dc9 DX4_readWord 8 rfl) (j_iald hK (hm.1.2) (Nat.le_of_ble_eq_true rfl) (dc9 DX4_readWord 9 rfl) h fun h => (b19 h fun x6 hc h => j_cS hK (c_X4_isLetter (hst9 hK)  hc) cl4_58 cd_X4_isLetter sm_X4_isLetter (Nat.le_of_ble_eq_true rfl) (Nat.le_of_ble_eq_true rfl) rfl (st := []) rfl (Nat.le_of_ble_eq_true rfl) (dc9 DX4_readWord 10 rfl) rfl (j_if_eq hK (dj9 DX4_readWord 11 39 rfl rfl) h (fun h => X4_readWord_wj39 hK hw hm h hk) (fun h =>
  j_aload_n hK (dc9 DX4_readWord 12 rfl) 0 rfl rfl (j_dup hK (dc9 DX4_readWord 13 rfl) rfl (j_getI hK (hw.1) fl4_19 rfl (dc9 DX4_readWord 14 rfl) (j_iconst hK (dc9 DX4_readWord 15 rfl) (j_iadd hK (dc9 DX4_readWord 16 rfl) (j_putI hK (hw.1) fl4_19 fp4_19 rfl (dc9 DX4_readWord 17 rfl) h fun d7 h => (j_goto hK (dj9 DX4_readWord 18 0 rfl rfl) ((have z := j_lpE (X4_readWord_T0 K o) (X4_readWord_F0 K o) h (fun q y h hk => X4_readWord_wb0 hK hw hm h hk) (fun e h => X4_readWord_wj39 hK hw hm h hk); z))))))))))))))))))))
theorem c_X4_readWord {G : GT} {l : Launch} {ad : Nat → Nat} {σ : HS} {d d' : DA} (hst : l.stackTraces = false) {o : Nat} (hw : W_4 σ o) (hm : M_4 σ o) {r : Unit} (h : X4_readWord o  d = some (r, d')) : Ct G l yX4_readWord cX4_readWord 1 none 7 222 ad (wD σ d) [.ref (ad o)] none (wD σ d') :=
  ct_of hst rfl (Nat.le_of_ble_eq_true rfl) (fun K e0 e9 e1 e2 e3 hK => by subst e0; subst e9; subst e1; subst e2; exact X4_readWord_w hK hw hm h e3)
/-! X12_table -/
theorem DX12_table : Dt cX12_table [(0, .aload_n 0, 1, 1), (1, .iconst 0, 1, 2), (2, .putfield 165, 3, 5), (5, .iload_n 1, 1, 6), (6, .ifCond .lt 11, 3, 9), (9, .iload_n 1, 1, 10), (10, .aload_n 0, 1, 11), (11, .getfield 185, 3, 14), (14, .if_icmp .le 9, 3, 17), (17, .aload_n 0, 1, 18), (18, .iconst 1, 1, 19), (19, .invokevirtual 271, 3, 22), (22, .ireturn, 1, 23), (23, .aload_n 0, 1, 24), (24, .iconst 0, 1, 25), (25, .putfield 185, 3, 28), (28, .aload_n 0, 1, 29), (29, .iload_n 1, 1, 30), (30, .putfield 188, 3, 33), (33, .aload_n 0, 1, 34), (34, .iconst 0, 1, 35), (35, .putfield 191, 3, 38), (38, .aload_n 0, 1, 39), (39, .iconst 0, 1, 40), (40, .putfield 223, 3, 43), (43, .aload_n 0, 1, 44), (44, .iconst (-1), 1, 45), (45, .putfield 56, 3, 48), (48, .aload_n 0, 1, 49), (49, .invokevirtual 247, 3, 52), (52, .aload_n 0, 1, 53), (53, .ldc_w 274, 3, 56), (56, .invokevirtual 275, 3, 59), (59, .aload_n 0, 1, 60), (60, .getfield 223, 3, 63), (63, .ifCond .ne 19, 3, 66), (66, .aload_n 0, 1, 67), (67, .getfield 201, 3, 70), (70, .iconst 2, 1, 71), (71, .if_icmp .eq 11, 3, 74), (74, .aload_n 0, 1, 75), (75, .iconst 1, 1, 76), (76, .invokevirtual 243, 3, 79), (79, .goto 40, 3, 82), (82, .aload_n 0, 1, 83), (83, .getfield 223, 3, 86), (86, .ifCond .ne 33, 3, 89), (89, .aload_n 0, 1, 90), (90, .getfield 220, 3, 93), (93, .aload_n 0, 1, 94), (94, .getfield 198, 3, 97), (97, .isub, 1, 98), (98, .iconst 3, 1, 99), (99, .if_icmp .gt 15, 3, 102), (102, .aload_n 0, 1, 103), (103, .getfield 211, 3, 106), (106, .iconst 1, 1, 107), (107, .iconst 5, 1, 108), (108, .invokestatic 168, 3, 111), (111, .ifCond .ne 8, 3, 114), (114, .aload_n 0, 1, 115), (115, .iconst 2, 1, 116), (116, .invokevirtual 243, 3, 119), (119, .aload_n 0, 1, 120), (120, .aload_n 0, 1, 121), (121, .getfield 223, 3, 124), (124, .ifCond .ne 10, 3, 127), (127, .aload_n 0, 1, 128), (128, .getfield 211, 3, 131), (131, .goto 4, 3, 134), (134, .iconst 1, 1, 135), (135, .putfield 253, 3, 138), (138, .aload_n 0, 1, 139), (139, .aload_n 0, 1, 140), (140, .getfield 23, 3, 143), (143, .aload_n 0, 1, 144), (144, .getfield 253, 3, 147), (147, .invokevirtual 279, 3, 150), (150, .aload_n 0, 1, 151), (151, .getfield 223, 3, 154), (154, .ifCond .ne 7, 3, 157), (157, .aload_n 0, 1, 158), (158, .invokevirtual 247, 3, 161), (161, .aload_n 0, 1, 162), (162, .bipush 59, 2, 164), (164, .invokevirtual 262, 3, 167), (167, .iconst 0, 1, 168), (168, .istore_n 2, 1, 169), (169, .aload_n 0, 1, 170), (170, .getfield 223, 3, 173), (173, .ifCond .ne 19, 3, 176), (176, .aload_n 0, 1, 177), (177, .getfield 201, 3, 180), (180, .ifCond .eq 12, 3, 183), (183, .aload_n 0, 1, 184), (184, .iload_n 2, 1, 185), (185, .invokevirtual 283, 3, 188), (188, .istore_n 2, 1, 189), (189, .goto (-20), 3, 192), (192, .aload_n 0, 1, 193), (193, .getfield 223, 3, 196), (196, .ifCond .eq 26, 3, 199), (199, .aload_n 0, 1, 200), (200, .aload_n 0, 1, 201), (201, .getfield 226, 3, 204), (204, .putfield 56, 3, 207), (207, .aload_n 0, 1, 208), (208, .getfield 38, 3, 211), (211, .iconst 0, 1, 212), (212, .dup2, 1, 213), (213, .iaload, 1, 214), (214, .iconst 1, 1, 215), (215, .iadd, 1, 216), (216, .iastore, 1, 217), (217, .aload_n 0, 1, 218), (218, .getfield 223, 3, 221), (221, .ireturn, 1, 222), (222, .aload_n 0, 1, 223), (223, .invokevirtual 286, 3, 226), (226, .iconst 0, 1, 227), (227, .ireturn, 1, 228)] := by unfold Dt; decide +kernel
def X12_table_j17 (o : Nat) (d : DA) : Option (Int × DA) :=
  bd (X12_fail o 1 d) fun x3 d2 =>
  some ((x3, d2))
theorem X12_table_wj17 {K : KT} (hK : Ok9 K cX12_table RX12 3 (some .int) 9 269) {o : Nat} (hw : W_12 (kσ K) o) {d : DA} {y : Int × DA} (h : X12_table_j17 o d = some y) (hk : (FI K) y) : J K 3 d [(0, rf K o)] 17 [] :=
  j_aload_n hK (dc9 DX12_table 9 rfl) 0 rfl rfl (j_iconst hK (dc9 DX12_table 10 rfl) (bd9 h fun x3 d2 hc h => j_cV hK (c_X12_fail (hst9 hK) (hw) hc) cl12_271 cd_X12_fail im_X12_fail se_X12_fail (hw.1) (Nat.le_of_ble_eq_true rfl) rfl (Nat.le_of_ble_eq_true rfl) (Nat.le_of_ble_eq_true rfl) rfl (st := []) rfl (Nat.le_of_ble_eq_true rfl) (dc9 DX12_table 11 rfl) rfl (j_iret hK (dc9 DX12_table 12 rfl) (have z := lf9 h hk; z))))
def X12_table_T169 (K : KT) (o : Nat) (q : Int × DA) : Prop := J K 3 q.2 [(0, rf K o), (2, vi (q.1))] 169 []
def X12_table_F169 (K : KT) (o : Nat) (q : DA) : Prop := J K 3 q [(0, rf K o)] 192 []
def X12_table_b169 (o : Nat) (v2 : Int) (d : DA) : Option ((Int × DA) ⊕ (DA)) :=
  gd (inR (d.1 o 28)) <|
  if (d.1 o 28) = 0 then (gd (inR (d.1 o 24)) <|
  if (d.1 o 24) = 0 then (some (.inr d)) else
  bd (X12_readLine o v2 d) fun x15 d14 =>
  some (.inl (x15, d14))) else
  some (.inr d)
theorem X12_table_wb169 {K : KT} (hK : Ok9 K cX12_table RX12 3 (some .int) 9 269) {o : Nat} (hw : W_12 (kσ K) o) {v2 : Int} {d : DA} {y : (Int × DA) ⊕ (DA)} (h : X12_table_b169 o v2 d = some y) (hk : S2 (X12_table_T169 K o) (X12_table_F169 K o) y) : J K 3 d [(0, rf K o), (2, vi v2)] 169 [] :=
  j_aload_n hK (dc9 DX12_table 88 rfl) 0 rfl rfl (j_getI hK (hw.1) fl12_223 rfl (dc9 DX12_table 89 rfl) (j_if_ne hK (dj9 DX12_table 90 192 rfl rfl) h (fun h => j_sub [0] rfl ((have z := lf9 h hk; z))) (fun h =>
  j_aload_n hK (dc9 DX12_table 91 rfl) 0 rfl rfl (j_getI hK (hw.1) fl12_201 rfl (dc9 DX12_table 92 rfl) (j_if_eq hK (dj9 DX12_table 93 192 rfl rfl) h (fun h => j_sub [0] rfl ((have z := lf9 h hk; z))) (fun h =>
  j_aload_n hK (dc9 DX12_table 94 rfl) 0 rfl rfl (j_iload_n hK (dc9 DX12_table 95 rfl) 1 rfl rfl (bd9 h fun x15 d14 hc h => j_cV hK (c_X12_readLine (hst9 hK) (hw) hc) cl12_283 cd_X12_readLine im_X12_readLine se_X12_readLine (hw.1) (Nat.le_of_ble_eq_true rfl) rfl (Nat.le_of_ble_eq_true rfl) (Nat.le_of_ble_eq_true rfl) rfl (st := []) rfl (Nat.le_of_ble_eq_true rfl) (dc9 DX12_table 96 rfl) rfl (j_istore_n hK (dc9 DX12_table 97 rfl) rfl (Nat.le_of_ble_eq_true rfl) rfl (j_goto hK (dj9 DX12_table 98 169 rfl rfl) (j_sub [1, 0] rfl ((have z := lf9 h hk; z)))))))))))))
def X12_table_j192 (o : Nat) (d : DA) : Option (Int × DA) :=
  gd (inR (d.1 o 28)) <|
  if (d.1 o 28) = 0 then (bd (X12_takeRead o d) fun _ d16 =>
  some ((0, d16))) else
  lt9 (wI d o 30 (d.1 o 29)) fun d17 =>
  gd (ix 0 2) <|
  gd (ix 0 2) <|
  lt9 (wI d17 (o + 8) (Int.toNat 0) ((d17.1 (o + 8) (Int.toNat 0)) + 1)) fun d18 =>
  some ((d18.1 o 28, d18))
theorem X12_table_wj192 {K : KT} (hK : Ok9 K cX12_table RX12 3 (some .int) 9 269) {o : Nat} (hw : W_12 (kσ K) o) {d : DA} {y : Int × DA} (h : X12_table_j192 o d = some y) (hk : (FI K) y) : J K 3 d [(0, rf K o)] 192 [] :=
  j_aload_n hK (dc9 DX12_table 99 rfl) 0 rfl rfl (j_getI hK (hw.1) fl12_223 rfl (dc9 DX12_table 100 rfl) (j_if_eq hK (dj9 DX12_table 101 222 rfl rfl) h (fun h => j_aload_n hK (dc9 DX12_table 117 rfl) 0 rfl rfl (bd9 h fun _ d16 hc h => j_cV hK (c_X12_takeRead (hst9 hK) (hw) hc) cl12_286 cd_X12_takeRead im_X12_takeRead se_X12_takeRead (hw.1) (Nat.le_of_ble_eq_true rfl) rfl (Nat.le_of_ble_eq_true rfl) (Nat.le_of_ble_eq_true rfl) rfl (st := []) rfl (Nat.le_of_ble_eq_true rfl) (dc9 DX12_table 118 rfl) rfl (j_iconst hK (dc9 DX12_table 119 rfl) (j_iret hK (dc9 DX12_table 120 rfl) (have z := lf9 h hk; z))))) (fun h =>
  j_aload_n hK (dc9 DX12_table 102 rfl) 0 rfl rfl (j_aload_n hK (dc9 DX12_table 103 rfl) 0 rfl rfl (j_getI hK (hw.1) fl12_226 rfl (dc9 DX12_table 104 rfl) (j_putI hK (hw.1) fl12_56 fp12_56 rfl (dc9 DX12_table 105 rfl) h fun d17 h => (j_aload_n hK (dc9 DX12_table 106 rfl) 0 rfl rfl (j_getR hK (hw.1) fl12_38 rfl (hw.2.2.2.2.2.2.2.2.1.1) (hw.2.2.2.2.2.2.2.2.1.2.1) (dc9 DX12_table 107 rfl) (j_iconst hK (dc9 DX12_table 108 rfl) (j_dup2 hK (dc9 DX12_table 109 rfl) rfl rfl (j_iald hK (hw.2.2.2.2.2.2.2.2.1.2) (Nat.le_of_ble_eq_true rfl) (dc9 DX12_table 110 rfl) h fun h => (j_iconst hK (dc9 DX12_table 111 rfl) (j_iadd hK (dc9 DX12_table 112 rfl) (j_iast hK (hw.2.2.2.2.2.2.2.2.1.2) (Nat.le_of_ble_eq_true rfl) (dc9 DX12_table 113 rfl) h fun d18 h => (j_aload_n hK (dc9 DX12_table 114 rfl) 0 rfl rfl (j_getI hK (hw.1) fl12_223 rfl (dc9 DX12_table 115 rfl) (j_iret hK (dc9 DX12_table 116 rfl) (have z := lf9 h hk; z))))))))))))))))))
def X12_table_j161 (o : Nat) (d : DA) : Option (Int × DA) :=
  bd (X12_mark o 59 d) fun _ d13 =>
  lpE (fun q => X12_table_b169 o q.1 q.2) (0, d13) (fun e => X12_table_j192 o e)
theorem X12_table_wj161 {K : KT} (hK : Ok9 K cX12_table RX12 3 (some .int) 9 269) {o : Nat} (hw : W_12 (kσ K) o) {d : DA} {y : Int × DA} (h : X12_table_j161 o d = some y) (hk : (FI K) y) : J K 3 d [(0, rf K o)] 161 [] :=
  j_aload_n hK (dc9 DX12_table 83 rfl) 0 rfl rfl (j_bipush hK (dc9 DX12_table 84 rfl) (by decide) (bd9 h fun _ d13 hc h => j_cV hK (c_X12_mark (hst9 hK) (hw) hc) cl12_262 cd_X12_mark im_X12_mark se_X12_mark (hw.1) (Nat.le_of_ble_eq_true rfl) rfl (Nat.le_of_ble_eq_true rfl) (Nat.le_of_ble_eq_true rfl) rfl (st := []) rfl (Nat.le_of_ble_eq_true rfl) (dc9 DX12_table 85 rfl) rfl (j_iconst hK (dc9 DX12_table 86 rfl) (j_istore_n hK (dc9 DX12_table 87 rfl) rfl (Nat.le_of_ble_eq_true rfl) rfl (j_sub [1, 0] rfl ((have z := j_lpE (X12_table_T169 K o) (X12_table_F169 K o) h (fun q y h hk => X12_table_wb169 hK hw h hk) (fun e h => X12_table_wj192 hK hw h hk); z)))))))
def X12_table_j135 (o : Nat) (s1 : Int) (d : DA) : Option (Int × DA) :=
  lt9 (wI d o 3 s1) fun d11 =>
  bd (X12_begin o (o + 3) 125 (d11.1 o 3) d11) fun _ d12 =>
  gd (inR (d12.1 o 28)) <|
  if (d12.1 o 28) = 0 then (bd (X12_stepOn o d12) fun _ d19 =>
  X12_table_j161 o d19) else
  X12_table_j161 o d12
theorem X12_table_wj135 {K : KT} (hK : Ok9 K cX12_table RX12 3 (some .int) 9 269) {o : Nat} (hw : W_12 (kσ K) o) {s1 : Int} {d : DA} {y : Int × DA} (h : X12_table_j135 o s1 d = some y) (hk : (FI K) y) : J K 3 d [(0, rf K o)] 135 [vi s1, rf K o] :=
  j_putI hK (hw.1) fl12_253 fp12_253 rfl (dc9 DX12_table 71 rfl) h fun d11 h => (j_aload_n hK (dc9 DX12_table 72 rfl) 0 rfl rfl (j_aload_n hK (dc9 DX12_table 73 rfl) 0 rfl rfl (j_getR hK (hw.1) fl12_23 rfl (hw.2.2.2.1.1) (hw.2.2.2.1.2.1) (dc9 DX12_table 74 rfl) (j_aload_n hK (dc9 DX12_table 75 rfl) 0 rfl rfl (j_getI hK (hw.1) fl12_253 rfl (dc9 DX12_table 76 rfl) (bd9 h fun _ d12 hc h => j_cV hK (c_X12_begin (hst9 hK) (hw) (hw.2.2.2.1.2) (Nat.le_of_ble_eq_true rfl) hc) cl12_279 cd_X12_begin im_X12_begin se_X12_begin (hw.1) (Nat.le_of_ble_eq_true rfl) rfl (Nat.le_of_ble_eq_true rfl) (Nat.le_of_ble_eq_true rfl) rfl (st := []) rfl (Nat.le_of_ble_eq_true rfl) (dc9 DX12_table 77 rfl) rfl (j_aload_n hK (dc9 DX12_table 78 rfl) 0 rfl rfl (j_getI hK (hw.1) fl12_223 rfl (dc9 DX12_table 79 rfl) (j_if_ne hK (dj9 DX12_table 80 161 rfl rfl) h (fun h => X12_table_wj161 hK hw h hk) (fun h =>
  j_aload_n hK (dc9 DX12_table 81 rfl) 0 rfl rfl (bd9 h fun _ d19 hc h => j_cV hK (c_X12_stepOn (hst9 hK) (hw) hc) cl12_247 cd_X12_stepOn im_X12_stepOn se_X12_stepOn (hw.1) (Nat.le_of_ble_eq_true rfl) rfl (Nat.le_of_ble_eq_true rfl) (Nat.le_of_ble_eq_true rfl) rfl (st := []) rfl (Nat.le_of_ble_eq_true rfl) (dc9 DX12_table 82 rfl) rfl (X12_table_wj161 hK hw h hk))))))))))))
def X12_table_j119 (o : Nat) (d : DA) : Option (Int × DA) :=
  gd (inR (d.1 o 28)) <|
  if (d.1 o 28) = 0 then (X12_table_j135 o (d.1 o 25) d) else
  X12_table_j135 o 1 d
theorem X12_table_wj119 {K : KT} (hK : Ok9 K cX12_table RX12 3 (some .int) 9 269) {o : Nat} (hw : W_12 (kσ K) o) {d : DA} {y : Int × DA} (h : X12_table_j119 o d = some y) (hk : (FI K) y) : J K 3 d [(0, rf K o)] 119 [] :=
  j_aload_n hK (dc9 DX12_table 63 rfl) 0 rfl rfl (j_aload_n hK (dc9 DX12_table 64 rfl) 0 rfl rfl (j_getI hK (hw.1) fl12_223 rfl (dc9 DX12_table 65 rfl) (j_if_ne hK (dj9 DX12_table 66 134 rfl rfl) h (fun h => j_iconst hK (dc9 DX12_table 70 rfl) (X12_table_wj135 hK hw h hk)) (fun h =>
  j_aload_n hK (dc9 DX12_table 67 rfl) 0 rfl rfl (j_getI hK (hw.1) fl12_211 rfl (dc9 DX12_table 68 rfl) (j_goto hK (dj9 DX12_table 69 135 rfl rfl) (X12_table_wj135 hK hw h hk)))))))
def X12_table_j114 (o : Nat) (d : DA) : Option (Int × DA) :=
  bd (X12_wrong o 2 d) fun _ d20 =>
  X12_table_j119 o d20
theorem X12_table_wj114 {K : KT} (hK : Ok9 K cX12_table RX12 3 (some .int) 9 269) {o : Nat} (hw : W_12 (kσ K) o) {d : DA} {y : Int × DA} (h : X12_table_j114 o d = some y) (hk : (FI K) y) : J K 3 d [(0, rf K o)] 114 [] :=
  j_aload_n hK (dc9 DX12_table 60 rfl) 0 rfl rfl (j_iconst hK (dc9 DX12_table 61 rfl) (bd9 h fun _ d20 hc h => j_cV hK (c_X12_wrong (hst9 hK) (hw) hc) cl12_243 cd_X12_wrong im_X12_wrong se_X12_wrong (hw.1) (Nat.le_of_ble_eq_true rfl) rfl (Nat.le_of_ble_eq_true rfl) (Nat.le_of_ble_eq_true rfl) rfl (st := []) rfl (Nat.le_of_ble_eq_true rfl) (dc9 DX12_table 62 rfl) rfl (X12_table_wj119 hK hw h hk)))
def X12_table_j82 (o : Nat) (d : DA) : Option (Int × DA) :=
  gd (inR (d.1 o 28)) <|
  if (d.1 o 28) = 0 then (gd (inR ((d.1 o 27) - (d.1 o 26)) ∧ inR 3) <|
  if 3 < ((d.1 o 27) - (d.1 o 26)) then (X12_table_j114 o d) else
  b1 (X12_isIn (d.1 o 25) 1 5 d) fun x21 =>
  gd (inR x21) <|
  if x21 = 0 then (X12_table_j114 o d) else
  X12_table_j119 o d) else
  X12_table_j119 o d
theorem X12_table_wj82 {K : KT} (hK : Ok9 K cX12_table RX12 3 (some .int) 9 269) {o : Nat} (hw : W_12 (kσ K) o) {d : DA} {y : Int × DA} (h : X12_table_j82 o d = some y) (hk : (FI K) y) : J K 3 d [(0, rf K o)] 82 [] :=
  j_aload_n hK (dc9 DX12_table 44 rfl) 0 rfl rfl (j_getI hK (hw.1) fl12_223 rfl (dc9 DX12_table 45 rfl) (j_if_ne hK (dj9 DX12_table 46 119 rfl rfl) h (fun h => X12_table_wj119 hK hw h hk) (fun h =>
  j_aload_n hK (dc9 DX12_table 47 rfl) 0 rfl rfl (j_getI hK (hw.1) fl12_220 rfl (dc9 DX12_table 48 rfl) (j_aload_n hK (dc9 DX12_table 49 rfl) 0 rfl rfl (j_getI hK (hw.1) fl12_198 rfl (dc9 DX12_table 50 rfl) (j_isub hK (dc9 DX12_table 51 rfl) (j_iconst hK (dc9 DX12_table 52 rfl) (j_icmp_gt hK (dj9 DX12_table 53 114 rfl rfl) h (fun h => X12_table_wj114 hK hw h hk) (fun h =>
  j_aload_n hK (dc9 DX12_table 54 rfl) 0 rfl rfl (j_getI hK (hw.1) fl12_211 rfl (dc9 DX12_table 55 rfl) (j_iconst hK (dc9 DX12_table 56 rfl) (j_iconst hK (dc9 DX12_table 57 rfl) (b19 h fun x21 hc h => j_cS hK (c_X12_isIn (hst9 hK)  hc) cl12_168 cd_X12_isIn sm_X12_isIn (Nat.le_of_ble_eq_true rfl) (Nat.le_of_ble_eq_true rfl) rfl (st := []) rfl (Nat.le_of_ble_eq_true rfl) (dc9 DX12_table 58 rfl) rfl (j_if_ne hK (dj9 DX12_table 59 119 rfl rfl) h (fun h => X12_table_wj119 hK hw h hk) (fun h =>
  X12_table_wj114 hK hw h hk))))))))))))))))
def X12_table (o : Nat) (v1 : Int) (d : DA) : Option (Int × DA) :=
  lt9 (wI d o 0 0) fun d1 =>
  gd (inR v1) <|
  if v1 < 0 then (X12_table_j17 o d1) else
  gd (inR v1 ∧ inR (d1.1 o 21)) <|
  if v1 ≤ (d1.1 o 21) then (lt9 (wI d1 o 21 0) fun d4 =>
  lt9 (wI d4 o 23 v1) fun d5 =>
  lt9 (wI d5 o 22 0) fun d6 =>
  lt9 (wI d6 o 28 0) fun d7 =>
  lt9 (wI d7 o 30 (-1)) fun d8 =>
  bd (X12_stepOn o d8) fun _ d9 =>
  bd (X12_wordIs o 0 d9) fun _ d10 =>
  gd (inR (d10.1 o 28)) <|
  if (d10.1 o 28) = 0 then (gd (inR (d10.1 o 24) ∧ inR 2) <|
  if (d10.1 o 24) = 2 then (X12_table_j82 o d10) else
  bd (X12_wrong o 1 d10) fun _ d22 =>
  X12_table_j119 o d22) else
  X12_table_j82 o d10) else
  X12_table_j17 o d1
theorem X12_table_w {K : KT} (hK : Ok9 K cX12_table RX12 3 (some .int) 9 269) {o : Nat} (hw : W_12 (kσ K) o) {v1 : Int} {d : DA} {y : Int × DA} (h : X12_table o v1 d = some y) (hk : (FI K) y) : J K 3 d [(0, rf K o), (1, vi v1)] 0 [] :=
  j_aload_n hK (dc9 DX12_table 0 rfl) 0 rfl rfl (j_iconst hK (dc9 DX12_table 1 rfl) (j_putI hK (hw.1) fl12_165 fp12_165 rfl (dc9 DX12_table 2 rfl) h fun d1 h => (j_iload_n hK (dc9 DX12_table 3 rfl) 1 rfl rfl (j_if_lt hK (dj9 DX12_table 4 17 rfl rfl) h (fun h => j_sub [0] rfl (X12_table_wj17 hK hw h hk)) (fun h =>
  j_iload_n hK (dc9 DX12_table 5 rfl) 1 rfl rfl (j_aload_n hK (dc9 DX12_table 6 rfl) 0 rfl rfl (j_getI hK (hw.1) fl12_185 rfl (dc9 DX12_table 7 rfl) (j_icmp_le hK (dj9 DX12_table 8 23 rfl rfl) h (fun h => j_aload_n hK (dc9 DX12_table 13 rfl) 0 rfl rfl (j_iconst hK (dc9 DX12_table 14 rfl) (j_putI hK (hw.1) fl12_185 fp12_185 rfl (dc9 DX12_table 15 rfl) h fun d4 h => (j_aload_n hK (dc9 DX12_table 16 rfl) 0 rfl rfl (j_iload_n hK (dc9 DX12_table 17 rfl) 1 rfl rfl (j_putI hK (hw.1) fl12_188 fp12_188 rfl (dc9 DX12_table 18 rfl) h fun d5 h => (j_aload_n hK (dc9 DX12_table 19 rfl) 0 rfl rfl (j_iconst hK (dc9 DX12_table 20 rfl) (j_putI hK (hw.1) fl12_191 fp12_191 rfl (dc9 DX12_table 21 rfl) h fun d6 h => (j_aload_n hK (dc9 DX12_table 22 rfl) 0 rfl rfl (j_iconst hK (dc9 DX12_table 23 rfl) (j_putI hK (hw.1) fl12_223 fp12_223 rfl (dc9 DX12_table 24 rfl) h fun d7 h => (j_aload_n hK (dc9 DX12_table 25 rfl) 0 rfl rfl (j_iconst hK (dc9 DX12_table 26 rfl) (j_putI hK (hw.1) fl12_56 fp12_56 rfl (dc9 DX12_table 27 rfl) h fun d8 h => (j_aload_n hK (dc9 DX12_table 28 rfl) 0 rfl rfl (bd9 h fun _ d9 hc h => j_cV hK (c_X12_stepOn (hst9 hK) (hw) hc) cl12_247 cd_X12_stepOn im_X12_stepOn se_X12_stepOn (hw.1) (Nat.le_of_ble_eq_true rfl) rfl (Nat.le_of_ble_eq_true rfl) (Nat.le_of_ble_eq_true rfl) rfl (st := []) rfl (Nat.le_of_ble_eq_true rfl) (dc9 DX12_table 29 rfl) rfl (j_aload_n hK (dc9 DX12_table 30 rfl) 0 rfl rfl (j_lds2 hK (dc9 DX12_table 31 rfl) (bd9 h fun _ d10 hc h => j_cV hK (c_X12_wordIs (hst9 hK) (hw) ((Nat.le_of_ble_eq_true rfl)) hc) cl12_275 cd_X12_wordIs im_X12_wordIs se_X12_wordIs (hw.1) (Nat.le_of_ble_eq_true rfl) rfl (Nat.le_of_ble_eq_true rfl) (Nat.le_of_ble_eq_true rfl) rfl (st := []) rfl (Nat.le_of_ble_eq_true rfl) (dc9 DX12_table 32 rfl) rfl (j_aload_n hK (dc9 DX12_table 33 rfl) 0 rfl rfl (j_getI hK (hw.1) fl12_223 rfl (dc9 DX12_table 34 rfl) (j_if_ne hK (dj9 DX12_table 35 82 rfl rfl) h (fun h => j_sub [0] rfl (X12_table_wj82 hK hw h hk)) (fun h =>
  j_aload_n hK (dc9 DX12_table 36 rfl) 0 rfl rfl (j_getI hK (hw.1) fl12_201 rfl (dc9 DX12_table 37 rfl) (j_iconst hK (dc9 DX12_table 38 rfl) (j_icmp_eq hK (dj9 DX12_table 39 82 rfl rfl) h (fun h => j_sub [0] rfl (X12_table_wj82 hK hw h hk)) (fun h =>
  j_aload_n hK (dc9 DX12_table 40 rfl) 0 rfl rfl (j_iconst hK (dc9 DX12_table 41 rfl) (bd9 h fun _ d22 hc h => j_cV hK (c_X12_wrong (hst9 hK) (hw) hc) cl12_243 cd_X12_wrong im_X12_wrong se_X12_wrong (hw.1) (Nat.le_of_ble_eq_true rfl) rfl (Nat.le_of_ble_eq_true rfl) (Nat.le_of_ble_eq_true rfl) rfl (st := []) rfl (Nat.le_of_ble_eq_true rfl) (dc9 DX12_table 42 rfl) rfl (j_goto hK (dj9 DX12_table 43 119 rfl rfl) (j_sub [0] rfl (X12_table_wj119 hK hw h hk))))))))))))))))))))))))))))))))) (fun h =>
  j_sub [0] rfl (X12_table_wj17 hK hw h hk))))))))))
theorem c_X12_table {G : GT} {l : Launch} {ad : Nat → Nat} {σ : HS} {d d' : DA} (hst : l.stackTraces = false) {o : Nat} (hw : W_12 σ o) {v1 : Int} {r : Int} (h : X12_table o v1 d = some (r, d')) : Ct G l yX12_table cX12_table 3 (some .int) 9 269 ad (wD σ d) [.ref (ad o), vi v1] (some (vi r)) (wD σ d') :=
  ct_of hst rfl (Nat.le_of_ble_eq_true rfl) (fun K e0 e9 e1 e2 e3 hK => by subst e0; subst e9; subst e1; subst e2; exact X12_table_w hK hw h e3)
/-! X12_isLeast -/
theorem DX12_isLeast : Dt cX12_isLeast [(0, .iload_n 2, 1, 1), (1, .iload_n 1, 1, 2), (2, .if_icmp .ne 17, 3, 5), (5, .aload_n 0, 1, 6), (6, .iload_n 1, 1, 7), (7, .invokevirtual 354, 3, 10), (10, .ifCond .ne 7, 3, 13), (13, .iconst 1, 1, 14), (14, .goto 4, 3, 17), (17, .iconst 0, 1, 18), (18, .ireturn, 1, 19), (19, .iconst 1, 1, 20), (20, .istore 4, 2, 22), (22, .iload 4, 2, 24), (24, .iload_n 1, 1, 25), (25, .if_icmp .ge 49, 3, 28), (28, .iload_n 3, 1, 29), (29, .iload 4, 2, 31), (31, .ishr, 1, 32), (32, .iconst 1, 1, 33), (33, .iand, 1, 34), (34, .iconst 1, 1, 35), (35, .if_icmp .ne 6, 3, 38), (38, .goto 30, 3, 41), (41, .aload_n 0, 1, 42), (42, .getfield 81, 3, 45), (45, .iload_n 2, 1, 46), (46, .iload 4, 2, 48), (48, .iastore, 1, 49), (49, .aload_n 0, 1, 50), (50, .iload_n 1, 1, 51), (51, .iload_n 2, 1, 52), (52, .iconst 1, 1, 53), (53, .iadd, 1, 54), (54, .iload_n 3, 1, 55), (55, .iconst 1, 1, 56), (56, .iload 4, 2, 58), (58, .ishl, 1, 59), (59, .ior, 1, 60), (60, .invokevirtual 357, 3, 63), (63, .ifCond .ne 5, 3, 66), (66, .iconst 0, 1, 67), (67, .ireturn, 1, 68), (68, .iinc 4 1, 3, 71), (71, .goto (-49), 3, 74), (74, .iconst 1, 1, 75), (75, .ireturn, 1, 76)] := by unfold Dt; decide +kernel
def X12_isLeast_T22 (K : KT) (o : Nat) (v1 : Int) (v2 : Int) (v3 : Int) (q : Int × DA) : Prop := J K 5 q.2 [(0, rf K o), (1, vi v1), (2, vi v2), (3, vi v3), (4, vi (q.1))] 22 []
def X12_isLeast_F22 (K : KT) (o : Nat) (v1 : Int) (v2 : Int) (v3 : Int) (q : DA) : Prop := J K 5 q [] 74 []
def X12_isLeast_b22 (o : Nat) (g : Int → Int → Int → DA → Option (Int × DA)) (v1 v2 v3 v4 : Int) (d : DA) : Option ((Int × DA) ⊕ ((DA) ⊕ (Int × DA))) :=
  gd (inR v4 ∧ inR v1) <|
  if v1 ≤ v4 then (some (.inr (.inl d))) else
  gd (inR (iand9 (ishr9 v3 v4) 1) ∧ inR 1) <|
  if (iand9 (ishr9 v3 v4) 1) = 1 then (some (.inl (v4 + 1, d))) else
  gd (ix v2 5) <|
  lt9 (wI d (o + 21) (Int.toNat v2) v4) fun d1 =>
  bd (g v1 (v2 + 1) (ior9 v3 (ishl9 1 v4)) d1) fun x3 d2 =>
  gd (inR x3) <|
  if x3 = 0 then (some (.inr (.inr ((0, d2))))) else
  some (.inl (v4 + 1, d2))
theorem X12_isLeast_wb22 {K : KT} {fr0 lo0 : Nat} (hK : Ok9 K cX12_isLeast RX12 5 (some .boolean) (fr0 + 2) (lo0 + 46)) {o : Nat} {g : Int → Int → Int → DA → Option (Int × DA)} (hw : W_12 (kσ K) o) (hg : ∀ (v1 v2 v3 : Int) (r : Int) (d d' : DA), g v1 v2 v3 d = some (r, d') → CtK K yX12_isLeast cX12_isLeast 5 (some .boolean) fr0 lo0 d [rf K o, vi v1, vi v2, vi v3] (some (vi r)) d') {v1 v2 v3 v4 : Int} {d : DA} {y : (Int × DA) ⊕ ((DA) ⊕ (Int × DA))} (h : X12_isLeast_b22 o g v1 v2 v3 v4 d = some y) (hk : S3 (X12_isLeast_T22 K o v1 v2 v3) (X12_isLeast_F22 K o v1 v2 v3) (FI K) y) : J K 5 d [(0, rf K o), (1, vi v1), (2, vi v2), (3, vi v3), (4, vi v4)] 22 [] :=
  j_iload hK (dc9 DX12_isLeast 13 rfl) 4 rfl (j_iload_n hK (dc9 DX12_isLeast 14 rfl) 1 rfl rfl (j_icmp_ge hK (dj9 DX12_isLeast 15 74 rfl rfl) h (fun h => j_sub [] rfl ((have z := lf9 h hk; z))) (fun h =>
  j_iload_n hK (dc9 DX12_isLeast 16 rfl) 3 rfl rfl (j_iload hK (dc9 DX12_isLeast 17 rfl) 4 rfl (j_ishr hK (dc9 DX12_isLeast 18 rfl) (j_iconst hK (dc9 DX12_isLeast 19 rfl) (j_iand hK (dc9 DX12_isLeast 20 rfl) (j_iconst hK (dc9 DX12_isLeast 21 rfl) (j_icmp_ne hK (dj9 DX12_isLeast 22 41 rfl rfl) h (fun h => j_aload_n hK (dc9 DX12_isLeast 24 rfl) 0 rfl rfl (j_getR hK (hw.1) fl12_81 rfl (hw.2.2.2.2.2.2.2.2.2.2.2.2.2.2.2.2.2.2.2.2.2.1.1) (hw.2.2.2.2.2.2.2.2.2.2.2.2.2.2.2.2.2.2.2.2.2.1.2.1) (dc9 DX12_isLeast 25 rfl) (j_iload_n hK (dc9 DX12_isLeast 26 rfl) 2 rfl rfl (j_iload hK (dc9 DX12_isLeast 27 rfl) 4 rfl (j_iast hK (hw.2.2.2.2.2.2.2.2.2.2.2.2.2.2.2.2.2.2.2.2.2.1.2) (Nat.le_of_ble_eq_true rfl) (dc9 DX12_isLeast 28 rfl) h fun d1 h => (j_aload_n hK (dc9 DX12_isLeast 29 rfl) 0 rfl rfl (j_iload_n hK (dc9 DX12_isLeast 30 rfl) 1 rfl rfl (j_iload_n hK (dc9 DX12_isLeast 31 rfl) 2 rfl rfl (j_iconst hK (dc9 DX12_isLeast 32 rfl) (j_iadd hK (dc9 DX12_isLeast 33 rfl) (j_iload_n hK (dc9 DX12_isLeast 34 rfl) 3 rfl rfl (j_iconst hK (dc9 DX12_isLeast 35 rfl) (j_iload hK (dc9 DX12_isLeast 36 rfl) 4 rfl (j_ishl hK (dc9 DX12_isLeast 37 rfl) (j_ior hK (dc9 DX12_isLeast 38 rfl) (bd9 h fun x3 d2 hc h => j_cV hK (hg _ _ _ _ _ _ hc) cl12_357 cd_X12_isLeast im_X12_isLeast se_X12_isLeast (hw.1) (Nat.le_of_ble_eq_true rfl) rfl (by omega) (by omega) rfl (st := []) rfl (Nat.le_of_ble_eq_true rfl) (dc9 DX12_isLeast 39 rfl) rfl (j_if_ne hK (dj9 DX12_isLeast 40 68 rfl rfl) h (fun h => j_iinc hK (dc9 DX12_isLeast 43 rfl) 4 rfl (Nat.le_of_ble_eq_true rfl) rfl (j_goto hK (dj9 DX12_isLeast 44 22 rfl rfl) (j_sub [1, 2, 3, 4, 0] rfl ((have z := lf9 h hk; z))))) (fun h =>
  j_iconst hK (dc9 DX12_isLeast 41 rfl) (j_zret hK (Or.inl rfl) (dc9 DX12_isLeast 42 rfl) (have z := lf9 h hk; z)))))))))))))))))))) (fun h =>
  j_goto hK (dj9 DX12_isLeast 23 68 rfl rfl) (j_iinc hK (dc9 DX12_isLeast 43 rfl) 4 rfl (Nat.le_of_ble_eq_true rfl) rfl (j_goto hK (dj9 DX12_isLeast 44 22 rfl rfl) (j_sub [1, 2, 3, 4, 0] rfl ((have z := lf9 h hk; z)))))))))))))))
def X12_isLeast_m (o : Nat) (g : Int → Int → Int → DA → Option (Int × DA)) (v1 v2 v3 : Int) (d : DA) : Option (Int × DA) :=
  gd (inR v2 ∧ inR v1) <|
  if v2 = v1 then (bd (X12_isLesser o v1 d) fun x5 d4 =>
  gd (inR x5) <|
  if x5 = 0 then (some ((1, d4))) else
  some ((0, d4))) else
  lpR (fun q => X12_isLeast_b22 o g v1 v2 v3 q.1 q.2) (1, d) (fun e => some ((1, e))) (fun r => some r)
theorem X12_isLeast_w {K : KT} {fr0 lo0 : Nat} (hK : Ok9 K cX12_isLeast RX12 5 (some .boolean) (fr0 + 2) (lo0 + 46)) {o : Nat} {g : Int → Int → Int → DA → Option (Int × DA)} (hw : W_12 (kσ K) o) (hg : ∀ (v1 v2 v3 : Int) (r : Int) (d d' : DA), g v1 v2 v3 d = some (r, d') → CtK K yX12_isLeast cX12_isLeast 5 (some .boolean) fr0 lo0 d [rf K o, vi v1, vi v2, vi v3] (some (vi r)) d') {v1 v2 v3 : Int} {d : DA} {y : Int × DA} (h : X12_isLeast_m o g v1 v2 v3 d = some y) (hk : (FI K) y) : J K 5 d [(0, rf K o), (1, vi v1), (2, vi v2), (3, vi v3)] 0 [] :=
  j_iload_n hK (dc9 DX12_isLeast 0 rfl) 2 rfl rfl (j_iload_n hK (dc9 DX12_isLeast 1 rfl) 1 rfl rfl (j_icmp_ne hK (dj9 DX12_isLeast 2 19 rfl rfl) h (fun h => j_iconst hK (dc9 DX12_isLeast 11 rfl) (j_istore hK (dc9 DX12_isLeast 12 rfl) (Nat.le_of_ble_eq_true rfl) rfl (j_sub [1, 2, 3, 4, 0] rfl ((have z := j_lpR (X12_isLeast_T22 K o v1 v2 v3) (X12_isLeast_F22 K o v1 v2 v3) (FI K) h (fun q y h hk => X12_isLeast_wb22 hK hw hg h hk) (fun e h => j_iconst hK (dc9 DX12_isLeast 45 rfl) (j_zret hK (Or.inr rfl) (dc9 DX12_isLeast 46 rfl) (have z := lf9 h hk; z))) (fun r h => (have z := lf9 h hk; z)); z))))) (fun h =>
  j_aload_n hK (dc9 DX12_isLeast 3 rfl) 0 rfl rfl (j_iload_n hK (dc9 DX12_isLeast 4 rfl) 1 rfl rfl (bd9 h fun x5 d4 hc h => j_cV hK (c_X12_isLesser (hst9 hK) (hw) hc) cl12_354 cd_X12_isLesser im_X12_isLesser se_X12_isLesser (hw.1) (Nat.le_of_ble_eq_true rfl) rfl (by omega) (by omega) rfl (st := []) rfl (Nat.le_of_ble_eq_true rfl) (dc9 DX12_isLeast 5 rfl) rfl (j_if_ne hK (dj9 DX12_isLeast 6 17 rfl rfl) h (fun h => j_iconst hK (dc9 DX12_isLeast 9 rfl) (j_zret hK (Or.inl rfl) (dc9 DX12_isLeast 10 rfl) (have z := lf9 h hk; z))) (fun h =>
  j_iconst hK (dc9 DX12_isLeast 7 rfl) (j_goto hK (dj9 DX12_isLeast 8 18 rfl rfl) (j_zret hK (Or.inr rfl) (dc9 DX12_isLeast 10 rfl) (have z := lf9 h hk; z))))))))))
def X12_isLeast (o : Nat) : Nat → Int → Int → Int → DA → Option (Int × DA)
  | 0, _, _, _, _ => none
  | n + 1, v1, v2, v3, d => X12_isLeast_m o (X12_isLeast o n) v1 v2 v3 d
theorem c_X12_isLeast (n : Nat) {G : GT} {l : Launch} {ad : Nat → Nat} {σ : HS} (hst : l.stackTraces = false) {o : Nat} (hw : W_12 σ o) {v1 v2 v3 : Int} {r : Int} {d d' : DA} (h : X12_isLeast o n v1 v2 v3 d = some (r, d')) : Ct G l yX12_isLeast cX12_isLeast 5 (some .boolean) (2 * n) (46 * n) ad (wD σ d) [.ref (ad o), vi v1, vi v2, vi v3] (some (vi r)) (wD σ d') := by
  induction n generalizing v1 v2 v3 r d d' with
  | zero => cases h
  | succ n ih =>
    refine ct_of hst rfl (Nat.le_of_ble_eq_true rfl) (fun K e0 e9 e1 e2 e3 hK => ?_)
    subst e0; subst e9; subst e1; subst e2
    exact X12_isLeast_w (fr0 := 2 * n) (lo0 := 46 * n) hK hw (g := X12_isLeast o n) (fun _ _ _ _ _ _ hc => ih hc) h e3
/-! X12_list -/
theorem DX12_list : Dt cX12_list [(0, .aload_n 0, 1, 1), (1, .iconst 0, 1, 2), (2, .putfield 165, 3, 5), (5, .iload_n 1, 1, 6), (6, .iconst 2, 1, 7), (7, .iconst 4, 1, 8), (8, .invokestatic 168, 3, 11), (11, .ifCond .eq 21, 3, 14), (14, .iload_n 2, 1, 15), (15, .iconst 1, 1, 16), (16, .iload_n 1, 1, 17), (17, .iconst 4, 1, 18), (18, .if_icmp .ne 7, 3, 21), (21, .iconst 2, 1, 22), (22, .goto 4, 3, 25), (25, .iconst 5, 1, 26), (26, .invokestatic 168, 3, 29), (29, .ifCond .ne 9, 3, 32), (32, .aload_n 0, 1, 33), (33, .iconst 1, 1, 34), (34, .invokevirtual 271, 3, 37), (37, .ireturn, 1, 38), (38, .aload_n 0, 1, 39), (39, .iconst 0, 1, 40), (40, .putfield 307, 3, 43), (43, .aload_n 0, 1, 44), (44, .iload_n 1, 1, 45), (45, .putfield 363, 3, 48), (48, .aload_n 0, 1, 49), (49, .iload_n 2, 1, 50), (50, .putfield 366, 3, 53), (53, .aload_n 0, 1, 54), (54, .iconst 0, 1, 55), (55, .putfield 360, 3, 58), (58, .aload_n 0, 1, 59), (59, .getfield 360, 3, 62), (62, .iload_n 1, 1, 63), (63, .iconst 2, 1, 64), (64, .if_icmp .le 7, 3, 67), (67, .iconst 2, 1, 68), (68, .goto 4, 3, 71), (71, .iconst 1, 1, 72), (72, .if_icmp .ge 137, 3, 75), (75, .aload_n 0, 1, 76), (76, .iload_n 1, 1, 77), (77, .aload_n 0, 1, 78), (78, .getfield 360, 3, 81), (81, .invokevirtual 369, 3, 84), (84, .iconst 1, 1, 85), (85, .istore_n 3, 1, 86), (86, .iconst 0, 1, 87), (87, .istore 4, 2, 89), (89, .iload 4, 2, 91), (91, .aload_n 0, 1, 92), (92, .getfield 344, 3, 95), (95, .if_icmp .ge 15, 3, 98), (98, .iload_n 3, 1, 99), (99, .iload_n 2, 1, 100), (100, .iconst 1, 1, 101), (101, .iadd, 1, 102), (102, .imul, 1, 103), (103, .istore_n 3, 1, 104), (104, .iinc 4 1, 3, 107), (107, .goto (-18), 3, 110), (110, .iconst 0, 1, 111), (111, .istore 4, 2, 113), (113, .iload 4, 2, 115), (115, .iload_n 3, 1, 116), (116, .if_icmp .ge 80, 3, 119), (119, .aload_n 0, 1, 120), (120, .iload 4, 2, 122), (122, .iload_n 2, 1, 123), (123, .invokevirtual 372, 3, 126), (126, .aload_n 0, 1, 127), (127, .iload_n 1, 1, 128), (128, .aload_n 0, 1, 129), (129, .getfield 360, 3, 132), (132, .invokevirtual 375, 3, 135), (135, .aload_n 0, 1, 136), (136, .iload_n 1, 1, 137), (137, .invokevirtual 378, 3, 140), (140, .ifCond .eq 50, 3, 143), (143, .aload_n 0, 1, 144), (144, .iload_n 1, 1, 145), (145, .iconst 1, 1, 146), (146, .iconst 0, 1, 147), (147, .invokevirtual 357, 3, 150), (150, .ifCond .ne 6, 3, 153), (153, .goto 37, 3, 156), (156, .aload_n 0, 1, 157), (157, .getfield 66, 3, 160), (160, .aload_n 0, 1, 161), (161, .getfield 307, 3, 164), (164, .iload 4, 2, 166), (166, .iastore, 1, 167), (167, .aload_n 0, 1, 168), (168, .getfield 69, 3, 171), (171, .aload_n 0, 1, 172), (172, .getfield 307, 3, 175), (175, .aload_n 0, 1, 176), (176, .getfield 360, 3, 179), (179, .iastore, 1, 180), (180, .aload_n 0, 1, 181), (181, .dup, 1, 182), (182, .getfield 307, 3, 185), (185, .iconst 1, 1, 186), (186, .iadd, 1, 187), (187, .putfield 307, 3, 190), (190, .iinc 4 1, 3, 193), (193, .goto (-80), 3, 196), (196, .aload_n 0, 1, 197), (197, .dup, 1, 198), (198, .getfield 360, 3, 201), (201, .iconst 1, 1, 202), (202, .iadd, 1, 203), (203, .putfield 360, 3, 206), (206, .goto (-148), 3, 209), (209, .aload_n 0, 1, 210), (210, .getfield 307, 3, 213), (213, .ireturn, 1, 214)] := by unfold Dt; decide +kernel
def X12_list_j32 (o : Nat) (d : DA) : Option (Int × DA) :=
  bd (X12_fail o 1 d) fun x4 d3 =>
  some ((x4, d3))
theorem X12_list_wj32 {K : KT} (hK : Ok9 K cX12_list RX12 5 (some .int) 25 576) {o : Nat} (hw : W_12 (kσ K) o) {d : DA} {y : Int × DA} (h : X12_list_j32 o d = some y) (hk : (FI K) y) : J K 5 d [(0, rf K o)] 32 [] :=
  j_aload_n hK (dc9 DX12_list 18 rfl) 0 rfl rfl (j_iconst hK (dc9 DX12_list 19 rfl) (bd9 h fun x4 d3 hc h => j_cV hK (c_X12_fail (hst9 hK) (hw) hc) cl12_271 cd_X12_fail im_X12_fail se_X12_fail (hw.1) (Nat.le_of_ble_eq_true rfl) rfl (Nat.le_of_ble_eq_true rfl) (Nat.le_of_ble_eq_true rfl) rfl (st := []) rfl (Nat.le_of_ble_eq_true rfl) (dc9 DX12_list 20 rfl) rfl (j_iret hK (dc9 DX12_list 21 rfl) (have z := lf9 h hk; z))))
def X12_list_T58 (K : KT) (o : Nat) (v1 : Int) (v2 : Int) (q : DA) : Prop := J K 5 q [(0, rf K o), (1, vi v1), (2, vi v2)] 58 []
def X12_list_F58 (K : KT) (o : Nat) (v1 : Int) (v2 : Int) (q : DA) : Prop := J K 5 q [(0, rf K o)] 209 []
def X12_list_T89 (K : KT) (o : Nat) (v1 : Int) (v2 : Int) (d : DA) (q : Int × Int) : Prop := J K 5 d [(0, rf K o), (1, vi v1), (2, vi v2), (3, vi (q.1)), (4, vi (q.2))] 89 []
def X12_list_F89 (K : KT) (o : Nat) (v1 : Int) (v2 : Int) (d : DA) (q : Int) : Prop := J K 5 d [(0, rf K o), (1, vi v1), (2, vi v2), (3, vi q)] 110 []
def X12_list_b89 (o : Nat) (v1 v2 v3 v4 : Int) (d : DA) : Option ((Int × Int) ⊕ (Int)) :=
  gd (inR v4 ∧ inR (d.1 o 36)) <|
  if (d.1 o 36) ≤ v4 then (some (.inr v3)) else
  lt9 (v3 * (v2 + 1)) fun x11 =>
  some (.inl (x11, v4 + 1))
theorem X12_list_wb89 {K : KT} (hK : Ok9 K cX12_list RX12 5 (some .int) 25 576) {o : Nat} (hw : W_12 (kσ K) o) {v1 v2 v3 v4 : Int} {d : DA} {y : (Int × Int) ⊕ (Int)} (h : X12_list_b89 o v1 v2 v3 v4 d = some y) (hk : S2 (X12_list_T89 K o v1 v2 d) (X12_list_F89 K o v1 v2 d) y) : J K 5 d [(0, rf K o), (1, vi v1), (2, vi v2), (3, vi v3), (4, vi v4)] 89 [] :=
  j_iload hK (dc9 DX12_list 52 rfl) 4 rfl (j_aload_n hK (dc9 DX12_list 53 rfl) 0 rfl rfl (j_getI hK (hw.1) fl12_344 rfl (dc9 DX12_list 54 rfl) (j_icmp_ge hK (dj9 DX12_list 55 110 rfl rfl) h (fun h => j_sub [0, 1, 2, 3] rfl ((have z := lf9 h hk; z))) (fun h =>
  j_iload_n hK (dc9 DX12_list 56 rfl) 3 rfl rfl (j_iload_n hK (dc9 DX12_list 57 rfl) 2 rfl rfl (j_iconst hK (dc9 DX12_list 58 rfl) (j_iadd hK (dc9 DX12_list 59 rfl) (j_imul hK (dc9 DX12_list 60 rfl) (j_letI h fun x11 h => j_istore_n hK (dc9 DX12_list 61 rfl) rfl (Nat.le_of_ble_eq_true rfl) rfl (j_iinc hK (dc9 DX12_list 62 rfl) 4 rfl (Nat.le_of_ble_eq_true rfl) rfl (j_goto hK (dj9 DX12_list 63 89 rfl rfl) (j_sub [2, 3, 4, 1, 0] rfl ((have z := lf9 h hk; z))))))))))))))
def X12_list_T113 (K : KT) (o : Nat) (v1 : Int) (v2 : Int) (v3 : Int) (q : Int × DA) : Prop := J K 5 q.2 [(0, rf K o), (1, vi v1), (2, vi v2), (3, vi v3), (4, vi (q.1))] 113 []
def X12_list_F113 (K : KT) (o : Nat) (v1 : Int) (v2 : Int) (v3 : Int) (q : DA) : Prop := J K 5 q [(0, rf K o), (1, vi v1), (2, vi v2)] 196 []
def X12_list_b113 (o : Nat) (v1 v2 v3 v4 : Int) (d : DA) : Option ((Int × DA) ⊕ (DA)) :=
  gd (inR v4 ∧ inR v3) <|
  if v3 ≤ v4 then (some (.inr d)) else
  bd (X12_tellFigures o v4 v2 d) fun _ d12 =>
  bd (X12_layTable o v1 (d12.1 o 43) d12) fun _ d13 =>
  b1 (X12_isReadSum o v1 d13) fun x14 =>
  gd (inR x14) <|
  if x14 = 0 then (some (.inl (v4 + 1, d13))) else
  bd (X12_isLeast o 12 v1 1 0 d13) fun x16 d15 =>
  gd (inR x16) <|
  if x16 = 0 then (some (.inl (v4 + 1, d15))) else
  gd (ix (d15.1 o 33) 4000) <|
  lt9 (wI d15 (o + 16) (Int.toNat (d15.1 o 33)) v4) fun d17 =>
  gd (ix (d17.1 o 33) 4000) <|
  lt9 (wI d17 (o + 17) (Int.toNat (d17.1 o 33)) (d17.1 o 43)) fun d18 =>
  lt9 (wI d18 o 33 ((d18.1 o 33) + 1)) fun d19 =>
  some (.inl (v4 + 1, d19))
theorem X12_list_wb113 {K : KT} (hK : Ok9 K cX12_list RX12 5 (some .int) 25 576) {o : Nat} (hw : W_12 (kσ K) o) {v1 v2 v3 v4 : Int} {d : DA} {y : (Int × DA) ⊕ (DA)} (h : X12_list_b113 o v1 v2 v3 v4 d = some y) (hk : S2 (X12_list_T113 K o v1 v2 v3) (X12_list_F113 K o v1 v2 v3) y) : J K 5 d [(0, rf K o), (1, vi v1), (2, vi v2), (3, vi v3), (4, vi v4)] 113 [] :=
  j_iload hK (dc9 DX12_list 66 rfl) 4 rfl (j_iload_n hK (dc9 DX12_list 67 rfl) 3 rfl rfl (j_icmp_ge hK (dj9 DX12_list 68 196 rfl rfl) h (fun h => j_sub [0, 1, 2] rfl ((have z := lf9 h hk; z))) (fun h =>
  j_aload_n hK (dc9 DX12_list 69 rfl) 0 rfl rfl (j_iload hK (dc9 DX12_list 70 rfl) 4 rfl (j_iload_n hK (dc9 DX12_list 71 rfl) 2 rfl rfl (bd9 h fun _ d12 hc h => j_cV hK (c_X12_tellFigures (hst9 hK) (hw) hc) cl12_372 cd_X12_tellFigures im_X12_tellFigures se_X12_tellFigures (hw.1) (Nat.le_of_ble_eq_true rfl) rfl (Nat.le_of_ble_eq_true rfl) (Nat.le_of_ble_eq_true rfl) rfl (st := []) rfl (Nat.le_of_ble_eq_true rfl) (dc9 DX12_list 72 rfl) rfl (j_aload_n hK (dc9 DX12_list 73 rfl) 0 rfl rfl (j_iload_n hK (dc9 DX12_list 74 rfl) 1 rfl rfl (j_aload_n hK (dc9 DX12_list 75 rfl) 0 rfl rfl (j_getI hK (hw.1) fl12_360 rfl (dc9 DX12_list 76 rfl) (bd9 h fun _ d13 hc h => j_cV hK (c_X12_layTable (hst9 hK) (hw) hc) cl12_375 cd_X12_layTable im_X12_layTable se_X12_layTable (hw.1) (Nat.le_of_ble_eq_true rfl) rfl (Nat.le_of_ble_eq_true rfl) (Nat.le_of_ble_eq_true rfl) rfl (st := []) rfl (Nat.le_of_ble_eq_true rfl) (dc9 DX12_list 77 rfl) rfl (j_aload_n hK (dc9 DX12_list 78 rfl) 0 rfl rfl (j_iload_n hK (dc9 DX12_list 79 rfl) 1 rfl rfl (b19 h fun x14 hc h => j_cV hK (c_X12_isReadSum (hst9 hK) (hw) hc) cl12_378 cd_X12_isReadSum im_X12_isReadSum se_X12_isReadSum (hw.1) (Nat.le_of_ble_eq_true rfl) rfl (Nat.le_of_ble_eq_true rfl) (Nat.le_of_ble_eq_true rfl) rfl (st := []) rfl (Nat.le_of_ble_eq_true rfl) (dc9 DX12_list 80 rfl) rfl (j_if_eq hK (dj9 DX12_list 81 190 rfl rfl) h (fun h => j_iinc hK (dc9 DX12_list 108 rfl) 4 rfl (Nat.le_of_ble_eq_true rfl) rfl (j_goto hK (dj9 DX12_list 109 113 rfl rfl) (j_sub [1, 2, 3, 4, 0] rfl ((have z := lf9 h hk; z))))) (fun h =>
  j_aload_n hK (dc9 DX12_list 82 rfl) 0 rfl rfl (j_iload_n hK (dc9 DX12_list 83 rfl) 1 rfl rfl (j_iconst hK (dc9 DX12_list 84 rfl) (j_iconst hK (dc9 DX12_list 85 rfl) (bd9 h fun x16 d15 hc h => j_cV hK (c_X12_isLeast 12 (hst9 hK) (hw) hc) cl12_357 cd_X12_isLeast im_X12_isLeast se_X12_isLeast (hw.1) (Nat.le_of_ble_eq_true rfl) rfl (Nat.le_of_ble_eq_true rfl) (Nat.le_of_ble_eq_true rfl) rfl (st := []) rfl (Nat.le_of_ble_eq_true rfl) (dc9 DX12_list 86 rfl) rfl (j_if_ne hK (dj9 DX12_list 87 156 rfl rfl) h (fun h => j_aload_n hK (dc9 DX12_list 89 rfl) 0 rfl rfl (j_getR hK (hw.1) fl12_66 rfl (hw.2.2.2.2.2.2.2.2.2.2.2.2.2.2.2.2.1.1) (hw.2.2.2.2.2.2.2.2.2.2.2.2.2.2.2.2.1.2.1) (dc9 DX12_list 90 rfl) (j_aload_n hK (dc9 DX12_list 91 rfl) 0 rfl rfl (j_getI hK (hw.1) fl12_307 rfl (dc9 DX12_list 92 rfl) (j_iload hK (dc9 DX12_list 93 rfl) 4 rfl (j_iast hK (hw.2.2.2.2.2.2.2.2.2.2.2.2.2.2.2.2.1.2) (Nat.le_of_ble_eq_true rfl) (dc9 DX12_list 94 rfl) h fun d17 h => (j_aload_n hK (dc9 DX12_list 95 rfl) 0 rfl rfl (j_getR hK (hw.1) fl12_69 rfl (hw.2.2.2.2.2.2.2.2.2.2.2.2.2.2.2.2.2.1.1) (hw.2.2.2.2.2.2.2.2.2.2.2.2.2.2.2.2.2.1.2.1) (dc9 DX12_list 96 rfl) (j_aload_n hK (dc9 DX12_list 97 rfl) 0 rfl rfl (j_getI hK (hw.1) fl12_307 rfl (dc9 DX12_list 98 rfl) (j_aload_n hK (dc9 DX12_list 99 rfl) 0 rfl rfl (j_getI hK (hw.1) fl12_360 rfl (dc9 DX12_list 100 rfl) (j_iast hK (hw.2.2.2.2.2.2.2.2.2.2.2.2.2.2.2.2.2.1.2) (Nat.le_of_ble_eq_true rfl) (dc9 DX12_list 101 rfl) h fun d18 h => (j_aload_n hK (dc9 DX12_list 102 rfl) 0 rfl rfl (j_dup hK (dc9 DX12_list 103 rfl) rfl (j_getI hK (hw.1) fl12_307 rfl (dc9 DX12_list 104 rfl) (j_iconst hK (dc9 DX12_list 105 rfl) (j_iadd hK (dc9 DX12_list 106 rfl) (j_putI hK (hw.1) fl12_307 fp12_307 rfl (dc9 DX12_list 107 rfl) h fun d19 h => (j_iinc hK (dc9 DX12_list 108 rfl) 4 rfl (Nat.le_of_ble_eq_true rfl) rfl (j_goto hK (dj9 DX12_list 109 113 rfl rfl) (j_sub [1, 2, 3, 4, 0] rfl ((have z := lf9 h hk; z)))))))))))))))))))))))) (fun h =>
  j_goto hK (dj9 DX12_list 88 190 rfl rfl) (j_iinc hK (dc9 DX12_list 108 rfl) 4 rfl (Nat.le_of_ble_eq_true rfl) rfl (j_goto hK (dj9 DX12_list 109 113 rfl rfl) (j_sub [1, 2, 3, 4, 0] rfl ((have z := lf9 h hk; z)))))))))))))))))))))))))))
def X12_list_j196_58 (o : Nat) (v1 v2 : Int) (d : DA) : Option ((DA) ⊕ (DA)) :=
  lt9 (wI d o 43 ((d.1 o 43) + 1)) fun d20 =>
  some (.inl d20)
theorem X12_list_wj196_58 {K : KT} (hK : Ok9 K cX12_list RX12 5 (some .int) 25 576) {o : Nat} (hw : W_12 (kσ K) o) {v1 v2 : Int} {d : DA} {y : (DA) ⊕ (DA)} (h : X12_list_j196_58 o v1 v2 d = some y) (hk : S2 (X12_list_T58 K o v1 v2) (X12_list_F58 K o v1 v2) y) : J K 5 d [(0, rf K o), (1, vi v1), (2, vi v2)] 196 [] :=
  j_aload_n hK (dc9 DX12_list 110 rfl) 0 rfl rfl (j_dup hK (dc9 DX12_list 111 rfl) rfl (j_getI hK (hw.1) fl12_360 rfl (dc9 DX12_list 112 rfl) (j_iconst hK (dc9 DX12_list 113 rfl) (j_iadd hK (dc9 DX12_list 114 rfl) (j_putI hK (hw.1) fl12_360 fp12_360 rfl (dc9 DX12_list 115 rfl) h fun d20 h => (j_goto hK (dj9 DX12_list 116 58 rfl rfl) ((have z := lf9 h hk; z))))))))
def X12_list_j110_58 (o : Nat) (v1 v2 v3 : Int) (d : DA) : Option ((DA) ⊕ (DA)) :=
  lpE (fun q => X12_list_b113 o v1 v2 v3 q.1 q.2) (0, d) (fun e => X12_list_j196_58 o v1 v2 e)
theorem X12_list_wj110_58 {K : KT} (hK : Ok9 K cX12_list RX12 5 (some .int) 25 576) {o : Nat} (hw : W_12 (kσ K) o) {v1 v2 v3 : Int} {d : DA} {y : (DA) ⊕ (DA)} (h : X12_list_j110_58 o v1 v2 v3 d = some y) (hk : S2 (X12_list_T58 K o v1 v2) (X12_list_F58 K o v1 v2) y) : J K 5 d [(0, rf K o), (1, vi v1), (2, vi v2), (3, vi v3)] 110 [] :=
  j_iconst hK (dc9 DX12_list 64 rfl) (j_istore hK (dc9 DX12_list 65 rfl) (Nat.le_of_ble_eq_true rfl) rfl (j_sub [1, 2, 3, 4, 0] rfl ((have z := j_lpE (X12_list_T113 K o v1 v2 v3) (X12_list_F113 K o v1 v2 v3) h (fun q y h hk => X12_list_wb113 hK hw h hk) (fun e h => X12_list_wj196_58 hK hw h hk); z))))
def X12_list_j72_58 (o : Nat) (v1 v2 s0 s1 : Int) (d : DA) : Option ((DA) ⊕ (DA)) :=
  gd (inR s0 ∧ inR s1) <|
  if s1 ≤ s0 then (some (.inr d)) else
  bd (X12_tellGroups o v1 (d.1 o 43) d) fun _ d10 =>
  lpE (fun q => X12_list_b89 o v1 v2 q.1 q.2 d10) (1, 0) (fun e => X12_list_j110_58 o v1 v2 e d10)
theorem X12_list_wj72_58 {K : KT} (hK : Ok9 K cX12_list RX12 5 (some .int) 25 576) {o : Nat} (hw : W_12 (kσ K) o) {v1 v2 s0 s1 : Int} {d : DA} {y : (DA) ⊕ (DA)} (h : X12_list_j72_58 o v1 v2 s0 s1 d = some y) (hk : S2 (X12_list_T58 K o v1 v2) (X12_list_F58 K o v1 v2) y) : J K 5 d [(0, rf K o), (1, vi v1), (2, vi v2)] 72 [vi s1, vi s0] :=
  j_icmp_ge hK (dj9 DX12_list 42 209 rfl rfl) h (fun h => j_sub [0] rfl ((have z := lf9 h hk; z))) (fun h =>
  j_aload_n hK (dc9 DX12_list 43 rfl) 0 rfl rfl (j_iload_n hK (dc9 DX12_list 44 rfl) 1 rfl rfl (j_aload_n hK (dc9 DX12_list 45 rfl) 0 rfl rfl (j_getI hK (hw.1) fl12_360 rfl (dc9 DX12_list 46 rfl) (bd9 h fun _ d10 hc h => j_cV hK (c_X12_tellGroups (hst9 hK) (hw) hc) cl12_369 cd_X12_tellGroups im_X12_tellGroups se_X12_tellGroups (hw.1) (Nat.le_of_ble_eq_true rfl) rfl (Nat.le_of_ble_eq_true rfl) (Nat.le_of_ble_eq_true rfl) rfl (st := []) rfl (Nat.le_of_ble_eq_true rfl) (dc9 DX12_list 47 rfl) rfl (j_iconst hK (dc9 DX12_list 48 rfl) (j_istore_n hK (dc9 DX12_list 49 rfl) rfl (Nat.le_of_ble_eq_true rfl) rfl (j_iconst hK (dc9 DX12_list 50 rfl) (j_istore hK (dc9 DX12_list 51 rfl) (Nat.le_of_ble_eq_true rfl) rfl (j_sub [2, 3, 4, 1, 0] rfl ((have z := j_lpE (X12_list_T89 K o v1 v2 d10) (X12_list_F89 K o v1 v2 d10) h (fun q y h hk => X12_list_wb89 hK hw h hk) (fun e h => X12_list_wj110_58 hK hw h hk); z))))))))))))
def X12_list_b58 (o : Nat) (v1 v2 : Int) (d : DA) : Option ((DA) ⊕ (DA)) :=
  gd (inR v1 ∧ inR 2) <|
  if v1 ≤ 2 then (X12_list_j72_58 o v1 v2 (d.1 o 43) 1 d) else
  X12_list_j72_58 o v1 v2 (d.1 o 43) 2 d
theorem X12_list_wb58 {K : KT} (hK : Ok9 K cX12_list RX12 5 (some .int) 25 576) {o : Nat} (hw : W_12 (kσ K) o) {v1 v2 : Int} {d : DA} {y : (DA) ⊕ (DA)} (h : X12_list_b58 o v1 v2 d = some y) (hk : S2 (X12_list_T58 K o v1 v2) (X12_list_F58 K o v1 v2) y) : J K 5 d [(0, rf K o), (1, vi v1), (2, vi v2)] 58 [] :=
  j_aload_n hK (dc9 DX12_list 34 rfl) 0 rfl rfl (j_getI hK (hw.1) fl12_360 rfl (dc9 DX12_list 35 rfl) (j_iload_n hK (dc9 DX12_list 36 rfl) 1 rfl rfl (j_iconst hK (dc9 DX12_list 37 rfl) (j_icmp_le hK (dj9 DX12_list 38 71 rfl rfl) h (fun h => j_iconst hK (dc9 DX12_list 41 rfl) (X12_list_wj72_58 hK hw h hk)) (fun h =>
  j_iconst hK (dc9 DX12_list 39 rfl) (j_goto hK (dj9 DX12_list 40 72 rfl rfl) (X12_list_wj72_58 hK hw h hk)))))))
def X12_list_j26 (o : Nat) (v1 v2 s0 s1 s2 : Int) (d : DA) : Option (Int × DA) :=
  b1 (X12_isIn s0 s1 s2 d) fun x5 =>
  gd (inR x5) <|
  if x5 = 0 then (X12_list_j32 o d) else
  lt9 (wI d o 33 0) fun d6 =>
  lt9 (wI d6 o 34 v1) fun d7 =>
  lt9 (wI d7 o 35 v2) fun d8 =>
  lt9 (wI d8 o 43 0) fun d9 =>
  lpE (fun q => X12_list_b58 o v1 v2 q) d9 (fun e => some ((e.1 o 33, e)))
theorem X12_list_wj26 {K : KT} (hK : Ok9 K cX12_list RX12 5 (some .int) 25 576) {o : Nat} (hw : W_12 (kσ K) o) {v1 v2 s0 s1 s2 : Int} {d : DA} {y : Int × DA} (h : X12_list_j26 o v1 v2 s0 s1 s2 d = some y) (hk : (FI K) y) : J K 5 d [(0, rf K o), (1, vi v1), (2, vi v2)] 26 [vi s2, vi s1, vi s0] :=
  b19 h fun x5 hc h => j_cS hK (c_X12_isIn (hst9 hK)  hc) cl12_168 cd_X12_isIn sm_X12_isIn (Nat.le_of_ble_eq_true rfl) (Nat.le_of_ble_eq_true rfl) rfl (st := []) rfl (Nat.le_of_ble_eq_true rfl) (dc9 DX12_list 16 rfl) rfl (j_if_ne hK (dj9 DX12_list 17 38 rfl rfl) h (fun h => j_aload_n hK (dc9 DX12_list 22 rfl) 0 rfl rfl (j_iconst hK (dc9 DX12_list 23 rfl) (j_putI hK (hw.1) fl12_307 fp12_307 rfl (dc9 DX12_list 24 rfl) h fun d6 h => (j_aload_n hK (dc9 DX12_list 25 rfl) 0 rfl rfl (j_iload_n hK (dc9 DX12_list 26 rfl) 1 rfl rfl (j_putI hK (hw.1) fl12_363 fp12_363 rfl (dc9 DX12_list 27 rfl) h fun d7 h => (j_aload_n hK (dc9 DX12_list 28 rfl) 0 rfl rfl (j_iload_n hK (dc9 DX12_list 29 rfl) 2 rfl rfl (j_putI hK (hw.1) fl12_366 fp12_366 rfl (dc9 DX12_list 30 rfl) h fun d8 h => (j_aload_n hK (dc9 DX12_list 31 rfl) 0 rfl rfl (j_iconst hK (dc9 DX12_list 32 rfl) (j_putI hK (hw.1) fl12_360 fp12_360 rfl (dc9 DX12_list 33 rfl) h fun d9 h => ((have z := j_lpE (X12_list_T58 K o v1 v2) (X12_list_F58 K o v1 v2) h (fun q y h hk => X12_list_wb58 hK hw h hk) (fun e h => j_aload_n hK (dc9 DX12_list 117 rfl) 0 rfl rfl (j_getI hK (hw.1) fl12_307 rfl (dc9 DX12_list 118 rfl) (j_iret hK (dc9 DX12_list 119 rfl) (have z := lf9 h hk; z)))); z)))))))))))))) (fun h =>
  j_sub [0] rfl (X12_list_wj32 hK hw h hk)))
def X12_list (o : Nat) (v1 v2 : Int) (d : DA) : Option (Int × DA) :=
  lt9 (wI d o 0 0) fun d1 =>
  b1 (X12_isIn v1 2 4 d1) fun x2 =>
  gd (inR x2) <|
  if x2 = 0 then (X12_list_j32 o d1) else
  gd (inR v1 ∧ inR 4) <|
  if v1 = 4 then (X12_list_j26 o v1 v2 v2 1 2 d1) else
  X12_list_j26 o v1 v2 v2 1 5 d1
theorem X12_list_w {K : KT} (hK : Ok9 K cX12_list RX12 5 (some .int) 25 576) {o : Nat} (hw : W_12 (kσ K) o) {v1 v2 : Int} {d : DA} {y : Int × DA} (h : X12_list o v1 v2 d = some y) (hk : (FI K) y) : J K 5 d [(0, rf K o), (1, vi v1), (2, vi v2)] 0 [] :=
  j_aload_n hK (dc9 DX12_list 0 rfl) 0 rfl rfl (j_iconst hK (dc9 DX12_list 1 rfl) (j_putI hK (hw.1) fl12_165 fp12_165 rfl (dc9 DX12_list 2 rfl) h fun d1 h => (j_iload_n hK (dc9 DX12_list 3 rfl) 1 rfl rfl (j_iconst hK (dc9 DX12_list 4 rfl) (j_iconst hK (dc9 DX12_list 5 rfl) (b19 h fun x2 hc h => j_cS hK (c_X12_isIn (hst9 hK)  hc) cl12_168 cd_X12_isIn sm_X12_isIn (Nat.le_of_ble_eq_true rfl) (Nat.le_of_ble_eq_true rfl) rfl (st := []) rfl (Nat.le_of_ble_eq_true rfl) (dc9 DX12_list 6 rfl) rfl (j_if_eq hK (dj9 DX12_list 7 32 rfl rfl) h (fun h => j_sub [0] rfl (X12_list_wj32 hK hw h hk)) (fun h =>
  j_iload_n hK (dc9 DX12_list 8 rfl) 2 rfl rfl (j_iconst hK (dc9 DX12_list 9 rfl) (j_iload_n hK (dc9 DX12_list 10 rfl) 1 rfl rfl (j_iconst hK (dc9 DX12_list 11 rfl) (j_icmp_ne hK (dj9 DX12_list 12 25 rfl rfl) h (fun h => j_iconst hK (dc9 DX12_list 15 rfl) (X12_list_wj26 hK hw h hk)) (fun h =>
  j_iconst hK (dc9 DX12_list 13 rfl) (j_goto hK (dj9 DX12_list 14 26 rfl rfl) (X12_list_wj26 hK hw h hk)))))))))))))))
theorem c_X12_list {G : GT} {l : Launch} {ad : Nat → Nat} {σ : HS} {d d' : DA} (hst : l.stackTraces = false) {o : Nat} (hw : W_12 σ o) {v1 v2 : Int} {r : Int} (h : X12_list o v1 v2 d = some (r, d')) : Ct G l yX12_list cX12_list 5 (some .int) 25 576 ad (wD σ d) [.ref (ad o), vi v1, vi v2] (some (vi r)) (wD σ d') :=
  ct_of hst rfl (Nat.le_of_ble_eq_true rfl) (fun K e0 e9 e1 e2 e3 hK => by subst e0; subst e9; subst e1; subst e2; exact X12_list_w hK hw h e3)
/-! X12_shapeOn -/
theorem DX12_shapeOn : Dt cX12_shapeOn [(0, .iload_n 1, 1, 1), (1, .iload_n 2, 1, 2), (2, .if_icmp .ge 68, 3, 5), (5, .aload_n 0, 1, 6), (6, .getfield 87, 3, 9), (9, .iload_n 1, 1, 10), (10, .iconst 0, 1, 11), (11, .iastore, 1, 12), (12, .aload_n 0, 1, 13), (13, .getfield 87, 3, 16), (16, .iload_n 1, 1, 17), (17, .iaload, 1, 18), (18, .aload_n 0, 1, 19), (19, .getfield 7, 3, 22), (22, .if_icmp .ge 47, 3, 25), (25, .aload_n 0, 1, 26), (26, .getfield 437, 3, 29), (29, .ifCond .eq 10, 3, 32), (32, .aload_n 0, 1, 33), (33, .getfield 440, 3, 36), (36, .ifCond .gt 33, 3, 39), (39, .aload_n 0, 1, 40), (40, .iload_n 1, 1, 41), (41, .iload_n 2, 1, 42), (42, .invokevirtual 443, 3, 45), (45, .ifCond .eq 11, 3, 48), (48, .aload_n 0, 1, 49), (49, .iload_n 1, 1, 50), (50, .iconst 1, 1, 51), (51, .iadd, 1, 52), (52, .iload_n 2, 1, 53), (53, .invokevirtual 447, 3, 56), (56, .aload_n 0, 1, 57), (57, .getfield 87, 3, 60), (60, .iload_n 1, 1, 61), (61, .dup2, 1, 62), (62, .iaload, 1, 63), (63, .iconst 1, 1, 64), (64, .iadd, 1, 65), (65, .iastore, 1, 66), (66, .goto (-54), 3, 69), (69, .return_, 1, 70), (70, .iload_n 2, 1, 71), (71, .bipush 9, 2, 73), (73, .if_icmp .ne 13, 3, 76), (76, .aload_n 0, 1, 77), (77, .invokevirtual 450, 3, 80), (80, .ifCond .ne 14, 3, 83), (83, .goto 10, 3, 86), (86, .aload_n 0, 1, 87), (87, .invokevirtual 453, 3, 90), (90, .ifCond .ne 4, 3, 93), (93, .return_, 1, 94), (94, .aload_n 0, 1, 95), (95, .dup, 1, 96), (96, .getfield 456, 3, 99), (99, .iconst 1, 1, 100), (100, .iadd, 1, 101), (101, .putfield 456, 3, 104), (104, .iload_n 2, 1, 105), (105, .bipush 9, 2, 107), (107, .if_icmp .ne 13, 3, 110), (110, .aload_n 0, 1, 111), (111, .invokevirtual 459, 3, 114), (114, .ifCond .eq 14, 3, 117), (117, .goto 10, 3, 120), (120, .aload_n 0, 1, 121), (121, .invokevirtual 462, 3, 124), (124, .ifCond .eq 4, 3, 127), (127, .return_, 1, 128), (128, .iconst 0, 1, 129), (129, .istore_n 3, 1, 130), (130, .iload_n 3, 1, 131), (131, .iload_n 2, 1, 132), (132, .if_icmp .ge 28, 3, 135), (135, .aload_n 0, 1, 136), (136, .getfield 440, 3, 139), (139, .ifCond .ne 21, 3, 142), (142, .aload_n 0, 1, 143), (143, .getfield 90, 3, 146), (146, .iload_n 3, 1, 147), (147, .aload_n 0, 1, 148), (148, .getfield 87, 3, 151), (151, .iload_n 3, 1, 152), (152, .iaload, 1, 153), (153, .iastore, 1, 154), (154, .iinc 3 1, 3, 157), (157, .goto (-27), 3, 160), (160, .aload_n 0, 1, 161), (161, .dup, 1, 162), (162, .getfield 440, 3, 165), (165, .iconst 1, 1, 166), (166, .iadd, 1, 167), (167, .putfield 440, 3, 170), (170, .return_, 1, 171)] := by unfold Dt; decide +kernel
def X12_shapeOn_T130 (K : KT) (o : Nat) (v2 : Int) (q : Int × DA) : Prop := J K 4 q.2 [(0, rf K o), (2, vi v2), (3, vi (q.1))] 130 []
def X12_shapeOn_F130 (K : KT) (o : Nat) (v2 : Int) (q : DA) : Prop := J K 4 q [(0, rf K o)] 160 []
def X12_shapeOn_b130 (o : Nat) (g : Int → Int → DA → Option (Unit × DA)) (v2 v3 : Int) (d : DA) : Option ((Int × DA) ⊕ (DA)) :=
  gd (inR v3 ∧ inR v2) <|
  if v2 ≤ v3 then (some (.inr d)) else
  gd (inR (d.1 o 51)) <|
  if (d.1 o 51) = 0 then (gd (ix v3 9) <|
  gd (ix v3 9) <|
  lt9 (wI d (o + 24) (Int.toNat v3) (d.1 (o + 23) (Int.toNat v3))) fun d4 =>
  some (.inl (v3 + 1, d4))) else
  some (.inr d)
theorem X12_shapeOn_wb130 {K : KT} {fr0 lo0 : Nat} (hK : Ok9 K cX12_shapeOn RX12 4 none (fr0 + 5) (lo0 + 128)) {o : Nat} {g : Int → Int → DA → Option (Unit × DA)} (hw : W_12 (kσ K) o) (hg : ∀ (v1 v2 : Int) (r : Unit) (d d' : DA), g v1 v2 d = some (r, d') → CtK K yX12_shapeOn cX12_shapeOn 4 none fr0 lo0 d [rf K o, vi v1, vi v2] none d') {v2 v3 : Int} {d : DA} {y : (Int × DA) ⊕ (DA)} (h : X12_shapeOn_b130 o g v2 v3 d = some y) (hk : S2 (X12_shapeOn_T130 K o v2) (X12_shapeOn_F130 K o v2) y) : J K 4 d [(0, rf K o), (2, vi v2), (3, vi v3)] 130 [] :=
  j_iload_n hK (dc9 DX12_shapeOn 72 rfl) 2 rfl rfl (j_iload_n hK (dc9 DX12_shapeOn 73 rfl) 1 rfl rfl (j_icmp_ge hK (dj9 DX12_shapeOn 74 160 rfl rfl) h (fun h => j_sub [0] rfl ((have z := lf9 h hk; z))) (fun h =>
  j_aload_n hK (dc9 DX12_shapeOn 75 rfl) 0 rfl rfl (j_getI hK (hw.1) fl12_440 rfl (dc9 DX12_shapeOn 76 rfl) (j_if_ne hK (dj9 DX12_shapeOn 77 160 rfl rfl) h (fun h => j_sub [0] rfl ((have z := lf9 h hk; z))) (fun h =>
  j_aload_n hK (dc9 DX12_shapeOn 78 rfl) 0 rfl rfl (j_getR hK (hw.1) fl12_90 rfl (hw.2.2.2.2.2.2.2.2.2.2.2.2.2.2.2.2.2.2.2.2.2.2.2.2.1.1) (hw.2.2.2.2.2.2.2.2.2.2.2.2.2.2.2.2.2.2.2.2.2.2.2.2.1.2.1) (dc9 DX12_shapeOn 79 rfl) (j_iload_n hK (dc9 DX12_shapeOn 80 rfl) 2 rfl rfl (j_aload_n hK (dc9 DX12_shapeOn 81 rfl) 0 rfl rfl (j_getR hK (hw.1) fl12_87 rfl (hw.2.2.2.2.2.2.2.2.2.2.2.2.2.2.2.2.2.2.2.2.2.2.2.1.1) (hw.2.2.2.2.2.2.2.2.2.2.2.2.2.2.2.2.2.2.2.2.2.2.2.1.2.1) (dc9 DX12_shapeOn 82 rfl) (j_iload_n hK (dc9 DX12_shapeOn 83 rfl) 2 rfl rfl (j_iald hK (hw.2.2.2.2.2.2.2.2.2.2.2.2.2.2.2.2.2.2.2.2.2.2.2.1.2) (Nat.le_of_ble_eq_true rfl) (dc9 DX12_shapeOn 84 rfl) h fun h => (j_iast hK (hw.2.2.2.2.2.2.2.2.2.2.2.2.2.2.2.2.2.2.2.2.2.2.2.2.1.2) (Nat.le_of_ble_eq_true rfl) (dc9 DX12_shapeOn 85 rfl) h fun d4 h => (j_iinc hK (dc9 DX12_shapeOn 86 rfl) 2 rfl (Nat.le_of_ble_eq_true rfl) rfl (j_goto hK (dj9 DX12_shapeOn 87 130 rfl rfl) (j_sub [1, 2, 0] rfl ((have z := lf9 h hk; z))))))))))))))))))
def X12_shapeOn_j160 (o : Nat) (g : Int → Int → DA → Option (Unit × DA)) (d : DA) : Option (Unit × DA) :=
  lt9 (wI d o 51 ((d.1 o 51) + 1)) fun d5 =>
  some (((), d5))
theorem X12_shapeOn_wj160 {K : KT} {fr0 lo0 : Nat} (hK : Ok9 K cX12_shapeOn RX12 4 none (fr0 + 5) (lo0 + 128)) {o : Nat} {g : Int → Int → DA → Option (Unit × DA)} (hw : W_12 (kσ K) o) (hg : ∀ (v1 v2 : Int) (r : Unit) (d d' : DA), g v1 v2 d = some (r, d') → CtK K yX12_shapeOn cX12_shapeOn 4 none fr0 lo0 d [rf K o, vi v1, vi v2] none d') {d : DA} {y : Unit × DA} (h : X12_shapeOn_j160 o g d = some y) (hk : (FV K) y) : J K 4 d [(0, rf K o)] 160 [] :=
  j_aload_n hK (dc9 DX12_shapeOn 88 rfl) 0 rfl rfl (j_dup hK (dc9 DX12_shapeOn 89 rfl) rfl (j_getI hK (hw.1) fl12_440 rfl (dc9 DX12_shapeOn 90 rfl) (j_iconst hK (dc9 DX12_shapeOn 91 rfl) (j_iadd hK (dc9 DX12_shapeOn 92 rfl) (j_putI hK (hw.1) fl12_440 fp12_440 rfl (dc9 DX12_shapeOn 93 rfl) h fun d5 h => (j_vret hK (dc9 DX12_shapeOn 94 rfl) (have z := lf9 h hk; z)))))))
def X12_shapeOn_j128 (o : Nat) (g : Int → Int → DA → Option (Unit × DA)) (v2 : Int) (d : DA) : Option (Unit × DA) :=
  lpE (fun q => X12_shapeOn_b130 o g v2 q.1 q.2) (0, d) (fun e => X12_shapeOn_j160 o g e)
theorem X12_shapeOn_wj128 {K : KT} {fr0 lo0 : Nat} (hK : Ok9 K cX12_shapeOn RX12 4 none (fr0 + 5) (lo0 + 128)) {o : Nat} {g : Int → Int → DA → Option (Unit × DA)} (hw : W_12 (kσ K) o) (hg : ∀ (v1 v2 : Int) (r : Unit) (d d' : DA), g v1 v2 d = some (r, d') → CtK K yX12_shapeOn cX12_shapeOn 4 none fr0 lo0 d [rf K o, vi v1, vi v2] none d') {v2 : Int} {d : DA} {y : Unit × DA} (h : X12_shapeOn_j128 o g v2 d = some y) (hk : (FV K) y) : J K 4 d [(0, rf K o), (2, vi v2)] 128 [] :=
  j_iconst hK (dc9 DX12_shapeOn 70 rfl) (j_istore_n hK (dc9 DX12_shapeOn 71 rfl) rfl (Nat.le_of_ble_eq_true rfl) rfl (j_sub [1, 2, 0] rfl ((have z := j_lpE (X12_shapeOn_T130 K o v2) (X12_shapeOn_F130 K o v2) h (fun q y h hk => X12_shapeOn_wb130 hK hw hg h hk) (fun e h => X12_shapeOn_wj160 hK hw hg h hk); z))))
def X12_shapeOn_j94 (o : Nat) (g : Int → Int → DA → Option (Unit × DA)) (v2 : Int) (d : DA) : Option (Unit × DA) :=
  lt9 (wI d o 50 ((d.1 o 50) + 1)) fun d2 =>
  gd (inR v2 ∧ inR 9) <|
  if v2 = 9 then (b1 (X12_pentagonHolds o d2) fun x6 =>
  gd (inR x6) <|
  if x6 = 0 then (X12_shapeOn_j128 o g v2 d2) else
  some (((), d2))) else
  b1 (X12_hexagonHolds o d2) fun x3 =>
  gd (inR x3) <|
  if x3 = 0 then (X12_shapeOn_j128 o g v2 d2) else
  some (((), d2))
theorem X12_shapeOn_wj94 {K : KT} {fr0 lo0 : Nat} (hK : Ok9 K cX12_shapeOn RX12 4 none (fr0 + 5) (lo0 + 128)) {o : Nat} {g : Int → Int → DA → Option (Unit × DA)} (hw : W_12 (kσ K) o) (hg : ∀ (v1 v2 : Int) (r : Unit) (d d' : DA), g v1 v2 d = some (r, d') → CtK K yX12_shapeOn cX12_shapeOn 4 none fr0 lo0 d [rf K o, vi v1, vi v2] none d') {v2 : Int} {d : DA} {y : Unit × DA} (h : X12_shapeOn_j94 o g v2 d = some y) (hk : (FV K) y) : J K 4 d [(0, rf K o), (2, vi v2)] 94 [] :=
  j_aload_n hK (dc9 DX12_shapeOn 53 rfl) 0 rfl rfl (j_dup hK (dc9 DX12_shapeOn 54 rfl) rfl (j_getI hK (hw.1) fl12_456 rfl (dc9 DX12_shapeOn 55 rfl) (j_iconst hK (dc9 DX12_shapeOn 56 rfl) (j_iadd hK (dc9 DX12_shapeOn 57 rfl) (j_putI hK (hw.1) fl12_456 fp12_456 rfl (dc9 DX12_shapeOn 58 rfl) h fun d2 h => (j_iload_n hK (dc9 DX12_shapeOn 59 rfl) 1 rfl rfl (j_bipush hK (dc9 DX12_shapeOn 60 rfl) (by decide) (j_icmp_ne hK (dj9 DX12_shapeOn 61 120 rfl rfl) h (fun h => j_aload_n hK (dc9 DX12_shapeOn 66 rfl) 0 rfl rfl (b19 h fun x3 hc h => j_cV hK (c_X12_hexagonHolds (hst9 hK) (hw) hc) cl12_462 cd_X12_hexagonHolds im_X12_hexagonHolds se_X12_hexagonHolds (hw.1) (Nat.le_of_ble_eq_true rfl) rfl (by omega) (by omega) rfl (st := []) rfl (Nat.le_of_ble_eq_true rfl) (dc9 DX12_shapeOn 67 rfl) rfl (j_if_eq hK (dj9 DX12_shapeOn 68 128 rfl rfl) h (fun h => X12_shapeOn_wj128 hK hw hg h hk) (fun h =>
  j_vret hK (dc9 DX12_shapeOn 69 rfl) (have z := lf9 h hk; z))))) (fun h =>
  j_aload_n hK (dc9 DX12_shapeOn 62 rfl) 0 rfl rfl (b19 h fun x6 hc h => j_cV hK (c_X12_pentagonHolds (hst9 hK) (hw) hc) cl12_459 cd_X12_pentagonHolds im_X12_pentagonHolds se_X12_pentagonHolds (hw.1) (Nat.le_of_ble_eq_true rfl) rfl (by omega) (by omega) rfl (st := []) rfl (Nat.le_of_ble_eq_true rfl) (dc9 DX12_shapeOn 63 rfl) rfl (j_if_eq hK (dj9 DX12_shapeOn 64 128 rfl rfl) h (fun h => X12_shapeOn_wj128 hK hw hg h hk) (fun h =>
  j_goto hK (dj9 DX12_shapeOn 65 127 rfl rfl) (j_vret hK (dc9 DX12_shapeOn 69 rfl) (have z := lf9 h hk; z))))))))))))))
def X12_shapeOn_T12 (K : KT) (o : Nat) (v1 : Int) (v2 : Int) (q : DA) : Prop := J K 4 q [(0, rf K o), (1, vi v1), (2, vi v2)] 12 []
def X12_shapeOn_F12 (K : KT) (o : Nat) (v1 : Int) (v2 : Int) (q : DA) : Prop := J K 4 q [] 69 []
def X12_shapeOn_j56_12 (o : Nat) (g : Int → Int → DA → Option (Unit × DA)) (v1 v2 : Int) (d : DA) : Option ((DA) ⊕ (DA)) :=
  gd (ix v1 9) <|
  gd (ix v1 9) <|
  lt9 (wI d (o + 23) (Int.toNat v1) ((d.1 (o + 23) (Int.toNat v1)) + 1)) fun d10 =>
  some (.inl d10)
theorem X12_shapeOn_wj56_12 {K : KT} {fr0 lo0 : Nat} (hK : Ok9 K cX12_shapeOn RX12 4 none (fr0 + 5) (lo0 + 128)) {o : Nat} {g : Int → Int → DA → Option (Unit × DA)} (hw : W_12 (kσ K) o) (hg : ∀ (v1 v2 : Int) (r : Unit) (d d' : DA), g v1 v2 d = some (r, d') → CtK K yX12_shapeOn cX12_shapeOn 4 none fr0 lo0 d [rf K o, vi v1, vi v2] none d') {v1 v2 : Int} {d : DA} {y : (DA) ⊕ (DA)} (h : X12_shapeOn_j56_12 o g v1 v2 d = some y) (hk : S2 (X12_shapeOn_T12 K o v1 v2) (X12_shapeOn_F12 K o v1 v2) y) : J K 4 d [(0, rf K o), (1, vi v1), (2, vi v2)] 56 [] :=
  j_aload_n hK (dc9 DX12_shapeOn 32 rfl) 0 rfl rfl (j_getR hK (hw.1) fl12_87 rfl (hw.2.2.2.2.2.2.2.2.2.2.2.2.2.2.2.2.2.2.2.2.2.2.2.1.1) (hw.2.2.2.2.2.2.2.2.2.2.2.2.2.2.2.2.2.2.2.2.2.2.2.1.2.1) (dc9 DX12_shapeOn 33 rfl) (j_iload_n hK (dc9 DX12_shapeOn 34 rfl) 1 rfl rfl (j_dup2 hK (dc9 DX12_shapeOn 35 rfl) rfl rfl (j_iald hK (hw.2.2.2.2.2.2.2.2.2.2.2.2.2.2.2.2.2.2.2.2.2.2.2.1.2) (Nat.le_of_ble_eq_true rfl) (dc9 DX12_shapeOn 36 rfl) h fun h => (j_iconst hK (dc9 DX12_shapeOn 37 rfl) (j_iadd hK (dc9 DX12_shapeOn 38 rfl) (j_iast hK (hw.2.2.2.2.2.2.2.2.2.2.2.2.2.2.2.2.2.2.2.2.2.2.2.1.2) (Nat.le_of_ble_eq_true rfl) (dc9 DX12_shapeOn 39 rfl) h fun d10 h => (j_goto hK (dj9 DX12_shapeOn 40 12 rfl rfl) ((have z := lf9 h hk; z))))))))))
def X12_shapeOn_j39_12 (o : Nat) (g : Int → Int → DA → Option (Unit × DA)) (v1 v2 : Int) (d : DA) : Option ((DA) ⊕ (DA)) :=
  b1 (X12_mayGoOn o v1 v2 d) fun x9 =>
  gd (inR x9) <|
  if x9 = 0 then (X12_shapeOn_j56_12 o g v1 v2 d) else
  bd (g (v1 + 1) v2 d) fun _ d11 =>
  X12_shapeOn_j56_12 o g v1 v2 d11
theorem X12_shapeOn_wj39_12 {K : KT} {fr0 lo0 : Nat} (hK : Ok9 K cX12_shapeOn RX12 4 none (fr0 + 5) (lo0 + 128)) {o : Nat} {g : Int → Int → DA → Option (Unit × DA)} (hw : W_12 (kσ K) o) (hg : ∀ (v1 v2 : Int) (r : Unit) (d d' : DA), g v1 v2 d = some (r, d') → CtK K yX12_shapeOn cX12_shapeOn 4 none fr0 lo0 d [rf K o, vi v1, vi v2] none d') {v1 v2 : Int} {d : DA} {y : (DA) ⊕ (DA)} (h : X12_shapeOn_j39_12 o g v1 v2 d = some y) (hk : S2 (X12_shapeOn_T12 K o v1 v2) (X12_shapeOn_F12 K o v1 v2) y) : J K 4 d [(0, rf K o), (1, vi v1), (2, vi v2)] 39 [] :=
  j_aload_n hK (dc9 DX12_shapeOn 21 rfl) 0 rfl rfl (j_iload_n hK (dc9 DX12_shapeOn 22 rfl) 1 rfl rfl (j_iload_n hK (dc9 DX12_shapeOn 23 rfl) 2 rfl rfl (b19 h fun x9 hc h => j_cV hK (c_X12_mayGoOn (hst9 hK) (hw) hc) cl12_443 cd_X12_mayGoOn im_X12_mayGoOn se_X12_mayGoOn (hw.1) (Nat.le_of_ble_eq_true rfl) rfl (by omega) (by omega) rfl (st := []) rfl (Nat.le_of_ble_eq_true rfl) (dc9 DX12_shapeOn 24 rfl) rfl (j_if_eq hK (dj9 DX12_shapeOn 25 56 rfl rfl) h (fun h => X12_shapeOn_wj56_12 hK hw hg h hk) (fun h =>
  j_aload_n hK (dc9 DX12_shapeOn 26 rfl) 0 rfl rfl (j_iload_n hK (dc9 DX12_shapeOn 27 rfl) 1 rfl rfl (j_iconst hK (dc9 DX12_shapeOn 28 rfl) (j_iadd hK (dc9 DX12_shapeOn 29 rfl) (j_iload_n hK (dc9 DX12_shapeOn 30 rfl) 2 rfl rfl (bd9 h fun _ d11 hc h => j_cV hK (hg _ _ _ _ _ hc) cl12_447 cd_X12_shapeOn im_X12_shapeOn se_X12_shapeOn (hw.1) (Nat.le_of_ble_eq_true rfl) rfl (by omega) (by omega) rfl (st := []) rfl (Nat.le_of_ble_eq_true rfl) (dc9 DX12_shapeOn 31 rfl) rfl (X12_shapeOn_wj56_12 hK hw hg h hk)))))))))))
def X12_shapeOn_b12 (o : Nat) (g : Int → Int → DA → Option (Unit × DA)) (v1 v2 : Int) (d : DA) : Option ((DA) ⊕ (DA)) :=
  gd (ix v1 9) <|
  gd (inR (d.1 (o + 23) (Int.toNat v1)) ∧ inR (d.1 o 1)) <|
  if (d.1 o 1) ≤ (d.1 (o + 23) (Int.toNat v1)) then (some (.inr d)) else
  gd (inR (d.1 o 52)) <|
  if (d.1 o 52) = 0 then (X12_shapeOn_j39_12 o g v1 v2 d) else
  gd (inR (d.1 o 51)) <|
  if 0 < (d.1 o 51) then (some (.inr d)) else
  X12_shapeOn_j39_12 o g v1 v2 d
theorem X12_shapeOn_wb12 {K : KT} {fr0 lo0 : Nat} (hK : Ok9 K cX12_shapeOn RX12 4 none (fr0 + 5) (lo0 + 128)) {o : Nat} {g : Int → Int → DA → Option (Unit × DA)} (hw : W_12 (kσ K) o) (hg : ∀ (v1 v2 : Int) (r : Unit) (d d' : DA), g v1 v2 d = some (r, d') → CtK K yX12_shapeOn cX12_shapeOn 4 none fr0 lo0 d [rf K o, vi v1, vi v2] none d') {v1 v2 : Int} {d : DA} {y : (DA) ⊕ (DA)} (h : X12_shapeOn_b12 o g v1 v2 d = some y) (hk : S2 (X12_shapeOn_T12 K o v1 v2) (X12_shapeOn_F12 K o v1 v2) y) : J K 4 d [(0, rf K o), (1, vi v1), (2, vi v2)] 12 [] :=
  j_aload_n hK (dc9 DX12_shapeOn 8 rfl) 0 rfl rfl (j_getR hK (hw.1) fl12_87 rfl (hw.2.2.2.2.2.2.2.2.2.2.2.2.2.2.2.2.2.2.2.2.2.2.2.1.1) (hw.2.2.2.2.2.2.2.2.2.2.2.2.2.2.2.2.2.2.2.2.2.2.2.1.2.1) (dc9 DX12_shapeOn 9 rfl) (j_iload_n hK (dc9 DX12_shapeOn 10 rfl) 1 rfl rfl (j_iald hK (hw.2.2.2.2.2.2.2.2.2.2.2.2.2.2.2.2.2.2.2.2.2.2.2.1.2) (Nat.le_of_ble_eq_true rfl) (dc9 DX12_shapeOn 11 rfl) h fun h => (j_aload_n hK (dc9 DX12_shapeOn 12 rfl) 0 rfl rfl (j_getI hK (hw.1) fl12_7 rfl (dc9 DX12_shapeOn 13 rfl) (j_icmp_ge hK (dj9 DX12_shapeOn 14 69 rfl rfl) h (fun h => j_sub [] rfl ((have z := lf9 h hk; z))) (fun h =>
  j_aload_n hK (dc9 DX12_shapeOn 15 rfl) 0 rfl rfl (j_getI hK (hw.1) fl12_437 rfl (dc9 DX12_shapeOn 16 rfl) (j_if_eq hK (dj9 DX12_shapeOn 17 39 rfl rfl) h (fun h => X12_shapeOn_wj39_12 hK hw hg h hk) (fun h =>
  j_aload_n hK (dc9 DX12_shapeOn 18 rfl) 0 rfl rfl (j_getI hK (hw.1) fl12_440 rfl (dc9 DX12_shapeOn 19 rfl) (j_if_gt hK (dj9 DX12_shapeOn 20 69 rfl rfl) h (fun h => j_sub [] rfl ((have z := lf9 h hk; z))) (fun h =>
  X12_shapeOn_wj39_12 hK hw hg h hk)))))))))))))
def X12_shapeOn_m (o : Nat) (g : Int → Int → DA → Option (Unit × DA)) (v1 v2 : Int) (d : DA) : Option (Unit × DA) :=
  gd (inR v1 ∧ inR v2) <|
  if v2 ≤ v1 then (gd (inR v2 ∧ inR 9) <|
  if v2 = 9 then (b1 (X12_isPentagon o d) fun x7 =>
  gd (inR x7) <|
  if x7 = 0 then (some (((), d))) else
  X12_shapeOn_j94 o g v2 d) else
  b1 (X12_isHexagon o d) fun x1 =>
  gd (inR x1) <|
  if x1 = 0 then (some (((), d))) else
  X12_shapeOn_j94 o g v2 d) else
  gd (ix v1 9) <|
  lt9 (wI d (o + 23) (Int.toNat v1) 0) fun d8 =>
  lpE (fun q => X12_shapeOn_b12 o g v1 v2 q) d8 (fun e => some (((), e)))
theorem X12_shapeOn_w {K : KT} {fr0 lo0 : Nat} (hK : Ok9 K cX12_shapeOn RX12 4 none (fr0 + 5) (lo0 + 128)) {o : Nat} {g : Int → Int → DA → Option (Unit × DA)} (hw : W_12 (kσ K) o) (hg : ∀ (v1 v2 : Int) (r : Unit) (d d' : DA), g v1 v2 d = some (r, d') → CtK K yX12_shapeOn cX12_shapeOn 4 none fr0 lo0 d [rf K o, vi v1, vi v2] none d') {v1 v2 : Int} {d : DA} {y : Unit × DA} (h : X12_shapeOn_m o g v1 v2 d = some y) (hk : (FV K) y) : J K 4 d [(0, rf K o), (1, vi v1), (2, vi v2)] 0 [] :=
  j_iload_n hK (dc9 DX12_shapeOn 0 rfl) 1 rfl rfl (j_iload_n hK (dc9 DX12_shapeOn 1 rfl) 2 rfl rfl (j_icmp_ge hK (dj9 DX12_shapeOn 2 70 rfl rfl) h (fun h => j_iload_n hK (dc9 DX12_shapeOn 42 rfl) 2 rfl rfl (j_bipush hK (dc9 DX12_shapeOn 43 rfl) (by decide) (j_icmp_ne hK (dj9 DX12_shapeOn 44 86 rfl rfl) h (fun h => j_aload_n hK (dc9 DX12_shapeOn 49 rfl) 0 rfl rfl (b19 h fun x1 hc h => j_cV hK (c_X12_isHexagon (hst9 hK) (hw) hc) cl12_453 cd_X12_isHexagon im_X12_isHexagon se_X12_isHexagon (hw.1) (Nat.le_of_ble_eq_true rfl) rfl (by omega) (by omega) rfl (st := []) rfl (Nat.le_of_ble_eq_true rfl) (dc9 DX12_shapeOn 50 rfl) rfl (j_if_ne hK (dj9 DX12_shapeOn 51 94 rfl rfl) h (fun h => j_sub [0, 2] rfl (X12_shapeOn_wj94 hK hw hg h hk)) (fun h =>
  j_vret hK (dc9 DX12_shapeOn 52 rfl) (have z := lf9 h hk; z))))) (fun h =>
  j_aload_n hK (dc9 DX12_shapeOn 45 rfl) 0 rfl rfl (b19 h fun x7 hc h => j_cV hK (c_X12_isPentagon (hst9 hK) (hw) hc) cl12_450 cd_X12_isPentagon im_X12_isPentagon se_X12_isPentagon (hw.1) (Nat.le_of_ble_eq_true rfl) rfl (by omega) (by omega) rfl (st := []) rfl (Nat.le_of_ble_eq_true rfl) (dc9 DX12_shapeOn 46 rfl) rfl (j_if_ne hK (dj9 DX12_shapeOn 47 94 rfl rfl) h (fun h => j_sub [0, 2] rfl (X12_shapeOn_wj94 hK hw hg h hk)) (fun h =>
  j_goto hK (dj9 DX12_shapeOn 48 93 rfl rfl) (j_vret hK (dc9 DX12_shapeOn 52 rfl) (have z := lf9 h hk; z))))))))) (fun h =>
  j_aload_n hK (dc9 DX12_shapeOn 3 rfl) 0 rfl rfl (j_getR hK (hw.1) fl12_87 rfl (hw.2.2.2.2.2.2.2.2.2.2.2.2.2.2.2.2.2.2.2.2.2.2.2.1.1) (hw.2.2.2.2.2.2.2.2.2.2.2.2.2.2.2.2.2.2.2.2.2.2.2.1.2.1) (dc9 DX12_shapeOn 4 rfl) (j_iload_n hK (dc9 DX12_shapeOn 5 rfl) 1 rfl rfl (j_iconst hK (dc9 DX12_shapeOn 6 rfl) (j_iast hK (hw.2.2.2.2.2.2.2.2.2.2.2.2.2.2.2.2.2.2.2.2.2.2.2.1.2) (Nat.le_of_ble_eq_true rfl) (dc9 DX12_shapeOn 7 rfl) h fun d8 h => ((have z := j_lpE (X12_shapeOn_T12 K o v1 v2) (X12_shapeOn_F12 K o v1 v2) h (fun q y h hk => X12_shapeOn_wb12 hK hw hg h hk) (fun e h => j_vret hK (dc9 DX12_shapeOn 41 rfl) (have z := lf9 h hk; z)); z)))))))))
def X12_shapeOn (o : Nat) : Nat → Int → Int → DA → Option (Unit × DA)
  | 0, _, _, _ => none
  | n + 1, v1, v2, d => X12_shapeOn_m o (X12_shapeOn o n) v1 v2 d
theorem c_X12_shapeOn (n : Nat) {G : GT} {l : Launch} {ad : Nat → Nat} {σ : HS} (hst : l.stackTraces = false) {o : Nat} (hw : W_12 σ o) {v1 v2 : Int} {r : Unit} {d d' : DA} (h : X12_shapeOn o n v1 v2 d = some (r, d')) : Ct G l yX12_shapeOn cX12_shapeOn 4 none (5 * n) (128 * n) ad (wD σ d) [.ref (ad o), vi v1, vi v2] none (wD σ d') := by
  induction n generalizing v1 v2 r d d' with
  | zero => cases h
  | succ n ih =>
    refine ct_of hst rfl (Nat.le_of_ble_eq_true rfl) (fun K e0 e9 e1 e2 e3 hK => ?_)
    subst e0; subst e9; subst e1; subst e2
    exact X12_shapeOn_w (fr0 := 5 * n) (lo0 := 128 * n) hK hw (g := X12_shapeOn o n) (fun _ _ _ _ _ hc => ih hc) h e3
/-! X12_tellShapes -/
theorem DX12_tellShapes : Dt cX12_tellShapes [(0, .aload_n 0, 1, 1), (1, .iload_n 2, 1, 2), (2, .putfield 437, 3, 5), (5, .aload_n 0, 1, 6), (6, .iconst 0, 1, 7), (7, .putfield 456, 3, 10), (10, .aload_n 0, 1, 11), (11, .iconst 0, 1, 12), (12, .putfield 440, 3, 15), (15, .aload_n 0, 1, 16), (16, .iconst 0, 1, 17), (17, .iload_n 1, 1, 18), (18, .invokevirtual 447, 3, 21), (21, .return_, 1, 22)] := by unfold Dt; decide +kernel
def X12_tellShapes (o : Nat) (v1 v2 : Int) (d : DA) : Option (Unit × DA) :=
  gd (v2 = 0 ∨ v2 = 1) <|
  lt9 (wI d o 52 v2) fun d1 =>
  lt9 (wI d1 o 50 0) fun d2 =>
  lt9 (wI d2 o 51 0) fun d3 =>
  bd (X12_shapeOn o 12 0 v1 d3) fun _ d4 =>
  some (((), d4))
theorem X12_tellShapes_w {K : KT} (hK : Ok9 K cX12_tellShapes RX12 3 none 61 1559) {o : Nat} (hw : W_12 (kσ K) o) {v1 v2 : Int} {d : DA} {y : Unit × DA} (h : X12_tellShapes o v1 v2 d = some y) (hk : (FV K) y) : J K 3 d [(0, rf K o), (1, vi v1), (2, vi v2)] 0 [] :=
  j_aload_n hK (dc9 DX12_tellShapes 0 rfl) 0 rfl rfl (j_iload_n hK (dc9 DX12_tellShapes 1 rfl) 2 rfl rfl (j_putZ hK (hw.1) fl12_437 fp12_437 rfl (dc9 DX12_tellShapes 2 rfl) h fun d1 h => (j_aload_n hK (dc9 DX12_tellShapes 3 rfl) 0 rfl rfl (j_iconst hK (dc9 DX12_tellShapes 4 rfl) (j_putI hK (hw.1) fl12_456 fp12_456 rfl (dc9 DX12_tellShapes 5 rfl) h fun d2 h => (j_aload_n hK (dc9 DX12_tellShapes 6 rfl) 0 rfl rfl (j_iconst hK (dc9 DX12_tellShapes 7 rfl) (j_putI hK (hw.1) fl12_440 fp12_440 rfl (dc9 DX12_tellShapes 8 rfl) h fun d3 h => (j_aload_n hK (dc9 DX12_tellShapes 9 rfl) 0 rfl rfl (j_iconst hK (dc9 DX12_tellShapes 10 rfl) (j_iload_n hK (dc9 DX12_tellShapes 11 rfl) 1 rfl rfl (bd9 h fun _ d4 hc h => j_cV hK (c_X12_shapeOn 12 (hst9 hK) (hw) hc) cl12_447 cd_X12_shapeOn im_X12_shapeOn se_X12_shapeOn (hw.1) (Nat.le_of_ble_eq_true rfl) rfl (Nat.le_of_ble_eq_true rfl) (Nat.le_of_ble_eq_true rfl) rfl (st := []) rfl (Nat.le_of_ble_eq_true rfl) (dc9 DX12_tellShapes 12 rfl) rfl (j_vret hK (dc9 DX12_tellShapes 13 rfl) (have z := lf9 h hk; z))))))))))))))
theorem c_X12_tellShapes {G : GT} {l : Launch} {ad : Nat → Nat} {σ : HS} {d d' : DA} (hst : l.stackTraces = false) {o : Nat} (hw : W_12 σ o) {v1 v2 : Int} {r : Unit} (h : X12_tellShapes o v1 v2 d = some (r, d')) : Ct G l yX12_tellShapes cX12_tellShapes 3 none 61 1559 ad (wD σ d) [.ref (ad o), vi v1, vi v2] none (wD σ d') :=
  ct_of hst rfl (Nat.le_of_ble_eq_true rfl) (fun K e0 e9 e1 e2 e3 hK => by subst e0; subst e9; subst e1; subst e2; exact X12_tellShapes_w hK hw h e3)
/-! X12_check -/
theorem DX12_check : Dt cX12_check [(0, .aload_n 0, 1, 1), (1, .iconst 0, 1, 2), (2, .putfield 165, 3, 5), (5, .iload_n 1, 1, 6), (6, .iconst 0, 1, 7), (7, .iconst 3, 1, 8), (8, .invokestatic 168, 3, 11), (11, .ifCond .ne 9, 3, 14), (14, .aload_n 0, 1, 15), (15, .iconst 1, 1, 16), (16, .invokevirtual 271, 3, 19), (19, .ireturn, 1, 20), (20, .aload_n 0, 1, 21), (21, .invokevirtual 424, 3, 24), (24, .ifCond .ne 5, 3, 27), (27, .iconst (-1), 1, 28), (28, .ireturn, 1, 29), (29, .aload_n 0, 1, 30), (30, .iload_n 1, 1, 31), (31, .iconst 2, 1, 32), (32, .if_icmp .ge 8, 3, 35), (35, .bipush 9, 2, 37), (37, .goto 5, 3, 40), (40, .bipush 6, 2, 42), (42, .iconst 0, 1, 43), (43, .invokevirtual 465, 3, 46), (46, .iload_n 1, 1, 47), (47, .iconst 2, 1, 48), (48, .irem, 1, 49), (49, .ifCond .ne 10, 3, 52), (52, .aload_n 0, 1, 53), (53, .getfield 456, 3, 56), (56, .goto 7, 3, 59), (59, .aload_n 0, 1, 60), (60, .getfield 440, 3, 63), (63, .ireturn, 1, 64)] := by unfold Dt; decide +kernel
def X12_check_j42 (o : Nat) (v1 s1 : Int) (d : DA) : Option (Int × DA) :=
  bd (X12_tellShapes o s1 0 d) fun _ d4 =>
  gd (dvg v1 2) <|
  gd (inR (Int.tmod v1 2)) <|
  if (Int.tmod v1 2) = 0 then (some ((d4.1 o 50, d4))) else
  some ((d4.1 o 51, d4))
theorem X12_check_wj42 {K : KT} (hK : Ok9 K cX12_check RX12 2 (some .int) 62 1581) {o : Nat} (hw : W_12 (kσ K) o) {v1 s1 : Int} {d : DA} {y : Int × DA} (h : X12_check_j42 o v1 s1 d = some y) (hk : (FI K) y) : J K 2 d [(0, rf K o), (1, vi v1)] 42 [vi s1, rf K o] :=
  j_iconst hK (dc9 DX12_check 24 rfl) (bd9 h fun _ d4 hc h => j_cV hK (c_X12_tellShapes (hst9 hK) (hw) hc) cl12_465 cd_X12_tellShapes im_X12_tellShapes se_X12_tellShapes (hw.1) (Nat.le_of_ble_eq_true rfl) rfl (Nat.le_of_ble_eq_true rfl) (Nat.le_of_ble_eq_true rfl) rfl (st := []) rfl (Nat.le_of_ble_eq_true rfl) (dc9 DX12_check 25 rfl) rfl (j_iload_n hK (dc9 DX12_check 26 rfl) 1 rfl rfl (j_iconst hK (dc9 DX12_check 27 rfl) (j_irem hK (dc9 DX12_check 28 rfl) h fun h => (j_if_ne hK (dj9 DX12_check 29 59 rfl rfl) h (fun h => j_aload_n hK (dc9 DX12_check 33 rfl) 0 rfl rfl (j_getI hK (hw.1) fl12_440 rfl (dc9 DX12_check 34 rfl) (j_iret hK (dc9 DX12_check 35 rfl) (have z := lf9 h hk; z)))) (fun h =>
  j_aload_n hK (dc9 DX12_check 30 rfl) 0 rfl rfl (j_getI hK (hw.1) fl12_456 rfl (dc9 DX12_check 31 rfl) (j_goto hK (dj9 DX12_check 32 63 rfl rfl) (j_iret hK (dc9 DX12_check 35 rfl) (have z := lf9 h hk; z))))))))))
def X12_check (o : Nat) (v1 : Int) (d : DA) : Option (Int × DA) :=
  lt9 (wI d o 0 0) fun d1 =>
  b1 (X12_isIn v1 0 3 d1) fun x2 =>
  gd (inR x2) <|
  if x2 = 0 then (bd (X12_fail o 1 d1) fun x6 d5 =>
  some ((x6, d5))) else
  b1 (X12_hasTrees o d1) fun x3 =>
  gd (inR x3) <|
  if x3 = 0 then (some (((-1), d1))) else
  gd (inR v1 ∧ inR 2) <|
  if 2 ≤ v1 then (X12_check_j42 o v1 6 d1) else
  X12_check_j42 o v1 9 d1
theorem X12_check_w {K : KT} (hK : Ok9 K cX12_check RX12 2 (some .int) 62 1581) {o : Nat} (hw : W_12 (kσ K) o) {v1 : Int} {d : DA} {y : Int × DA} (h : X12_check o v1 d = some y) (hk : (FI K) y) : J K 2 d [(0, rf K o), (1, vi v1)] 0 [] :=
  j_aload_n hK (dc9 DX12_check 0 rfl) 0 rfl rfl (j_iconst hK (dc9 DX12_check 1 rfl) (j_putI hK (hw.1) fl12_165 fp12_165 rfl (dc9 DX12_check 2 rfl) h fun d1 h => (j_iload_n hK (dc9 DX12_check 3 rfl) 1 rfl rfl (j_iconst hK (dc9 DX12_check 4 rfl) (j_iconst hK (dc9 DX12_check 5 rfl) (b19 h fun x2 hc h => j_cS hK (c_X12_isIn (hst9 hK)  hc) cl12_168 cd_X12_isIn sm_X12_isIn (Nat.le_of_ble_eq_true rfl) (Nat.le_of_ble_eq_true rfl) rfl (st := []) rfl (Nat.le_of_ble_eq_true rfl) (dc9 DX12_check 6 rfl) rfl (j_if_ne hK (dj9 DX12_check 7 20 rfl rfl) h (fun h => j_aload_n hK (dc9 DX12_check 12 rfl) 0 rfl rfl (b19 h fun x3 hc h => j_cV hK (c_X12_hasTrees (hst9 hK) (hw) hc) cl12_424 cd_X12_hasTrees im_X12_hasTrees se_X12_hasTrees (hw.1) (Nat.le_of_ble_eq_true rfl) rfl (Nat.le_of_ble_eq_true rfl) (Nat.le_of_ble_eq_true rfl) rfl (st := []) rfl (Nat.le_of_ble_eq_true rfl) (dc9 DX12_check 13 rfl) rfl (j_if_ne hK (dj9 DX12_check 14 29 rfl rfl) h (fun h => j_aload_n hK (dc9 DX12_check 17 rfl) 0 rfl rfl (j_iload_n hK (dc9 DX12_check 18 rfl) 1 rfl rfl (j_iconst hK (dc9 DX12_check 19 rfl) (j_icmp_ge hK (dj9 DX12_check 20 40 rfl rfl) h (fun h => j_bipush hK (dc9 DX12_check 23 rfl) (by decide) (X12_check_wj42 hK hw h hk)) (fun h =>
  j_bipush hK (dc9 DX12_check 21 rfl) (by decide) (j_goto hK (dj9 DX12_check 22 42 rfl rfl) (X12_check_wj42 hK hw h hk))))))) (fun h =>
  j_iconst hK (dc9 DX12_check 15 rfl) (j_iret hK (dc9 DX12_check 16 rfl) (have z := lf9 h hk; z)))))) (fun h =>
  j_aload_n hK (dc9 DX12_check 8 rfl) 0 rfl rfl (j_iconst hK (dc9 DX12_check 9 rfl) (bd9 h fun x6 d5 hc h => j_cV hK (c_X12_fail (hst9 hK) (hw) hc) cl12_271 cd_X12_fail im_X12_fail se_X12_fail (hw.1) (Nat.le_of_ble_eq_true rfl) rfl (Nat.le_of_ble_eq_true rfl) (Nat.le_of_ble_eq_true rfl) rfl (st := []) rfl (Nat.le_of_ble_eq_true rfl) (dc9 DX12_check 10 rfl) rfl (j_iret hK (dc9 DX12_check 11 rfl) (have z := lf9 h hk; z))))))))))))
theorem c_X12_check {G : GT} {l : Launch} {ad : Nat → Nat} {σ : HS} {d d' : DA} (hst : l.stackTraces = false) {o : Nat} (hw : W_12 σ o) {v1 : Int} {r : Int} (h : X12_check o v1 d = some (r, d')) : Ct G l yX12_check cX12_check 2 (some .int) 62 1581 ad (wD σ d) [.ref (ad o), vi v1] (some (vi r)) (wD σ d') :=
  ct_of hst rfl (Nat.le_of_ble_eq_true rfl) (fun K e0 e9 e1 e2 e3 hK => by subst e0; subst e9; subst e1; subst e2; exact X12_check_w hK hw h e3)
/-! X12_broken -/
theorem DX12_broken : Dt cX12_broken [(0, .aload_n 0, 1, 1), (1, .iconst 0, 1, 2), (2, .putfield 165, 3, 5), (5, .iload_n 1, 1, 6), (6, .iconst 0, 1, 7), (7, .bipush 8, 2, 9), (9, .invokestatic 168, 3, 12), (12, .ifCond .eq 10, 3, 15), (15, .aload_n 0, 1, 16), (16, .invokevirtual 424, 3, 19), (19, .ifCond .ne 9, 3, 22), (22, .aload_n 0, 1, 23), (23, .iconst 1, 1, 24), (24, .invokevirtual 271, 3, 27), (27, .ireturn, 1, 28), (28, .aload_n 0, 1, 29), (29, .bipush 9, 2, 31), (31, .iconst 1, 1, 32), (32, .invokevirtual 465, 3, 35), (35, .aload_n 0, 1, 36), (36, .getfield 440, 3, 39), (39, .ifCond .ne 7, 3, 42), (42, .iconst (-1), 1, 43), (43, .goto 9, 3, 46), (46, .aload_n 0, 1, 47), (47, .getfield 90, 3, 50), (50, .iload_n 1, 1, 51), (51, .iaload, 1, 52), (52, .ireturn, 1, 53)] := by unfold Dt; decide +kernel
def X12_broken_j22 (o : Nat) (d : DA) : Option (Int × DA) :=
  bd (X12_fail o 1 d) fun x4 d3 =>
  some ((x4, d3))
theorem X12_broken_wj22 {K : KT} (hK : Ok9 K cX12_broken RX12 2 (some .int) 62 1581) {o : Nat} (hw : W_12 (kσ K) o) {d : DA} {y : Int × DA} (h : X12_broken_j22 o d = some y) (hk : (FI K) y) : J K 2 d [(0, rf K o)] 22 [] :=
  j_aload_n hK (dc9 DX12_broken 11 rfl) 0 rfl rfl (j_iconst hK (dc9 DX12_broken 12 rfl) (bd9 h fun x4 d3 hc h => j_cV hK (c_X12_fail (hst9 hK) (hw) hc) cl12_271 cd_X12_fail im_X12_fail se_X12_fail (hw.1) (Nat.le_of_ble_eq_true rfl) rfl (Nat.le_of_ble_eq_true rfl) (Nat.le_of_ble_eq_true rfl) rfl (st := []) rfl (Nat.le_of_ble_eq_true rfl) (dc9 DX12_broken 13 rfl) rfl (j_iret hK (dc9 DX12_broken 14 rfl) (have z := lf9 h hk; z))))
def X12_broken (o : Nat) (v1 : Int) (d : DA) : Option (Int × DA) :=
  lt9 (wI d o 0 0) fun d1 =>
  b1 (X12_isIn v1 0 8 d1) fun x2 =>
  gd (inR x2) <|
  if x2 = 0 then (X12_broken_j22 o d1) else
  b1 (X12_hasTrees o d1) fun x5 =>
  gd (inR x5) <|
  if x5 = 0 then (X12_broken_j22 o d1) else
  bd (X12_tellShapes o 9 1 d1) fun _ d6 =>
  gd (inR (d6.1 o 51)) <|
  if (d6.1 o 51) = 0 then (some (((-1), d6))) else
  gd (ix v1 9) <|
  some ((d6.1 (o + 24) (Int.toNat v1), d6))
theorem X12_broken_w {K : KT} (hK : Ok9 K cX12_broken RX12 2 (some .int) 62 1581) {o : Nat} (hw : W_12 (kσ K) o) {v1 : Int} {d : DA} {y : Int × DA} (h : X12_broken o v1 d = some y) (hk : (FI K) y) : J K 2 d [(0, rf K o), (1, vi v1)] 0 [] :=
  j_aload_n hK (dc9 DX12_broken 0 rfl) 0 rfl rfl (j_iconst hK (dc9 DX12_broken 1 rfl) (j_putI hK (hw.1) fl12_165 fp12_165 rfl (dc9 DX12_broken 2 rfl) h fun d1 h => (j_iload_n hK (dc9 DX12_broken 3 rfl) 1 rfl rfl (j_iconst hK (dc9 DX12_broken 4 rfl) (j_bipush hK (dc9 DX12_broken 5 rfl) (by decide) (b19 h fun x2 hc h => j_cS hK (c_X12_isIn (hst9 hK)  hc) cl12_168 cd_X12_isIn sm_X12_isIn (Nat.le_of_ble_eq_true rfl) (Nat.le_of_ble_eq_true rfl) rfl (st := []) rfl (Nat.le_of_ble_eq_true rfl) (dc9 DX12_broken 6 rfl) rfl (j_if_eq hK (dj9 DX12_broken 7 22 rfl rfl) h (fun h => j_sub [0] rfl (X12_broken_wj22 hK hw h hk)) (fun h =>
  j_aload_n hK (dc9 DX12_broken 8 rfl) 0 rfl rfl (b19 h fun x5 hc h => j_cV hK (c_X12_hasTrees (hst9 hK) (hw) hc) cl12_424 cd_X12_hasTrees im_X12_hasTrees se_X12_hasTrees (hw.1) (Nat.le_of_ble_eq_true rfl) rfl (Nat.le_of_ble_eq_true rfl) (Nat.le_of_ble_eq_true rfl) rfl (st := []) rfl (Nat.le_of_ble_eq_true rfl) (dc9 DX12_broken 9 rfl) rfl (j_if_ne hK (dj9 DX12_broken 10 28 rfl rfl) h (fun h => j_aload_n hK (dc9 DX12_broken 15 rfl) 0 rfl rfl (j_bipush hK (dc9 DX12_broken 16 rfl) (by decide) (j_iconst hK (dc9 DX12_broken 17 rfl) (bd9 h fun _ d6 hc h => j_cV hK (c_X12_tellShapes (hst9 hK) (hw) hc) cl12_465 cd_X12_tellShapes im_X12_tellShapes se_X12_tellShapes (hw.1) (Nat.le_of_ble_eq_true rfl) rfl (Nat.le_of_ble_eq_true rfl) (Nat.le_of_ble_eq_true rfl) rfl (st := []) rfl (Nat.le_of_ble_eq_true rfl) (dc9 DX12_broken 18 rfl) rfl (j_aload_n hK (dc9 DX12_broken 19 rfl) 0 rfl rfl (j_getI hK (hw.1) fl12_440 rfl (dc9 DX12_broken 20 rfl) (j_if_ne hK (dj9 DX12_broken 21 46 rfl rfl) h (fun h => j_aload_n hK (dc9 DX12_broken 24 rfl) 0 rfl rfl (j_getR hK (hw.1) fl12_90 rfl (hw.2.2.2.2.2.2.2.2.2.2.2.2.2.2.2.2.2.2.2.2.2.2.2.2.1.1) (hw.2.2.2.2.2.2.2.2.2.2.2.2.2.2.2.2.2.2.2.2.2.2.2.2.1.2.1) (dc9 DX12_broken 25 rfl) (j_iload_n hK (dc9 DX12_broken 26 rfl) 1 rfl rfl (j_iald hK (hw.2.2.2.2.2.2.2.2.2.2.2.2.2.2.2.2.2.2.2.2.2.2.2.2.1.2) (Nat.le_of_ble_eq_true rfl) (dc9 DX12_broken 27 rfl) h fun h => (j_iret hK (dc9 DX12_broken 28 rfl) (have z := lf9 h hk; z)))))) (fun h =>
  j_iconst hK (dc9 DX12_broken 22 rfl) (j_goto hK (dj9 DX12_broken 23 52 rfl rfl) (j_iret hK (dc9 DX12_broken 28 rfl) (have z := lf9 h hk; z))))))))))) (fun h =>
  j_sub [0] rfl (X12_broken_wj22 hK hw h hk))))))))))))
theorem c_X12_broken {G : GT} {l : Launch} {ad : Nat → Nat} {σ : HS} {d d' : DA} (hst : l.stackTraces = false) {o : Nat} (hw : W_12 σ o) {v1 : Int} {r : Int} (h : X12_broken o v1 d = some (r, d')) : Ct G l yX12_broken cX12_broken 2 (some .int) 62 1581 ad (wD σ d) [.ref (ad o), vi v1] (some (vi r)) (wD σ d') :=
  ct_of hst rfl (Nat.le_of_ble_eq_true rfl) (fun K e0 e9 e1 e2 e3 hK => by subst e0; subst e9; subst e1; subst e2; exact X12_broken_w hK hw h e3)
/-! X12_solveOn -/
theorem DX12_solveOn : Dt cX12_solveOn [(0, .iload_n 1, 1, 1), (1, .aload_n 0, 1, 2), (2, .getfield 481, 3, 5), (5, .if_icmp .ge 39, 3, 8), (8, .iconst 0, 1, 9), (9, .istore_n 2, 1, 10), (10, .iload_n 2, 1, 11), (11, .aload_n 0, 1, 12), (12, .getfield 13, 3, 15), (15, .if_icmp .ge 28, 3, 18), (18, .aload_n 0, 1, 19), (19, .getfield 26, 3, 22), (22, .aload_n 0, 1, 23), (23, .getfield 99, 3, 26), (26, .iload_n 1, 1, 27), (27, .iaload, 1, 28), (28, .iload_n 2, 1, 29), (29, .iastore, 1, 30), (30, .aload_n 0, 1, 31), (31, .iload_n 1, 1, 32), (32, .iconst 1, 1, 33), (33, .iadd, 1, 34), (34, .invokevirtual 493, 3, 37), (37, .iinc 2 1, 3, 40), (40, .goto (-30), 3, 43), (43, .return_, 1, 44), (44, .aload_n 0, 1, 45), (45, .invokevirtual 496, 3, 48), (48, .ifCond .ne 4, 3, 51), (51, .return_, 1, 52), (52, .aload_n 0, 1, 53), (53, .bipush 9, 2, 55), (55, .iconst 1, 1, 56), (56, .invokevirtual 465, 3, 59), (59, .aload_n 0, 1, 60), (60, .getfield 440, 3, 63), (63, .ifCond .le 4, 3, 66), (66, .return_, 1, 67), (67, .iconst 0, 1, 68), (68, .istore_n 2, 1, 69), (69, .iload_n 2, 1, 70), (70, .aload_n 0, 1, 71), (71, .getfield 481, 3, 74), (74, .if_icmp .ge 33, 3, 77), (77, .aload_n 0, 1, 78), (78, .getfield 499, 3, 81), (81, .ifCond .ne 26, 3, 84), (84, .aload_n 0, 1, 85), (85, .getfield 102, 3, 88), (88, .iload_n 2, 1, 89), (89, .aload_n 0, 1, 90), (90, .getfield 26, 3, 93), (93, .aload_n 0, 1, 94), (94, .getfield 99, 3, 97), (97, .iload_n 2, 1, 98), (98, .iaload, 1, 99), (99, .iaload, 1, 100), (100, .iastore, 1, 101), (101, .iinc 2 1, 3, 104), (104, .goto (-35), 3, 107), (107, .aload_n 0, 1, 108), (108, .dup, 1, 109), (109, .getfield 499, 3, 112), (112, .iconst 1, 1, 113), (113, .iadd, 1, 114), (114, .putfield 499, 3, 117), (117, .return_, 1, 118)] := by unfold Dt; decide +kernel
def X12_solveOn_T69 (K : KT) (o : Nat) (q : Int × DA) : Prop := J K 3 q.2 [(0, rf K o), (2, vi (q.1))] 69 []
def X12_solveOn_F69 (K : KT) (o : Nat) (q : DA) : Prop := J K 3 q [(0, rf K o)] 107 []
def X12_solveOn_b69 (o : Nat) (g : Int → DA → Option (Unit × DA)) (v2 : Int) (d : DA) : Option ((Int × DA) ⊕ (DA)) :=
  gd (inR v2 ∧ inR (d.1 o 58)) <|
  if (d.1 o 58) ≤ v2 then (some (.inr d)) else
  gd (inR (d.1 o 59)) <|
  if (d.1 o 59) = 0 then (gd (ix v2 729) <|
  gd (ix (d.1 (o + 27) (Int.toNat v2)) 729) <|
  gd (ix v2 729) <|
  lt9 (wI d (o + 28) (Int.toNat v2) (d.1 (o + 4) (Int.toNat (d.1 (o + 27) (Int.toNat v2))))) fun d4 =>
  some (.inl (v2 + 1, d4))) else
  some (.inr d)
theorem X12_solveOn_wb69 {K : KT} {fr0 lo0 : Nat} (hK : Ok9 K cX12_solveOn RX12 3 none (fr0 + 62) (lo0 + 1581)) {o : Nat} {g : Int → DA → Option (Unit × DA)} (hw : W_12 (kσ K) o) (hg : ∀ (v1 : Int) (r : Unit) (d d' : DA), g v1 d = some (r, d') → CtK K yX12_solveOn cX12_solveOn 3 none fr0 lo0 d [rf K o, vi v1] none d') {v2 : Int} {d : DA} {y : (Int × DA) ⊕ (DA)} (h : X12_solveOn_b69 o g v2 d = some y) (hk : S2 (X12_solveOn_T69 K o) (X12_solveOn_F69 K o) y) : J K 3 d [(0, rf K o), (2, vi v2)] 69 [] :=
  j_iload_n hK (dc9 DX12_solveOn 40 rfl) 1 rfl rfl (j_aload_n hK (dc9 DX12_solveOn 41 rfl) 0 rfl rfl (j_getI hK (hw.1) fl12_481 rfl (dc9 DX12_solveOn 42 rfl) (j_icmp_ge hK (dj9 DX12_solveOn 43 107 rfl rfl) h (fun h => j_sub [0] rfl ((have z := lf9 h hk; z))) (fun h =>
  j_aload_n hK (dc9 DX12_solveOn 44 rfl) 0 rfl rfl (j_getI hK (hw.1) fl12_499 rfl (dc9 DX12_solveOn 45 rfl) (j_if_ne hK (dj9 DX12_solveOn 46 107 rfl rfl) h (fun h => j_sub [0] rfl ((have z := lf9 h hk; z))) (fun h =>
  j_aload_n hK (dc9 DX12_solveOn 47 rfl) 0 rfl rfl (j_getR hK (hw.1) fl12_102 rfl (hw.2.2.2.2.2.2.2.2.2.2.2.2.2.2.2.2.2.2.2.2.2.2.2.2.2.2.2.2.1.1) (hw.2.2.2.2.2.2.2.2.2.2.2.2.2.2.2.2.2.2.2.2.2.2.2.2.2.2.2.2.1.2.1) (dc9 DX12_solveOn 48 rfl) (j_iload_n hK (dc9 DX12_solveOn 49 rfl) 1 rfl rfl (j_aload_n hK (dc9 DX12_solveOn 50 rfl) 0 rfl rfl (j_getR hK (hw.1) fl12_26 rfl (hw.2.2.2.2.1.1) (hw.2.2.2.2.1.2.1) (dc9 DX12_solveOn 51 rfl) (j_aload_n hK (dc9 DX12_solveOn 52 rfl) 0 rfl rfl (j_getR hK (hw.1) fl12_99 rfl (hw.2.2.2.2.2.2.2.2.2.2.2.2.2.2.2.2.2.2.2.2.2.2.2.2.2.2.2.1.1) (hw.2.2.2.2.2.2.2.2.2.2.2.2.2.2.2.2.2.2.2.2.2.2.2.2.2.2.2.1.2.1) (dc9 DX12_solveOn 53 rfl) (j_iload_n hK (dc9 DX12_solveOn 54 rfl) 1 rfl rfl (j_iald hK (hw.2.2.2.2.2.2.2.2.2.2.2.2.2.2.2.2.2.2.2.2.2.2.2.2.2.2.2.1.2) (Nat.le_of_ble_eq_true rfl) (dc9 DX12_solveOn 55 rfl) h fun h => (j_iald hK (hw.2.2.2.2.1.2) (Nat.le_of_ble_eq_true rfl) (dc9 DX12_solveOn 56 rfl) h fun h => (j_iast hK (hw.2.2.2.2.2.2.2.2.2.2.2.2.2.2.2.2.2.2.2.2.2.2.2.2.2.2.2.2.1.2) (Nat.le_of_ble_eq_true rfl) (dc9 DX12_solveOn 57 rfl) h fun d4 h => (j_iinc hK (dc9 DX12_solveOn 58 rfl) 1 rfl (Nat.le_of_ble_eq_true rfl) rfl (j_goto hK (dj9 DX12_solveOn 59 69 rfl rfl) (j_sub [1, 0] rfl ((have z := lf9 h hk; z))))))))))))))))))))))
def X12_solveOn_j107 (o : Nat) (g : Int → DA → Option (Unit × DA)) (d : DA) : Option (Unit × DA) :=
  lt9 (wI d o 59 ((d.1 o 59) + 1)) fun d5 =>
  some (((), d5))
theorem X12_solveOn_wj107 {K : KT} {fr0 lo0 : Nat} (hK : Ok9 K cX12_solveOn RX12 3 none (fr0 + 62) (lo0 + 1581)) {o : Nat} {g : Int → DA → Option (Unit × DA)} (hw : W_12 (kσ K) o) (hg : ∀ (v1 : Int) (r : Unit) (d d' : DA), g v1 d = some (r, d') → CtK K yX12_solveOn cX12_solveOn 3 none fr0 lo0 d [rf K o, vi v1] none d') {d : DA} {y : Unit × DA} (h : X12_solveOn_j107 o g d = some y) (hk : (FV K) y) : J K 3 d [(0, rf K o)] 107 [] :=
  j_aload_n hK (dc9 DX12_solveOn 60 rfl) 0 rfl rfl (j_dup hK (dc9 DX12_solveOn 61 rfl) rfl (j_getI hK (hw.1) fl12_499 rfl (dc9 DX12_solveOn 62 rfl) (j_iconst hK (dc9 DX12_solveOn 63 rfl) (j_iadd hK (dc9 DX12_solveOn 64 rfl) (j_putI hK (hw.1) fl12_499 fp12_499 rfl (dc9 DX12_solveOn 65 rfl) h fun d5 h => (j_vret hK (dc9 DX12_solveOn 66 rfl) (have z := lf9 h hk; z)))))))
def X12_solveOn_T10 (K : KT) (o : Nat) (v1 : Int) (q : Int × DA) : Prop := J K 3 q.2 [(0, rf K o), (1, vi v1), (2, vi (q.1))] 10 []
def X12_solveOn_F10 (K : KT) (o : Nat) (v1 : Int) (q : DA) : Prop := J K 3 q [] 43 []
def X12_solveOn_b10 (o : Nat) (g : Int → DA → Option (Unit × DA)) (v1 v2 : Int) (d : DA) : Option ((Int × DA) ⊕ (DA)) :=
  gd (inR v2 ∧ inR (d.1 o 4)) <|
  if (d.1 o 4) ≤ v2 then (some (.inr d)) else
  gd (ix v1 729) <|
  gd (ix (d.1 (o + 27) (Int.toNat v1)) 729) <|
  lt9 (wI d (o + 4) (Int.toNat (d.1 (o + 27) (Int.toNat v1))) v2) fun d6 =>
  bd (g (v1 + 1) d6) fun _ d7 =>
  some (.inl (v2 + 1, d7))
theorem X12_solveOn_wb10 {K : KT} {fr0 lo0 : Nat} (hK : Ok9 K cX12_solveOn RX12 3 none (fr0 + 62) (lo0 + 1581)) {o : Nat} {g : Int → DA → Option (Unit × DA)} (hw : W_12 (kσ K) o) (hg : ∀ (v1 : Int) (r : Unit) (d d' : DA), g v1 d = some (r, d') → CtK K yX12_solveOn cX12_solveOn 3 none fr0 lo0 d [rf K o, vi v1] none d') {v1 v2 : Int} {d : DA} {y : (Int × DA) ⊕ (DA)} (h : X12_solveOn_b10 o g v1 v2 d = some y) (hk : S2 (X12_solveOn_T10 K o v1) (X12_solveOn_F10 K o v1) y) : J K 3 d [(0, rf K o), (1, vi v1), (2, vi v2)] 10 [] :=
  j_iload_n hK (dc9 DX12_solveOn 6 rfl) 2 rfl rfl (j_aload_n hK (dc9 DX12_solveOn 7 rfl) 0 rfl rfl (j_getI hK (hw.1) fl12_13 rfl (dc9 DX12_solveOn 8 rfl) (j_icmp_ge hK (dj9 DX12_solveOn 9 43 rfl rfl) h (fun h => j_sub [] rfl ((have z := lf9 h hk; z))) (fun h =>
  j_aload_n hK (dc9 DX12_solveOn 10 rfl) 0 rfl rfl (j_getR hK (hw.1) fl12_26 rfl (hw.2.2.2.2.1.1) (hw.2.2.2.2.1.2.1) (dc9 DX12_solveOn 11 rfl) (j_aload_n hK (dc9 DX12_solveOn 12 rfl) 0 rfl rfl (j_getR hK (hw.1) fl12_99 rfl (hw.2.2.2.2.2.2.2.2.2.2.2.2.2.2.2.2.2.2.2.2.2.2.2.2.2.2.2.1.1) (hw.2.2.2.2.2.2.2.2.2.2.2.2.2.2.2.2.2.2.2.2.2.2.2.2.2.2.2.1.2.1) (dc9 DX12_solveOn 13 rfl) (j_iload_n hK (dc9 DX12_solveOn 14 rfl) 1 rfl rfl (j_iald hK (hw.2.2.2.2.2.2.2.2.2.2.2.2.2.2.2.2.2.2.2.2.2.2.2.2.2.2.2.1.2) (Nat.le_of_ble_eq_true rfl) (dc9 DX12_solveOn 15 rfl) h fun h => (j_iload_n hK (dc9 DX12_solveOn 16 rfl) 2 rfl rfl (j_iast hK (hw.2.2.2.2.1.2) (Nat.le_of_ble_eq_true rfl) (dc9 DX12_solveOn 17 rfl) h fun d6 h => (j_aload_n hK (dc9 DX12_solveOn 18 rfl) 0 rfl rfl (j_iload_n hK (dc9 DX12_solveOn 19 rfl) 1 rfl rfl (j_iconst hK (dc9 DX12_solveOn 20 rfl) (j_iadd hK (dc9 DX12_solveOn 21 rfl) (bd9 h fun _ d7 hc h => j_cV hK (hg _ _ _ _ hc) cl12_493 cd_X12_solveOn im_X12_solveOn se_X12_solveOn (hw.1) (Nat.le_of_ble_eq_true rfl) rfl (by omega) (by omega) rfl (st := []) rfl (Nat.le_of_ble_eq_true rfl) (dc9 DX12_solveOn 22 rfl) rfl (j_iinc hK (dc9 DX12_solveOn 23 rfl) 2 rfl (Nat.le_of_ble_eq_true rfl) rfl (j_goto hK (dj9 DX12_solveOn 24 10 rfl rfl) (j_sub [1, 2, 0] rfl ((have z := lf9 h hk; z)))))))))))))))))))))
def X12_solveOn_m (o : Nat) (g : Int → DA → Option (Unit × DA)) (v1 : Int) (d : DA) : Option (Unit × DA) :=
  gd (inR v1 ∧ inR (d.1 o 58)) <|
  if (d.1 o 58) ≤ v1 then (bd (X12_allTurned o d) fun x2 d1 =>
  gd (inR x2) <|
  if x2 = 0 then (some (((), d1))) else
  bd (X12_tellShapes o 9 1 d1) fun _ d3 =>
  gd (inR (d3.1 o 51)) <|
  if (d3.1 o 51) ≤ 0 then (lpE (fun q => X12_solveOn_b69 o g q.1 q.2) (0, d3) (fun e => X12_solveOn_j107 o g e)) else
  some (((), d3))) else
  lpE (fun q => X12_solveOn_b10 o g v1 q.1 q.2) (0, d) (fun e => some (((), e)))
theorem X12_solveOn_w {K : KT} {fr0 lo0 : Nat} (hK : Ok9 K cX12_solveOn RX12 3 none (fr0 + 62) (lo0 + 1581)) {o : Nat} {g : Int → DA → Option (Unit × DA)} (hw : W_12 (kσ K) o) (hg : ∀ (v1 : Int) (r : Unit) (d d' : DA), g v1 d = some (r, d') → CtK K yX12_solveOn cX12_solveOn 3 none fr0 lo0 d [rf K o, vi v1] none d') {v1 : Int} {d : DA} {y : Unit × DA} (h : X12_solveOn_m o g v1 d = some y) (hk : (FV K) y) : J K 3 d [(0, rf K o), (1, vi v1)] 0 [] :=
  j_iload_n hK (dc9 DX12_solveOn 0 rfl) 1 rfl rfl (j_aload_n hK (dc9 DX12_solveOn 1 rfl) 0 rfl rfl (j_getI hK (hw.1) fl12_481 rfl (dc9 DX12_solveOn 2 rfl) (j_icmp_ge hK (dj9 DX12_solveOn 3 44 rfl rfl) h (fun h => j_aload_n hK (dc9 DX12_solveOn 26 rfl) 0 rfl rfl (bd9 h fun x2 d1 hc h => j_cV hK (c_X12_allTurned (hst9 hK) (hw) hc) cl12_496 cd_X12_allTurned im_X12_allTurned se_X12_allTurned (hw.1) (Nat.le_of_ble_eq_true rfl) rfl (by omega) (by omega) rfl (st := []) rfl (Nat.le_of_ble_eq_true rfl) (dc9 DX12_solveOn 27 rfl) rfl (j_if_ne hK (dj9 DX12_solveOn 28 52 rfl rfl) h (fun h => j_aload_n hK (dc9 DX12_solveOn 30 rfl) 0 rfl rfl (j_bipush hK (dc9 DX12_solveOn 31 rfl) (by decide) (j_iconst hK (dc9 DX12_solveOn 32 rfl) (bd9 h fun _ d3 hc h => j_cV hK (c_X12_tellShapes (hst9 hK) (hw) hc) cl12_465 cd_X12_tellShapes im_X12_tellShapes se_X12_tellShapes (hw.1) (Nat.le_of_ble_eq_true rfl) rfl (by omega) (by omega) rfl (st := []) rfl (Nat.le_of_ble_eq_true rfl) (dc9 DX12_solveOn 33 rfl) rfl (j_aload_n hK (dc9 DX12_solveOn 34 rfl) 0 rfl rfl (j_getI hK (hw.1) fl12_440 rfl (dc9 DX12_solveOn 35 rfl) (j_if_le hK (dj9 DX12_solveOn 36 67 rfl rfl) h (fun h => j_iconst hK (dc9 DX12_solveOn 38 rfl) (j_istore_n hK (dc9 DX12_solveOn 39 rfl) rfl (Nat.le_of_ble_eq_true rfl) rfl (j_sub [1, 0] rfl ((have z := j_lpE (X12_solveOn_T69 K o) (X12_solveOn_F69 K o) h (fun q y h hk => X12_solveOn_wb69 hK hw hg h hk) (fun e h => X12_solveOn_wj107 hK hw hg h hk); z))))) (fun h =>
  j_vret hK (dc9 DX12_solveOn 37 rfl) (have z := lf9 h hk; z))))))))) (fun h =>
  j_vret hK (dc9 DX12_solveOn 29 rfl) (have z := lf9 h hk; z))))) (fun h =>
  j_iconst hK (dc9 DX12_solveOn 4 rfl) (j_istore_n hK (dc9 DX12_solveOn 5 rfl) rfl (Nat.le_of_ble_eq_true rfl) rfl (j_sub [1, 2, 0] rfl ((have z := j_lpE (X12_solveOn_T10 K o v1) (X12_solveOn_F10 K o v1) h (fun q y h hk => X12_solveOn_wb10 hK hw hg h hk) (fun e h => j_vret hK (dc9 DX12_solveOn 25 rfl) (have z := lf9 h hk; z)); z))))))))
def X12_solveOn (o : Nat) : Nat → Int → DA → Option (Unit × DA)
  | 0, _, _ => none
  | n + 1, v1, d => X12_solveOn_m o (X12_solveOn o n) v1 d
theorem c_X12_solveOn (n : Nat) {G : GT} {l : Launch} {ad : Nat → Nat} {σ : HS} (hst : l.stackTraces = false) {o : Nat} (hw : W_12 σ o) {v1 : Int} {r : Unit} {d d' : DA} (h : X12_solveOn o n v1 d = some (r, d')) : Ct G l yX12_solveOn cX12_solveOn 3 none (62 * n) (1581 * n) ad (wD σ d) [.ref (ad o), vi v1] none (wD σ d') := by
  induction n generalizing v1 r d d' with
  | zero => cases h
  | succ n ih =>
    refine ct_of hst rfl (Nat.le_of_ble_eq_true rfl) (fun K e0 e9 e1 e2 e3 hK => ?_)
    subst e0; subst e9; subst e1; subst e2
    exact X12_solveOn_w (fr0 := 62 * n) (lo0 := 1581 * n) hK hw (g := X12_solveOn o n) (fun _ _ _ _ hc => ih hc) h e3
/-! X12_solve -/
theorem DX12_solve : Dt cX12_solve [(0, .aload_n 0, 1, 1), (1, .iconst 0, 1, 2), (2, .putfield 165, 3, 5), (5, .aload_n 0, 1, 6), (6, .getfield 7, 3, 9), (9, .iconst 2, 1, 10), (10, .if_icmp .gt 19, 3, 13), (13, .aload_n 0, 1, 14), (14, .invokevirtual 303, 3, 17), (17, .ifCond .eq 12, 3, 20), (20, .aload_n 0, 1, 21), (21, .getfield 13, 3, 24), (24, .bipush 13, 2, 26), (26, .if_icmp .le 18, 3, 29), (29, .iload_n 1, 1, 30), (30, .iconst (-1), 1, 31), (31, .if_icmp .ne 7, 3, 34), (34, .iconst (-1), 1, 35), (35, .goto 8, 3, 38), (38, .aload_n 0, 1, 39), (39, .iconst 1, 1, 40), (40, .invokevirtual 271, 3, 43), (43, .ireturn, 1, 44), (44, .iconst 0, 1, 45), (45, .istore_n 2, 1, 46), (46, .iload_n 2, 1, 47), (47, .sipush 729, 3, 50), (50, .if_icmp .ge 21, 3, 53), (53, .aload_n 0, 1, 54), (54, .getfield 105, 3, 57), (57, .iload_n 2, 1, 58), (58, .aload_n 0, 1, 59), (59, .getfield 26, 3, 62), (62, .iload_n 2, 1, 63), (63, .iaload, 1, 64), (64, .iastore, 1, 65), (65, .iinc 2 1, 3, 68), (68, .goto (-22), 3, 71), (71, .aload_n 0, 1, 72), (72, .invokevirtual 502, 3, 75), (75, .aload_n 0, 1, 76), (76, .iconst 0, 1, 77), (77, .putfield 499, 3, 80), (80, .aload_n 0, 1, 81), (81, .iconst 0, 1, 82), (82, .invokevirtual 493, 3, 85), (85, .iconst 0, 1, 86), (86, .istore_n 2, 1, 87), (87, .iload_n 2, 1, 88), (88, .sipush 729, 3, 91), (91, .if_icmp .ge 21, 3, 94), (94, .aload_n 0, 1, 95), (95, .getfield 26, 3, 98), (98, .iload_n 2, 1, 99), (99, .aload_n 0, 1, 100), (100, .getfield 105, 3, 103), (103, .iload_n 2, 1, 104), (104, .iaload, 1, 105), (105, .iastore, 1, 106), (106, .iinc 2 1, 3, 109), (109, .goto (-22), 3, 112), (112, .iload_n 1, 1, 113), (113, .iconst (-1), 1, 114), (114, .if_icmp .ne 10, 3, 117), (117, .aload_n 0, 1, 118), (118, .getfield 499, 3, 121), (121, .goto 38, 3, 124), (124, .aload_n 0, 1, 125), (125, .getfield 499, 3, 128), (128, .ifCond .le 26, 3, 131), (131, .iload_n 1, 1, 132), (132, .iconst 0, 1, 133), (133, .aload_n 0, 1, 134), (134, .getfield 481, 3, 137), (137, .iconst 1, 1, 138), (138, .isub, 1, 139), (139, .invokestatic 168, 3, 142), (142, .ifCond .eq 12, 3, 145), (145, .aload_n 0, 1, 146), (146, .getfield 102, 3, 149), (149, .iload_n 1, 1, 150), (150, .iaload, 1, 151), (151, .goto 8, 3, 154), (154, .aload_n 0, 1, 155), (155, .iconst 1, 1, 156), (156, .invokevirtual 271, 3, 159), (159, .ireturn, 1, 160)] := by unfold Dt; decide +kernel
def X12_solve_j29 (o : Nat) (v1 : Int) (d : DA) : Option (Int × DA) :=
  gd (inR v1 ∧ inR (-1)) <|
  if v1 = (-1) then (some (((-1), d))) else
  bd (X12_fail o 1 d) fun x3 d2 =>
  some ((x3, d2))
theorem X12_solve_wj29 {K : KT} (hK : Ok9 K cX12_solve RX12 3 (some .int) 745 18994) {o : Nat} (hw : W_12 (kσ K) o) {v1 : Int} {d : DA} {y : Int × DA} (h : X12_solve_j29 o v1 d = some y) (hk : (FI K) y) : J K 3 d [(0, rf K o), (1, vi v1)] 29 [] :=
  j_iload_n hK (dc9 DX12_solve 14 rfl) 1 rfl rfl (j_iconst hK (dc9 DX12_solve 15 rfl) (j_icmp_ne hK (dj9 DX12_solve 16 38 rfl rfl) h (fun h => j_aload_n hK (dc9 DX12_solve 19 rfl) 0 rfl rfl (j_iconst hK (dc9 DX12_solve 20 rfl) (bd9 h fun x3 d2 hc h => j_cV hK (c_X12_fail (hst9 hK) (hw) hc) cl12_271 cd_X12_fail im_X12_fail se_X12_fail (hw.1) (Nat.le_of_ble_eq_true rfl) rfl (Nat.le_of_ble_eq_true rfl) (Nat.le_of_ble_eq_true rfl) rfl (st := []) rfl (Nat.le_of_ble_eq_true rfl) (dc9 DX12_solve 21 rfl) rfl (j_iret hK (dc9 DX12_solve 22 rfl) (have z := lf9 h hk; z))))) (fun h =>
  j_iconst hK (dc9 DX12_solve 17 rfl) (j_goto hK (dj9 DX12_solve 18 43 rfl rfl) (j_iret hK (dc9 DX12_solve 22 rfl) (have z := lf9 h hk; z))))))
def X12_solve_T46 (K : KT) (o : Nat) (v1 : Int) (q : Int × DA) : Prop := J K 3 q.2 [(0, rf K o), (1, vi v1), (2, vi (q.1))] 46 []
def X12_solve_F46 (K : KT) (o : Nat) (v1 : Int) (q : DA) : Prop := J K 3 q [(0, rf K o), (1, vi v1)] 71 []
def X12_solve_b46 (o : Nat) (v1 v2 : Int) (d : DA) : Option ((Int × DA) ⊕ (DA)) :=
  gd (inR v2 ∧ inR 729) <|
  if 729 ≤ v2 then (some (.inr d)) else
  gd (ix v2 729) <|
  gd (ix v2 729) <|
  lt9 (wI d (o + 29) (Int.toNat v2) (d.1 (o + 4) (Int.toNat v2))) fun d5 =>
  some (.inl (v2 + 1, d5))
theorem X12_solve_wb46 {K : KT} (hK : Ok9 K cX12_solve RX12 3 (some .int) 745 18994) {o : Nat} (hw : W_12 (kσ K) o) {v1 v2 : Int} {d : DA} {y : (Int × DA) ⊕ (DA)} (h : X12_solve_b46 o v1 v2 d = some y) (hk : S2 (X12_solve_T46 K o v1) (X12_solve_F46 K o v1) y) : J K 3 d [(0, rf K o), (1, vi v1), (2, vi v2)] 46 [] :=
  j_iload_n hK (dc9 DX12_solve 25 rfl) 2 rfl rfl (j_sipush hK (dc9 DX12_solve 26 rfl) (by decide) (j_icmp_ge hK (dj9 DX12_solve 27 71 rfl rfl) h (fun h => j_sub [0, 1] rfl ((have z := lf9 h hk; z))) (fun h =>
  j_aload_n hK (dc9 DX12_solve 28 rfl) 0 rfl rfl (j_getR hK (hw.1) fl12_105 rfl (hw.2.2.2.2.2.2.2.2.2.2.2.2.2.2.2.2.2.2.2.2.2.2.2.2.2.2.2.2.2.1.1) (hw.2.2.2.2.2.2.2.2.2.2.2.2.2.2.2.2.2.2.2.2.2.2.2.2.2.2.2.2.2.1.2.1) (dc9 DX12_solve 29 rfl) (j_iload_n hK (dc9 DX12_solve 30 rfl) 2 rfl rfl (j_aload_n hK (dc9 DX12_solve 31 rfl) 0 rfl rfl (j_getR hK (hw.1) fl12_26 rfl (hw.2.2.2.2.1.1) (hw.2.2.2.2.1.2.1) (dc9 DX12_solve 32 rfl) (j_iload_n hK (dc9 DX12_solve 33 rfl) 2 rfl rfl (j_iald hK (hw.2.2.2.2.1.2) (Nat.le_of_ble_eq_true rfl) (dc9 DX12_solve 34 rfl) h fun h => (j_iast hK (hw.2.2.2.2.2.2.2.2.2.2.2.2.2.2.2.2.2.2.2.2.2.2.2.2.2.2.2.2.2.1.2) (Nat.le_of_ble_eq_true rfl) (dc9 DX12_solve 35 rfl) h fun d5 h => (j_iinc hK (dc9 DX12_solve 36 rfl) 2 rfl (Nat.le_of_ble_eq_true rfl) rfl (j_goto hK (dj9 DX12_solve 37 46 rfl rfl) (j_sub [1, 2, 0] rfl ((have z := lf9 h hk; z)))))))))))))))
def X12_solve_T87 (K : KT) (o : Nat) (v1 : Int) (q : Int × DA) : Prop := J K 3 q.2 [(0, rf K o), (1, vi v1), (2, vi (q.1))] 87 []
def X12_solve_F87 (K : KT) (o : Nat) (v1 : Int) (q : DA) : Prop := J K 3 q [(0, rf K o), (1, vi v1)] 112 []
def X12_solve_b87 (o : Nat) (v1 v2 : Int) (d : DA) : Option ((Int × DA) ⊕ (DA)) :=
  gd (inR v2 ∧ inR 729) <|
  if 729 ≤ v2 then (some (.inr d)) else
  gd (ix v2 729) <|
  gd (ix v2 729) <|
  lt9 (wI d (o + 4) (Int.toNat v2) (d.1 (o + 29) (Int.toNat v2))) fun d9 =>
  some (.inl (v2 + 1, d9))
theorem X12_solve_wb87 {K : KT} (hK : Ok9 K cX12_solve RX12 3 (some .int) 745 18994) {o : Nat} (hw : W_12 (kσ K) o) {v1 v2 : Int} {d : DA} {y : (Int × DA) ⊕ (DA)} (h : X12_solve_b87 o v1 v2 d = some y) (hk : S2 (X12_solve_T87 K o v1) (X12_solve_F87 K o v1) y) : J K 3 d [(0, rf K o), (1, vi v1), (2, vi v2)] 87 [] :=
  j_iload_n hK (dc9 DX12_solve 48 rfl) 2 rfl rfl (j_sipush hK (dc9 DX12_solve 49 rfl) (by decide) (j_icmp_ge hK (dj9 DX12_solve 50 112 rfl rfl) h (fun h => j_sub [0, 1] rfl ((have z := lf9 h hk; z))) (fun h =>
  j_aload_n hK (dc9 DX12_solve 51 rfl) 0 rfl rfl (j_getR hK (hw.1) fl12_26 rfl (hw.2.2.2.2.1.1) (hw.2.2.2.2.1.2.1) (dc9 DX12_solve 52 rfl) (j_iload_n hK (dc9 DX12_solve 53 rfl) 2 rfl rfl (j_aload_n hK (dc9 DX12_solve 54 rfl) 0 rfl rfl (j_getR hK (hw.1) fl12_105 rfl (hw.2.2.2.2.2.2.2.2.2.2.2.2.2.2.2.2.2.2.2.2.2.2.2.2.2.2.2.2.2.1.1) (hw.2.2.2.2.2.2.2.2.2.2.2.2.2.2.2.2.2.2.2.2.2.2.2.2.2.2.2.2.2.1.2.1) (dc9 DX12_solve 55 rfl) (j_iload_n hK (dc9 DX12_solve 56 rfl) 2 rfl rfl (j_iald hK (hw.2.2.2.2.2.2.2.2.2.2.2.2.2.2.2.2.2.2.2.2.2.2.2.2.2.2.2.2.2.1.2) (Nat.le_of_ble_eq_true rfl) (dc9 DX12_solve 57 rfl) h fun h => (j_iast hK (hw.2.2.2.2.1.2) (Nat.le_of_ble_eq_true rfl) (dc9 DX12_solve 58 rfl) h fun d9 h => (j_iinc hK (dc9 DX12_solve 59 rfl) 2 rfl (Nat.le_of_ble_eq_true rfl) rfl (j_goto hK (dj9 DX12_solve 60 87 rfl rfl) (j_sub [1, 2, 0] rfl ((have z := lf9 h hk; z)))))))))))))))
def X12_solve_j154 (o : Nat) (d : DA) : Option (Int × DA) :=
  bd (X12_fail o 1 d) fun x11 d10 =>
  some ((x11, d10))
theorem X12_solve_wj154 {K : KT} (hK : Ok9 K cX12_solve RX12 3 (some .int) 745 18994) {o : Nat} (hw : W_12 (kσ K) o) {d : DA} {y : Int × DA} (h : X12_solve_j154 o d = some y) (hk : (FI K) y) : J K 3 d [(0, rf K o)] 154 [] :=
  j_aload_n hK (dc9 DX12_solve 83 rfl) 0 rfl rfl (j_iconst hK (dc9 DX12_solve 84 rfl) (bd9 h fun x11 d10 hc h => j_cV hK (c_X12_fail (hst9 hK) (hw) hc) cl12_271 cd_X12_fail im_X12_fail se_X12_fail (hw.1) (Nat.le_of_ble_eq_true rfl) rfl (Nat.le_of_ble_eq_true rfl) (Nat.le_of_ble_eq_true rfl) rfl (st := []) rfl (Nat.le_of_ble_eq_true rfl) (dc9 DX12_solve 85 rfl) rfl (j_iret hK (dc9 DX12_solve 86 rfl) (have z := lf9 h hk; z))))
def X12_solve_j112 (o : Nat) (v1 : Int) (d : DA) : Option (Int × DA) :=
  gd (inR v1 ∧ inR (-1)) <|
  if v1 = (-1) then (some ((d.1 o 59, d))) else
  gd (inR (d.1 o 59)) <|
  if (d.1 o 59) ≤ 0 then (X12_solve_j154 o d) else
  b1 (X12_isIn v1 0 ((d.1 o 58) - 1) d) fun x12 =>
  gd (inR x12) <|
  if x12 = 0 then (X12_solve_j154 o d) else
  gd (ix v1 729) <|
  some ((d.1 (o + 28) (Int.toNat v1), d))
theorem X12_solve_wj112 {K : KT} (hK : Ok9 K cX12_solve RX12 3 (some .int) 745 18994) {o : Nat} (hw : W_12 (kσ K) o) {v1 : Int} {d : DA} {y : Int × DA} (h : X12_solve_j112 o v1 d = some y) (hk : (FI K) y) : J K 3 d [(0, rf K o), (1, vi v1)] 112 [] :=
  j_iload_n hK (dc9 DX12_solve 61 rfl) 1 rfl rfl (j_iconst hK (dc9 DX12_solve 62 rfl) (j_icmp_ne hK (dj9 DX12_solve 63 124 rfl rfl) h (fun h => j_aload_n hK (dc9 DX12_solve 67 rfl) 0 rfl rfl (j_getI hK (hw.1) fl12_499 rfl (dc9 DX12_solve 68 rfl) (j_if_le hK (dj9 DX12_solve 69 154 rfl rfl) h (fun h => j_sub [0] rfl (X12_solve_wj154 hK hw h hk)) (fun h =>
  j_iload_n hK (dc9 DX12_solve 70 rfl) 1 rfl rfl (j_iconst hK (dc9 DX12_solve 71 rfl) (j_aload_n hK (dc9 DX12_solve 72 rfl) 0 rfl rfl (j_getI hK (hw.1) fl12_481 rfl (dc9 DX12_solve 73 rfl) (j_iconst hK (dc9 DX12_solve 74 rfl) (j_isub hK (dc9 DX12_solve 75 rfl) (b19 h fun x12 hc h => j_cS hK (c_X12_isIn (hst9 hK)  hc) cl12_168 cd_X12_isIn sm_X12_isIn (Nat.le_of_ble_eq_true rfl) (Nat.le_of_ble_eq_true rfl) rfl (st := []) rfl (Nat.le_of_ble_eq_true rfl) (dc9 DX12_solve 76 rfl) rfl (j_if_eq hK (dj9 DX12_solve 77 154 rfl rfl) h (fun h => j_sub [0] rfl (X12_solve_wj154 hK hw h hk)) (fun h =>
  j_aload_n hK (dc9 DX12_solve 78 rfl) 0 rfl rfl (j_getR hK (hw.1) fl12_102 rfl (hw.2.2.2.2.2.2.2.2.2.2.2.2.2.2.2.2.2.2.2.2.2.2.2.2.2.2.2.2.1.1) (hw.2.2.2.2.2.2.2.2.2.2.2.2.2.2.2.2.2.2.2.2.2.2.2.2.2.2.2.2.1.2.1) (dc9 DX12_solve 79 rfl) (j_iload_n hK (dc9 DX12_solve 80 rfl) 1 rfl rfl (j_iald hK (hw.2.2.2.2.2.2.2.2.2.2.2.2.2.2.2.2.2.2.2.2.2.2.2.2.2.2.2.2.1.2) (Nat.le_of_ble_eq_true rfl) (dc9 DX12_solve 81 rfl) h fun h => (j_goto hK (dj9 DX12_solve 82 159 rfl rfl) (j_iret hK (dc9 DX12_solve 86 rfl) (have z := lf9 h hk; z)))))))))))))))))) (fun h =>
  j_aload_n hK (dc9 DX12_solve 64 rfl) 0 rfl rfl (j_getI hK (hw.1) fl12_499 rfl (dc9 DX12_solve 65 rfl) (j_goto hK (dj9 DX12_solve 66 159 rfl rfl) (j_iret hK (dc9 DX12_solve 86 rfl) (have z := lf9 h hk; z)))))))
def X12_solve_j71 (o : Nat) (v1 : Int) (d : DA) : Option (Int × DA) :=
  bd (X12_tellUnknowns o d) fun _ d6 =>
  lt9 (wI d6 o 59 0) fun d7 =>
  bd (X12_solveOn o 12 0 d7) fun _ d8 =>
  lpE (fun q => X12_solve_b87 o v1 q.1 q.2) (0, d8) (fun e => X12_solve_j112 o v1 e)
theorem X12_solve_wj71 {K : KT} (hK : Ok9 K cX12_solve RX12 3 (some .int) 745 18994) {o : Nat} (hw : W_12 (kσ K) o) {v1 : Int} {d : DA} {y : Int × DA} (h : X12_solve_j71 o v1 d = some y) (hk : (FI K) y) : J K 3 d [(0, rf K o), (1, vi v1)] 71 [] :=
  j_aload_n hK (dc9 DX12_solve 38 rfl) 0 rfl rfl (bd9 h fun _ d6 hc h => j_cV hK (c_X12_tellUnknowns (hst9 hK) (hw) hc) cl12_502 cd_X12_tellUnknowns im_X12_tellUnknowns se_X12_tellUnknowns (hw.1) (Nat.le_of_ble_eq_true rfl) rfl (Nat.le_of_ble_eq_true rfl) (Nat.le_of_ble_eq_true rfl) rfl (st := []) rfl (Nat.le_of_ble_eq_true rfl) (dc9 DX12_solve 39 rfl) rfl (j_aload_n hK (dc9 DX12_solve 40 rfl) 0 rfl rfl (j_iconst hK (dc9 DX12_solve 41 rfl) (j_putI hK (hw.1) fl12_499 fp12_499 rfl (dc9 DX12_solve 42 rfl) h fun d7 h => (j_aload_n hK (dc9 DX12_solve 43 rfl) 0 rfl rfl (j_iconst hK (dc9 DX12_solve 44 rfl) (bd9 h fun _ d8 hc h => j_cV hK (c_X12_solveOn 12 (hst9 hK) (hw) hc) cl12_493 cd_X12_solveOn im_X12_solveOn se_X12_solveOn (hw.1) (Nat.le_of_ble_eq_true rfl) rfl (Nat.le_of_ble_eq_true rfl) (Nat.le_of_ble_eq_true rfl) rfl (st := []) rfl (Nat.le_of_ble_eq_true rfl) (dc9 DX12_solve 45 rfl) rfl (j_iconst hK (dc9 DX12_solve 46 rfl) (j_istore_n hK (dc9 DX12_solve 47 rfl) rfl (Nat.le_of_ble_eq_true rfl) rfl (j_sub [1, 2, 0] rfl ((have z := j_lpE (X12_solve_T87 K o v1) (X12_solve_F87 K o v1) h (fun q y h hk => X12_solve_wb87 hK hw h hk) (fun e h => X12_solve_wj112 hK hw h hk); z))))))))))))
def X12_solve (o : Nat) (v1 : Int) (d : DA) : Option (Int × DA) :=
  lt9 (wI d o 0 0) fun d1 =>
  gd (inR (d1.1 o 1) ∧ inR 2) <|
  if 2 < (d1.1 o 1) then (X12_solve_j29 o v1 d1) else
  b1 (X12_isFree o d1) fun x4 =>
  gd (inR x4) <|
  if x4 = 0 then (X12_solve_j29 o v1 d1) else
  gd (inR (d1.1 o 4) ∧ inR 13) <|
  if (d1.1 o 4) ≤ 13 then (lpE (fun q => X12_solve_b46 o v1 q.1 q.2) (0, d1) (fun e => X12_solve_j71 o v1 e)) else
  X12_solve_j29 o v1 d1
theorem X12_solve_w {K : KT} (hK : Ok9 K cX12_solve RX12 3 (some .int) 745 18994) {o : Nat} (hw : W_12 (kσ K) o) {v1 : Int} {d : DA} {y : Int × DA} (h : X12_solve o v1 d = some y) (hk : (FI K) y) : J K 3 d [(0, rf K o), (1, vi v1)] 0 [] :=
  j_aload_n hK (dc9 DX12_solve 0 rfl) 0 rfl rfl (j_iconst hK (dc9 DX12_solve 1 rfl) (j_putI hK (hw.1) fl12_165 fp12_165 rfl (dc9 DX12_solve 2 rfl) h fun d1 h => (j_aload_n hK (dc9 DX12_solve 3 rfl) 0 rfl rfl (j_getI hK (hw.1) fl12_7 rfl (dc9 DX12_solve 4 rfl) (j_iconst hK (dc9 DX12_solve 5 rfl) (j_icmp_gt hK (dj9 DX12_solve 6 29 rfl rfl) h (fun h => X12_solve_wj29 hK hw h hk) (fun h =>
  j_aload_n hK (dc9 DX12_solve 7 rfl) 0 rfl rfl (b19 h fun x4 hc h => j_cV hK (c_X12_isFree (hst9 hK) (hw) hc) cl12_303 cd_X12_isFree im_X12_isFree se_X12_isFree (hw.1) (Nat.le_of_ble_eq_true rfl) rfl (Nat.le_of_ble_eq_true rfl) (Nat.le_of_ble_eq_true rfl) rfl (st := []) rfl (Nat.le_of_ble_eq_true rfl) (dc9 DX12_solve 8 rfl) rfl (j_if_eq hK (dj9 DX12_solve 9 29 rfl rfl) h (fun h => X12_solve_wj29 hK hw h hk) (fun h =>
  j_aload_n hK (dc9 DX12_solve 10 rfl) 0 rfl rfl (j_getI hK (hw.1) fl12_13 rfl (dc9 DX12_solve 11 rfl) (j_bipush hK (dc9 DX12_solve 12 rfl) (by decide) (j_icmp_le hK (dj9 DX12_solve 13 44 rfl rfl) h (fun h => j_iconst hK (dc9 DX12_solve 23 rfl) (j_istore_n hK (dc9 DX12_solve 24 rfl) rfl (Nat.le_of_ble_eq_true rfl) rfl (j_sub [1, 2, 0] rfl ((have z := j_lpE (X12_solve_T46 K o v1) (X12_solve_F46 K o v1) h (fun q y h hk => X12_solve_wb46 hK hw h hk) (fun e h => X12_solve_wj71 hK hw h hk); z))))) (fun h =>
  X12_solve_wj29 hK hw h hk))))))))))))))
theorem c_X12_solve {G : GT} {l : Launch} {ad : Nat → Nat} {σ : HS} {d d' : DA} (hst : l.stackTraces = false) {o : Nat} (hw : W_12 σ o) {v1 : Int} {r : Int} (h : X12_solve o v1 d = some (r, d')) : Ct G l yX12_solve cX12_solve 3 (some .int) 745 18994 ad (wD σ d) [.ref (ad o), vi v1] (some (vi r)) (wD σ d') :=
  ct_of hst rfl (Nat.le_of_ble_eq_true rfl) (fun K e0 e9 e1 e2 e3 hK => by subst e0; subst e9; subst e1; subst e2; exact X12_solve_w hK hw h e3)

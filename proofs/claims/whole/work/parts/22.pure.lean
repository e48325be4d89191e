/-! X12_stepOn -/
theorem DX12_stepOn : Dt cX12_stepOn [(0, .aload_n 0, 1, 1), (1, .aload_n 0, 1, 2), (2, .getfield 191, 3, 5), (5, .invokevirtual 194, 3, 8), (8, .bipush 32, 2, 10), (10, .if_icmp .eq 16, 3, 13), (13, .aload_n 0, 1, 14), (14, .aload_n 0, 1, 15), (15, .getfield 191, 3, 18), (18, .invokevirtual 194, 3, 21), (21, .bipush 10, 2, 23), (23, .if_icmp .ne 16, 3, 26), (26, .aload_n 0, 1, 27), (27, .dup, 1, 28), (28, .getfield 191, 3, 31), (31, .iconst 1, 1, 32), (32, .iadd, 1, 33), (33, .putfield 191, 3, 36), (36, .goto (-36), 3, 39), (39, .aload_n 0, 1, 40), (40, .aload_n 0, 1, 41), (41, .getfield 191, 3, 44), (44, .putfield 198, 3, 47), (47, .aload_n 0, 1, 48), (48, .aload_n 0, 1, 49), (49, .getfield 191, 3, 52), (52, .invokevirtual 194, 3, 55), (55, .istore_n 1, 1, 56), (56, .iload_n 1, 1, 57), (57, .iconst (-1), 1, 58), (58, .if_icmp .ne 11, 3, 61), (61, .aload_n 0, 1, 62), (62, .iconst 0, 1, 63), (63, .putfield 201, 3, 66), (66, .goto 158, 3, 69), (69, .iload_n 1, 1, 70), (70, .invokestatic 204, 3, 73), (73, .ifCond .eq 38, 3, 76), (76, .aload_n 0, 1, 77), (77, .aload_n 0, 1, 78), (78, .getfield 191, 3, 81), (81, .invokevirtual 194, 3, 84), (84, .invokestatic 204, 3, 87), (87, .ifCond .eq 16, 3, 90), (90, .aload_n 0, 1, 91), (91, .dup, 1, 92), (92, .getfield 191, 3, 95), (95, .iconst 1, 1, 96), (96, .iadd, 1, 97), (97, .putfield 191, 3, 100), (100, .goto (-24), 3, 103), (103, .aload_n 0, 1, 104), (104, .iconst 1, 1, 105), (105, .putfield 201, 3, 108), (108, .goto 116, 3, 111), (111, .iload_n 1, 1, 112), (112, .invokestatic 208, 3, 115), (115, .ifCond .eq 72, 3, 118), (118, .aload_n 0, 1, 119), (119, .iconst 0, 1, 120), (120, .putfield 211, 3, 123), (123, .aload_n 0, 1, 124), (124, .aload_n 0, 1, 125), (125, .getfield 191, 3, 128), (128, .invokevirtual 194, 3, 131), (131, .invokestatic 208, 3, 134), (134, .ifCond .eq 45, 3, 137), (137, .aload_n 0, 1, 138), (138, .sipush 10000, 3, 141), (141, .bipush 10, 2, 143), (143, .aload_n 0, 1, 144), (144, .getfield 211, 3, 147), (147, .imul, 1, 148), (148, .aload_n 0, 1, 149), (149, .aload_n 0, 1, 150), (150, .getfield 191, 3, 153), (153, .invokevirtual 194, 3, 156), (156, .iadd, 1, 157), (157, .bipush 48, 2, 159), (159, .isub, 1, 160), (160, .invokestatic 214, 3, 163), (163, .putfield 211, 3, 166), (166, .aload_n 0, 1, 167), (167, .dup, 1, 168), (168, .getfield 191, 3, 171), (171, .iconst 1, 1, 172), (172, .iadd, 1, 173), (173, .putfield 191, 3, 176), (176, .goto (-53), 3, 179), (179, .aload_n 0, 1, 180), (180, .iconst 2, 1, 181), (181, .putfield 201, 3, 184), (184, .goto 40, 3, 187), (187, .aload_n 0, 1, 188), (188, .dup, 1, 189), (189, .getfield 191, 3, 192), (192, .iconst 1, 1, 193), (193, .iadd, 1, 194), (194, .putfield 191, 3, 197), (197, .aload_n 0, 1, 198), (198, .iload_n 1, 1, 199), (199, .bipush 61, 2, 201), (201, .if_icmp .eq 15, 3, 204), (204, .iload_n 1, 1, 205), (205, .bipush 43, 2, 207), (207, .if_icmp .eq 9, 3, 210), (210, .iload_n 1, 1, 211), (211, .bipush 59, 2, 213), (213, .if_icmp .ne 7, 3, 216), (216, .iconst 3, 1, 217), (217, .goto 4, 3, 220), (220, .iconst 4, 1, 221), (221, .putfield 201, 3, 224), (224, .aload_n 0, 1, 225), (225, .aload_n 0, 1, 226), (226, .getfield 191, 3, 229), (229, .putfield 220, 3, 232), (232, .return_, 1, 233)] := by unfold Dt; decide +kernel
def X12_stepOn_T0 (K : KT) (o : Nat) (q : DA) : Prop := J K 2 q [(0, rf K o)] 0 []
def X12_stepOn_F0 (K : KT) (o : Nat) (q : DA) : Prop := J K 2 q [(0, rf K o)] 39 []
def X12_stepOn_j26_0 (o : Nat) (d : DA) : Option ((DA) ⊕ (DA)) :=
  lt9 (wI d o 22 ((d.1 o 22) + 1)) fun d4 =>
  some (.inl d4)
theorem X12_stepOn_wj26_0 {K : KT} (hK : Ok9 K cX12_stepOn RX12 2 none 6 200) {o : Nat} (hw : W_12 (kσ K) o) {d : DA} {y : (DA) ⊕ (DA)} (h : X12_stepOn_j26_0 o d = some y) (hk : S2 (X12_stepOn_T0 K o) (X12_stepOn_F0 K o) y) : J K 2 d [(0, rf K o)] 26 [] :=
  j_aload_n hK (dc9 DX12_stepOn 12 rfl) 0 rfl rfl (j_dup hK (dc9 DX12_stepOn 13 rfl) rfl (j_getI hK (hw.1) fl12_191 rfl (dc9 DX12_stepOn 14 rfl) (j_iconst hK (dc9 DX12_stepOn 15 rfl) (j_iadd hK (dc9 DX12_stepOn 16 rfl) (j_putI hK (hw.1) fl12_191 fp12_191 rfl (dc9 DX12_stepOn 17 rfl) h fun d4 h => (j_goto hK (dj9 DX12_stepOn 18 0 rfl rfl) ((have z := lf9 h hk; z))))))))
def X12_stepOn_b0 (o : Nat) (d : DA) : Option ((DA) ⊕ (DA)) :=
  b1 (X12_byteAt o (d.1 o 22) d) fun x3 =>
  gd (inR x3 ∧ inR 32) <|
  if x3 = 32 then (X12_stepOn_j26_0 o d) else
  b1 (X12_byteAt o (d.1 o 22) d) fun x5 =>
  gd (inR x5 ∧ inR 10) <|
  if x5 = 10 then (X12_stepOn_j26_0 o d) else
  some (.inr d)
theorem X12_stepOn_wb0 {K : KT} (hK : Ok9 K cX12_stepOn RX12 2 none 6 200) {o : Nat} (hw : W_12 (kσ K) o) {d : DA} {y : (DA) ⊕ (DA)} (h : X12_stepOn_b0 o d = some y) (hk : S2 (X12_stepOn_T0 K o) (X12_stepOn_F0 K o) y) : J K 2 d [(0, rf K o)] 0 [] :=
  j_aload_n hK (dc9 DX12_stepOn 0 rfl) 0 rfl rfl (j_aload_n hK (dc9 DX12_stepOn 1 rfl) 0 rfl rfl (j_getI hK (hw.1) fl12_191 rfl (dc9 DX12_stepOn 2 rfl) (b19 h fun x3 hc h => j_cV hK (c_X12_byteAt (hst9 hK) (hw) hc) cl12_194 cd_X12_byteAt im_X12_byteAt se_X12_byteAt (hw.1) (Nat.le_of_ble_eq_true rfl) rfl (Nat.le_of_ble_eq_true rfl) (Nat.le_of_ble_eq_true rfl) rfl (st := []) rfl (Nat.le_of_ble_eq_true rfl) (dc9 DX12_stepOn 3 rfl) rfl (j_bipush hK (dc9 DX12_stepOn 4 rfl) (by decide) (j_icmp_eq hK (dj9 DX12_stepOn 5 26 rfl rfl) h (fun h => X12_stepOn_wj26_0 hK hw h hk) (fun h =>
  j_aload_n hK (dc9 DX12_stepOn 6 rfl) 0 rfl rfl (j_aload_n hK (dc9 DX12_stepOn 7 rfl) 0 rfl rfl (j_getI hK (hw.1) fl12_191 rfl (dc9 DX12_stepOn 8 rfl) (b19 h fun x5 hc h => j_cV hK (c_X12_byteAt (hst9 hK) (hw) hc) cl12_194 cd_X12_byteAt im_X12_byteAt se_X12_byteAt (hw.1) (Nat.le_of_ble_eq_true rfl) rfl (Nat.le_of_ble_eq_true rfl) (Nat.le_of_ble_eq_true rfl) rfl (st := []) rfl (Nat.le_of_ble_eq_true rfl) (dc9 DX12_stepOn 9 rfl) rfl (j_bipush hK (dc9 DX12_stepOn 10 rfl) (by decide) (j_icmp_ne hK (dj9 DX12_stepOn 11 39 rfl rfl) h (fun h => (have z := lf9 h hk; z)) (fun h =>
  X12_stepOn_wj26_0 hK hw h hk))))))))))))
def X12_stepOn_j221 (o : Nat) (s1 : Int) (d : DA) : Option (Unit × DA) :=
  lt9 (wI d o 24 s1) fun d11 =>
  lt9 (wI d11 o 27 (d11.1 o 22)) fun d12 =>
  some (((), d12))
theorem X12_stepOn_wj221 {K : KT} (hK : Ok9 K cX12_stepOn RX12 2 none 6 200) {o : Nat} (hw : W_12 (kσ K) o) {s1 : Int} {d : DA} {y : Unit × DA} (h : X12_stepOn_j221 o s1 d = some y) (hk : (FV K) y) : J K 2 d [(0, rf K o)] 221 [vi s1, rf K o] :=
  j_putI hK (hw.1) fl12_201 fp12_201 rfl (dc9 DX12_stepOn 112 rfl) h fun d11 h => (j_aload_n hK (dc9 DX12_stepOn 113 rfl) 0 rfl rfl (j_aload_n hK (dc9 DX12_stepOn 114 rfl) 0 rfl rfl (j_getI hK (hw.1) fl12_191 rfl (dc9 DX12_stepOn 115 rfl) (j_putI hK (hw.1) fl12_220 fp12_220 rfl (dc9 DX12_stepOn 116 rfl) h fun d12 h => (j_vret hK (dc9 DX12_stepOn 117 rfl) (have z := lf9 h hk; z))))))
def X12_stepOn_j216 (o : Nat) (d : DA) : Option (Unit × DA) :=
  X12_stepOn_j221 o 3 d
theorem X12_stepOn_wj216 {K : KT} (hK : Ok9 K cX12_stepOn RX12 2 none 6 200) {o : Nat} (hw : W_12 (kσ K) o) {d : DA} {y : Unit × DA} (h : X12_stepOn_j216 o d = some y) (hk : (FV K) y) : J K 2 d [(0, rf K o)] 216 [rf K o] :=
  j_iconst hK (dc9 DX12_stepOn 109 rfl) (j_goto hK (dj9 DX12_stepOn 110 221 rfl rfl) (X12_stepOn_wj221 hK hw h hk))
def X12_stepOn_T123 (K : KT) (o : Nat) (q : DA) : Prop := J K 2 q [(0, rf K o)] 123 []
def X12_stepOn_F123 (K : KT) (o : Nat) (q : DA) : Prop := J K 2 q [(0, rf K o)] 179 []
def X12_stepOn_b123 (o : Nat) (d : DA) : Option ((DA) ⊕ (DA)) :=
  b1 (X12_byteAt o (d.1 o 22) d) fun x14 =>
  b1 (X12_isDigit x14 d) fun x15 =>
  gd (inR x15) <|
  if x15 = 0 then (some (.inr d)) else
  b1 (X12_byteAt o (d.1 o 22) d) fun x16 =>
  gd (inR 10000 ∧ inR (((10 * (d.1 o 25)) + x16) - 48)) <|
  lt9 (wI d o 25 (mmin 10000 (((10 * (d.1 o 25)) + x16) - 48))) fun d17 =>
  lt9 (wI d17 o 22 ((d17.1 o 22) + 1)) fun d18 =>
  some (.inl d18)
theorem X12_stepOn_wb123 {K : KT} (hK : Ok9 K cX12_stepOn RX12 2 none 6 200) {o : Nat} (hw : W_12 (kσ K) o) {d : DA} {y : (DA) ⊕ (DA)} (h : X12_stepOn_b123 o d = some y) (hk : S2 (X12_stepOn_T123 K o) (X12_stepOn_F123 K o) y) : J K 2 d [(0, rf K o)] 123 [] :=
  j_aload_n hK (dc9 DX12_stepOn 61 rfl) 0 rfl rfl (j_aload_n hK (dc9 DX12_stepOn 62 rfl) 0 rfl rfl (j_getI hK (hw.1) fl12_191 rfl (dc9 DX12_stepOn 63 rfl) (b19 h fun x14 hc h => j_cV hK (c_X12_byteAt (hst9 hK) (hw) hc) cl12_194 cd_X12_byteAt im_X12_byteAt se_X12_byteAt (hw.1) (Nat.le_of_ble_eq_true rfl) rfl (Nat.le_of_ble_eq_true rfl) (Nat.le_of_ble_eq_true rfl) rfl (st := []) rfl (Nat.le_of_ble_eq_true rfl) (dc9 DX12_stepOn 64 rfl) rfl (b19 h fun x15 hc h => j_cS hK (c_X12_isDigit (hst9 hK)  hc) cl12_208 cd_X12_isDigit sm_X12_isDigit (Nat.le_of_ble_eq_true rfl) (Nat.le_of_ble_eq_true rfl) rfl (st := []) rfl (Nat.le_of_ble_eq_true rfl) (dc9 DX12_stepOn 65 rfl) rfl (j_if_eq hK (dj9 DX12_stepOn 66 179 rfl rfl) h (fun h => (have z := lf9 h hk; z)) (fun h =>
  j_aload_n hK (dc9 DX12_stepOn 67 rfl) 0 rfl rfl (j_sipush hK (dc9 DX12_stepOn 68 rfl) (by decide) (j_bipush hK (dc9 DX12_stepOn 69 rfl) (by decide) (j_aload_n hK (dc9 DX12_stepOn 70 rfl) 0 rfl rfl (j_getI hK (hw.1) fl12_211 rfl (dc9 DX12_stepOn 71 rfl) (j_imul hK (dc9 DX12_stepOn 72 rfl) (j_aload_n hK (dc9 DX12_stepOn 73 rfl) 0 rfl rfl (j_aload_n hK (dc9 DX12_stepOn 74 rfl) 0 rfl rfl (j_getI hK (hw.1) fl12_191 rfl (dc9 DX12_stepOn 75 rfl) (b19 h fun x16 hc h => j_cV hK (c_X12_byteAt (hst9 hK) (hw) hc) cl12_194 cd_X12_byteAt im_X12_byteAt se_X12_byteAt (hw.1) (Nat.le_of_ble_eq_true rfl) rfl (Nat.le_of_ble_eq_true rfl) (Nat.le_of_ble_eq_true rfl) rfl (st := [vi (10 * (d.1 o 25)), vi 10000, rf K o]) rfl (Nat.le_of_ble_eq_true rfl) (dc9 DX12_stepOn 76 rfl) rfl (j_iadd hK (dc9 DX12_stepOn 77 rfl) (j_bipush hK (dc9 DX12_stepOn 78 rfl) (by decide) (j_isub hK (dc9 DX12_stepOn 79 rfl) (j_mmin hK cl12_214 (Nat.le_of_ble_eq_true rfl) (Nat.le_of_ble_eq_true rfl) (dc9 DX12_stepOn 80 rfl) h fun h => (j_putI hK (hw.1) fl12_211 fp12_211 rfl (dc9 DX12_stepOn 81 rfl) h fun d17 h => (j_aload_n hK (dc9 DX12_stepOn 82 rfl) 0 rfl rfl (j_dup hK (dc9 DX12_stepOn 83 rfl) rfl (j_getI hK (hw.1) fl12_191 rfl (dc9 DX12_stepOn 84 rfl) (j_iconst hK (dc9 DX12_stepOn 85 rfl) (j_iadd hK (dc9 DX12_stepOn 86 rfl) (j_putI hK (hw.1) fl12_191 fp12_191 rfl (dc9 DX12_stepOn 87 rfl) h fun d18 h => (j_goto hK (dj9 DX12_stepOn 88 123 rfl rfl) ((have z := lf9 h hk; z)))))))))))))))))))))))))))))
def X12_stepOn_j179 (o : Nat) (d : DA) : Option (Unit × DA) :=
  lt9 (wI d o 24 2) fun d19 =>
  lt9 (wI d19 o 27 (d19.1 o 22)) fun d20 =>
  some (((), d20))
theorem X12_stepOn_wj179 {K : KT} (hK : Ok9 K cX12_stepOn RX12 2 none 6 200) {o : Nat} (hw : W_12 (kσ K) o) {d : DA} {y : Unit × DA} (h : X12_stepOn_j179 o d = some y) (hk : (FV K) y) : J K 2 d [(0, rf K o)] 179 [] :=
  j_aload_n hK (dc9 DX12_stepOn 89 rfl) 0 rfl rfl (j_iconst hK (dc9 DX12_stepOn 90 rfl) (j_putI hK (hw.1) fl12_201 fp12_201 rfl (dc9 DX12_stepOn 91 rfl) h fun d19 h => (j_goto hK (dj9 DX12_stepOn 92 224 rfl rfl) (j_aload_n hK (dc9 DX12_stepOn 113 rfl) 0 rfl rfl (j_aload_n hK (dc9 DX12_stepOn 114 rfl) 0 rfl rfl (j_getI hK (hw.1) fl12_191 rfl (dc9 DX12_stepOn 115 rfl) (j_putI hK (hw.1) fl12_220 fp12_220 rfl (dc9 DX12_stepOn 116 rfl) h fun d20 h => (j_vret hK (dc9 DX12_stepOn 117 rfl) (have z := lf9 h hk; z)))))))))
def X12_stepOn_T76 (K : KT) (o : Nat) (q : DA) : Prop := J K 2 q [(0, rf K o)] 76 []
def X12_stepOn_F76 (K : KT) (o : Nat) (q : DA) : Prop := J K 2 q [(0, rf K o)] 103 []
def X12_stepOn_b76 (o : Nat) (d : DA) : Option ((DA) ⊕ (DA)) :=
  b1 (X12_byteAt o (d.1 o 22) d) fun x21 =>
  b1 (X12_isLetter x21 d) fun x22 =>
  gd (inR x22) <|
  if x22 = 0 then (some (.inr d)) else
  lt9 (wI d o 22 ((d.1 o 22) + 1)) fun d23 =>
  some (.inl d23)
theorem X12_stepOn_wb76 {K : KT} (hK : Ok9 K cX12_stepOn RX12 2 none 6 200) {o : Nat} (hw : W_12 (kσ K) o) {d : DA} {y : (DA) ⊕ (DA)} (h : X12_stepOn_b76 o d = some y) (hk : S2 (X12_stepOn_T76 K o) (X12_stepOn_F76 K o) y) : J K 2 d [(0, rf K o)] 76 [] :=
  j_aload_n hK (dc9 DX12_stepOn 38 rfl) 0 rfl rfl (j_aload_n hK (dc9 DX12_stepOn 39 rfl) 0 rfl rfl (j_getI hK (hw.1) fl12_191 rfl (dc9 DX12_stepOn 40 rfl) (b19 h fun x21 hc h => j_cV hK (c_X12_byteAt (hst9 hK) (hw) hc) cl12_194 cd_X12_byteAt im_X12_byteAt se_X12_byteAt (hw.1) (Nat.le_of_ble_eq_true rfl) rfl (Nat.le_of_ble_eq_true rfl) (Nat.le_of_ble_eq_true rfl) rfl (st := []) rfl (Nat.le_of_ble_eq_true rfl) (dc9 DX12_stepOn 41 rfl) rfl (b19 h fun x22 hc h => j_cS hK (c_X12_isLetter (hst9 hK)  hc) cl12_204 cd_X12_isLetter sm_X12_isLetter (Nat.le_of_ble_eq_true rfl) (Nat.le_of_ble_eq_true rfl) rfl (st := []) rfl (Nat.le_of_ble_eq_true rfl) (dc9 DX12_stepOn 42 rfl) rfl (j_if_eq hK (dj9 DX12_stepOn 43 103 rfl rfl) h (fun h => (have z := lf9 h hk; z)) (fun h =>
  j_aload_n hK (dc9 DX12_stepOn 44 rfl) 0 rfl rfl (j_dup hK (dc9 DX12_stepOn 45 rfl) rfl (j_getI hK (hw.1) fl12_191 rfl (dc9 DX12_stepOn 46 rfl) (j_iconst hK (dc9 DX12_stepOn 47 rfl) (j_iadd hK (dc9 DX12_stepOn 48 rfl) (j_putI hK (hw.1) fl12_191 fp12_191 rfl (dc9 DX12_stepOn 49 rfl) h fun d23 h => (j_goto hK (dj9 DX12_stepOn 50 76 rfl rfl) ((have z := lf9 h hk; z))))))))))))))
def X12_stepOn_j103 (o : Nat) (d : DA) : Option (Unit × DA) :=
  lt9 (wI d o 24 1) fun d24 =>
  lt9 (wI d24 o 27 (d24.1 o 22)) fun d25 =>
  some (((), d25))
theorem X12_stepOn_wj103 {K : KT} (hK : Ok9 K cX12_stepOn RX12 2 none 6 200) {o : Nat} (hw : W_12 (kσ K) o) {d : DA} {y : Unit × DA} (h : X12_stepOn_j103 o d = some y) (hk : (FV K) y) : J K 2 d [(0, rf K o)] 103 [] :=
  j_aload_n hK (dc9 DX12_stepOn 51 rfl) 0 rfl rfl (j_iconst hK (dc9 DX12_stepOn 52 rfl) (j_putI hK (hw.1) fl12_201 fp12_201 rfl (dc9 DX12_stepOn 53 rfl) h fun d24 h => (j_goto hK (dj9 DX12_stepOn 54 224 rfl rfl) (j_aload_n hK (dc9 DX12_stepOn 113 rfl) 0 rfl rfl (j_aload_n hK (dc9 DX12_stepOn 114 rfl) 0 rfl rfl (j_getI hK (hw.1) fl12_191 rfl (dc9 DX12_stepOn 115 rfl) (j_putI hK (hw.1) fl12_220 fp12_220 rfl (dc9 DX12_stepOn 116 rfl) h fun d25 h => (j_vret hK (dc9 DX12_stepOn 117 rfl) (have z := lf9 h hk; z)))))))))
def X12_stepOn_j39 (o : Nat) (d : DA) : Option (Unit × DA) :=
  lt9 (wI d o 26 (d.1 o 22)) fun d6 =>
  b1 (X12_byteAt o (d6.1 o 22) d6) fun x7 =>
  gd (inR x7 ∧ inR (-1)) <|
  if x7 = (-1) then (lt9 (wI d6 o 24 0) fun d26 =>
  lt9 (wI d26 o 27 (d26.1 o 22)) fun d27 =>
  some (((), d27))) else
  b1 (X12_isLetter x7 d6) fun x8 =>
  gd (inR x8) <|
  if x8 = 0 then (b1 (X12_isDigit x7 d6) fun x9 =>
  gd (inR x9) <|
  if x9 = 0 then (lt9 (wI d6 o 22 ((d6.1 o 22) + 1)) fun d10 =>
  gd (inR x7 ∧ inR 61) <|
  if x7 = 61 then (X12_stepOn_j216 o d10) else
  gd (inR x7 ∧ inR 43) <|
  if x7 = 43 then (X12_stepOn_j216 o d10) else
  gd (inR x7 ∧ inR 59) <|
  if x7 = 59 then (X12_stepOn_j216 o d10) else
  X12_stepOn_j221 o 4 d10) else
  lt9 (wI d6 o 25 0) fun d13 =>
  lpE (fun q => X12_stepOn_b123 o q) d13 (fun e => X12_stepOn_j179 o e)) else
  lpE (fun q => X12_stepOn_b76 o q) d6 (fun e => X12_stepOn_j103 o e)
theorem X12_stepOn_wj39 {K : KT} (hK : Ok9 K cX12_stepOn RX12 2 none 6 200) {o : Nat} (hw : W_12 (kσ K) o) {d : DA} {y : Unit × DA} (h : X12_stepOn_j39 o d = some y) (hk : (FV K) y) : J K 2 d [(0, rf K o)] 39 [] :=
  j_aload_n hK (dc9 DX12_stepOn 19 rfl) 0 rfl rfl (j_aload_n hK (dc9 DX12_stepOn 20 rfl) 0 rfl rfl (j_getI hK (hw.1) fl12_191 rfl (dc9 DX12_stepOn 21 rfl) (j_putI hK (hw.1) fl12_198 fp12_198 rfl (dc9 DX12_stepOn 22 rfl) h fun d6 h => (j_aload_n hK (dc9 DX12_stepOn 23 rfl) 0 rfl rfl (j_aload_n hK (dc9 DX12_stepOn 24 rfl) 0 rfl rfl (j_getI hK (hw.1) fl12_191 rfl (dc9 DX12_stepOn 25 rfl) (b19 h fun x7 hc h => j_cV hK (c_X12_byteAt (hst9 hK) (hw) hc) cl12_194 cd_X12_byteAt im_X12_byteAt se_X12_byteAt (hw.1) (Nat.le_of_ble_eq_true rfl) rfl (Nat.le_of_ble_eq_true rfl) (Nat.le_of_ble_eq_true rfl) rfl (st := []) rfl (Nat.le_of_ble_eq_true rfl) (dc9 DX12_stepOn 26 rfl) rfl (j_istore_n hK (dc9 DX12_stepOn 27 rfl) rfl (Nat.le_of_ble_eq_true rfl) rfl (j_iload_n hK (dc9 DX12_stepOn 28 rfl) 0 rfl rfl (j_iconst hK (dc9 DX12_stepOn 29 rfl) (j_icmp_ne hK (dj9 DX12_stepOn 30 69 rfl rfl) h (fun h => j_iload_n hK (dc9 DX12_stepOn 35 rfl) 0 rfl rfl (b19 h fun x8 hc h => j_cS hK (c_X12_isLetter (hst9 hK)  hc) cl12_204 cd_X12_isLetter sm_X12_isLetter (Nat.le_of_ble_eq_true rfl) (Nat.le_of_ble_eq_true rfl) rfl (st := []) rfl (Nat.le_of_ble_eq_true rfl) (dc9 DX12_stepOn 36 rfl) rfl (j_if_eq hK (dj9 DX12_stepOn 37 111 rfl rfl) h (fun h => j_iload_n hK (dc9 DX12_stepOn 55 rfl) 0 rfl rfl (b19 h fun x9 hc h => j_cS hK (c_X12_isDigit (hst9 hK)  hc) cl12_208 cd_X12_isDigit sm_X12_isDigit (Nat.le_of_ble_eq_true rfl) (Nat.le_of_ble_eq_true rfl) rfl (st := []) rfl (Nat.le_of_ble_eq_true rfl) (dc9 DX12_stepOn 56 rfl) rfl (j_if_eq hK (dj9 DX12_stepOn 57 187 rfl rfl) h (fun h => j_aload_n hK (dc9 DX12_stepOn 93 rfl) 1 rfl rfl (j_dup hK (dc9 DX12_stepOn 94 rfl) rfl (j_getI hK (hw.1) fl12_191 rfl (dc9 DX12_stepOn 95 rfl) (j_iconst hK (dc9 DX12_stepOn 96 rfl) (j_iadd hK (dc9 DX12_stepOn 97 rfl) (j_putI hK (hw.1) fl12_191 fp12_191 rfl (dc9 DX12_stepOn 98 rfl) h fun d10 h => (j_aload_n hK (dc9 DX12_stepOn 99 rfl) 1 rfl rfl (j_iload_n hK (dc9 DX12_stepOn 100 rfl) 0 rfl rfl (j_bipush hK (dc9 DX12_stepOn 101 rfl) (by decide) (j_icmp_eq hK (dj9 DX12_stepOn 102 216 rfl rfl) h (fun h => j_sub [1] rfl (X12_stepOn_wj216 hK hw h hk)) (fun h =>
  j_iload_n hK (dc9 DX12_stepOn 103 rfl) 0 rfl rfl (j_bipush hK (dc9 DX12_stepOn 104 rfl) (by decide) (j_icmp_eq hK (dj9 DX12_stepOn 105 216 rfl rfl) h (fun h => j_sub [1] rfl (X12_stepOn_wj216 hK hw h hk)) (fun h =>
  j_iload_n hK (dc9 DX12_stepOn 106 rfl) 0 rfl rfl (j_bipush hK (dc9 DX12_stepOn 107 rfl) (by decide) (j_icmp_ne hK (dj9 DX12_stepOn 108 220 rfl rfl) h (fun h => j_iconst hK (dc9 DX12_stepOn 111 rfl) (j_sub [1] rfl (X12_stepOn_wj221 hK hw h hk))) (fun h =>
  j_sub [1] rfl (X12_stepOn_wj216 hK hw h hk)))))))))))))))))) (fun h =>
  j_aload_n hK (dc9 DX12_stepOn 58 rfl) 1 rfl rfl (j_iconst hK (dc9 DX12_stepOn 59 rfl) (j_putI hK (hw.1) fl12_211 fp12_211 rfl (dc9 DX12_stepOn 60 rfl) h fun d13 h => (j_sub [1] rfl ((have z := j_lpE (X12_stepOn_T123 K o) (X12_stepOn_F123 K o) h (fun q y h hk => X12_stepOn_wb123 hK hw h hk) (fun e h => X12_stepOn_wj179 hK hw h hk); z))))))))) (fun h =>
  j_sub [1] rfl ((have z := j_lpE (X12_stepOn_T76 K o) (X12_stepOn_F76 K o) h (fun q y h hk => X12_stepOn_wb76 hK hw h hk) (fun e h => X12_stepOn_wj103 hK hw h hk); z)))))) (fun h =>
  j_aload_n hK (dc9 DX12_stepOn 31 rfl) 1 rfl rfl (j_iconst hK (dc9 DX12_stepOn 32 rfl) (j_putI hK (hw.1) fl12_201 fp12_201 rfl (dc9 DX12_stepOn 33 rfl) h fun d26 h => (j_goto hK (dj9 DX12_stepOn 34 224 rfl rfl) (j_aload_n hK (dc9 DX12_stepOn 113 rfl) 1 rfl rfl (j_aload_n hK (dc9 DX12_stepOn 114 rfl) 1 rfl rfl (j_getI hK (hw.1) fl12_191 rfl (dc9 DX12_stepOn 115 rfl) (j_putI hK (hw.1) fl12_220 fp12_220 rfl (dc9 DX12_stepOn 116 rfl) h fun d27 h => (j_vret hK (dc9 DX12_stepOn 117 rfl) (have z := lf9 h hk; z)))))))))))))))))))))
def X12_stepOn_j26 (o : Nat) (d : DA) : Option (Unit × DA) :=
  lt9 (wI d o 22 ((d.1 o 22) + 1)) fun d2 =>
  lpE (fun q => X12_stepOn_b0 o q) d2 (fun e => X12_stepOn_j39 o e)
theorem X12_stepOn_wj26 {K : KT} (hK : Ok9 K cX12_stepOn RX12 2 none 6 200) {o : Nat} (hw : W_12 (kσ K) o) {d : DA} {y : Unit × DA} (h : X12_stepOn_j26 o d = some y) (hk : (FV K) y) : J K 2 d [(0, rf K o)] 26 [] :=
  j_aload_n hK (dc9 DX12_stepOn 12 rfl) 0 rfl rfl (j_dup hK (dc9 DX12_stepOn 13 rfl) rfl (j_getI hK (hw.1) fl12_191 rfl (dc9 DX12_stepOn 14 rfl) (j_iconst hK (dc9 DX12_stepOn 15 rfl) (j_iadd hK (dc9 DX12_stepOn 16 rfl) (j_putI hK (hw.1) fl12_191 fp12_191 rfl (dc9 DX12_stepOn 17 rfl) h fun d2 h => (j_goto hK (dj9 DX12_stepOn 18 0 rfl rfl) ((have z := j_lpE (X12_stepOn_T0 K o) (X12_stepOn_F0 K o) h (fun q y h hk => X12_stepOn_wb0 hK hw h hk) (fun e h => X12_stepOn_wj39 hK hw h hk); z))))))))
def X12_stepOn (o : Nat) (d : DA) : Option (Unit × DA) :=
  b1 (X12_byteAt o (d.1 o 22) d) fun x1 =>
  gd (inR x1 ∧ inR 32) <|
  if x1 = 32 then (X12_stepOn_j26 o d) else
  b1 (X12_byteAt o (d.1 o 22) d) fun x28 =>
  gd (inR x28 ∧ inR 10) <|
  if x28 = 10 then (X12_stepOn_j26 o d) else
  lt9 (wI d o 26 (d.1 o 22)) fun d29 =>
  b1 (X12_byteAt o (d29.1 o 22) d29) fun x30 =>
  gd (inR x30 ∧ inR (-1)) <|
  if x30 = (-1) then (lt9 (wI d29 o 24 0) fun d35 =>
  lt9 (wI d35 o 27 (d35.1 o 22)) fun d36 =>
  some (((), d36))) else
  b1 (X12_isLetter x30 d29) fun x31 =>
  gd (inR x31) <|
  if x31 = 0 then (b1 (X12_isDigit x30 d29) fun x32 =>
  gd (inR x32) <|
  if x32 = 0 then (lt9 (wI d29 o 22 ((d29.1 o 22) + 1)) fun d33 =>
  gd (inR x30 ∧ inR 61) <|
  if x30 = 61 then (X12_stepOn_j216 o d33) else
  gd (inR x30 ∧ inR 43) <|
  if x30 = 43 then (X12_stepOn_j216 o d33) else
  gd (inR x30 ∧ inR 59) <|
  if x30 = 59 then (X12_stepOn_j216 o d33) else
  X12_stepOn_j221 o 4 d33) else
  lt9 (wI d29 o 25 0) fun d34 =>
  lpE (fun q => X12_stepOn_b123 o q) d34 (fun e => X12_stepOn_j179 o e)) else
  lpE (fun q => X12_stepOn_b76 o q) d29 (fun e => X12_stepOn_j103 o e)
theorem X12_stepOn_w {K : KT} (hK : Ok9 K cX12_stepOn RX12 2 none 6 200) {o : Nat} (hw : W_12 (kσ K) o) {d : DA} {y : Unit × DA} (h : X12_stepOn o d = some y) (hk : (FV K) y) : J K 2 d [(0, rf K o)] 0 [] :=
  j_aload_n hK (dc9 DX12_stepOn 0 rfl) 0 rfl rfl (j_aload_n hK (dc9 DX12_stepOn 1 rfl) 0 rfl rfl (j_getI hK (hw.1) fl12_191 rfl (dc9 DX12_stepOn 2 rfl) (b19 h fun x1 hc h => j_cV hK (c_X12_byteAt (hst9 hK) (hw) hc) cl12_194 cd_X12_byteAt im_X12_byteAt se_X12_byteAt (hw.1) (Nat.le_of_ble_eq_true rfl) rfl (Nat.le_of_ble_eq_true rfl) (Nat.le_of_ble_eq_true rfl) rfl (st := []) rfl (Nat.le_of_ble_eq_true rfl) (dc9 DX12_stepOn 3 rfl) rfl (j_bipush hK (dc9 DX12_stepOn 4 rfl) (by decide) (j_icmp_eq hK (dj9 DX12_stepOn 5 26 rfl rfl) h (fun h => X12_stepOn_wj26 hK hw h hk) (fun h =>
  j_aload_n hK (dc9 DX12_stepOn 6 rfl) 0 rfl rfl (j_aload_n hK (dc9 DX12_stepOn 7 rfl) 0 rfl rfl (j_getI hK (hw.1) fl12_191 rfl (dc9 DX12_stepOn 8 rfl) (b19 h fun x28 hc h => j_cV hK (c_X12_byteAt (hst9 hK) (hw) hc) cl12_194 cd_X12_byteAt im_X12_byteAt se_X12_byteAt (hw.1) (Nat.le_of_ble_eq_true rfl) rfl (Nat.le_of_ble_eq_true rfl) (Nat.le_of_ble_eq_true rfl) rfl (st := []) rfl (Nat.le_of_ble_eq_true rfl) (dc9 DX12_stepOn 9 rfl) rfl (j_bipush hK (dc9 DX12_stepOn 10 rfl) (by decide) (j_icmp_ne hK (dj9 DX12_stepOn 11 39 rfl rfl) h (fun h => j_aload_n hK (dc9 DX12_stepOn 19 rfl) 0 rfl rfl (j_aload_n hK (dc9 DX12_stepOn 20 rfl) 0 rfl rfl (j_getI hK (hw.1) fl12_191 rfl (dc9 DX12_stepOn 21 rfl) (j_putI hK (hw.1) fl12_198 fp12_198 rfl (dc9 DX12_stepOn 22 rfl) h fun d29 h => (j_aload_n hK (dc9 DX12_stepOn 23 rfl) 0 rfl rfl (j_aload_n hK (dc9 DX12_stepOn 24 rfl) 0 rfl rfl (j_getI hK (hw.1) fl12_191 rfl (dc9 DX12_stepOn 25 rfl) (b19 h fun x30 hc h => j_cV hK (c_X12_byteAt (hst9 hK) (hw) hc) cl12_194 cd_X12_byteAt im_X12_byteAt se_X12_byteAt (hw.1) (Nat.le_of_ble_eq_true rfl) rfl (Nat.le_of_ble_eq_true rfl) (Nat.le_of_ble_eq_true rfl) rfl (st := []) rfl (Nat.le_of_ble_eq_true rfl) (dc9 DX12_stepOn 26 rfl) rfl (j_istore_n hK (dc9 DX12_stepOn 27 rfl) rfl (Nat.le_of_ble_eq_true rfl) rfl (j_iload_n hK (dc9 DX12_stepOn 28 rfl) 0 rfl rfl (j_iconst hK (dc9 DX12_stepOn 29 rfl) (j_icmp_ne hK (dj9 DX12_stepOn 30 69 rfl rfl) h (fun h => j_iload_n hK (dc9 DX12_stepOn 35 rfl) 0 rfl rfl (b19 h fun x31 hc h => j_cS hK (c_X12_isLetter (hst9 hK)  hc) cl12_204 cd_X12_isLetter sm_X12_isLetter (Nat.le_of_ble_eq_true rfl) (Nat.le_of_ble_eq_true rfl) rfl (st := []) rfl (Nat.le_of_ble_eq_true rfl) (dc9 DX12_stepOn 36 rfl) rfl (j_if_eq hK (dj9 DX12_stepOn 37 111 rfl rfl) h (fun h => j_iload_n hK (dc9 DX12_stepOn 55 rfl) 0 rfl rfl (b19 h fun x32 hc h => j_cS hK (c_X12_isDigit (hst9 hK)  hc) cl12_208 cd_X12_isDigit sm_X12_isDigit (Nat.le_of_ble_eq_true rfl) (Nat.le_of_ble_eq_true rfl) rfl (st := []) rfl (Nat.le_of_ble_eq_true rfl) (dc9 DX12_stepOn 56 rfl) rfl (j_if_eq hK (dj9 DX12_stepOn 57 187 rfl rfl) h (fun h => j_aload_n hK (dc9 DX12_stepOn 93 rfl) 1 rfl rfl (j_dup hK (dc9 DX12_stepOn 94 rfl) rfl (j_getI hK (hw.1) fl12_191 rfl (dc9 DX12_stepOn 95 rfl) (j_iconst hK (dc9 DX12_stepOn 96 rfl) (j_iadd hK (dc9 DX12_stepOn 97 rfl) (j_putI hK (hw.1) fl12_191 fp12_191 rfl (dc9 DX12_stepOn 98 rfl) h fun d33 h => (j_aload_n hK (dc9 DX12_stepOn 99 rfl) 1 rfl rfl (j_iload_n hK (dc9 DX12_stepOn 100 rfl) 0 rfl rfl (j_bipush hK (dc9 DX12_stepOn 101 rfl) (by decide) (j_icmp_eq hK (dj9 DX12_stepOn 102 216 rfl rfl) h (fun h => j_sub [1] rfl (X12_stepOn_wj216 hK hw h hk)) (fun h =>
  j_iload_n hK (dc9 DX12_stepOn 103 rfl) 0 rfl rfl (j_bipush hK (dc9 DX12_stepOn 104 rfl) (by decide) (j_icmp_eq hK (dj9 DX12_stepOn 105 216 rfl rfl) h (fun h => j_sub [1] rfl (X12_stepOn_wj216 hK hw h hk)) (fun h =>
  j_iload_n hK (dc9 DX12_stepOn 106 rfl) 0 rfl rfl (j_bipush hK (dc9 DX12_stepOn 107 rfl) (by decide) (j_icmp_ne hK (dj9 DX12_stepOn 108 220 rfl rfl) h (fun h => j_iconst hK (dc9 DX12_stepOn 111 rfl) (j_sub [1] rfl (X12_stepOn_wj221 hK hw h hk))) (fun h =>
  j_sub [1] rfl (X12_stepOn_wj216 hK hw h hk)))))))))))))))))) (fun h =>
  j_aload_n hK (dc9 DX12_stepOn 58 rfl) 1 rfl rfl (j_iconst hK (dc9 DX12_stepOn 59 rfl) (j_putI hK (hw.1) fl12_211 fp12_211 rfl (dc9 DX12_stepOn 60 rfl) h fun d34 h => (j_sub [1] rfl ((have z := j_lpE (X12_stepOn_T123 K o) (X12_stepOn_F123 K o) h (fun q y h hk => X12_stepOn_wb123 hK hw h hk) (fun e h => X12_stepOn_wj179 hK hw h hk); z))))))))) (fun h =>
  j_sub [1] rfl ((have z := j_lpE (X12_stepOn_T76 K o) (X12_stepOn_F76 K o) h (fun q y h hk => X12_stepOn_wb76 hK hw h hk) (fun e h => X12_stepOn_wj103 hK hw h hk); z)))))) (fun h =>
  j_aload_n hK (dc9 DX12_stepOn 31 rfl) 1 rfl rfl (j_iconst hK (dc9 DX12_stepOn 32 rfl) (j_putI hK (hw.1) fl12_201 fp12_201 rfl (dc9 DX12_stepOn 33 rfl) h fun d35 h => (j_goto hK (dj9 DX12_stepOn 34 224 rfl rfl) (j_aload_n hK (dc9 DX12_stepOn 113 rfl) 1 rfl rfl (j_aload_n hK (dc9 DX12_stepOn 114 rfl) 1 rfl rfl (j_getI hK (hw.1) fl12_191 rfl (dc9 DX12_stepOn 115 rfl) (j_putI hK (hw.1) fl12_220 fp12_220 rfl (dc9 DX12_stepOn 116 rfl) h fun d36 h => (j_vret hK (dc9 DX12_stepOn 117 rfl) (have z := lf9 h hk; z)))))))))))))))))))))) (fun h =>
  X12_stepOn_wj26 hK hw h hk))))))))))))
theorem c_X12_stepOn {G : GT} {l : Launch} {ad : Nat → Nat} {σ : HS} {d d' : DA} (hst : l.stackTraces = false) {o : Nat} (hw : W_12 σ o) {r : Unit} (h : X12_stepOn o  d = some (r, d')) : Ct G l yX12_stepOn cX12_stepOn 2 none 6 200 ad (wD σ d) [.ref (ad o)] none (wD σ d') :=
  ct_of hst rfl (Nat.le_of_ble_eq_true rfl) (fun K e0 e9 e1 e2 e3 hK => by subst e0; subst e9; subst e1; subst e2; exact X12_stepOn_w hK hw h e3)
/-! X12_wrong -/
theorem DX12_wrong : Dt cX12_wrong [(0, .aload_n 0, 1, 1), (1, .getfield 223, 3, 4), (4, .ifCond .eq 4, 3, 7), (7, .return_, 1, 8), (8, .aload_n 0, 1, 9), (9, .iload_n 1, 1, 10), (10, .putfield 223, 3, 13), (13, .aload_n 0, 1, 14), (14, .aload_n 0, 1, 15), (15, .getfield 198, 3, 18), (18, .putfield 226, 3, 21), (21, .return_, 1, 22)] := by unfold Dt; decide +kernel
def X12_wrong (o : Nat) (v1 : Int) (d : DA) : Option (Unit × DA) :=
  gd (inR (d.1 o 28)) <|
  if (d.1 o 28) = 0 then (lt9 (wI d o 28 v1) fun d1 =>
  lt9 (wI d1 o 29 (d1.1 o 26)) fun d2 =>
  some (((), d2))) else
  some (((), d))
theorem X12_wrong_w {K : KT} (hK : Ok9 K cX12_wrong RX12 2 none 0 0) {o : Nat} (hw : W_12 (kσ K) o) {v1 : Int} {d : DA} {y : Unit × DA} (h : X12_wrong o v1 d = some y) (hk : (FV K) y) : J K 2 d [(0, rf K o), (1, vi v1)] 0 [] :=
  j_aload_n hK (dc9 DX12_wrong 0 rfl) 0 rfl rfl (j_getI hK (hw.1) fl12_223 rfl (dc9 DX12_wrong 1 rfl) (j_if_eq hK (dj9 DX12_wrong 2 8 rfl rfl) h (fun h => j_aload_n hK (dc9 DX12_wrong 4 rfl) 0 rfl rfl (j_iload_n hK (dc9 DX12_wrong 5 rfl) 1 rfl rfl (j_putI hK (hw.1) fl12_223 fp12_223 rfl (dc9 DX12_wrong 6 rfl) h fun d1 h => (j_aload_n hK (dc9 DX12_wrong 7 rfl) 0 rfl rfl (j_aload_n hK (dc9 DX12_wrong 8 rfl) 0 rfl rfl (j_getI hK (hw.1) fl12_198 rfl (dc9 DX12_wrong 9 rfl) (j_putI hK (hw.1) fl12_226 fp12_226 rfl (dc9 DX12_wrong 10 rfl) h fun d2 h => (j_vret hK (dc9 DX12_wrong 11 rfl) (have z := lf9 h hk; z))))))))) (fun h =>
  j_vret hK (dc9 DX12_wrong 3 rfl) (have z := lf9 h hk; z))))
theorem c_X12_wrong {G : GT} {l : Launch} {ad : Nat → Nat} {σ : HS} {d d' : DA} (hst : l.stackTraces = false) {o : Nat} (hw : W_12 σ o) {v1 : Int} {r : Unit} (h : X12_wrong o v1 d = some (r, d')) : Ct G l yX12_wrong cX12_wrong 2 none 0 0 ad (wD σ d) [.ref (ad o), vi v1] none (wD σ d') :=
  ct_of hst rfl (Nat.le_of_ble_eq_true rfl) (fun K e0 e9 e1 e2 e3 hK => by subst e0; subst e9; subst e1; subst e2; exact X12_wrong_w hK hw h e3)
/-! X12_isMarked -/
theorem DX12_isMarked : Dt cX12_isMarked [(0, .aload_n 0, 1, 1), (1, .getfield 223, 3, 4), (4, .ifCond .ne 28, 3, 7), (7, .aload_n 0, 1, 8), (8, .getfield 201, 3, 11), (11, .iconst 3, 1, 12), (12, .if_icmp .ne 20, 3, 15), (15, .aload_n 0, 1, 16), (16, .getfield 53, 3, 19), (19, .aload_n 0, 1, 20), (20, .getfield 198, 3, 23), (23, .iaload, 1, 24), (24, .iload_n 1, 1, 25), (25, .if_icmp .ne 7, 3, 28), (28, .iconst 1, 1, 29), (29, .goto 4, 3, 32), (32, .iconst 0, 1, 33), (33, .ireturn, 1, 34)] := by unfold Dt; decide +kernel
def X12_isMarked_j32 (o : Nat) (d : DA) : Option (Int) :=
  some (0)
theorem X12_isMarked_wj32 {K : KT} (hK : Ok9 K cX12_isMarked RX12 2 (some .boolean) 0 0) {o : Nat} (hw : W_12 (kσ K) o) {d : DA} {y : Int} (h : X12_isMarked_j32 o d = some y) (hk : (FI0 K d) y) : J K 2 d [] 32 [] :=
  j_iconst hK (dc9 DX12_isMarked 16 rfl) (j_zret hK (Or.inl rfl) (dc9 DX12_isMarked 17 rfl) (have z := lf9 h hk; z))
def X12_isMarked (o : Nat) (v1 : Int) (d : DA) : Option (Int) :=
  gd (inR (d.1 o 28)) <|
  if (d.1 o 28) = 0 then (gd (inR (d.1 o 24) ∧ inR 3) <|
  if (d.1 o 24) = 3 then (gd (ix (d.1 o 26) 400) <|
  gd (inR (d.1 (o + 13) (Int.toNat (d.1 o 26))) ∧ inR v1) <|
  if (d.1 (o + 13) (Int.toNat (d.1 o 26))) = v1 then (some (1)) else
  X12_isMarked_j32 o d) else
  X12_isMarked_j32 o d) else
  X12_isMarked_j32 o d
theorem X12_isMarked_w {K : KT} (hK : Ok9 K cX12_isMarked RX12 2 (some .boolean) 0 0) {o : Nat} (hw : W_12 (kσ K) o) {v1 : Int} {d : DA} {y : Int} (h : X12_isMarked o v1 d = some y) (hk : (FI0 K d) y) : J K 2 d [(0, rf K o), (1, vi v1)] 0 [] :=
  j_aload_n hK (dc9 DX12_isMarked 0 rfl) 0 rfl rfl (j_getI hK (hw.1) fl12_223 rfl (dc9 DX12_isMarked 1 rfl) (j_if_ne hK (dj9 DX12_isMarked 2 32 rfl rfl) h (fun h => j_sub [] rfl (X12_isMarked_wj32 hK hw h hk)) (fun h =>
  j_aload_n hK (dc9 DX12_isMarked 3 rfl) 0 rfl rfl (j_getI hK (hw.1) fl12_201 rfl (dc9 DX12_isMarked 4 rfl) (j_iconst hK (dc9 DX12_isMarked 5 rfl) (j_icmp_ne hK (dj9 DX12_isMarked 6 32 rfl rfl) h (fun h => j_sub [] rfl (X12_isMarked_wj32 hK hw h hk)) (fun h =>
  j_aload_n hK (dc9 DX12_isMarked 7 rfl) 0 rfl rfl (j_getR hK (hw.1) fl12_53 rfl (hw.2.2.2.2.2.2.2.2.2.2.2.2.2.1.1) (hw.2.2.2.2.2.2.2.2.2.2.2.2.2.1.2.1) (dc9 DX12_isMarked 8 rfl) (j_aload_n hK (dc9 DX12_isMarked 9 rfl) 0 rfl rfl (j_getI hK (hw.1) fl12_198 rfl (dc9 DX12_isMarked 10 rfl) (j_iald hK (hw.2.2.2.2.2.2.2.2.2.2.2.2.2.1.2) (Nat.le_of_ble_eq_true rfl) (dc9 DX12_isMarked 11 rfl) h fun h => (j_iload_n hK (dc9 DX12_isMarked 12 rfl) 1 rfl rfl (j_icmp_ne hK (dj9 DX12_isMarked 13 32 rfl rfl) h (fun h => j_sub [] rfl (X12_isMarked_wj32 hK hw h hk)) (fun h =>
  j_iconst hK (dc9 DX12_isMarked 14 rfl) (j_goto hK (dj9 DX12_isMarked 15 33 rfl rfl) (j_zret hK (Or.inr rfl) (dc9 DX12_isMarked 17 rfl) (have z := lf9 h hk; z)))))))))))))))))
theorem c_X12_isMarked {G : GT} {l : Launch} {ad : Nat → Nat} {σ : HS} {d : DA} (hst : l.stackTraces = false) {o : Nat} (hw : W_12 σ o) {v1 : Int} {r : Int} (h : X12_isMarked o v1 d = some r) : Ct G l yX12_isMarked cX12_isMarked 2 (some .boolean) 0 0 ad (wD σ d) [.ref (ad o), vi v1] (some (vi r)) (wD σ d) :=
  ct_of hst rfl (Nat.le_of_ble_eq_true rfl) (fun K e0 e9 e1 e2 e3 hK => by subst e0; subst e9; subst e1; subst e2; exact X12_isMarked_w hK hw h e3)
/-! X12_mark -/
theorem DX12_mark : Dt cX12_mark [(0, .aload_n 0, 1, 1), (1, .getfield 223, 3, 4), (4, .ifCond .ne 16, 3, 7), (7, .aload_n 0, 1, 8), (8, .iload_n 1, 1, 9), (9, .invokevirtual 250, 3, 12), (12, .ifCond .ne 8, 3, 15), (15, .aload_n 0, 1, 16), (16, .iconst 1, 1, 17), (17, .invokevirtual 243, 3, 20), (20, .aload_n 0, 1, 21), (21, .getfield 223, 3, 24), (24, .ifCond .ne 7, 3, 27), (27, .aload_n 0, 1, 28), (28, .invokevirtual 247, 3, 31), (31, .return_, 1, 32)] := by unfold Dt; decide +kernel
def X12_mark_j20 (o : Nat) (d : DA) : Option (Unit × DA) :=
  gd (inR (d.1 o 28)) <|
  if (d.1 o 28) = 0 then (bd (X12_stepOn o d) fun _ d1 =>
  some (((), d1))) else
  some (((), d))
theorem X12_mark_wj20 {K : KT} (hK : Ok9 K cX12_mark RX12 2 none 7 221) {o : Nat} (hw : W_12 (kσ K) o) {d : DA} {y : Unit × DA} (h : X12_mark_j20 o d = some y) (hk : (FV K) y) : J K 2 d [(0, rf K o)] 20 [] :=
  j_aload_n hK (dc9 DX12_mark 10 rfl) 0 rfl rfl (j_getI hK (hw.1) fl12_223 rfl (dc9 DX12_mark 11 rfl) (j_if_ne hK (dj9 DX12_mark 12 31 rfl rfl) h (fun h => j_vret hK (dc9 DX12_mark 15 rfl) (have z := lf9 h hk; z)) (fun h =>
  j_aload_n hK (dc9 DX12_mark 13 rfl) 0 rfl rfl (bd9 h fun _ d1 hc h => j_cV hK (c_X12_stepOn (hst9 hK) (hw) hc) cl12_247 cd_X12_stepOn im_X12_stepOn se_X12_stepOn (hw.1) (Nat.le_of_ble_eq_true rfl) rfl (Nat.le_of_ble_eq_true rfl) (Nat.le_of_ble_eq_true rfl) rfl (st := []) rfl (Nat.le_of_ble_eq_true rfl) (dc9 DX12_mark 14 rfl) rfl (j_vret hK (dc9 DX12_mark 15 rfl) (have z := lf9 h hk; z))))))
def X12_mark (o : Nat) (v1 : Int) (d : DA) : Option (Unit × DA) :=
  gd (inR (d.1 o 28)) <|
  if (d.1 o 28) = 0 then (b1 (X12_isMarked o v1 d) fun x2 =>
  gd (inR x2) <|
  if x2 = 0 then (bd (X12_wrong o 1 d) fun _ d3 =>
  X12_mark_j20 o d3) else
  X12_mark_j20 o d) else
  X12_mark_j20 o d
theorem X12_mark_w {K : KT} (hK : Ok9 K cX12_mark RX12 2 none 7 221) {o : Nat} (hw : W_12 (kσ K) o) {v1 : Int} {d : DA} {y : Unit × DA} (h : X12_mark o v1 d = some y) (hk : (FV K) y) : J K 2 d [(0, rf K o), (1, vi v1)] 0 [] :=
  j_aload_n hK (dc9 DX12_mark 0 rfl) 0 rfl rfl (j_getI hK (hw.1) fl12_223 rfl (dc9 DX12_mark 1 rfl) (j_if_ne hK (dj9 DX12_mark 2 20 rfl rfl) h (fun h => j_sub [0] rfl (X12_mark_wj20 hK hw h hk)) (fun h =>
  j_aload_n hK (dc9 DX12_mark 3 rfl) 0 rfl rfl (j_iload_n hK (dc9 DX12_mark 4 rfl) 1 rfl rfl (b19 h fun x2 hc h => j_cV hK (c_X12_isMarked (hst9 hK) (hw) hc) cl12_250 cd_X12_isMarked im_X12_isMarked se_X12_isMarked (hw.1) (Nat.le_of_ble_eq_true rfl) rfl (Nat.le_of_ble_eq_true rfl) (Nat.le_of_ble_eq_true rfl) rfl (st := []) rfl (Nat.le_of_ble_eq_true rfl) (dc9 DX12_mark 5 rfl) rfl (j_if_ne hK (dj9 DX12_mark 6 20 rfl rfl) h (fun h => j_sub [0] rfl (X12_mark_wj20 hK hw h hk)) (fun h =>
  j_aload_n hK (dc9 DX12_mark 7 rfl) 0 rfl rfl (j_iconst hK (dc9 DX12_mark 8 rfl) (bd9 h fun _ d3 hc h => j_cV hK (c_X12_wrong (hst9 hK) (hw) hc) cl12_243 cd_X12_wrong im_X12_wrong se_X12_wrong (hw.1) (Nat.le_of_ble_eq_true rfl) rfl (Nat.le_of_ble_eq_true rfl) (Nat.le_of_ble_eq_true rfl) rfl (st := []) rfl (Nat.le_of_ble_eq_true rfl) (dc9 DX12_mark 9 rfl) rfl (j_sub [0] rfl (X12_mark_wj20 hK hw h hk)))))))))))
theorem c_X12_mark {G : GT} {l : Launch} {ad : Nat → Nat} {σ : HS} {d d' : DA} (hst : l.stackTraces = false) {o : Nat} (hw : W_12 σ o) {v1 : Int} {r : Unit} (h : X12_mark o v1 d = some (r, d')) : Ct G l yX12_mark cX12_mark 2 none 7 221 ad (wD σ d) [.ref (ad o), vi v1] none (wD σ d') :=
  ct_of hst rfl (Nat.le_of_ble_eq_true rfl) (fun K e0 e9 e1 e2 e3 hK => by subst e0; subst e9; subst e1; subst e2; exact X12_mark_w hK hw h e3)
/-! X12_kindNow -/
theorem DX12_kindNow : Dt cX12_kindNow [(0, .aload_n 0, 1, 1), (1, .getfield 223, 3, 4), (4, .ifCond .eq 5, 3, 7), (7, .iconst 0, 1, 8), (8, .ireturn, 1, 9), (9, .aload_n 0, 1, 10), (10, .getfield 201, 3, 13), (13, .iconst 2, 1, 14), (14, .if_icmp .eq 11, 3, 17), (17, .aload_n 0, 1, 18), (18, .iconst 1, 1, 19), (19, .invokevirtual 243, 3, 22), (22, .goto 48, 3, 25), (25, .aload_n 0, 1, 26), (26, .getfield 220, 3, 29), (29, .aload_n 0, 1, 30), (30, .getfield 198, 3, 33), (33, .isub, 1, 34), (34, .iconst 3, 1, 35), (35, .if_icmp .le 11, 3, 38), (38, .aload_n 0, 1, 39), (39, .iconst 2, 1, 40), (40, .invokevirtual 243, 3, 43), (43, .goto 27, 3, 46), (46, .aload_n 0, 1, 47), (47, .getfield 211, 3, 50), (50, .iload_n 1, 1, 51), (51, .if_icmp .lt 14, 3, 54), (54, .aload_n 0, 1, 55), (55, .getfield 211, 3, 58), (58, .aload_n 0, 1, 59), (59, .getfield 253, 3, 62), (62, .if_icmp .lt 8, 3, 65), (65, .aload_n 0, 1, 66), (66, .iconst 3, 1, 67), (67, .invokevirtual 243, 3, 70), (70, .aload_n 0, 1, 71), (71, .getfield 223, 3, 74), (74, .ifCond .ne 10, 3, 77), (77, .aload_n 0, 1, 78), (78, .getfield 211, 3, 81), (81, .goto 4, 3, 84), (84, .iconst 0, 1, 85), (85, .ireturn, 1, 86)] := by unfold Dt; decide +kernel
def X12_kindNow_j70 (o : Nat) (d : DA) : Option (Int × DA) :=
  gd (inR (d.1 o 28)) <|
  if (d.1 o 28) = 0 then (some ((d.1 o 25, d))) else
  some ((0, d))
theorem X12_kindNow_wj70 {K : KT} (hK : Ok9 K cX12_kindNow RX12 2 (some .int) 1 21) {o : Nat} (hw : W_12 (kσ K) o) {d : DA} {y : Int × DA} (h : X12_kindNow_j70 o d = some y) (hk : (FI K) y) : J K 2 d [(0, rf K o)] 70 [] :=
  j_aload_n hK (dc9 DX12_kindNow 36 rfl) 0 rfl rfl (j_getI hK (hw.1) fl12_223 rfl (dc9 DX12_kindNow 37 rfl) (j_if_ne hK (dj9 DX12_kindNow 38 84 rfl rfl) h (fun h => j_iconst hK (dc9 DX12_kindNow 42 rfl) (j_iret hK (dc9 DX12_kindNow 43 rfl) (have z := lf9 h hk; z))) (fun h =>
  j_aload_n hK (dc9 DX12_kindNow 39 rfl) 0 rfl rfl (j_getI hK (hw.1) fl12_211 rfl (dc9 DX12_kindNow 40 rfl) (j_goto hK (dj9 DX12_kindNow 41 85 rfl rfl) (j_iret hK (dc9 DX12_kindNow 43 rfl) (have z := lf9 h hk; z)))))))
def X12_kindNow_j65 (o : Nat) (d : DA) : Option (Int × DA) :=
  bd (X12_wrong o 3 d) fun _ d1 =>
  X12_kindNow_j70 o d1
theorem X12_kindNow_wj65 {K : KT} (hK : Ok9 K cX12_kindNow RX12 2 (some .int) 1 21) {o : Nat} (hw : W_12 (kσ K) o) {d : DA} {y : Int × DA} (h : X12_kindNow_j65 o d = some y) (hk : (FI K) y) : J K 2 d [(0, rf K o)] 65 [] :=
  j_aload_n hK (dc9 DX12_kindNow 33 rfl) 0 rfl rfl (j_iconst hK (dc9 DX12_kindNow 34 rfl) (bd9 h fun _ d1 hc h => j_cV hK (c_X12_wrong (hst9 hK) (hw) hc) cl12_243 cd_X12_wrong im_X12_wrong se_X12_wrong (hw.1) (Nat.le_of_ble_eq_true rfl) rfl (Nat.le_of_ble_eq_true rfl) (Nat.le_of_ble_eq_true rfl) rfl (st := []) rfl (Nat.le_of_ble_eq_true rfl) (dc9 DX12_kindNow 35 rfl) rfl (X12_kindNow_wj70 hK hw h hk)))
def X12_kindNow (o : Nat) (v1 : Int) (d : DA) : Option (Int × DA) :=
  gd (inR (d.1 o 28)) <|
  if (d.1 o 28) = 0 then (gd (inR (d.1 o 24) ∧ inR 2) <|
  if (d.1 o 24) = 2 then (gd (inR ((d.1 o 27) - (d.1 o 26)) ∧ inR 3) <|
  if ((d.1 o 27) - (d.1 o 26)) ≤ 3 then (gd (inR (d.1 o 25) ∧ inR v1) <|
  if (d.1 o 25) < v1 then (X12_kindNow_j65 o d) else
  gd (inR (d.1 o 25) ∧ inR (d.1 o 3)) <|
  if (d.1 o 25) < (d.1 o 3) then (X12_kindNow_j70 o d) else
  X12_kindNow_j65 o d) else
  bd (X12_wrong o 2 d) fun _ d2 =>
  X12_kindNow_j70 o d2) else
  bd (X12_wrong o 1 d) fun _ d3 =>
  X12_kindNow_j70 o d3) else
  some ((0, d))
theorem X12_kindNow_w {K : KT} (hK : Ok9 K cX12_kindNow RX12 2 (some .int) 1 21) {o : Nat} (hw : W_12 (kσ K) o) {v1 : Int} {d : DA} {y : Int × DA} (h : X12_kindNow o v1 d = some y) (hk : (FI K) y) : J K 2 d [(0, rf K o), (1, vi v1)] 0 [] :=
  j_aload_n hK (dc9 DX12_kindNow 0 rfl) 0 rfl rfl (j_getI hK (hw.1) fl12_223 rfl (dc9 DX12_kindNow 1 rfl) (j_if_eq hK (dj9 DX12_kindNow 2 9 rfl rfl) h (fun h => j_aload_n hK (dc9 DX12_kindNow 5 rfl) 0 rfl rfl (j_getI hK (hw.1) fl12_201 rfl (dc9 DX12_kindNow 6 rfl) (j_iconst hK (dc9 DX12_kindNow 7 rfl) (j_icmp_eq hK (dj9 DX12_kindNow 8 25 rfl rfl) h (fun h => j_aload_n hK (dc9 DX12_kindNow 13 rfl) 0 rfl rfl (j_getI hK (hw.1) fl12_220 rfl (dc9 DX12_kindNow 14 rfl) (j_aload_n hK (dc9 DX12_kindNow 15 rfl) 0 rfl rfl (j_getI hK (hw.1) fl12_198 rfl (dc9 DX12_kindNow 16 rfl) (j_isub hK (dc9 DX12_kindNow 17 rfl) (j_iconst hK (dc9 DX12_kindNow 18 rfl) (j_icmp_le hK (dj9 DX12_kindNow 19 46 rfl rfl) h (fun h => j_aload_n hK (dc9 DX12_kindNow 24 rfl) 0 rfl rfl (j_getI hK (hw.1) fl12_211 rfl (dc9 DX12_kindNow 25 rfl) (j_iload_n hK (dc9 DX12_kindNow 26 rfl) 1 rfl rfl (j_icmp_lt hK (dj9 DX12_kindNow 27 65 rfl rfl) h (fun h => j_sub [0] rfl (X12_kindNow_wj65 hK hw h hk)) (fun h =>
  j_aload_n hK (dc9 DX12_kindNow 28 rfl) 0 rfl rfl (j_getI hK (hw.1) fl12_211 rfl (dc9 DX12_kindNow 29 rfl) (j_aload_n hK (dc9 DX12_kindNow 30 rfl) 0 rfl rfl (j_getI hK (hw.1) fl12_253 rfl (dc9 DX12_kindNow 31 rfl) (j_icmp_lt hK (dj9 DX12_kindNow 32 70 rfl rfl) h (fun h => j_sub [0] rfl (X12_kindNow_wj70 hK hw h hk)) (fun h =>
  j_sub [0] rfl (X12_kindNow_wj65 hK hw h hk))))))))))) (fun h =>
  j_aload_n hK (dc9 DX12_kindNow 20 rfl) 0 rfl rfl (j_iconst hK (dc9 DX12_kindNow 21 rfl) (bd9 h fun _ d2 hc h => j_cV hK (c_X12_wrong (hst9 hK) (hw) hc) cl12_243 cd_X12_wrong im_X12_wrong se_X12_wrong (hw.1) (Nat.le_of_ble_eq_true rfl) rfl (Nat.le_of_ble_eq_true rfl) (Nat.le_of_ble_eq_true rfl) rfl (st := []) rfl (Nat.le_of_ble_eq_true rfl) (dc9 DX12_kindNow 22 rfl) rfl (j_goto hK (dj9 DX12_kindNow 23 70 rfl rfl) (j_sub [0] rfl (X12_kindNow_wj70 hK hw h hk))))))))))))) (fun h =>
  j_aload_n hK (dc9 DX12_kindNow 9 rfl) 0 rfl rfl (j_iconst hK (dc9 DX12_kindNow 10 rfl) (bd9 h fun _ d3 hc h => j_cV hK (c_X12_wrong (hst9 hK) (hw) hc) cl12_243 cd_X12_wrong im_X12_wrong se_X12_wrong (hw.1) (Nat.le_of_ble_eq_true rfl) rfl (Nat.le_of_ble_eq_true rfl) (Nat.le_of_ble_eq_true rfl) rfl (st := []) rfl (Nat.le_of_ble_eq_true rfl) (dc9 DX12_kindNow 11 rfl) rfl (j_goto hK (dj9 DX12_kindNow 12 70 rfl rfl) (j_sub [0] rfl (X12_kindNow_wj70 hK hw h hk)))))))))) (fun h =>
  j_iconst hK (dc9 DX12_kindNow 3 rfl) (j_iret hK (dc9 DX12_kindNow 4 rfl) (have z := lf9 h hk; z)))))
theorem c_X12_kindNow {G : GT} {l : Launch} {ad : Nat → Nat} {σ : HS} {d d' : DA} (hst : l.stackTraces = false) {o : Nat} (hw : W_12 σ o) {v1 : Int} {r : Int} (h : X12_kindNow o v1 d = some (r, d')) : Ct G l yX12_kindNow cX12_kindNow 2 (some .int) 1 21 ad (wD σ d) [.ref (ad o), vi v1] (some (vi r)) (wD σ d') :=
  ct_of hst rfl (Nat.le_of_ble_eq_true rfl) (fun K e0 e9 e1 e2 e3 hK => by subst e0; subst e9; subst e1; subst e2; exact X12_kindNow_w hK hw h e3)
/-! X12_readKind -/
theorem DX12_readKind : Dt cX12_readKind [(0, .aload_n 0, 1, 1), (1, .iload_n 1, 1, 2), (2, .invokevirtual 256, 3, 5), (5, .istore_n 2, 1, 6), (6, .aload_n 0, 1, 7), (7, .getfield 223, 3, 10), (10, .ifCond .ne 7, 3, 13), (13, .aload_n 0, 1, 14), (14, .invokevirtual 247, 3, 17), (17, .iload_n 2, 1, 18), (18, .ireturn, 1, 19)] := by unfold Dt; decide +kernel
def X12_readKind (o : Nat) (v1 : Int) (d : DA) : Option (Int × DA) :=
  bd (X12_kindNow o v1 d) fun x2 d1 =>
  gd (inR (d1.1 o 28)) <|
  if (d1.1 o 28) = 0 then (bd (X12_stepOn o d1) fun _ d3 =>
  some ((x2, d3))) else
  some ((x2, d1))
theorem X12_readKind_w {K : KT} (hK : Ok9 K cX12_readKind RX12 3 (some .int) 7 221) {o : Nat} (hw : W_12 (kσ K) o) {v1 : Int} {d : DA} {y : Int × DA} (h : X12_readKind o v1 d = some y) (hk : (FI K) y) : J K 3 d [(0, rf K o), (1, vi v1)] 0 [] :=
  j_aload_n hK (dc9 DX12_readKind 0 rfl) 0 rfl rfl (j_iload_n hK (dc9 DX12_readKind 1 rfl) 1 rfl rfl (bd9 h fun x2 d1 hc h => j_cV hK (c_X12_kindNow (hst9 hK) (hw) hc) cl12_256 cd_X12_kindNow im_X12_kindNow se_X12_kindNow (hw.1) (Nat.le_of_ble_eq_true rfl) rfl (Nat.le_of_ble_eq_true rfl) (Nat.le_of_ble_eq_true rfl) rfl (st := []) rfl (Nat.le_of_ble_eq_true rfl) (dc9 DX12_readKind 2 rfl) rfl (j_istore_n hK (dc9 DX12_readKind 3 rfl) rfl (Nat.le_of_ble_eq_true rfl) rfl (j_aload_n hK (dc9 DX12_readKind 4 rfl) 1 rfl rfl (j_getI hK (hw.1) fl12_223 rfl (dc9 DX12_readKind 5 rfl) (j_if_ne hK (dj9 DX12_readKind 6 17 rfl rfl) h (fun h => j_iload_n hK (dc9 DX12_readKind 9 rfl) 0 rfl rfl (j_iret hK (dc9 DX12_readKind 10 rfl) (have z := lf9 h hk; z))) (fun h =>
  j_aload_n hK (dc9 DX12_readKind 7 rfl) 1 rfl rfl (bd9 h fun _ d3 hc h => j_cV hK (c_X12_stepOn (hst9 hK) (hw) hc) cl12_247 cd_X12_stepOn im_X12_stepOn se_X12_stepOn (hw.1) (Nat.le_of_ble_eq_true rfl) rfl (Nat.le_of_ble_eq_true rfl) (Nat.le_of_ble_eq_true rfl) rfl (st := []) rfl (Nat.le_of_ble_eq_true rfl) (dc9 DX12_readKind 8 rfl) rfl (j_iload_n hK (dc9 DX12_readKind 9 rfl) 0 rfl rfl (j_iret hK (dc9 DX12_readKind 10 rfl) (have z := lf9 h hk; z)))))))))))
theorem c_X12_readKind {G : GT} {l : Launch} {ad : Nat → Nat} {σ : HS} {d d' : DA} (hst : l.stackTraces = false) {o : Nat} (hw : W_12 σ o) {v1 : Int} {r : Int} (h : X12_readKind o v1 d = some (r, d')) : Ct G l yX12_readKind cX12_readKind 3 (some .int) 7 221 ad (wD σ d) [.ref (ad o), vi v1] (some (vi r)) (wD σ d') :=
  ct_of hst rfl (Nat.le_of_ble_eq_true rfl) (fun K e0 e9 e1 e2 e3 hK => by subst e0; subst e9; subst e1; subst e2; exact X12_readKind_w hK hw h e3)
/-! X12_readSum -/
theorem DX12_readSum : Dt cX12_readSum [(0, .iconst 1, 1, 1), (1, .istore_n 3, 1, 2), (2, .iload_n 3, 1, 3), (3, .ifCond .eq 92, 3, 6), (6, .aload_n 0, 1, 7), (7, .getfield 223, 3, 10), (10, .ifCond .ne 85, 3, 13), (13, .aload_n 0, 1, 14), (14, .iconst 0, 1, 15), (15, .invokevirtual 256, 3, 18), (18, .istore 4, 2, 20), (20, .aload_n 0, 1, 21), (21, .getfield 223, 3, 24), (24, .ifCond .ne 25, 3, 27), (27, .aload_n 0, 1, 28), (28, .getfield 23, 3, 31), (31, .iload_n 1, 1, 32), (32, .iload_n 2, 1, 33), (33, .iload 4, 2, 35), (35, .invokestatic 172, 3, 38), (38, .iaload, 1, 39), (39, .bipush 9, 2, 41), (41, .if_icmp .ne 8, 3, 44), (44, .aload_n 0, 1, 45), (45, .iconst 2, 1, 46), (46, .invokevirtual 243, 3, 49), (49, .aload_n 0, 1, 50), (50, .getfield 223, 3, 53), (53, .ifCond .eq 4, 3, 56), (56, .return_, 1, 57), (57, .aload_n 0, 1, 58), (58, .invokevirtual 247, 3, 61), (61, .aload_n 0, 1, 62), (62, .getfield 23, 3, 65), (65, .iload_n 1, 1, 66), (66, .iload_n 2, 1, 67), (67, .iload 4, 2, 69), (69, .invokestatic 172, 3, 72), (72, .dup2, 1, 73), (73, .iaload, 1, 74), (74, .iconst 1, 1, 75), (75, .iadd, 1, 76), (76, .iastore, 1, 77), (77, .aload_n 0, 1, 78), (78, .bipush 43, 2, 80), (80, .invokevirtual 250, 3, 83), (83, .istore_n 3, 1, 84), (84, .iload_n 3, 1, 85), (85, .ifCond .eq 7, 3, 88), (88, .aload_n 0, 1, 89), (89, .invokevirtual 247, 3, 92), (92, .goto (-90), 3, 95), (95, .return_, 1, 96)] := by unfold Dt; decide +kernel
def X12_readSum_T2 (K : KT) (o : Nat) (v1 : Int) (v2 : Int) (q : Int × DA) : Prop := J K 5 q.2 [(0, rf K o), (1, vi v1), (2, vi v2), (3, vi (q.1))] 2 []
def X12_readSum_F2 (K : KT) (o : Nat) (v1 : Int) (v2 : Int) (q : DA) : Prop := J K 5 q [] 95 []
def X12_readSum_j49_2 (o : Nat) (v1 v2 v4 : Int) (d : DA) : Option ((Int × DA) ⊕ ((DA) ⊕ (Unit × DA))) :=
  gd (inR (d.1 o 28)) <|
  if (d.1 o 28) = 0 then (bd (X12_stepOn o d) fun _ d3 =>
  b1 (X12_cell v1 v2 v4 d3) fun x4 =>
  gd (ix x4 125) <|
  gd (ix x4 125) <|
  lt9 (wI d3 (o + 3) (Int.toNat x4) ((d3.1 (o + 3) (Int.toNat x4)) + 1)) fun d5 =>
  b1 (X12_isMarked o 43 d5) fun x6 =>
  gd (inR x6) <|
  if x6 = 0 then (some (.inl (x6, d5))) else
  bd (X12_stepOn o d5) fun _ d7 =>
  some (.inl (x6, d7))) else
  some (.inr (.inr (((), d))))
theorem X12_readSum_wj49_2 {K : KT} (hK : Ok9 K cX12_readSum RX12 5 none 7 221) {o : Nat} (hw : W_12 (kσ K) o) {v1 v2 v4 : Int} {d : DA} {y : (Int × DA) ⊕ ((DA) ⊕ (Unit × DA))} (h : X12_readSum_j49_2 o v1 v2 v4 d = some y) (hk : S3 (X12_readSum_T2 K o v1 v2) (X12_readSum_F2 K o v1 v2) (FV K) y) : J K 5 d [(0, rf K o), (1, vi v1), (2, vi v2), (4, vi v4)] 49 [] :=
  j_aload_n hK (dc9 DX12_readSum 26 rfl) 0 rfl rfl (j_getI hK (hw.1) fl12_223 rfl (dc9 DX12_readSum 27 rfl) (j_if_eq hK (dj9 DX12_readSum 28 57 rfl rfl) h (fun h => j_aload_n hK (dc9 DX12_readSum 30 rfl) 0 rfl rfl (bd9 h fun _ d3 hc h => j_cV hK (c_X12_stepOn (hst9 hK) (hw) hc) cl12_247 cd_X12_stepOn im_X12_stepOn se_X12_stepOn (hw.1) (Nat.le_of_ble_eq_true rfl) rfl (Nat.le_of_ble_eq_true rfl) (Nat.le_of_ble_eq_true rfl) rfl (st := []) rfl (Nat.le_of_ble_eq_true rfl) (dc9 DX12_readSum 31 rfl) rfl (j_aload_n hK (dc9 DX12_readSum 32 rfl) 0 rfl rfl (j_getR hK (hw.1) fl12_23 rfl (hw.2.2.2.1.1) (hw.2.2.2.1.2.1) (dc9 DX12_readSum 33 rfl) (j_iload_n hK (dc9 DX12_readSum 34 rfl) 1 rfl rfl (j_iload_n hK (dc9 DX12_readSum 35 rfl) 2 rfl rfl (j_iload hK (dc9 DX12_readSum 36 rfl) 3 rfl (b19 h fun x4 hc h => j_cS hK (c_X12_cell (hst9 hK)  hc) cl12_172 cd_X12_cell sm_X12_cell (Nat.le_of_ble_eq_true rfl) (Nat.le_of_ble_eq_true rfl) rfl (st := [rf K (o + 3)]) rfl (Nat.le_of_ble_eq_true rfl) (dc9 DX12_readSum 37 rfl) rfl (j_dup2 hK (dc9 DX12_readSum 38 rfl) rfl rfl (j_iald hK (hw.2.2.2.1.2) (Nat.le_of_ble_eq_true rfl) (dc9 DX12_readSum 39 rfl) h fun h => (j_iconst hK (dc9 DX12_readSum 40 rfl) (j_iadd hK (dc9 DX12_readSum 41 rfl) (j_iast hK (hw.2.2.2.1.2) (Nat.le_of_ble_eq_true rfl) (dc9 DX12_readSum 42 rfl) h fun d5 h => (j_aload_n hK (dc9 DX12_readSum 43 rfl) 0 rfl rfl (j_bipush hK (dc9 DX12_readSum 44 rfl) (by decide) (b19 h fun x6 hc h => j_cV hK (c_X12_isMarked (hst9 hK) (hw) hc) cl12_250 cd_X12_isMarked im_X12_isMarked se_X12_isMarked (hw.1) (Nat.le_of_ble_eq_true rfl) rfl (Nat.le_of_ble_eq_true rfl) (Nat.le_of_ble_eq_true rfl) rfl (st := []) rfl (Nat.le_of_ble_eq_true rfl) (dc9 DX12_readSum 45 rfl) rfl (j_istore_n hK (dc9 DX12_readSum 46 rfl) rfl (Nat.le_of_ble_eq_true rfl) rfl (j_iload_n hK (dc9 DX12_readSum 47 rfl) 0 rfl rfl (j_if_eq hK (dj9 DX12_readSum 48 92 rfl rfl) h (fun h => j_goto hK (dj9 DX12_readSum 51 2 rfl rfl) (j_sub [1, 2, 3, 0] rfl ((have z := lf9 h hk; z)))) (fun h =>
  j_aload_n hK (dc9 DX12_readSum 49 rfl) 1 rfl rfl (bd9 h fun _ d7 hc h => j_cV hK (c_X12_stepOn (hst9 hK) (hw) hc) cl12_247 cd_X12_stepOn im_X12_stepOn se_X12_stepOn (hw.1) (Nat.le_of_ble_eq_true rfl) rfl (Nat.le_of_ble_eq_true rfl) (Nat.le_of_ble_eq_true rfl) rfl (st := []) rfl (Nat.le_of_ble_eq_true rfl) (dc9 DX12_readSum 50 rfl) rfl (j_goto hK (dj9 DX12_readSum 51 2 rfl rfl) (j_sub [1, 2, 3, 0] rfl ((have z := lf9 h hk; z))))))))))))))))))))))))) (fun h =>
  j_vret hK (dc9 DX12_readSum 29 rfl) (have z := lf9 h hk; z))))
def X12_readSum_b2 (o : Nat) (v1 v2 v3 : Int) (d : DA) : Option ((Int × DA) ⊕ ((DA) ⊕ (Unit × DA))) :=
  gd (inR v3) <|
  if v3 = 0 then (some (.inr (.inl d))) else
  gd (inR (d.1 o 28)) <|
  if (d.1 o 28) = 0 then (bd (X12_kindNow o 0 d) fun x2 d1 =>
  gd (inR (d1.1 o 28)) <|
  if (d1.1 o 28) = 0 then (b1 (X12_cell v1 v2 x2 d1) fun x8 =>
  gd (ix x8 125) <|
  gd (inR (d1.1 (o + 3) (Int.toNat x8)) ∧ inR 9) <|
  if (d1.1 (o + 3) (Int.toNat x8)) = 9 then (bd (X12_wrong o 2 d1) fun _ d9 =>
  X12_readSum_j49_2 o v1 v2 x2 d9) else
  X12_readSum_j49_2 o v1 v2 x2 d1) else
  X12_readSum_j49_2 o v1 v2 x2 d1) else
  some (.inr (.inl d))
theorem X12_readSum_wb2 {K : KT} (hK : Ok9 K cX12_readSum RX12 5 none 7 221) {o : Nat} (hw : W_12 (kσ K) o) {v1 v2 v3 : Int} {d : DA} {y : (Int × DA) ⊕ ((DA) ⊕ (Unit × DA))} (h : X12_readSum_b2 o v1 v2 v3 d = some y) (hk : S3 (X12_readSum_T2 K o v1 v2) (X12_readSum_F2 K o v1 v2) (FV K) y) : J K 5 d [(0, rf K o), (1, vi v1), (2, vi v2), (3, vi v3)] 2 [] :=
  j_iload_n hK (dc9 DX12_readSum 2 rfl) 3 rfl rfl (j_if_eq hK (dj9 DX12_readSum 3 95 rfl rfl) h (fun h => j_sub [] rfl ((have z := lf9 h hk; z))) (fun h =>
  j_aload_n hK (dc9 DX12_readSum 4 rfl) 0 rfl rfl (j_getI hK (hw.1) fl12_223 rfl (dc9 DX12_readSum 5 rfl) (j_if_ne hK (dj9 DX12_readSum 6 95 rfl rfl) h (fun h => j_sub [] rfl ((have z := lf9 h hk; z))) (fun h =>
  j_aload_n hK (dc9 DX12_readSum 7 rfl) 0 rfl rfl (j_iconst hK (dc9 DX12_readSum 8 rfl) (bd9 h fun x2 d1 hc h => j_cV hK (c_X12_kindNow (hst9 hK) (hw) hc) cl12_256 cd_X12_kindNow im_X12_kindNow se_X12_kindNow (hw.1) (Nat.le_of_ble_eq_true rfl) rfl (Nat.le_of_ble_eq_true rfl) (Nat.le_of_ble_eq_true rfl) rfl (st := []) rfl (Nat.le_of_ble_eq_true rfl) (dc9 DX12_readSum 9 rfl) rfl (j_istore hK (dc9 DX12_readSum 10 rfl) (Nat.le_of_ble_eq_true rfl) rfl (j_aload_n hK (dc9 DX12_readSum 11 rfl) 1 rfl rfl (j_getI hK (hw.1) fl12_223 rfl (dc9 DX12_readSum 12 rfl) (j_if_ne hK (dj9 DX12_readSum 13 49 rfl rfl) h (fun h => j_sub [1, 2, 3, 0] rfl (X12_readSum_wj49_2 hK hw h hk)) (fun h =>
  j_aload_n hK (dc9 DX12_readSum 14 rfl) 1 rfl rfl (j_getR hK (hw.1) fl12_23 rfl (hw.2.2.2.1.1) (hw.2.2.2.1.2.1) (dc9 DX12_readSum 15 rfl) (j_iload_n hK (dc9 DX12_readSum 16 rfl) 2 rfl rfl (j_iload_n hK (dc9 DX12_readSum 17 rfl) 3 rfl rfl (j_iload hK (dc9 DX12_readSum 18 rfl) 0 rfl (b19 h fun x8 hc h => j_cS hK (c_X12_cell (hst9 hK)  hc) cl12_172 cd_X12_cell sm_X12_cell (Nat.le_of_ble_eq_true rfl) (Nat.le_of_ble_eq_true rfl) rfl (st := [rf K (o + 3)]) rfl (Nat.le_of_ble_eq_true rfl) (dc9 DX12_readSum 19 rfl) rfl (j_iald hK (hw.2.2.2.1.2) (Nat.le_of_ble_eq_true rfl) (dc9 DX12_readSum 20 rfl) h fun h => (j_bipush hK (dc9 DX12_readSum 21 rfl) (by decide) (j_icmp_ne hK (dj9 DX12_readSum 22 49 rfl rfl) h (fun h => j_sub [1, 2, 3, 0] rfl (X12_readSum_wj49_2 hK hw h hk)) (fun h =>
  j_aload_n hK (dc9 DX12_readSum 23 rfl) 1 rfl rfl (j_iconst hK (dc9 DX12_readSum 24 rfl) (bd9 h fun _ d9 hc h => j_cV hK (c_X12_wrong (hst9 hK) (hw) hc) cl12_243 cd_X12_wrong im_X12_wrong se_X12_wrong (hw.1) (Nat.le_of_ble_eq_true rfl) rfl (Nat.le_of_ble_eq_true rfl) (Nat.le_of_ble_eq_true rfl) rfl (st := []) rfl (Nat.le_of_ble_eq_true rfl) (dc9 DX12_readSum 25 rfl) rfl (j_sub [1, 2, 3, 0] rfl (X12_readSum_wj49_2 hK hw h hk)))))))))))))))))))))))))
def X12_readSum (o : Nat) (v1 v2 : Int) (d : DA) : Option (Unit × DA) :=
  lpR (fun q => X12_readSum_b2 o v1 v2 q.1 q.2) (1, d) (fun e => some (((), e))) (fun r => some r)
theorem X12_readSum_w {K : KT} (hK : Ok9 K cX12_readSum RX12 5 none 7 221) {o : Nat} (hw : W_12 (kσ K) o) {v1 v2 : Int} {d : DA} {y : Unit × DA} (h : X12_readSum o v1 v2 d = some y) (hk : (FV K) y) : J K 5 d [(0, rf K o), (1, vi v1), (2, vi v2)] 0 [] :=
  j_iconst hK (dc9 DX12_readSum 0 rfl) (j_istore_n hK (dc9 DX12_readSum 1 rfl) rfl (Nat.le_of_ble_eq_true rfl) rfl (j_sub [1, 2, 3, 0] rfl ((have z := j_lpR (X12_readSum_T2 K o v1 v2) (X12_readSum_F2 K o v1 v2) (FV K) h (fun q y h hk => X12_readSum_wb2 hK hw h hk) (fun e h => j_vret hK (dc9 DX12_readSum 52 rfl) (have z := lf9 h hk; z)) (fun r h => (have z := lf9 h hk; z)); z))))
theorem c_X12_readSum {G : GT} {l : Launch} {ad : Nat → Nat} {σ : HS} {d d' : DA} (hst : l.stackTraces = false) {o : Nat} (hw : W_12 σ o) {v1 v2 : Int} {r : Unit} (h : X12_readSum o v1 v2 d = some (r, d')) : Ct G l yX12_readSum cX12_readSum 5 none 7 221 ad (wD σ d) [.ref (ad o), vi v1, vi v2] none (wD σ d') :=
  ct_of hst rfl (Nat.le_of_ble_eq_true rfl) (fun K e0 e9 e1 e2 e3 hK => by subst e0; subst e9; subst e1; subst e2; exact X12_readSum_w hK hw h e3)
/-! X12_begin -/
theorem DX12_begin : Dt cX12_begin [(0, .iconst 0, 1, 1), (1, .istore_n 3, 1, 2), (2, .iload_n 3, 1, 3), (3, .bipush 125, 2, 5), (5, .if_icmp .ge 13, 3, 8), (8, .aload_n 1, 1, 9), (9, .iload_n 3, 1, 10), (10, .iconst 0, 1, 11), (11, .iastore, 1, 12), (12, .iinc 3 1, 3, 15), (15, .goto (-13), 3, 18), (18, .iconst 0, 1, 19), (19, .istore_n 3, 1, 20), (20, .iload_n 3, 1, 21), (21, .iload_n 2, 1, 22), (22, .if_icmp .ge 27, 3, 25), (25, .aload_n 1, 1, 26), (26, .iconst 0, 1, 27), (27, .iload_n 3, 1, 28), (28, .iload_n 3, 1, 29), (29, .invokestatic 172, 3, 32), (32, .iconst 1, 1, 33), (33, .iastore, 1, 34), (34, .aload_n 1, 1, 35), (35, .iload_n 3, 1, 36), (36, .iconst 0, 1, 37), (37, .iload_n 3, 1, 38), (38, .invokestatic 172, 3, 41), (41, .iconst 1, 1, 42), (42, .iastore, 1, 43), (43, .iinc 3 1, 3, 46), (46, .goto (-26), 3, 49), (49, .return_, 1, 50)] := by unfold Dt; decide +kernel
def X12_begin_T2 (K : KT) (o : Nat) (a1 n1 : Nat) (v2 : Int) (q : Int × DA) : Prop := J K 4 q.2 [(1, rf K a1), (2, vi v2), (3, vi (q.1))] 2 []
def X12_begin_F2 (K : KT) (o : Nat) (a1 n1 : Nat) (v2 : Int) (q : DA) : Prop := J K 4 q [(1, rf K a1), (2, vi v2)] 18 []
def X12_begin_b2 (o : Nat) (a1 n1 : Nat) (v2 v3 : Int) (d : DA) : Option ((Int × DA) ⊕ (DA)) :=
  gd (inR v3 ∧ inR 125) <|
  if 125 ≤ v3 then (some (.inr d)) else
  gd (ix v3 n1) <|
  lt9 (wI d a1 (Int.toNat v3) 0) fun d1 =>
  some (.inl (v3 + 1, d1))
theorem X12_begin_wb2 {K : KT} (hK : Ok9 K cX12_begin RX12 4 none 1 22) {o : Nat} {a1 n1 : Nat} (hw : W_12 (kσ K) o) (ha1 : Ar K a1 n1) (hn1 : n1 < 2147483648) {v2 v3 : Int} {d : DA} {y : (Int × DA) ⊕ (DA)} (h : X12_begin_b2 o a1 n1 v2 v3 d = some y) (hk : S2 (X12_begin_T2 K o a1 n1 v2) (X12_begin_F2 K o a1 n1 v2) y) : J K 4 d [(1, rf K a1), (2, vi v2), (3, vi v3)] 2 [] :=
  j_iload_n hK (dc9 DX12_begin 2 rfl) 2 rfl rfl (j_bipush hK (dc9 DX12_begin 3 rfl) (by decide) (j_icmp_ge hK (dj9 DX12_begin 4 18 rfl rfl) h (fun h => j_sub [0, 1] rfl ((have z := lf9 h hk; z))) (fun h =>
  j_aload_n hK (dc9 DX12_begin 5 rfl) 0 rfl rfl (j_iload_n hK (dc9 DX12_begin 6 rfl) 2 rfl rfl (j_iconst hK (dc9 DX12_begin 7 rfl) (j_iast hK ha1 hn1 (dc9 DX12_begin 8 rfl) h fun d1 h => (j_iinc hK (dc9 DX12_begin 9 rfl) 2 rfl (Nat.le_of_ble_eq_true rfl) rfl (j_goto hK (dj9 DX12_begin 10 2 rfl rfl) (j_sub [1, 2, 0] rfl ((have z := lf9 h hk; z)))))))))))
def X12_begin_T20 (K : KT) (o : Nat) (a1 n1 : Nat) (v2 : Int) (q : Int × DA) : Prop := J K 4 q.2 [(1, rf K a1), (2, vi v2), (3, vi (q.1))] 20 []
def X12_begin_F20 (K : KT) (o : Nat) (a1 n1 : Nat) (v2 : Int) (q : DA) : Prop := J K 4 q [] 49 []
def X12_begin_b20 (o : Nat) (a1 n1 : Nat) (v2 v3 : Int) (d : DA) : Option ((Int × DA) ⊕ (DA)) :=
  gd (inR v3 ∧ inR v2) <|
  if v2 ≤ v3 then (some (.inr d)) else
  b1 (X12_cell 0 v3 v3 d) fun x2 =>
  gd (ix x2 n1) <|
  lt9 (wI d a1 (Int.toNat x2) 1) fun d3 =>
  b1 (X12_cell v3 0 v3 d3) fun x4 =>
  gd (ix x4 n1) <|
  lt9 (wI d3 a1 (Int.toNat x4) 1) fun d5 =>
  some (.inl (v3 + 1, d5))
theorem X12_begin_wb20 {K : KT} (hK : Ok9 K cX12_begin RX12 4 none 1 22) {o : Nat} {a1 n1 : Nat} (hw : W_12 (kσ K) o) (ha1 : Ar K a1 n1) (hn1 : n1 < 2147483648) {v2 v3 : Int} {d : DA} {y : (Int × DA) ⊕ (DA)} (h : X12_begin_b20 o a1 n1 v2 v3 d = some y) (hk : S2 (X12_begin_T20 K o a1 n1 v2) (X12_begin_F20 K o a1 n1 v2) y) : J K 4 d [(1, rf K a1), (2, vi v2), (3, vi v3)] 20 [] :=
  j_iload_n hK (dc9 DX12_begin 13 rfl) 2 rfl rfl (j_iload_n hK (dc9 DX12_begin 14 rfl) 1 rfl rfl (j_icmp_ge hK (dj9 DX12_begin 15 49 rfl rfl) h (fun h => j_sub [] rfl ((have z := lf9 h hk; z))) (fun h =>
  j_aload_n hK (dc9 DX12_begin 16 rfl) 0 rfl rfl (j_iconst hK (dc9 DX12_begin 17 rfl) (j_iload_n hK (dc9 DX12_begin 18 rfl) 2 rfl rfl (j_iload_n hK (dc9 DX12_begin 19 rfl) 2 rfl rfl (b19 h fun x2 hc h => j_cS hK (c_X12_cell (hst9 hK)  hc) cl12_172 cd_X12_cell sm_X12_cell (Nat.le_of_ble_eq_true rfl) (Nat.le_of_ble_eq_true rfl) rfl (st := [rf K a1]) rfl (Nat.le_of_ble_eq_true rfl) (dc9 DX12_begin 20 rfl) rfl (j_iconst hK (dc9 DX12_begin 21 rfl) (j_iast hK ha1 hn1 (dc9 DX12_begin 22 rfl) h fun d3 h => (j_aload_n hK (dc9 DX12_begin 23 rfl) 0 rfl rfl (j_iload_n hK (dc9 DX12_begin 24 rfl) 2 rfl rfl (j_iconst hK (dc9 DX12_begin 25 rfl) (j_iload_n hK (dc9 DX12_begin 26 rfl) 2 rfl rfl (b19 h fun x4 hc h => j_cS hK (c_X12_cell (hst9 hK)  hc) cl12_172 cd_X12_cell sm_X12_cell (Nat.le_of_ble_eq_true rfl) (Nat.le_of_ble_eq_true rfl) rfl (st := [rf K a1]) rfl (Nat.le_of_ble_eq_true rfl) (dc9 DX12_begin 27 rfl) rfl (j_iconst hK (dc9 DX12_begin 28 rfl) (j_iast hK ha1 hn1 (dc9 DX12_begin 29 rfl) h fun d5 h => (j_iinc hK (dc9 DX12_begin 30 rfl) 2 rfl (Nat.le_of_ble_eq_true rfl) rfl (j_goto hK (dj9 DX12_begin 31 20 rfl rfl) (j_sub [1, 2, 0] rfl ((have z := lf9 h hk; z)))))))))))))))))))))
def X12_begin_j18 (o : Nat) (a1 n1 : Nat) (v2 : Int) (d : DA) : Option (Unit × DA) :=
  lpE (fun q => X12_begin_b20 o a1 n1 v2 q.1 q.2) (0, d) (fun e => some (((), e)))
theorem X12_begin_wj18 {K : KT} (hK : Ok9 K cX12_begin RX12 4 none 1 22) {o : Nat} {a1 n1 : Nat} (hw : W_12 (kσ K) o) (ha1 : Ar K a1 n1) (hn1 : n1 < 2147483648) {v2 : Int} {d : DA} {y : Unit × DA} (h : X12_begin_j18 o a1 n1 v2 d = some y) (hk : (FV K) y) : J K 4 d [(1, rf K a1), (2, vi v2)] 18 [] :=
  j_iconst hK (dc9 DX12_begin 11 rfl) (j_istore_n hK (dc9 DX12_begin 12 rfl) rfl (Nat.le_of_ble_eq_true rfl) rfl (j_sub [1, 2, 0] rfl ((have z := j_lpE (X12_begin_T20 K o a1 n1 v2) (X12_begin_F20 K o a1 n1 v2) h (fun q y h hk => X12_begin_wb20 hK hw ha1 hn1 h hk) (fun e h => j_vret hK (dc9 DX12_begin 32 rfl) (have z := lf9 h hk; z)); z))))
def X12_begin (o : Nat) (a1 n1 : Nat) (v2 : Int) (d : DA) : Option (Unit × DA) :=
  lpE (fun q => X12_begin_b2 o a1 n1 v2 q.1 q.2) (0, d) (fun e => X12_begin_j18 o a1 n1 v2 e)
theorem X12_begin_w {K : KT} (hK : Ok9 K cX12_begin RX12 4 none 1 22) {o : Nat} {a1 n1 : Nat} (hw : W_12 (kσ K) o) (ha1 : Ar K a1 n1) (hn1 : n1 < 2147483648) {v2 : Int} {d : DA} {y : Unit × DA} (h : X12_begin o a1 n1 v2 d = some y) (hk : (FV K) y) : J K 4 d [(0, rf K o), (1, rf K a1), (2, vi v2)] 0 [] :=
  j_iconst hK (dc9 DX12_begin 0 rfl) (j_istore_n hK (dc9 DX12_begin 1 rfl) rfl (Nat.le_of_ble_eq_true rfl) rfl (j_sub [2, 3, 0] rfl ((have z := j_lpE (X12_begin_T2 K o a1 n1 v2) (X12_begin_F2 K o a1 n1 v2) h (fun q y h hk => X12_begin_wb2 hK hw ha1 hn1 h hk) (fun e h => X12_begin_wj18 hK hw ha1 hn1 h hk); z))))
theorem c_X12_begin {G : GT} {l : Launch} {ad : Nat → Nat} {σ : HS} {d d' : DA} (hst : l.stackTraces = false) {o : Nat} {a1 n1 : Nat} (hw : W_12 σ o) (ha1 : ArS σ a1 n1) (hn1 : n1 < 2147483648) {v2 : Int} {r : Unit} (h : X12_begin o a1 n1 v2 d = some (r, d')) : Ct G l yX12_begin cX12_begin 4 none 1 22 ad (wD σ d) [.ref (ad o), .ref (ad a1), vi v2] none (wD σ d') :=
  ct_of hst rfl (Nat.le_of_ble_eq_true rfl) (fun K e0 e9 e1 e2 e3 hK => by subst e0; subst e9; subst e1; subst e2; exact X12_begin_w hK hw ha1 hn1 h e3)
/-! X12_takeRead -/
theorem DX12_takeRead : Dt cX12_takeRead [(0, .aload_n 0, 1, 1), (1, .aload_n 0, 1, 2), (2, .getfield 253, 3, 5), (5, .putfield 7, 3, 8), (8, .iconst 0, 1, 9), (9, .istore_n 1, 1, 10), (10, .iload_n 1, 1, 11), (11, .bipush 125, 2, 13), (13, .if_icmp .ge 21, 3, 16), (16, .aload_n 0, 1, 17), (17, .getfield 16, 3, 20), (20, .iload_n 1, 1, 21), (21, .aload_n 0, 1, 22), (22, .getfield 23, 3, 25), (25, .iload_n 1, 1, 26), (26, .iaload, 1, 27), (27, .iastore, 1, 28), (28, .iinc 1 1, 3, 31), (31, .goto (-21), 3, 34), (34, .aload_n 0, 1, 35), (35, .invokevirtual 162, 3, 38), (38, .return_, 1, 39)] := by unfold Dt; decide +kernel
def X12_takeRead_T10 (K : KT) (o : Nat) (q : Int × DA) : Prop := J K 2 q.2 [(0, rf K o), (1, vi (q.1))] 10 []
def X12_takeRead_F10 (K : KT) (o : Nat) (q : DA) : Prop := J K 2 q [(0, rf K o)] 34 []
def X12_takeRead_b10 (o : Nat) (v1 : Int) (d : DA) : Option ((Int × DA) ⊕ (DA)) :=
  gd (inR v1 ∧ inR 125) <|
  if 125 ≤ v1 then (some (.inr d)) else
  gd (ix v1 125) <|
  gd (ix v1 125) <|
  lt9 (wI d (o + 1) (Int.toNat v1) (d.1 (o + 3) (Int.toNat v1))) fun d2 =>
  some (.inl (v1 + 1, d2))
theorem X12_takeRead_wb10 {K : KT} (hK : Ok9 K cX12_takeRead RX12 2 none 1 21) {o : Nat} (hw : W_12 (kσ K) o) {v1 : Int} {d : DA} {y : (Int × DA) ⊕ (DA)} (h : X12_takeRead_b10 o v1 d = some y) (hk : S2 (X12_takeRead_T10 K o) (X12_takeRead_F10 K o) y) : J K 2 d [(0, rf K o), (1, vi v1)] 10 [] :=
  j_iload_n hK (dc9 DX12_takeRead 6 rfl) 1 rfl rfl (j_bipush hK (dc9 DX12_takeRead 7 rfl) (by decide) (j_icmp_ge hK (dj9 DX12_takeRead 8 34 rfl rfl) h (fun h => j_sub [0] rfl ((have z := lf9 h hk; z))) (fun h =>
  j_aload_n hK (dc9 DX12_takeRead 9 rfl) 0 rfl rfl (j_getR hK (hw.1) fl12_16 rfl (hw.2.1.1) (hw.2.1.2.1) (dc9 DX12_takeRead 10 rfl) (j_iload_n hK (dc9 DX12_takeRead 11 rfl) 1 rfl rfl (j_aload_n hK (dc9 DX12_takeRead 12 rfl) 0 rfl rfl (j_getR hK (hw.1) fl12_23 rfl (hw.2.2.2.1.1) (hw.2.2.2.1.2.1) (dc9 DX12_takeRead 13 rfl) (j_iload_n hK (dc9 DX12_takeRead 14 rfl) 1 rfl rfl (j_iald hK (hw.2.2.2.1.2) (Nat.le_of_ble_eq_true rfl) (dc9 DX12_takeRead 15 rfl) h fun h => (j_iast hK (hw.2.1.2) (Nat.le_of_ble_eq_true rfl) (dc9 DX12_takeRead 16 rfl) h fun d2 h => (j_iinc hK (dc9 DX12_takeRead 17 rfl) 1 rfl (Nat.le_of_ble_eq_true rfl) rfl (j_goto hK (dj9 DX12_takeRead 18 10 rfl rfl) (j_sub [1, 0] rfl ((have z := lf9 h hk; z)))))))))))))))
def X12_takeRead_j34 (o : Nat) (d : DA) : Option (Unit × DA) :=
  bd (X12_fresh o d) fun _ d3 =>
  some (((), d3))
theorem X12_takeRead_wj34 {K : KT} (hK : Ok9 K cX12_takeRead RX12 2 none 1 21) {o : Nat} (hw : W_12 (kσ K) o) {d : DA} {y : Unit × DA} (h : X12_takeRead_j34 o d = some y) (hk : (FV K) y) : J K 2 d [(0, rf K o)] 34 [] :=
  j_aload_n hK (dc9 DX12_takeRead 19 rfl) 0 rfl rfl (bd9 h fun _ d3 hc h => j_cV hK (c_X12_fresh (hst9 hK) (hw) hc) cl12_162 cd_X12_fresh im_X12_fresh se_X12_fresh (hw.1) (Nat.le_of_ble_eq_true rfl) rfl (Nat.le_of_ble_eq_true rfl) (Nat.le_of_ble_eq_true rfl) rfl (st := []) rfl (Nat.le_of_ble_eq_true rfl) (dc9 DX12_takeRead 20 rfl) rfl (j_vret hK (dc9 DX12_takeRead 21 rfl) (have z := lf9 h hk; z)))
def X12_takeRead (o : Nat) (d : DA) : Option (Unit × DA) :=
  lt9 (wI d o 1 (d.1 o 3)) fun d1 =>
  lpE (fun q => X12_takeRead_b10 o q.1 q.2) (0, d1) (fun e => X12_takeRead_j34 o e)
theorem X12_takeRead_w {K : KT} (hK : Ok9 K cX12_takeRead RX12 2 none 1 21) {o : Nat} (hw : W_12 (kσ K) o) {d : DA} {y : Unit × DA} (h : X12_takeRead o d = some y) (hk : (FV K) y) : J K 2 d [(0, rf K o)] 0 [] :=
  j_aload_n hK (dc9 DX12_takeRead 0 rfl) 0 rfl rfl (j_aload_n hK (dc9 DX12_takeRead 1 rfl) 0 rfl rfl (j_getI hK (hw.1) fl12_253 rfl (dc9 DX12_takeRead 2 rfl) (j_putI hK (hw.1) fl12_7 fp12_7 rfl (dc9 DX12_takeRead 3 rfl) h fun d1 h => (j_iconst hK (dc9 DX12_takeRead 4 rfl) (j_istore_n hK (dc9 DX12_takeRead 5 rfl) rfl (Nat.le_of_ble_eq_true rfl) rfl (j_sub [1, 0] rfl ((have z := j_lpE (X12_takeRead_T10 K o) (X12_takeRead_F10 K o) h (fun q y h hk => X12_takeRead_wb10 hK hw h hk) (fun e h => X12_takeRead_wj34 hK hw h hk); z))))))))
theorem c_X12_takeRead {G : GT} {l : Launch} {ad : Nat → Nat} {σ : HS} {d d' : DA} (hst : l.stackTraces = false) {o : Nat} (hw : W_12 σ o) {r : Unit} (h : X12_takeRead o  d = some (r, d')) : Ct G l yX12_takeRead cX12_takeRead 2 none 1 21 ad (wD σ d) [.ref (ad o)] none (wD σ d') :=
  ct_of hst rfl (Nat.le_of_ble_eq_true rfl) (fun K e0 e9 e1 e2 e3 hK => by subst e0; subst e9; subst e1; subst e2; exact X12_takeRead_w hK hw h e3)
/-! X12_fault -/
theorem DX12_fault : Dt cX12_fault [(0, .aload_n 0, 1, 1), (1, .iconst 0, 1, 2), (2, .putfield 165, 3, 5), (5, .aload_n 0, 1, 6), (6, .getfield 56, 3, 9), (9, .ireturn, 1, 10)] := by unfold Dt; decide +kernel
def X12_fault (o : Nat) (d : DA) : Option (Int × DA) :=
  lt9 (wI d o 0 0) fun d1 =>
  some ((d1.1 o 30, d1))
theorem X12_fault_w {K : KT} (hK : Ok9 K cX12_fault RX12 1 (some .int) 0 0) {o : Nat} (hw : W_12 (kσ K) o) {d : DA} {y : Int × DA} (h : X12_fault o d = some y) (hk : (FI K) y) : J K 1 d [(0, rf K o)] 0 [] :=
  j_aload_n hK (dc9 DX12_fault 0 rfl) 0 rfl rfl (j_iconst hK (dc9 DX12_fault 1 rfl) (j_putI hK (hw.1) fl12_165 fp12_165 rfl (dc9 DX12_fault 2 rfl) h fun d1 h => (j_aload_n hK (dc9 DX12_fault 3 rfl) 0 rfl rfl (j_getI hK (hw.1) fl12_56 rfl (dc9 DX12_fault 4 rfl) (j_iret hK (dc9 DX12_fault 5 rfl) (have z := lf9 h hk; z))))))
theorem c_X12_fault {G : GT} {l : Launch} {ad : Nat → Nat} {σ : HS} {d d' : DA} (hst : l.stackTraces = false) {o : Nat} (hw : W_12 σ o) {r : Int} (h : X12_fault o  d = some (r, d')) : Ct G l yX12_fault cX12_fault 1 (some .int) 0 0 ad (wD σ d) [.ref (ad o)] (some (vi r)) (wD σ d') :=
  ct_of hst rfl (Nat.le_of_ble_eq_true rfl) (fun K e0 e9 e1 e2 e3 hK => by subst e0; subst e9; subst e1; subst e2; exact X12_fault_w hK hw h e3)
/-! X12_levelOf -/
theorem DX12_levelOf : Dt cX12_levelOf [(0, .iload_n 0, 1, 1), (1, .iload_n 1, 1, 2), (2, .iadd, 1, 3), (3, .iload_n 2, 1, 4), (4, .iadd, 1, 5), (5, .iconst 2, 1, 6), (6, .irem, 1, 7), (7, .ifCond .ne 39, 3, 10), (10, .iload_n 2, 1, 11), (11, .iload_n 0, 1, 12), (12, .iload_n 1, 1, 13), (13, .isub, 1, 14), (14, .if_icmp .lt 32, 3, 17), (17, .iload_n 2, 1, 18), (18, .iload_n 1, 1, 19), (19, .iload_n 0, 1, 20), (20, .isub, 1, 21), (21, .if_icmp .lt 25, 3, 24), (24, .iload_n 2, 1, 25), (25, .iload_n 0, 1, 26), (26, .iload_n 1, 1, 27), (27, .iadd, 1, 28), (28, .if_icmp .gt 18, 3, 31), (31, .iload_n 0, 1, 32), (32, .iload_n 1, 1, 33), (33, .iadd, 1, 34), (34, .iload_n 2, 1, 35), (35, .iadd, 1, 36), (36, .iconst 2, 1, 37), (37, .iload_n 3, 1, 38), (38, .imul, 1, 39), (39, .if_icmp .gt 7, 3, 42), (42, .iconst 1, 1, 43), (43, .goto 4, 3, 46), (46, .iconst 0, 1, 47), (47, .ireturn, 1, 48)] := by unfold Dt; decide +kernel
def X12_levelOf_j46  (d : DA) : Option (Int) :=
  some (0)
theorem X12_levelOf_wj46 {K : KT} (hK : Ok9 K cX12_levelOf RX12 4 (some .int) 0 0)   {d : DA} {y : Int} (h : X12_levelOf_j46  d = some y) (hk : (FI0 K d) y) : J K 4 d [] 46 [] :=
  j_iconst hK (dc9 DX12_levelOf 34 rfl) (j_iret hK (dc9 DX12_levelOf 35 rfl) (have z := lf9 h hk; z))
def X12_levelOf  (v0 v1 v2 v3 : Int) (d : DA) : Option (Int) :=
  gd (dvg ((v0 + v1) + v2) 2) <|
  gd (inR (Int.tmod ((v0 + v1) + v2) 2)) <|
  if (Int.tmod ((v0 + v1) + v2) 2) = 0 then (gd (inR v2 ∧ inR (v0 - v1)) <|
  if v2 < (v0 - v1) then (X12_levelOf_j46  d) else
  gd (inR v2 ∧ inR (v1 - v0)) <|
  if v2 < (v1 - v0) then (X12_levelOf_j46  d) else
  gd (inR v2 ∧ inR (v0 + v1)) <|
  if (v0 + v1) < v2 then (X12_levelOf_j46  d) else
  gd (inR ((v0 + v1) + v2) ∧ inR (2 * v3)) <|
  if (2 * v3) < ((v0 + v1) + v2) then (X12_levelOf_j46  d) else
  some (1)) else
  X12_levelOf_j46  d
theorem X12_levelOf_w {K : KT} (hK : Ok9 K cX12_levelOf RX12 4 (some .int) 0 0)   {v0 v1 v2 v3 : Int} {d : DA} {y : Int} (h : X12_levelOf  v0 v1 v2 v3 d = some y) (hk : (FI0 K d) y) : J K 4 d [(0, vi v0), (1, vi v1), (2, vi v2), (3, vi v3)] 0 [] :=
  j_iload_n hK (dc9 DX12_levelOf 0 rfl) 0 rfl rfl (j_iload_n hK (dc9 DX12_levelOf 1 rfl) 1 rfl rfl (j_iadd hK (dc9 DX12_levelOf 2 rfl) (j_iload_n hK (dc9 DX12_levelOf 3 rfl) 2 rfl rfl (j_iadd hK (dc9 DX12_levelOf 4 rfl) (j_iconst hK (dc9 DX12_levelOf 5 rfl) (j_irem hK (dc9 DX12_levelOf 6 rfl) h fun h => (j_if_ne hK (dj9 DX12_levelOf 7 46 rfl rfl) h (fun h => j_sub [] rfl (X12_levelOf_wj46 hK  h hk)) (fun h =>
  j_iload_n hK (dc9 DX12_levelOf 8 rfl) 2 rfl rfl (j_iload_n hK (dc9 DX12_levelOf 9 rfl) 0 rfl rfl (j_iload_n hK (dc9 DX12_levelOf 10 rfl) 1 rfl rfl (j_isub hK (dc9 DX12_levelOf 11 rfl) (j_icmp_lt hK (dj9 DX12_levelOf 12 46 rfl rfl) h (fun h => j_sub [] rfl (X12_levelOf_wj46 hK  h hk)) (fun h =>
  j_iload_n hK (dc9 DX12_levelOf 13 rfl) 2 rfl rfl (j_iload_n hK (dc9 DX12_levelOf 14 rfl) 1 rfl rfl (j_iload_n hK (dc9 DX12_levelOf 15 rfl) 0 rfl rfl (j_isub hK (dc9 DX12_levelOf 16 rfl) (j_icmp_lt hK (dj9 DX12_levelOf 17 46 rfl rfl) h (fun h => j_sub [] rfl (X12_levelOf_wj46 hK  h hk)) (fun h =>
  j_iload_n hK (dc9 DX12_levelOf 18 rfl) 2 rfl rfl (j_iload_n hK (dc9 DX12_levelOf 19 rfl) 0 rfl rfl (j_iload_n hK (dc9 DX12_levelOf 20 rfl) 1 rfl rfl (j_iadd hK (dc9 DX12_levelOf 21 rfl) (j_icmp_gt hK (dj9 DX12_levelOf 22 46 rfl rfl) h (fun h => j_sub [] rfl (X12_levelOf_wj46 hK  h hk)) (fun h =>
  j_iload_n hK (dc9 DX12_levelOf 23 rfl) 0 rfl rfl (j_iload_n hK (dc9 DX12_levelOf 24 rfl) 1 rfl rfl (j_iadd hK (dc9 DX12_levelOf 25 rfl) (j_iload_n hK (dc9 DX12_levelOf 26 rfl) 2 rfl rfl (j_iadd hK (dc9 DX12_levelOf 27 rfl) (j_iconst hK (dc9 DX12_levelOf 28 rfl) (j_iload_n hK (dc9 DX12_levelOf 29 rfl) 3 rfl rfl (j_imul hK (dc9 DX12_levelOf 30 rfl) (j_icmp_gt hK (dj9 DX12_levelOf 31 46 rfl rfl) h (fun h => j_sub [] rfl (X12_levelOf_wj46 hK  h hk)) (fun h =>
  j_iconst hK (dc9 DX12_levelOf 32 rfl) (j_goto hK (dj9 DX12_levelOf 33 47 rfl rfl) (j_iret hK (dc9 DX12_levelOf 35 rfl) (have z := lf9 h hk; z)))))))))))))))))))))))))))))))))))
theorem c_X12_levelOf {G : GT} {l : Launch} {ad : Nat → Nat} {σ : HS} {d : DA} (hst : l.stackTraces = false)   {v0 v1 v2 v3 : Int} {r : Int} (h : X12_levelOf  v0 v1 v2 v3 d = some r) : Ct G l yX12_levelOf cX12_levelOf 4 (some .int) 0 0 ad (wD σ d) [vi v0, vi v1, vi v2, vi v3] (some (vi r)) (wD σ d) :=
  ct_of hst rfl (Nat.le_of_ble_eq_true rfl) (fun K e0 e9 e1 e2 e3 hK => by subst e0; subst e9; subst e1; subst e2; exact X12_levelOf_w hK  h e3)
/-! X12_nearOf -/
theorem DX12_nearOf : Dt cX12_nearOf [(0, .iload_n 0, 1, 1), (1, .iload_n 3, 1, 2), (2, .if_icmp .ne 20, 3, 5), (5, .iload_n 1, 1, 6), (6, .iload_n 3, 1, 7), (7, .if_icmp .ne 15, 3, 10), (10, .iload_n 2, 1, 11), (11, .iload_n 3, 1, 12), (12, .if_icmp .ne 8, 3, 15), (15, .iload 4, 2, 17), (17, .goto 4, 3, 20), (20, .iconst 1, 1, 21), (21, .ireturn, 1, 22), (22, .iload_n 0, 1, 23), (23, .iload_n 3, 1, 24), (24, .if_icmp .eq 8, 3, 27), (27, .iload_n 1, 1, 28), (28, .iload_n 3, 1, 29), (29, .if_icmp .ne 14, 3, 32), (32, .iload_n 2, 1, 33), (33, .iload_n 3, 1, 34), (34, .if_icmp .ne 7, 3, 37), (37, .iconst 1, 1, 38), (38, .goto 4, 3, 41), (41, .iconst 0, 1, 42), (42, .ireturn, 1, 43), (43, .iload_n 2, 1, 44), (44, .iload_n 0, 1, 45), (45, .iload_n 1, 1, 46), (46, .iadd, 1, 47), (47, .iload_n 3, 1, 48), (48, .irem, 1, 49), (49, .if_icmp .ne 7, 3, 52), (52, .iconst 1, 1, 53), (53, .goto 4, 3, 56), (56, .iconst 0, 1, 57), (57, .ireturn, 1, 58)] := by unfold Dt; decide +kernel
def X12_nearOf_j32  (v2 v3 : Int) (d : DA) : Option (Int) :=
  gd (inR v2 ∧ inR v3) <|
  if v2 = v3 then (some (1)) else
  some (0)
theorem X12_nearOf_wj32 {K : KT} (hK : Ok9 K cX12_nearOf RX12 5 (some .int) 0 0)   {v2 v3 : Int} {d : DA} {y : Int} (h : X12_nearOf_j32  v2 v3 d = some y) (hk : (FI0 K d) y) : J K 5 d [(2, vi v2), (3, vi v3)] 32 [] :=
  j_iload_n hK (dc9 DX12_nearOf 19 rfl) 0 rfl rfl (j_iload_n hK (dc9 DX12_nearOf 20 rfl) 1 rfl rfl (j_icmp_ne hK (dj9 DX12_nearOf 21 41 rfl rfl) h (fun h => j_iconst hK (dc9 DX12_nearOf 24 rfl) (j_iret hK (dc9 DX12_nearOf 25 rfl) (have z := lf9 h hk; z))) (fun h =>
  j_iconst hK (dc9 DX12_nearOf 22 rfl) (j_goto hK (dj9 DX12_nearOf 23 42 rfl rfl) (j_iret hK (dc9 DX12_nearOf 25 rfl) (have z := lf9 h hk; z))))))
def X12_nearOf_j22  (v0 v1 v2 v3 : Int) (d : DA) : Option (Int) :=
  gd (inR v0 ∧ inR v3) <|
  if v0 = v3 then (X12_nearOf_j32  v2 v3 d) else
  gd (inR v1 ∧ inR v3) <|
  if v1 = v3 then (X12_nearOf_j32  v2 v3 d) else
  gd (dvg (v0 + v1) v3) <|
  gd (inR v2 ∧ inR (Int.tmod (v0 + v1) v3)) <|
  if v2 = (Int.tmod (v0 + v1) v3) then (some (1)) else
  some (0)
theorem X12_nearOf_wj22 {K : KT} (hK : Ok9 K cX12_nearOf RX12 5 (some .int) 0 0)   {v0 v1 v2 v3 : Int} {d : DA} {y : Int} (h : X12_nearOf_j22  v0 v1 v2 v3 d = some y) (hk : (FI0 K d) y) : J K 5 d [(0, vi v0), (1, vi v1), (2, vi v2), (3, vi v3)] 22 [] :=
  j_iload_n hK (dc9 DX12_nearOf 13 rfl) 0 rfl rfl (j_iload_n hK (dc9 DX12_nearOf 14 rfl) 3 rfl rfl (j_icmp_eq hK (dj9 DX12_nearOf 15 32 rfl rfl) h (fun h => j_sub [2, 3] rfl (X12_nearOf_wj32 hK  h hk)) (fun h =>
  j_iload_n hK (dc9 DX12_nearOf 16 rfl) 1 rfl rfl (j_iload_n hK (dc9 DX12_nearOf 17 rfl) 3 rfl rfl (j_icmp_ne hK (dj9 DX12_nearOf 18 43 rfl rfl) h (fun h => j_iload_n hK (dc9 DX12_nearOf 26 rfl) 2 rfl rfl (j_iload_n hK (dc9 DX12_nearOf 27 rfl) 0 rfl rfl (j_iload_n hK (dc9 DX12_nearOf 28 rfl) 1 rfl rfl (j_iadd hK (dc9 DX12_nearOf 29 rfl) (j_iload_n hK (dc9 DX12_nearOf 30 rfl) 3 rfl rfl (j_irem hK (dc9 DX12_nearOf 31 rfl) h fun h => (j_icmp_ne hK (dj9 DX12_nearOf 32 56 rfl rfl) h (fun h => j_iconst hK (dc9 DX12_nearOf 35 rfl) (j_iret hK (dc9 DX12_nearOf 36 rfl) (have z := lf9 h hk; z))) (fun h =>
  j_iconst hK (dc9 DX12_nearOf 33 rfl) (j_goto hK (dj9 DX12_nearOf 34 57 rfl rfl) (j_iret hK (dc9 DX12_nearOf 36 rfl) (have z := lf9 h hk; z))))))))))) (fun h =>
  j_sub [2, 3] rfl (X12_nearOf_wj32 hK  h hk)))))))
def X12_nearOf  (v0 v1 v2 v3 v4 : Int) (d : DA) : Option (Int) :=
  gd (inR v0 ∧ inR v3) <|
  if v0 = v3 then (gd (inR v1 ∧ inR v3) <|
  if v1 = v3 then (gd (inR v2 ∧ inR v3) <|
  if v2 = v3 then (some (v4)) else
  some (1)) else
  X12_nearOf_j22  v0 v1 v2 v3 d) else
  X12_nearOf_j22  v0 v1 v2 v3 d
theorem X12_nearOf_w {K : KT} (hK : Ok9 K cX12_nearOf RX12 5 (some .int) 0 0)   {v0 v1 v2 v3 v4 : Int} {d : DA} {y : Int} (h : X12_nearOf  v0 v1 v2 v3 v4 d = some y) (hk : (FI0 K d) y) : J K 5 d [(0, vi v0), (1, vi v1), (2, vi v2), (3, vi v3), (4, vi v4)] 0 [] :=
  j_iload_n hK (dc9 DX12_nearOf 0 rfl) 0 rfl rfl (j_iload_n hK (dc9 DX12_nearOf 1 rfl) 3 rfl rfl (j_icmp_ne hK (dj9 DX12_nearOf 2 22 rfl rfl) h (fun h => j_sub [0, 1, 2, 3] rfl (X12_nearOf_wj22 hK  h hk)) (fun h =>
  j_iload_n hK (dc9 DX12_nearOf 3 rfl) 1 rfl rfl (j_iload_n hK (dc9 DX12_nearOf 4 rfl) 3 rfl rfl (j_icmp_ne hK (dj9 DX12_nearOf 5 22 rfl rfl) h (fun h => j_sub [0, 1, 2, 3] rfl (X12_nearOf_wj22 hK  h hk)) (fun h =>
  j_iload_n hK (dc9 DX12_nearOf 6 rfl) 2 rfl rfl (j_iload_n hK (dc9 DX12_nearOf 7 rfl) 3 rfl rfl (j_icmp_ne hK (dj9 DX12_nearOf 8 20 rfl rfl) h (fun h => j_iconst hK (dc9 DX12_nearOf 11 rfl) (j_iret hK (dc9 DX12_nearOf 12 rfl) (have z := lf9 h hk; z))) (fun h =>
  j_iload hK (dc9 DX12_nearOf 9 rfl) 4 rfl (j_goto hK (dj9 DX12_nearOf 10 21 rfl rfl) (j_iret hK (dc9 DX12_nearOf 12 rfl) (have z := lf9 h hk; z))))))))))))
theorem c_X12_nearOf {G : GT} {l : Launch} {ad : Nat → Nat} {σ : HS} {d : DA} (hst : l.stackTraces = false)   {v0 v1 v2 v3 v4 : Int} {r : Int} (h : X12_nearOf  v0 v1 v2 v3 v4 d = some r) : Ct G l yX12_nearOf cX12_nearOf 5 (some .int) 0 0 ad (wD σ d) [vi v0, vi v1, vi v2, vi v3, vi v4] (some (vi r)) (wD σ d) :=
  ct_of hst rfl (Nat.le_of_ble_eq_true rfl) (fun K e0 e9 e1 e2 e3 hK => by subst e0; subst e9; subst e1; subst e2; exact X12_nearOf_w hK  h e3)
/-! X12_make -/
theorem DX12_make : Dt cX12_make [(0, .aload_n 0, 1, 1), (1, .iconst 0, 1, 2), (2, .putfield 165, 3, 5), (5, .iload_n 1, 1, 6), (6, .ifCond .ne 12, 3, 9), (9, .iload_n 2, 1, 10), (10, .iconst 1, 1, 11), (11, .iconst 5, 1, 12), (12, .invokestatic 168, 3, 15), (15, .goto 46, 3, 18), (18, .iload_n 1, 1, 19), (19, .iconst 1, 1, 20), (20, .if_icmp .ne 12, 3, 23), (23, .iload_n 2, 1, 24), (24, .iconst 0, 1, 25), (25, .iconst 4, 1, 26), (26, .invokestatic 168, 3, 29), (29, .goto 32, 3, 32), (32, .iload_n 1, 1, 33), (33, .iconst 2, 1, 34), (34, .if_icmp .ne 26, 3, 37), (37, .iload_n 2, 1, 38), (38, .iconst 1, 1, 39), (39, .iconst 4, 1, 40), (40, .invokestatic 168, 3, 43), (43, .ifCond .eq 17, 3, 46), (46, .iload_n 3, 1, 47), (47, .iconst 0, 1, 48), (48, .bipush 9, 2, 50), (50, .invokestatic 168, 3, 53), (53, .ifCond .eq 7, 3, 56), (56, .iconst 1, 1, 57), (57, .goto 4, 3, 60), (60, .iconst 0, 1, 61), (61, .istore 4, 2, 63), (63, .iload 4, 2, 65), (65, .ifCond .ne 9, 3, 68), (68, .aload_n 0, 1, 69), (69, .iconst 1, 1, 70), (70, .invokevirtual 271, 3, 73), (73, .ireturn, 1, 74), (74, .aload_n 0, 1, 75), (75, .iload_n 1, 1, 76), (76, .ifCond .ne 7, 3, 79), (79, .iload_n 2, 1, 80), (80, .goto 6, 3, 83), (83, .iload_n 2, 1, 84), (84, .iconst 1, 1, 85), (85, .iadd, 1, 86), (86, .putfield 253, 3, 89), (89, .aload_n 0, 1, 90), (90, .aload_n 0, 1, 91), (91, .getfield 23, 3, 94), (94, .aload_n 0, 1, 95), (95, .getfield 253, 3, 98), (98, .invokevirtual 279, 3, 101), (101, .iconst 0, 1, 102), (102, .istore 5, 2, 104), (104, .iload 5, 2, 106), (106, .aload_n 0, 1, 107), (107, .getfield 253, 3, 110), (110, .if_icmp .ge 112, 3, 113), (113, .iconst 0, 1, 114), (114, .istore 6, 2, 116), (116, .iload 6, 2, 118), (118, .aload_n 0, 1, 119), (119, .getfield 253, 3, 122), (122, .if_icmp .ge 94, 3, 125), (125, .iconst 0, 1, 126), (126, .istore 7, 2, 128), (128, .iload 7, 2, 130), (130, .aload_n 0, 1, 131), (131, .getfield 253, 3, 134), (134, .if_icmp .ge 76, 3, 137), (137, .aload_n 0, 1, 138), (138, .getfield 23, 3, 141), (141, .iload 5, 2, 143), (143, .iload 6, 2, 145), (145, .iload 7, 2, 147), (147, .invokestatic 172, 3, 150), (150, .iload_n 1, 1, 151), (151, .ifCond .ne 23, 3, 154), (154, .iload 7, 2, 156), (156, .iload 5, 2, 158), (158, .iload 6, 2, 160), (160, .iadd, 1, 161), (161, .iload_n 2, 1, 162), (162, .irem, 1, 163), (163, .if_icmp .ne 7, 3, 166), (166, .iconst 1, 1, 167), (167, .goto 36, 3, 170), (170, .iconst 0, 1, 171), (171, .goto 32, 3, 174), (174, .iload_n 1, 1, 175), (175, .iconst 1, 1, 176), (176, .if_icmp .ne 16, 3, 179), (179, .iload 5, 2, 181), (181, .iload 6, 2, 183), (183, .iload 7, 2, 185), (185, .iload_n 2, 1, 186), (186, .invokestatic 289, 3, 189), (189, .goto 14, 3, 192), (192, .iload 5, 2, 194), (194, .iload 6, 2, 196), (196, .iload 7, 2, 198), (198, .iload_n 2, 1, 199), (199, .iload_n 3, 1, 200), (200, .invokestatic 293, 3, 203), (203, .iastore, 1, 204), (204, .iinc 7 1, 3, 207), (207, .goto (-79), 3, 210), (210, .iinc 6 1, 3, 213), (213, .goto (-97), 3, 216), (216, .iinc 5 1, 3, 219), (219, .goto (-115), 3, 222), (222, .aload_n 0, 1, 223), (223, .invokevirtual 286, 3, 226), (226, .aload_n 0, 1, 227), (227, .getfield 7, 3, 230), (230, .ireturn, 1, 231)] := by unfold Dt; decide +kernel
def X12_make_T104 (K : KT) (o : Nat) (v1 : Int) (v2 : Int) (v3 : Int) (q : Int × DA) : Prop := J K 8 q.2 [(0, rf K o), (1, vi v1), (2, vi v2), (3, vi v3), (5, vi (q.1))] 104 []
def X12_make_F104 (K : KT) (o : Nat) (v1 : Int) (v2 : Int) (v3 : Int) (q : DA) : Prop := J K 8 q [(0, rf K o)] 222 []
def X12_make_T116 (K : KT) (o : Nat) (v1 : Int) (v2 : Int) (v3 : Int) (v5 : Int) (q : Int × DA) : Prop := J K 8 q.2 [(0, rf K o), (1, vi v1), (2, vi v2), (3, vi v3), (5, vi v5), (6, vi (q.1))] 116 []
def X12_make_F116 (K : KT) (o : Nat) (v1 : Int) (v2 : Int) (v3 : Int) (v5 : Int) (q : DA) : Prop := J K 8 q [(0, rf K o), (1, vi v1), (2, vi v2), (3, vi v3), (5, vi v5)] 216 []
def X12_make_T128 (K : KT) (o : Nat) (v1 : Int) (v2 : Int) (v3 : Int) (v5 : Int) (v6 : Int) (q : Int × DA) : Prop := J K 8 q.2 [(0, rf K o), (1, vi v1), (2, vi v2), (3, vi v3), (5, vi v5), (6, vi v6), (7, vi (q.1))] 128 []
def X12_make_F128 (K : KT) (o : Nat) (v1 : Int) (v2 : Int) (v3 : Int) (v5 : Int) (v6 : Int) (q : DA) : Prop := J K 8 q [(0, rf K o), (1, vi v1), (2, vi v2), (3, vi v3), (5, vi v5), (6, vi v6)] 210 []
def X12_make_b128 (o : Nat) (v1 v2 v3 v5 v6 v7 : Int) (d : DA) : Option ((Int × DA) ⊕ (DA)) :=
  gd (inR v7 ∧ inR (d.1 o 3)) <|
  if (d.1 o 3) ≤ v7 then (some (.inr d)) else
  b1 (X12_cell v5 v6 v7 d) fun x4 =>
  gd (inR v1) <|
  if v1 = 0 then (gd (dvg (v5 + v6) v2) <|
  gd (inR v7 ∧ inR (Int.tmod (v5 + v6) v2)) <|
  if v7 = (Int.tmod (v5 + v6) v2) then (gd (ix x4 125) <|
  lt9 (wI d (o + 3) (Int.toNat x4) 1) fun d10 =>
  some (.inl (v7 + 1, d10))) else
  gd (ix x4 125) <|
  lt9 (wI d (o + 3) (Int.toNat x4) 0) fun d9 =>
  some (.inl (v7 + 1, d9))) else
  gd (inR v1 ∧ inR 1) <|
  if v1 = 1 then (b1 (X12_levelOf v5 v6 v7 v2 d) fun x7 =>
  gd (ix x4 125) <|
  lt9 (wI d (o + 3) (Int.toNat x4) x7) fun d8 =>
  some (.inl (v7 + 1, d8))) else
  b1 (X12_nearOf v5 v6 v7 v2 v3 d) fun x5 =>
  gd (ix x4 125) <|
  lt9 (wI d (o + 3) (Int.toNat x4) x5) fun d6 =>
  some (.inl (v7 + 1, d6))
theorem X12_make_wb128 {K : KT} (hK : Ok9 K cX12_make RX12 8 (some .int) 2 45) {o : Nat} (hw : W_12 (kσ K) o) {v1 v2 v3 v5 v6 v7 : Int} {d : DA} {y : (Int × DA) ⊕ (DA)} (h : X12_make_b128 o v1 v2 v3 v5 v6 v7 d = some y) (hk : S2 (X12_make_T128 K o v1 v2 v3 v5 v6) (X12_make_F128 K o v1 v2 v3 v5 v6) y) : J K 8 d [(0, rf K o), (1, vi v1), (2, vi v2), (3, vi v3), (5, vi v5), (6, vi v6), (7, vi v7)] 128 [] :=
  j_iload hK (dc9 DX12_make 70 rfl) 6 rfl (j_aload_n hK (dc9 DX12_make 71 rfl) 0 rfl rfl (j_getI hK (hw.1) fl12_253 rfl (dc9 DX12_make 72 rfl) (j_icmp_ge hK (dj9 DX12_make 73 210 rfl rfl) h (fun h => j_sub [0, 1, 2, 3, 4, 5] rfl ((have z := lf9 h hk; z))) (fun h =>
  j_aload_n hK (dc9 DX12_make 74 rfl) 0 rfl rfl (j_getR hK (hw.1) fl12_23 rfl (hw.2.2.2.1.1) (hw.2.2.2.1.2.1) (dc9 DX12_make 75 rfl) (j_iload hK (dc9 DX12_make 76 rfl) 4 rfl (j_iload hK (dc9 DX12_make 77 rfl) 5 rfl (j_iload hK (dc9 DX12_make 78 rfl) 6 rfl (b19 h fun x4 hc h => j_cS hK (c_X12_cell (hst9 hK)  hc) cl12_172 cd_X12_cell sm_X12_cell (Nat.le_of_ble_eq_true rfl) (Nat.le_of_ble_eq_true rfl) rfl (st := [rf K (o + 3)]) rfl (Nat.le_of_ble_eq_true rfl) (dc9 DX12_make 79 rfl) rfl (j_iload_n hK (dc9 DX12_make 80 rfl) 1 rfl rfl (j_if_ne hK (dj9 DX12_make 81 174 rfl rfl) h (fun h => j_iload_n hK (dc9 DX12_make 93 rfl) 1 rfl rfl (j_iconst hK (dc9 DX12_make 94 rfl) (j_icmp_ne hK (dj9 DX12_make 95 192 rfl rfl) h (fun h => j_iload hK (dc9 DX12_make 102 rfl) 4 rfl (j_iload hK (dc9 DX12_make 103 rfl) 5 rfl (j_iload hK (dc9 DX12_make 104 rfl) 6 rfl (j_iload_n hK (dc9 DX12_make 105 rfl) 2 rfl rfl (j_iload_n hK (dc9 DX12_make 106 rfl) 3 rfl rfl (b19 h fun x5 hc h => j_cS hK (c_X12_nearOf (hst9 hK)  hc) cl12_293 cd_X12_nearOf sm_X12_nearOf (Nat.le_of_ble_eq_true rfl) (Nat.le_of_ble_eq_true rfl) rfl (st := [vi x4, rf K (o + 3)]) rfl (Nat.le_of_ble_eq_true rfl) (dc9 DX12_make 107 rfl) rfl (j_iast hK (hw.2.2.2.1.2) (Nat.le_of_ble_eq_true rfl) (dc9 DX12_make 108 rfl) h fun d6 h => (j_iinc hK (dc9 DX12_make 109 rfl) 6 rfl (Nat.le_of_ble_eq_true rfl) rfl (j_goto hK (dj9 DX12_make 110 128 rfl rfl) (j_sub [1, 2, 3, 4, 5, 6, 0] rfl ((have z := lf9 h hk; z)))))))))))) (fun h =>
  j_iload hK (dc9 DX12_make 96 rfl) 4 rfl (j_iload hK (dc9 DX12_make 97 rfl) 5 rfl (j_iload hK (dc9 DX12_make 98 rfl) 6 rfl (j_iload_n hK (dc9 DX12_make 99 rfl) 2 rfl rfl (b19 h fun x7 hc h => j_cS hK (c_X12_levelOf (hst9 hK)  hc) cl12_289 cd_X12_levelOf sm_X12_levelOf (Nat.le_of_ble_eq_true rfl) (Nat.le_of_ble_eq_true rfl) rfl (st := [vi x4, rf K (o + 3)]) rfl (Nat.le_of_ble_eq_true rfl) (dc9 DX12_make 100 rfl) rfl (j_goto hK (dj9 DX12_make 101 203 rfl rfl) (j_iast hK (hw.2.2.2.1.2) (Nat.le_of_ble_eq_true rfl) (dc9 DX12_make 108 rfl) h fun d8 h => (j_iinc hK (dc9 DX12_make 109 rfl) 6 rfl (Nat.le_of_ble_eq_true rfl) rfl (j_goto hK (dj9 DX12_make 110 128 rfl rfl) (j_sub [1, 2, 3, 4, 5, 6, 0] rfl ((have z := lf9 h hk; z))))))))))))))) (fun h =>
  j_iload hK (dc9 DX12_make 82 rfl) 6 rfl (j_iload hK (dc9 DX12_make 83 rfl) 4 rfl (j_iload hK (dc9 DX12_make 84 rfl) 5 rfl (j_iadd hK (dc9 DX12_make 85 rfl) (j_iload_n hK (dc9 DX12_make 86 rfl) 2 rfl rfl (j_irem hK (dc9 DX12_make 87 rfl) h fun h => (j_icmp_ne hK (dj9 DX12_make 88 170 rfl rfl) h (fun h => j_iconst hK (dc9 DX12_make 91 rfl) (j_goto hK (dj9 DX12_make 92 203 rfl rfl) (j_iast hK (hw.2.2.2.1.2) (Nat.le_of_ble_eq_true rfl) (dc9 DX12_make 108 rfl) h fun d9 h => (j_iinc hK (dc9 DX12_make 109 rfl) 6 rfl (Nat.le_of_ble_eq_true rfl) rfl (j_goto hK (dj9 DX12_make 110 128 rfl rfl) (j_sub [1, 2, 3, 4, 5, 6, 0] rfl ((have z := lf9 h hk; z)))))))) (fun h =>
  j_iconst hK (dc9 DX12_make 89 rfl) (j_goto hK (dj9 DX12_make 90 203 rfl rfl) (j_iast hK (hw.2.2.2.1.2) (Nat.le_of_ble_eq_true rfl) (dc9 DX12_make 108 rfl) h fun d10 h => (j_iinc hK (dc9 DX12_make 109 rfl) 6 rfl (Nat.le_of_ble_eq_true rfl) rfl (j_goto hK (dj9 DX12_make 110 128 rfl rfl) (j_sub [1, 2, 3, 4, 5, 6, 0] rfl ((have z := lf9 h hk; z))))))))))))))))))))))))))
def X12_make_b116 (o : Nat) (v1 v2 v3 v5 v6 : Int) (d : DA) : Option ((Int × DA) ⊕ (DA)) :=
  gd (inR v6 ∧ inR (d.1 o 3)) <|
  if (d.1 o 3) ≤ v6 then (some (.inr d)) else
  lpE (fun q => X12_make_b128 o v1 v2 v3 v5 v6 q.1 q.2) (0, d) (fun e => some (.inl (v6 + 1, e)))
theorem X12_make_wb116 {K : KT} (hK : Ok9 K cX12_make RX12 8 (some .int) 2 45) {o : Nat} (hw : W_12 (kσ K) o) {v1 v2 v3 v5 v6 : Int} {d : DA} {y : (Int × DA) ⊕ (DA)} (h : X12_make_b116 o v1 v2 v3 v5 v6 d = some y) (hk : S2 (X12_make_T116 K o v1 v2 v3 v5) (X12_make_F116 K o v1 v2 v3 v5) y) : J K 8 d [(0, rf K o), (1, vi v1), (2, vi v2), (3, vi v3), (5, vi v5), (6, vi v6)] 116 [] :=
  j_iload hK (dc9 DX12_make 64 rfl) 5 rfl (j_aload_n hK (dc9 DX12_make 65 rfl) 0 rfl rfl (j_getI hK (hw.1) fl12_253 rfl (dc9 DX12_make 66 rfl) (j_icmp_ge hK (dj9 DX12_make 67 216 rfl rfl) h (fun h => j_sub [0, 1, 2, 3, 4] rfl ((have z := lf9 h hk; z))) (fun h =>
  j_iconst hK (dc9 DX12_make 68 rfl) (j_istore hK (dc9 DX12_make 69 rfl) (Nat.le_of_ble_eq_true rfl) rfl (j_sub [1, 2, 3, 4, 5, 6, 0] rfl ((have z := j_lpE (X12_make_T128 K o v1 v2 v3 v5 v6) (X12_make_F128 K o v1 v2 v3 v5 v6) h (fun q y h hk => X12_make_wb128 hK hw h hk) (fun e h => j_iinc hK (dc9 DX12_make 111 rfl) 5 rfl (Nat.le_of_ble_eq_true rfl) rfl (j_goto hK (dj9 DX12_make 112 116 rfl rfl) (j_sub [1, 2, 3, 4, 5, 0] rfl ((have z := lf9 h hk; z))))); z))))))))
def X12_make_b104 (o : Nat) (v1 v2 v3 v5 : Int) (d : DA) : Option ((Int × DA) ⊕ (DA)) :=
  gd (inR v5 ∧ inR (d.1 o 3)) <|
  if (d.1 o 3) ≤ v5 then (some (.inr d)) else
  lpE (fun q => X12_make_b116 o v1 v2 v3 v5 q.1 q.2) (0, d) (fun e => some (.inl (v5 + 1, e)))
theorem X12_make_wb104 {K : KT} (hK : Ok9 K cX12_make RX12 8 (some .int) 2 45) {o : Nat} (hw : W_12 (kσ K) o) {v1 v2 v3 v5 : Int} {d : DA} {y : (Int × DA) ⊕ (DA)} (h : X12_make_b104 o v1 v2 v3 v5 d = some y) (hk : S2 (X12_make_T104 K o v1 v2 v3) (X12_make_F104 K o v1 v2 v3) y) : J K 8 d [(0, rf K o), (1, vi v1), (2, vi v2), (3, vi v3), (5, vi v5)] 104 [] :=
  j_iload hK (dc9 DX12_make 58 rfl) 4 rfl (j_aload_n hK (dc9 DX12_make 59 rfl) 0 rfl rfl (j_getI hK (hw.1) fl12_253 rfl (dc9 DX12_make 60 rfl) (j_icmp_ge hK (dj9 DX12_make 61 222 rfl rfl) h (fun h => j_sub [0] rfl ((have z := lf9 h hk; z))) (fun h =>
  j_iconst hK (dc9 DX12_make 62 rfl) (j_istore hK (dc9 DX12_make 63 rfl) (Nat.le_of_ble_eq_true rfl) rfl (j_sub [1, 2, 3, 4, 5, 0] rfl ((have z := j_lpE (X12_make_T116 K o v1 v2 v3 v5) (X12_make_F116 K o v1 v2 v3 v5) h (fun q y h hk => X12_make_wb116 hK hw h hk) (fun e h => j_iinc hK (dc9 DX12_make 113 rfl) 4 rfl (Nat.le_of_ble_eq_true rfl) rfl (j_goto hK (dj9 DX12_make 114 104 rfl rfl) (j_sub [1, 2, 3, 4, 0] rfl ((have z := lf9 h hk; z))))); z))))))))
def X12_make_j222 (o : Nat) (d : DA) : Option (Int × DA) :=
  bd (X12_takeRead o d) fun _ d11 =>
  some ((d11.1 o 1, d11))
theorem X12_make_wj222 {K : KT} (hK : Ok9 K cX12_make RX12 8 (some .int) 2 45) {o : Nat} (hw : W_12 (kσ K) o) {d : DA} {y : Int × DA} (h : X12_make_j222 o d = some y) (hk : (FI K) y) : J K 8 d [(0, rf K o)] 222 [] :=
  j_aload_n hK (dc9 DX12_make 115 rfl) 0 rfl rfl (bd9 h fun _ d11 hc h => j_cV hK (c_X12_takeRead (hst9 hK) (hw) hc) cl12_286 cd_X12_takeRead im_X12_takeRead se_X12_takeRead (hw.1) (Nat.le_of_ble_eq_true rfl) rfl (Nat.le_of_ble_eq_true rfl) (Nat.le_of_ble_eq_true rfl) rfl (st := []) rfl (Nat.le_of_ble_eq_true rfl) (dc9 DX12_make 116 rfl) rfl (j_aload_n hK (dc9 DX12_make 117 rfl) 0 rfl rfl (j_getI hK (hw.1) fl12_7 rfl (dc9 DX12_make 118 rfl) (j_iret hK (dc9 DX12_make 119 rfl) (have z := lf9 h hk; z)))))
def X12_make_j86 (o : Nat) (v1 v2 v3 s1 : Int) (d : DA) : Option (Int × DA) :=
  lt9 (wI d o 3 s1) fun d2 =>
  bd (X12_begin o (o + 3) 125 (d2.1 o 3) d2) fun _ d3 =>
  lpE (fun q => X12_make_b104 o v1 v2 v3 q.1 q.2) (0, d3) (fun e => X12_make_j222 o e)
theorem X12_make_wj86 {K : KT} (hK : Ok9 K cX12_make RX12 8 (some .int) 2 45) {o : Nat} (hw : W_12 (kσ K) o) {v1 v2 v3 s1 : Int} {d : DA} {y : Int × DA} (h : X12_make_j86 o v1 v2 v3 s1 d = some y) (hk : (FI K) y) : J K 8 d [(0, rf K o), (1, vi v1), (2, vi v2), (3, vi v3)] 86 [vi s1, rf K o] :=
  j_putI hK (hw.1) fl12_253 fp12_253 rfl (dc9 DX12_make 49 rfl) h fun d2 h => (j_aload_n hK (dc9 DX12_make 50 rfl) 0 rfl rfl (j_aload_n hK (dc9 DX12_make 51 rfl) 0 rfl rfl (j_getR hK (hw.1) fl12_23 rfl (hw.2.2.2.1.1) (hw.2.2.2.1.2.1) (dc9 DX12_make 52 rfl) (j_aload_n hK (dc9 DX12_make 53 rfl) 0 rfl rfl (j_getI hK (hw.1) fl12_253 rfl (dc9 DX12_make 54 rfl) (bd9 h fun _ d3 hc h => j_cV hK (c_X12_begin (hst9 hK) (hw) (hw.2.2.2.1.2) (Nat.le_of_ble_eq_true rfl) hc) cl12_279 cd_X12_begin im_X12_begin se_X12_begin (hw.1) (Nat.le_of_ble_eq_true rfl) rfl (Nat.le_of_ble_eq_true rfl) (Nat.le_of_ble_eq_true rfl) rfl (st := []) rfl (Nat.le_of_ble_eq_true rfl) (dc9 DX12_make 55 rfl) rfl (j_iconst hK (dc9 DX12_make 56 rfl) (j_istore hK (dc9 DX12_make 57 rfl) (Nat.le_of_ble_eq_true rfl) rfl (j_sub [1, 2, 3, 4, 0] rfl ((have z := j_lpE (X12_make_T104 K o v1 v2 v3) (X12_make_F104 K o v1 v2 v3) h (fun q y h hk => X12_make_wb104 hK hw h hk) (fun e h => X12_make_wj222 hK hw h hk); z)))))))))))
def X12_make_j61 (o : Nat) (v1 v2 v3 s0 : Int) (d : DA) : Option (Int × DA) :=
  gd (inR s0) <|
  if s0 = 0 then (bd (X12_fail o 1 d) fun x13 d12 =>
  some ((x13, d12))) else
  gd (inR v1) <|
  if v1 = 0 then (X12_make_j86 o v1 v2 v3 v2 d) else
  X12_make_j86 o v1 v2 v3 (v2 + 1) d
theorem X12_make_wj61 {K : KT} (hK : Ok9 K cX12_make RX12 8 (some .int) 2 45) {o : Nat} (hw : W_12 (kσ K) o) {v1 v2 v3 s0 : Int} {d : DA} {y : Int × DA} (h : X12_make_j61 o v1 v2 v3 s0 d = some y) (hk : (FI K) y) : J K 8 d [(0, rf K o), (1, vi v1), (2, vi v2), (3, vi v3)] 61 [vi s0] :=
  j_istore hK (dc9 DX12_make 34 rfl) (Nat.le_of_ble_eq_true rfl) rfl (j_iload hK (dc9 DX12_make 35 rfl) 0 rfl (j_if_ne hK (dj9 DX12_make 36 74 rfl rfl) h (fun h => j_aload_n hK (dc9 DX12_make 41 rfl) 1 rfl rfl (j_iload_n hK (dc9 DX12_make 42 rfl) 2 rfl rfl (j_if_ne hK (dj9 DX12_make 43 83 rfl rfl) h (fun h => j_iload_n hK (dc9 DX12_make 46 rfl) 3 rfl rfl (j_iconst hK (dc9 DX12_make 47 rfl) (j_iadd hK (dc9 DX12_make 48 rfl) (j_sub [1, 2, 3, 4] rfl (X12_make_wj86 hK hw h hk))))) (fun h =>
  j_iload_n hK (dc9 DX12_make 44 rfl) 3 rfl rfl (j_goto hK (dj9 DX12_make 45 86 rfl rfl) (j_sub [1, 2, 3, 4] rfl (X12_make_wj86 hK hw h hk))))))) (fun h =>
  j_aload_n hK (dc9 DX12_make 37 rfl) 1 rfl rfl (j_iconst hK (dc9 DX12_make 38 rfl) (bd9 h fun x13 d12 hc h => j_cV hK (c_X12_fail (hst9 hK) (hw) hc) cl12_271 cd_X12_fail im_X12_fail se_X12_fail (hw.1) (Nat.le_of_ble_eq_true rfl) rfl (Nat.le_of_ble_eq_true rfl) (Nat.le_of_ble_eq_true rfl) rfl (st := []) rfl (Nat.le_of_ble_eq_true rfl) (dc9 DX12_make 39 rfl) rfl (j_iret hK (dc9 DX12_make 40 rfl) (have z := lf9 h hk; z)))))))
def X12_make_j60 (o : Nat) (v1 v2 v3 : Int) (d : DA) : Option (Int × DA) :=
  X12_make_j61 o v1 v2 v3 0 d
theorem X12_make_wj60 {K : KT} (hK : Ok9 K cX12_make RX12 8 (some .int) 2 45) {o : Nat} (hw : W_12 (kσ K) o) {v1 v2 v3 : Int} {d : DA} {y : Int × DA} (h : X12_make_j60 o v1 v2 v3 d = some y) (hk : (FI K) y) : J K 8 d [(0, rf K o), (1, vi v1), (2, vi v2), (3, vi v3)] 60 [] :=
  j_iconst hK (dc9 DX12_make 33 rfl) (X12_make_wj61 hK hw h hk)
def X12_make (o : Nat) (v1 v2 v3 : Int) (d : DA) : Option (Int × DA) :=
  lt9 (wI d o 0 0) fun d1 =>
  gd (inR v1) <|
  if v1 = 0 then (b1 (X12_isIn v2 1 5 d1) fun x17 =>
  X12_make_j61 o v1 v2 v3 x17 d1) else
  gd (inR v1 ∧ inR 1) <|
  if v1 = 1 then (b1 (X12_isIn v2 0 4 d1) fun x16 =>
  X12_make_j61 o v1 v2 v3 x16 d1) else
  gd (inR v1 ∧ inR 2) <|
  if v1 = 2 then (b1 (X12_isIn v2 1 4 d1) fun x14 =>
  gd (inR x14) <|
  if x14 = 0 then (X12_make_j60 o v1 v2 v3 d1) else
  b1 (X12_isIn v3 0 9 d1) fun x15 =>
  gd (inR x15) <|
  if x15 = 0 then (X12_make_j60 o v1 v2 v3 d1) else
  X12_make_j61 o v1 v2 v3 1 d1) else
  X12_make_j60 o v1 v2 v3 d1
theorem X12_make_w {K : KT} (hK : Ok9 K cX12_make RX12 8 (some .int) 2 45) {o : Nat} (hw : W_12 (kσ K) o) {v1 v2 v3 : Int} {d : DA} {y : Int × DA} (h : X12_make o v1 v2 v3 d = some y) (hk : (FI K) y) : J K 8 d [(0, rf K o), (1, vi v1), (2, vi v2), (3, vi v3)] 0 [] :=
  j_aload_n hK (dc9 DX12_make 0 rfl) 0 rfl rfl (j_iconst hK (dc9 DX12_make 1 rfl) (j_putI hK (hw.1) fl12_165 fp12_165 rfl (dc9 DX12_make 2 rfl) h fun d1 h => (j_iload_n hK (dc9 DX12_make 3 rfl) 1 rfl rfl (j_if_ne hK (dj9 DX12_make 4 18 rfl rfl) h (fun h => j_iload_n hK (dc9 DX12_make 10 rfl) 1 rfl rfl (j_iconst hK (dc9 DX12_make 11 rfl) (j_icmp_ne hK (dj9 DX12_make 12 32 rfl rfl) h (fun h => j_iload_n hK (dc9 DX12_make 18 rfl) 1 rfl rfl (j_iconst hK (dc9 DX12_make 19 rfl) (j_icmp_ne hK (dj9 DX12_make 20 60 rfl rfl) h (fun h => X12_make_wj60 hK hw h hk) (fun h =>
  j_iload_n hK (dc9 DX12_make 21 rfl) 2 rfl rfl (j_iconst hK (dc9 DX12_make 22 rfl) (j_iconst hK (dc9 DX12_make 23 rfl) (b19 h fun x14 hc h => j_cS hK (c_X12_isIn (hst9 hK)  hc) cl12_168 cd_X12_isIn sm_X12_isIn (Nat.le_of_ble_eq_true rfl) (Nat.le_of_ble_eq_true rfl) rfl (st := []) rfl (Nat.le_of_ble_eq_true rfl) (dc9 DX12_make 24 rfl) rfl (j_if_eq hK (dj9 DX12_make 25 60 rfl rfl) h (fun h => X12_make_wj60 hK hw h hk) (fun h =>
  j_iload_n hK (dc9 DX12_make 26 rfl) 3 rfl rfl (j_iconst hK (dc9 DX12_make 27 rfl) (j_bipush hK (dc9 DX12_make 28 rfl) (by decide) (b19 h fun x15 hc h => j_cS hK (c_X12_isIn (hst9 hK)  hc) cl12_168 cd_X12_isIn sm_X12_isIn (Nat.le_of_ble_eq_true rfl) (Nat.le_of_ble_eq_true rfl) rfl (st := []) rfl (Nat.le_of_ble_eq_true rfl) (dc9 DX12_make 29 rfl) rfl (j_if_eq hK (dj9 DX12_make 30 60 rfl rfl) h (fun h => X12_make_wj60 hK hw h hk) (fun h =>
  j_iconst hK (dc9 DX12_make 31 rfl) (j_goto hK (dj9 DX12_make 32 61 rfl rfl) (X12_make_wj61 hK hw h hk)))))))))))))))) (fun h =>
  j_iload_n hK (dc9 DX12_make 13 rfl) 2 rfl rfl (j_iconst hK (dc9 DX12_make 14 rfl) (j_iconst hK (dc9 DX12_make 15 rfl) (b19 h fun x16 hc h => j_cS hK (c_X12_isIn (hst9 hK)  hc) cl12_168 cd_X12_isIn sm_X12_isIn (Nat.le_of_ble_eq_true rfl) (Nat.le_of_ble_eq_true rfl) rfl (st := []) rfl (Nat.le_of_ble_eq_true rfl) (dc9 DX12_make 16 rfl) rfl (j_goto hK (dj9 DX12_make 17 61 rfl rfl) (X12_make_wj61 hK hw h hk))))))))) (fun h =>
  j_iload_n hK (dc9 DX12_make 5 rfl) 2 rfl rfl (j_iconst hK (dc9 DX12_make 6 rfl) (j_iconst hK (dc9 DX12_make 7 rfl) (b19 h fun x17 hc h => j_cS hK (c_X12_isIn (hst9 hK)  hc) cl12_168 cd_X12_isIn sm_X12_isIn (Nat.le_of_ble_eq_true rfl) (Nat.le_of_ble_eq_true rfl) rfl (st := []) rfl (Nat.le_of_ble_eq_true rfl) (dc9 DX12_make 8 rfl) rfl (j_goto hK (dj9 DX12_make 9 61 rfl rfl) (X12_make_wj61 hK hw h hk))))))))))
theorem c_X12_make {G : GT} {l : Launch} {ad : Nat → Nat} {σ : HS} {d d' : DA} (hst : l.stackTraces = false) {o : Nat} (hw : W_12 σ o) {v1 v2 v3 : Int} {r : Int} (h : X12_make o v1 v2 v3 d = some (r, d')) : Ct G l yX12_make cX12_make 8 (some .int) 2 45 ad (wD σ d) [.ref (ad o), vi v1, vi v2, vi v3] (some (vi r)) (wD σ d') :=
  ct_of hst rfl (Nat.le_of_ble_eq_true rfl) (fun K e0 e9 e1 e2 e3 hK => by subst e0; subst e9; subst e1; subst e2; exact X12_make_w hK hw h e3)
/-! X12_keep -/
theorem DX12_keep : Dt cX12_keep [(0, .aload_n 0, 1, 1), (1, .iconst 0, 1, 2), (2, .putfield 165, 3, 5), (5, .aload_n 0, 1, 6), (6, .aload_n 0, 1, 7), (7, .getfield 7, 3, 10), (10, .putfield 297, 3, 13), (13, .iconst 0, 1, 14), (14, .istore_n 1, 1, 15), (15, .iload_n 1, 1, 16), (16, .bipush 125, 2, 18), (18, .if_icmp .ge 21, 3, 21), (21, .aload_n 0, 1, 22), (22, .getfield 20, 3, 25), (25, .iload_n 1, 1, 26), (26, .aload_n 0, 1, 27), (27, .getfield 16, 3, 30), (30, .iload_n 1, 1, 31), (31, .iaload, 1, 32), (32, .iastore, 1, 33), (33, .iinc 1 1, 3, 36), (36, .goto (-21), 3, 39), (39, .return_, 1, 40)] := by unfold Dt; decide +kernel
def X12_keep_T15 (K : KT) (o : Nat) (q : Int × DA) : Prop := J K 2 q.2 [(0, rf K o), (1, vi (q.1))] 15 []
def X12_keep_F15 (K : KT) (o : Nat) (q : DA) : Prop := J K 2 q [] 39 []
def X12_keep_b15 (o : Nat) (v1 : Int) (d : DA) : Option ((Int × DA) ⊕ (DA)) :=
  gd (inR v1 ∧ inR 125) <|
  if 125 ≤ v1 then (some (.inr d)) else
  gd (ix v1 125) <|
  gd (ix v1 125) <|
  lt9 (wI d (o + 2) (Int.toNat v1) (d.1 (o + 1) (Int.toNat v1))) fun d3 =>
  some (.inl (v1 + 1, d3))
theorem X12_keep_wb15 {K : KT} (hK : Ok9 K cX12_keep RX12 2 none 0 0) {o : Nat} (hw : W_12 (kσ K) o) {v1 : Int} {d : DA} {y : (Int × DA) ⊕ (DA)} (h : X12_keep_b15 o v1 d = some y) (hk : S2 (X12_keep_T15 K o) (X12_keep_F15 K o) y) : J K 2 d [(0, rf K o), (1, vi v1)] 15 [] :=
  j_iload_n hK (dc9 DX12_keep 9 rfl) 1 rfl rfl (j_bipush hK (dc9 DX12_keep 10 rfl) (by decide) (j_icmp_ge hK (dj9 DX12_keep 11 39 rfl rfl) h (fun h => j_sub [] rfl ((have z := lf9 h hk; z))) (fun h =>
  j_aload_n hK (dc9 DX12_keep 12 rfl) 0 rfl rfl (j_getR hK (hw.1) fl12_20 rfl (hw.2.2.1.1) (hw.2.2.1.2.1) (dc9 DX12_keep 13 rfl) (j_iload_n hK (dc9 DX12_keep 14 rfl) 1 rfl rfl (j_aload_n hK (dc9 DX12_keep 15 rfl) 0 rfl rfl (j_getR hK (hw.1) fl12_16 rfl (hw.2.1.1) (hw.2.1.2.1) (dc9 DX12_keep 16 rfl) (j_iload_n hK (dc9 DX12_keep 17 rfl) 1 rfl rfl (j_iald hK (hw.2.1.2) (Nat.le_of_ble_eq_true rfl) (dc9 DX12_keep 18 rfl) h fun h => (j_iast hK (hw.2.2.1.2) (Nat.le_of_ble_eq_true rfl) (dc9 DX12_keep 19 rfl) h fun d3 h => (j_iinc hK (dc9 DX12_keep 20 rfl) 1 rfl (Nat.le_of_ble_eq_true rfl) rfl (j_goto hK (dj9 DX12_keep 21 15 rfl rfl) (j_sub [1, 0] rfl ((have z := lf9 h hk; z)))))))))))))))
def X12_keep (o : Nat) (d : DA) : Option (Unit × DA) :=
  lt9 (wI d o 0 0) fun d1 =>
  lt9 (wI d1 o 2 (d1.1 o 1)) fun d2 =>
  lpE (fun q => X12_keep_b15 o q.1 q.2) (0, d2) (fun e => some (((), e)))
theorem X12_keep_w {K : KT} (hK : Ok9 K cX12_keep RX12 2 none 0 0) {o : Nat} (hw : W_12 (kσ K) o) {d : DA} {y : Unit × DA} (h : X12_keep o d = some y) (hk : (FV K) y) : J K 2 d [(0, rf K o)] 0 [] :=
  j_aload_n hK (dc9 DX12_keep 0 rfl) 0 rfl rfl (j_iconst hK (dc9 DX12_keep 1 rfl) (j_putI hK (hw.1) fl12_165 fp12_165 rfl (dc9 DX12_keep 2 rfl) h fun d1 h => (j_aload_n hK (dc9 DX12_keep 3 rfl) 0 rfl rfl (j_aload_n hK (dc9 DX12_keep 4 rfl) 0 rfl rfl (j_getI hK (hw.1) fl12_7 rfl (dc9 DX12_keep 5 rfl) (j_putI hK (hw.1) fl12_297 fp12_297 rfl (dc9 DX12_keep 6 rfl) h fun d2 h => (j_iconst hK (dc9 DX12_keep 7 rfl) (j_istore_n hK (dc9 DX12_keep 8 rfl) rfl (Nat.le_of_ble_eq_true rfl) rfl (j_sub [1, 0] rfl ((have z := j_lpE (X12_keep_T15 K o) (X12_keep_F15 K o) h (fun q y h hk => X12_keep_wb15 hK hw h hk) (fun e h => j_vret hK (dc9 DX12_keep 22 rfl) (have z := lf9 h hk; z)); z)))))))))))
theorem c_X12_keep {G : GT} {l : Launch} {ad : Nat → Nat} {σ : HS} {d d' : DA} (hst : l.stackTraces = false) {o : Nat} (hw : W_12 σ o) {r : Unit} (h : X12_keep o  d = some (r, d')) : Ct G l yX12_keep cX12_keep 2 none 0 0 ad (wD σ d) [.ref (ad o)] none (wD σ d') :=
  ct_of hst rfl (Nat.le_of_ble_eq_true rfl) (fun K e0 e9 e1 e2 e3 hK => by subst e0; subst e9; subst e1; subst e2; exact X12_keep_w hK hw h e3)
/-! X12_product -/
theorem DX12_product : Dt cX12_product [(0, .aload_n 0, 1, 1), (1, .iconst 0, 1, 2), (2, .putfield 165, 3, 5), (5, .aload_n 0, 1, 6), (6, .getfield 7, 3, 9), (9, .aload_n 0, 1, 10), (10, .getfield 297, 3, 13), (13, .imul, 1, 14), (14, .istore_n 1, 1, 15), (15, .aload_n 0, 1, 16), (16, .getfield 297, 3, 19), (19, .ifCond .eq 8, 3, 22), (22, .iload_n 1, 1, 23), (23, .iconst 5, 1, 24), (24, .if_icmp .le 5, 3, 27), (27, .iconst (-1), 1, 28), (28, .ireturn, 1, 29), (29, .aload_n 0, 1, 30), (30, .aload_n 0, 1, 31), (31, .getfield 23, 3, 34), (34, .iload_n 1, 1, 35), (35, .invokevirtual 279, 3, 38), (38, .iconst 0, 1, 39), (39, .istore_n 2, 1, 40), (40, .iload_n 2, 1, 41), (41, .iload_n 1, 1, 42), (42, .if_icmp .ge 113, 3, 45), (45, .iconst 0, 1, 46), (46, .istore_n 3, 1, 47), (47, .iload_n 3, 1, 48), (48, .iload_n 1, 1, 49), (49, .if_icmp .ge 100, 3, 52), (52, .iconst 0, 1, 53), (53, .istore 4, 2, 55), (55, .iload 4, 2, 57), (57, .iload_n 1, 1, 58), (58, .if_icmp .ge 85, 3, 61), (61, .aload_n 0, 1, 62), (62, .iload_n 2, 1, 63), (63, .aload_n 0, 1, 64), (64, .getfield 297, 3, 67), (67, .idiv, 1, 68), (68, .iload_n 3, 1, 69), (69, .aload_n 0, 1, 70), (70, .getfield 297, 3, 73), (73, .idiv, 1, 74), (74, .iload 4, 2, 76), (76, .aload_n 0, 1, 77), (77, .getfield 297, 3, 80), (80, .idiv, 1, 81), (81, .invokevirtual 300, 3, 84), (84, .aload_n 0, 1, 85), (85, .getfield 20, 3, 88), (88, .iload_n 2, 1, 89), (89, .aload_n 0, 1, 90), (90, .getfield 297, 3, 93), (93, .irem, 1, 94), (94, .iload_n 3, 1, 95), (95, .aload_n 0, 1, 96), (96, .getfield 297, 3, 99), (99, .irem, 1, 100), (100, .iload 4, 2, 102), (102, .aload_n 0, 1, 103), (103, .getfield 297, 3, 106), (106, .irem, 1, 107), (107, .invokestatic 172, 3, 110), (110, .iaload, 1, 111), (111, .imul, 1, 112), (112, .istore 5, 2, 114), (114, .iload 5, 2, 116), (116, .bipush 9, 2, 118), (118, .if_icmp .le 5, 3, 121), (121, .iconst (-1), 1, 122), (122, .ireturn, 1, 123), (123, .aload_n 0, 1, 124), (124, .getfield 23, 3, 127), (127, .iload_n 2, 1, 128), (128, .iload_n 3, 1, 129), (129, .iload 4, 2, 131), (131, .invokestatic 172, 3, 134), (134, .iload 5, 2, 136), (136, .iastore, 1, 137), (137, .iinc 4 1, 3, 140), (140, .goto (-85), 3, 143), (143, .iinc 3 1, 3, 146), (146, .goto (-99), 3, 149), (149, .iinc 2 1, 3, 152), (152, .goto (-112), 3, 155), (155, .aload_n 0, 1, 156), (156, .iload_n 1, 1, 157), (157, .putfield 253, 3, 160), (160, .aload_n 0, 1, 161), (161, .invokevirtual 286, 3, 164), (164, .aload_n 0, 1, 165), (165, .getfield 7, 3, 168), (168, .ireturn, 1, 169)] := by unfold Dt; decide +kernel
def X12_product_T40 (K : KT) (o : Nat) (v1 : Int) (q : Int × DA) : Prop := J K 6 q.2 [(0, rf K o), (1, vi v1), (2, vi (q.1))] 40 []
def X12_product_F40 (K : KT) (o : Nat) (v1 : Int) (q : DA) : Prop := J K 6 q [(0, rf K o), (1, vi v1)] 155 []
def X12_product_T47 (K : KT) (o : Nat) (v1 : Int) (v2 : Int) (q : Int × DA) : Prop := J K 6 q.2 [(0, rf K o), (1, vi v1), (2, vi v2), (3, vi (q.1))] 47 []
def X12_product_F47 (K : KT) (o : Nat) (v1 : Int) (v2 : Int) (q : DA) : Prop := J K 6 q [(0, rf K o), (1, vi v1), (2, vi v2)] 149 []
def X12_product_T55 (K : KT) (o : Nat) (v1 : Int) (v2 : Int) (v3 : Int) (q : Int × DA) : Prop := J K 6 q.2 [(0, rf K o), (1, vi v1), (2, vi v2), (3, vi v3), (4, vi (q.1))] 55 []
def X12_product_F55 (K : KT) (o : Nat) (v1 : Int) (v2 : Int) (v3 : Int) (q : DA) : Prop := J K 6 q [(0, rf K o), (1, vi v1), (2, vi v2), (3, vi v3)] 143 []
def X12_product_b55 (o : Nat) (v1 v2 v3 v4 : Int) (d : DA) : Option ((Int × DA) ⊕ ((DA) ⊕ (Int × DA))) :=
  gd (inR v4 ∧ inR v1) <|
  if v1 ≤ v4 then (some (.inr (.inl d))) else
  gd (dvq v2 (d.1 o 2)) <|
  gd (dvq v3 (d.1 o 2)) <|
  gd (dvq v4 (d.1 o 2)) <|
  b1 (X12_of o (v2 / (d.1 o 2)) (v3 / (d.1 o 2)) (v4 / (d.1 o 2)) d) fun x4 =>
  gd (dvg v2 (d.1 o 2)) <|
  gd (dvg v3 (d.1 o 2)) <|
  gd (dvg v4 (d.1 o 2)) <|
  b1 (X12_cell (Int.tmod v2 (d.1 o 2)) (Int.tmod v3 (d.1 o 2)) (Int.tmod v4 (d.1 o 2)) d) fun x5 =>
  gd (ix x5 125) <|
  lt9 (x4 * (d.1 (o + 2) (Int.toNat x5))) fun x6 =>
  gd (inR x6 ∧ inR 9) <|
  if x6 ≤ 9 then (b1 (X12_cell v2 v3 v4 d) fun x7 =>
  gd (ix x7 125) <|
  lt9 (wI d (o + 3) (Int.toNat x7) x6) fun d8 =>
  some (.inl (v4 + 1, d8))) else
  some (.inr (.inr (((-1), d))))
theorem X12_product_wb55 {K : KT} (hK : Ok9 K cX12_product RX12 6 (some .int) 2 45) {o : Nat} (hw : W_12 (kσ K) o) {v1 v2 v3 v4 : Int} {d : DA} {y : (Int × DA) ⊕ ((DA) ⊕ (Int × DA))} (h : X12_product_b55 o v1 v2 v3 v4 d = some y) (hk : S3 (X12_product_T55 K o v1 v2 v3) (X12_product_F55 K o v1 v2 v3) (FI K) y) : J K 6 d [(0, rf K o), (1, vi v1), (2, vi v2), (3, vi v3), (4, vi v4)] 55 [] :=
  j_iload hK (dc9 DX12_product 34 rfl) 4 rfl (j_iload_n hK (dc9 DX12_product 35 rfl) 1 rfl rfl (j_icmp_ge hK (dj9 DX12_product 36 143 rfl rfl) h (fun h => j_sub [0, 1, 2, 3] rfl ((have z := lf9 h hk; z))) (fun h =>
  j_aload_n hK (dc9 DX12_product 37 rfl) 0 rfl rfl (j_iload_n hK (dc9 DX12_product 38 rfl) 2 rfl rfl (j_aload_n hK (dc9 DX12_product 39 rfl) 0 rfl rfl (j_getI hK (hw.1) fl12_297 rfl (dc9 DX12_product 40 rfl) (j_idiv hK (dc9 DX12_product 41 rfl) h fun h => (j_iload_n hK (dc9 DX12_product 42 rfl) 3 rfl rfl (j_aload_n hK (dc9 DX12_product 43 rfl) 0 rfl rfl (j_getI hK (hw.1) fl12_297 rfl (dc9 DX12_product 44 rfl) (j_idiv hK (dc9 DX12_product 45 rfl) h fun h => (j_iload hK (dc9 DX12_product 46 rfl) 4 rfl (j_aload_n hK (dc9 DX12_product 47 rfl) 0 rfl rfl (j_getI hK (hw.1) fl12_297 rfl (dc9 DX12_product 48 rfl) (j_idiv hK (dc9 DX12_product 49 rfl) h fun h => (b19 h fun x4 hc h => j_cV hK (c_X12_of (hst9 hK) (hw) hc) cl12_300 cd_X12_of im_X12_of se_X12_of (hw.1) (Nat.le_of_ble_eq_true rfl) rfl (Nat.le_of_ble_eq_true rfl) (Nat.le_of_ble_eq_true rfl) rfl (st := []) rfl (Nat.le_of_ble_eq_true rfl) (dc9 DX12_product 50 rfl) rfl (j_aload_n hK (dc9 DX12_product 51 rfl) 0 rfl rfl (j_getR hK (hw.1) fl12_20 rfl (hw.2.2.1.1) (hw.2.2.1.2.1) (dc9 DX12_product 52 rfl) (j_iload_n hK (dc9 DX12_product 53 rfl) 2 rfl rfl (j_aload_n hK (dc9 DX12_product 54 rfl) 0 rfl rfl (j_getI hK (hw.1) fl12_297 rfl (dc9 DX12_product 55 rfl) (j_irem hK (dc9 DX12_product 56 rfl) h fun h => (j_iload_n hK (dc9 DX12_product 57 rfl) 3 rfl rfl (j_aload_n hK (dc9 DX12_product 58 rfl) 0 rfl rfl (j_getI hK (hw.1) fl12_297 rfl (dc9 DX12_product 59 rfl) (j_irem hK (dc9 DX12_product 60 rfl) h fun h => (j_iload hK (dc9 DX12_product 61 rfl) 4 rfl (j_aload_n hK (dc9 DX12_product 62 rfl) 0 rfl rfl (j_getI hK (hw.1) fl12_297 rfl (dc9 DX12_product 63 rfl) (j_irem hK (dc9 DX12_product 64 rfl) h fun h => (b19 h fun x5 hc h => j_cS hK (c_X12_cell (hst9 hK)  hc) cl12_172 cd_X12_cell sm_X12_cell (Nat.le_of_ble_eq_true rfl) (Nat.le_of_ble_eq_true rfl) rfl (st := [rf K (o + 2), vi x4]) rfl (Nat.le_of_ble_eq_true rfl) (dc9 DX12_product 65 rfl) rfl (j_iald hK (hw.2.2.1.2) (Nat.le_of_ble_eq_true rfl) (dc9 DX12_product 66 rfl) h fun h => (j_imul hK (dc9 DX12_product 67 rfl) (j_letI h fun x6 h => j_istore hK (dc9 DX12_product 68 rfl) (Nat.le_of_ble_eq_true rfl) rfl (j_iload hK (dc9 DX12_product 69 rfl) 0 rfl (j_bipush hK (dc9 DX12_product 70 rfl) (by decide) (j_icmp_le hK (dj9 DX12_product 71 123 rfl rfl) h (fun h => j_aload_n hK (dc9 DX12_product 74 rfl) 1 rfl rfl (j_getR hK (hw.1) fl12_23 rfl (hw.2.2.2.1.1) (hw.2.2.2.1.2.1) (dc9 DX12_product 75 rfl) (j_iload_n hK (dc9 DX12_product 76 rfl) 3 rfl rfl (j_iload_n hK (dc9 DX12_product 77 rfl) 4 rfl rfl (j_iload hK (dc9 DX12_product 78 rfl) 5 rfl (b19 h fun x7 hc h => j_cS hK (c_X12_cell (hst9 hK)  hc) cl12_172 cd_X12_cell sm_X12_cell (Nat.le_of_ble_eq_true rfl) (Nat.le_of_ble_eq_true rfl) rfl (st := [rf K (o + 3)]) rfl (Nat.le_of_ble_eq_true rfl) (dc9 DX12_product 79 rfl) rfl (j_iload hK (dc9 DX12_product 80 rfl) 0 rfl (j_iast hK (hw.2.2.2.1.2) (Nat.le_of_ble_eq_true rfl) (dc9 DX12_product 81 rfl) h fun d8 h => (j_iinc hK (dc9 DX12_product 82 rfl) 5 rfl (Nat.le_of_ble_eq_true rfl) rfl (j_goto hK (dj9 DX12_product 83 55 rfl rfl) (j_sub [2, 3, 4, 5, 0] rfl ((have z := lf9 h hk; z))))))))))))) (fun h =>
  j_iconst hK (dc9 DX12_product 72 rfl) (j_iret hK (dc9 DX12_product 73 rfl) (have z := lf9 h hk; z))))))))))))))))))))))))))))))))))))))))
def X12_product_b47 (o : Nat) (v1 v2 v3 : Int) (d : DA) : Option ((Int × DA) ⊕ ((DA) ⊕ (Int × DA))) :=
  gd (inR v3 ∧ inR v1) <|
  if v1 ≤ v3 then (some (.inr (.inl d))) else
  lpR (fun q => X12_product_b55 o v1 v2 v3 q.1 q.2) (0, d) (fun e => some (.inl (v3 + 1, e))) (fun r => some (.inr (.inr r)))
theorem X12_product_wb47 {K : KT} (hK : Ok9 K cX12_product RX12 6 (some .int) 2 45) {o : Nat} (hw : W_12 (kσ K) o) {v1 v2 v3 : Int} {d : DA} {y : (Int × DA) ⊕ ((DA) ⊕ (Int × DA))} (h : X12_product_b47 o v1 v2 v3 d = some y) (hk : S3 (X12_product_T47 K o v1 v2) (X12_product_F47 K o v1 v2) (FI K) y) : J K 6 d [(0, rf K o), (1, vi v1), (2, vi v2), (3, vi v3)] 47 [] :=
  j_iload_n hK (dc9 DX12_product 29 rfl) 3 rfl rfl (j_iload_n hK (dc9 DX12_product 30 rfl) 1 rfl rfl (j_icmp_ge hK (dj9 DX12_product 31 149 rfl rfl) h (fun h => j_sub [0, 1, 2] rfl ((have z := lf9 h hk; z))) (fun h =>
  j_iconst hK (dc9 DX12_product 32 rfl) (j_istore hK (dc9 DX12_product 33 rfl) (Nat.le_of_ble_eq_true rfl) rfl (j_sub [1, 2, 3, 4, 0] rfl ((have z := j_lpR (X12_product_T55 K o v1 v2 v3) (X12_product_F55 K o v1 v2 v3) (FI K) h (fun q y h hk => X12_product_wb55 hK hw h hk) (fun e h => j_iinc hK (dc9 DX12_product 84 rfl) 3 rfl (Nat.le_of_ble_eq_true rfl) rfl (j_goto hK (dj9 DX12_product 85 47 rfl rfl) (j_sub [1, 2, 3, 0] rfl ((have z := lf9 h hk; z))))) (fun r h => (have z := lf9 h hk; z)); z)))))))
def X12_product_b40 (o : Nat) (v1 v2 : Int) (d : DA) : Option ((Int × DA) ⊕ ((DA) ⊕ (Int × DA))) :=
  gd (inR v2 ∧ inR v1) <|
  if v1 ≤ v2 then (some (.inr (.inl d))) else
  lpR (fun q => X12_product_b47 o v1 v2 q.1 q.2) (0, d) (fun e => some (.inl (v2 + 1, e))) (fun r => some (.inr (.inr r)))
theorem X12_product_wb40 {K : KT} (hK : Ok9 K cX12_product RX12 6 (some .int) 2 45) {o : Nat} (hw : W_12 (kσ K) o) {v1 v2 : Int} {d : DA} {y : (Int × DA) ⊕ ((DA) ⊕ (Int × DA))} (h : X12_product_b40 o v1 v2 d = some y) (hk : S3 (X12_product_T40 K o v1) (X12_product_F40 K o v1) (FI K) y) : J K 6 d [(0, rf K o), (1, vi v1), (2, vi v2)] 40 [] :=
  j_iload_n hK (dc9 DX12_product 24 rfl) 2 rfl rfl (j_iload_n hK (dc9 DX12_product 25 rfl) 1 rfl rfl (j_icmp_ge hK (dj9 DX12_product 26 155 rfl rfl) h (fun h => j_sub [0, 1] rfl ((have z := lf9 h hk; z))) (fun h =>
  j_iconst hK (dc9 DX12_product 27 rfl) (j_istore_n hK (dc9 DX12_product 28 rfl) rfl (Nat.le_of_ble_eq_true rfl) rfl (j_sub [1, 2, 3, 0] rfl ((have z := j_lpR (X12_product_T47 K o v1 v2) (X12_product_F47 K o v1 v2) (FI K) h (fun q y h hk => X12_product_wb47 hK hw h hk) (fun e h => j_iinc hK (dc9 DX12_product 86 rfl) 2 rfl (Nat.le_of_ble_eq_true rfl) rfl (j_goto hK (dj9 DX12_product 87 40 rfl rfl) (j_sub [1, 2, 0] rfl ((have z := lf9 h hk; z))))) (fun r h => (have z := lf9 h hk; z)); z)))))))
def X12_product_j155 (o : Nat) (v1 : Int) (d : DA) : Option (Int × DA) :=
  lt9 (wI d o 3 v1) fun d9 =>
  bd (X12_takeRead o d9) fun _ d10 =>
  some ((d10.1 o 1, d10))
theorem X12_product_wj155 {K : KT} (hK : Ok9 K cX12_product RX12 6 (some .int) 2 45) {o : Nat} (hw : W_12 (kσ K) o) {v1 : Int} {d : DA} {y : Int × DA} (h : X12_product_j155 o v1 d = some y) (hk : (FI K) y) : J K 6 d [(0, rf K o), (1, vi v1)] 155 [] :=
  j_aload_n hK (dc9 DX12_product 88 rfl) 0 rfl rfl (j_iload_n hK (dc9 DX12_product 89 rfl) 1 rfl rfl (j_putI hK (hw.1) fl12_253 fp12_253 rfl (dc9 DX12_product 90 rfl) h fun d9 h => (j_aload_n hK (dc9 DX12_product 91 rfl) 0 rfl rfl (bd9 h fun _ d10 hc h => j_cV hK (c_X12_takeRead (hst9 hK) (hw) hc) cl12_286 cd_X12_takeRead im_X12_takeRead se_X12_takeRead (hw.1) (Nat.le_of_ble_eq_true rfl) rfl (Nat.le_of_ble_eq_true rfl) (Nat.le_of_ble_eq_true rfl) rfl (st := []) rfl (Nat.le_of_ble_eq_true rfl) (dc9 DX12_product 92 rfl) rfl (j_aload_n hK (dc9 DX12_product 93 rfl) 0 rfl rfl (j_getI hK (hw.1) fl12_7 rfl (dc9 DX12_product 94 rfl) (j_iret hK (dc9 DX12_product 95 rfl) (have z := lf9 h hk; z))))))))
def X12_product (o : Nat) (d : DA) : Option (Int × DA) :=
  lt9 (wI d o 0 0) fun d1 =>
  lt9 ((d1.1 o 1) * (d1.1 o 2)) fun x2 =>
  gd (inR (d1.1 o 2)) <|
  if (d1.1 o 2) = 0 then (some (((-1), d1))) else
  gd (inR x2 ∧ inR 5) <|
  if x2 ≤ 5 then (bd (X12_begin o (o + 3) 125 x2 d1) fun _ d3 =>
  lpR (fun q => X12_product_b40 o x2 q.1 q.2) (0, d3) (fun e => X12_product_j155 o x2 e) (fun r => some r)) else
  some (((-1), d1))
theorem X12_product_w {K : KT} (hK : Ok9 K cX12_product RX12 6 (some .int) 2 45) {o : Nat} (hw : W_12 (kσ K) o) {d : DA} {y : Int × DA} (h : X12_product o d = some y) (hk : (FI K) y) : J K 6 d [(0, rf K o)] 0 [] :=
  j_aload_n hK (dc9 DX12_product 0 rfl) 0 rfl rfl (j_iconst hK (dc9 DX12_product 1 rfl) (j_putI hK (hw.1) fl12_165 fp12_165 rfl (dc9 DX12_product 2 rfl) h fun d1 h => (j_aload_n hK (dc9 DX12_product 3 rfl) 0 rfl rfl (j_getI hK (hw.1) fl12_7 rfl (dc9 DX12_product 4 rfl) (j_aload_n hK (dc9 DX12_product 5 rfl) 0 rfl rfl (j_getI hK (hw.1) fl12_297 rfl (dc9 DX12_product 6 rfl) (j_imul hK (dc9 DX12_product 7 rfl) (j_letI h fun x2 h => j_istore_n hK (dc9 DX12_product 8 rfl) rfl (Nat.le_of_ble_eq_true rfl) rfl (j_aload_n hK (dc9 DX12_product 9 rfl) 1 rfl rfl (j_getI hK (hw.1) fl12_297 rfl (dc9 DX12_product 10 rfl) (j_if_eq hK (dj9 DX12_product 11 27 rfl rfl) h (fun h => j_iconst hK (dc9 DX12_product 15 rfl) (j_iret hK (dc9 DX12_product 16 rfl) (have z := lf9 h hk; z))) (fun h =>
  j_iload_n hK (dc9 DX12_product 12 rfl) 0 rfl rfl (j_iconst hK (dc9 DX12_product 13 rfl) (j_icmp_le hK (dj9 DX12_product 14 29 rfl rfl) h (fun h => j_aload_n hK (dc9 DX12_product 17 rfl) 1 rfl rfl (j_aload_n hK (dc9 DX12_product 18 rfl) 1 rfl rfl (j_getR hK (hw.1) fl12_23 rfl (hw.2.2.2.1.1) (hw.2.2.2.1.2.1) (dc9 DX12_product 19 rfl) (j_iload_n hK (dc9 DX12_product 20 rfl) 0 rfl rfl (bd9 h fun _ d3 hc h => j_cV hK (c_X12_begin (hst9 hK) (hw) (hw.2.2.2.1.2) (Nat.le_of_ble_eq_true rfl) hc) cl12_279 cd_X12_begin im_X12_begin se_X12_begin (hw.1) (Nat.le_of_ble_eq_true rfl) rfl (Nat.le_of_ble_eq_true rfl) (Nat.le_of_ble_eq_true rfl) rfl (st := []) rfl (Nat.le_of_ble_eq_true rfl) (dc9 DX12_product 21 rfl) rfl (j_iconst hK (dc9 DX12_product 22 rfl) (j_istore_n hK (dc9 DX12_product 23 rfl) rfl (Nat.le_of_ble_eq_true rfl) rfl (j_sub [2, 1, 0] rfl ((have z := j_lpR (X12_product_T40 K o x2) (X12_product_F40 K o x2) (FI K) h (fun q y h hk => X12_product_wb40 hK hw h hk) (fun e h => X12_product_wj155 hK hw h hk) (fun r h => (have z := lf9 h hk; z)); z)))))))))) (fun h =>
  j_iconst hK (dc9 DX12_product 15 rfl) (j_iret hK (dc9 DX12_product 16 rfl) (have z := lf9 h hk; z)))))))))))))))))
theorem c_X12_product {G : GT} {l : Launch} {ad : Nat → Nat} {σ : HS} {d d' : DA} (hst : l.stackTraces = false) {o : Nat} (hw : W_12 σ o) {r : Int} (h : X12_product o  d = some (r, d')) : Ct G l yX12_product cX12_product 6 (some .int) 2 45 ad (wD σ d) [.ref (ad o)] (some (vi r)) (wD σ d') :=
  ct_of hst rfl (Nat.le_of_ble_eq_true rfl) (fun K e0 e9 e1 e2 e3 hK => by subst e0; subst e9; subst e1; subst e2; exact X12_product_w hK hw h e3)
/-! X12_isFree -/
theorem DX12_isFree : Dt cX12_isFree [(0, .iconst 0, 1, 1), (1, .istore_n 1, 1, 2), (2, .iload_n 1, 1, 3), (3, .bipush 125, 2, 5), (5, .if_icmp .ge 21, 3, 8), (8, .aload_n 0, 1, 9), (9, .getfield 16, 3, 12), (12, .iload_n 1, 1, 13), (13, .iaload, 1, 14), (14, .iconst 1, 1, 15), (15, .if_icmp .le 5, 3, 18), (18, .iconst 0, 1, 19), (19, .ireturn, 1, 20), (20, .iinc 1 1, 3, 23), (23, .goto (-21), 3, 26), (26, .iconst 1, 1, 27), (27, .ireturn, 1, 28)] := by unfold Dt; decide +kernel
def X12_isFree_T2 (K : KT) (o : Nat) (d : DA) (q : Int) : Prop := J K 2 d [(0, rf K o), (1, vi q)] 2 []
def X12_isFree_F2 (K : KT) (o : Nat) (d : DA) (q : Unit) : Prop := J K 2 d [] 26 []
def X12_isFree_b2 (o : Nat) (v1 : Int) (d : DA) : Option ((Int) ⊕ ((Unit) ⊕ (Int))) :=
  gd (inR v1 ∧ inR 125) <|
  if 125 ≤ v1 then (some (.inr (.inl ()))) else
  gd (ix v1 125) <|
  gd (inR (d.1 (o + 1) (Int.toNat v1)) ∧ inR 1) <|
  if (d.1 (o + 1) (Int.toNat v1)) ≤ 1 then (some (.inl (v1 + 1))) else
  some (.inr (.inr (0)))
theorem X12_isFree_wb2 {K : KT} (hK : Ok9 K cX12_isFree RX12 2 (some .boolean) 0 0) {o : Nat} (hw : W_12 (kσ K) o) {v1 : Int} {d : DA} {y : (Int) ⊕ ((Unit) ⊕ (Int))} (h : X12_isFree_b2 o v1 d = some y) (hk : S3 (X12_isFree_T2 K o d) (X12_isFree_F2 K o d) (FI0 K d) y) : J K 2 d [(0, rf K o), (1, vi v1)] 2 [] :=
  j_iload_n hK (dc9 DX12_isFree 2 rfl) 1 rfl rfl (j_bipush hK (dc9 DX12_isFree 3 rfl) (by decide) (j_icmp_ge hK (dj9 DX12_isFree 4 26 rfl rfl) h (fun h => j_sub [] rfl ((have z := lf9 h hk; z))) (fun h =>
  j_aload_n hK (dc9 DX12_isFree 5 rfl) 0 rfl rfl (j_getR hK (hw.1) fl12_16 rfl (hw.2.1.1) (hw.2.1.2.1) (dc9 DX12_isFree 6 rfl) (j_iload_n hK (dc9 DX12_isFree 7 rfl) 1 rfl rfl (j_iald hK (hw.2.1.2) (Nat.le_of_ble_eq_true rfl) (dc9 DX12_isFree 8 rfl) h fun h => (j_iconst hK (dc9 DX12_isFree 9 rfl) (j_icmp_le hK (dj9 DX12_isFree 10 20 rfl rfl) h (fun h => j_iinc hK (dc9 DX12_isFree 13 rfl) 1 rfl (Nat.le_of_ble_eq_true rfl) rfl (j_goto hK (dj9 DX12_isFree 14 2 rfl rfl) (j_sub [1, 0] rfl ((have z := lf9 h hk; z))))) (fun h =>
  j_iconst hK (dc9 DX12_isFree 11 rfl) (j_zret hK (Or.inl rfl) (dc9 DX12_isFree 12 rfl) (have z := lf9 h hk; z)))))))))))
def X12_isFree (o : Nat) (d : DA) : Option (Int) :=
  lpR (fun q => X12_isFree_b2 o q d) 0 (fun e => some (1)) (fun r => some r)
theorem X12_isFree_w {K : KT} (hK : Ok9 K cX12_isFree RX12 2 (some .boolean) 0 0) {o : Nat} (hw : W_12 (kσ K) o) {d : DA} {y : Int} (h : X12_isFree o d = some y) (hk : (FI0 K d) y) : J K 2 d [(0, rf K o)] 0 [] :=
  j_iconst hK (dc9 DX12_isFree 0 rfl) (j_istore_n hK (dc9 DX12_isFree 1 rfl) rfl (Nat.le_of_ble_eq_true rfl) rfl (j_sub [1, 0] rfl ((have z := j_lpR (X12_isFree_T2 K o d) (X12_isFree_F2 K o d) (FI0 K d) h (fun q y h hk => X12_isFree_wb2 hK hw h hk) (fun e h => j_iconst hK (dc9 DX12_isFree 15 rfl) (j_zret hK (Or.inr rfl) (dc9 DX12_isFree 16 rfl) (have z := lf9 h hk; z))) (fun r h => (have z := lf9 h hk; z)); z))))
theorem c_X12_isFree {G : GT} {l : Launch} {ad : Nat → Nat} {σ : HS} {d : DA} (hst : l.stackTraces = false) {o : Nat} (hw : W_12 σ o) {r : Int} (h : X12_isFree o  d = some r) : Ct G l yX12_isFree cX12_isFree 2 (some .boolean) 0 0 ad (wD σ d) [.ref (ad o)] (some (vi r)) (wD σ d) :=
  ct_of hst rfl (Nat.le_of_ble_eq_true rfl) (fun K e0 e9 e1 e2 e3 hK => by subst e0; subst e9; subst e1; subst e2; exact X12_isFree_w hK hw h e3)
/-! X12_count -/
theorem DX12_count : Dt cX12_count [(0, .aload_n 0, 1, 1), (1, .iconst 0, 1, 2), (2, .putfield 165, 3, 5), (5, .iload_n 1, 1, 6), (6, .tableswitch 111 0 9 #[54, 59, 72, 77, 82, 82, 91, 96, 101, 106], 54, 60), (60, .aload_n 0, 1, 61), (61, .getfield 7, 3, 64), (64, .ireturn, 1, 65), (65, .aload_n 0, 1, 66), (66, .invokevirtual 303, 3, 69), (69, .ifCond .eq 7, 3, 72), (72, .iconst 1, 1, 73), (73, .goto 4, 3, 76), (76, .iconst 0, 1, 77), (77, .ireturn, 1, 78), (78, .aload_n 0, 1, 79), (79, .getfield 13, 3, 82), (82, .ireturn, 1, 83), (83, .aload_n 0, 1, 84), (84, .getfield 185, 3, 87), (87, .ireturn, 1, 88), (88, .aload_n 0, 1, 89), (89, .getfield 38, 3, 92), (92, .iload_n 1, 1, 93), (93, .iconst 4, 1, 94), (94, .isub, 1, 95), (95, .iaload, 1, 96), (96, .ireturn, 1, 97), (97, .aload_n 0, 1, 98), (98, .getfield 307, 3, 101), (101, .ireturn, 1, 102), (102, .aload_n 0, 1, 103), (103, .getfield 176, 3, 106), (106, .ireturn, 1, 107), (107, .aload_n 0, 1, 108), (108, .getfield 179, 3, 111), (111, .ireturn, 1, 112), (112, .aload_n 0, 1, 113), (113, .getfield 182, 3, 116), (116, .ireturn, 1, 117), (117, .aload_n 0, 1, 118), (118, .iconst 1, 1, 119), (119, .invokevirtual 271, 3, 122), (122, .ireturn, 1, 123)] := by unfold Dt; decide +kernel
def X12_count (o : Nat) (v1 : Int) (d : DA) : Option (Int × DA) :=
  lt9 (wI d o 0 0) fun d1 =>
  gd (inR v1) <|
  if v1 = 0 then (some ((d1.1 o 1, d1))) else
  if v1 = 1 then (b1 (X12_isFree o d1) fun x2 =>
  gd (inR x2) <|
  if x2 = 0 then (some ((0, d1))) else
  some ((1, d1))) else
  if v1 = 2 then (some ((d1.1 o 4, d1))) else
  if v1 = 3 then (some ((d1.1 o 21, d1))) else
  if v1 = 4 then (gd (ix (v1 - 4) 2) <|
  some ((d1.1 (o + 8) (Int.toNat (v1 - 4)), d1))) else
  if v1 = 5 then (gd (ix (v1 - 4) 2) <|
  some ((d1.1 (o + 8) (Int.toNat (v1 - 4)), d1))) else
  if v1 = 6 then (some ((d1.1 o 33, d1))) else
  if v1 = 7 then (some ((d1.1 o 13, d1))) else
  if v1 = 8 then (some ((d1.1 o 18, d1))) else
  if v1 = 9 then (some ((d1.1 o 19, d1))) else
  bd (X12_fail o 1 d1) fun x4 d3 =>
  some ((x4, d3))
theorem X12_count_w {K : KT} (hK : Ok9 K cX12_count RX12 2 (some .int) 1 21) {o : Nat} (hw : W_12 (kσ K) o) {v1 : Int} {d : DA} {y : Int × DA} (h : X12_count o v1 d = some y) (hk : (FI K) y) : J K 2 d [(0, rf K o), (1, vi v1)] 0 [] :=
  j_aload_n hK (dc9 DX12_count 0 rfl) 0 rfl rfl (j_iconst hK (dc9 DX12_count 1 rfl) (j_putI hK (hw.1) fl12_165 fp12_165 rfl (dc9 DX12_count 2 rfl) h fun d1 h => (j_iload_n hK (dc9 DX12_count 3 rfl) 1 rfl rfl (gd9 h fun hr h => j_tsI hK (dc9 DX12_count 4 rfl) (tgt := 60) (v := 0) hr h (by decide) (by decide) rfl rfl (fun h => j_aload_n hK (dc9 DX12_count 5 rfl) 0 rfl rfl (j_getI hK (hw.1) fl12_7 rfl (dc9 DX12_count 6 rfl) (j_iret hK (dc9 DX12_count 7 rfl) (have z := lf9 h hk; z)))) fun h0 h => j_tsI hK (dc9 DX12_count 4 rfl) (tgt := 65) (v := 1) hr h (by decide) (by decide) rfl rfl (fun h => j_aload_n hK (dc9 DX12_count 8 rfl) 0 rfl rfl (b19 h fun x2 hc h => j_cV hK (c_X12_isFree (hst9 hK) (hw) hc) cl12_303 cd_X12_isFree im_X12_isFree se_X12_isFree (hw.1) (Nat.le_of_ble_eq_true rfl) rfl (Nat.le_of_ble_eq_true rfl) (Nat.le_of_ble_eq_true rfl) rfl (st := []) rfl (Nat.le_of_ble_eq_true rfl) (dc9 DX12_count 9 rfl) rfl (j_if_eq hK (dj9 DX12_count 10 76 rfl rfl) h (fun h => j_iconst hK (dc9 DX12_count 13 rfl) (j_iret hK (dc9 DX12_count 14 rfl) (have z := lf9 h hk; z))) (fun h =>
  j_iconst hK (dc9 DX12_count 11 rfl) (j_goto hK (dj9 DX12_count 12 77 rfl rfl) (j_iret hK (dc9 DX12_count 14 rfl) (have z := lf9 h hk; z))))))) fun h1 h => j_tsI hK (dc9 DX12_count 4 rfl) (tgt := 78) (v := 2) hr h (by decide) (by decide) rfl rfl (fun h => j_aload_n hK (dc9 DX12_count 15 rfl) 0 rfl rfl (j_getI hK (hw.1) fl12_13 rfl (dc9 DX12_count 16 rfl) (j_iret hK (dc9 DX12_count 17 rfl) (have z := lf9 h hk; z)))) fun h2 h => j_tsI hK (dc9 DX12_count 4 rfl) (tgt := 83) (v := 3) hr h (by decide) (by decide) rfl rfl (fun h => j_aload_n hK (dc9 DX12_count 18 rfl) 0 rfl rfl (j_getI hK (hw.1) fl12_185 rfl (dc9 DX12_count 19 rfl) (j_iret hK (dc9 DX12_count 20 rfl) (have z := lf9 h hk; z)))) fun h3 h => j_tsI hK (dc9 DX12_count 4 rfl) (tgt := 88) (v := 4) hr h (by decide) (by decide) rfl rfl (fun h => j_aload_n hK (dc9 DX12_count 21 rfl) 0 rfl rfl (j_getR hK (hw.1) fl12_38 rfl (hw.2.2.2.2.2.2.2.2.1.1) (hw.2.2.2.2.2.2.2.2.1.2.1) (dc9 DX12_count 22 rfl) (j_iload_n hK (dc9 DX12_count 23 rfl) 1 rfl rfl (j_iconst hK (dc9 DX12_count 24 rfl) (j_isub hK (dc9 DX12_count 25 rfl) (j_iald hK (hw.2.2.2.2.2.2.2.2.1.2) (Nat.le_of_ble_eq_true rfl) (dc9 DX12_count 26 rfl) h fun h => (j_iret hK (dc9 DX12_count 27 rfl) (have z := lf9 h hk; z)))))))) fun h4 h => j_tsI hK (dc9 DX12_count 4 rfl) (tgt := 88) (v := 5) hr h (by decide) (by decide) rfl rfl (fun h => j_aload_n hK (dc9 DX12_count 21 rfl) 0 rfl rfl (j_getR hK (hw.1) fl12_38 rfl (hw.2.2.2.2.2.2.2.2.1.1) (hw.2.2.2.2.2.2.2.2.1.2.1) (dc9 DX12_count 22 rfl) (j_iload_n hK (dc9 DX12_count 23 rfl) 1 rfl rfl (j_iconst hK (dc9 DX12_count 24 rfl) (j_isub hK (dc9 DX12_count 25 rfl) (j_iald hK (hw.2.2.2.2.2.2.2.2.1.2) (Nat.le_of_ble_eq_true rfl) (dc9 DX12_count 26 rfl) h fun h => (j_iret hK (dc9 DX12_count 27 rfl) (have z := lf9 h hk; z)))))))) fun h5 h => j_tsI hK (dc9 DX12_count 4 rfl) (tgt := 97) (v := 6) hr h (by decide) (by decide) rfl rfl (fun h => j_aload_n hK (dc9 DX12_count 28 rfl) 0 rfl rfl (j_getI hK (hw.1) fl12_307 rfl (dc9 DX12_count 29 rfl) (j_iret hK (dc9 DX12_count 30 rfl) (have z := lf9 h hk; z)))) fun h6 h => j_tsI hK (dc9 DX12_count 4 rfl) (tgt := 102) (v := 7) hr h (by decide) (by decide) rfl rfl (fun h => j_aload_n hK (dc9 DX12_count 31 rfl) 0 rfl rfl (j_getI hK (hw.1) fl12_176 rfl (dc9 DX12_count 32 rfl) (j_iret hK (dc9 DX12_count 33 rfl) (have z := lf9 h hk; z)))) fun h7 h => j_tsI hK (dc9 DX12_count 4 rfl) (tgt := 107) (v := 8) hr h (by decide) (by decide) rfl rfl (fun h => j_aload_n hK (dc9 DX12_count 34 rfl) 0 rfl rfl (j_getI hK (hw.1) fl12_179 rfl (dc9 DX12_count 35 rfl) (j_iret hK (dc9 DX12_count 36 rfl) (have z := lf9 h hk; z)))) fun h8 h => j_tsI hK (dc9 DX12_count 4 rfl) (tgt := 112) (v := 9) hr h (by decide) (by decide) rfl rfl (fun h => j_aload_n hK (dc9 DX12_count 37 rfl) 0 rfl rfl (j_getI hK (hw.1) fl12_182 rfl (dc9 DX12_count 38 rfl) (j_iret hK (dc9 DX12_count 39 rfl) (have z := lf9 h hk; z)))) fun h9 h => j_tsO hK (dc9 DX12_count 4 rfl) (tgt := 117) hr (by omega) rfl (j_aload_n hK (dc9 DX12_count 40 rfl) 0 rfl rfl (j_iconst hK (dc9 DX12_count 41 rfl) (bd9 h fun x4 d3 hc h => j_cV hK (c_X12_fail (hst9 hK) (hw) hc) cl12_271 cd_X12_fail im_X12_fail se_X12_fail (hw.1) (Nat.le_of_ble_eq_true rfl) rfl (Nat.le_of_ble_eq_true rfl) (Nat.le_of_ble_eq_true rfl) rfl (st := []) rfl (Nat.le_of_ble_eq_true rfl) (dc9 DX12_count 42 rfl) rfl (j_iret hK (dc9 DX12_count 43 rfl) (have z := lf9 h hk; z)))))))))
theorem c_X12_count {G : GT} {l : Launch} {ad : Nat → Nat} {σ : HS} {d d' : DA} (hst : l.stackTraces = false) {o : Nat} (hw : W_12 σ o) {v1 : Int} {r : Int} (h : X12_count o v1 d = some (r, d')) : Ct G l yX12_count cX12_count 2 (some .int) 1 21 ad (wD σ d) [.ref (ad o), vi v1] (some (vi r)) (wD σ d') :=
  ct_of hst rfl (Nat.le_of_ble_eq_true rfl) (fun K e0 e9 e1 e2 e3 hK => by subst e0; subst e9; subst e1; subst e2; exact X12_count_w hK hw h e3)
/-! X12_fuses -/
theorem DX12_fuses : Dt cX12_fuses [(0, .aload_n 0, 1, 1), (1, .iconst 0, 1, 2), (2, .putfield 165, 3, 5), (5, .aload_n 0, 1, 6), (6, .iload_n 1, 1, 7), (7, .invokevirtual 310, 3, 10), (10, .ifCond .eq 29, 3, 13), (13, .aload_n 0, 1, 14), (14, .iload_n 2, 1, 15), (15, .invokevirtual 310, 3, 18), (18, .ifCond .eq 21, 3, 21), (21, .aload_n 0, 1, 22), (22, .iload_n 3, 1, 23), (23, .invokevirtual 310, 3, 26), (26, .ifCond .eq 13, 3, 29), (29, .aload_n 0, 1, 30), (30, .iload_n 1, 1, 31), (31, .iload_n 2, 1, 32), (32, .iload_n 3, 1, 33), (33, .invokevirtual 300, 3, 36), (36, .goto 8, 3, 39), (39, .aload_n 0, 1, 40), (40, .iconst 1, 1, 41), (41, .invokevirtual 271, 3, 44), (44, .ireturn, 1, 45)] := by unfold Dt; decide +kernel
def X12_fuses_j39 (o : Nat) (d : DA) : Option (Int × DA) :=
  bd (X12_fail o 1 d) fun x4 d3 =>
  some ((x4, d3))
theorem X12_fuses_wj39 {K : KT} (hK : Ok9 K cX12_fuses RX12 4 (some .int) 2 45) {o : Nat} (hw : W_12 (kσ K) o) {d : DA} {y : Int × DA} (h : X12_fuses_j39 o d = some y) (hk : (FI K) y) : J K 4 d [(0, rf K o)] 39 [] :=
  j_aload_n hK (dc9 DX12_fuses 21 rfl) 0 rfl rfl (j_iconst hK (dc9 DX12_fuses 22 rfl) (bd9 h fun x4 d3 hc h => j_cV hK (c_X12_fail (hst9 hK) (hw) hc) cl12_271 cd_X12_fail im_X12_fail se_X12_fail (hw.1) (Nat.le_of_ble_eq_true rfl) rfl (Nat.le_of_ble_eq_true rfl) (Nat.le_of_ble_eq_true rfl) rfl (st := []) rfl (Nat.le_of_ble_eq_true rfl) (dc9 DX12_fuses 23 rfl) rfl (j_iret hK (dc9 DX12_fuses 24 rfl) (have z := lf9 h hk; z))))
def X12_fuses (o : Nat) (v1 v2 v3 : Int) (d : DA) : Option (Int × DA) :=
  lt9 (wI d o 0 0) fun d1 =>
  b1 (X12_isKind o v1 d1) fun x2 =>
  gd (inR x2) <|
  if x2 = 0 then (X12_fuses_j39 o d1) else
  b1 (X12_isKind o v2 d1) fun x5 =>
  gd (inR x5) <|
  if x5 = 0 then (X12_fuses_j39 o d1) else
  b1 (X12_isKind o v3 d1) fun x6 =>
  gd (inR x6) <|
  if x6 = 0 then (X12_fuses_j39 o d1) else
  b1 (X12_of o v1 v2 v3 d1) fun x7 =>
  some ((x7, d1))
theorem X12_fuses_w {K : KT} (hK : Ok9 K cX12_fuses RX12 4 (some .int) 2 45) {o : Nat} (hw : W_12 (kσ K) o) {v1 v2 v3 : Int} {d : DA} {y : Int × DA} (h : X12_fuses o v1 v2 v3 d = some y) (hk : (FI K) y) : J K 4 d [(0, rf K o), (1, vi v1), (2, vi v2), (3, vi v3)] 0 [] :=
  j_aload_n hK (dc9 DX12_fuses 0 rfl) 0 rfl rfl (j_iconst hK (dc9 DX12_fuses 1 rfl) (j_putI hK (hw.1) fl12_165 fp12_165 rfl (dc9 DX12_fuses 2 rfl) h fun d1 h => (j_aload_n hK (dc9 DX12_fuses 3 rfl) 0 rfl rfl (j_iload_n hK (dc9 DX12_fuses 4 rfl) 1 rfl rfl (b19 h fun x2 hc h => j_cV hK (c_X12_isKind (hst9 hK) (hw) hc) cl12_310 cd_X12_isKind im_X12_isKind se_X12_isKind (hw.1) (Nat.le_of_ble_eq_true rfl) rfl (Nat.le_of_ble_eq_true rfl) (Nat.le_of_ble_eq_true rfl) rfl (st := []) rfl (Nat.le_of_ble_eq_true rfl) (dc9 DX12_fuses 5 rfl) rfl (j_if_eq hK (dj9 DX12_fuses 6 39 rfl rfl) h (fun h => j_sub [0] rfl (X12_fuses_wj39 hK hw h hk)) (fun h =>
  j_aload_n hK (dc9 DX12_fuses 7 rfl) 0 rfl rfl (j_iload_n hK (dc9 DX12_fuses 8 rfl) 2 rfl rfl (b19 h fun x5 hc h => j_cV hK (c_X12_isKind (hst9 hK) (hw) hc) cl12_310 cd_X12_isKind im_X12_isKind se_X12_isKind (hw.1) (Nat.le_of_ble_eq_true rfl) rfl (Nat.le_of_ble_eq_true rfl) (Nat.le_of_ble_eq_true rfl) rfl (st := []) rfl (Nat.le_of_ble_eq_true rfl) (dc9 DX12_fuses 9 rfl) rfl (j_if_eq hK (dj9 DX12_fuses 10 39 rfl rfl) h (fun h => j_sub [0] rfl (X12_fuses_wj39 hK hw h hk)) (fun h =>
  j_aload_n hK (dc9 DX12_fuses 11 rfl) 0 rfl rfl (j_iload_n hK (dc9 DX12_fuses 12 rfl) 3 rfl rfl (b19 h fun x6 hc h => j_cV hK (c_X12_isKind (hst9 hK) (hw) hc) cl12_310 cd_X12_isKind im_X12_isKind se_X12_isKind (hw.1) (Nat.le_of_ble_eq_true rfl) rfl (Nat.le_of_ble_eq_true rfl) (Nat.le_of_ble_eq_true rfl) rfl (st := []) rfl (Nat.le_of_ble_eq_true rfl) (dc9 DX12_fuses 13 rfl) rfl (j_if_eq hK (dj9 DX12_fuses 14 39 rfl rfl) h (fun h => j_sub [0] rfl (X12_fuses_wj39 hK hw h hk)) (fun h =>
  j_aload_n hK (dc9 DX12_fuses 15 rfl) 0 rfl rfl (j_iload_n hK (dc9 DX12_fuses 16 rfl) 1 rfl rfl (j_iload_n hK (dc9 DX12_fuses 17 rfl) 2 rfl rfl (j_iload_n hK (dc9 DX12_fuses 18 rfl) 3 rfl rfl (b19 h fun x7 hc h => j_cV hK (c_X12_of (hst9 hK) (hw) hc) cl12_300 cd_X12_of im_X12_of se_X12_of (hw.1) (Nat.le_of_ble_eq_true rfl) rfl (Nat.le_of_ble_eq_true rfl) (Nat.le_of_ble_eq_true rfl) rfl (st := []) rfl (Nat.le_of_ble_eq_true rfl) (dc9 DX12_fuses 19 rfl) rfl (j_goto hK (dj9 DX12_fuses 20 44 rfl rfl) (j_iret hK (dc9 DX12_fuses 24 rfl) (have z := lf9 h hk; z))))))))))))))))))))))
theorem c_X12_fuses {G : GT} {l : Launch} {ad : Nat → Nat} {σ : HS} {d d' : DA} (hst : l.stackTraces = false) {o : Nat} (hw : W_12 σ o) {v1 v2 v3 : Int} {r : Int} (h : X12_fuses o v1 v2 v3 d = some (r, d')) : Ct G l yX12_fuses cX12_fuses 4 (some .int) 2 45 ad (wD σ d) [.ref (ad o), vi v1, vi v2, vi v3] (some (vi r)) (wD σ d') :=
  ct_of hst rfl (Nat.le_of_ble_eq_true rfl) (fun K e0 e9 e1 e2 e3 hK => by subst e0; subst e9; subst e1; subst e2; exact X12_fuses_w hK hw h e3)
/-! X12_partner -/
theorem DX12_partner : Dt cX12_partner [(0, .iconst (-1), 1, 1), (1, .istore_n 2, 1, 2), (2, .iconst 0, 1, 3), (3, .istore_n 3, 1, 4), (4, .iload_n 3, 1, 5), (5, .aload_n 0, 1, 6), (6, .getfield 7, 3, 9), (9, .if_icmp .ge 42, 3, 12), (12, .aload_n 0, 1, 13), (13, .iload_n 1, 1, 14), (14, .iload_n 3, 1, 15), (15, .iconst 0, 1, 16), (16, .invokevirtual 300, 3, 19), (19, .ifCond .ne 6, 3, 22), (22, .goto 23, 3, 25), (25, .aload_n 0, 1, 26), (26, .iload_n 1, 1, 27), (27, .iload_n 3, 1, 28), (28, .iconst 0, 1, 29), (29, .invokevirtual 300, 3, 32), (32, .iconst 1, 1, 33), (33, .if_icmp .gt 8, 3, 36), (36, .iload_n 2, 1, 37), (37, .iconst (-1), 1, 38), (38, .if_icmp .eq 5, 3, 41), (41, .iconst (-1), 1, 42), (42, .ireturn, 1, 43), (43, .iload_n 3, 1, 44), (44, .istore_n 2, 1, 45), (45, .iinc 3 1, 3, 48), (48, .goto (-44), 3, 51), (51, .iload_n 2, 1, 52), (52, .ireturn, 1, 53)] := by unfold Dt; decide +kernel
def X12_partner_T4 (K : KT) (o : Nat) (v1 : Int) (d : DA) (q : Int × Int) : Prop := J K 4 d [(0, rf K o), (1, vi v1), (2, vi (q.1)), (3, vi (q.2))] 4 []
def X12_partner_F4 (K : KT) (o : Nat) (v1 : Int) (d : DA) (q : Int) : Prop := J K 4 d [(2, vi q)] 51 []
def X12_partner_b4 (o : Nat) (v1 v2 v3 : Int) (d : DA) : Option ((Int × Int) ⊕ ((Int) ⊕ (Int))) :=
  gd (inR v3 ∧ inR (d.1 o 1)) <|
  if (d.1 o 1) ≤ v3 then (some (.inr (.inl v2))) else
  b1 (X12_of o v1 v3 0 d) fun x2 =>
  gd (inR x2) <|
  if x2 = 0 then (some (.inl (v2, v3 + 1))) else
  b1 (X12_of o v1 v3 0 d) fun x3 =>
  gd (inR x3 ∧ inR 1) <|
  if 1 < x3 then (some (.inr (.inr ((-1))))) else
  gd (inR v2 ∧ inR (-1)) <|
  if v2 = (-1) then (some (.inl (v3, v3 + 1))) else
  some (.inr (.inr ((-1))))
theorem X12_partner_wb4 {K : KT} (hK : Ok9 K cX12_partner RX12 4 (some .int) 2 45) {o : Nat} (hw : W_12 (kσ K) o) {v1 v2 v3 : Int} {d : DA} {y : (Int × Int) ⊕ ((Int) ⊕ (Int))} (h : X12_partner_b4 o v1 v2 v3 d = some y) (hk : S3 (X12_partner_T4 K o v1 d) (X12_partner_F4 K o v1 d) (FI0 K d) y) : J K 4 d [(0, rf K o), (1, vi v1), (2, vi v2), (3, vi v3)] 4 [] :=
  j_iload_n hK (dc9 DX12_partner 4 rfl) 3 rfl rfl (j_aload_n hK (dc9 DX12_partner 5 rfl) 0 rfl rfl (j_getI hK (hw.1) fl12_7 rfl (dc9 DX12_partner 6 rfl) (j_icmp_ge hK (dj9 DX12_partner 7 51 rfl rfl) h (fun h => j_sub [2] rfl ((have z := lf9 h hk; z))) (fun h =>
  j_aload_n hK (dc9 DX12_partner 8 rfl) 0 rfl rfl (j_iload_n hK (dc9 DX12_partner 9 rfl) 1 rfl rfl (j_iload_n hK (dc9 DX12_partner 10 rfl) 3 rfl rfl (j_iconst hK (dc9 DX12_partner 11 rfl) (b19 h fun x2 hc h => j_cV hK (c_X12_of (hst9 hK) (hw) hc) cl12_300 cd_X12_of im_X12_of se_X12_of (hw.1) (Nat.le_of_ble_eq_true rfl) rfl (Nat.le_of_ble_eq_true rfl) (Nat.le_of_ble_eq_true rfl) rfl (st := []) rfl (Nat.le_of_ble_eq_true rfl) (dc9 DX12_partner 12 rfl) rfl (j_if_ne hK (dj9 DX12_partner 13 25 rfl rfl) h (fun h => j_aload_n hK (dc9 DX12_partner 15 rfl) 0 rfl rfl (j_iload_n hK (dc9 DX12_partner 16 rfl) 1 rfl rfl (j_iload_n hK (dc9 DX12_partner 17 rfl) 3 rfl rfl (j_iconst hK (dc9 DX12_partner 18 rfl) (b19 h fun x3 hc h => j_cV hK (c_X12_of (hst9 hK) (hw) hc) cl12_300 cd_X12_of im_X12_of se_X12_of (hw.1) (Nat.le_of_ble_eq_true rfl) rfl (Nat.le_of_ble_eq_true rfl) (Nat.le_of_ble_eq_true rfl) rfl (st := []) rfl (Nat.le_of_ble_eq_true rfl) (dc9 DX12_partner 19 rfl) rfl (j_iconst hK (dc9 DX12_partner 20 rfl) (j_icmp_gt hK (dj9 DX12_partner 21 41 rfl rfl) h (fun h => j_iconst hK (dc9 DX12_partner 25 rfl) (j_iret hK (dc9 DX12_partner 26 rfl) (have z := lf9 h hk; z))) (fun h =>
  j_iload_n hK (dc9 DX12_partner 22 rfl) 2 rfl rfl (j_iconst hK (dc9 DX12_partner 23 rfl) (j_icmp_eq hK (dj9 DX12_partner 24 43 rfl rfl) h (fun h => j_iload_n hK (dc9 DX12_partner 27 rfl) 3 rfl rfl (j_istore_n hK (dc9 DX12_partner 28 rfl) rfl (Nat.le_of_ble_eq_true rfl) rfl (j_iinc hK (dc9 DX12_partner 29 rfl) 3 rfl (Nat.le_of_ble_eq_true rfl) rfl (j_goto hK (dj9 DX12_partner 30 4 rfl rfl) (j_sub [2, 3, 1, 0] rfl ((have z := lf9 h hk; z))))))) (fun h =>
  j_iconst hK (dc9 DX12_partner 25 rfl) (j_iret hK (dc9 DX12_partner 26 rfl) (have z := lf9 h hk; z))))))))))))) (fun h =>
  j_goto hK (dj9 DX12_partner 14 45 rfl rfl) (j_iinc hK (dc9 DX12_partner 29 rfl) 3 rfl (Nat.le_of_ble_eq_true rfl) rfl (j_goto hK (dj9 DX12_partner 30 4 rfl rfl) (j_sub [1, 2, 3, 0] rfl ((have z := lf9 h hk; z)))))))))))))))
def X12_partner (o : Nat) (v1 : Int) (d : DA) : Option (Int) :=
  lt9 ((-1)) fun x1 =>
  lpR (fun q => X12_partner_b4 o v1 q.1 q.2 d) (x1, 0) (fun e => some (e)) (fun r => some r)
theorem X12_partner_w {K : KT} (hK : Ok9 K cX12_partner RX12 4 (some .int) 2 45) {o : Nat} (hw : W_12 (kσ K) o) {v1 : Int} {d : DA} {y : Int} (h : X12_partner o v1 d = some y) (hk : (FI0 K d) y) : J K 4 d [(0, rf K o), (1, vi v1)] 0 [] :=
  j_iconst hK (dc9 DX12_partner 0 rfl) (j_letI h fun x1 h => j_istore_n hK (dc9 DX12_partner 1 rfl) rfl (Nat.le_of_ble_eq_true rfl) rfl (j_iconst hK (dc9 DX12_partner 2 rfl) (j_istore_n hK (dc9 DX12_partner 3 rfl) rfl (Nat.le_of_ble_eq_true rfl) rfl (j_sub [2, 3, 1, 0] rfl ((have z := j_lpR (X12_partner_T4 K o v1 d) (X12_partner_F4 K o v1 d) (FI0 K d) h (fun q y h hk => X12_partner_wb4 hK hw h hk) (fun e h => j_iload_n hK (dc9 DX12_partner 31 rfl) 0 rfl rfl (j_iret hK (dc9 DX12_partner 32 rfl) (have z := lf9 h hk; z))) (fun r h => (have z := lf9 h hk; z)); z))))))
theorem c_X12_partner {G : GT} {l : Launch} {ad : Nat → Nat} {σ : HS} {d : DA} (hst : l.stackTraces = false) {o : Nat} (hw : W_12 σ o) {v1 : Int} {r : Int} (h : X12_partner o v1 d = some r) : Ct G l yX12_partner cX12_partner 4 (some .int) 2 45 ad (wD σ d) [.ref (ad o), vi v1] (some (vi r)) (wD σ d) :=
  ct_of hst rfl (Nat.le_of_ble_eq_true rfl) (fun K e0 e9 e1 e2 e3 hK => by subst e0; subst e9; subst e1; subst e2; exact X12_partner_w hK hw h e3)
/-! X12_firstWithoutDual -/
theorem DX12_firstWithoutDual : Dt cX12_firstWithoutDual [(0, .iconst 0, 1, 1), (1, .istore_n 1, 1, 2), (2, .iload_n 1, 1, 3), (3, .aload_n 0, 1, 4), (4, .getfield 7, 3, 7), (7, .if_icmp .ge 36, 3, 10), (10, .aload_n 0, 1, 11), (11, .iload_n 1, 1, 12), (12, .invokevirtual 313, 3, 15), (15, .iconst (-1), 1, 16), (16, .if_icmp .eq 16, 3, 19), (19, .aload_n 0, 1, 20), (20, .aload_n 0, 1, 21), (21, .iload_n 1, 1, 22), (22, .invokevirtual 313, 3, 25), (25, .invokevirtual 313, 3, 28), (28, .iload_n 1, 1, 29), (29, .if_icmp .eq 8, 3, 32), (32, .bipush 125, 2, 34), (34, .iload_n 1, 1, 35), (35, .imul, 1, 36), (36, .ireturn, 1, 37), (37, .iinc 1 1, 3, 40), (40, .goto (-38), 3, 43), (43, .iconst (-1), 1, 44), (44, .ireturn, 1, 45)] := by unfold Dt; decide +kernel
def X12_firstWithoutDual_T2 (K : KT) (o : Nat) (d : DA) (q : Int) : Prop := J K 2 d [(0, rf K o), (1, vi q)] 2 []
def X12_firstWithoutDual_F2 (K : KT) (o : Nat) (d : DA) (q : Unit) : Prop := J K 2 d [] 43 []
def X12_firstWithoutDual_b2 (o : Nat) (v1 : Int) (d : DA) : Option ((Int) ⊕ ((Unit) ⊕ (Int))) :=
  gd (inR v1 ∧ inR (d.1 o 1)) <|
  if (d.1 o 1) ≤ v1 then (some (.inr (.inl ()))) else
  b1 (X12_partner o v1 d) fun x1 =>
  gd (inR x1 ∧ inR (-1)) <|
  if x1 = (-1) then (some (.inr (.inr (125 * v1)))) else
  b1 (X12_partner o v1 d) fun x2 =>
  b1 (X12_partner o x2 d) fun x3 =>
  gd (inR x3 ∧ inR v1) <|
  if x3 = v1 then (some (.inl (v1 + 1))) else
  some (.inr (.inr (125 * v1)))
theorem X12_firstWithoutDual_wb2 {K : KT} (hK : Ok9 K cX12_firstWithoutDual RX12 2 (some .int) 3 68) {o : Nat} (hw : W_12 (kσ K) o) {v1 : Int} {d : DA} {y : (Int) ⊕ ((Unit) ⊕ (Int))} (h : X12_firstWithoutDual_b2 o v1 d = some y) (hk : S3 (X12_firstWithoutDual_T2 K o d) (X12_firstWithoutDual_F2 K o d) (FI0 K d) y) : J K 2 d [(0, rf K o), (1, vi v1)] 2 [] :=
  j_iload_n hK (dc9 DX12_firstWithoutDual 2 rfl) 1 rfl rfl (j_aload_n hK (dc9 DX12_firstWithoutDual 3 rfl) 0 rfl rfl (j_getI hK (hw.1) fl12_7 rfl (dc9 DX12_firstWithoutDual 4 rfl) (j_icmp_ge hK (dj9 DX12_firstWithoutDual 5 43 rfl rfl) h (fun h => j_sub [] rfl ((have z := lf9 h hk; z))) (fun h =>
  j_aload_n hK (dc9 DX12_firstWithoutDual 6 rfl) 0 rfl rfl (j_iload_n hK (dc9 DX12_firstWithoutDual 7 rfl) 1 rfl rfl (b19 h fun x1 hc h => j_cV hK (c_X12_partner (hst9 hK) (hw) hc) cl12_313 cd_X12_partner im_X12_partner se_X12_partner (hw.1) (Nat.le_of_ble_eq_true rfl) rfl (Nat.le_of_ble_eq_true rfl) (Nat.le_of_ble_eq_true rfl) rfl (st := []) rfl (Nat.le_of_ble_eq_true rfl) (dc9 DX12_firstWithoutDual 8 rfl) rfl (j_iconst hK (dc9 DX12_firstWithoutDual 9 rfl) (j_icmp_eq hK (dj9 DX12_firstWithoutDual 10 32 rfl rfl) h (fun h => j_bipush hK (dc9 DX12_firstWithoutDual 18 rfl) (by decide) (j_iload_n hK (dc9 DX12_firstWithoutDual 19 rfl) 1 rfl rfl (j_imul hK (dc9 DX12_firstWithoutDual 20 rfl) (j_iret hK (dc9 DX12_firstWithoutDual 21 rfl) (have z := lf9 h hk; z))))) (fun h =>
  j_aload_n hK (dc9 DX12_firstWithoutDual 11 rfl) 0 rfl rfl (j_aload_n hK (dc9 DX12_firstWithoutDual 12 rfl) 0 rfl rfl (j_iload_n hK (dc9 DX12_firstWithoutDual 13 rfl) 1 rfl rfl (b19 h fun x2 hc h => j_cV hK (c_X12_partner (hst9 hK) (hw) hc) cl12_313 cd_X12_partner im_X12_partner se_X12_partner (hw.1) (Nat.le_of_ble_eq_true rfl) rfl (Nat.le_of_ble_eq_true rfl) (Nat.le_of_ble_eq_true rfl) rfl (st := [rf K o]) rfl (Nat.le_of_ble_eq_true rfl) (dc9 DX12_firstWithoutDual 14 rfl) rfl (b19 h fun x3 hc h => j_cV hK (c_X12_partner (hst9 hK) (hw) hc) cl12_313 cd_X12_partner im_X12_partner se_X12_partner (hw.1) (Nat.le_of_ble_eq_true rfl) rfl (Nat.le_of_ble_eq_true rfl) (Nat.le_of_ble_eq_true rfl) rfl (st := []) rfl (Nat.le_of_ble_eq_true rfl) (dc9 DX12_firstWithoutDual 15 rfl) rfl (j_iload_n hK (dc9 DX12_firstWithoutDual 16 rfl) 1 rfl rfl (j_icmp_eq hK (dj9 DX12_firstWithoutDual 17 37 rfl rfl) h (fun h => j_iinc hK (dc9 DX12_firstWithoutDual 22 rfl) 1 rfl (Nat.le_of_ble_eq_true rfl) rfl (j_goto hK (dj9 DX12_firstWithoutDual 23 2 rfl rfl) (j_sub [1, 0] rfl ((have z := lf9 h hk; z))))) (fun h =>
  j_bipush hK (dc9 DX12_firstWithoutDual 18 rfl) (by decide) (j_iload_n hK (dc9 DX12_firstWithoutDual 19 rfl) 1 rfl rfl (j_imul hK (dc9 DX12_firstWithoutDual 20 rfl) (j_iret hK (dc9 DX12_firstWithoutDual 21 rfl) (have z := lf9 h hk; z))))))))))))))))))))
def X12_firstWithoutDual (o : Nat) (d : DA) : Option (Int) :=
  lpR (fun q => X12_firstWithoutDual_b2 o q d) 0 (fun e => some ((-1))) (fun r => some r)
theorem X12_firstWithoutDual_w {K : KT} (hK : Ok9 K cX12_firstWithoutDual RX12 2 (some .int) 3 68) {o : Nat} (hw : W_12 (kσ K) o) {d : DA} {y : Int} (h : X12_firstWithoutDual o d = some y) (hk : (FI0 K d) y) : J K 2 d [(0, rf K o)] 0 [] :=
  j_iconst hK (dc9 DX12_firstWithoutDual 0 rfl) (j_istore_n hK (dc9 DX12_firstWithoutDual 1 rfl) rfl (Nat.le_of_ble_eq_true rfl) rfl (j_sub [1, 0] rfl ((have z := j_lpR (X12_firstWithoutDual_T2 K o d) (X12_firstWithoutDual_F2 K o d) (FI0 K d) h (fun q y h hk => X12_firstWithoutDual_wb2 hK hw h hk) (fun e h => j_iconst hK (dc9 DX12_firstWithoutDual 24 rfl) (j_iret hK (dc9 DX12_firstWithoutDual 25 rfl) (have z := lf9 h hk; z))) (fun r h => (have z := lf9 h hk; z)); z))))
theorem c_X12_firstWithoutDual {G : GT} {l : Launch} {ad : Nat → Nat} {σ : HS} {d : DA} (hst : l.stackTraces = false) {o : Nat} (hw : W_12 σ o) {r : Int} (h : X12_firstWithoutDual o  d = some r) : Ct G l yX12_firstWithoutDual cX12_firstWithoutDual 2 (some .int) 3 68 ad (wD σ d) [.ref (ad o)] (some (vi r)) (wD σ d) :=
  ct_of hst rfl (Nat.le_of_ble_eq_true rfl) (fun K e0 e9 e1 e2 e3 hK => by subst e0; subst e9; subst e1; subst e2; exact X12_firstWithoutDual_w hK hw h e3)
/-! X12_isSum -/
theorem DX12_isSum : Dt cX12_isSum [(0, .iconst 0, 1, 1), (1, .istore 5, 2, 3), (3, .iconst 0, 1, 4), (4, .istore 6, 2, 6), (6, .iconst 0, 1, 7), (7, .istore 7, 2, 9), (9, .iload 7, 2, 11), (11, .aload_n 0, 1, 12), (12, .getfield 7, 3, 15), (15, .if_icmp .ge 55, 3, 18), (18, .iload 5, 2, 20), (20, .aload_n 0, 1, 21), (21, .iload_n 1, 1, 22), (22, .iload_n 2, 1, 23), (23, .iload 7, 2, 25), (25, .invokevirtual 300, 3, 28), (28, .aload_n 0, 1, 29), (29, .iload 7, 2, 31), (31, .iload_n 3, 1, 32), (32, .iload 4, 2, 34), (34, .invokevirtual 300, 3, 37), (37, .imul, 1, 38), (38, .iadd, 1, 39), (39, .istore 5, 2, 41), (41, .iload 6, 2, 43), (43, .aload_n 0, 1, 44), (44, .iload_n 2, 1, 45), (45, .iload_n 3, 1, 46), (46, .iload 7, 2, 48), (48, .invokevirtual 300, 3, 51), (51, .aload_n 0, 1, 52), (52, .iload_n 1, 1, 53), (53, .iload 7, 2, 55), (55, .iload 4, 2, 57), (57, .invokevirtual 300, 3, 60), (60, .imul, 1, 61), (61, .iadd, 1, 62), (62, .istore 6, 2, 64), (64, .iinc 7 1, 3, 67), (67, .goto (-58), 3, 70), (70, .iload 5, 2, 72), (72, .iload 6, 2, 74), (74, .if_icmp .ne 7, 3, 77), (77, .iconst 1, 1, 78), (78, .goto 4, 3, 81), (81, .iconst 0, 1, 82), (82, .ireturn, 1, 83)] := by unfold Dt; decide +kernel
def X12_isSum_T9 (K : KT) (o : Nat) (v1 : Int) (v2 : Int) (v3 : Int) (v4 : Int) (d : DA) (q : Int × Int × Int) : Prop := J K 8 d [(0, rf K o), (1, vi v1), (2, vi v2), (3, vi v3), (4, vi v4), (5, vi (q.1)), (6, vi (q.2.1)), (7, vi (q.2.2))] 9 []
def X12_isSum_F9 (K : KT) (o : Nat) (v1 : Int) (v2 : Int) (v3 : Int) (v4 : Int) (d : DA) (q : Int × Int) : Prop := J K 8 d [(5, vi (q.1)), (6, vi (q.2))] 70 []
def X12_isSum_b9 (o : Nat) (v1 v2 v3 v4 v5 v6 v7 : Int) (d : DA) : Option ((Int × Int × Int) ⊕ (Int × Int)) :=
  gd (inR v7 ∧ inR (d.1 o 1)) <|
  if (d.1 o 1) ≤ v7 then (some (.inr (v5, v6))) else
  b1 (X12_of o v1 v2 v7 d) fun x1 =>
  b1 (X12_of o v7 v3 v4 d) fun x2 =>
  lt9 (v5 + (x1 * x2)) fun x3 =>
  b1 (X12_of o v2 v3 v7 d) fun x4 =>
  b1 (X12_of o v1 v7 v4 d) fun x5 =>
  lt9 (v6 + (x4 * x5)) fun x6 =>
  some (.inl (x3, x6, v7 + 1))
theorem X12_isSum_wb9 {K : KT} (hK : Ok9 K cX12_isSum RX12 8 (some .boolean) 2 45) {o : Nat} (hw : W_12 (kσ K) o) {v1 v2 v3 v4 v5 v6 v7 : Int} {d : DA} {y : (Int × Int × Int) ⊕ (Int × Int)} (h : X12_isSum_b9 o v1 v2 v3 v4 v5 v6 v7 d = some y) (hk : S2 (X12_isSum_T9 K o v1 v2 v3 v4 d) (X12_isSum_F9 K o v1 v2 v3 v4 d) y) : J K 8 d [(0, rf K o), (1, vi v1), (2, vi v2), (3, vi v3), (4, vi v4), (5, vi v5), (6, vi v6), (7, vi v7)] 9 [] :=
  j_iload hK (dc9 DX12_isSum 6 rfl) 7 rfl (j_aload_n hK (dc9 DX12_isSum 7 rfl) 0 rfl rfl (j_getI hK (hw.1) fl12_7 rfl (dc9 DX12_isSum 8 rfl) (j_icmp_ge hK (dj9 DX12_isSum 9 70 rfl rfl) h (fun h => j_sub [5, 6] rfl ((have z := lf9 h hk; z))) (fun h =>
  j_iload hK (dc9 DX12_isSum 10 rfl) 5 rfl (j_aload_n hK (dc9 DX12_isSum 11 rfl) 0 rfl rfl (j_iload_n hK (dc9 DX12_isSum 12 rfl) 1 rfl rfl (j_iload_n hK (dc9 DX12_isSum 13 rfl) 2 rfl rfl (j_iload hK (dc9 DX12_isSum 14 rfl) 7 rfl (b19 h fun x1 hc h => j_cV hK (c_X12_of (hst9 hK) (hw) hc) cl12_300 cd_X12_of im_X12_of se_X12_of (hw.1) (Nat.le_of_ble_eq_true rfl) rfl (Nat.le_of_ble_eq_true rfl) (Nat.le_of_ble_eq_true rfl) rfl (st := [vi v5]) rfl (Nat.le_of_ble_eq_true rfl) (dc9 DX12_isSum 15 rfl) rfl (j_aload_n hK (dc9 DX12_isSum 16 rfl) 0 rfl rfl (j_iload hK (dc9 DX12_isSum 17 rfl) 7 rfl (j_iload_n hK (dc9 DX12_isSum 18 rfl) 3 rfl rfl (j_iload hK (dc9 DX12_isSum 19 rfl) 4 rfl (b19 h fun x2 hc h => j_cV hK (c_X12_of (hst9 hK) (hw) hc) cl12_300 cd_X12_of im_X12_of se_X12_of (hw.1) (Nat.le_of_ble_eq_true rfl) rfl (Nat.le_of_ble_eq_true rfl) (Nat.le_of_ble_eq_true rfl) rfl (st := [vi x1, vi v5]) rfl (Nat.le_of_ble_eq_true rfl) (dc9 DX12_isSum 20 rfl) rfl (j_imul hK (dc9 DX12_isSum 21 rfl) (j_iadd hK (dc9 DX12_isSum 22 rfl) (j_letI h fun x3 h => j_istore hK (dc9 DX12_isSum 23 rfl) (Nat.le_of_ble_eq_true rfl) rfl (j_iload hK (dc9 DX12_isSum 24 rfl) 6 rfl (j_aload_n hK (dc9 DX12_isSum 25 rfl) 1 rfl rfl (j_iload_n hK (dc9 DX12_isSum 26 rfl) 3 rfl rfl (j_iload_n hK (dc9 DX12_isSum 27 rfl) 4 rfl rfl (j_iload hK (dc9 DX12_isSum 28 rfl) 7 rfl (b19 h fun x4 hc h => j_cV hK (c_X12_of (hst9 hK) (hw) hc) cl12_300 cd_X12_of im_X12_of se_X12_of (hw.1) (Nat.le_of_ble_eq_true rfl) rfl (Nat.le_of_ble_eq_true rfl) (Nat.le_of_ble_eq_true rfl) rfl (st := [vi v6]) rfl (Nat.le_of_ble_eq_true rfl) (dc9 DX12_isSum 29 rfl) rfl (j_aload_n hK (dc9 DX12_isSum 30 rfl) 1 rfl rfl (j_iload_n hK (dc9 DX12_isSum 31 rfl) 2 rfl rfl (j_iload hK (dc9 DX12_isSum 32 rfl) 7 rfl (j_iload hK (dc9 DX12_isSum 33 rfl) 5 rfl (b19 h fun x5 hc h => j_cV hK (c_X12_of (hst9 hK) (hw) hc) cl12_300 cd_X12_of im_X12_of se_X12_of (hw.1) (Nat.le_of_ble_eq_true rfl) rfl (Nat.le_of_ble_eq_true rfl) (Nat.le_of_ble_eq_true rfl) rfl (st := [vi x4, vi v6]) rfl (Nat.le_of_ble_eq_true rfl) (dc9 DX12_isSum 34 rfl) rfl (j_imul hK (dc9 DX12_isSum 35 rfl) (j_iadd hK (dc9 DX12_isSum 36 rfl) (j_letI h fun x6 h => j_istore hK (dc9 DX12_isSum 37 rfl) (Nat.le_of_ble_eq_true rfl) rfl (j_iinc hK (dc9 DX12_isSum 38 rfl) 7 rfl (Nat.le_of_ble_eq_true rfl) rfl (j_goto hK (dj9 DX12_isSum 39 9 rfl rfl) (j_sub [3, 4, 5, 6, 7, 2, 1, 0] rfl ((have z := lf9 h hk; z))))))))))))))))))))))))))))))))))))
def X12_isSum_j70 (o : Nat) (v5 v6 : Int) (d : DA) : Option (Int) :=
  gd (inR v5 ∧ inR v6) <|
  if v5 = v6 then (some (1)) else
  some (0)
theorem X12_isSum_wj70 {K : KT} (hK : Ok9 K cX12_isSum RX12 8 (some .boolean) 2 45) {o : Nat} (hw : W_12 (kσ K) o) {v5 v6 : Int} {d : DA} {y : Int} (h : X12_isSum_j70 o v5 v6 d = some y) (hk : (FI0 K d) y) : J K 8 d [(5, vi v5), (6, vi v6)] 70 [] :=
  j_iload hK (dc9 DX12_isSum 40 rfl) 0 rfl (j_iload hK (dc9 DX12_isSum 41 rfl) 1 rfl (j_icmp_ne hK (dj9 DX12_isSum 42 81 rfl rfl) h (fun h => j_iconst hK (dc9 DX12_isSum 45 rfl) (j_zret hK (Or.inl rfl) (dc9 DX12_isSum 46 rfl) (have z := lf9 h hk; z))) (fun h =>
  j_iconst hK (dc9 DX12_isSum 43 rfl) (j_goto hK (dj9 DX12_isSum 44 82 rfl rfl) (j_zret hK (Or.inr rfl) (dc9 DX12_isSum 46 rfl) (have z := lf9 h hk; z))))))
def X12_isSum (o : Nat) (v1 v2 v3 v4 : Int) (d : DA) : Option (Int) :=
  lpE (fun q => X12_isSum_b9 o v1 v2 v3 v4 q.1 q.2.1 q.2.2 d) (0, 0, 0) (fun e => X12_isSum_j70 o (e.1) (e.2) d)
theorem X12_isSum_w {K : KT} (hK : Ok9 K cX12_isSum RX12 8 (some .boolean) 2 45) {o : Nat} (hw : W_12 (kσ K) o) {v1 v2 v3 v4 : Int} {d : DA} {y : Int} (h : X12_isSum o v1 v2 v3 v4 d = some y) (hk : (FI0 K d) y) : J K 8 d [(0, rf K o), (1, vi v1), (2, vi v2), (3, vi v3), (4, vi v4)] 0 [] :=
  j_iconst hK (dc9 DX12_isSum 0 rfl) (j_istore hK (dc9 DX12_isSum 1 rfl) (Nat.le_of_ble_eq_true rfl) rfl (j_iconst hK (dc9 DX12_isSum 2 rfl) (j_istore hK (dc9 DX12_isSum 3 rfl) (Nat.le_of_ble_eq_true rfl) rfl (j_iconst hK (dc9 DX12_isSum 4 rfl) (j_istore hK (dc9 DX12_isSum 5 rfl) (Nat.le_of_ble_eq_true rfl) rfl (j_sub [3, 4, 5, 6, 7, 2, 1, 0] rfl ((have z := j_lpE (X12_isSum_T9 K o v1 v2 v3 v4 d) (X12_isSum_F9 K o v1 v2 v3 v4 d) h (fun q y h hk => X12_isSum_wb9 hK hw h hk) (fun e h => X12_isSum_wj70 hK hw h hk); z))))))))
theorem c_X12_isSum {G : GT} {l : Launch} {ad : Nat → Nat} {σ : HS} {d : DA} (hst : l.stackTraces = false) {o : Nat} (hw : W_12 σ o) {v1 v2 v3 v4 : Int} {r : Int} (h : X12_isSum o v1 v2 v3 v4 d = some r) : Ct G l yX12_isSum cX12_isSum 8 (some .boolean) 2 45 ad (wD σ d) [.ref (ad o), vi v1, vi v2, vi v3, vi v4] (some (vi r)) (wD σ d) :=
  ct_of hst rfl (Nat.le_of_ble_eq_true rfl) (fun K e0 e9 e1 e2 e3 hK => by subst e0; subst e9; subst e1; subst e2; exact X12_isSum_w hK hw h e3)
/-! X12_keeps -/
theorem DX12_keeps : Dt cX12_keeps [(0, .iload_n 1, 1, 1), (1, .iconst 2, 1, 2), (2, .if_icmp .ne 30, 3, 5), (5, .aload_n 0, 1, 6), (6, .iload_n 2, 1, 7), (7, .iload_n 3, 1, 8), (8, .iload 4, 2, 10), (10, .invokevirtual 300, 3, 13), (13, .aload_n 0, 1, 14), (14, .iload_n 3, 1, 15), (15, .iload_n 2, 1, 16), (16, .iload 4, 2, 18), (18, .invokevirtual 300, 3, 21), (21, .if_icmp .ne 7, 3, 24), (24, .iconst 1, 1, 25), (25, .goto 35, 3, 28), (28, .iconst 0, 1, 29), (29, .goto 31, 3, 32), (32, .aload_n 0, 1, 33), (33, .iload_n 2, 1, 34), (34, .iload_n 3, 1, 35), (35, .iload 4, 2, 37), (37, .invokevirtual 300, 3, 40), (40, .aload_n 0, 1, 41), (41, .aload_n 0, 1, 42), (42, .iload_n 2, 1, 43), (43, .invokevirtual 313, 3, 46), (46, .iload 4, 2, 48), (48, .iload_n 3, 1, 49), (49, .invokevirtual 300, 3, 52), (52, .if_icmp .ne 7, 3, 55), (55, .iconst 1, 1, 56), (56, .goto 4, 3, 59), (59, .iconst 0, 1, 60), (60, .ireturn, 1, 61)] := by unfold Dt; decide +kernel
def X12_keeps (o : Nat) (v1 v2 v3 v4 : Int) (d : DA) : Option (Int) :=
  gd (inR v1 ∧ inR 2) <|
  if v1 = 2 then (b1 (X12_of o v2 v3 v4 d) fun x4 =>
  b1 (X12_of o v3 v2 v4 d) fun x5 =>
  gd (inR x4 ∧ inR x5) <|
  if x4 = x5 then (some (1)) else
  some (0)) else
  b1 (X12_of o v2 v3 v4 d) fun x1 =>
  b1 (X12_partner o v2 d) fun x2 =>
  b1 (X12_of o x2 v4 v3 d) fun x3 =>
  gd (inR x1 ∧ inR x3) <|
  if x1 = x3 then (some (1)) else
  some (0)
theorem X12_keeps_w {K : KT} (hK : Ok9 K cX12_keeps RX12 5 (some .boolean) 3 68) {o : Nat} (hw : W_12 (kσ K) o) {v1 v2 v3 v4 : Int} {d : DA} {y : Int} (h : X12_keeps o v1 v2 v3 v4 d = some y) (hk : (FI0 K d) y) : J K 5 d [(0, rf K o), (1, vi v1), (2, vi v2), (3, vi v3), (4, vi v4)] 0 [] :=
  j_iload_n hK (dc9 DX12_keeps 0 rfl) 1 rfl rfl (j_iconst hK (dc9 DX12_keeps 1 rfl) (j_icmp_ne hK (dj9 DX12_keeps 2 32 rfl rfl) h (fun h => j_aload_n hK (dc9 DX12_keeps 18 rfl) 0 rfl rfl (j_iload_n hK (dc9 DX12_keeps 19 rfl) 2 rfl rfl (j_iload_n hK (dc9 DX12_keeps 20 rfl) 3 rfl rfl (j_iload hK (dc9 DX12_keeps 21 rfl) 4 rfl (b19 h fun x1 hc h => j_cV hK (c_X12_of (hst9 hK) (hw) hc) cl12_300 cd_X12_of im_X12_of se_X12_of (hw.1) (Nat.le_of_ble_eq_true rfl) rfl (Nat.le_of_ble_eq_true rfl) (Nat.le_of_ble_eq_true rfl) rfl (st := []) rfl (Nat.le_of_ble_eq_true rfl) (dc9 DX12_keeps 22 rfl) rfl (j_aload_n hK (dc9 DX12_keeps 23 rfl) 0 rfl rfl (j_aload_n hK (dc9 DX12_keeps 24 rfl) 0 rfl rfl (j_iload_n hK (dc9 DX12_keeps 25 rfl) 2 rfl rfl (b19 h fun x2 hc h => j_cV hK (c_X12_partner (hst9 hK) (hw) hc) cl12_313 cd_X12_partner im_X12_partner se_X12_partner (hw.1) (Nat.le_of_ble_eq_true rfl) rfl (Nat.le_of_ble_eq_true rfl) (Nat.le_of_ble_eq_true rfl) rfl (st := [rf K o, vi x1]) rfl (Nat.le_of_ble_eq_true rfl) (dc9 DX12_keeps 26 rfl) rfl (j_iload hK (dc9 DX12_keeps 27 rfl) 4 rfl (j_iload_n hK (dc9 DX12_keeps 28 rfl) 3 rfl rfl (b19 h fun x3 hc h => j_cV hK (c_X12_of (hst9 hK) (hw) hc) cl12_300 cd_X12_of im_X12_of se_X12_of (hw.1) (Nat.le_of_ble_eq_true rfl) rfl (Nat.le_of_ble_eq_true rfl) (Nat.le_of_ble_eq_true rfl) rfl (st := [vi x1]) rfl (Nat.le_of_ble_eq_true rfl) (dc9 DX12_keeps 29 rfl) rfl (j_icmp_ne hK (dj9 DX12_keeps 30 59 rfl rfl) h (fun h => j_iconst hK (dc9 DX12_keeps 33 rfl) (j_zret hK (Or.inl rfl) (dc9 DX12_keeps 34 rfl) (have z := lf9 h hk; z))) (fun h =>
  j_iconst hK (dc9 DX12_keeps 31 rfl) (j_goto hK (dj9 DX12_keeps 32 60 rfl rfl) (j_zret hK (Or.inr rfl) (dc9 DX12_keeps 34 rfl) (have z := lf9 h hk; z))))))))))))))))) (fun h =>
  j_aload_n hK (dc9 DX12_keeps 3 rfl) 0 rfl rfl (j_iload_n hK (dc9 DX12_keeps 4 rfl) 2 rfl rfl (j_iload_n hK (dc9 DX12_keeps 5 rfl) 3 rfl rfl (j_iload hK (dc9 DX12_keeps 6 rfl) 4 rfl (b19 h fun x4 hc h => j_cV hK (c_X12_of (hst9 hK) (hw) hc) cl12_300 cd_X12_of im_X12_of se_X12_of (hw.1) (Nat.le_of_ble_eq_true rfl) rfl (Nat.le_of_ble_eq_true rfl) (Nat.le_of_ble_eq_true rfl) rfl (st := []) rfl (Nat.le_of_ble_eq_true rfl) (dc9 DX12_keeps 7 rfl) rfl (j_aload_n hK (dc9 DX12_keeps 8 rfl) 0 rfl rfl (j_iload_n hK (dc9 DX12_keeps 9 rfl) 3 rfl rfl (j_iload_n hK (dc9 DX12_keeps 10 rfl) 2 rfl rfl (j_iload hK (dc9 DX12_keeps 11 rfl) 4 rfl (b19 h fun x5 hc h => j_cV hK (c_X12_of (hst9 hK) (hw) hc) cl12_300 cd_X12_of im_X12_of se_X12_of (hw.1) (Nat.le_of_ble_eq_true rfl) rfl (Nat.le_of_ble_eq_true rfl) (Nat.le_of_ble_eq_true rfl) rfl (st := [vi x4]) rfl (Nat.le_of_ble_eq_true rfl) (dc9 DX12_keeps 12 rfl) rfl (j_icmp_ne hK (dj9 DX12_keeps 13 28 rfl rfl) h (fun h => j_iconst hK (dc9 DX12_keeps 16 rfl) (j_goto hK (dj9 DX12_keeps 17 60 rfl rfl) (j_zret hK (Or.inl rfl) (dc9 DX12_keeps 34 rfl) (have z := lf9 h hk; z)))) (fun h =>
  j_iconst hK (dc9 DX12_keeps 14 rfl) (j_goto hK (dj9 DX12_keeps 15 60 rfl rfl) (j_zret hK (Or.inr rfl) (dc9 DX12_keeps 34 rfl) (have z := lf9 h hk; z)))))))))))))))))
theorem c_X12_keeps {G : GT} {l : Launch} {ad : Nat → Nat} {σ : HS} {d : DA} (hst : l.stackTraces = false) {o : Nat} (hw : W_12 σ o) {v1 v2 v3 v4 : Int} {r : Int} (h : X12_keeps o v1 v2 v3 v4 d = some r) : Ct G l yX12_keeps cX12_keeps 5 (some .boolean) 3 68 ad (wD σ d) [.ref (ad o), vi v1, vi v2, vi v3, vi v4] (some (vi r)) (wD σ d) :=
  ct_of hst rfl (Nat.le_of_ble_eq_true rfl) (fun K e0 e9 e1 e2 e3 hK => by subst e0; subst e9; subst e1; subst e2; exact X12_keeps_w hK hw h e3)
/-! X12_firstBroken -/
theorem DX12_firstBroken : Dt cX12_firstBroken [(0, .iload_n 1, 1, 1), (1, .ifCond .eq 16, 3, 4), (4, .iload_n 1, 1, 5), (5, .iconst 3, 1, 6), (6, .if_icmp .ne 24, 3, 9), (9, .aload_n 0, 1, 10), (10, .invokevirtual 316, 3, 13), (13, .iconst (-1), 1, 14), (14, .if_icmp .eq 16, 3, 17), (17, .iload_n 1, 1, 18), (18, .ifCond .ne 10, 3, 21), (21, .aload_n 0, 1, 22), (22, .invokevirtual 316, 3, 25), (25, .goto 4, 3, 28), (28, .iconst (-1), 1, 29), (29, .ireturn, 1, 30), (30, .iconst 0, 1, 31), (31, .istore_n 2, 1, 32), (32, .iload_n 2, 1, 33), (33, .aload_n 0, 1, 34), (34, .getfield 7, 3, 37), (37, .if_icmp .ge 121, 3, 40), (40, .iconst 0, 1, 41), (41, .istore_n 3, 1, 42), (42, .iload_n 3, 1, 43), (43, .aload_n 0, 1, 44), (44, .getfield 7, 3, 47), (47, .if_icmp .ge 105, 3, 50), (50, .iconst 0, 1, 51), (51, .istore 4, 2, 53), (53, .iload 4, 2, 55), (55, .aload_n 0, 1, 56), (56, .getfield 7, 3, 59), (59, .if_icmp .ge 87, 3, 62), (62, .iconst 0, 1, 63), (63, .istore 5, 2, 65), (65, .iload 5, 2, 67), (67, .iload_n 1, 1, 68), (68, .iconst 1, 1, 69), (69, .if_icmp .ne 10, 3, 72), (72, .aload_n 0, 1, 73), (73, .getfield 7, 3, 76), (76, .goto 4, 3, 79), (79, .iconst 1, 1, 80), (80, .if_icmp .ge 60, 3, 83), (83, .iload_n 1, 1, 84), (84, .iconst 1, 1, 85), (85, .if_icmp .ne 19, 3, 88), (88, .aload_n 0, 1, 89), (89, .iload_n 2, 1, 90), (90, .iload_n 3, 1, 91), (91, .iload 4, 2, 93), (93, .iload 5, 2, 95), (95, .invokevirtual 319, 3, 98), (98, .ifCond .ne 36, 3, 101), (101, .goto 15, 3, 104), (104, .aload_n 0, 1, 105), (105, .iload_n 1, 1, 106), (106, .iload_n 2, 1, 107), (107, .iload_n 3, 1, 108), (108, .iload 4, 2, 110), (110, .invokevirtual 323, 3, 113), (113, .ifCond .ne 21, 3, 116), (116, .bipush 125, 2, 118), (118, .iload_n 2, 1, 119), (119, .imul, 1, 120), (120, .bipush 25, 2, 122), (122, .iload_n 3, 1, 123), (123, .imul, 1, 124), (124, .iadd, 1, 125), (125, .iconst 5, 1, 126), (126, .iload 4, 2, 128), (128, .imul, 1, 129), (129, .iadd, 1, 130), (130, .iload 5, 2, 132), (132, .iadd, 1, 133), (133, .ireturn, 1, 134), (134, .iinc 5 1, 3, 137), (137, .goto (-72), 3, 140), (140, .iinc 4 1, 3, 143), (143, .goto (-90), 3, 146), (146, .iinc 3 1, 3, 149), (149, .goto (-107), 3, 152), (152, .iinc 2 1, 3, 155), (155, .goto (-123), 3, 158), (158, .iconst (-1), 1, 159), (159, .ireturn, 1, 160)] := by unfold Dt; decide +kernel
def X12_firstBroken_j17 (o : Nat) (v1 : Int) (d : DA) : Option (Int) :=
  gd (inR v1) <|
  if v1 = 0 then (b1 (X12_firstWithoutDual o d) fun x1 =>
  some (x1)) else
  some ((-1))
theorem X12_firstBroken_wj17 {K : KT} (hK : Ok9 K cX12_firstBroken RX12 6 (some .int) 4 92) {o : Nat} (hw : W_12 (kσ K) o) {v1 : Int} {d : DA} {y : Int} (h : X12_firstBroken_j17 o v1 d = some y) (hk : (FI0 K d) y) : J K 6 d [(0, rf K o), (1, vi v1)] 17 [] :=
  j_iload_n hK (dc9 DX12_firstBroken 9 rfl) 1 rfl rfl (j_if_ne hK (dj9 DX12_firstBroken 10 28 rfl rfl) h (fun h => j_iconst hK (dc9 DX12_firstBroken 14 rfl) (j_iret hK (dc9 DX12_firstBroken 15 rfl) (have z := lf9 h hk; z))) (fun h =>
  j_aload_n hK (dc9 DX12_firstBroken 11 rfl) 0 rfl rfl (b19 h fun x1 hc h => j_cV hK (c_X12_firstWithoutDual (hst9 hK) (hw) hc) cl12_316 cd_X12_firstWithoutDual im_X12_firstWithoutDual se_X12_firstWithoutDual (hw.1) (Nat.le_of_ble_eq_true rfl) rfl (Nat.le_of_ble_eq_true rfl) (Nat.le_of_ble_eq_true rfl) rfl (st := []) rfl (Nat.le_of_ble_eq_true rfl) (dc9 DX12_firstBroken 12 rfl) rfl (j_goto hK (dj9 DX12_firstBroken 13 29 rfl rfl) (j_iret hK (dc9 DX12_firstBroken 15 rfl) (have z := lf9 h hk; z))))))
def X12_firstBroken_T32 (K : KT) (o : Nat) (v1 : Int) (d : DA) (q : Int) : Prop := J K 6 d [(0, rf K o), (1, vi v1), (2, vi q)] 32 []
def X12_firstBroken_F32 (K : KT) (o : Nat) (v1 : Int) (d : DA) (q : Unit) : Prop := J K 6 d [] 158 []
def X12_firstBroken_T42 (K : KT) (o : Nat) (v1 : Int) (v2 : Int) (d : DA) (q : Int) : Prop := J K 6 d [(0, rf K o), (1, vi v1), (2, vi v2), (3, vi q)] 42 []
def X12_firstBroken_F42 (K : KT) (o : Nat) (v1 : Int) (v2 : Int) (d : DA) (q : Unit) : Prop := J K 6 d [(0, rf K o), (1, vi v1), (2, vi v2)] 152 []
def X12_firstBroken_T53 (K : KT) (o : Nat) (v1 : Int) (v2 : Int) (v3 : Int) (d : DA) (q : Int) : Prop := J K 6 d [(0, rf K o), (1, vi v1), (2, vi v2), (3, vi v3), (4, vi q)] 53 []
def X12_firstBroken_F53 (K : KT) (o : Nat) (v1 : Int) (v2 : Int) (v3 : Int) (d : DA) (q : Unit) : Prop := J K 6 d [(0, rf K o), (1, vi v1), (2, vi v2), (3, vi v3)] 146 []
def X12_firstBroken_T65 (K : KT) (o : Nat) (v1 : Int) (v2 : Int) (v3 : Int) (v4 : Int) (d : DA) (q : Int) : Prop := J K 6 d [(0, rf K o), (1, vi v1), (2, vi v2), (3, vi v3), (4, vi v4), (5, vi q)] 65 []
def X12_firstBroken_F65 (K : KT) (o : Nat) (v1 : Int) (v2 : Int) (v3 : Int) (v4 : Int) (d : DA) (q : Unit) : Prop := J K 6 d [(0, rf K o), (1, vi v1), (2, vi v2), (3, vi v3), (4, vi v4)] 140 []
def X12_firstBroken_j116_65 (o : Nat) (v2 v3 v4 v5 : Int) (d : DA) : Option ((Int) ⊕ ((Unit) ⊕ (Int))) :=
  some (.inr (.inr ((((125 * v2) + (25 * v3)) + (5 * v4)) + v5)))
theorem X12_firstBroken_wj116_65 {K : KT} (hK : Ok9 K cX12_firstBroken RX12 6 (some .int) 4 92) {o : Nat} (hw : W_12 (kσ K) o) {v2 v3 v4 v5 v1 : Int} {d : DA} {y : (Int) ⊕ ((Unit) ⊕ (Int))} (h : X12_firstBroken_j116_65 o v2 v3 v4 v5 d = some y) (hk : S3 (X12_firstBroken_T65 K o v1 v2 v3 v4 d) (X12_firstBroken_F65 K o v1 v2 v3 v4 d) (FI0 K d) y) : J K 6 d [(2, vi v2), (3, vi v3), (4, vi v4), (5, vi v5)] 116 [] :=
  j_bipush hK (dc9 DX12_firstBroken 63 rfl) (by decide) (j_iload_n hK (dc9 DX12_firstBroken 64 rfl) 0 rfl rfl (j_imul hK (dc9 DX12_firstBroken 65 rfl) (j_bipush hK (dc9 DX12_firstBroken 66 rfl) (by decide) (j_iload_n hK (dc9 DX12_firstBroken 67 rfl) 1 rfl rfl (j_imul hK (dc9 DX12_firstBroken 68 rfl) (j_iadd hK (dc9 DX12_firstBroken 69 rfl) (j_iconst hK (dc9 DX12_firstBroken 70 rfl) (j_iload hK (dc9 DX12_firstBroken 71 rfl) 2 rfl (j_imul hK (dc9 DX12_firstBroken 72 rfl) (j_iadd hK (dc9 DX12_firstBroken 73 rfl) (j_iload hK (dc9 DX12_firstBroken 74 rfl) 3 rfl (j_iadd hK (dc9 DX12_firstBroken 75 rfl) (j_iret hK (dc9 DX12_firstBroken 76 rfl) (have z := lf9 h hk; z))))))))))))))
def X12_firstBroken_j80_65 (o : Nat) (v1 v2 v3 v4 v5 s0 s1 : Int) (d : DA) : Option ((Int) ⊕ ((Unit) ⊕ (Int))) :=
  gd (inR s0 ∧ inR s1) <|
  if s1 ≤ s0 then (some (.inr (.inl ()))) else
  gd (inR v1 ∧ inR 1) <|
  if v1 = 1 then (b1 (X12_isSum o v2 v3 v4 v5 d) fun x3 =>
  gd (inR x3) <|
  if x3 = 0 then (X12_firstBroken_j116_65 o v2 v3 v4 v5 d) else
  some (.inl (v5 + 1))) else
  b1 (X12_keeps o v1 v2 v3 v4 d) fun x2 =>
  gd (inR x2) <|
  if x2 = 0 then (X12_firstBroken_j116_65 o v2 v3 v4 v5 d) else
  some (.inl (v5 + 1))
theorem X12_firstBroken_wj80_65 {K : KT} (hK : Ok9 K cX12_firstBroken RX12 6 (some .int) 4 92) {o : Nat} (hw : W_12 (kσ K) o) {v1 v2 v3 v4 v5 s0 s1 : Int} {d : DA} {y : (Int) ⊕ ((Unit) ⊕ (Int))} (h : X12_firstBroken_j80_65 o v1 v2 v3 v4 v5 s0 s1 d = some y) (hk : S3 (X12_firstBroken_T65 K o v1 v2 v3 v4 d) (X12_firstBroken_F65 K o v1 v2 v3 v4 d) (FI0 K d) y) : J K 6 d [(0, rf K o), (1, vi v1), (2, vi v2), (3, vi v3), (4, vi v4), (5, vi v5)] 80 [vi s1, vi s0] :=
  j_icmp_ge hK (dj9 DX12_firstBroken 44 140 rfl rfl) h (fun h => j_sub [0, 1, 2, 3, 4] rfl ((have z := lf9 h hk; z))) (fun h =>
  j_iload_n hK (dc9 DX12_firstBroken 45 rfl) 1 rfl rfl (j_iconst hK (dc9 DX12_firstBroken 46 rfl) (j_icmp_ne hK (dj9 DX12_firstBroken 47 104 rfl rfl) h (fun h => j_aload_n hK (dc9 DX12_firstBroken 56 rfl) 0 rfl rfl (j_iload_n hK (dc9 DX12_firstBroken 57 rfl) 1 rfl rfl (j_iload_n hK (dc9 DX12_firstBroken 58 rfl) 2 rfl rfl (j_iload_n hK (dc9 DX12_firstBroken 59 rfl) 3 rfl rfl (j_iload hK (dc9 DX12_firstBroken 60 rfl) 4 rfl (b19 h fun x2 hc h => j_cV hK (c_X12_keeps (hst9 hK) (hw) hc) cl12_323 cd_X12_keeps im_X12_keeps se_X12_keeps (hw.1) (Nat.le_of_ble_eq_true rfl) rfl (Nat.le_of_ble_eq_true rfl) (Nat.le_of_ble_eq_true rfl) rfl (st := []) rfl (Nat.le_of_ble_eq_true rfl) (dc9 DX12_firstBroken 61 rfl) rfl (j_if_ne hK (dj9 DX12_firstBroken 62 134 rfl rfl) h (fun h => j_iinc hK (dc9 DX12_firstBroken 77 rfl) 5 rfl (Nat.le_of_ble_eq_true rfl) rfl (j_goto hK (dj9 DX12_firstBroken 78 65 rfl rfl) (j_sub [1, 2, 3, 4, 5, 0] rfl ((have z := lf9 h hk; z))))) (fun h =>
  j_sub [2, 3, 4, 5] rfl (X12_firstBroken_wj116_65 hK hw h hk))))))))) (fun h =>
  j_aload_n hK (dc9 DX12_firstBroken 48 rfl) 0 rfl rfl (j_iload_n hK (dc9 DX12_firstBroken 49 rfl) 2 rfl rfl (j_iload_n hK (dc9 DX12_firstBroken 50 rfl) 3 rfl rfl (j_iload hK (dc9 DX12_firstBroken 51 rfl) 4 rfl (j_iload hK (dc9 DX12_firstBroken 52 rfl) 5 rfl (b19 h fun x3 hc h => j_cV hK (c_X12_isSum (hst9 hK) (hw) hc) cl12_319 cd_X12_isSum im_X12_isSum se_X12_isSum (hw.1) (Nat.le_of_ble_eq_true rfl) rfl (Nat.le_of_ble_eq_true rfl) (Nat.le_of_ble_eq_true rfl) rfl (st := []) rfl (Nat.le_of_ble_eq_true rfl) (dc9 DX12_firstBroken 53 rfl) rfl (j_if_ne hK (dj9 DX12_firstBroken 54 134 rfl rfl) h (fun h => j_iinc hK (dc9 DX12_firstBroken 77 rfl) 5 rfl (Nat.le_of_ble_eq_true rfl) rfl (j_goto hK (dj9 DX12_firstBroken 78 65 rfl rfl) (j_sub [1, 2, 3, 4, 5, 0] rfl ((have z := lf9 h hk; z))))) (fun h =>
  j_goto hK (dj9 DX12_firstBroken 55 116 rfl rfl) (j_sub [2, 3, 4, 5] rfl (X12_firstBroken_wj116_65 hK hw h hk)))))))))))))
def X12_firstBroken_b65 (o : Nat) (v1 v2 v3 v4 v5 : Int) (d : DA) : Option ((Int) ⊕ ((Unit) ⊕ (Int))) :=
  gd (inR v1 ∧ inR 1) <|
  if v1 = 1 then (X12_firstBroken_j80_65 o v1 v2 v3 v4 v5 v5 (d.1 o 1) d) else
  X12_firstBroken_j80_65 o v1 v2 v3 v4 v5 v5 1 d
theorem X12_firstBroken_wb65 {K : KT} (hK : Ok9 K cX12_firstBroken RX12 6 (some .int) 4 92) {o : Nat} (hw : W_12 (kσ K) o) {v1 v2 v3 v4 v5 : Int} {d : DA} {y : (Int) ⊕ ((Unit) ⊕ (Int))} (h : X12_firstBroken_b65 o v1 v2 v3 v4 v5 d = some y) (hk : S3 (X12_firstBroken_T65 K o v1 v2 v3 v4 d) (X12_firstBroken_F65 K o v1 v2 v3 v4 d) (FI0 K d) y) : J K 6 d [(0, rf K o), (1, vi v1), (2, vi v2), (3, vi v3), (4, vi v4), (5, vi v5)] 65 [] :=
  j_iload hK (dc9 DX12_firstBroken 36 rfl) 5 rfl (j_iload_n hK (dc9 DX12_firstBroken 37 rfl) 1 rfl rfl (j_iconst hK (dc9 DX12_firstBroken 38 rfl) (j_icmp_ne hK (dj9 DX12_firstBroken 39 79 rfl rfl) h (fun h => j_iconst hK (dc9 DX12_firstBroken 43 rfl) (X12_firstBroken_wj80_65 hK hw h hk)) (fun h =>
  j_aload_n hK (dc9 DX12_firstBroken 40 rfl) 0 rfl rfl (j_getI hK (hw.1) fl12_7 rfl (dc9 DX12_firstBroken 41 rfl) (j_goto hK (dj9 DX12_firstBroken 42 80 rfl rfl) (X12_firstBroken_wj80_65 hK hw h hk)))))))
def X12_firstBroken_b53 (o : Nat) (v1 v2 v3 v4 : Int) (d : DA) : Option ((Int) ⊕ ((Unit) ⊕ (Int))) :=
  gd (inR v4 ∧ inR (d.1 o 1)) <|
  if (d.1 o 1) ≤ v4 then (some (.inr (.inl ()))) else
  lpR (fun q => X12_firstBroken_b65 o v1 v2 v3 v4 q d) 0 (fun e => some (.inl (v4 + 1))) (fun r => some (.inr (.inr r)))
theorem X12_firstBroken_wb53 {K : KT} (hK : Ok9 K cX12_firstBroken RX12 6 (some .int) 4 92) {o : Nat} (hw : W_12 (kσ K) o) {v1 v2 v3 v4 : Int} {d : DA} {y : (Int) ⊕ ((Unit) ⊕ (Int))} (h : X12_firstBroken_b53 o v1 v2 v3 v4 d = some y) (hk : S3 (X12_firstBroken_T53 K o v1 v2 v3 d) (X12_firstBroken_F53 K o v1 v2 v3 d) (FI0 K d) y) : J K 6 d [(0, rf K o), (1, vi v1), (2, vi v2), (3, vi v3), (4, vi v4)] 53 [] :=
  j_iload hK (dc9 DX12_firstBroken 30 rfl) 4 rfl (j_aload_n hK (dc9 DX12_firstBroken 31 rfl) 0 rfl rfl (j_getI hK (hw.1) fl12_7 rfl (dc9 DX12_firstBroken 32 rfl) (j_icmp_ge hK (dj9 DX12_firstBroken 33 146 rfl rfl) h (fun h => j_sub [0, 1, 2, 3] rfl ((have z := lf9 h hk; z))) (fun h =>
  j_iconst hK (dc9 DX12_firstBroken 34 rfl) (j_istore hK (dc9 DX12_firstBroken 35 rfl) (Nat.le_of_ble_eq_true rfl) rfl (j_sub [1, 2, 3, 4, 5, 0] rfl ((have z := j_lpR (X12_firstBroken_T65 K o v1 v2 v3 v4 d) (X12_firstBroken_F65 K o v1 v2 v3 v4 d) (FI0 K d) h (fun q y h hk => X12_firstBroken_wb65 hK hw h hk) (fun e h => j_iinc hK (dc9 DX12_firstBroken 79 rfl) 4 rfl (Nat.le_of_ble_eq_true rfl) rfl (j_goto hK (dj9 DX12_firstBroken 80 53 rfl rfl) (j_sub [1, 2, 3, 4, 0] rfl ((have z := lf9 h hk; z))))) (fun r h => (have z := lf9 h hk; z)); z))))))))
def X12_firstBroken_b42 (o : Nat) (v1 v2 v3 : Int) (d : DA) : Option ((Int) ⊕ ((Unit) ⊕ (Int))) :=
  gd (inR v3 ∧ inR (d.1 o 1)) <|
  if (d.1 o 1) ≤ v3 then (some (.inr (.inl ()))) else
  lpR (fun q => X12_firstBroken_b53 o v1 v2 v3 q d) 0 (fun e => some (.inl (v3 + 1))) (fun r => some (.inr (.inr r)))
theorem X12_firstBroken_wb42 {K : KT} (hK : Ok9 K cX12_firstBroken RX12 6 (some .int) 4 92) {o : Nat} (hw : W_12 (kσ K) o) {v1 v2 v3 : Int} {d : DA} {y : (Int) ⊕ ((Unit) ⊕ (Int))} (h : X12_firstBroken_b42 o v1 v2 v3 d = some y) (hk : S3 (X12_firstBroken_T42 K o v1 v2 d) (X12_firstBroken_F42 K o v1 v2 d) (FI0 K d) y) : J K 6 d [(0, rf K o), (1, vi v1), (2, vi v2), (3, vi v3)] 42 [] :=
  j_iload_n hK (dc9 DX12_firstBroken 24 rfl) 3 rfl rfl (j_aload_n hK (dc9 DX12_firstBroken 25 rfl) 0 rfl rfl (j_getI hK (hw.1) fl12_7 rfl (dc9 DX12_firstBroken 26 rfl) (j_icmp_ge hK (dj9 DX12_firstBroken 27 152 rfl rfl) h (fun h => j_sub [0, 1, 2] rfl ((have z := lf9 h hk; z))) (fun h =>
  j_iconst hK (dc9 DX12_firstBroken 28 rfl) (j_istore hK (dc9 DX12_firstBroken 29 rfl) (Nat.le_of_ble_eq_true rfl) rfl (j_sub [1, 2, 3, 4, 0] rfl ((have z := j_lpR (X12_firstBroken_T53 K o v1 v2 v3 d) (X12_firstBroken_F53 K o v1 v2 v3 d) (FI0 K d) h (fun q y h hk => X12_firstBroken_wb53 hK hw h hk) (fun e h => j_iinc hK (dc9 DX12_firstBroken 81 rfl) 3 rfl (Nat.le_of_ble_eq_true rfl) rfl (j_goto hK (dj9 DX12_firstBroken 82 42 rfl rfl) (j_sub [1, 2, 3, 0] rfl ((have z := lf9 h hk; z))))) (fun r h => (have z := lf9 h hk; z)); z))))))))
def X12_firstBroken_b32 (o : Nat) (v1 v2 : Int) (d : DA) : Option ((Int) ⊕ ((Unit) ⊕ (Int))) :=
  gd (inR v2 ∧ inR (d.1 o 1)) <|
  if (d.1 o 1) ≤ v2 then (some (.inr (.inl ()))) else
  lpR (fun q => X12_firstBroken_b42 o v1 v2 q d) 0 (fun e => some (.inl (v2 + 1))) (fun r => some (.inr (.inr r)))
theorem X12_firstBroken_wb32 {K : KT} (hK : Ok9 K cX12_firstBroken RX12 6 (some .int) 4 92) {o : Nat} (hw : W_12 (kσ K) o) {v1 v2 : Int} {d : DA} {y : (Int) ⊕ ((Unit) ⊕ (Int))} (h : X12_firstBroken_b32 o v1 v2 d = some y) (hk : S3 (X12_firstBroken_T32 K o v1 d) (X12_firstBroken_F32 K o v1 d) (FI0 K d) y) : J K 6 d [(0, rf K o), (1, vi v1), (2, vi v2)] 32 [] :=
  j_iload_n hK (dc9 DX12_firstBroken 18 rfl) 2 rfl rfl (j_aload_n hK (dc9 DX12_firstBroken 19 rfl) 0 rfl rfl (j_getI hK (hw.1) fl12_7 rfl (dc9 DX12_firstBroken 20 rfl) (j_icmp_ge hK (dj9 DX12_firstBroken 21 158 rfl rfl) h (fun h => j_sub [] rfl ((have z := lf9 h hk; z))) (fun h =>
  j_iconst hK (dc9 DX12_firstBroken 22 rfl) (j_istore_n hK (dc9 DX12_firstBroken 23 rfl) rfl (Nat.le_of_ble_eq_true rfl) rfl (j_sub [1, 2, 3, 0] rfl ((have z := j_lpR (X12_firstBroken_T42 K o v1 v2 d) (X12_firstBroken_F42 K o v1 v2 d) (FI0 K d) h (fun q y h hk => X12_firstBroken_wb42 hK hw h hk) (fun e h => j_iinc hK (dc9 DX12_firstBroken 83 rfl) 2 rfl (Nat.le_of_ble_eq_true rfl) rfl (j_goto hK (dj9 DX12_firstBroken 84 32 rfl rfl) (j_sub [1, 2, 0] rfl ((have z := lf9 h hk; z))))) (fun r h => (have z := lf9 h hk; z)); z))))))))
def X12_firstBroken_j30 (o : Nat) (v1 : Int) (d : DA) : Option (Int) :=
  lpR (fun q => X12_firstBroken_b32 o v1 q d) 0 (fun e => some ((-1))) (fun r => some r)
theorem X12_firstBroken_wj30 {K : KT} (hK : Ok9 K cX12_firstBroken RX12 6 (some .int) 4 92) {o : Nat} (hw : W_12 (kσ K) o) {v1 : Int} {d : DA} {y : Int} (h : X12_firstBroken_j30 o v1 d = some y) (hk : (FI0 K d) y) : J K 6 d [(0, rf K o), (1, vi v1)] 30 [] :=
  j_iconst hK (dc9 DX12_firstBroken 16 rfl) (j_istore_n hK (dc9 DX12_firstBroken 17 rfl) rfl (Nat.le_of_ble_eq_true rfl) rfl (j_sub [1, 2, 0] rfl ((have z := j_lpR (X12_firstBroken_T32 K o v1 d) (X12_firstBroken_F32 K o v1 d) (FI0 K d) h (fun q y h hk => X12_firstBroken_wb32 hK hw h hk) (fun e h => j_iconst hK (dc9 DX12_firstBroken 85 rfl) (j_iret hK (dc9 DX12_firstBroken 86 rfl) (have z := lf9 h hk; z))) (fun r h => (have z := lf9 h hk; z)); z))))
def X12_firstBroken (o : Nat) (v1 : Int) (d : DA) : Option (Int) :=
  gd (inR v1) <|
  if v1 = 0 then (X12_firstBroken_j17 o v1 d) else
  gd (inR v1 ∧ inR 3) <|
  if v1 = 3 then (b1 (X12_firstWithoutDual o d) fun x4 =>
  gd (inR x4 ∧ inR (-1)) <|
  if x4 = (-1) then (X12_firstBroken_j30 o v1 d) else
  X12_firstBroken_j17 o v1 d) else
  X12_firstBroken_j30 o v1 d
theorem X12_firstBroken_w {K : KT} (hK : Ok9 K cX12_firstBroken RX12 6 (some .int) 4 92) {o : Nat} (hw : W_12 (kσ K) o) {v1 : Int} {d : DA} {y : Int} (h : X12_firstBroken o v1 d = some y) (hk : (FI0 K d) y) : J K 6 d [(0, rf K o), (1, vi v1)] 0 [] :=
  j_iload_n hK (dc9 DX12_firstBroken 0 rfl) 1 rfl rfl (j_if_eq hK (dj9 DX12_firstBroken 1 17 rfl rfl) h (fun h => X12_firstBroken_wj17 hK hw h hk) (fun h =>
  j_iload_n hK (dc9 DX12_firstBroken 2 rfl) 1 rfl rfl (j_iconst hK (dc9 DX12_firstBroken 3 rfl) (j_icmp_ne hK (dj9 DX12_firstBroken 4 30 rfl rfl) h (fun h => X12_firstBroken_wj30 hK hw h hk) (fun h =>
  j_aload_n hK (dc9 DX12_firstBroken 5 rfl) 0 rfl rfl (b19 h fun x4 hc h => j_cV hK (c_X12_firstWithoutDual (hst9 hK) (hw) hc) cl12_316 cd_X12_firstWithoutDual im_X12_firstWithoutDual se_X12_firstWithoutDual (hw.1) (Nat.le_of_ble_eq_true rfl) rfl (Nat.le_of_ble_eq_true rfl) (Nat.le_of_ble_eq_true rfl) rfl (st := []) rfl (Nat.le_of_ble_eq_true rfl) (dc9 DX12_firstBroken 6 rfl) rfl (j_iconst hK (dc9 DX12_firstBroken 7 rfl) (j_icmp_eq hK (dj9 DX12_firstBroken 8 30 rfl rfl) h (fun h => X12_firstBroken_wj30 hK hw h hk) (fun h =>
  X12_firstBroken_wj17 hK hw h hk)))))))))
theorem c_X12_firstBroken {G : GT} {l : Launch} {ad : Nat → Nat} {σ : HS} {d : DA} (hst : l.stackTraces = false) {o : Nat} (hw : W_12 σ o) {v1 : Int} {r : Int} (h : X12_firstBroken o v1 d = some r) : Ct G l yX12_firstBroken cX12_firstBroken 6 (some .int) 4 92 ad (wD σ d) [.ref (ad o), vi v1] (some (vi r)) (wD σ d) :=
  ct_of hst rfl (Nat.le_of_ble_eq_true rfl) (fun K e0 e9 e1 e2 e3 hK => by subst e0; subst e9; subst e1; subst e2; exact X12_firstBroken_w hK hw h e3)
/-! X12_law -/
theorem DX12_law : Dt cX12_law [(0, .aload_n 0, 1, 1), (1, .iconst 0, 1, 2), (2, .putfield 165, 3, 5), (5, .iload_n 1, 1, 6), (6, .iconst 0, 1, 7), (7, .iconst 3, 1, 8), (8, .invokestatic 168, 3, 11), (11, .ifCond .eq 11, 3, 14), (14, .aload_n 0, 1, 15), (15, .iload_n 1, 1, 16), (16, .invokevirtual 326, 3, 19), (19, .goto 8, 3, 22), (22, .aload_n 0, 1, 23), (23, .iconst 1, 1, 24), (24, .invokevirtual 271, 3, 27), (27, .ireturn, 1, 28)] := by unfold Dt; decide +kernel
def X12_law (o : Nat) (v1 : Int) (d : DA) : Option (Int × DA) :=
  lt9 (wI d o 0 0) fun d1 =>
  b1 (X12_isIn v1 0 3 d1) fun x2 =>
  gd (inR x2) <|
  if x2 = 0 then (bd (X12_fail o 1 d1) fun x4 d3 =>
  some ((x4, d3))) else
  b1 (X12_firstBroken o v1 d1) fun x5 =>
  some ((x5, d1))
theorem X12_law_w {K : KT} (hK : Ok9 K cX12_law RX12 2 (some .int) 5 117) {o : Nat} (hw : W_12 (kσ K) o) {v1 : Int} {d : DA} {y : Int × DA} (h : X12_law o v1 d = some y) (hk : (FI K) y) : J K 2 d [(0, rf K o), (1, vi v1)] 0 [] :=
  j_aload_n hK (dc9 DX12_law 0 rfl) 0 rfl rfl (j_iconst hK (dc9 DX12_law 1 rfl) (j_putI hK (hw.1) fl12_165 fp12_165 rfl (dc9 DX12_law 2 rfl) h fun d1 h => (j_iload_n hK (dc9 DX12_law 3 rfl) 1 rfl rfl (j_iconst hK (dc9 DX12_law 4 rfl) (j_iconst hK (dc9 DX12_law 5 rfl) (b19 h fun x2 hc h => j_cS hK (c_X12_isIn (hst9 hK)  hc) cl12_168 cd_X12_isIn sm_X12_isIn (Nat.le_of_ble_eq_true rfl) (Nat.le_of_ble_eq_true rfl) rfl (st := []) rfl (Nat.le_of_ble_eq_true rfl) (dc9 DX12_law 6 rfl) rfl (j_if_eq hK (dj9 DX12_law 7 22 rfl rfl) h (fun h => j_aload_n hK (dc9 DX12_law 12 rfl) 0 rfl rfl (j_iconst hK (dc9 DX12_law 13 rfl) (bd9 h fun x4 d3 hc h => j_cV hK (c_X12_fail (hst9 hK) (hw) hc) cl12_271 cd_X12_fail im_X12_fail se_X12_fail (hw.1) (Nat.le_of_ble_eq_true rfl) rfl (Nat.le_of_ble_eq_true rfl) (Nat.le_of_ble_eq_true rfl) rfl (st := []) rfl (Nat.le_of_ble_eq_true rfl) (dc9 DX12_law 14 rfl) rfl (j_iret hK (dc9 DX12_law 15 rfl) (have z := lf9 h hk; z))))) (fun h =>
  j_aload_n hK (dc9 DX12_law 8 rfl) 0 rfl rfl (j_iload_n hK (dc9 DX12_law 9 rfl) 1 rfl rfl (b19 h fun x5 hc h => j_cV hK (c_X12_firstBroken (hst9 hK) (hw) hc) cl12_326 cd_X12_firstBroken im_X12_firstBroken se_X12_firstBroken (hw.1) (Nat.le_of_ble_eq_true rfl) rfl (Nat.le_of_ble_eq_true rfl) (Nat.le_of_ble_eq_true rfl) rfl (st := []) rfl (Nat.le_of_ble_eq_true rfl) (dc9 DX12_law 10 rfl) rfl (j_goto hK (dj9 DX12_law 11 27 rfl rfl) (j_iret hK (dc9 DX12_law 15 rfl) (have z := lf9 h hk; z)))))))))))))
theorem c_X12_law {G : GT} {l : Launch} {ad : Nat → Nat} {σ : HS} {d d' : DA} (hst : l.stackTraces = false) {o : Nat} (hw : W_12 σ o) {v1 : Int} {r : Int} (h : X12_law o v1 d = some (r, d')) : Ct G l yX12_law cX12_law 2 (some .int) 5 117 ad (wD σ d) [.ref (ad o), vi v1] (some (vi r)) (wD σ d') :=
  ct_of hst rfl (Nat.le_of_ble_eq_true rfl) (fun K e0 e9 e1 e2 e3 hK => by subst e0; subst e9; subst e1; subst e2; exact X12_law_w hK hw h e3)
/-! X12_hasDuals -/
theorem DX12_hasDuals : Dt cX12_hasDuals [(0, .aload_n 0, 1, 1), (1, .invokevirtual 316, 3, 4), (4, .iconst (-1), 1, 5), (5, .if_icmp .ne 7, 3, 8), (8, .iconst 1, 1, 9), (9, .goto 4, 3, 12), (12, .iconst 0, 1, 13), (13, .ireturn, 1, 14)] := by unfold Dt; decide +kernel
def X12_hasDuals (o : Nat) (d : DA) : Option (Int) :=
  b1 (X12_firstWithoutDual o d) fun x1 =>
  gd (inR x1 ∧ inR (-1)) <|
  if x1 = (-1) then (some (1)) else
  some (0)
theorem X12_hasDuals_w {K : KT} (hK : Ok9 K cX12_hasDuals RX12 1 (some .boolean) 4 89) {o : Nat} (hw : W_12 (kσ K) o) {d : DA} {y : Int} (h : X12_hasDuals o d = some y) (hk : (FI0 K d) y) : J K 1 d [(0, rf K o)] 0 [] :=
  j_aload_n hK (dc9 DX12_hasDuals 0 rfl) 0 rfl rfl (b19 h fun x1 hc h => j_cV hK (c_X12_firstWithoutDual (hst9 hK) (hw) hc) cl12_316 cd_X12_firstWithoutDual im_X12_firstWithoutDual se_X12_firstWithoutDual (hw.1) (Nat.le_of_ble_eq_true rfl) rfl (Nat.le_of_ble_eq_true rfl) (Nat.le_of_ble_eq_true rfl) rfl (st := []) rfl (Nat.le_of_ble_eq_true rfl) (dc9 DX12_hasDuals 1 rfl) rfl (j_iconst hK (dc9 DX12_hasDuals 2 rfl) (j_icmp_ne hK (dj9 DX12_hasDuals 3 12 rfl rfl) h (fun h => j_iconst hK (dc9 DX12_hasDuals 6 rfl) (j_zret hK (Or.inl rfl) (dc9 DX12_hasDuals 7 rfl) (have z := lf9 h hk; z))) (fun h =>
  j_iconst hK (dc9 DX12_hasDuals 4 rfl) (j_goto hK (dj9 DX12_hasDuals 5 13 rfl rfl) (j_zret hK (Or.inr rfl) (dc9 DX12_hasDuals 7 rfl) (have z := lf9 h hk; z)))))))
theorem c_X12_hasDuals {G : GT} {l : Launch} {ad : Nat → Nat} {σ : HS} {d : DA} (hst : l.stackTraces = false) {o : Nat} (hw : W_12 σ o) {r : Int} (h : X12_hasDuals o  d = some r) : Ct G l yX12_hasDuals cX12_hasDuals 1 (some .boolean) 4 89 ad (wD σ d) [.ref (ad o)] (some (vi r)) (wD σ d) :=
  ct_of hst rfl (Nat.le_of_ble_eq_true rfl) (fun K e0 e9 e1 e2 e3 hK => by subst e0; subst e9; subst e1; subst e2; exact X12_hasDuals_w hK hw h e3)
/-! X12_dual -/
theorem DX12_dual : Dt cX12_dual [(0, .aload_n 0, 1, 1), (1, .iconst 0, 1, 2), (2, .putfield 165, 3, 5), (5, .aload_n 0, 1, 6), (6, .iload_n 1, 1, 7), (7, .invokevirtual 310, 3, 10), (10, .ifCond .eq 22, 3, 13), (13, .aload_n 0, 1, 14), (14, .invokevirtual 329, 3, 17), (17, .ifCond .eq 11, 3, 20), (20, .aload_n 0, 1, 21), (21, .iload_n 1, 1, 22), (22, .invokevirtual 313, 3, 25), (25, .goto 12, 3, 28), (28, .iconst (-1), 1, 29), (29, .goto 8, 3, 32), (32, .aload_n 0, 1, 33), (33, .iconst 1, 1, 34), (34, .invokevirtual 271, 3, 37), (37, .ireturn, 1, 38)] := by unfold Dt; decide +kernel
def X12_dual (o : Nat) (v1 : Int) (d : DA) : Option (Int × DA) :=
  lt9 (wI d o 0 0) fun d1 =>
  b1 (X12_isKind o v1 d1) fun x2 =>
  gd (inR x2) <|
  if x2 = 0 then (bd (X12_fail o 1 d1) fun x4 d3 =>
  some ((x4, d3))) else
  b1 (X12_hasDuals o d1) fun x5 =>
  gd (inR x5) <|
  if x5 = 0 then (some (((-1), d1))) else
  b1 (X12_partner o v1 d1) fun x6 =>
  some ((x6, d1))
theorem X12_dual_w {K : KT} (hK : Ok9 K cX12_dual RX12 2 (some .int) 5 109) {o : Nat} (hw : W_12 (kσ K) o) {v1 : Int} {d : DA} {y : Int × DA} (h : X12_dual o v1 d = some y) (hk : (FI K) y) : J K 2 d [(0, rf K o), (1, vi v1)] 0 [] :=
  j_aload_n hK (dc9 DX12_dual 0 rfl) 0 rfl rfl (j_iconst hK (dc9 DX12_dual 1 rfl) (j_putI hK (hw.1) fl12_165 fp12_165 rfl (dc9 DX12_dual 2 rfl) h fun d1 h => (j_aload_n hK (dc9 DX12_dual 3 rfl) 0 rfl rfl (j_iload_n hK (dc9 DX12_dual 4 rfl) 1 rfl rfl (b19 h fun x2 hc h => j_cV hK (c_X12_isKind (hst9 hK) (hw) hc) cl12_310 cd_X12_isKind im_X12_isKind se_X12_isKind (hw.1) (Nat.le_of_ble_eq_true rfl) rfl (Nat.le_of_ble_eq_true rfl) (Nat.le_of_ble_eq_true rfl) rfl (st := []) rfl (Nat.le_of_ble_eq_true rfl) (dc9 DX12_dual 5 rfl) rfl (j_if_eq hK (dj9 DX12_dual 6 32 rfl rfl) h (fun h => j_aload_n hK (dc9 DX12_dual 16 rfl) 0 rfl rfl (j_iconst hK (dc9 DX12_dual 17 rfl) (bd9 h fun x4 d3 hc h => j_cV hK (c_X12_fail (hst9 hK) (hw) hc) cl12_271 cd_X12_fail im_X12_fail se_X12_fail (hw.1) (Nat.le_of_ble_eq_true rfl) rfl (Nat.le_of_ble_eq_true rfl) (Nat.le_of_ble_eq_true rfl) rfl (st := []) rfl (Nat.le_of_ble_eq_true rfl) (dc9 DX12_dual 18 rfl) rfl (j_iret hK (dc9 DX12_dual 19 rfl) (have z := lf9 h hk; z))))) (fun h =>
  j_aload_n hK (dc9 DX12_dual 7 rfl) 0 rfl rfl (b19 h fun x5 hc h => j_cV hK (c_X12_hasDuals (hst9 hK) (hw) hc) cl12_329 cd_X12_hasDuals im_X12_hasDuals se_X12_hasDuals (hw.1) (Nat.le_of_ble_eq_true rfl) rfl (Nat.le_of_ble_eq_true rfl) (Nat.le_of_ble_eq_true rfl) rfl (st := []) rfl (Nat.le_of_ble_eq_true rfl) (dc9 DX12_dual 8 rfl) rfl (j_if_eq hK (dj9 DX12_dual 9 28 rfl rfl) h (fun h => j_iconst hK (dc9 DX12_dual 14 rfl) (j_goto hK (dj9 DX12_dual 15 37 rfl rfl) (j_iret hK (dc9 DX12_dual 19 rfl) (have z := lf9 h hk; z)))) (fun h =>
  j_aload_n hK (dc9 DX12_dual 10 rfl) 0 rfl rfl (j_iload_n hK (dc9 DX12_dual 11 rfl) 1 rfl rfl (b19 h fun x6 hc h => j_cV hK (c_X12_partner (hst9 hK) (hw) hc) cl12_313 cd_X12_partner im_X12_partner se_X12_partner (hw.1) (Nat.le_of_ble_eq_true rfl) rfl (Nat.le_of_ble_eq_true rfl) (Nat.le_of_ble_eq_true rfl) rfl (st := []) rfl (Nat.le_of_ble_eq_true rfl) (dc9 DX12_dual 12 rfl) rfl (j_goto hK (dj9 DX12_dual 13 37 rfl rfl) (j_iret hK (dc9 DX12_dual 19 rfl) (have z := lf9 h hk; z)))))))))))))))
theorem c_X12_dual {G : GT} {l : Launch} {ad : Nat → Nat} {σ : HS} {d d' : DA} (hst : l.stackTraces = false) {o : Nat} (hw : W_12 σ o) {v1 : Int} {r : Int} (h : X12_dual o v1 d = some (r, d')) : Ct G l yX12_dual cX12_dual 2 (some .int) 5 109 ad (wD σ d) [.ref (ad o), vi v1] (some (vi r)) (wD σ d') :=
  ct_of hst rfl (Nat.le_of_ble_eq_true rfl) (fun K e0 e9 e1 e2 e3 hK => by subst e0; subst e9; subst e1; subst e2; exact X12_dual_w hK hw h e3)
/-! X12_tellSizes -/
theorem DX12_tellSizes : Dt cX12_tellSizes [(0, .iconst 0, 1, 1), (1, .istore_n 1, 1, 2), (2, .iload_n 1, 1, 3), (3, .iconst 5, 1, 4), (4, .if_icmp .ge 18, 3, 7), (7, .aload_n 0, 1, 8), (8, .getfield 59, 3, 11), (11, .iload_n 1, 1, 12), (12, .ldc2_w 332, 3, 15), (15, .lastore, 1, 16), (16, .iinc 1 1, 3, 19), (19, .goto (-17), 3, 22), (22, .iconst 0, 1, 23), (23, .istore_n 1, 1, 24), (24, .iload_n 1, 1, 25), (25, .bipush 100, 2, 27), (27, .if_icmp .ge 152, 3, 30), (30, .iconst 0, 1, 31), (31, .istore_n 2, 1, 32), (32, .iload_n 2, 1, 33), (33, .aload_n 0, 1, 34), (34, .getfield 7, 3, 37), (37, .if_icmp .ge 76, 3, 40), (40, .aload_n 0, 1, 41), (41, .getfield 63, 3, 44), (44, .iload_n 2, 1, 45), (45, .lconst 0, 1, 46), (46, .lastore, 1, 47), (47, .iconst 0, 1, 48), (48, .istore_n 3, 1, 49), (49, .iload_n 3, 1, 50), (50, .aload_n 0, 1, 51), (51, .getfield 7, 3, 54), (54, .if_icmp .ge 53, 3, 57), (57, .iconst 0, 1, 58), (58, .istore 4, 2, 60), (60, .iload 4, 2, 62), (62, .aload_n 0, 1, 63), (63, .getfield 7, 3, 66), (66, .if_icmp .ge 35, 3, 69), (69, .aload_n 0, 1, 70), (70, .getfield 63, 3, 73), (73, .iload_n 2, 1, 74), (74, .dup2, 1, 75), (75, .laload, 1, 76), (76, .aload_n 0, 1, 77), (77, .iload_n 3, 1, 78), (78, .iload 4, 2, 80), (80, .iload_n 2, 1, 81), (81, .invokevirtual 300, 3, 84), (84, .i2l, 1, 85), (85, .aload_n 0, 1, 86), (86, .getfield 59, 3, 89), (89, .iload 4, 2, 91), (91, .laload, 1, 92), (92, .lmul, 1, 93), (93, .ladd, 1, 94), (94, .lastore, 1, 95), (95, .iinc 4 1, 3, 98), (98, .goto (-38), 3, 101), (101, .iinc 3 1, 3, 104), (104, .goto (-55), 3, 107), (107, .iinc 2 1, 3, 110), (110, .goto (-78), 3, 113), (113, .iconst 0, 1, 114), (114, .istore_n 2, 1, 115), (115, .iload_n 2, 1, 116), (116, .aload_n 0, 1, 117), (117, .getfield 7, 3, 120), (120, .if_icmp .ge 53, 3, 123), (123, .aload_n 0, 1, 124), (124, .getfield 59, 3, 127), (127, .iload_n 2, 1, 128), (128, .aload_n 0, 1, 129), (129, .getfield 63, 3, 132), (132, .iconst 0, 1, 133), (133, .laload, 1, 134), (134, .lconst 0, 1, 135), (135, .lcmp, 1, 136), (136, .ifCond .ne 7, 3, 139), (139, .lconst 0, 1, 140), (140, .goto 26, 3, 143), (143, .ldc2_w 334, 3, 146), (146, .aload_n 0, 1, 147), (147, .getfield 63, 3, 150), (150, .iload_n 2, 1, 151), (151, .laload, 1, 152), (152, .ldc2_w 332, 3, 155), (155, .lmul, 1, 156), (156, .aload_n 0, 1, 157), (157, .getfield 63, 3, 160), (160, .iconst 0, 1, 161), (161, .laload, 1, 162), (162, .ldiv, 1, 163), (163, .invokestatic 336, 3, 166), (166, .lastore, 1, 167), (167, .iinc 2 1, 3, 170), (170, .goto (-55), 3, 173), (173, .iinc 1 1, 3, 176), (176, .goto (-152), 3, 179), (179, .return_, 1, 180)] := by unfold Dt; decide +kernel
def X12_tellSizes_T2 (K : KT) (o : Nat) (q : Int × DA) : Prop := J K 5 q.2 [(0, rf K o), (1, vi (q.1))] 2 []
def X12_tellSizes_F2 (K : KT) (o : Nat) (q : DA) : Prop := J K 5 q [(0, rf K o)] 22 []
def X12_tellSizes_b2 (o : Nat) (v1 : Int) (d : DA) : Option ((Int × DA) ⊕ (DA)) :=
  gd (inR v1 ∧ inR 5) <|
  if 5 ≤ v1 then (some (.inr d)) else
  gd (ix v1 5) <|
  lt9 (wL d (o + 14) (Int.toNat v1) 1000000) fun d1 =>
  some (.inl (v1 + 1, d1))
theorem X12_tellSizes_wb2 {K : KT} (hK : Ok9 K cX12_tellSizes RX12 5 none 6 200) {o : Nat} (hw : W_12 (kσ K) o) {v1 : Int} {d : DA} {y : (Int × DA) ⊕ (DA)} (h : X12_tellSizes_b2 o v1 d = some y) (hk : S2 (X12_tellSizes_T2 K o) (X12_tellSizes_F2 K o) y) : J K 5 d [(0, rf K o), (1, vi v1)] 2 [] :=
  j_iload_n hK (dc9 DX12_tellSizes 2 rfl) 1 rfl rfl (j_iconst hK (dc9 DX12_tellSizes 3 rfl) (j_icmp_ge hK (dj9 DX12_tellSizes 4 22 rfl rfl) h (fun h => j_sub [0] rfl ((have z := lf9 h hk; z))) (fun h =>
  j_aload_n hK (dc9 DX12_tellSizes 5 rfl) 0 rfl rfl (j_getR hK (hw.1) fl12_59 rfl (hw.2.2.2.2.2.2.2.2.2.2.2.2.2.2.1.1) (hw.2.2.2.2.2.2.2.2.2.2.2.2.2.2.1.2.1) (dc9 DX12_tellSizes 6 rfl) (j_iload_n hK (dc9 DX12_tellSizes 7 rfl) 1 rfl rfl (j_ldc2 hK (dc9 DX12_tellSizes 8 rfl) (am9 37 (by decide +kernel) rfl) (j_last hK (hw.2.2.2.2.2.2.2.2.2.2.2.2.2.2.1.2) (Nat.le_of_ble_eq_true rfl) (dc9 DX12_tellSizes 9 rfl) h fun d1 h => (j_iinc hK (dc9 DX12_tellSizes 10 rfl) 1 rfl (Nat.le_of_ble_eq_true rfl) rfl (j_goto hK (dj9 DX12_tellSizes 11 2 rfl rfl) (j_sub [1, 0] rfl ((have z := lf9 h hk; z))))))))))))
def X12_tellSizes_T24 (K : KT) (o : Nat) (q : Int × DA) : Prop := J K 5 q.2 [(0, rf K o), (1, vi (q.1))] 24 []
def X12_tellSizes_F24 (K : KT) (o : Nat) (q : DA) : Prop := J K 5 q [] 179 []
def X12_tellSizes_T32 (K : KT) (o : Nat) (v1 : Int) (q : Int × DA) : Prop := J K 5 q.2 [(0, rf K o), (1, vi v1), (2, vi (q.1))] 32 []
def X12_tellSizes_F32 (K : KT) (o : Nat) (v1 : Int) (q : DA) : Prop := J K 5 q [(0, rf K o), (1, vi v1)] 113 []
def X12_tellSizes_T49 (K : KT) (o : Nat) (v1 : Int) (v2 : Int) (q : Int × DA) : Prop := J K 5 q.2 [(0, rf K o), (1, vi v1), (2, vi v2), (3, vi (q.1))] 49 []
def X12_tellSizes_F49 (K : KT) (o : Nat) (v1 : Int) (v2 : Int) (q : DA) : Prop := J K 5 q [(0, rf K o), (1, vi v1), (2, vi v2)] 107 []
def X12_tellSizes_T60 (K : KT) (o : Nat) (v1 : Int) (v2 : Int) (v3 : Int) (q : Int × DA) : Prop := J K 5 q.2 [(0, rf K o), (1, vi v1), (2, vi v2), (3, vi v3), (4, vi (q.1))] 60 []
def X12_tellSizes_F60 (K : KT) (o : Nat) (v1 : Int) (v2 : Int) (v3 : Int) (q : DA) : Prop := J K 5 q [(0, rf K o), (1, vi v1), (2, vi v2), (3, vi v3)] 101 []
def X12_tellSizes_b60 (o : Nat) (v1 v2 v3 v4 : Int) (d : DA) : Option ((Int × DA) ⊕ (DA)) :=
  gd (inR v4 ∧ inR (d.1 o 1)) <|
  if (d.1 o 1) ≤ v4 then (some (.inr d)) else
  gd (ix v2 5) <|
  b1 (X12_of o v3 v4 v2 d) fun x3 =>
  gd (inR x3) <|
  gd (ix v4 5) <|
  gd (ix v2 5) <|
  lt9 (wL d (o + 15) (Int.toNat v2) ((d.2 (o + 15) (Int.toNat v2)) + (x3 * (d.2 (o + 14) (Int.toNat v4))))) fun d4 =>
  some (.inl (v4 + 1, d4))
theorem X12_tellSizes_wb60 {K : KT} (hK : Ok9 K cX12_tellSizes RX12 5 none 6 200) {o : Nat} (hw : W_12 (kσ K) o) {v1 v2 v3 v4 : Int} {d : DA} {y : (Int × DA) ⊕ (DA)} (h : X12_tellSizes_b60 o v1 v2 v3 v4 d = some y) (hk : S2 (X12_tellSizes_T60 K o v1 v2 v3) (X12_tellSizes_F60 K o v1 v2 v3) y) : J K 5 d [(0, rf K o), (1, vi v1), (2, vi v2), (3, vi v3), (4, vi v4)] 60 [] :=
  j_iload hK (dc9 DX12_tellSizes 36 rfl) 4 rfl (j_aload_n hK (dc9 DX12_tellSizes 37 rfl) 0 rfl rfl (j_getI hK (hw.1) fl12_7 rfl (dc9 DX12_tellSizes 38 rfl) (j_icmp_ge hK (dj9 DX12_tellSizes 39 101 rfl rfl) h (fun h => j_sub [0, 1, 2, 3] rfl ((have z := lf9 h hk; z))) (fun h =>
  j_aload_n hK (dc9 DX12_tellSizes 40 rfl) 0 rfl rfl (j_getR hK (hw.1) fl12_63 rfl (hw.2.2.2.2.2.2.2.2.2.2.2.2.2.2.2.1.1) (hw.2.2.2.2.2.2.2.2.2.2.2.2.2.2.2.1.2.1) (dc9 DX12_tellSizes 41 rfl) (j_iload_n hK (dc9 DX12_tellSizes 42 rfl) 2 rfl rfl (j_dup2 hK (dc9 DX12_tellSizes 43 rfl) rfl rfl (j_lald hK (hw.2.2.2.2.2.2.2.2.2.2.2.2.2.2.2.1.2) (Nat.le_of_ble_eq_true rfl) (dc9 DX12_tellSizes 44 rfl) h fun h => (j_aload_n hK (dc9 DX12_tellSizes 45 rfl) 0 rfl rfl (j_iload_n hK (dc9 DX12_tellSizes 46 rfl) 3 rfl rfl (j_iload hK (dc9 DX12_tellSizes 47 rfl) 4 rfl (j_iload_n hK (dc9 DX12_tellSizes 48 rfl) 2 rfl rfl (b19 h fun x3 hc h => j_cV hK (c_X12_of (hst9 hK) (hw) hc) cl12_300 cd_X12_of im_X12_of se_X12_of (hw.1) (Nat.le_of_ble_eq_true rfl) rfl (Nat.le_of_ble_eq_true rfl) (Nat.le_of_ble_eq_true rfl) rfl (st := [vl (d.2 (o + 15) (Int.toNat v2)), vi v2, rf K (o + 15)]) rfl (Nat.le_of_ble_eq_true rfl) (dc9 DX12_tellSizes 49 rfl) rfl (j_i2l hK (dc9 DX12_tellSizes 50 rfl) h fun h => (j_aload_n hK (dc9 DX12_tellSizes 51 rfl) 0 rfl rfl (j_getR hK (hw.1) fl12_59 rfl (hw.2.2.2.2.2.2.2.2.2.2.2.2.2.2.1.1) (hw.2.2.2.2.2.2.2.2.2.2.2.2.2.2.1.2.1) (dc9 DX12_tellSizes 52 rfl) (j_iload hK (dc9 DX12_tellSizes 53 rfl) 4 rfl (j_lald hK (hw.2.2.2.2.2.2.2.2.2.2.2.2.2.2.1.2) (Nat.le_of_ble_eq_true rfl) (dc9 DX12_tellSizes 54 rfl) h fun h => (j_lmul hK (dc9 DX12_tellSizes 55 rfl) (j_ladd hK (dc9 DX12_tellSizes 56 rfl) (j_last hK (hw.2.2.2.2.2.2.2.2.2.2.2.2.2.2.2.1.2) (Nat.le_of_ble_eq_true rfl) (dc9 DX12_tellSizes 57 rfl) h fun d4 h => (j_iinc hK (dc9 DX12_tellSizes 58 rfl) 4 rfl (Nat.le_of_ble_eq_true rfl) rfl (j_goto hK (dj9 DX12_tellSizes 59 60 rfl rfl) (j_sub [1, 2, 3, 4, 0] rfl ((have z := lf9 h hk; z))))))))))))))))))))))))))
def X12_tellSizes_b49 (o : Nat) (v1 v2 v3 : Int) (d : DA) : Option ((Int × DA) ⊕ (DA)) :=
  gd (inR v3 ∧ inR (d.1 o 1)) <|
  if (d.1 o 1) ≤ v3 then (some (.inr d)) else
  lpE (fun q => X12_tellSizes_b60 o v1 v2 v3 q.1 q.2) (0, d) (fun e => some (.inl (v3 + 1, e)))
theorem X12_tellSizes_wb49 {K : KT} (hK : Ok9 K cX12_tellSizes RX12 5 none 6 200) {o : Nat} (hw : W_12 (kσ K) o) {v1 v2 v3 : Int} {d : DA} {y : (Int × DA) ⊕ (DA)} (h : X12_tellSizes_b49 o v1 v2 v3 d = some y) (hk : S2 (X12_tellSizes_T49 K o v1 v2) (X12_tellSizes_F49 K o v1 v2) y) : J K 5 d [(0, rf K o), (1, vi v1), (2, vi v2), (3, vi v3)] 49 [] :=
  j_iload_n hK (dc9 DX12_tellSizes 30 rfl) 3 rfl rfl (j_aload_n hK (dc9 DX12_tellSizes 31 rfl) 0 rfl rfl (j_getI hK (hw.1) fl12_7 rfl (dc9 DX12_tellSizes 32 rfl) (j_icmp_ge hK (dj9 DX12_tellSizes 33 107 rfl rfl) h (fun h => j_sub [0, 1, 2] rfl ((have z := lf9 h hk; z))) (fun h =>
  j_iconst hK (dc9 DX12_tellSizes 34 rfl) (j_istore hK (dc9 DX12_tellSizes 35 rfl) (Nat.le_of_ble_eq_true rfl) rfl (j_sub [1, 2, 3, 4, 0] rfl ((have z := j_lpE (X12_tellSizes_T60 K o v1 v2 v3) (X12_tellSizes_F60 K o v1 v2 v3) h (fun q y h hk => X12_tellSizes_wb60 hK hw h hk) (fun e h => j_iinc hK (dc9 DX12_tellSizes 60 rfl) 3 rfl (Nat.le_of_ble_eq_true rfl) rfl (j_goto hK (dj9 DX12_tellSizes 61 49 rfl rfl) (j_sub [1, 2, 3, 0] rfl ((have z := lf9 h hk; z))))); z))))))))
def X12_tellSizes_b32 (o : Nat) (v1 v2 : Int) (d : DA) : Option ((Int × DA) ⊕ (DA)) :=
  gd (inR v2 ∧ inR (d.1 o 1)) <|
  if (d.1 o 1) ≤ v2 then (some (.inr d)) else
  gd (ix v2 5) <|
  lt9 (wL d (o + 15) (Int.toNat v2) 0) fun d2 =>
  lpE (fun q => X12_tellSizes_b49 o v1 v2 q.1 q.2) (0, d2) (fun e => some (.inl (v2 + 1, e)))
theorem X12_tellSizes_wb32 {K : KT} (hK : Ok9 K cX12_tellSizes RX12 5 none 6 200) {o : Nat} (hw : W_12 (kσ K) o) {v1 v2 : Int} {d : DA} {y : (Int × DA) ⊕ (DA)} (h : X12_tellSizes_b32 o v1 v2 d = some y) (hk : S2 (X12_tellSizes_T32 K o v1) (X12_tellSizes_F32 K o v1) y) : J K 5 d [(0, rf K o), (1, vi v1), (2, vi v2)] 32 [] :=
  j_iload_n hK (dc9 DX12_tellSizes 19 rfl) 2 rfl rfl (j_aload_n hK (dc9 DX12_tellSizes 20 rfl) 0 rfl rfl (j_getI hK (hw.1) fl12_7 rfl (dc9 DX12_tellSizes 21 rfl) (j_icmp_ge hK (dj9 DX12_tellSizes 22 113 rfl rfl) h (fun h => j_sub [0, 1] rfl ((have z := lf9 h hk; z))) (fun h =>
  j_aload_n hK (dc9 DX12_tellSizes 23 rfl) 0 rfl rfl (j_getR hK (hw.1) fl12_63 rfl (hw.2.2.2.2.2.2.2.2.2.2.2.2.2.2.2.1.1) (hw.2.2.2.2.2.2.2.2.2.2.2.2.2.2.2.1.2.1) (dc9 DX12_tellSizes 24 rfl) (j_iload_n hK (dc9 DX12_tellSizes 25 rfl) 2 rfl rfl (j_lconst hK (v := 0) (dc9 DX12_tellSizes 26 rfl) rfl (j_last hK (hw.2.2.2.2.2.2.2.2.2.2.2.2.2.2.2.1.2) (Nat.le_of_ble_eq_true rfl) (dc9 DX12_tellSizes 27 rfl) h fun d2 h => (j_iconst hK (dc9 DX12_tellSizes 28 rfl) (j_istore_n hK (dc9 DX12_tellSizes 29 rfl) rfl (Nat.le_of_ble_eq_true rfl) rfl (j_sub [1, 2, 3, 0] rfl ((have z := j_lpE (X12_tellSizes_T49 K o v1 v2) (X12_tellSizes_F49 K o v1 v2) h (fun q y h hk => X12_tellSizes_wb49 hK hw h hk) (fun e h => j_iinc hK (dc9 DX12_tellSizes 62 rfl) 2 rfl (Nat.le_of_ble_eq_true rfl) rfl (j_goto hK (dj9 DX12_tellSizes 63 32 rfl rfl) (j_sub [1, 2, 0] rfl ((have z := lf9 h hk; z))))); z)))))))))))))
def X12_tellSizes_T115 (K : KT) (o : Nat) (v1 : Int) (q : Int × DA) : Prop := J K 5 q.2 [(0, rf K o), (1, vi v1), (2, vi (q.1))] 115 []
def X12_tellSizes_F115 (K : KT) (o : Nat) (v1 : Int) (q : DA) : Prop := J K 5 q [(0, rf K o), (1, vi v1)] 173 []
def X12_tellSizes_b115 (o : Nat) (v1 v2 : Int) (d : DA) : Option ((Int × DA) ⊕ (DA)) :=
  gd (inR v2 ∧ inR (d.1 o 1)) <|
  if (d.1 o 1) ≤ v2 then (some (.inr d)) else
  gd (ix 0 5) <|
  gd (inR64 (d.2 (o + 15) (Int.toNat 0)) ∧ inR64 0) <|
  gd (inR (lcmp9 (d.2 (o + 15) (Int.toNat 0)) 0)) <|
  if (lcmp9 (d.2 (o + 15) (Int.toNat 0)) 0) = 0 then (gd (ix v2 5) <|
  lt9 (wL d (o + 14) (Int.toNat v2) 0) fun d6 =>
  some (.inl (v2 + 1, d6))) else
  gd (ix v2 5) <|
  gd (ix 0 5) <|
  gd (dvl ((d.2 (o + 15) (Int.toNat v2)) * 1000000) (d.2 (o + 15) (Int.toNat 0))) <|
  gd (inR64 1000000000 ∧ inR64 (((d.2 (o + 15) (Int.toNat v2)) * 1000000) / (d.2 (o + 15) (Int.toNat 0)))) <|
  gd (ix v2 5) <|
  lt9 (wL d (o + 14) (Int.toNat v2) (mmin 1000000000 (((d.2 (o + 15) (Int.toNat v2)) * 1000000) / (d.2 (o + 15) (Int.toNat 0))))) fun d5 =>
  some (.inl (v2 + 1, d5))
theorem X12_tellSizes_wb115 {K : KT} (hK : Ok9 K cX12_tellSizes RX12 5 none 6 200) {o : Nat} (hw : W_12 (kσ K) o) {v1 v2 : Int} {d : DA} {y : (Int × DA) ⊕ (DA)} (h : X12_tellSizes_b115 o v1 v2 d = some y) (hk : S2 (X12_tellSizes_T115 K o v1) (X12_tellSizes_F115 K o v1) y) : J K 5 d [(0, rf K o), (1, vi v1), (2, vi v2)] 115 [] :=
  j_iload_n hK (dc9 DX12_tellSizes 66 rfl) 2 rfl rfl (j_aload_n hK (dc9 DX12_tellSizes 67 rfl) 0 rfl rfl (j_getI hK (hw.1) fl12_7 rfl (dc9 DX12_tellSizes 68 rfl) (j_icmp_ge hK (dj9 DX12_tellSizes 69 173 rfl rfl) h (fun h => j_sub [0, 1] rfl ((have z := lf9 h hk; z))) (fun h =>
  j_aload_n hK (dc9 DX12_tellSizes 70 rfl) 0 rfl rfl (j_getR hK (hw.1) fl12_59 rfl (hw.2.2.2.2.2.2.2.2.2.2.2.2.2.2.1.1) (hw.2.2.2.2.2.2.2.2.2.2.2.2.2.2.1.2.1) (dc9 DX12_tellSizes 71 rfl) (j_iload_n hK (dc9 DX12_tellSizes 72 rfl) 2 rfl rfl (j_aload_n hK (dc9 DX12_tellSizes 73 rfl) 0 rfl rfl (j_getR hK (hw.1) fl12_63 rfl (hw.2.2.2.2.2.2.2.2.2.2.2.2.2.2.2.1.1) (hw.2.2.2.2.2.2.2.2.2.2.2.2.2.2.2.1.2.1) (dc9 DX12_tellSizes 74 rfl) (j_iconst hK (dc9 DX12_tellSizes 75 rfl) (j_lald hK (hw.2.2.2.2.2.2.2.2.2.2.2.2.2.2.2.1.2) (Nat.le_of_ble_eq_true rfl) (dc9 DX12_tellSizes 76 rfl) h fun h => (j_lconst hK (v := 0) (dc9 DX12_tellSizes 77 rfl) rfl (j_lcmp hK (dc9 DX12_tellSizes 78 rfl) h fun h => (j_if_ne hK (dj9 DX12_tellSizes 79 143 rfl rfl) h (fun h => j_ldc2 hK (dc9 DX12_tellSizes 82 rfl) (am9 38 (by decide +kernel) rfl) (j_aload_n hK (dc9 DX12_tellSizes 83 rfl) 0 rfl rfl (j_getR hK (hw.1) fl12_63 rfl (hw.2.2.2.2.2.2.2.2.2.2.2.2.2.2.2.1.1) (hw.2.2.2.2.2.2.2.2.2.2.2.2.2.2.2.1.2.1) (dc9 DX12_tellSizes 84 rfl) (j_iload_n hK (dc9 DX12_tellSizes 85 rfl) 2 rfl rfl (j_lald hK (hw.2.2.2.2.2.2.2.2.2.2.2.2.2.2.2.1.2) (Nat.le_of_ble_eq_true rfl) (dc9 DX12_tellSizes 86 rfl) h fun h => (j_ldc2 hK (dc9 DX12_tellSizes 87 rfl) (am9 37 (by decide +kernel) rfl) (j_lmul hK (dc9 DX12_tellSizes 88 rfl) (j_aload_n hK (dc9 DX12_tellSizes 89 rfl) 0 rfl rfl (j_getR hK (hw.1) fl12_63 rfl (hw.2.2.2.2.2.2.2.2.2.2.2.2.2.2.2.1.1) (hw.2.2.2.2.2.2.2.2.2.2.2.2.2.2.2.1.2.1) (dc9 DX12_tellSizes 90 rfl) (j_iconst hK (dc9 DX12_tellSizes 91 rfl) (j_lald hK (hw.2.2.2.2.2.2.2.2.2.2.2.2.2.2.2.1.2) (Nat.le_of_ble_eq_true rfl) (dc9 DX12_tellSizes 92 rfl) h fun h => (j_ldiv hK (dc9 DX12_tellSizes 93 rfl) h fun h => (j_mminL hK cl12_336 (Nat.le_of_ble_eq_true rfl) (Nat.le_of_ble_eq_true rfl) (dc9 DX12_tellSizes 94 rfl) h fun h => (j_last hK (hw.2.2.2.2.2.2.2.2.2.2.2.2.2.2.1.2) (Nat.le_of_ble_eq_true rfl) (dc9 DX12_tellSizes 95 rfl) h fun d5 h => (j_iinc hK (dc9 DX12_tellSizes 96 rfl) 2 rfl (Nat.le_of_ble_eq_true rfl) rfl (j_goto hK (dj9 DX12_tellSizes 97 115 rfl rfl) (j_sub [1, 2, 0] rfl ((have z := lf9 h hk; z))))))))))))))))))) (fun h =>
  j_lconst hK (v := 0) (dc9 DX12_tellSizes 80 rfl) rfl (j_goto hK (dj9 DX12_tellSizes 81 166 rfl rfl) (j_last hK (hw.2.2.2.2.2.2.2.2.2.2.2.2.2.2.1.2) (Nat.le_of_ble_eq_true rfl) (dc9 DX12_tellSizes 95 rfl) h fun d6 h => (j_iinc hK (dc9 DX12_tellSizes 96 rfl) 2 rfl (Nat.le_of_ble_eq_true rfl) rfl (j_goto hK (dj9 DX12_tellSizes 97 115 rfl rfl) (j_sub [1, 2, 0] rfl ((have z := lf9 h hk; z)))))))))))))))))))))
def X12_tellSizes_j113_24 (o : Nat) (v1 : Int) (d : DA) : Option ((Int × DA) ⊕ (DA)) :=
  lpE (fun q => X12_tellSizes_b115 o v1 q.1 q.2) (0, d) (fun e => some (.inl (v1 + 1, e)))
theorem X12_tellSizes_wj113_24 {K : KT} (hK : Ok9 K cX12_tellSizes RX12 5 none 6 200) {o : Nat} (hw : W_12 (kσ K) o) {v1 : Int} {d : DA} {y : (Int × DA) ⊕ (DA)} (h : X12_tellSizes_j113_24 o v1 d = some y) (hk : S2 (X12_tellSizes_T24 K o) (X12_tellSizes_F24 K o) y) : J K 5 d [(0, rf K o), (1, vi v1)] 113 [] :=
  j_iconst hK (dc9 DX12_tellSizes 64 rfl) (j_istore_n hK (dc9 DX12_tellSizes 65 rfl) rfl (Nat.le_of_ble_eq_true rfl) rfl (j_sub [1, 2, 0] rfl ((have z := j_lpE (X12_tellSizes_T115 K o v1) (X12_tellSizes_F115 K o v1) h (fun q y h hk => X12_tellSizes_wb115 hK hw h hk) (fun e h => j_iinc hK (dc9 DX12_tellSizes 98 rfl) 1 rfl (Nat.le_of_ble_eq_true rfl) rfl (j_goto hK (dj9 DX12_tellSizes 99 24 rfl rfl) (j_sub [1, 0] rfl ((have z := lf9 h hk; z))))); z))))
def X12_tellSizes_b24 (o : Nat) (v1 : Int) (d : DA) : Option ((Int × DA) ⊕ (DA)) :=
  gd (inR v1 ∧ inR 100) <|
  if 100 ≤ v1 then (some (.inr d)) else
  lpE (fun q => X12_tellSizes_b32 o v1 q.1 q.2) (0, d) (fun e => X12_tellSizes_j113_24 o v1 e)
theorem X12_tellSizes_wb24 {K : KT} (hK : Ok9 K cX12_tellSizes RX12 5 none 6 200) {o : Nat} (hw : W_12 (kσ K) o) {v1 : Int} {d : DA} {y : (Int × DA) ⊕ (DA)} (h : X12_tellSizes_b24 o v1 d = some y) (hk : S2 (X12_tellSizes_T24 K o) (X12_tellSizes_F24 K o) y) : J K 5 d [(0, rf K o), (1, vi v1)] 24 [] :=
  j_iload_n hK (dc9 DX12_tellSizes 14 rfl) 1 rfl rfl (j_bipush hK (dc9 DX12_tellSizes 15 rfl) (by decide) (j_icmp_ge hK (dj9 DX12_tellSizes 16 179 rfl rfl) h (fun h => j_sub [] rfl ((have z := lf9 h hk; z))) (fun h =>
  j_iconst hK (dc9 DX12_tellSizes 17 rfl) (j_istore_n hK (dc9 DX12_tellSizes 18 rfl) rfl (Nat.le_of_ble_eq_true rfl) rfl (j_sub [1, 2, 0] rfl ((have z := j_lpE (X12_tellSizes_T32 K o v1) (X12_tellSizes_F32 K o v1) h (fun q y h hk => X12_tellSizes_wb32 hK hw h hk) (fun e h => X12_tellSizes_wj113_24 hK hw h hk); z)))))))
def X12_tellSizes_j22 (o : Nat) (d : DA) : Option (Unit × DA) :=
  lpE (fun q => X12_tellSizes_b24 o q.1 q.2) (0, d) (fun e => some (((), e)))
theorem X12_tellSizes_wj22 {K : KT} (hK : Ok9 K cX12_tellSizes RX12 5 none 6 200) {o : Nat} (hw : W_12 (kσ K) o) {d : DA} {y : Unit × DA} (h : X12_tellSizes_j22 o d = some y) (hk : (FV K) y) : J K 5 d [(0, rf K o)] 22 [] :=
  j_iconst hK (dc9 DX12_tellSizes 12 rfl) (j_istore_n hK (dc9 DX12_tellSizes 13 rfl) rfl (Nat.le_of_ble_eq_true rfl) rfl (j_sub [1, 0] rfl ((have z := j_lpE (X12_tellSizes_T24 K o) (X12_tellSizes_F24 K o) h (fun q y h hk => X12_tellSizes_wb24 hK hw h hk) (fun e h => j_vret hK (dc9 DX12_tellSizes 100 rfl) (have z := lf9 h hk; z)); z))))
def X12_tellSizes (o : Nat) (d : DA) : Option (Unit × DA) :=
  lpE (fun q => X12_tellSizes_b2 o q.1 q.2) (0, d) (fun e => X12_tellSizes_j22 o e)
theorem X12_tellSizes_w {K : KT} (hK : Ok9 K cX12_tellSizes RX12 5 none 6 200) {o : Nat} (hw : W_12 (kσ K) o) {d : DA} {y : Unit × DA} (h : X12_tellSizes o d = some y) (hk : (FV K) y) : J K 5 d [(0, rf K o)] 0 [] :=
  j_iconst hK (dc9 DX12_tellSizes 0 rfl) (j_istore_n hK (dc9 DX12_tellSizes 1 rfl) rfl (Nat.le_of_ble_eq_true rfl) rfl (j_sub [1, 0] rfl ((have z := j_lpE (X12_tellSizes_T2 K o) (X12_tellSizes_F2 K o) h (fun q y h hk => X12_tellSizes_wb2 hK hw h hk) (fun e h => X12_tellSizes_wj22 hK hw h hk); z))))
theorem c_X12_tellSizes {G : GT} {l : Launch} {ad : Nat → Nat} {σ : HS} {d d' : DA} (hst : l.stackTraces = false) {o : Nat} (hw : W_12 σ o) {r : Unit} (h : X12_tellSizes o  d = some (r, d')) : Ct G l yX12_tellSizes cX12_tellSizes 5 none 6 200 ad (wD σ d) [.ref (ad o)] none (wD σ d') :=
  ct_of hst rfl (Nat.le_of_ble_eq_true rfl) (fun K e0 e9 e1 e2 e3 hK => by subst e0; subst e9; subst e1; subst e2; exact X12_tellSizes_w hK hw h e3)
/-! X12_size -/
theorem DX12_size : Dt cX12_size [(0, .aload_n 0, 1, 1), (1, .iconst 0, 1, 2), (2, .putfield 165, 3, 5), (5, .aload_n 0, 1, 6), (6, .iload_n 1, 1, 7), (7, .invokevirtual 310, 3, 10), (10, .ifCond .ne 9, 3, 13), (13, .aload_n 0, 1, 14), (14, .iconst 1, 1, 15), (15, .invokevirtual 271, 3, 18), (18, .ireturn, 1, 19), (19, .aload_n 0, 1, 20), (20, .invokevirtual 339, 3, 23), (23, .aload_n 0, 1, 24), (24, .getfield 59, 3, 27), (27, .iload_n 1, 1, 28), (28, .laload, 1, 29), (29, .l2i, 1, 30), (30, .ireturn, 1, 31)] := by unfold Dt; decide +kernel
def X12_size (o : Nat) (v1 : Int) (d : DA) : Option (Int × DA) :=
  lt9 (wI d o 0 0) fun d1 =>
  b1 (X12_isKind o v1 d1) fun x2 =>
  gd (inR x2) <|
  if x2 = 0 then (bd (X12_fail o 1 d1) fun x5 d4 =>
  some ((x5, d4))) else
  bd (X12_tellSizes o d1) fun _ d3 =>
  gd (ix v1 5) <|
  gd (inR (d3.2 (o + 14) (Int.toNat v1))) <|
  some ((d3.2 (o + 14) (Int.toNat v1), d3))
theorem X12_size_w {K : KT} (hK : Ok9 K cX12_size RX12 2 (some .int) 7 224) {o : Nat} (hw : W_12 (kσ K) o) {v1 : Int} {d : DA} {y : Int × DA} (h : X12_size o v1 d = some y) (hk : (FI K) y) : J K 2 d [(0, rf K o), (1, vi v1)] 0 [] :=
  j_aload_n hK (dc9 DX12_size 0 rfl) 0 rfl rfl (j_iconst hK (dc9 DX12_size 1 rfl) (j_putI hK (hw.1) fl12_165 fp12_165 rfl (dc9 DX12_size 2 rfl) h fun d1 h => (j_aload_n hK (dc9 DX12_size 3 rfl) 0 rfl rfl (j_iload_n hK (dc9 DX12_size 4 rfl) 1 rfl rfl (b19 h fun x2 hc h => j_cV hK (c_X12_isKind (hst9 hK) (hw) hc) cl12_310 cd_X12_isKind im_X12_isKind se_X12_isKind (hw.1) (Nat.le_of_ble_eq_true rfl) rfl (Nat.le_of_ble_eq_true rfl) (Nat.le_of_ble_eq_true rfl) rfl (st := []) rfl (Nat.le_of_ble_eq_true rfl) (dc9 DX12_size 5 rfl) rfl (j_if_ne hK (dj9 DX12_size 6 19 rfl rfl) h (fun h => j_aload_n hK (dc9 DX12_size 11 rfl) 0 rfl rfl (bd9 h fun _ d3 hc h => j_cV hK (c_X12_tellSizes (hst9 hK) (hw) hc) cl12_339 cd_X12_tellSizes im_X12_tellSizes se_X12_tellSizes (hw.1) (Nat.le_of_ble_eq_true rfl) rfl (Nat.le_of_ble_eq_true rfl) (Nat.le_of_ble_eq_true rfl) rfl (st := []) rfl (Nat.le_of_ble_eq_true rfl) (dc9 DX12_size 12 rfl) rfl (j_aload_n hK (dc9 DX12_size 13 rfl) 0 rfl rfl (j_getR hK (hw.1) fl12_59 rfl (hw.2.2.2.2.2.2.2.2.2.2.2.2.2.2.1.1) (hw.2.2.2.2.2.2.2.2.2.2.2.2.2.2.1.2.1) (dc9 DX12_size 14 rfl) (j_iload_n hK (dc9 DX12_size 15 rfl) 1 rfl rfl (j_lald hK (hw.2.2.2.2.2.2.2.2.2.2.2.2.2.2.1.2) (Nat.le_of_ble_eq_true rfl) (dc9 DX12_size 16 rfl) h fun h => (j_l2i hK (dc9 DX12_size 17 rfl) h fun h => (j_iret hK (dc9 DX12_size 18 rfl) (have z := lf9 h hk; z))))))))) (fun h =>
  j_aload_n hK (dc9 DX12_size 7 rfl) 0 rfl rfl (j_iconst hK (dc9 DX12_size 8 rfl) (bd9 h fun x5 d4 hc h => j_cV hK (c_X12_fail (hst9 hK) (hw) hc) cl12_271 cd_X12_fail im_X12_fail se_X12_fail (hw.1) (Nat.le_of_ble_eq_true rfl) rfl (Nat.le_of_ble_eq_true rfl) (Nat.le_of_ble_eq_true rfl) rfl (st := []) rfl (Nat.le_of_ble_eq_true rfl) (dc9 DX12_size 9 rfl) rfl (j_iret hK (dc9 DX12_size 10 rfl) (have z := lf9 h hk; z)))))))))))
theorem c_X12_size {G : GT} {l : Launch} {ad : Nat → Nat} {σ : HS} {d d' : DA} (hst : l.stackTraces = false) {o : Nat} (hw : W_12 σ o) {v1 : Int} {r : Int} (h : X12_size o v1 d = some (r, d')) : Ct G l yX12_size cX12_size 2 (some .int) 7 224 ad (wD σ d) [.ref (ad o), vi v1] (some (vi r)) (wD σ d') :=
  ct_of hst rfl (Nat.le_of_ble_eq_true rfl) (fun K e0 e9 e1 e2 e3 hK => by subst e0; subst e9; subst e1; subst e2; exact X12_size_w hK hw h e3)
/-! X12_ways -/
theorem DX12_ways : Dt cX12_ways [(0, .aload_n 0, 1, 1), (1, .iconst 0, 1, 2), (2, .putfield 165, 3, 5), (5, .aload_n 0, 1, 6), (6, .iload_n 1, 1, 7), (7, .invokevirtual 310, 3, 10), (10, .ifCond .eq 22, 3, 13), (13, .aload_n 0, 1, 14), (14, .iload_n 2, 1, 15), (15, .invokevirtual 310, 3, 18), (18, .ifCond .eq 14, 3, 21), (21, .iload_n 3, 1, 22), (22, .iconst 0, 1, 23), (23, .sipush 1000, 3, 26), (26, .invokestatic 168, 3, 29), (29, .ifCond .ne 9, 3, 32), (32, .aload_n 0, 1, 33), (33, .iconst 1, 1, 34), (34, .invokevirtual 271, 3, 37), (37, .ireturn, 1, 38), (38, .iconst 0, 1, 39), (39, .istore 4, 2, 41), (41, .iload 4, 2, 43), (43, .iconst 5, 1, 44), (44, .if_icmp .ge 26, 3, 47), (47, .aload_n 0, 1, 48), (48, .getfield 59, 3, 51), (51, .iload 4, 2, 53), (53, .iload 4, 2, 55), (55, .ifCond .ne 7, 3, 58), (58, .lconst 1, 1, 59), (59, .goto 4, 3, 62), (62, .lconst 0, 1, 63), (63, .lastore, 1, 64), (64, .iinc 4 1, 3, 67), (67, .goto (-26), 3, 70), (70, .iconst 0, 1, 71), (71, .istore 4, 2, 73), (73, .iload 4, 2, 75), (75, .iload_n 3, 1, 76), (76, .if_icmp .ge 117, 3, 79), (79, .iconst 0, 1, 80), (80, .istore 5, 2, 82), (82, .iload 5, 2, 84), (84, .aload_n 0, 1, 85), (85, .getfield 7, 3, 88), (88, .if_icmp .ge 63, 3, 91), (91, .aload_n 0, 1, 92), (92, .getfield 63, 3, 95), (95, .iload 5, 2, 97), (97, .lconst 0, 1, 98), (98, .lastore, 1, 99), (99, .iconst 0, 1, 100), (100, .istore 6, 2, 102), (102, .iload 6, 2, 104), (104, .aload_n 0, 1, 105), (105, .getfield 7, 3, 108), (108, .if_icmp .ge 37, 3, 111), (111, .aload_n 0, 1, 112), (112, .getfield 63, 3, 115), (115, .iload 5, 2, 117), (117, .dup2, 1, 118), (118, .laload, 1, 119), (119, .aload_n 0, 1, 120), (120, .getfield 59, 3, 123), (123, .iload 6, 2, 125), (125, .laload, 1, 126), (126, .aload_n 0, 1, 127), (127, .iload 6, 2, 129), (129, .iload_n 1, 1, 130), (130, .iload 5, 2, 132), (132, .invokevirtual 300, 3, 135), (135, .i2l, 1, 136), (136, .lmul, 1, 137), (137, .ladd, 1, 138), (138, .lastore, 1, 139), (139, .iinc 6 1, 3, 142), (142, .goto (-40), 3, 145), (145, .iinc 5 1, 3, 148), (148, .goto (-66), 3, 151), (151, .iconst 0, 1, 152), (152, .istore 5, 2, 154), (154, .iload 5, 2, 156), (156, .aload_n 0, 1, 157), (157, .getfield 7, 3, 160), (160, .if_icmp .ge 27, 3, 163), (163, .aload_n 0, 1, 164), (164, .getfield 59, 3, 167), (167, .iload 5, 2, 169), (169, .aload_n 0, 1, 170), (170, .getfield 63, 3, 173), (173, .iload 5, 2, 175), (175, .laload, 1, 176), (176, .ldc2_w 342, 3, 179), (179, .lrem, 1, 180), (180, .lastore, 1, 181), (181, .iinc 5 1, 3, 184), (184, .goto (-30), 3, 187), (187, .iinc 4 1, 3, 190), (190, .goto (-117), 3, 193), (193, .aload_n 0, 1, 194), (194, .getfield 59, 3, 197), (197, .iload_n 2, 1, 198), (198, .laload, 1, 199), (199, .l2i, 1, 200), (200, .ireturn, 1, 201)] := by unfold Dt; decide +kernel
def X12_ways_j32 (o : Nat) (d : DA) : Option (Int × DA) :=
  bd (X12_fail o 1 d) fun x4 d3 =>
  some ((x4, d3))
theorem X12_ways_wj32 {K : KT} (hK : Ok9 K cX12_ways RX12 7 (some .int) 2 45) {o : Nat} (hw : W_12 (kσ K) o) {d : DA} {y : Int × DA} (h : X12_ways_j32 o d = some y) (hk : (FI K) y) : J K 7 d [(0, rf K o)] 32 [] :=
  j_aload_n hK (dc9 DX12_ways 16 rfl) 0 rfl rfl (j_iconst hK (dc9 DX12_ways 17 rfl) (bd9 h fun x4 d3 hc h => j_cV hK (c_X12_fail (hst9 hK) (hw) hc) cl12_271 cd_X12_fail im_X12_fail se_X12_fail (hw.1) (Nat.le_of_ble_eq_true rfl) rfl (Nat.le_of_ble_eq_true rfl) (Nat.le_of_ble_eq_true rfl) rfl (st := []) rfl (Nat.le_of_ble_eq_true rfl) (dc9 DX12_ways 18 rfl) rfl (j_iret hK (dc9 DX12_ways 19 rfl) (have z := lf9 h hk; z))))
def X12_ways_T41 (K : KT) (o : Nat) (v1 : Int) (v2 : Int) (v3 : Int) (q : Int × DA) : Prop := J K 7 q.2 [(0, rf K o), (1, vi v1), (2, vi v2), (3, vi v3), (4, vi (q.1))] 41 []
def X12_ways_F41 (K : KT) (o : Nat) (v1 : Int) (v2 : Int) (v3 : Int) (q : DA) : Prop := J K 7 q [(0, rf K o), (1, vi v1), (2, vi v2), (3, vi v3)] 70 []
def X12_ways_b41 (o : Nat) (v1 v2 v3 v4 : Int) (d : DA) : Option ((Int × DA) ⊕ (DA)) :=
  gd (inR v4 ∧ inR 5) <|
  if 5 ≤ v4 then (some (.inr d)) else
  gd (inR v4) <|
  if v4 = 0 then (gd (ix v4 5) <|
  lt9 (wL d (o + 14) (Int.toNat v4) 1) fun d8 =>
  some (.inl (v4 + 1, d8))) else
  gd (ix v4 5) <|
  lt9 (wL d (o + 14) (Int.toNat v4) 0) fun d7 =>
  some (.inl (v4 + 1, d7))
theorem X12_ways_wb41 {K : KT} (hK : Ok9 K cX12_ways RX12 7 (some .int) 2 45) {o : Nat} (hw : W_12 (kσ K) o) {v1 v2 v3 v4 : Int} {d : DA} {y : (Int × DA) ⊕ (DA)} (h : X12_ways_b41 o v1 v2 v3 v4 d = some y) (hk : S2 (X12_ways_T41 K o v1 v2 v3) (X12_ways_F41 K o v1 v2 v3) y) : J K 7 d [(0, rf K o), (1, vi v1), (2, vi v2), (3, vi v3), (4, vi v4)] 41 [] :=
  j_iload hK (dc9 DX12_ways 22 rfl) 4 rfl (j_iconst hK (dc9 DX12_ways 23 rfl) (j_icmp_ge hK (dj9 DX12_ways 24 70 rfl rfl) h (fun h => j_sub [0, 1, 2, 3] rfl ((have z := lf9 h hk; z))) (fun h =>
  j_aload_n hK (dc9 DX12_ways 25 rfl) 0 rfl rfl (j_getR hK (hw.1) fl12_59 rfl (hw.2.2.2.2.2.2.2.2.2.2.2.2.2.2.1.1) (hw.2.2.2.2.2.2.2.2.2.2.2.2.2.2.1.2.1) (dc9 DX12_ways 26 rfl) (j_iload hK (dc9 DX12_ways 27 rfl) 4 rfl (j_iload hK (dc9 DX12_ways 28 rfl) 4 rfl (j_if_ne hK (dj9 DX12_ways 29 62 rfl rfl) h (fun h => j_lconst hK (v := 0) (dc9 DX12_ways 32 rfl) rfl (j_last hK (hw.2.2.2.2.2.2.2.2.2.2.2.2.2.2.1.2) (Nat.le_of_ble_eq_true rfl) (dc9 DX12_ways 33 rfl) h fun d7 h => (j_iinc hK (dc9 DX12_ways 34 rfl) 4 rfl (Nat.le_of_ble_eq_true rfl) rfl (j_goto hK (dj9 DX12_ways 35 41 rfl rfl) (j_sub [1, 2, 3, 4, 0] rfl ((have z := lf9 h hk; z))))))) (fun h =>
  j_lconst hK (v := 1) (dc9 DX12_ways 30 rfl) rfl (j_goto hK (dj9 DX12_ways 31 63 rfl rfl) (j_last hK (hw.2.2.2.2.2.2.2.2.2.2.2.2.2.2.1.2) (Nat.le_of_ble_eq_true rfl) (dc9 DX12_ways 33 rfl) h fun d8 h => (j_iinc hK (dc9 DX12_ways 34 rfl) 4 rfl (Nat.le_of_ble_eq_true rfl) rfl (j_goto hK (dj9 DX12_ways 35 41 rfl rfl) (j_sub [1, 2, 3, 4, 0] rfl ((have z := lf9 h hk; z)))))))))))))))
def X12_ways_T73 (K : KT) (o : Nat) (v1 : Int) (v2 : Int) (v3 : Int) (q : Int × DA) : Prop := J K 7 q.2 [(0, rf K o), (1, vi v1), (2, vi v2), (3, vi v3), (4, vi (q.1))] 73 []
def X12_ways_F73 (K : KT) (o : Nat) (v1 : Int) (v2 : Int) (v3 : Int) (q : DA) : Prop := J K 7 q [(0, rf K o), (2, vi v2)] 193 []
def X12_ways_T82 (K : KT) (o : Nat) (v1 : Int) (v2 : Int) (v3 : Int) (v4 : Int) (q : Int × DA) : Prop := J K 7 q.2 [(0, rf K o), (1, vi v1), (2, vi v2), (3, vi v3), (4, vi v4), (5, vi (q.1))] 82 []
def X12_ways_F82 (K : KT) (o : Nat) (v1 : Int) (v2 : Int) (v3 : Int) (v4 : Int) (q : DA) : Prop := J K 7 q [(0, rf K o), (1, vi v1), (2, vi v2), (3, vi v3), (4, vi v4)] 151 []
def X12_ways_T102 (K : KT) (o : Nat) (v1 : Int) (v2 : Int) (v3 : Int) (v4 : Int) (v5 : Int) (q : Int × DA) : Prop := J K 7 q.2 [(0, rf K o), (1, vi v1), (2, vi v2), (3, vi v3), (4, vi v4), (5, vi v5), (6, vi (q.1))] 102 []
def X12_ways_F102 (K : KT) (o : Nat) (v1 : Int) (v2 : Int) (v3 : Int) (v4 : Int) (v5 : Int) (q : DA) : Prop := J K 7 q [(0, rf K o), (1, vi v1), (2, vi v2), (3, vi v3), (4, vi v4), (5, vi v5)] 145 []
def X12_ways_b102 (o : Nat) (v1 v2 v3 v4 v5 v6 : Int) (d : DA) : Option ((Int × DA) ⊕ (DA)) :=
  gd (inR v6 ∧ inR (d.1 o 1)) <|
  if (d.1 o 1) ≤ v6 then (some (.inr d)) else
  gd (ix v5 5) <|
  gd (ix v6 5) <|
  b1 (X12_of o v6 v1 v5 d) fun x10 =>
  gd (inR x10) <|
  gd (ix v5 5) <|
  lt9 (wL d (o + 15) (Int.toNat v5) ((d.2 (o + 15) (Int.toNat v5)) + ((d.2 (o + 14) (Int.toNat v6)) * x10))) fun d11 =>
  some (.inl (v6 + 1, d11))
theorem X12_ways_wb102 {K : KT} (hK : Ok9 K cX12_ways RX12 7 (some .int) 2 45) {o : Nat} (hw : W_12 (kσ K) o) {v1 v2 v3 v4 v5 v6 : Int} {d : DA} {y : (Int × DA) ⊕ (DA)} (h : X12_ways_b102 o v1 v2 v3 v4 v5 v6 d = some y) (hk : S2 (X12_ways_T102 K o v1 v2 v3 v4 v5) (X12_ways_F102 K o v1 v2 v3 v4 v5) y) : J K 7 d [(0, rf K o), (1, vi v1), (2, vi v2), (3, vi v3), (4, vi v4), (5, vi v5), (6, vi v6)] 102 [] :=
  j_iload hK (dc9 DX12_ways 54 rfl) 6 rfl (j_aload_n hK (dc9 DX12_ways 55 rfl) 0 rfl rfl (j_getI hK (hw.1) fl12_7 rfl (dc9 DX12_ways 56 rfl) (j_icmp_ge hK (dj9 DX12_ways 57 145 rfl rfl) h (fun h => j_sub [0, 1, 2, 3, 4, 5] rfl ((have z := lf9 h hk; z))) (fun h =>
  j_aload_n hK (dc9 DX12_ways 58 rfl) 0 rfl rfl (j_getR hK (hw.1) fl12_63 rfl (hw.2.2.2.2.2.2.2.2.2.2.2.2.2.2.2.1.1) (hw.2.2.2.2.2.2.2.2.2.2.2.2.2.2.2.1.2.1) (dc9 DX12_ways 59 rfl) (j_iload hK (dc9 DX12_ways 60 rfl) 5 rfl (j_dup2 hK (dc9 DX12_ways 61 rfl) rfl rfl (j_lald hK (hw.2.2.2.2.2.2.2.2.2.2.2.2.2.2.2.1.2) (Nat.le_of_ble_eq_true rfl) (dc9 DX12_ways 62 rfl) h fun h => (j_aload_n hK (dc9 DX12_ways 63 rfl) 0 rfl rfl (j_getR hK (hw.1) fl12_59 rfl (hw.2.2.2.2.2.2.2.2.2.2.2.2.2.2.1.1) (hw.2.2.2.2.2.2.2.2.2.2.2.2.2.2.1.2.1) (dc9 DX12_ways 64 rfl) (j_iload hK (dc9 DX12_ways 65 rfl) 6 rfl (j_lald hK (hw.2.2.2.2.2.2.2.2.2.2.2.2.2.2.1.2) (Nat.le_of_ble_eq_true rfl) (dc9 DX12_ways 66 rfl) h fun h => (j_aload_n hK (dc9 DX12_ways 67 rfl) 0 rfl rfl (j_iload hK (dc9 DX12_ways 68 rfl) 6 rfl (j_iload_n hK (dc9 DX12_ways 69 rfl) 1 rfl rfl (j_iload hK (dc9 DX12_ways 70 rfl) 5 rfl (b19 h fun x10 hc h => j_cV hK (c_X12_of (hst9 hK) (hw) hc) cl12_300 cd_X12_of im_X12_of se_X12_of (hw.1) (Nat.le_of_ble_eq_true rfl) rfl (Nat.le_of_ble_eq_true rfl) (Nat.le_of_ble_eq_true rfl) rfl (st := [vl (d.2 (o + 14) (Int.toNat v6)), vl (d.2 (o + 15) (Int.toNat v5)), vi v5, rf K (o + 15)]) rfl (Nat.le_of_ble_eq_true rfl) (dc9 DX12_ways 71 rfl) rfl (j_i2l hK (dc9 DX12_ways 72 rfl) h fun h => (j_lmul hK (dc9 DX12_ways 73 rfl) (j_ladd hK (dc9 DX12_ways 74 rfl) (j_last hK (hw.2.2.2.2.2.2.2.2.2.2.2.2.2.2.2.1.2) (Nat.le_of_ble_eq_true rfl) (dc9 DX12_ways 75 rfl) h fun d11 h => (j_iinc hK (dc9 DX12_ways 76 rfl) 6 rfl (Nat.le_of_ble_eq_true rfl) rfl (j_goto hK (dj9 DX12_ways 77 102 rfl rfl) (j_sub [1, 2, 3, 4, 5, 6, 0] rfl ((have z := lf9 h hk; z))))))))))))))))))))))))))
def X12_ways_b82 (o : Nat) (v1 v2 v3 v4 v5 : Int) (d : DA) : Option ((Int × DA) ⊕ (DA)) :=
  gd (inR v5 ∧ inR (d.1 o 1)) <|
  if (d.1 o 1) ≤ v5 then (some (.inr d)) else
  gd (ix v5 5) <|
  lt9 (wL d (o + 15) (Int.toNat v5) 0) fun d9 =>
  lpE (fun q => X12_ways_b102 o v1 v2 v3 v4 v5 q.1 q.2) (0, d9) (fun e => some (.inl (v5 + 1, e)))
theorem X12_ways_wb82 {K : KT} (hK : Ok9 K cX12_ways RX12 7 (some .int) 2 45) {o : Nat} (hw : W_12 (kσ K) o) {v1 v2 v3 v4 v5 : Int} {d : DA} {y : (Int × DA) ⊕ (DA)} (h : X12_ways_b82 o v1 v2 v3 v4 v5 d = some y) (hk : S2 (X12_ways_T82 K o v1 v2 v3 v4) (X12_ways_F82 K o v1 v2 v3 v4) y) : J K 7 d [(0, rf K o), (1, vi v1), (2, vi v2), (3, vi v3), (4, vi v4), (5, vi v5)] 82 [] :=
  j_iload hK (dc9 DX12_ways 43 rfl) 5 rfl (j_aload_n hK (dc9 DX12_ways 44 rfl) 0 rfl rfl (j_getI hK (hw.1) fl12_7 rfl (dc9 DX12_ways 45 rfl) (j_icmp_ge hK (dj9 DX12_ways 46 151 rfl rfl) h (fun h => j_sub [0, 1, 2, 3, 4] rfl ((have z := lf9 h hk; z))) (fun h =>
  j_aload_n hK (dc9 DX12_ways 47 rfl) 0 rfl rfl (j_getR hK (hw.1) fl12_63 rfl (hw.2.2.2.2.2.2.2.2.2.2.2.2.2.2.2.1.1) (hw.2.2.2.2.2.2.2.2.2.2.2.2.2.2.2.1.2.1) (dc9 DX12_ways 48 rfl) (j_iload hK (dc9 DX12_ways 49 rfl) 5 rfl (j_lconst hK (v := 0) (dc9 DX12_ways 50 rfl) rfl (j_last hK (hw.2.2.2.2.2.2.2.2.2.2.2.2.2.2.2.1.2) (Nat.le_of_ble_eq_true rfl) (dc9 DX12_ways 51 rfl) h fun d9 h => (j_iconst hK (dc9 DX12_ways 52 rfl) (j_istore hK (dc9 DX12_ways 53 rfl) (Nat.le_of_ble_eq_true rfl) rfl (j_sub [1, 2, 3, 4, 5, 6, 0] rfl ((have z := j_lpE (X12_ways_T102 K o v1 v2 v3 v4 v5) (X12_ways_F102 K o v1 v2 v3 v4 v5) h (fun q y h hk => X12_ways_wb102 hK hw h hk) (fun e h => j_iinc hK (dc9 DX12_ways 78 rfl) 5 rfl (Nat.le_of_ble_eq_true rfl) rfl (j_goto hK (dj9 DX12_ways 79 82 rfl rfl) (j_sub [1, 2, 3, 4, 5, 0] rfl ((have z := lf9 h hk; z))))); z)))))))))))))
def X12_ways_T154 (K : KT) (o : Nat) (v1 : Int) (v2 : Int) (v3 : Int) (v4 : Int) (q : Int × DA) : Prop := J K 7 q.2 [(0, rf K o), (1, vi v1), (2, vi v2), (3, vi v3), (4, vi v4), (5, vi (q.1))] 154 []
def X12_ways_F154 (K : KT) (o : Nat) (v1 : Int) (v2 : Int) (v3 : Int) (v4 : Int) (q : DA) : Prop := J K 7 q [(0, rf K o), (1, vi v1), (2, vi v2), (3, vi v3), (4, vi v4)] 187 []
def X12_ways_b154 (o : Nat) (v1 v2 v3 v4 v5 : Int) (d : DA) : Option ((Int × DA) ⊕ (DA)) :=
  gd (inR v5 ∧ inR (d.1 o 1)) <|
  if (d.1 o 1) ≤ v5 then (some (.inr d)) else
  gd (ix v5 5) <|
  gd (dvl (d.2 (o + 15) (Int.toNat v5)) 1000000007) <|
  gd (ix v5 5) <|
  lt9 (wL d (o + 14) (Int.toNat v5) ((d.2 (o + 15) (Int.toNat v5)) % 1000000007)) fun d12 =>
  some (.inl (v5 + 1, d12))
theorem X12_ways_wb154 {K : KT} (hK : Ok9 K cX12_ways RX12 7 (some .int) 2 45) {o : Nat} (hw : W_12 (kσ K) o) {v1 v2 v3 v4 v5 : Int} {d : DA} {y : (Int × DA) ⊕ (DA)} (h : X12_ways_b154 o v1 v2 v3 v4 v5 d = some y) (hk : S2 (X12_ways_T154 K o v1 v2 v3 v4) (X12_ways_F154 K o v1 v2 v3 v4) y) : J K 7 d [(0, rf K o), (1, vi v1), (2, vi v2), (3, vi v3), (4, vi v4), (5, vi v5)] 154 [] :=
  j_iload hK (dc9 DX12_ways 82 rfl) 5 rfl (j_aload_n hK (dc9 DX12_ways 83 rfl) 0 rfl rfl (j_getI hK (hw.1) fl12_7 rfl (dc9 DX12_ways 84 rfl) (j_icmp_ge hK (dj9 DX12_ways 85 187 rfl rfl) h (fun h => j_sub [0, 1, 2, 3, 4] rfl ((have z := lf9 h hk; z))) (fun h =>
  j_aload_n hK (dc9 DX12_ways 86 rfl) 0 rfl rfl (j_getR hK (hw.1) fl12_59 rfl (hw.2.2.2.2.2.2.2.2.2.2.2.2.2.2.1.1) (hw.2.2.2.2.2.2.2.2.2.2.2.2.2.2.1.2.1) (dc9 DX12_ways 87 rfl) (j_iload hK (dc9 DX12_ways 88 rfl) 5 rfl (j_aload_n hK (dc9 DX12_ways 89 rfl) 0 rfl rfl (j_getR hK (hw.1) fl12_63 rfl (hw.2.2.2.2.2.2.2.2.2.2.2.2.2.2.2.1.1) (hw.2.2.2.2.2.2.2.2.2.2.2.2.2.2.2.1.2.1) (dc9 DX12_ways 90 rfl) (j_iload hK (dc9 DX12_ways 91 rfl) 5 rfl (j_lald hK (hw.2.2.2.2.2.2.2.2.2.2.2.2.2.2.2.1.2) (Nat.le_of_ble_eq_true rfl) (dc9 DX12_ways 92 rfl) h fun h => (j_ldc2 hK (dc9 DX12_ways 93 rfl) (am9 44 (by decide +kernel) rfl) (j_lrem hK (dc9 DX12_ways 94 rfl) h fun h => (j_last hK (hw.2.2.2.2.2.2.2.2.2.2.2.2.2.2.1.2) (Nat.le_of_ble_eq_true rfl) (dc9 DX12_ways 95 rfl) h fun d12 h => (j_iinc hK (dc9 DX12_ways 96 rfl) 5 rfl (Nat.le_of_ble_eq_true rfl) rfl (j_goto hK (dj9 DX12_ways 97 154 rfl rfl) (j_sub [1, 2, 3, 4, 5, 0] rfl ((have z := lf9 h hk; z))))))))))))))))))
def X12_ways_j151_73 (o : Nat) (v1 v2 v3 v4 : Int) (d : DA) : Option ((Int × DA) ⊕ (DA)) :=
  lpE (fun q => X12_ways_b154 o v1 v2 v3 v4 q.1 q.2) (0, d) (fun e => some (.inl (v4 + 1, e)))
theorem X12_ways_wj151_73 {K : KT} (hK : Ok9 K cX12_ways RX12 7 (some .int) 2 45) {o : Nat} (hw : W_12 (kσ K) o) {v1 v2 v3 v4 : Int} {d : DA} {y : (Int × DA) ⊕ (DA)} (h : X12_ways_j151_73 o v1 v2 v3 v4 d = some y) (hk : S2 (X12_ways_T73 K o v1 v2 v3) (X12_ways_F73 K o v1 v2 v3) y) : J K 7 d [(0, rf K o), (1, vi v1), (2, vi v2), (3, vi v3), (4, vi v4)] 151 [] :=
  j_iconst hK (dc9 DX12_ways 80 rfl) (j_istore hK (dc9 DX12_ways 81 rfl) (Nat.le_of_ble_eq_true rfl) rfl (j_sub [1, 2, 3, 4, 5, 0] rfl ((have z := j_lpE (X12_ways_T154 K o v1 v2 v3 v4) (X12_ways_F154 K o v1 v2 v3 v4) h (fun q y h hk => X12_ways_wb154 hK hw h hk) (fun e h => j_iinc hK (dc9 DX12_ways 98 rfl) 4 rfl (Nat.le_of_ble_eq_true rfl) rfl (j_goto hK (dj9 DX12_ways 99 73 rfl rfl) (j_sub [1, 2, 3, 4, 0] rfl ((have z := lf9 h hk; z))))); z))))
def X12_ways_b73 (o : Nat) (v1 v2 v3 v4 : Int) (d : DA) : Option ((Int × DA) ⊕ (DA)) :=
  gd (inR v4 ∧ inR v3) <|
  if v3 ≤ v4 then (some (.inr d)) else
  lpE (fun q => X12_ways_b82 o v1 v2 v3 v4 q.1 q.2) (0, d) (fun e => X12_ways_j151_73 o v1 v2 v3 v4 e)
theorem X12_ways_wb73 {K : KT} (hK : Ok9 K cX12_ways RX12 7 (some .int) 2 45) {o : Nat} (hw : W_12 (kσ K) o) {v1 v2 v3 v4 : Int} {d : DA} {y : (Int × DA) ⊕ (DA)} (h : X12_ways_b73 o v1 v2 v3 v4 d = some y) (hk : S2 (X12_ways_T73 K o v1 v2 v3) (X12_ways_F73 K o v1 v2 v3) y) : J K 7 d [(0, rf K o), (1, vi v1), (2, vi v2), (3, vi v3), (4, vi v4)] 73 [] :=
  j_iload hK (dc9 DX12_ways 38 rfl) 4 rfl (j_iload_n hK (dc9 DX12_ways 39 rfl) 3 rfl rfl (j_icmp_ge hK (dj9 DX12_ways 40 193 rfl rfl) h (fun h => j_sub [0, 2] rfl ((have z := lf9 h hk; z))) (fun h =>
  j_iconst hK (dc9 DX12_ways 41 rfl) (j_istore hK (dc9 DX12_ways 42 rfl) (Nat.le_of_ble_eq_true rfl) rfl (j_sub [1, 2, 3, 4, 5, 0] rfl ((have z := j_lpE (X12_ways_T82 K o v1 v2 v3 v4) (X12_ways_F82 K o v1 v2 v3 v4) h (fun q y h hk => X12_ways_wb82 hK hw h hk) (fun e h => X12_ways_wj151_73 hK hw h hk); z)))))))
def X12_ways_j70 (o : Nat) (v1 v2 v3 : Int) (d : DA) : Option (Int × DA) :=
  lpE (fun q => X12_ways_b73 o v1 v2 v3 q.1 q.2) (0, d) (fun e => gd (ix v2 5) <|
  gd (inR (e.2 (o + 14) (Int.toNat v2))) <|
  some ((e.2 (o + 14) (Int.toNat v2), e)))
theorem X12_ways_wj70 {K : KT} (hK : Ok9 K cX12_ways RX12 7 (some .int) 2 45) {o : Nat} (hw : W_12 (kσ K) o) {v1 v2 v3 : Int} {d : DA} {y : Int × DA} (h : X12_ways_j70 o v1 v2 v3 d = some y) (hk : (FI K) y) : J K 7 d [(0, rf K o), (1, vi v1), (2, vi v2), (3, vi v3)] 70 [] :=
  j_iconst hK (dc9 DX12_ways 36 rfl) (j_istore hK (dc9 DX12_ways 37 rfl) (Nat.le_of_ble_eq_true rfl) rfl (j_sub [1, 2, 3, 4, 0] rfl ((have z := j_lpE (X12_ways_T73 K o v1 v2 v3) (X12_ways_F73 K o v1 v2 v3) h (fun q y h hk => X12_ways_wb73 hK hw h hk) (fun e h => j_aload_n hK (dc9 DX12_ways 100 rfl) 0 rfl rfl (j_getR hK (hw.1) fl12_59 rfl (hw.2.2.2.2.2.2.2.2.2.2.2.2.2.2.1.1) (hw.2.2.2.2.2.2.2.2.2.2.2.2.2.2.1.2.1) (dc9 DX12_ways 101 rfl) (j_iload_n hK (dc9 DX12_ways 102 rfl) 1 rfl rfl (j_lald hK (hw.2.2.2.2.2.2.2.2.2.2.2.2.2.2.1.2) (Nat.le_of_ble_eq_true rfl) (dc9 DX12_ways 103 rfl) h fun h => (j_l2i hK (dc9 DX12_ways 104 rfl) h fun h => (j_iret hK (dc9 DX12_ways 105 rfl) (have z := lf9 h hk; z))))))); z))))
def X12_ways (o : Nat) (v1 v2 v3 : Int) (d : DA) : Option (Int × DA) :=
  lt9 (wI d o 0 0) fun d1 =>
  b1 (X12_isKind o v1 d1) fun x2 =>
  gd (inR x2) <|
  if x2 = 0 then (X12_ways_j32 o d1) else
  b1 (X12_isKind o v2 d1) fun x5 =>
  gd (inR x5) <|
  if x5 = 0 then (X12_ways_j32 o d1) else
  b1 (X12_isIn v3 0 1000 d1) fun x6 =>
  gd (inR x6) <|
  if x6 = 0 then (X12_ways_j32 o d1) else
  lpE (fun q => X12_ways_b41 o v1 v2 v3 q.1 q.2) (0, d1) (fun e => X12_ways_j70 o v1 v2 v3 e)
theorem X12_ways_w {K : KT} (hK : Ok9 K cX12_ways RX12 7 (some .int) 2 45) {o : Nat} (hw : W_12 (kσ K) o) {v1 v2 v3 : Int} {d : DA} {y : Int × DA} (h : X12_ways o v1 v2 v3 d = some y) (hk : (FI K) y) : J K 7 d [(0, rf K o), (1, vi v1), (2, vi v2), (3, vi v3)] 0 [] :=
  j_aload_n hK (dc9 DX12_ways 0 rfl) 0 rfl rfl (j_iconst hK (dc9 DX12_ways 1 rfl) (j_putI hK (hw.1) fl12_165 fp12_165 rfl (dc9 DX12_ways 2 rfl) h fun d1 h => (j_aload_n hK (dc9 DX12_ways 3 rfl) 0 rfl rfl (j_iload_n hK (dc9 DX12_ways 4 rfl) 1 rfl rfl (b19 h fun x2 hc h => j_cV hK (c_X12_isKind (hst9 hK) (hw) hc) cl12_310 cd_X12_isKind im_X12_isKind se_X12_isKind (hw.1) (Nat.le_of_ble_eq_true rfl) rfl (Nat.le_of_ble_eq_true rfl) (Nat.le_of_ble_eq_true rfl) rfl (st := []) rfl (Nat.le_of_ble_eq_true rfl) (dc9 DX12_ways 5 rfl) rfl (j_if_eq hK (dj9 DX12_ways 6 32 rfl rfl) h (fun h => j_sub [0] rfl (X12_ways_wj32 hK hw h hk)) (fun h =>
  j_aload_n hK (dc9 DX12_ways 7 rfl) 0 rfl rfl (j_iload_n hK (dc9 DX12_ways 8 rfl) 2 rfl rfl (b19 h fun x5 hc h => j_cV hK (c_X12_isKind (hst9 hK) (hw) hc) cl12_310 cd_X12_isKind im_X12_isKind se_X12_isKind (hw.1) (Nat.le_of_ble_eq_true rfl) rfl (Nat.le_of_ble_eq_true rfl) (Nat.le_of_ble_eq_true rfl) rfl (st := []) rfl (Nat.le_of_ble_eq_true rfl) (dc9 DX12_ways 9 rfl) rfl (j_if_eq hK (dj9 DX12_ways 10 32 rfl rfl) h (fun h => j_sub [0] rfl (X12_ways_wj32 hK hw h hk)) (fun h =>
  j_iload_n hK (dc9 DX12_ways 11 rfl) 3 rfl rfl (j_iconst hK (dc9 DX12_ways 12 rfl) (j_sipush hK (dc9 DX12_ways 13 rfl) (by decide) (b19 h fun x6 hc h => j_cS hK (c_X12_isIn (hst9 hK)  hc) cl12_168 cd_X12_isIn sm_X12_isIn (Nat.le_of_ble_eq_true rfl) (Nat.le_of_ble_eq_true rfl) rfl (st := []) rfl (Nat.le_of_ble_eq_true rfl) (dc9 DX12_ways 14 rfl) rfl (j_if_ne hK (dj9 DX12_ways 15 38 rfl rfl) h (fun h => j_iconst hK (dc9 DX12_ways 20 rfl) (j_istore hK (dc9 DX12_ways 21 rfl) (Nat.le_of_ble_eq_true rfl) rfl (j_sub [1, 2, 3, 4, 0] rfl ((have z := j_lpE (X12_ways_T41 K o v1 v2 v3) (X12_ways_F41 K o v1 v2 v3) h (fun q y h hk => X12_ways_wb41 hK hw h hk) (fun e h => X12_ways_wj70 hK hw h hk); z))))) (fun h =>
  j_sub [0] rfl (X12_ways_wj32 hK hw h hk)))))))))))))))))
theorem c_X12_ways {G : GT} {l : Launch} {ad : Nat → Nat} {σ : HS} {d d' : DA} (hst : l.stackTraces = false) {o : Nat} (hw : W_12 σ o) {v1 v2 v3 : Int} {r : Int} (h : X12_ways o v1 v2 v3 d = some (r, d')) : Ct G l yX12_ways cX12_ways 7 (some .int) 2 45 ad (wD σ d) [.ref (ad o), vi v1, vi v2, vi v3] (some (vi r)) (wD σ d') :=
  ct_of hst rfl (Nat.le_of_ble_eq_true rfl) (fun K e0 e9 e1 e2 e3 hK => by subst e0; subst e9; subst e1; subst e2; exact X12_ways_w hK hw h e3)
/-! X12_dualBy -/
theorem DX12_dualBy : Dt cX12_dualBy [(0, .iload_n 0, 1, 1), (1, .iconst 1, 1, 2), (2, .if_icmp .ne 16, 3, 5), (5, .iload_n 2, 1, 6), (6, .iload_n 1, 1, 7), (7, .iconst 2, 1, 8), (8, .isub, 1, 9), (9, .if_icmp .ne 9, 3, 12), (12, .iload_n 1, 1, 13), (13, .iconst 1, 1, 14), (14, .isub, 1, 15), (15, .goto 22, 3, 18), (18, .iload_n 0, 1, 19), (19, .iconst 1, 1, 20), (20, .if_icmp .ne 16, 3, 23), (23, .iload_n 2, 1, 24), (24, .iload_n 1, 1, 25), (25, .iconst 1, 1, 26), (26, .isub, 1, 27), (27, .if_icmp .ne 9, 3, 30), (30, .iload_n 1, 1, 31), (31, .iconst 2, 1, 32), (32, .isub, 1, 33), (33, .goto 4, 3, 36), (36, .iload_n 2, 1, 37), (37, .ireturn, 1, 38)] := by unfold Dt; decide +kernel
def X12_dualBy_j36  (v2 : Int) (d : DA) : Option (Int) :=
  some (v2)
theorem X12_dualBy_wj36 {K : KT} (hK : Ok9 K cX12_dualBy RX12 3 (some .int) 0 0)   {v2 : Int} {d : DA} {y : Int} (h : X12_dualBy_j36  v2 d = some y) (hk : (FI0 K d) y) : J K 3 d [(2, vi v2)] 36 [] :=
  j_iload_n hK (dc9 DX12_dualBy 24 rfl) 0 rfl rfl (j_iret hK (dc9 DX12_dualBy 25 rfl) (have z := lf9 h hk; z))
def X12_dualBy_j18  (v0 v1 v2 : Int) (d : DA) : Option (Int) :=
  gd (inR v0 ∧ inR 1) <|
  if v0 = 1 then (gd (inR v2 ∧ inR (v1 - 1)) <|
  if v2 = (v1 - 1) then (some (v1 - 2)) else
  X12_dualBy_j36  v2 d) else
  X12_dualBy_j36  v2 d
theorem X12_dualBy_wj18 {K : KT} (hK : Ok9 K cX12_dualBy RX12 3 (some .int) 0 0)   {v0 v1 v2 : Int} {d : DA} {y : Int} (h : X12_dualBy_j18  v0 v1 v2 d = some y) (hk : (FI0 K d) y) : J K 3 d [(0, vi v0), (1, vi v1), (2, vi v2)] 18 [] :=
  j_iload_n hK (dc9 DX12_dualBy 12 rfl) 0 rfl rfl (j_iconst hK (dc9 DX12_dualBy 13 rfl) (j_icmp_ne hK (dj9 DX12_dualBy 14 36 rfl rfl) h (fun h => j_sub [2] rfl (X12_dualBy_wj36 hK  h hk)) (fun h =>
  j_iload_n hK (dc9 DX12_dualBy 15 rfl) 2 rfl rfl (j_iload_n hK (dc9 DX12_dualBy 16 rfl) 1 rfl rfl (j_iconst hK (dc9 DX12_dualBy 17 rfl) (j_isub hK (dc9 DX12_dualBy 18 rfl) (j_icmp_ne hK (dj9 DX12_dualBy 19 36 rfl rfl) h (fun h => j_sub [2] rfl (X12_dualBy_wj36 hK  h hk)) (fun h =>
  j_iload_n hK (dc9 DX12_dualBy 20 rfl) 1 rfl rfl (j_iconst hK (dc9 DX12_dualBy 21 rfl) (j_isub hK (dc9 DX12_dualBy 22 rfl) (j_goto hK (dj9 DX12_dualBy 23 37 rfl rfl) (j_iret hK (dc9 DX12_dualBy 25 rfl) (have z := lf9 h hk; z)))))))))))))
def X12_dualBy  (v0 v1 v2 : Int) (d : DA) : Option (Int) :=
  gd (inR v0 ∧ inR 1) <|
  if v0 = 1 then (gd (inR v2 ∧ inR (v1 - 2)) <|
  if v2 = (v1 - 2) then (some (v1 - 1)) else
  X12_dualBy_j18  v0 v1 v2 d) else
  X12_dualBy_j18  v0 v1 v2 d
theorem X12_dualBy_w {K : KT} (hK : Ok9 K cX12_dualBy RX12 3 (some .int) 0 0)   {v0 v1 v2 : Int} {d : DA} {y : Int} (h : X12_dualBy  v0 v1 v2 d = some y) (hk : (FI0 K d) y) : J K 3 d [(0, vi v0), (1, vi v1), (2, vi v2)] 0 [] :=
  j_iload_n hK (dc9 DX12_dualBy 0 rfl) 0 rfl rfl (j_iconst hK (dc9 DX12_dualBy 1 rfl) (j_icmp_ne hK (dj9 DX12_dualBy 2 18 rfl rfl) h (fun h => X12_dualBy_wj18 hK  h hk) (fun h =>
  j_iload_n hK (dc9 DX12_dualBy 3 rfl) 2 rfl rfl (j_iload_n hK (dc9 DX12_dualBy 4 rfl) 1 rfl rfl (j_iconst hK (dc9 DX12_dualBy 5 rfl) (j_isub hK (dc9 DX12_dualBy 6 rfl) (j_icmp_ne hK (dj9 DX12_dualBy 7 18 rfl rfl) h (fun h => X12_dualBy_wj18 hK  h hk) (fun h =>
  j_iload_n hK (dc9 DX12_dualBy 8 rfl) 1 rfl rfl (j_iconst hK (dc9 DX12_dualBy 9 rfl) (j_isub hK (dc9 DX12_dualBy 10 rfl) (j_goto hK (dj9 DX12_dualBy 11 37 rfl rfl) (j_iret hK (dc9 DX12_dualBy 25 rfl) (have z := lf9 h hk; z)))))))))))))
theorem c_X12_dualBy {G : GT} {l : Launch} {ad : Nat → Nat} {σ : HS} {d : DA} (hst : l.stackTraces = false)   {v0 v1 v2 : Int} {r : Int} (h : X12_dualBy  v0 v1 v2 d = some r) : Ct G l yX12_dualBy cX12_dualBy 3 (some .int) 0 0 ad (wD σ d) [vi v0, vi v1, vi v2] (some (vi r)) (wD σ d) :=
  ct_of hst rfl (Nat.le_of_ble_eq_true rfl) (fun K e0 e9 e1 e2 e3 hK => by subst e0; subst e9; subst e1; subst e2; exact X12_dualBy_w hK  h e3)

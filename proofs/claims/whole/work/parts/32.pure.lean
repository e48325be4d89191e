/-! X12_traceOf -/
theorem DX12_traceOf : Dt cX12_traceOf [(0, .aload_n 0, 1, 1), (1, .iload_n 1, 1, 2), (2, .iload_n 2, 1, 3), (3, .invokevirtual 555, 3, 6), (6, .pop, 1, 7), (7, .aload_n 0, 1, 8), (8, .invokevirtual 558, 3, 11), (11, .iconst 0, 1, 12), (12, .istore_n 3, 1, 13), (13, .iload_n 3, 1, 14), (14, .aload_n 0, 1, 15), (15, .getfield 176, 3, 18), (18, .if_icmp .ge 19, 3, 21), (21, .aload_n 0, 1, 22), (22, .aload_n 0, 1, 23), (23, .getfield 35, 3, 26), (26, .iload_n 3, 1, 27), (27, .iaload, 1, 28), (28, .invokevirtual 561, 3, 31), (31, .iinc 3 1, 3, 34), (34, .goto (-21), 3, 37), (37, .iconst 0, 1, 38), (38, .istore_n 3, 1, 39), (39, .iconst 0, 1, 40), (40, .istore 4, 2, 42), (42, .iload 4, 2, 44), (44, .aload_n 0, 1, 45), (45, .getfield 545, 3, 48), (48, .if_icmp .ge 24, 3, 51), (51, .iload_n 3, 1, 52), (52, .aload_n 0, 1, 53), (53, .getfield 132, 3, 56), (56, .iconst 5, 1, 57), (57, .iload 4, 2, 59), (59, .imul, 1, 60), (60, .iload 4, 2, 62), (62, .iadd, 1, 63), (63, .iaload, 1, 64), (64, .iadd, 1, 65), (65, .istore_n 3, 1, 66), (66, .iinc 4 1, 3, 69), (69, .goto (-27), 3, 72), (72, .iload_n 3, 1, 73), (73, .aload_n 0, 1, 74), (74, .getfield 13, 3, 77), (77, .irem, 1, 78), (78, .ireturn, 1, 79)] := by unfold Dt; decide +kernel
def X12_traceOf_T13 (K : KT) (o : Nat) (q : Int × DA) : Prop := J K 5 q.2 [(0, rf K o), (3, vi (q.1))] 13 []
def X12_traceOf_F13 (K : KT) (o : Nat) (q : DA) : Prop := J K 5 q [(0, rf K o)] 37 []
def X12_traceOf_b13 (o : Nat) (v3 : Int) (d : DA) : Option ((Int × DA) ⊕ (DA)) :=
  gd (inR v3 ∧ inR (d.1 o 13)) <|
  if (d.1 o 13) ≤ v3 then (some (.inr d)) else
  gd (ix v3 12) <|
  bd (X12_braidOn o (d.1 (o + 7) (Int.toNat v3)) d) fun _ d4 =>
  some (.inl (v3 + 1, d4))
theorem X12_traceOf_wb13 {K : KT} (hK : Ok9 K cX12_traceOf RX12 5 (some .int) 5 125) {o : Nat} (hw : W_12 (kσ K) o) {v3 : Int} {d : DA} {y : (Int × DA) ⊕ (DA)} (h : X12_traceOf_b13 o v3 d = some y) (hk : S2 (X12_traceOf_T13 K o) (X12_traceOf_F13 K o) y) : J K 5 d [(0, rf K o), (3, vi v3)] 13 [] :=
  j_iload_n hK (dc9 DX12_traceOf 9 rfl) 1 rfl rfl (j_aload_n hK (dc9 DX12_traceOf 10 rfl) 0 rfl rfl (j_getI hK (hw.1) fl12_176 rfl (dc9 DX12_traceOf 11 rfl) (j_icmp_ge hK (dj9 DX12_traceOf 12 37 rfl rfl) h (fun h => j_sub [0] rfl ((have z := lf9 h hk; z))) (fun h =>
  j_aload_n hK (dc9 DX12_traceOf 13 rfl) 0 rfl rfl (j_aload_n hK (dc9 DX12_traceOf 14 rfl) 0 rfl rfl (j_getR hK (hw.1) fl12_35 rfl (hw.2.2.2.2.2.2.2.1.1) (hw.2.2.2.2.2.2.2.1.2.1) (dc9 DX12_traceOf 15 rfl) (j_iload_n hK (dc9 DX12_traceOf 16 rfl) 1 rfl rfl (j_iald hK (hw.2.2.2.2.2.2.2.1.2) (Nat.le_of_ble_eq_true rfl) (dc9 DX12_traceOf 17 rfl) h fun h => (bd9 h fun _ d4 hc h => j_cV hK (c_X12_braidOn (hst9 hK) (hw) hc) cl12_561 cd_X12_braidOn im_X12_braidOn se_X12_braidOn (hw.1) (Nat.le_of_ble_eq_true rfl) rfl (Nat.le_of_ble_eq_true rfl) (Nat.le_of_ble_eq_true rfl) rfl (st := []) rfl (Nat.le_of_ble_eq_true rfl) (dc9 DX12_traceOf 18 rfl) rfl (j_iinc hK (dc9 DX12_traceOf 19 rfl) 1 rfl (Nat.le_of_ble_eq_true rfl) rfl (j_goto hK (dj9 DX12_traceOf 20 13 rfl rfl) (j_sub [1, 0] rfl ((have z := lf9 h hk; z))))))))))))))
def X12_traceOf_T42 (K : KT) (o : Nat) (d : DA) (q : Int × Int) : Prop := J K 5 d [(0, rf K o), (3, vi (q.1)), (4, vi (q.2))] 42 []
def X12_traceOf_F42 (K : KT) (o : Nat) (d : DA) (q : Int) : Prop := J K 5 d [(0, rf K o), (3, vi q)] 72 []
def X12_traceOf_b42 (o : Nat) (v3 v4 : Int) (d : DA) : Option ((Int × Int) ⊕ (Int)) :=
  gd (inR v4 ∧ inR (d.1 o 74)) <|
  if (d.1 o 74) ≤ v4 then (some (.inr v3)) else
  gd (ix ((5 * v4) + v4) 25) <|
  lt9 (v3 + (d.1 (o + 38) (Int.toNat ((5 * v4) + v4)))) fun x5 =>
  some (.inl (x5, v4 + 1))
theorem X12_traceOf_wb42 {K : KT} (hK : Ok9 K cX12_traceOf RX12 5 (some .int) 5 125) {o : Nat} (hw : W_12 (kσ K) o) {v3 v4 : Int} {d : DA} {y : (Int × Int) ⊕ (Int)} (h : X12_traceOf_b42 o v3 v4 d = some y) (hk : S2 (X12_traceOf_T42 K o d) (X12_traceOf_F42 K o d) y) : J K 5 d [(0, rf K o), (3, vi v3), (4, vi v4)] 42 [] :=
  j_iload hK (dc9 DX12_traceOf 25 rfl) 2 rfl (j_aload_n hK (dc9 DX12_traceOf 26 rfl) 0 rfl rfl (j_getI hK (hw.1) fl12_545 rfl (dc9 DX12_traceOf 27 rfl) (j_icmp_ge hK (dj9 DX12_traceOf 28 72 rfl rfl) h (fun h => j_sub [0, 1] rfl ((have z := lf9 h hk; z))) (fun h =>
  j_iload_n hK (dc9 DX12_traceOf 29 rfl) 1 rfl rfl (j_aload_n hK (dc9 DX12_traceOf 30 rfl) 0 rfl rfl (j_getR hK (hw.1) fl12_132 rfl (hw.2.2.2.2.2.2.2.2.2.2.2.2.2.2.2.2.2.2.2.2.2.2.2.2.2.2.2.2.2.2.2.2.2.2.2.2.2.2.1.1) (hw.2.2.2.2.2.2.2.2.2.2.2.2.2.2.2.2.2.2.2.2.2.2.2.2.2.2.2.2.2.2.2.2.2.2.2.2.2.2.1.2.1) (dc9 DX12_traceOf 31 rfl) (j_iconst hK (dc9 DX12_traceOf 32 rfl) (j_iload hK (dc9 DX12_traceOf 33 rfl) 2 rfl (j_imul hK (dc9 DX12_traceOf 34 rfl) (j_iload hK (dc9 DX12_traceOf 35 rfl) 2 rfl (j_iadd hK (dc9 DX12_traceOf 36 rfl) (j_iald hK (hw.2.2.2.2.2.2.2.2.2.2.2.2.2.2.2.2.2.2.2.2.2.2.2.2.2.2.2.2.2.2.2.2.2.2.2.2.2.2.1.2) (Nat.le_of_ble_eq_true rfl) (dc9 DX12_traceOf 37 rfl) h fun h => (j_iadd hK (dc9 DX12_traceOf 38 rfl) (j_letI h fun x5 h => j_istore_n hK (dc9 DX12_traceOf 39 rfl) rfl (Nat.le_of_ble_eq_true rfl) rfl (j_iinc hK (dc9 DX12_traceOf 40 rfl) 2 rfl (Nat.le_of_ble_eq_true rfl) rfl (j_goto hK (dj9 DX12_traceOf 41 42 rfl rfl) (j_sub [2, 1, 0] rfl ((have z := lf9 h hk; z)))))))))))))))))))
def X12_traceOf_j37 (o : Nat) (d : DA) : Option (Int × DA) :=
  lpE (fun q => X12_traceOf_b42 o q.1 q.2 d) (0, 0) (fun e => gd (dvg e (d.1 o 4)) <|
  some ((Int.tmod e (d.1 o 4), d)))
theorem X12_traceOf_wj37 {K : KT} (hK : Ok9 K cX12_traceOf RX12 5 (some .int) 5 125) {o : Nat} (hw : W_12 (kσ K) o) {d : DA} {y : Int × DA} (h : X12_traceOf_j37 o d = some y) (hk : (FI K) y) : J K 5 d [(0, rf K o)] 37 [] :=
  j_iconst hK (dc9 DX12_traceOf 21 rfl) (j_istore_n hK (dc9 DX12_traceOf 22 rfl) rfl (Nat.le_of_ble_eq_true rfl) rfl (j_iconst hK (dc9 DX12_traceOf 23 rfl) (j_istore hK (dc9 DX12_traceOf 24 rfl) (Nat.le_of_ble_eq_true rfl) rfl (j_sub [2, 1, 0] rfl ((have z := j_lpE (X12_traceOf_T42 K o d) (X12_traceOf_F42 K o d) h (fun q y h hk => X12_traceOf_wb42 hK hw h hk) (fun e h => j_iload_n hK (dc9 DX12_traceOf 42 rfl) 1 rfl rfl (j_aload_n hK (dc9 DX12_traceOf 43 rfl) 0 rfl rfl (j_getI hK (hw.1) fl12_13 rfl (dc9 DX12_traceOf 44 rfl) (j_irem hK (dc9 DX12_traceOf 45 rfl) h fun h => (j_iret hK (dc9 DX12_traceOf 46 rfl) (have z := lf9 h hk; z)))))); z))))))
def X12_traceOf (o : Nat) (v1 v2 : Int) (d : DA) : Option (Int × DA) :=
  bd (X12_tellLetters o v1 v2 d) fun x2 d1 =>
  bd (X12_beginBraid o d1) fun _ d3 =>
  lpE (fun q => X12_traceOf_b13 o q.1 q.2) (0, d3) (fun e => X12_traceOf_j37 o e)
theorem X12_traceOf_w {K : KT} (hK : Ok9 K cX12_traceOf RX12 5 (some .int) 5 125) {o : Nat} (hw : W_12 (kσ K) o) {v1 v2 : Int} {d : DA} {y : Int × DA} (h : X12_traceOf o v1 v2 d = some y) (hk : (FI K) y) : J K 5 d [(0, rf K o), (1, vi v1), (2, vi v2)] 0 [] :=
  j_aload_n hK (dc9 DX12_traceOf 0 rfl) 0 rfl rfl (j_iload_n hK (dc9 DX12_traceOf 1 rfl) 1 rfl rfl (j_iload_n hK (dc9 DX12_traceOf 2 rfl) 2 rfl rfl (bd9 h fun x2 d1 hc h => j_cV hK (c_X12_tellLetters (hst9 hK) (hw) hc) cl12_555 cd_X12_tellLetters im_X12_tellLetters se_X12_tellLetters (hw.1) (Nat.le_of_ble_eq_true rfl) rfl (Nat.le_of_ble_eq_true rfl) (Nat.le_of_ble_eq_true rfl) rfl (st := []) rfl (Nat.le_of_ble_eq_true rfl) (dc9 DX12_traceOf 3 rfl) rfl (j_pop hK (dc9 DX12_traceOf 4 rfl) rfl (j_aload_n hK (dc9 DX12_traceOf 5 rfl) 0 rfl rfl (bd9 h fun _ d3 hc h => j_cV hK (c_X12_beginBraid (hst9 hK) (hw) hc) cl12_558 cd_X12_beginBraid im_X12_beginBraid se_X12_beginBraid (hw.1) (Nat.le_of_ble_eq_true rfl) rfl (Nat.le_of_ble_eq_true rfl) (Nat.le_of_ble_eq_true rfl) rfl (st := []) rfl (Nat.le_of_ble_eq_true rfl) (dc9 DX12_traceOf 6 rfl) rfl (j_iconst hK (dc9 DX12_traceOf 7 rfl) (j_istore_n hK (dc9 DX12_traceOf 8 rfl) rfl (Nat.le_of_ble_eq_true rfl) rfl (j_sub [1, 0] rfl ((have z := j_lpE (X12_traceOf_T13 K o) (X12_traceOf_F13 K o) h (fun q y h hk => X12_traceOf_wb13 hK hw h hk) (fun e h => X12_traceOf_wj37 hK hw h hk); z)))))))))))
theorem c_X12_traceOf {G : GT} {l : Launch} {ad : Nat → Nat} {σ : HS} {d d' : DA} (hst : l.stackTraces = false) {o : Nat} (hw : W_12 σ o) {v1 v2 : Int} {r : Int} (h : X12_traceOf o v1 v2 d = some (r, d')) : Ct G l yX12_traceOf cX12_traceOf 5 (some .int) 5 125 ad (wD σ d) [.ref (ad o), vi v1, vi v2] (some (vi r)) (wD σ d') :=
  ct_of hst rfl (Nat.le_of_ble_eq_true rfl) (fun K e0 e9 e1 e2 e3 hK => by subst e0; subst e9; subst e1; subst e2; exact X12_traceOf_w hK hw h e3)
/-! X4_readToken -/
theorem DX4_readToken : Dt cX4_readToken [(0, .aload_n 0, 1, 1), (1, .getfield 19, 3, 4), (4, .aload_n 0, 1, 5), (5, .getfield 15, 3, 8), (8, .if_icmp .ge 31, 3, 11), (11, .aload_n 0, 1, 12), (12, .getfield 9, 3, 15), (15, .aload_n 0, 1, 16), (16, .getfield 19, 3, 19), (19, .iaload, 1, 20), (20, .invokestatic 51, 3, 23), (23, .ifCond .eq 16, 3, 26), (26, .aload_n 0, 1, 27), (27, .dup, 1, 28), (28, .getfield 19, 3, 31), (31, .iconst 1, 1, 32), (32, .iadd, 1, 33), (33, .putfield 19, 3, 36), (36, .goto (-36), 3, 39), (39, .aload_n 0, 1, 40), (40, .aload_n 0, 1, 41), (41, .getfield 19, 3, 44), (44, .putfield 48, 3, 47), (47, .aload_n 0, 1, 48), (48, .getfield 19, 3, 51), (51, .aload_n 0, 1, 52), (52, .getfield 15, 3, 55), (55, .if_icmp .lt 9, 3, 58), (58, .aload_n 0, 1, 59), (59, .iconst 0, 1, 60), (60, .putfield 55, 3, 63), (63, .return_, 1, 64), (64, .aload_n 0, 1, 65), (65, .getfield 9, 3, 68), (68, .aload_n 0, 1, 69), (69, .getfield 19, 3, 72), (72, .iaload, 1, 73), (73, .istore_n 1, 1, 74), (74, .iload_n 1, 1, 75), (75, .invokestatic 58, 3, 78), (78, .ifCond .eq 10, 3, 81), (81, .aload_n 0, 1, 82), (82, .invokevirtual 61, 3, 85), (85, .goto 60, 3, 88), (88, .iload_n 1, 1, 89), (89, .invokestatic 64, 3, 92), (92, .ifCond .eq 10, 3, 95), (95, .aload_n 0, 1, 96), (96, .invokevirtual 67, 3, 99), (99, .goto 46, 3, 102), (102, .aload_n 0, 1, 103), (103, .iload_n 1, 1, 104), (104, .bipush 61, 2, 106), (106, .if_icmp .eq 15, 3, 109), (109, .iload_n 1, 1, 110), (110, .bipush 43, 2, 112), (112, .if_icmp .eq 9, 3, 115), (115, .iload_n 1, 1, 116), (116, .bipush 59, 2, 118), (118, .if_icmp .ne 7, 3, 121), (121, .iconst 5, 1, 122), (122, .goto 5, 3, 125), (125, .bipush 6, 2, 127), (127, .putfield 55, 3, 130), (130, .aload_n 0, 1, 131), (131, .iload_n 1, 1, 132), (132, .putfield 70, 3, 135), (135, .aload_n 0, 1, 136), (136, .dup, 1, 137), (137, .getfield 19, 3, 140), (140, .iconst 1, 1, 141), (141, .iadd, 1, 142), (142, .putfield 19, 3, 145), (145, .return_, 1, 146)] := by unfold Dt; decide +kernel
def X4_readToken_j127 (o : Nat) (v1 s1 : Int) (d : DA) : Option (Unit × DA) :=
  lt9 (wI d o 4 s1) fun d5 =>
  lt9 (wI d5 o 5 v1) fun d6 =>
  lt9 (wI d6 o 2 ((d6.1 o 2) + 1)) fun d7 =>
  some (((), d7))
theorem X4_readToken_wj127 {K : KT} (hK : Ok9 K cX4_readToken RX4 2 none 8 242) {o : Nat} (hw : W_4 (kσ K) o) (hm : M_4 (kσ K) o) {v1 s1 : Int} {d : DA} {y : Unit × DA} (h : X4_readToken_j127 o v1 s1 d = some y) (hk : (FV K) y) : J K 2 d [(0, rf K o), (1, vi v1)] 127 [vi s1, rf K o] :=
  j_putI hK (hw.1) fl4_55 fp4_55 rfl (dc9 DX4_readToken 63 rfl) h fun d5 h => (j_aload_n hK (dc9 DX4_readToken 64 rfl) 0 rfl rfl (j_iload_n hK (dc9 DX4_readToken 65 rfl) 1 rfl rfl (j_putI hK (hw.1) fl4_70 fp4_70 rfl (dc9 DX4_readToken 66 rfl) h fun d6 h => (j_aload_n hK (dc9 DX4_readToken 67 rfl) 0 rfl rfl (j_dup hK (dc9 DX4_readToken 68 rfl) rfl (j_getI hK (hw.1) fl4_19 rfl (dc9 DX4_readToken 69 rfl) (j_iconst hK (dc9 DX4_readToken 70 rfl) (j_iadd hK (dc9 DX4_readToken 71 rfl) (j_putI hK (hw.1) fl4_19 fp4_19 rfl (dc9 DX4_readToken 72 rfl) h fun d7 h => (j_vret hK (dc9 DX4_readToken 73 rfl) (have z := lf9 h hk; z)))))))))))
def X4_readToken_j121 (o : Nat) (v1 : Int) (d : DA) : Option (Unit × DA) :=
  X4_readToken_j127 o v1 5 d
theorem X4_readToken_wj121 {K : KT} (hK : Ok9 K cX4_readToken RX4 2 none 8 242) {o : Nat} (hw : W_4 (kσ K) o) (hm : M_4 (kσ K) o) {v1 : Int} {d : DA} {y : Unit × DA} (h : X4_readToken_j121 o v1 d = some y) (hk : (FV K) y) : J K 2 d [(0, rf K o), (1, vi v1)] 121 [rf K o] :=
  j_iconst hK (dc9 DX4_readToken 60 rfl) (j_goto hK (dj9 DX4_readToken 61 127 rfl rfl) (X4_readToken_wj127 hK hw hm h hk))
def X4_readToken_j39 (o : Nat) (d : DA) : Option (Unit × DA) :=
  lt9 (wI d o 3 (d.1 o 2)) fun d1 =>
  gd (inR (d1.1 o 2) ∧ inR (d1.1 o 1)) <|
  if (d1.1 o 2) < (d1.1 o 1) then (gd (ix (d1.1 o 2) 400) <|
  lt9 (d1.1 (o - 1) (Int.toNat (d1.1 o 2))) fun x2 =>
  b1 (X4_isLetter x2 d1) fun x3 =>
  gd (inR x3) <|
  if x3 = 0 then (b1 (X4_isDigit x2 d1) fun x4 =>
  gd (inR x4) <|
  if x4 = 0 then (gd (inR x2 ∧ inR 61) <|
  if x2 = 61 then (X4_readToken_j121 o x2 d1) else
  gd (inR x2 ∧ inR 43) <|
  if x2 = 43 then (X4_readToken_j121 o x2 d1) else
  gd (inR x2 ∧ inR 59) <|
  if x2 = 59 then (X4_readToken_j121 o x2 d1) else
  X4_readToken_j127 o x2 6 d1) else
  bd (X4_readNumber o d1) fun _ d8 =>
  some (((), d8))) else
  bd (X4_readWord o d1) fun _ d9 =>
  some (((), d9))) else
  lt9 (wI d1 o 4 0) fun d10 =>
  some (((), d10))
theorem X4_readToken_wj39 {K : KT} (hK : Ok9 K cX4_readToken RX4 2 none 8 242) {o : Nat} (hw : W_4 (kσ K) o) (hm : M_4 (kσ K) o) {d : DA} {y : Unit × DA} (h : X4_readToken_j39 o d = some y) (hk : (FV K) y) : J K 2 d [(0, rf K o)] 39 [] :=
  j_aload_n hK (dc9 DX4_readToken 19 rfl) 0 rfl rfl (j_aload_n hK (dc9 DX4_readToken 20 rfl) 0 rfl rfl (j_getI hK (hw.1) fl4_19 rfl (dc9 DX4_readToken 21 rfl) (j_putI hK (hw.1) fl4_48 fp4_48 rfl (dc9 DX4_readToken 22 rfl) h fun d1 h => (j_aload_n hK (dc9 DX4_readToken 23 rfl) 0 rfl rfl (j_getI hK (hw.1) fl4_19 rfl (dc9 DX4_readToken 24 rfl) (j_aload_n hK (dc9 DX4_readToken 25 rfl) 0 rfl rfl (j_getI hK (hw.1) fl4_15 rfl (dc9 DX4_readToken 26 rfl) (j_icmp_lt hK (dj9 DX4_readToken 27 64 rfl rfl) h (fun h => j_aload_n hK (dc9 DX4_readToken 32 rfl) 0 rfl rfl (j_getR hK (hw.1) fl4_9 rfl (hm.1.1) (hm.1.2.1) (dc9 DX4_readToken 33 rfl) (j_aload_n hK (dc9 DX4_readToken 34 rfl) 0 rfl rfl (j_getI hK (hw.1) fl4_19 rfl (dc9 DX4_readToken 35 rfl) (j_iald hK (hm.1.2) (Nat.le_of_ble_eq_true rfl) (dc9 DX4_readToken 36 rfl) h fun h => (j_letI h fun x2 h => j_istore_n hK (dc9 DX4_readToken 37 rfl) rfl (Nat.le_of_ble_eq_true rfl) rfl (j_iload_n hK (dc9 DX4_readToken 38 rfl) 0 rfl rfl (b19 h fun x3 hc h => j_cS hK (c_X4_isLetter (hst9 hK)  hc) cl4_58 cd_X4_isLetter sm_X4_isLetter (Nat.le_of_ble_eq_true rfl) (Nat.le_of_ble_eq_true rfl) rfl (st := []) rfl (Nat.le_of_ble_eq_true rfl) (dc9 DX4_readToken 39 rfl) rfl (j_if_eq hK (dj9 DX4_readToken 40 88 rfl rfl) h (fun h => j_iload_n hK (dc9 DX4_readToken 44 rfl) 0 rfl rfl (b19 h fun x4 hc h => j_cS hK (c_X4_isDigit (hst9 hK)  hc) cl4_64 cd_X4_isDigit sm_X4_isDigit (Nat.le_of_ble_eq_true rfl) (Nat.le_of_ble_eq_true rfl) rfl (st := []) rfl (Nat.le_of_ble_eq_true rfl) (dc9 DX4_readToken 45 rfl) rfl (j_if_eq hK (dj9 DX4_readToken 46 102 rfl rfl) h (fun h => j_aload_n hK (dc9 DX4_readToken 50 rfl) 1 rfl rfl (j_iload_n hK (dc9 DX4_readToken 51 rfl) 0 rfl rfl (j_bipush hK (dc9 DX4_readToken 52 rfl) (by decide) (j_icmp_eq hK (dj9 DX4_readToken 53 121 rfl rfl) h (fun h => j_sub [1, 0] rfl (X4_readToken_wj121 hK hw hm h hk)) (fun h =>
  j_iload_n hK (dc9 DX4_readToken 54 rfl) 0 rfl rfl (j_bipush hK (dc9 DX4_readToken 55 rfl) (by decide) (j_icmp_eq hK (dj9 DX4_readToken 56 121 rfl rfl) h (fun h => j_sub [1, 0] rfl (X4_readToken_wj121 hK hw hm h hk)) (fun h =>
  j_iload_n hK (dc9 DX4_readToken 57 rfl) 0 rfl rfl (j_bipush hK (dc9 DX4_readToken 58 rfl) (by decide) (j_icmp_ne hK (dj9 DX4_readToken 59 125 rfl rfl) h (fun h => j_bipush hK (dc9 DX4_readToken 62 rfl) (by decide) (j_sub [1, 0] rfl (X4_readToken_wj127 hK hw hm h hk))) (fun h =>
  j_sub [1, 0] rfl (X4_readToken_wj121 hK hw hm h hk)))))))))))) (fun h =>
  j_aload_n hK (dc9 DX4_readToken 47 rfl) 1 rfl rfl (bd9 h fun _ d8 hc h => j_cV hK (c_X4_readNumber (hst9 hK) (hw) hm hc) cl4_67 cd_X4_readNumber im_X4_readNumber se_X4_readNumber (hw.1) (Nat.le_of_ble_eq_true rfl) rfl (Nat.le_of_ble_eq_true rfl) (Nat.le_of_ble_eq_true rfl) rfl (st := []) rfl (Nat.le_of_ble_eq_true rfl) (dc9 DX4_readToken 48 rfl) rfl (j_goto hK (dj9 DX4_readToken 49 145 rfl rfl) (j_vret hK (dc9 DX4_readToken 73 rfl) (have z := lf9 h hk; z)))))))) (fun h =>
  j_aload_n hK (dc9 DX4_readToken 41 rfl) 1 rfl rfl (bd9 h fun _ d9 hc h => j_cV hK (c_X4_readWord (hst9 hK) (hw) hm hc) cl4_61 cd_X4_readWord im_X4_readWord se_X4_readWord (hw.1) (Nat.le_of_ble_eq_true rfl) rfl (Nat.le_of_ble_eq_true rfl) (Nat.le_of_ble_eq_true rfl) rfl (st := []) rfl (Nat.le_of_ble_eq_true rfl) (dc9 DX4_readToken 42 rfl) rfl (j_goto hK (dj9 DX4_readToken 43 145 rfl rfl) (j_vret hK (dc9 DX4_readToken 73 rfl) (have z := lf9 h hk; z)))))))))))))) (fun h =>
  j_aload_n hK (dc9 DX4_readToken 28 rfl) 0 rfl rfl (j_iconst hK (dc9 DX4_readToken 29 rfl) (j_putI hK (hw.1) fl4_55 fp4_55 rfl (dc9 DX4_readToken 30 rfl) h fun d10 h => (j_vret hK (dc9 DX4_readToken 31 rfl) (have z := lf9 h hk; z)))))))))))))
def X4_readToken_T0 (K : KT) (o : Nat) (q : DA) : Prop := J K 2 q [(0, rf K o)] 0 []
def X4_readToken_F0 (K : KT) (o : Nat) (q : DA) : Prop := J K 2 q [(0, rf K o)] 39 []
def X4_readToken_b0 (o : Nat) (d : DA) : Option ((DA) ⊕ (DA)) :=
  gd (inR (d.1 o 2) ∧ inR (d.1 o 1)) <|
  if (d.1 o 1) ≤ (d.1 o 2) then (some (.inr d)) else
  gd (ix (d.1 o 2) 400) <|
  b1 (X4_isBlank (d.1 (o - 1) (Int.toNat (d.1 o 2))) d) fun x13 =>
  gd (inR x13) <|
  if x13 = 0 then (some (.inr d)) else
  lt9 (wI d o 2 ((d.1 o 2) + 1)) fun d14 =>
  some (.inl d14)
theorem X4_readToken_wb0 {K : KT} (hK : Ok9 K cX4_readToken RX4 2 none 8 242) {o : Nat} (hw : W_4 (kσ K) o) (hm : M_4 (kσ K) o) {d : DA} {y : (DA) ⊕ (DA)} (h : X4_readToken_b0 o d = some y) (hk : S2 (X4_readToken_T0 K o) (X4_readToken_F0 K o) y) : J K 2 d [(0, rf K o)] 0 [] :=
  j_aload_n hK (dc9 DX4_readToken 0 rfl) 0 rfl rfl (j_getI hK (hw.1) fl4_19 rfl (dc9 DX4_readToken 1 rfl) (j_aload_n hK (dc9 DX4_readToken 2 rfl) 0 rfl rfl (j_getI hK (hw.1) fl4_15 rfl (dc9 DX4_readToken 3 rfl) (j_icmp_ge hK (dj9 DX4_readToken 4 39 rfl rfl) h (fun h => (have z := lf9 h hk; z)) (fun h =>
  j_aload_n hK (dc9 DX4_readToken 5 rfl) 0 rfl rfl (j_getR hK (hw.1) fl4_9 rfl (hm.1.1) (hm.1.2.1) (dc9 DX4_readToken 6 rfl) (j_aload_n hK (dc9 DX4_readToken 7 rfl) 0 rfl rfl (j_getI hK (hw.1) fl4_19 rfl (dc9 DX4_readToken 8 rfl) (j_iald hK (hm.1.2) (Nat.le_of_ble_eq_true rfl) (dc9 DX4_readToken 9 rfl) h fun h => (b19 h fun x13 hc h => j_cS hK (c_X4_isBlank (hst9 hK)  hc) cl4_51 cd_X4_isBlank sm_X4_isBlank (Nat.le_of_ble_eq_true rfl) (Nat.le_of_ble_eq_true rfl) rfl (st := []) rfl (Nat.le_of_ble_eq_true rfl) (dc9 DX4_readToken 10 rfl) rfl (j_if_eq hK (dj9 DX4_readToken 11 39 rfl rfl) h (fun h => (have z := lf9 h hk; z)) (fun h =>
  j_aload_n hK (dc9 DX4_readToken 12 rfl) 0 rfl rfl (j_dup hK (dc9 DX4_readToken 13 rfl) rfl (j_getI hK (hw.1) fl4_19 rfl (dc9 DX4_readToken 14 rfl) (j_iconst hK (dc9 DX4_readToken 15 rfl) (j_iadd hK (dc9 DX4_readToken 16 rfl) (j_putI hK (hw.1) fl4_19 fp4_19 rfl (dc9 DX4_readToken 17 rfl) h fun d14 h => (j_goto hK (dj9 DX4_readToken 18 0 rfl rfl) ((have z := lf9 h hk; z))))))))))))))))))))
def X4_readToken (o : Nat) (d : DA) : Option (Unit × DA) :=
  gd (inR (d.1 o 2) ∧ inR (d.1 o 1)) <|
  if (d.1 o 1) ≤ (d.1 o 2) then (X4_readToken_j39 o d) else
  gd (ix (d.1 o 2) 400) <|
  b1 (X4_isBlank (d.1 (o - 1) (Int.toNat (d.1 o 2))) d) fun x11 =>
  gd (inR x11) <|
  if x11 = 0 then (X4_readToken_j39 o d) else
  lt9 (wI d o 2 ((d.1 o 2) + 1)) fun d12 =>
  lpE (fun q => X4_readToken_b0 o q) d12 (fun e => X4_readToken_j39 o e)
theorem X4_readToken_w {K : KT} (hK : Ok9 K cX4_readToken RX4 2 none 8 242) {o : Nat} (hw : W_4 (kσ K) o) (hm : M_4 (kσ K) o) {d : DA} {y : Unit × DA} (h : X4_readToken o d = some y) (hk : (FV K) y) : J K 2 d [(0, rf K o)] 0 [] :=
  j_aload_n hK (dc9 DX4_readToken 0 rfl) 0 rfl rfl (j_getI hK (hw.1) fl4_19 rfl (dc9 DX4_readToken 1 rfl) (j_aload_n hK (dc9 DX4_readToken 2 rfl) 0 rfl rfl (j_getI hK (hw.1) fl4_15 rfl (dc9 DX4_readToken 3 rfl) (j_icmp_ge hK (dj9 DX4_readToken 4 39 rfl rfl) h (fun h => X4_readToken_wj39 hK hw hm h hk) (fun h =>
  j_aload_n hK (dc9 DX4_readToken 5 rfl) 0 rfl rfl (j_getR hK (hw.1) fl4_9 rfl (hm.1.1) (hm.1.2.1) (dc9 DX4_readToken 6 rfl) (j_aload_n hK (dc9 DX4_readToken 7 rfl) 0 rfl rfl (j_getI hK (hw.1) fl4_19 rfl (dc9 DX4_readToken 8 rfl) (j_iald hK (hm.1.2) (Nat.le_of_ble_eq_true rfl) (dc9 DX4_readToken 9 rfl) h fun h => (b19 h fun x11 hc h => j_cS hK (c_X4_isBlank (hst9 hK)  hc) cl4_51 cd_X4_isBlank sm_X4_isBlank (Nat.le_of_ble_eq_true rfl) (Nat.le_of_ble_eq_true rfl) rfl (st := []) rfl (Nat.le_of_ble_eq_true rfl) (dc9 DX4_readToken 10 rfl) rfl (j_if_eq hK (dj9 DX4_readToken 11 39 rfl rfl) h (fun h => X4_readToken_wj39 hK hw hm h hk) (fun h =>
  j_aload_n hK (dc9 DX4_readToken 12 rfl) 0 rfl rfl (j_dup hK (dc9 DX4_readToken 13 rfl) rfl (j_getI hK (hw.1) fl4_19 rfl (dc9 DX4_readToken 14 rfl) (j_iconst hK (dc9 DX4_readToken 15 rfl) (j_iadd hK (dc9 DX4_readToken 16 rfl) (j_putI hK (hw.1) fl4_19 fp4_19 rfl (dc9 DX4_readToken 17 rfl) h fun d12 h => (j_goto hK (dj9 DX4_readToken 18 0 rfl rfl) ((have z := j_lpE (X4_readToken_T0 K o) (X4_readToken_F0 K o) h (fun q y h hk => X4_readToken_wb0 hK hw hm h hk) (fun e h => X4_readToken_wj39 hK hw hm h hk); z))))))))))))))))))))
theorem c_X4_readToken {G : GT} {l : Launch} {ad : Nat → Nat} {σ : HS} {d d' : DA} (hst : l.stackTraces = false) {o : Nat} (hw : W_4 σ o) (hm : M_4 σ o) {r : Unit} (h : X4_readToken o  d = some (r, d')) : Ct G l yX4_readToken cX4_readToken 2 none 8 242 ad (wD σ d) [.ref (ad o)] none (wD σ d') :=
  ct_of hst rfl (Nat.le_of_ble_eq_true rfl) (fun K e0 e9 e1 e2 e3 hK => by subst e0; subst e9; subst e1; subst e2; exact X4_readToken_w hK hw hm h e3)

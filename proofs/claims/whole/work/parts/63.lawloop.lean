def L_law_T23 (B : BT) (b Ln : Nat) (q : Int × XS) : Prop := ∀ ad, J (KX B 0 0 ad (q.2)) 7 q.2.1 [(0, .ref b), (1, .ref (ad 1)), (2, .ref (ad 113)), (3, .ref (ad 161)), (4, vi (q.1))] 23 []
def L_law_F23 (B : BT) (b Ln : Nat) (q : XS) : Prop := ∀ ad, J (KX B 0 0 ad q) 7 q.1 [] 2032 []
def L_law__j310_23 (Ln : Nat) (sc : Int → Int) (v4 : Int) (x : XS) : Option ((Int × XS) ⊕ ((XS) ⊕ (Int × XS))) :=
  some (.inl (v4 + 8, x))
theorem L_law__wj310_23 {B : BT} {b Ln : Nat} {xs9 : Nat → Int32} (hB : OkB B code RL 7 ret 746 19016) (hS : ScB B b Ln xs9) (hL : LwB B b) {ad : Nat → Nat} {v4 : Int} {x : XS} {y : (Int × XS) ⊕ ((XS) ⊕ (Int × XS))} (h : L_law__j310_23 Ln (scI xs9) v4 x = some y) (hk : S3 (L_law_T23 B b Ln) (L_law_F23 B b Ln) FW y) : J (KX B 0 0 ad x) 7 x.1 [(0, .ref b), (1, .ref (ad 1)), (2, .ref (ad 113)), (3, .ref (ad 161)), (4, vi v4)] 310 [] :=
  j_goto (okx hB) (dj9 DL_law_2 3 2026 rfl rfl) (j_iinc (okx hB) (dc9 DL_law_24 32 rfl) 4 rfl (Nat.le_of_ble_eq_true rfl) rfl (j_goto (okx hB) (dj9 DL_law_24 33 23 rfl rfl) (j_sub [1, 2, 3, 4, 0] rfl ((have z := lf9 h hk; z _)))))
def L_law__j403_23 (Ln : Nat) (sc : Int → Int) (v4 : Int) (x : XS) : Option ((Int × XS) ⊕ ((XS) ⊕ (Int × XS))) :=
  some (.inl (v4 + 8, x))
theorem L_law__wj403_23 {B : BT} {b Ln : Nat} {xs9 : Nat → Int32} (hB : OkB B code RL 7 ret 746 19016) (hS : ScB B b Ln xs9) (hL : LwB B b) {ad : Nat → Nat} {v4 : Int} {x : XS} {y : (Int × XS) ⊕ ((XS) ⊕ (Int × XS))} (h : L_law__j403_23 Ln (scI xs9) v4 x = some y) (hk : S3 (L_law_T23 B b Ln) (L_law_F23 B b Ln) FW y) : J (KX B 0 0 ad x) 7 x.1 [(0, .ref b), (1, .ref (ad 1)), (2, .ref (ad 113)), (3, .ref (ad 161)), (4, vi v4)] 403 [] :=
  j_goto (okx hB) (dj9 DL_law_3 15 2026 rfl rfl) (j_iinc (okx hB) (dc9 DL_law_24 32 rfl) 4 rfl (Nat.le_of_ble_eq_true rfl) rfl (j_goto (okx hB) (dj9 DL_law_24 33 23 rfl rfl) (j_sub [1, 2, 3, 4, 0] rfl ((have z := lf9 h hk; z _)))))
def L_law__j483_23 (Ln : Nat) (sc : Int → Int) (v4 : Int) (x : XS) : Option ((Int × XS) ⊕ ((XS) ⊕ (Int × XS))) :=
  some (.inl (v4 + 8, x))
theorem L_law__wj483_23 {B : BT} {b Ln : Nat} {xs9 : Nat → Int32} (hB : OkB B code RL 7 ret 746 19016) (hS : ScB B b Ln xs9) (hL : LwB B b) {ad : Nat → Nat} {v4 : Int} {x : XS} {y : (Int × XS) ⊕ ((XS) ⊕ (Int × XS))} (h : L_law__j483_23 Ln (scI xs9) v4 x = some y) (hk : S3 (L_law_T23 B b Ln) (L_law_F23 B b Ln) FW y) : J (KX B 0 0 ad x) 7 x.1 [(0, .ref b), (1, .ref (ad 1)), (2, .ref (ad 113)), (3, .ref (ad 161)), (4, vi v4)] 483 [] :=
  j_goto (okx hB) (dj9 DL_law_4 12 2026 rfl rfl) (j_iinc (okx hB) (dc9 DL_law_24 32 rfl) 4 rfl (Nat.le_of_ble_eq_true rfl) rfl (j_goto (okx hB) (dj9 DL_law_24 33 23 rfl rfl) (j_sub [1, 2, 3, 4, 0] rfl ((have z := lf9 h hk; z _)))))
def L_law__j563_23 (Ln : Nat) (sc : Int → Int) (v4 : Int) (x : XS) : Option ((Int × XS) ⊕ ((XS) ⊕ (Int × XS))) :=
  some (.inl (v4 + 8, x))
theorem L_law__wj563_23 {B : BT} {b Ln : Nat} {xs9 : Nat → Int32} (hB : OkB B code RL 7 ret 746 19016) (hS : ScB B b Ln xs9) (hL : LwB B b) {ad : Nat → Nat} {v4 : Int} {x : XS} {y : (Int × XS) ⊕ ((XS) ⊕ (Int × XS))} (h : L_law__j563_23 Ln (scI xs9) v4 x = some y) (hk : S3 (L_law_T23 B b Ln) (L_law_F23 B b Ln) FW y) : J (KX B 0 0 ad x) 7 x.1 [(0, .ref b), (1, .ref (ad 1)), (2, .ref (ad 113)), (3, .ref (ad 161)), (4, vi v4)] 563 [] :=
  j_goto (okx hB) (dj9 DL_law_5 17 2026 rfl rfl) (j_iinc (okx hB) (dc9 DL_law_24 32 rfl) 4 rfl (Nat.le_of_ble_eq_true rfl) rfl (j_goto (okx hB) (dj9 DL_law_24 33 23 rfl rfl) (j_sub [1, 2, 3, 4, 0] rfl ((have z := lf9 h hk; z _)))))
def L_law__j619_23 (Ln : Nat) (sc : Int → Int) (v4 : Int) (x : XS) : Option ((Int × XS) ⊕ ((XS) ⊕ (Int × XS))) :=
  some (.inl (v4 + 8, x))
theorem L_law__wj619_23 {B : BT} {b Ln : Nat} {xs9 : Nat → Int32} (hB : OkB B code RL 7 ret 746 19016) (hS : ScB B b Ln xs9) (hL : LwB B b) {ad : Nat → Nat} {v4 : Int} {x : XS} {y : (Int × XS) ⊕ ((XS) ⊕ (Int × XS))} (h : L_law__j619_23 Ln (scI xs9) v4 x = some y) (hk : S3 (L_law_T23 B b Ln) (L_law_F23 B b Ln) FW y) : J (KX B 0 0 ad x) 7 x.1 [(0, .ref b), (1, .ref (ad 1)), (2, .ref (ad 113)), (3, .ref (ad 161)), (4, vi v4)] 619 [] :=
  j_goto (okx hB) (dj9 DL_law_6 2 2026 rfl rfl) (j_iinc (okx hB) (dc9 DL_law_24 32 rfl) 4 rfl (Nat.le_of_ble_eq_true rfl) rfl (j_goto (okx hB) (dj9 DL_law_24 33 23 rfl rfl) (j_sub [1, 2, 3, 4, 0] rfl ((have z := lf9 h hk; z _)))))
def L_law__j675_23 (Ln : Nat) (sc : Int → Int) (v4 : Int) (x : XS) : Option ((Int × XS) ⊕ ((XS) ⊕ (Int × XS))) :=
  some (.inl (v4 + 8, x))
theorem L_law__wj675_23 {B : BT} {b Ln : Nat} {xs9 : Nat → Int32} (hB : OkB B code RL 7 ret 746 19016) (hS : ScB B b Ln xs9) (hL : LwB B b) {ad : Nat → Nat} {v4 : Int} {x : XS} {y : (Int × XS) ⊕ ((XS) ⊕ (Int × XS))} (h : L_law__j675_23 Ln (scI xs9) v4 x = some y) (hk : S3 (L_law_T23 B b Ln) (L_law_F23 B b Ln) FW y) : J (KX B 0 0 ad x) 7 x.1 [(0, .ref b), (1, .ref (ad 1)), (2, .ref (ad 113)), (3, .ref (ad 161)), (4, vi v4)] 675 [] :=
  j_goto (okx hB) (dj9 DL_law_6 37 2026 rfl rfl) (j_iinc (okx hB) (dc9 DL_law_24 32 rfl) 4 rfl (Nat.le_of_ble_eq_true rfl) rfl (j_goto (okx hB) (dj9 DL_law_24 33 23 rfl rfl) (j_sub [1, 2, 3, 4, 0] rfl ((have z := lf9 h hk; z _)))))
def L_law__j731_23 (Ln : Nat) (sc : Int → Int) (v4 : Int) (x : XS) : Option ((Int × XS) ⊕ ((XS) ⊕ (Int × XS))) :=
  some (.inl (v4 + 8, x))
theorem L_law__wj731_23 {B : BT} {b Ln : Nat} {xs9 : Nat → Int32} (hB : OkB B code RL 7 ret 746 19016) (hS : ScB B b Ln xs9) (hL : LwB B b) {ad : Nat → Nat} {v4 : Int} {x : XS} {y : (Int × XS) ⊕ ((XS) ⊕ (Int × XS))} (h : L_law__j731_23 Ln (scI xs9) v4 x = some y) (hk : S3 (L_law_T23 B b Ln) (L_law_F23 B b Ln) FW y) : J (KX B 0 0 ad x) 7 x.1 [(0, .ref b), (1, .ref (ad 1)), (2, .ref (ad 113)), (3, .ref (ad 161)), (4, vi v4)] 731 [] :=
  j_goto (okx hB) (dj9 DL_law_7 22 2026 rfl rfl) (j_iinc (okx hB) (dc9 DL_law_24 32 rfl) 4 rfl (Nat.le_of_ble_eq_true rfl) rfl (j_goto (okx hB) (dj9 DL_law_24 33 23 rfl rfl) (j_sub [1, 2, 3, 4, 0] rfl ((have z := lf9 h hk; z _)))))
def L_law__j811_23 (Ln : Nat) (sc : Int → Int) (v4 : Int) (x : XS) : Option ((Int × XS) ⊕ ((XS) ⊕ (Int × XS))) :=
  some (.inl (v4 + 8, x))
theorem L_law__wj811_23 {B : BT} {b Ln : Nat} {xs9 : Nat → Int32} (hB : OkB B code RL 7 ret 746 19016) (hS : ScB B b Ln xs9) (hL : LwB B b) {ad : Nat → Nat} {v4 : Int} {x : XS} {y : (Int × XS) ⊕ ((XS) ⊕ (Int × XS))} (h : L_law__j811_23 Ln (scI xs9) v4 x = some y) (hk : S3 (L_law_T23 B b Ln) (L_law_F23 B b Ln) FW y) : J (KX B 0 0 ad x) 7 x.1 [(0, .ref b), (1, .ref (ad 1)), (2, .ref (ad 113)), (3, .ref (ad 161)), (4, vi v4)] 811 [] :=
  j_goto (okx hB) (dj9 DL_law_8 27 2026 rfl rfl) (j_iinc (okx hB) (dc9 DL_law_24 32 rfl) 4 rfl (Nat.le_of_ble_eq_true rfl) rfl (j_goto (okx hB) (dj9 DL_law_24 33 23 rfl rfl) (j_sub [1, 2, 3, 4, 0] rfl ((have z := lf9 h hk; z _)))))
def L_law__j879_23 (Ln : Nat) (sc : Int → Int) (v4 : Int) (x : XS) : Option ((Int × XS) ⊕ ((XS) ⊕ (Int × XS))) :=
  some (.inl (v4 + 8, x))
theorem L_law__wj879_23 {B : BT} {b Ln : Nat} {xs9 : Nat → Int32} (hB : OkB B code RL 7 ret 746 19016) (hS : ScB B b Ln xs9) (hL : LwB B b) {ad : Nat → Nat} {v4 : Int} {x : XS} {y : (Int × XS) ⊕ ((XS) ⊕ (Int × XS))} (h : L_law__j879_23 Ln (scI xs9) v4 x = some y) (hk : S3 (L_law_T23 B b Ln) (L_law_F23 B b Ln) FW y) : J (KX B 0 0 ad x) 7 x.1 [(0, .ref b), (1, .ref (ad 1)), (2, .ref (ad 113)), (3, .ref (ad 161)), (4, vi v4)] 879 [] :=
  j_goto (okx hB) (dj9 DL_law_9 22 2026 rfl rfl) (j_iinc (okx hB) (dc9 DL_law_24 32 rfl) 4 rfl (Nat.le_of_ble_eq_true rfl) rfl (j_goto (okx hB) (dj9 DL_law_24 33 23 rfl rfl) (j_sub [1, 2, 3, 4, 0] rfl ((have z := lf9 h hk; z _)))))
def L_law__j935_23 (Ln : Nat) (sc : Int → Int) (v4 : Int) (x : XS) : Option ((Int × XS) ⊕ ((XS) ⊕ (Int × XS))) :=
  some (.inl (v4 + 8, x))
theorem L_law__wj935_23 {B : BT} {b Ln : Nat} {xs9 : Nat → Int32} (hB : OkB B code RL 7 ret 746 19016) (hS : ScB B b Ln xs9) (hL : LwB B b) {ad : Nat → Nat} {v4 : Int} {x : XS} {y : (Int × XS) ⊕ ((XS) ⊕ (Int × XS))} (h : L_law__j935_23 Ln (scI xs9) v4 x = some y) (hk : S3 (L_law_T23 B b Ln) (L_law_F23 B b Ln) FW y) : J (KX B 0 0 ad x) 7 x.1 [(0, .ref b), (1, .ref (ad 1)), (2, .ref (ad 113)), (3, .ref (ad 161)), (4, vi v4)] 935 [] :=
  j_goto (okx hB) (dj9 DL_law_10 7 2026 rfl rfl) (j_iinc (okx hB) (dc9 DL_law_24 32 rfl) 4 rfl (Nat.le_of_ble_eq_true rfl) rfl (j_goto (okx hB) (dj9 DL_law_24 33 23 rfl rfl) (j_sub [1, 2, 3, 4, 0] rfl ((have z := lf9 h hk; z _)))))
def L_law__j1039_23 (Ln : Nat) (sc : Int → Int) (v4 : Int) (x : XS) : Option ((Int × XS) ⊕ ((XS) ⊕ (Int × XS))) :=
  some (.inl (v4 + 8, x))
theorem L_law__wj1039_23 {B : BT} {b Ln : Nat} {xs9 : Nat → Int32} (hB : OkB B code RL 7 ret 746 19016) (hS : ScB B b Ln xs9) (hL : LwB B b) {ad : Nat → Nat} {v4 : Int} {x : XS} {y : (Int × XS) ⊕ ((XS) ⊕ (Int × XS))} (h : L_law__j1039_23 Ln (scI xs9) v4 x = some y) (hk : S3 (L_law_T23 B b Ln) (L_law_F23 B b Ln) FW y) : J (KX B 0 0 ad x) 7 x.1 [(0, .ref b), (1, .ref (ad 1)), (2, .ref (ad 113)), (3, .ref (ad 161)), (4, vi v4)] 1039 [] :=
  j_goto (okx hB) (dj9 DL_law_11 24 2026 rfl rfl) (j_iinc (okx hB) (dc9 DL_law_24 32 rfl) 4 rfl (Nat.le_of_ble_eq_true rfl) rfl (j_goto (okx hB) (dj9 DL_law_24 33 23 rfl rfl) (j_sub [1, 2, 3, 4, 0] rfl ((have z := lf9 h hk; z _)))))
def L_law__j1178_23 (Ln : Nat) (sc : Int → Int) (v4 : Int) (x : XS) : Option ((Int × XS) ⊕ ((XS) ⊕ (Int × XS))) :=
  some (.inl (v4 + 8, x))
theorem L_law__wj1178_23 {B : BT} {b Ln : Nat} {xs9 : Nat → Int32} (hB : OkB B code RL 7 ret 746 19016) (hS : ScB B b Ln xs9) (hL : LwB B b) {ad : Nat → Nat} {v4 : Int} {x : XS} {y : (Int × XS) ⊕ ((XS) ⊕ (Int × XS))} (h : L_law__j1178_23 Ln (scI xs9) v4 x = some y) (hk : S3 (L_law_T23 B b Ln) (L_law_F23 B b Ln) FW y) : J (KX B 0 0 ad x) 7 x.1 [(0, .ref b), (1, .ref (ad 1)), (2, .ref (ad 113)), (3, .ref (ad 161)), (4, vi v4)] 1178 [] :=
  j_goto (okx hB) (dj9 DL_law_13 22 2026 rfl rfl) (j_iinc (okx hB) (dc9 DL_law_24 32 rfl) 4 rfl (Nat.le_of_ble_eq_true rfl) rfl (j_goto (okx hB) (dj9 DL_law_24 33 23 rfl rfl) (j_sub [1, 2, 3, 4, 0] rfl ((have z := lf9 h hk; z _)))))
def L_law__j1172_23 (Ln : Nat) (sc : Int → Int) (v4 s0 s1 : Int) (x : XS) : Option ((Int × XS) ⊕ ((XS) ⊕ (Int × XS))) :=
  gd (inR64 s0 ∧ inR64 s1) <|
  gd (inR (lcmp9 s0 s1)) <|
  if (lcmp9 s0 s1) = 0 then (L_law__j1178_23 Ln sc v4 x) else
  some (.inr (.inr ((0, x))))
theorem L_law__wj1172_23 {B : BT} {b Ln : Nat} {xs9 : Nat → Int32} (hB : OkB B code RL 7 ret 746 19016) (hS : ScB B b Ln xs9) (hL : LwB B b) {ad : Nat → Nat} {v4 s0 s1 : Int} {x : XS} {y : (Int × XS) ⊕ ((XS) ⊕ (Int × XS))} (h : L_law__j1172_23 Ln (scI xs9) v4 s0 s1 x = some y) (hk : S3 (L_law_T23 B b Ln) (L_law_F23 B b Ln) FW y) : J (KX B 0 0 ad x) 7 x.1 [(0, .ref b), (1, .ref (ad 1)), (2, .ref (ad 113)), (3, .ref (ad 161)), (4, vi v4)] 1172 [vl s1, vl s0] :=
  j_lcmp (okx hB) (dc9 DL_law_13 18 rfl) h fun h => (j_if_eq (okx hB) (dj9 DL_law_13 19 1178 rfl rfl) h (fun h => L_law__wj1178_23 hB hS hL h hk) (fun h =>
  j_iconst (okx hB) (dc9 DL_law_13 20 rfl) (j_lwr (okx hB) hL (dc9 DL_law_13 21 rfl) (have z := lf9 h hk; z))))
def L_law__j1277_23 (Ln : Nat) (sc : Int → Int) (v4 : Int) (x : XS) : Option ((Int × XS) ⊕ ((XS) ⊕ (Int × XS))) :=
  some (.inl (v4 + 8, x))
theorem L_law__wj1277_23 {B : BT} {b Ln : Nat} {xs9 : Nat → Int32} (hB : OkB B code RL 7 ret 746 19016) (hS : ScB B b Ln xs9) (hL : LwB B b) {ad : Nat → Nat} {v4 : Int} {x : XS} {y : (Int × XS) ⊕ ((XS) ⊕ (Int × XS))} (h : L_law__j1277_23 Ln (scI xs9) v4 x = some y) (hk : S3 (L_law_T23 B b Ln) (L_law_F23 B b Ln) FW y) : J (KX B 0 0 ad x) 7 x.1 [(0, .ref b), (1, .ref (ad 1)), (2, .ref (ad 113)), (3, .ref (ad 161)), (4, vi v4)] 1277 [] :=
  j_goto (okx hB) (dj9 DL_law_14 40 2026 rfl rfl) (j_iinc (okx hB) (dc9 DL_law_24 32 rfl) 4 rfl (Nat.le_of_ble_eq_true rfl) rfl (j_goto (okx hB) (dj9 DL_law_24 33 23 rfl rfl) (j_sub [1, 2, 3, 4, 0] rfl ((have z := lf9 h hk; z _)))))
def L_law__j1271_23 (Ln : Nat) (sc : Int → Int) (v4 s0 s1 : Int) (x : XS) : Option ((Int × XS) ⊕ ((XS) ⊕ (Int × XS))) :=
  gd (inR64 s0 ∧ inR64 s1) <|
  gd (inR (lcmp9 s0 s1)) <|
  if (lcmp9 s0 s1) = 0 then (L_law__j1277_23 Ln sc v4 x) else
  some (.inr (.inr ((0, x))))
theorem L_law__wj1271_23 {B : BT} {b Ln : Nat} {xs9 : Nat → Int32} (hB : OkB B code RL 7 ret 746 19016) (hS : ScB B b Ln xs9) (hL : LwB B b) {ad : Nat → Nat} {v4 s0 s1 : Int} {x : XS} {y : (Int × XS) ⊕ ((XS) ⊕ (Int × XS))} (h : L_law__j1271_23 Ln (scI xs9) v4 s0 s1 x = some y) (hk : S3 (L_law_T23 B b Ln) (L_law_F23 B b Ln) FW y) : J (KX B 0 0 ad x) 7 x.1 [(0, .ref b), (1, .ref (ad 1)), (2, .ref (ad 113)), (3, .ref (ad 161)), (4, vi v4)] 1271 [vl s1, vl s0] :=
  j_lcmp (okx hB) (dc9 DL_law_14 36 rfl) h fun h => (j_if_eq (okx hB) (dj9 DL_law_14 37 1277 rfl rfl) h (fun h => L_law__wj1277_23 hB hS hL h hk) (fun h =>
  j_iconst (okx hB) (dc9 DL_law_14 38 rfl) (j_lwr (okx hB) hL (dc9 DL_law_14 39 rfl) (have z := lf9 h hk; z))))
def L_law__j1352_23 (Ln : Nat) (sc : Int → Int) (v4 : Int) (x : XS) : Option ((Int × XS) ⊕ ((XS) ⊕ (Int × XS))) :=
  some (.inl (v4 + 8, x))
theorem L_law__wj1352_23 {B : BT} {b Ln : Nat} {xs9 : Nat → Int32} (hB : OkB B code RL 7 ret 746 19016) (hS : ScB B b Ln xs9) (hL : LwB B b) {ad : Nat → Nat} {v4 : Int} {x : XS} {y : (Int × XS) ⊕ ((XS) ⊕ (Int × XS))} (h : L_law__j1352_23 Ln (scI xs9) v4 x = some y) (hk : S3 (L_law_T23 B b Ln) (L_law_F23 B b Ln) FW y) : J (KX B 0 0 ad x) 7 x.1 [(0, .ref b), (1, .ref (ad 1)), (2, .ref (ad 113)), (3, .ref (ad 161)), (4, vi v4)] 1352 [] :=
  j_goto (okx hB) (dj9 DL_law_15 38 2026 rfl rfl) (j_iinc (okx hB) (dc9 DL_law_24 32 rfl) 4 rfl (Nat.le_of_ble_eq_true rfl) rfl (j_goto (okx hB) (dj9 DL_law_24 33 23 rfl rfl) (j_sub [1, 2, 3, 4, 0] rfl ((have z := lf9 h hk; z _)))))
def L_law__j1346_23 (Ln : Nat) (sc : Int → Int) (v4 s0 s1 : Int) (x : XS) : Option ((Int × XS) ⊕ ((XS) ⊕ (Int × XS))) :=
  gd (inR64 s0 ∧ inR64 s1) <|
  gd (inR (lcmp9 s0 s1)) <|
  if (lcmp9 s0 s1) = 0 then (L_law__j1352_23 Ln sc v4 x) else
  some (.inr (.inr ((0, x))))
theorem L_law__wj1346_23 {B : BT} {b Ln : Nat} {xs9 : Nat → Int32} (hB : OkB B code RL 7 ret 746 19016) (hS : ScB B b Ln xs9) (hL : LwB B b) {ad : Nat → Nat} {v4 s0 s1 : Int} {x : XS} {y : (Int × XS) ⊕ ((XS) ⊕ (Int × XS))} (h : L_law__j1346_23 Ln (scI xs9) v4 s0 s1 x = some y) (hk : S3 (L_law_T23 B b Ln) (L_law_F23 B b Ln) FW y) : J (KX B 0 0 ad x) 7 x.1 [(0, .ref b), (1, .ref (ad 1)), (2, .ref (ad 113)), (3, .ref (ad 161)), (4, vi v4)] 1346 [vl s1, vl s0] :=
  j_lcmp (okx hB) (dc9 DL_law_15 34 rfl) h fun h => (j_if_eq (okx hB) (dj9 DL_law_15 35 1352 rfl rfl) h (fun h => L_law__wj1352_23 hB hS hL h hk) (fun h =>
  j_iconst (okx hB) (dc9 DL_law_15 36 rfl) (j_lwr (okx hB) hL (dc9 DL_law_15 37 rfl) (have z := lf9 h hk; z))))
def L_law__j1484_23 (Ln : Nat) (sc : Int → Int) (v4 : Int) (x : XS) : Option ((Int × XS) ⊕ ((XS) ⊕ (Int × XS))) :=
  some (.inl (v4 + 8, x))
theorem L_law__wj1484_23 {B : BT} {b Ln : Nat} {xs9 : Nat → Int32} (hB : OkB B code RL 7 ret 746 19016) (hS : ScB B b Ln xs9) (hL : LwB B b) {ad : Nat → Nat} {v4 : Int} {x : XS} {y : (Int × XS) ⊕ ((XS) ⊕ (Int × XS))} (h : L_law__j1484_23 Ln (scI xs9) v4 x = some y) (hk : S3 (L_law_T23 B b Ln) (L_law_F23 B b Ln) FW y) : J (KX B 0 0 ad x) 7 x.1 [(0, .ref b), (1, .ref (ad 1)), (2, .ref (ad 113)), (3, .ref (ad 161)), (4, vi v4)] 1484 [] :=
  j_goto (okx hB) (dj9 DL_law_17 33 2026 rfl rfl) (j_iinc (okx hB) (dc9 DL_law_24 32 rfl) 4 rfl (Nat.le_of_ble_eq_true rfl) rfl (j_goto (okx hB) (dj9 DL_law_24 33 23 rfl rfl) (j_sub [1, 2, 3, 4, 0] rfl ((have z := lf9 h hk; z _)))))
def L_law__j1540_23 (Ln : Nat) (sc : Int → Int) (v4 : Int) (x : XS) : Option ((Int × XS) ⊕ ((XS) ⊕ (Int × XS))) :=
  some (.inl (v4 + 8, x))
theorem L_law__wj1540_23 {B : BT} {b Ln : Nat} {xs9 : Nat → Int32} (hB : OkB B code RL 7 ret 746 19016) (hS : ScB B b Ln xs9) (hL : LwB B b) {ad : Nat → Nat} {v4 : Int} {x : XS} {y : (Int × XS) ⊕ ((XS) ⊕ (Int × XS))} (h : L_law__j1540_23 Ln (scI xs9) v4 x = some y) (hk : S3 (L_law_T23 B b Ln) (L_law_F23 B b Ln) FW y) : J (KX B 0 0 ad x) 7 x.1 [(0, .ref b), (1, .ref (ad 1)), (2, .ref (ad 113)), (3, .ref (ad 161)), (4, vi v4)] 1540 [] :=
  j_goto (okx hB) (dj9 DL_law_18 18 2026 rfl rfl) (j_iinc (okx hB) (dc9 DL_law_24 32 rfl) 4 rfl (Nat.le_of_ble_eq_true rfl) rfl (j_goto (okx hB) (dj9 DL_law_24 33 23 rfl rfl) (j_sub [1, 2, 3, 4, 0] rfl ((have z := lf9 h hk; z _)))))
def L_law__j1596_23 (Ln : Nat) (sc : Int → Int) (v4 : Int) (x : XS) : Option ((Int × XS) ⊕ ((XS) ⊕ (Int × XS))) :=
  some (.inl (v4 + 8, x))
theorem L_law__wj1596_23 {B : BT} {b Ln : Nat} {xs9 : Nat → Int32} (hB : OkB B code RL 7 ret 746 19016) (hS : ScB B b Ln xs9) (hL : LwB B b) {ad : Nat → Nat} {v4 : Int} {x : XS} {y : (Int × XS) ⊕ ((XS) ⊕ (Int × XS))} (h : L_law__j1596_23 Ln (scI xs9) v4 x = some y) (hk : S3 (L_law_T23 B b Ln) (L_law_F23 B b Ln) FW y) : J (KX B 0 0 ad x) 7 x.1 [(0, .ref b), (1, .ref (ad 1)), (2, .ref (ad 113)), (3, .ref (ad 161)), (4, vi v4)] 1596 [] :=
  j_goto (okx hB) (dj9 DL_law_19 3 2026 rfl rfl) (j_iinc (okx hB) (dc9 DL_law_24 32 rfl) 4 rfl (Nat.le_of_ble_eq_true rfl) rfl (j_goto (okx hB) (dj9 DL_law_24 33 23 rfl rfl) (j_sub [1, 2, 3, 4, 0] rfl ((have z := lf9 h hk; z _)))))
def L_law__j1652_23 (Ln : Nat) (sc : Int → Int) (v4 : Int) (x : XS) : Option ((Int × XS) ⊕ ((XS) ⊕ (Int × XS))) :=
  some (.inl (v4 + 8, x))
theorem L_law__wj1652_23 {B : BT} {b Ln : Nat} {xs9 : Nat → Int32} (hB : OkB B code RL 7 ret 746 19016) (hS : ScB B b Ln xs9) (hL : LwB B b) {ad : Nat → Nat} {v4 : Int} {x : XS} {y : (Int × XS) ⊕ ((XS) ⊕ (Int × XS))} (h : L_law__j1652_23 Ln (scI xs9) v4 x = some y) (hk : S3 (L_law_T23 B b Ln) (L_law_F23 B b Ln) FW y) : J (KX B 0 0 ad x) 7 x.1 [(0, .ref b), (1, .ref (ad 1)), (2, .ref (ad 113)), (3, .ref (ad 161)), (4, vi v4)] 1652 [] :=
  j_goto (okx hB) (dj9 DL_law_19 38 2026 rfl rfl) (j_iinc (okx hB) (dc9 DL_law_24 32 rfl) 4 rfl (Nat.le_of_ble_eq_true rfl) rfl (j_goto (okx hB) (dj9 DL_law_24 33 23 rfl rfl) (j_sub [1, 2, 3, 4, 0] rfl ((have z := lf9 h hk; z _)))))
def L_law__j1732_23 (Ln : Nat) (sc : Int → Int) (v4 : Int) (x : XS) : Option ((Int × XS) ⊕ ((XS) ⊕ (Int × XS))) :=
  some (.inl (v4 + 8, x))
theorem L_law__wj1732_23 {B : BT} {b Ln : Nat} {xs9 : Nat → Int32} (hB : OkB B code RL 7 ret 746 19016) (hS : ScB B b Ln xs9) (hL : LwB B b) {ad : Nat → Nat} {v4 : Int} {x : XS} {y : (Int × XS) ⊕ ((XS) ⊕ (Int × XS))} (h : L_law__j1732_23 Ln (scI xs9) v4 x = some y) (hk : S3 (L_law_T23 B b Ln) (L_law_F23 B b Ln) FW y) : J (KX B 0 0 ad x) 7 x.1 [(0, .ref b), (1, .ref (ad 1)), (2, .ref (ad 113)), (3, .ref (ad 161)), (4, vi v4)] 1732 [] :=
  j_goto (okx hB) (dj9 DL_law_20 43 2026 rfl rfl) (j_iinc (okx hB) (dc9 DL_law_24 32 rfl) 4 rfl (Nat.le_of_ble_eq_true rfl) rfl (j_goto (okx hB) (dj9 DL_law_24 33 23 rfl rfl) (j_sub [1, 2, 3, 4, 0] rfl ((have z := lf9 h hk; z _)))))
def L_law__j1788_23 (Ln : Nat) (sc : Int → Int) (v4 : Int) (x : XS) : Option ((Int × XS) ⊕ ((XS) ⊕ (Int × XS))) :=
  some (.inl (v4 + 8, x))
theorem L_law__wj1788_23 {B : BT} {b Ln : Nat} {xs9 : Nat → Int32} (hB : OkB B code RL 7 ret 746 19016) (hS : ScB B b Ln xs9) (hL : LwB B b) {ad : Nat → Nat} {v4 : Int} {x : XS} {y : (Int × XS) ⊕ ((XS) ⊕ (Int × XS))} (h : L_law__j1788_23 Ln (scI xs9) v4 x = some y) (hk : S3 (L_law_T23 B b Ln) (L_law_F23 B b Ln) FW y) : J (KX B 0 0 ad x) 7 x.1 [(0, .ref b), (1, .ref (ad 1)), (2, .ref (ad 113)), (3, .ref (ad 161)), (4, vi v4)] 1788 [] :=
  j_goto (okx hB) (dj9 DL_law_21 28 2026 rfl rfl) (j_iinc (okx hB) (dc9 DL_law_24 32 rfl) 4 rfl (Nat.le_of_ble_eq_true rfl) rfl (j_goto (okx hB) (dj9 DL_law_24 33 23 rfl rfl) (j_sub [1, 2, 3, 4, 0] rfl ((have z := lf9 h hk; z _)))))
def L_law__j1868_23 (Ln : Nat) (sc : Int → Int) (v4 : Int) (x : XS) : Option ((Int × XS) ⊕ ((XS) ⊕ (Int × XS))) :=
  some (.inl (v4 + 8, x))
theorem L_law__wj1868_23 {B : BT} {b Ln : Nat} {xs9 : Nat → Int32} (hB : OkB B code RL 7 ret 746 19016) (hS : ScB B b Ln xs9) (hL : LwB B b) {ad : Nat → Nat} {v4 : Int} {x : XS} {y : (Int × XS) ⊕ ((XS) ⊕ (Int × XS))} (h : L_law__j1868_23 Ln (scI xs9) v4 x = some y) (hk : S3 (L_law_T23 B b Ln) (L_law_F23 B b Ln) FW y) : J (KX B 0 0 ad x) 7 x.1 [(0, .ref b), (1, .ref (ad 1)), (2, .ref (ad 113)), (3, .ref (ad 161)), (4, vi v4)] 1868 [] :=
  j_goto (okx hB) (dj9 DL_law_22 33 2026 rfl rfl) (j_iinc (okx hB) (dc9 DL_law_24 32 rfl) 4 rfl (Nat.le_of_ble_eq_true rfl) rfl (j_goto (okx hB) (dj9 DL_law_24 33 23 rfl rfl) (j_sub [1, 2, 3, 4, 0] rfl ((have z := lf9 h hk; z _)))))
def L_law__j1973_23 (Ln : Nat) (sc : Int → Int) (v4 : Int) (x : XS) : Option ((Int × XS) ⊕ ((XS) ⊕ (Int × XS))) :=
  some (.inl (v4 + 8, x))
theorem L_law__wj1973_23 {B : BT} {b Ln : Nat} {xs9 : Nat → Int32} (hB : OkB B code RL 7 ret 746 19016) (hS : ScB B b Ln xs9) (hL : LwB B b) {ad : Nat → Nat} {v4 : Int} {x : XS} {y : (Int × XS) ⊕ ((XS) ⊕ (Int × XS))} (h : L_law__j1973_23 Ln (scI xs9) v4 x = some y) (hk : S3 (L_law_T23 B b Ln) (L_law_F23 B b Ln) FW y) : J (KX B 0 0 ad x) 7 x.1 [(0, .ref b), (1, .ref (ad 1)), (2, .ref (ad 113)), (3, .ref (ad 161)), (4, vi v4)] 1973 [] :=
  j_goto (okx hB) (dj9 DL_law_24 5 2026 rfl rfl) (j_iinc (okx hB) (dc9 DL_law_24 32 rfl) 4 rfl (Nat.le_of_ble_eq_true rfl) rfl (j_goto (okx hB) (dj9 DL_law_24 33 23 rfl rfl) (j_sub [1, 2, 3, 4, 0] rfl ((have z := lf9 h hk; z _)))))
def L_law__b23 (Ln : Nat) (sc : Int → Int) (v4 : Int) (x : XS) : Option ((Int × XS) ⊕ ((XS) ⊕ (Int × XS))) :=
  gd (inR v4 ∧ inR ((Ln : Int) - 8)) <|
  if ((Ln : Int) - 8) < v4 then (some (.inr (.inl x))) else
  gd (ix v4 Ln) <|
  gd (inR (iand9 (sc v4) 31)) <|
  if (iand9 (sc v4) 31) = 0 then (gd (ix (v4 + 1) Ln) <|
  gd (ix (v4 + 2) Ln) <|
  gd (ix (v4 + 3) Ln) <|
  gd (ix (v4 + 4) Ln) <|
  gd (ix (v4 + 5) Ln) <|
  bd (X11_feed 1 (sc (v4 + 1)) (sc (v4 + 2)) (sc (v4 + 3)) (sc (v4 + 4)) (sc (v4 + 5)) x.1) fun x2 d1 =>
  lt9 (xD x d1) fun x3 =>
  gd (ix (v4 + 1) Ln) <|
  gd (ix (v4 + 2) Ln) <|
  gd (ix (v4 + 3) Ln) <|
  gd (ix (v4 + 4) Ln) <|
  gd (ix (v4 + 5) Ln) <|
  bd (X12_feed 113 (sc (v4 + 1)) (sc (v4 + 2)) (sc (v4 + 3)) (sc (v4 + 4)) (sc (v4 + 5)) x3.1) fun x5 d4 =>
  lt9 (xD x3 d4) fun x6 =>
  gd (inR x2 ∧ inR x5) <|
  if x2 = x5 then (some (.inl (v4 + 8, x6))) else
  some (.inr (.inr ((0, x6))))) else
  if (iand9 (sc v4) 31) = 1 then (gd (ix (v4 + 1) Ln) <|
  bd (L_table (sc (v4 + 1)) x) fun r7 x8 =>
  gd (xc x ≤ xc x8 ∧ xs x ≤ xs x8) <|
  gd (ix (v4 + 1) Ln) <|
  bd (X12_table 113 (sc (v4 + 1)) x8.1) fun x10 d9 =>
  lt9 (xD x8 d9) fun x11 =>
  b1 (X12_thrown 113 x11.1) fun x12 =>
  gd (inR x12 ∧ inR r7) <|
  if x12 = r7 then (gd (inR r7) <|
  if r7 = 0 then (gd (ix 0 1) <|
  gd (inR x10) <|
  gd (inR64 (x11.1.2 161 (Int.toNat 0)) ∧ inR64 x10) <|
  gd (inR (lcmp9 (x11.1.2 161 (Int.toNat 0)) x10)) <|
  if (lcmp9 (x11.1.2 161 (Int.toNat 0)) x10) = 0 then (L_law__j310_23 Ln sc v4 x11) else
  some (.inr (.inr ((0, x11))))) else
  L_law__j310_23 Ln sc v4 x11) else
  some (.inr (.inr ((0, x11))))) else
  if (iand9 (sc v4) 31) = 2 then (b1 (X11_fault 1 x.1) fun x13 =>
  bd (X12_fault 113 x.1) fun x15 d14 =>
  lt9 (xD x d14) fun x16 =>
  gd (inR x13 ∧ inR x15) <|
  if x13 = x15 then (some (.inl (v4 + 8, x16))) else
  some (.inr (.inr ((0, x16))))) else
  if (iand9 (sc v4) 31) = 3 then (gd (ix (v4 + 1) Ln) <|
  gd (ix (v4 + 2) Ln) <|
  gd (ix (v4 + 3) Ln) <|
  bd (L_make (sc (v4 + 1)) (sc (v4 + 2)) (sc (v4 + 3)) x) fun r17 x18 =>
  gd (xc x ≤ xc x18 ∧ xs x ≤ xs x18) <|
  gd (ix (v4 + 1) Ln) <|
  gd (ix (v4 + 2) Ln) <|
  gd (ix (v4 + 3) Ln) <|
  bd (X12_make 113 (sc (v4 + 1)) (sc (v4 + 2)) (sc (v4 + 3)) x18.1) fun x20 d19 =>
  lt9 (xD x18 d19) fun x21 =>
  b1 (X12_thrown 113 x21.1) fun x22 =>
  gd (inR x22 ∧ inR r17) <|
  if x22 = r17 then (gd (inR r17) <|
  if r17 = 0 then (gd (ix 0 1) <|
  gd (inR x20) <|
  gd (inR64 (x21.1.2 161 (Int.toNat 0)) ∧ inR64 x20) <|
  gd (inR (lcmp9 (x21.1.2 161 (Int.toNat 0)) x20)) <|
  if (lcmp9 (x21.1.2 161 (Int.toNat 0)) x20) = 0 then (L_law__j403_23 Ln sc v4 x21) else
  some (.inr (.inr ((0, x21))))) else
  L_law__j403_23 Ln sc v4 x21) else
  some (.inr (.inr ((0, x21))))) else
  if (iand9 (sc v4) 31) = 4 then (bd (X11_keep 1 x.1) fun _ d23 =>
  lt9 (xD x d23) fun x24 =>
  bd (X12_keep 113 x24.1) fun _ d25 =>
  lt9 (xD x24 d25) fun x26 =>
  some (.inl (v4 + 8, x26))) else
  if (iand9 (sc v4) 31) = 5 then (bd (X11_product 1 x.1) fun x28 d27 =>
  lt9 (xD x d27) fun x29 =>
  bd (X12_product 113 x29.1) fun x31 d30 =>
  lt9 (xD x29 d30) fun x32 =>
  gd (inR x28 ∧ inR x31) <|
  if x28 = x31 then (some (.inl (v4 + 8, x32))) else
  some (.inr (.inr ((0, x32))))) else
  if (iand9 (sc v4) 31) = 6 then (gd (ix (v4 + 1) Ln) <|
  bd (L_count (sc (v4 + 1)) x) fun r33 x34 =>
  gd (xc x ≤ xc x34 ∧ xs x ≤ xs x34) <|
  gd (ix (v4 + 1) Ln) <|
  bd (X12_count 113 (sc (v4 + 1)) x34.1) fun x36 d35 =>
  lt9 (xD x34 d35) fun x37 =>
  b1 (X12_thrown 113 x37.1) fun x38 =>
  gd (inR x38 ∧ inR r33) <|
  if x38 = r33 then (gd (inR r33) <|
  if r33 = 0 then (gd (ix 0 1) <|
  gd (inR x36) <|
  gd (inR64 (x37.1.2 161 (Int.toNat 0)) ∧ inR64 x36) <|
  gd (inR (lcmp9 (x37.1.2 161 (Int.toNat 0)) x36)) <|
  if (lcmp9 (x37.1.2 161 (Int.toNat 0)) x36) = 0 then (L_law__j483_23 Ln sc v4 x37) else
  some (.inr (.inr ((0, x37))))) else
  L_law__j483_23 Ln sc v4 x37) else
  some (.inr (.inr ((0, x37))))) else
  if (iand9 (sc v4) 31) = 7 then (gd (ix (v4 + 1) Ln) <|
  gd (ix (v4 + 2) Ln) <|
  gd (ix (v4 + 3) Ln) <|
  bd (L_fuses (sc (v4 + 1)) (sc (v4 + 2)) (sc (v4 + 3)) x) fun r39 x40 =>
  gd (xc x ≤ xc x40 ∧ xs x ≤ xs x40) <|
  gd (ix (v4 + 1) Ln) <|
  gd (ix (v4 + 2) Ln) <|
  gd (ix (v4 + 3) Ln) <|
  bd (X12_fuses 113 (sc (v4 + 1)) (sc (v4 + 2)) (sc (v4 + 3)) x40.1) fun x42 d41 =>
  lt9 (xD x40 d41) fun x43 =>
  b1 (X12_thrown 113 x43.1) fun x44 =>
  gd (inR x44 ∧ inR r39) <|
  if x44 = r39 then (gd (inR r39) <|
  if r39 = 0 then (gd (ix 0 1) <|
  gd (inR x42) <|
  gd (inR64 (x43.1.2 161 (Int.toNat 0)) ∧ inR64 x42) <|
  gd (inR (lcmp9 (x43.1.2 161 (Int.toNat 0)) x42)) <|
  if (lcmp9 (x43.1.2 161 (Int.toNat 0)) x42) = 0 then (L_law__j563_23 Ln sc v4 x43) else
  some (.inr (.inr ((0, x43))))) else
  L_law__j563_23 Ln sc v4 x43) else
  some (.inr (.inr ((0, x43))))) else
  if (iand9 (sc v4) 31) = 8 then (gd (ix (v4 + 1) Ln) <|
  bd (L_law (sc (v4 + 1)) x) fun r45 x46 =>
  gd (xc x ≤ xc x46 ∧ xs x ≤ xs x46) <|
  gd (ix (v4 + 1) Ln) <|
  bd (X12_law 113 (sc (v4 + 1)) x46.1) fun x48 d47 =>
  lt9 (xD x46 d47) fun x49 =>
  b1 (X12_thrown 113 x49.1) fun x50 =>
  gd (inR x50 ∧ inR r45) <|
  if x50 = r45 then (gd (inR r45) <|
  if r45 = 0 then (gd (ix 0 1) <|
  gd (inR x48) <|
  gd (inR64 (x49.1.2 161 (Int.toNat 0)) ∧ inR64 x48) <|
  gd (inR (lcmp9 (x49.1.2 161 (Int.toNat 0)) x48)) <|
  if (lcmp9 (x49.1.2 161 (Int.toNat 0)) x48) = 0 then (L_law__j619_23 Ln sc v4 x49) else
  some (.inr (.inr ((0, x49))))) else
  L_law__j619_23 Ln sc v4 x49) else
  some (.inr (.inr ((0, x49))))) else
  if (iand9 (sc v4) 31) = 9 then (gd (ix (v4 + 1) Ln) <|
  bd (L_dual (sc (v4 + 1)) x) fun r51 x52 =>
  gd (xc x ≤ xc x52 ∧ xs x ≤ xs x52) <|
  gd (ix (v4 + 1) Ln) <|
  bd (X12_dual 113 (sc (v4 + 1)) x52.1) fun x54 d53 =>
  lt9 (xD x52 d53) fun x55 =>
  b1 (X12_thrown 113 x55.1) fun x56 =>
  gd (inR x56 ∧ inR r51) <|
  if x56 = r51 then (gd (inR r51) <|
  if r51 = 0 then (gd (ix 0 1) <|
  gd (inR x54) <|
  gd (inR64 (x55.1.2 161 (Int.toNat 0)) ∧ inR64 x54) <|
  gd (inR (lcmp9 (x55.1.2 161 (Int.toNat 0)) x54)) <|
  if (lcmp9 (x55.1.2 161 (Int.toNat 0)) x54) = 0 then (L_law__j675_23 Ln sc v4 x55) else
  some (.inr (.inr ((0, x55))))) else
  L_law__j675_23 Ln sc v4 x55) else
  some (.inr (.inr ((0, x55))))) else
  if (iand9 (sc v4) 31) = 10 then (gd (ix (v4 + 1) Ln) <|
  bd (L_size (sc (v4 + 1)) x) fun r57 x58 =>
  gd (xc x ≤ xc x58 ∧ xs x ≤ xs x58) <|
  gd (ix (v4 + 1) Ln) <|
  bd (X12_size 113 (sc (v4 + 1)) x58.1) fun x60 d59 =>
  lt9 (xD x58 d59) fun x61 =>
  b1 (X12_thrown 113 x61.1) fun x62 =>
  gd (inR x62 ∧ inR r57) <|
  if x62 = r57 then (gd (inR r57) <|
  if r57 = 0 then (gd (ix 0 1) <|
  gd (inR x60) <|
  gd (inR64 (x61.1.2 161 (Int.toNat 0)) ∧ inR64 x60) <|
  gd (inR (lcmp9 (x61.1.2 161 (Int.toNat 0)) x60)) <|
  if (lcmp9 (x61.1.2 161 (Int.toNat 0)) x60) = 0 then (L_law__j731_23 Ln sc v4 x61) else
  some (.inr (.inr ((0, x61))))) else
  L_law__j731_23 Ln sc v4 x61) else
  some (.inr (.inr ((0, x61))))) else
  if (iand9 (sc v4) 31) = 11 then (gd (ix (v4 + 1) Ln) <|
  gd (ix (v4 + 2) Ln) <|
  gd (ix (v4 + 3) Ln) <|
  bd (L_ways (sc (v4 + 1)) (sc (v4 + 2)) (sc (v4 + 3)) x) fun r63 x64 =>
  gd (xc x ≤ xc x64 ∧ xs x ≤ xs x64) <|
  gd (ix (v4 + 1) Ln) <|
  gd (ix (v4 + 2) Ln) <|
  gd (ix (v4 + 3) Ln) <|
  bd (X12_ways 113 (sc (v4 + 1)) (sc (v4 + 2)) (sc (v4 + 3)) x64.1) fun x66 d65 =>
  lt9 (xD x64 d65) fun x67 =>
  b1 (X12_thrown 113 x67.1) fun x68 =>
  gd (inR x68 ∧ inR r63) <|
  if x68 = r63 then (gd (inR r63) <|
  if r63 = 0 then (gd (ix 0 1) <|
  gd (inR x66) <|
  gd (inR64 (x67.1.2 161 (Int.toNat 0)) ∧ inR64 x66) <|
  gd (inR (lcmp9 (x67.1.2 161 (Int.toNat 0)) x66)) <|
  if (lcmp9 (x67.1.2 161 (Int.toNat 0)) x66) = 0 then (L_law__j811_23 Ln sc v4 x67) else
  some (.inr (.inr ((0, x67))))) else
  L_law__j811_23 Ln sc v4 x67) else
  some (.inr (.inr ((0, x67))))) else
  if (iand9 (sc v4) 31) = 12 then (gd (ix (v4 + 1) Ln) <|
  gd (ix (v4 + 2) Ln) <|
  bd (L_list (sc (v4 + 1)) (sc (v4 + 2)) x) fun r69 x70 =>
  gd (xc x ≤ xc x70 ∧ xs x ≤ xs x70) <|
  gd (ix (v4 + 1) Ln) <|
  gd (ix (v4 + 2) Ln) <|
  bd (X12_list 113 (sc (v4 + 1)) (sc (v4 + 2)) x70.1) fun x72 d71 =>
  lt9 (xD x70 d71) fun x73 =>
  b1 (X12_thrown 113 x73.1) fun x74 =>
  gd (inR x74 ∧ inR r69) <|
  if x74 = r69 then (gd (inR r69) <|
  if r69 = 0 then (gd (ix 0 1) <|
  gd (inR x72) <|
  gd (inR64 (x73.1.2 161 (Int.toNat 0)) ∧ inR64 x72) <|
  gd (inR (lcmp9 (x73.1.2 161 (Int.toNat 0)) x72)) <|
  if (lcmp9 (x73.1.2 161 (Int.toNat 0)) x72) = 0 then (L_law__j879_23 Ln sc v4 x73) else
  some (.inr (.inr ((0, x73))))) else
  L_law__j879_23 Ln sc v4 x73) else
  some (.inr (.inr ((0, x73))))) else
  if (iand9 (sc v4) 31) = 13 then (gd (ix (v4 + 1) Ln) <|
  bd (L_take (sc (v4 + 1)) x) fun r75 x76 =>
  gd (xc x ≤ xc x76 ∧ xs x ≤ xs x76) <|
  gd (ix (v4 + 1) Ln) <|
  bd (X12_take 113 (sc (v4 + 1)) x76.1) fun x78 d77 =>
  lt9 (xD x76 d77) fun x79 =>
  b1 (X12_thrown 113 x79.1) fun x80 =>
  gd (inR x80 ∧ inR r75) <|
  if x80 = r75 then (gd (inR r75) <|
  if r75 = 0 then (gd (ix 0 1) <|
  gd (inR x78) <|
  gd (inR64 (x79.1.2 161 (Int.toNat 0)) ∧ inR64 x78) <|
  gd (inR (lcmp9 (x79.1.2 161 (Int.toNat 0)) x78)) <|
  if (lcmp9 (x79.1.2 161 (Int.toNat 0)) x78) = 0 then (L_law__j935_23 Ln sc v4 x79) else
  some (.inr (.inr ((0, x79))))) else
  L_law__j935_23 Ln sc v4 x79) else
  some (.inr (.inr ((0, x79))))) else
  if (iand9 (sc v4) 31) = 14 then (gd (ix (v4 + 1) Ln) <|
  bd (L_field (sc (v4 + 1)) x) fun r81 x82 =>
  gd (xc x ≤ xc x82 ∧ xs x ≤ xs x82) <|
  gd (ix (v4 + 1) Ln) <|
  bd (X12_field 113 (sc (v4 + 1)) x82.1) fun _ d83 =>
  lt9 (xD x82 d83) fun x84 =>
  b1 (X12_thrown 113 x84.1) fun x85 =>
  gd (inR x85 ∧ inR r81) <|
  if x85 = r81 then (some (.inl (v4 + 8, x84))) else
  some (.inr (.inr ((0, x84))))) else
  if (iand9 (sc v4) 31) = 15 then (gd (ix (v4 + 1) Ln) <|
  gd (ix (v4 + 2) Ln) <|
  bd (L_character (sc (v4 + 1)) (sc (v4 + 2)) x) fun r86 x87 =>
  gd (xc x ≤ xc x87 ∧ xs x ≤ xs x87) <|
  gd (ix (v4 + 1) Ln) <|
  gd (ix (v4 + 2) Ln) <|
  bd (X12_character 113 (sc (v4 + 1)) (sc (v4 + 2)) x87.1) fun x89 d88 =>
  lt9 (xD x87 d88) fun x90 =>
  b1 (X12_thrown 113 x90.1) fun x91 =>
  gd (inR x91 ∧ inR r86) <|
  if x91 = r86 then (gd (inR r86) <|
  if r86 = 0 then (gd (ix 0 1) <|
  gd (inR x89) <|
  gd (inR64 (x90.1.2 161 (Int.toNat 0)) ∧ inR64 x89) <|
  gd (inR (lcmp9 (x90.1.2 161 (Int.toNat 0)) x89)) <|
  if (lcmp9 (x90.1.2 161 (Int.toNat 0)) x89) = 0 then (L_law__j1039_23 Ln sc v4 x90) else
  some (.inr (.inr ((0, x90))))) else
  L_law__j1039_23 Ln sc v4 x90) else
  some (.inr (.inr ((0, x90))))) else
  if (iand9 (sc v4) 31) = 16 then (gd (ix (v4 + 1) Ln) <|
  gd (ix (v4 + 2) Ln) <|
  gd (ix (v4 + 3) Ln) <|
  gd (ix (v4 + 4) Ln) <|
  gd (ix (v4 + 5) Ln) <|
  gd (ix (v4 + 6) Ln) <|
  gd (ix (v4 + 7) Ln) <|
  bd (L_tell (sc (v4 + 1)) (sc (v4 + 2)) (sc (v4 + 3)) (sc (v4 + 4)) (sc (v4 + 5)) (sc (v4 + 6)) (sc (v4 + 7)) x) fun r92 x93 =>
  gd (xc x ≤ xc x93 ∧ xs x ≤ xs x93) <|
  gd (ix (v4 + 1) Ln) <|
  gd (ix (v4 + 2) Ln) <|
  gd (ix (v4 + 3) Ln) <|
  gd (ix (v4 + 4) Ln) <|
  gd (ix (v4 + 5) Ln) <|
  gd (ix (v4 + 6) Ln) <|
  gd (ix (v4 + 7) Ln) <|
  bd (X12_tell 113 (sc (v4 + 1)) (sc (v4 + 2)) (sc (v4 + 3)) (sc (v4 + 4)) (sc (v4 + 5)) (sc (v4 + 6)) (sc (v4 + 7)) x93.1) fun x95 d94 =>
  lt9 (xD x93 d94) fun x96 =>
  b1 (X12_thrown 113 x96.1) fun x97 =>
  gd (inR x97 ∧ inR r92) <|
  if x97 = r92 then (gd (inR r92) <|
  if r92 = 0 then (gd (ix 0 1) <|
  gd (inR x95) <|
  if x95 = 0 then (L_law__j1172_23 Ln sc v4 (x96.1.2 161 (Int.toNat 0)) 0 x96) else
  L_law__j1172_23 Ln sc v4 (x96.1.2 161 (Int.toNat 0)) 1 x96) else
  L_law__j1178_23 Ln sc v4 x96) else
  some (.inr (.inr ((0, x96))))) else
  if (iand9 (sc v4) 31) = 17 then (gd (ix (v4 + 1) Ln) <|
  gd (ix (v4 + 2) Ln) <|
  gd (ix (v4 + 3) Ln) <|
  gd (ix (v4 + 4) Ln) <|
  bd (L_swap (sc (v4 + 1)) (sc (v4 + 2)) (sc (v4 + 3)) (sc (v4 + 4)) x) fun r98 x99 =>
  gd (xc x ≤ xc x99 ∧ xs x ≤ xs x99) <|
  gd (ix (v4 + 1) Ln) <|
  gd (ix (v4 + 2) Ln) <|
  gd (ix (v4 + 3) Ln) <|
  gd (ix (v4 + 4) Ln) <|
  bd (X12_swap 113 (sc (v4 + 1)) (sc (v4 + 2)) (sc (v4 + 3)) (sc (v4 + 4)) x99.1) fun x101 d100 =>
  lt9 (xD x99 d100) fun x102 =>
  b1 (X12_thrown 113 x102.1) fun x103 =>
  gd (inR x103 ∧ inR r98) <|
  if x103 = r98 then (gd (inR r98) <|
  if r98 = 0 then (gd (ix 0 1) <|
  gd (inR x101) <|
  if x101 = 0 then (L_law__j1271_23 Ln sc v4 (x102.1.2 161 (Int.toNat 0)) 0 x102) else
  L_law__j1271_23 Ln sc v4 (x102.1.2 161 (Int.toNat 0)) 1 x102) else
  L_law__j1277_23 Ln sc v4 x102) else
  some (.inr (.inr ((0, x102))))) else
  if (iand9 (sc v4) 31) = 18 then (gd (ix (v4 + 1) Ln) <|
  gd (ix (v4 + 2) Ln) <|
  bd (L_twist (sc (v4 + 1)) (sc (v4 + 2)) x) fun r104 x105 =>
  gd (xc x ≤ xc x105 ∧ xs x ≤ xs x105) <|
  gd (ix (v4 + 1) Ln) <|
  gd (ix (v4 + 2) Ln) <|
  bd (X12_twist 113 (sc (v4 + 1)) (sc (v4 + 2)) x105.1) fun x107 d106 =>
  lt9 (xD x105 d106) fun x108 =>
  b1 (X12_thrown 113 x108.1) fun x109 =>
  gd (inR x109 ∧ inR r104) <|
  if x109 = r104 then (gd (inR r104) <|
  if r104 = 0 then (gd (ix 0 1) <|
  gd (inR x107) <|
  if x107 = 0 then (L_law__j1346_23 Ln sc v4 (x108.1.2 161 (Int.toNat 0)) 0 x108) else
  L_law__j1346_23 Ln sc v4 (x108.1.2 161 (Int.toNat 0)) 1 x108) else
  L_law__j1352_23 Ln sc v4 x108) else
  some (.inr (.inr ((0, x108))))) else
  if (iand9 (sc v4) 31) = 19 then (gd (ix (v4 + 1) Ln) <|
  gd (ix (v4 + 2) Ln) <|
  gd (ix (v4 + 3) Ln) <|
  gd (ix (v4 + 4) Ln) <|
  gd (ix (v4 + 5) Ln) <|
  gd (ix (v4 + 6) Ln) <|
  gd (ix (v4 + 7) Ln) <|
  bd (L_told (sc (v4 + 1)) (sc (v4 + 2)) (sc (v4 + 3)) (sc (v4 + 4)) (sc (v4 + 5)) (sc (v4 + 6)) (sc (v4 + 7)) x) fun r110 x111 =>
  gd (xc x ≤ xc x111 ∧ xs x ≤ xs x111) <|
  gd (ix (v4 + 1) Ln) <|
  gd (ix (v4 + 2) Ln) <|
  gd (ix (v4 + 3) Ln) <|
  gd (ix (v4 + 4) Ln) <|
  gd (ix (v4 + 5) Ln) <|
  gd (ix (v4 + 6) Ln) <|
  gd (ix (v4 + 7) Ln) <|
  bd (X12_told 113 (sc (v4 + 1)) (sc (v4 + 2)) (sc (v4 + 3)) (sc (v4 + 4)) (sc (v4 + 5)) (sc (v4 + 6)) (sc (v4 + 7)) x111.1) fun x113 d112 =>
  lt9 (xD x111 d112) fun x114 =>
  b1 (X12_thrown 113 x114.1) fun x115 =>
  gd (inR x115 ∧ inR r110) <|
  if x115 = r110 then (gd (inR r110) <|
  if r110 = 0 then (gd (ix 0 1) <|
  gd (inR x113) <|
  gd (inR64 (x114.1.2 161 (Int.toNat 0)) ∧ inR64 x113) <|
  gd (inR (lcmp9 (x114.1.2 161 (Int.toNat 0)) x113)) <|
  if (lcmp9 (x114.1.2 161 (Int.toNat 0)) x113) = 0 then (L_law__j1484_23 Ln sc v4 x114) else
  some (.inr (.inr ((0, x114))))) else
  L_law__j1484_23 Ln sc v4 x114) else
  some (.inr (.inr ((0, x114))))) else
  if (iand9 (sc v4) 31) = 20 then (gd (ix (v4 + 1) Ln) <|
  bd (L_check (sc (v4 + 1)) x) fun r116 x117 =>
  gd (xc x ≤ xc x117 ∧ xs x ≤ xs x117) <|
  gd (ix (v4 + 1) Ln) <|
  bd (X12_check 113 (sc (v4 + 1)) x117.1) fun x119 d118 =>
  lt9 (xD x117 d118) fun x120 =>
  b1 (X12_thrown 113 x120.1) fun x121 =>
  gd (inR x121 ∧ inR r116) <|
  if x121 = r116 then (gd (inR r116) <|
  if r116 = 0 then (gd (ix 0 1) <|
  gd (inR x119) <|
  gd (inR64 (x120.1.2 161 (Int.toNat 0)) ∧ inR64 x119) <|
  gd (inR (lcmp9 (x120.1.2 161 (Int.toNat 0)) x119)) <|
  if (lcmp9 (x120.1.2 161 (Int.toNat 0)) x119) = 0 then (L_law__j1540_23 Ln sc v4 x120) else
  some (.inr (.inr ((0, x120))))) else
  L_law__j1540_23 Ln sc v4 x120) else
  some (.inr (.inr ((0, x120))))) else
  if (iand9 (sc v4) 31) = 21 then (gd (ix (v4 + 1) Ln) <|
  bd (L_broken (sc (v4 + 1)) x) fun r122 x123 =>
  gd (xc x ≤ xc x123 ∧ xs x ≤ xs x123) <|
  gd (ix (v4 + 1) Ln) <|
  bd (X12_broken 113 (sc (v4 + 1)) x123.1) fun x125 d124 =>
  lt9 (xD x123 d124) fun x126 =>
  b1 (X12_thrown 113 x126.1) fun x127 =>
  gd (inR x127 ∧ inR r122) <|
  if x127 = r122 then (gd (inR r122) <|
  if r122 = 0 then (gd (ix 0 1) <|
  gd (inR x125) <|
  gd (inR64 (x126.1.2 161 (Int.toNat 0)) ∧ inR64 x125) <|
  gd (inR (lcmp9 (x126.1.2 161 (Int.toNat 0)) x125)) <|
  if (lcmp9 (x126.1.2 161 (Int.toNat 0)) x125) = 0 then (L_law__j1596_23 Ln sc v4 x126) else
  some (.inr (.inr ((0, x126))))) else
  L_law__j1596_23 Ln sc v4 x126) else
  some (.inr (.inr ((0, x126))))) else
  if (iand9 (sc v4) 31) = 22 then (gd (ix (v4 + 1) Ln) <|
  bd (L_solve (sc (v4 + 1)) x) fun r128 x129 =>
  gd (xc x ≤ xc x129 ∧ xs x ≤ xs x129) <|
  gd (ix (v4 + 1) Ln) <|
  bd (X12_solve 113 (sc (v4 + 1)) x129.1) fun x131 d130 =>
  lt9 (xD x129 d130) fun x132 =>
  b1 (X12_thrown 113 x132.1) fun x133 =>
  gd (inR x133 ∧ inR r128) <|
  if x133 = r128 then (gd (inR r128) <|
  if r128 = 0 then (gd (ix 0 1) <|
  gd (inR x131) <|
  gd (inR64 (x132.1.2 161 (Int.toNat 0)) ∧ inR64 x131) <|
  gd (inR (lcmp9 (x132.1.2 161 (Int.toNat 0)) x131)) <|
  if (lcmp9 (x132.1.2 161 (Int.toNat 0)) x131) = 0 then (L_law__j1652_23 Ln sc v4 x132) else
  some (.inr (.inr ((0, x132))))) else
  L_law__j1652_23 Ln sc v4 x132) else
  some (.inr (.inr ((0, x132))))) else
  if (iand9 (sc v4) 31) = 23 then (gd (ix (v4 + 1) Ln) <|
  gd (ix (v4 + 2) Ln) <|
  gd (ix (v4 + 3) Ln) <|
  bd (L_s (sc (v4 + 1)) (sc (v4 + 2)) (sc (v4 + 3)) x) fun r134 x135 =>
  gd (xc x ≤ xc x135 ∧ xs x ≤ xs x135) <|
  gd (ix (v4 + 1) Ln) <|
  gd (ix (v4 + 2) Ln) <|
  gd (ix (v4 + 3) Ln) <|
  bd (X12_s 113 (sc (v4 + 1)) (sc (v4 + 2)) (sc (v4 + 3)) x135.1) fun x137 d136 =>
  lt9 (xD x135 d136) fun x138 =>
  b1 (X12_thrown 113 x138.1) fun x139 =>
  gd (inR x139 ∧ inR r134) <|
  if x139 = r134 then (gd (inR r134) <|
  if r134 = 0 then (gd (ix 0 1) <|
  gd (inR x137) <|
  gd (inR64 (x138.1.2 161 (Int.toNat 0)) ∧ inR64 x137) <|
  gd (inR (lcmp9 (x138.1.2 161 (Int.toNat 0)) x137)) <|
  if (lcmp9 (x138.1.2 161 (Int.toNat 0)) x137) = 0 then (L_law__j1732_23 Ln sc v4 x138) else
  some (.inr (.inr ((0, x138))))) else
  L_law__j1732_23 Ln sc v4 x138) else
  some (.inr (.inr ((0, x138))))) else
  if (iand9 (sc v4) 31) = 24 then (gd (ix (v4 + 1) Ln) <|
  bd (L_holds (sc (v4 + 1)) x) fun r140 x141 =>
  gd (xc x ≤ xc x141 ∧ xs x ≤ xs x141) <|
  gd (ix (v4 + 1) Ln) <|
  bd (X12_holds 113 (sc (v4 + 1)) x141.1) fun x143 d142 =>
  lt9 (xD x141 d142) fun x144 =>
  b1 (X12_thrown 113 x144.1) fun x145 =>
  gd (inR x145 ∧ inR r140) <|
  if x145 = r140 then (gd (inR r140) <|
  if r140 = 0 then (gd (ix 0 1) <|
  gd (inR x143) <|
  gd (inR64 (x144.1.2 161 (Int.toNat 0)) ∧ inR64 x143) <|
  gd (inR (lcmp9 (x144.1.2 161 (Int.toNat 0)) x143)) <|
  if (lcmp9 (x144.1.2 161 (Int.toNat 0)) x143) = 0 then (L_law__j1788_23 Ln sc v4 x144) else
  some (.inr (.inr ((0, x144))))) else
  L_law__j1788_23 Ln sc v4 x144) else
  some (.inr (.inr ((0, x144))))) else
  if (iand9 (sc v4) 31) = 25 then (gd (ix (v4 + 1) Ln) <|
  gd (ix (v4 + 2) Ln) <|
  gd (ix (v4 + 3) Ln) <|
  bd (L_turned (sc (v4 + 1)) (sc (v4 + 2)) (sc (v4 + 3)) x) fun r146 x147 =>
  gd (xc x ≤ xc x147 ∧ xs x ≤ xs x147) <|
  gd (ix (v4 + 1) Ln) <|
  gd (ix (v4 + 2) Ln) <|
  gd (ix (v4 + 3) Ln) <|
  bd (X12_turned 113 (sc (v4 + 1)) (sc (v4 + 2)) (sc (v4 + 3)) x147.1) fun x149 d148 =>
  lt9 (xD x147 d148) fun x150 =>
  b1 (X12_thrown 113 x150.1) fun x151 =>
  gd (inR x151 ∧ inR r146) <|
  if x151 = r146 then (gd (inR r146) <|
  if r146 = 0 then (gd (ix 0 1) <|
  gd (inR x149) <|
  gd (inR64 (x150.1.2 161 (Int.toNat 0)) ∧ inR64 x149) <|
  gd (inR (lcmp9 (x150.1.2 161 (Int.toNat 0)) x149)) <|
  if (lcmp9 (x150.1.2 161 (Int.toNat 0)) x149) = 0 then (L_law__j1868_23 Ln sc v4 x150) else
  some (.inr (.inr ((0, x150))))) else
  L_law__j1868_23 Ln sc v4 x150) else
  some (.inr (.inr ((0, x150))))) else
  if (iand9 (sc v4) 31) = 26 then (gd (ix (v4 + 1) Ln) <|
  bd (X11_letter 1 (sc (v4 + 1)) x.1) fun x153 d152 =>
  lt9 (xD x d152) fun x154 =>
  gd (ix (v4 + 1) Ln) <|
  bd (X12_letter 113 (sc (v4 + 1)) x154.1) fun x156 d155 =>
  lt9 (xD x154 d155) fun x157 =>
  gd (inR x153 ∧ inR x156) <|
  if x153 = x156 then (some (.inl (v4 + 8, x157))) else
  some (.inr (.inr ((0, x157))))) else
  if (iand9 (sc v4) 31) = 27 then (gd (ix (v4 + 1) Ln) <|
  gd (ix (v4 + 2) Ln) <|
  gd (ix (v4 + 3) Ln) <|
  bd (L_braid (sc (v4 + 1)) (sc (v4 + 2)) (sc (v4 + 3)) x) fun r158 x159 =>
  gd (xc x ≤ xc x159 ∧ xs x ≤ xs x159) <|
  gd (ix (v4 + 1) Ln) <|
  gd (ix (v4 + 2) Ln) <|
  gd (ix (v4 + 3) Ln) <|
  xb x159 (X12_braid (sc (v4 + 1)) (sc (v4 + 2)) (sc (v4 + 3)) x159) (fun r160 x161 =>
  b1 (X12_thrown 113 x161.1) fun x162 =>
  gd (inR x162 ∧ inR r158) <|
  if x162 = r158 then (gd (inR r158) <|
  if r158 = 0 then (gd (ix 0 1) <|
  gd (inR r160) <|
  gd (inR64 (x161.1.2 161 (Int.toNat 0)) ∧ inR64 r160) <|
  gd (inR (lcmp9 (x161.1.2 161 (Int.toNat 0)) r160)) <|
  if (lcmp9 (x161.1.2 161 (Int.toNat 0)) r160) = 0 then (L_law__j1973_23 Ln sc v4 x161) else
  some (.inr (.inr ((0, x161))))) else
  L_law__j1973_23 Ln sc v4 x161) else
  some (.inr (.inr ((0, x161))))) (fun _ _ => none)) else
  if (iand9 (sc v4) 31) = 28 then (bd (X11_back 1 x.1) fun x164 d163 =>
  lt9 (xD x d163) fun x165 =>
  bd (X12_back 113 x165.1) fun x167 d166 =>
  lt9 (xD x165 d166) fun x168 =>
  gd (inR x164 ∧ inR x167) <|
  if x164 = x167 then (some (.inl (v4 + 8, x168))) else
  some (.inr (.inr ((0, x168))))) else
  if (iand9 (sc v4) 31) = 29 then (bd (X11_again 1 x.1) fun x170 d169 =>
  lt9 (xD x d169) fun x171 =>
  bd (X12_again 113 x171.1) fun x173 d172 =>
  lt9 (xD x171 d172) fun x174 =>
  gd (inR x170 ∧ inR x173) <|
  if x170 = x173 then (some (.inl (v4 + 8, x174))) else
  some (.inr (.inr ((0, x174))))) else
  if (iand9 (sc v4) 31) = 30 then (bd (X11_image 1 x.1) fun _ d175 =>
  lt9 (xD x d175) fun x176 =>
  bd (X12_image 113 x176.1) fun _ d177 =>
  lt9 (xD x176 d177) fun x178 =>
  some (.inl (v4 + 8, x178))) else
  if (iand9 (sc v4) 31) = 31 then (bd (X11_restore 1 x.1) fun x180 d179 =>
  lt9 (xD x d179) fun x181 =>
  bd (X12_restore 113 x181.1) fun x183 d182 =>
  lt9 (xD x181 d182) fun x184 =>
  gd (inR x180 ∧ inR x183) <|
  if x180 = x183 then (some (.inl (v4 + 8, x184))) else
  some (.inr (.inr ((0, x184))))) else
  some (.inl (v4 + 8, x))
theorem L_law__wb23 {B : BT} {b Ln : Nat} {xs9 : Nat → Int32} (hB : OkB B code RL 7 ret 746 19016) (hS : ScB B b Ln xs9) (hL : LwB B b) {ad : Nat → Nat} {v4 : Int} {x : XS} {y : (Int × XS) ⊕ ((XS) ⊕ (Int × XS))} (h : L_law__b23 Ln (scI xs9) v4 x = some y) (hk : S3 (L_law_T23 B b Ln) (L_law_F23 B b Ln) FW y) : J (KX B 0 0 ad x) 7 x.1 [(0, .ref b), (1, .ref (ad 1)), (2, .ref (ad 113)), (3, .ref (ad 161)), (4, vi v4)] 23 [] :=
  j_iload (okx hB) (dc9 DL_law_0 0 rfl) 4 rfl (j_aload_n (okx hB) (dc9 DL_law_0 1 rfl) 0 rfl rfl (j_scl (okx hB) hS (dc9 DL_law_0 2 rfl) (j_bipush (okx hB) (dc9 DL_law_0 3 rfl) (by decide) (j_isub (okx hB) (dc9 DL_law_0 4 rfl) (j_icmp_gt (okx hB) (dj9 DL_law_0 5 2032 rfl rfl) h (fun h => j_sub [] rfl ((have z := lf9 h hk; z _))) (fun h =>
  j_aload_n (okx hB) (dc9 DL_law_0 6 rfl) 0 rfl rfl (j_iload (okx hB) (dc9 DL_law_0 7 rfl) 4 rfl (j_sci (okx hB) hS (dc9 DL_law_0 8 rfl) h fun h => (j_bipush (okx hB) (dc9 DL_law_0 9 rfl) (by decide) (j_iand (okx hB) (dc9 DL_law_0 10 rfl) (gd9 h fun hr h => j_tsI (okx hB) (dc9 DL_law_0 11 rfl) (tgt := 184) (v := 0) hr h (by decide) (by decide) rfl rfl (fun h => j_aload_n (okx hB) (dc9 DL_law_0 12 rfl) 1 rfl rfl (j_aload_n (okx hB) (dc9 DL_law_0 13 rfl) 0 rfl rfl (j_iload (okx hB) (dc9 DL_law_0 14 rfl) 4 rfl (j_iconst (okx hB) (dc9 DL_law_0 15 rfl) (j_iadd (okx hB) (dc9 DL_law_0 16 rfl) (j_sci (okx hB) hS (dc9 DL_law_0 17 rfl) h fun h => (j_aload_n (okx hB) (dc9 DL_law_0 18 rfl) 0 rfl rfl (j_iload (okx hB) (dc9 DL_law_0 19 rfl) 4 rfl (j_iconst (okx hB) (dc9 DL_law_0 20 rfl) (j_iadd (okx hB) (dc9 DL_law_0 21 rfl) (j_sci (okx hB) hS (dc9 DL_law_0 22 rfl) h fun h => (j_aload_n (okx hB) (dc9 DL_law_0 23 rfl) 0 rfl rfl (j_iload (okx hB) (dc9 DL_law_0 24 rfl) 4 rfl (j_iconst (okx hB) (dc9 DL_law_0 25 rfl) (j_iadd (okx hB) (dc9 DL_law_0 26 rfl) (j_sci (okx hB) hS (dc9 DL_law_0 27 rfl) h fun h => (j_aload_n (okx hB) (dc9 DL_law_0 28 rfl) 0 rfl rfl (j_iload (okx hB) (dc9 DL_law_0 29 rfl) 4 rfl (j_iconst (okx hB) (dc9 DL_law_0 30 rfl) (j_iadd (okx hB) (dc9 DL_law_0 31 rfl) (j_sci (okx hB) hS (dc9 DL_law_0 32 rfl) h fun h => (j_aload_n (okx hB) (dc9 DL_law_0 33 rfl) 0 rfl rfl (j_iload (okx hB) (dc9 DL_law_0 34 rfl) 4 rfl (j_iconst (okx hB) (dc9 DL_law_0 35 rfl) (j_iadd (okx hB) (dc9 DL_law_0 36 rfl) (j_sci (okx hB) hS (dc9 DL_law_0 37 rfl) h fun h => (bd9 h fun x2 d1 hc h => j_cV (okx hB) (c_X11_feed (hsB hB) ((wt_1 x)) hc) clL_94 cd_X11_feed im_X11_feed se_X11_feed ((wt_1 x).1) (Nat.le_of_ble_eq_true rfl) rfl (Nat.le_of_ble_eq_true rfl) (Nat.le_of_ble_eq_true rfl) rfl (st := []) rfl (Nat.le_of_ble_eq_true rfl) (dc9 DL_law_0 38 rfl) rfl (j_xd (c0 := 0) (s0 := 0) hc0 h fun x3 _ h => (j_aload_n (okx hB) (dc9 DL_law_0 39 rfl) 2 rfl rfl (j_aload_n (okx hB) (dc9 DL_law_0 40 rfl) 0 rfl rfl (j_iload (okx hB) (dc9 DL_law_0 41 rfl) 4 rfl (j_iconst (okx hB) (dc9 DL_law_0 42 rfl) (j_iadd (okx hB) (dc9 DL_law_0 43 rfl) (j_sci (okx hB) hS (dc9 DL_law_0 44 rfl) h fun h => (j_aload_n (okx hB) (dc9 DL_law_0 45 rfl) 0 rfl rfl (j_iload (okx hB) (dc9 DL_law_0 46 rfl) 4 rfl (j_iconst (okx hB) (dc9 DL_law_0 47 rfl) (j_iadd (okx hB) (dc9 DL_law_0 48 rfl) (j_sci (okx hB) hS (dc9 DL_law_0 49 rfl) h fun h => (j_aload_n (okx hB) (dc9 DL_law_1 0 rfl) 0 rfl rfl (j_iload (okx hB) (dc9 DL_law_1 1 rfl) 4 rfl (j_iconst (okx hB) (dc9 DL_law_1 2 rfl) (j_iadd (okx hB) (dc9 DL_law_1 3 rfl) (j_sci (okx hB) hS (dc9 DL_law_1 4 rfl) h fun h => (j_aload_n (okx hB) (dc9 DL_law_1 5 rfl) 0 rfl rfl (j_iload (okx hB) (dc9 DL_law_1 6 rfl) 4 rfl (j_iconst (okx hB) (dc9 DL_law_1 7 rfl) (j_iadd (okx hB) (dc9 DL_law_1 8 rfl) (j_sci (okx hB) hS (dc9 DL_law_1 9 rfl) h fun h => (j_aload_n (okx hB) (dc9 DL_law_1 10 rfl) 0 rfl rfl (j_iload (okx hB) (dc9 DL_law_1 11 rfl) 4 rfl (j_iconst (okx hB) (dc9 DL_law_1 12 rfl) (j_iadd (okx hB) (dc9 DL_law_1 13 rfl) (j_sci (okx hB) hS (dc9 DL_law_1 14 rfl) h fun h => (bd9 h fun x5 d4 hc h => j_cV (okx hB) (c_X12_feed (hsB hB) ((wt_113 x3)) hc) clL_98 cd_X12_feed im_X12_feed se_X12_feed ((wt_113 x3).1) (Nat.le_of_ble_eq_true rfl) rfl (Nat.le_of_ble_eq_true rfl) (Nat.le_of_ble_eq_true rfl) rfl (st := [vi x2]) rfl (Nat.le_of_ble_eq_true rfl) (dc9 DL_law_1 15 rfl) rfl (j_xd (c0 := 0) (s0 := 0) hc0 h fun x6 _ h => (j_icmp_eq (okx hB) (dj9 DL_law_1 16 2026 rfl rfl) h (fun h => j_iinc (okx hB) (dc9 DL_law_24 32 rfl) 4 rfl (Nat.le_of_ble_eq_true rfl) rfl (j_goto (okx hB) (dj9 DL_law_24 33 23 rfl rfl) (j_sub [1, 2, 3, 4, 0] rfl ((have z := lf9 h hk; z _))))) (fun h =>
  j_iconst (okx hB) (dc9 DL_law_1 17 rfl) (j_lwr (okx hB) hL (dc9 DL_law_1 18 rfl) (have z := lf9 h hk; z)))))))))))))))))))))))))))))))))))))))))))))))))))))))))))) fun h0 h => j_tsI (okx hB) (dc9 DL_law_0 11 rfl) (tgt := 257) (v := 1) hr h (by decide) (by decide) rfl rfl (fun h => j_aload_n (okx hB) (dc9 DL_law_1 19 rfl) 1 rfl rfl (j_aload_n (okx hB) (dc9 DL_law_1 20 rfl) 0 rfl rfl (j_iload (okx hB) (dc9 DL_law_1 21 rfl) 4 rfl (j_iconst (okx hB) (dc9 DL_law_1 22 rfl) (j_iadd (okx hB) (dc9 DL_law_1 23 rfl) (j_sci (okx hB) hS (dc9 DL_law_1 24 rfl) h fun h => (j_aload_n (okx hB) (dc9 DL_law_1 25 rfl) 3 rfl rfl (bd9 h fun r7 x8 hc h => gd9 h fun hm h => j_lS (g' := 0) (okx hB) (c_L_table (hsB hB) hc) cwl_99 cw_L_table (Nat.le_of_ble_eq_true rfl) (Nat.le_of_ble_eq_true rfl) rfl (st := []) rfl (Nat.le_of_ble_eq_true rfl) (dc9 DL_law_1 26 rfl) hm (fun p => j_istore (okx hB) (dc9 DL_law_1 27 rfl) (Nat.le_of_ble_eq_true rfl) rfl (j_aload_n (okx hB) (dc9 DL_law_1 28 rfl) 3 rfl rfl (j_aload_n (okx hB) (dc9 DL_law_1 29 rfl) 1 rfl rfl (j_iload (okx hB) (dc9 DL_law_1 30 rfl) 5 rfl (j_iconst (okx hB) (dc9 DL_law_1 31 rfl) (j_iadd (okx hB) (dc9 DL_law_1 32 rfl) (j_sci (okx hB) hS (dc9 DL_law_1 33 rfl) h fun h => (bd9 h fun x10 d9 hc h => j_cV (okx hB) (c_X12_table (hsB hB) ((wt_113 x8)) hc) clL_104 cd_X12_table im_X12_table se_X12_table ((wt_113 x8).1) (Nat.le_of_ble_eq_true rfl) rfl (Nat.le_of_ble_eq_true rfl) (Nat.le_of_ble_eq_true rfl) rfl (st := []) rfl (Nat.le_of_ble_eq_true rfl) (dc9 DL_law_1 34 rfl) rfl (j_xd (c0 := 0) (s0 := 0) hc0 h fun x11 _ h => (j_istore (okx hB) (dc9 DL_law_1 35 rfl) (Nat.le_of_ble_eq_true rfl) rfl (j_aload_n (okx hB) (dc9 DL_law_1 36 rfl) 4 rfl rfl (b19 h fun x12 hc h => j_cV (okx hB) (c_X12_thrown (hsB hB) ((wt_113 x11)) hc) clL_105 cd_X12_thrown im_X12_thrown se_X12_thrown ((wt_113 x11).1) (Nat.le_of_ble_eq_true rfl) rfl (Nat.le_of_ble_eq_true rfl) (Nat.le_of_ble_eq_true rfl) rfl (st := []) rfl (Nat.le_of_ble_eq_true rfl) (dc9 DL_law_1 37 rfl) rfl (j_iload (okx hB) (dc9 DL_law_1 38 rfl) 1 rfl (j_icmp_eq (okx hB) (dj9 DL_law_1 39 293 rfl rfl) h (fun h => j_iload (okx hB) (dc9 DL_law_1 42 rfl) 1 rfl (j_if_ne (okx hB) (dj9 DL_law_1 43 310 rfl rfl) h (fun h => j_sub [2, 3, 4, 5, 6] rfl (L_law__wj310_23 hB hS hL h hk)) (fun h =>
  j_aload_n (okx hB) (dc9 DL_law_1 44 rfl) 5 rfl rfl (j_iconst (okx hB) (dc9 DL_law_1 45 rfl) (j_lald (okx hB) (at_161 x11) (Nat.le_of_ble_eq_true rfl) (dc9 DL_law_1 46 rfl) h fun h => (j_iload (okx hB) (dc9 DL_law_1 47 rfl) 0 rfl (j_i2l (okx hB) (dc9 DL_law_1 48 rfl) h fun h => (j_lcmp (okx hB) (dc9 DL_law_1 49 rfl) h fun h => (j_if_eq (okx hB) (dj9 DL_law_2 0 310 rfl rfl) h (fun h => j_sub [2, 3, 4, 5, 6] rfl (L_law__wj310_23 hB hS hL h hk)) (fun h =>
  j_iconst (okx hB) (dc9 DL_law_2 1 rfl) (j_lwr (okx hB) hL (dc9 DL_law_2 2 rfl) (have z := lf9 h hk; z)))))))))))) (fun h =>
  j_iconst (okx hB) (dc9 DL_law_1 40 rfl) (j_lwr (okx hB) hL (dc9 DL_law_1 41 rfl) (have z := lf9 h hk; z))))))))))))))))))))))))) fun h1 h => j_tsI (okx hB) (dc9 DL_law_0 11 rfl) (tgt := 313) (v := 2) hr h (by decide) (by decide) rfl rfl (fun h => j_aload_n (okx hB) (dc9 DL_law_2 4 rfl) 1 rfl rfl (b19 h fun x13 hc h => j_cV (okx hB) (c_X11_fault (hsB hB) ((wt_1 x)) hc) clL_109 cd_X11_fault im_X11_fault se_X11_fault ((wt_1 x).1) (Nat.le_of_ble_eq_true rfl) rfl (Nat.le_of_ble_eq_true rfl) (Nat.le_of_ble_eq_true rfl) rfl (st := []) rfl (Nat.le_of_ble_eq_true rfl) (dc9 DL_law_2 5 rfl) rfl (j_aload_n (okx hB) (dc9 DL_law_2 6 rfl) 2 rfl rfl (bd9 h fun x15 d14 hc h => j_cV (okx hB) (c_X12_fault (hsB hB) ((wt_113 x)) hc) clL_112 cd_X12_fault im_X12_fault se_X12_fault ((wt_113 x).1) (Nat.le_of_ble_eq_true rfl) rfl (Nat.le_of_ble_eq_true rfl) (Nat.le_of_ble_eq_true rfl) rfl (st := [vi x13]) rfl (Nat.le_of_ble_eq_true rfl) (dc9 DL_law_2 7 rfl) rfl (j_xd (c0 := 0) (s0 := 0) hc0 h fun x16 _ h => (j_icmp_eq (okx hB) (dj9 DL_law_2 8 2026 rfl rfl) h (fun h => j_iinc (okx hB) (dc9 DL_law_24 32 rfl) 4 rfl (Nat.le_of_ble_eq_true rfl) rfl (j_goto (okx hB) (dj9 DL_law_24 33 23 rfl rfl) (j_sub [1, 2, 3, 4, 0] rfl ((have z := lf9 h hk; z _))))) (fun h =>
  j_iconst (okx hB) (dc9 DL_law_2 9 rfl) (j_lwr (okx hB) hL (dc9 DL_law_2 10 rfl) (have z := lf9 h hk; z))))))))) fun h2 h => j_tsI (okx hB) (dc9 DL_law_0 11 rfl) (tgt := 326) (v := 3) hr h (by decide) (by decide) rfl rfl (fun h => j_aload_n (okx hB) (dc9 DL_law_2 11 rfl) 1 rfl rfl (j_aload_n (okx hB) (dc9 DL_law_2 12 rfl) 0 rfl rfl (j_iload (okx hB) (dc9 DL_law_2 13 rfl) 4 rfl (j_iconst (okx hB) (dc9 DL_law_2 14 rfl) (j_iadd (okx hB) (dc9 DL_law_2 15 rfl) (j_sci (okx hB) hS (dc9 DL_law_2 16 rfl) h fun h => (j_aload_n (okx hB) (dc9 DL_law_2 17 rfl) 0 rfl rfl (j_iload (okx hB) (dc9 DL_law_2 18 rfl) 4 rfl (j_iconst (okx hB) (dc9 DL_law_2 19 rfl) (j_iadd (okx hB) (dc9 DL_law_2 20 rfl) (j_sci (okx hB) hS (dc9 DL_law_2 21 rfl) h fun h => (j_aload_n (okx hB) (dc9 DL_law_2 22 rfl) 0 rfl rfl (j_iload (okx hB) (dc9 DL_law_2 23 rfl) 4 rfl (j_iconst (okx hB) (dc9 DL_law_2 24 rfl) (j_iadd (okx hB) (dc9 DL_law_2 25 rfl) (j_sci (okx hB) hS (dc9 DL_law_2 26 rfl) h fun h => (j_aload_n (okx hB) (dc9 DL_law_2 27 rfl) 3 rfl rfl (bd9 h fun r17 x18 hc h => gd9 h fun hm h => j_lS (g' := 0) (okx hB) (c_L_make (hsB hB) hc) cwl_113 cw_L_make (Nat.le_of_ble_eq_true rfl) (Nat.le_of_ble_eq_true rfl) rfl (st := []) rfl (Nat.le_of_ble_eq_true rfl) (dc9 DL_law_2 28 rfl) hm (fun p => j_istore (okx hB) (dc9 DL_law_2 29 rfl) (Nat.le_of_ble_eq_true rfl) rfl (j_aload_n (okx hB) (dc9 DL_law_2 30 rfl) 3 rfl rfl (j_aload_n (okx hB) (dc9 DL_law_2 31 rfl) 1 rfl rfl (j_iload (okx hB) (dc9 DL_law_2 32 rfl) 5 rfl (j_iconst (okx hB) (dc9 DL_law_2 33 rfl) (j_iadd (okx hB) (dc9 DL_law_2 34 rfl) (j_sci (okx hB) hS (dc9 DL_law_2 35 rfl) h fun h => (j_aload_n (okx hB) (dc9 DL_law_2 36 rfl) 1 rfl rfl (j_iload (okx hB) (dc9 DL_law_2 37 rfl) 5 rfl (j_iconst (okx hB) (dc9 DL_law_2 38 rfl) (j_iadd (okx hB) (dc9 DL_law_2 39 rfl) (j_sci (okx hB) hS (dc9 DL_law_2 40 rfl) h fun h => (j_aload_n (okx hB) (dc9 DL_law_2 41 rfl) 1 rfl rfl (j_iload (okx hB) (dc9 DL_law_2 42 rfl) 5 rfl (j_iconst (okx hB) (dc9 DL_law_2 43 rfl) (j_iadd (okx hB) (dc9 DL_law_2 44 rfl) (j_sci (okx hB) hS (dc9 DL_law_2 45 rfl) h fun h => (bd9 h fun x20 d19 hc h => j_cV (okx hB) (c_X12_make (hsB hB) ((wt_113 x18)) hc) clL_116 cd_X12_make im_X12_make se_X12_make ((wt_113 x18).1) (Nat.le_of_ble_eq_true rfl) rfl (Nat.le_of_ble_eq_true rfl) (Nat.le_of_ble_eq_true rfl) rfl (st := []) rfl (Nat.le_of_ble_eq_true rfl) (dc9 DL_law_2 46 rfl) rfl (j_xd (c0 := 0) (s0 := 0) hc0 h fun x21 _ h => (j_istore (okx hB) (dc9 DL_law_2 47 rfl) (Nat.le_of_ble_eq_true rfl) rfl (j_aload_n (okx hB) (dc9 DL_law_2 48 rfl) 4 rfl rfl (b19 h fun x22 hc h => j_cV (okx hB) (c_X12_thrown (hsB hB) ((wt_113 x21)) hc) clL_105 cd_X12_thrown im_X12_thrown se_X12_thrown ((wt_113 x21).1) (Nat.le_of_ble_eq_true rfl) rfl (Nat.le_of_ble_eq_true rfl) (Nat.le_of_ble_eq_true rfl) rfl (st := []) rfl (Nat.le_of_ble_eq_true rfl) (dc9 DL_law_2 49 rfl) rfl (j_iload (okx hB) (dc9 DL_law_3 0 rfl) 1 rfl (j_icmp_eq (okx hB) (dj9 DL_law_3 1 386 rfl rfl) h (fun h => j_iload (okx hB) (dc9 DL_law_3 4 rfl) 1 rfl (j_if_ne (okx hB) (dj9 DL_law_3 5 403 rfl rfl) h (fun h => j_sub [2, 3, 4, 5, 6] rfl (L_law__wj403_23 hB hS hL h hk)) (fun h =>
  j_aload_n (okx hB) (dc9 DL_law_3 6 rfl) 5 rfl rfl (j_iconst (okx hB) (dc9 DL_law_3 7 rfl) (j_lald (okx hB) (at_161 x21) (Nat.le_of_ble_eq_true rfl) (dc9 DL_law_3 8 rfl) h fun h => (j_iload (okx hB) (dc9 DL_law_3 9 rfl) 0 rfl (j_i2l (okx hB) (dc9 DL_law_3 10 rfl) h fun h => (j_lcmp (okx hB) (dc9 DL_law_3 11 rfl) h fun h => (j_if_eq (okx hB) (dj9 DL_law_3 12 403 rfl rfl) h (fun h => j_sub [2, 3, 4, 5, 6] rfl (L_law__wj403_23 hB hS hL h hk)) (fun h =>
  j_iconst (okx hB) (dc9 DL_law_3 13 rfl) (j_lwr (okx hB) hL (dc9 DL_law_3 14 rfl) (have z := lf9 h hk; z)))))))))))) (fun h =>
  j_iconst (okx hB) (dc9 DL_law_3 2 rfl) (j_lwr (okx hB) hL (dc9 DL_law_3 3 rfl) (have z := lf9 h hk; z))))))))))))))))))))))))))))))))))))))))))))) fun h3 h => j_tsI (okx hB) (dc9 DL_law_0 11 rfl) (tgt := 406) (v := 4) hr h (by decide) (by decide) rfl rfl (fun h => j_aload_n (okx hB) (dc9 DL_law_3 16 rfl) 1 rfl rfl (bd9 h fun _ d23 hc h => j_cV (okx hB) (c_X11_keep (hsB hB) ((wt_1 x)) hc) clL_117 cd_X11_keep im_X11_keep se_X11_keep ((wt_1 x).1) (Nat.le_of_ble_eq_true rfl) rfl (Nat.le_of_ble_eq_true rfl) (Nat.le_of_ble_eq_true rfl) rfl (st := []) rfl (Nat.le_of_ble_eq_true rfl) (dc9 DL_law_3 17 rfl) rfl (j_xd (c0 := 0) (s0 := 0) hc0 h fun x24 _ h => (j_aload_n (okx hB) (dc9 DL_law_3 18 rfl) 2 rfl rfl (bd9 h fun _ d25 hc h => j_cV (okx hB) (c_X12_keep (hsB hB) ((wt_113 x24)) hc) clL_120 cd_X12_keep im_X12_keep se_X12_keep ((wt_113 x24).1) (Nat.le_of_ble_eq_true rfl) rfl (Nat.le_of_ble_eq_true rfl) (Nat.le_of_ble_eq_true rfl) rfl (st := []) rfl (Nat.le_of_ble_eq_true rfl) (dc9 DL_law_3 19 rfl) rfl (j_xd (c0 := 0) (s0 := 0) hc0 h fun x26 _ h => (j_goto (okx hB) (dj9 DL_law_3 20 2026 rfl rfl) (j_iinc (okx hB) (dc9 DL_law_24 32 rfl) 4 rfl (Nat.le_of_ble_eq_true rfl) rfl (j_goto (okx hB) (dj9 DL_law_24 33 23 rfl rfl) (j_sub [1, 2, 3, 4, 0] rfl ((have z := lf9 h hk; z _)))))))))))) fun h4 h => j_tsI (okx hB) (dc9 DL_law_0 11 rfl) (tgt := 417) (v := 5) hr h (by decide) (by decide) rfl rfl (fun h => j_aload_n (okx hB) (dc9 DL_law_3 21 rfl) 1 rfl rfl (bd9 h fun x28 d27 hc h => j_cV (okx hB) (c_X11_product (hsB hB) ((wt_1 x)) hc) clL_121 cd_X11_product im_X11_product se_X11_product ((wt_1 x).1) (Nat.le_of_ble_eq_true rfl) rfl (Nat.le_of_ble_eq_true rfl) (Nat.le_of_ble_eq_true rfl) rfl (st := []) rfl (Nat.le_of_ble_eq_true rfl) (dc9 DL_law_3 22 rfl) rfl (j_xd (c0 := 0) (s0 := 0) hc0 h fun x29 _ h => (j_aload_n (okx hB) (dc9 DL_law_3 23 rfl) 2 rfl rfl (bd9 h fun x31 d30 hc h => j_cV (okx hB) (c_X12_product (hsB hB) ((wt_113 x29)) hc) clL_124 cd_X12_product im_X12_product se_X12_product ((wt_113 x29).1) (Nat.le_of_ble_eq_true rfl) rfl (Nat.le_of_ble_eq_true rfl) (Nat.le_of_ble_eq_true rfl) rfl (st := [vi x28]) rfl (Nat.le_of_ble_eq_true rfl) (dc9 DL_law_3 24 rfl) rfl (j_xd (c0 := 0) (s0 := 0) hc0 h fun x32 _ h => (j_icmp_eq (okx hB) (dj9 DL_law_3 25 2026 rfl rfl) h (fun h => j_iinc (okx hB) (dc9 DL_law_24 32 rfl) 4 rfl (Nat.le_of_ble_eq_true rfl) rfl (j_goto (okx hB) (dj9 DL_law_24 33 23 rfl rfl) (j_sub [1, 2, 3, 4, 0] rfl ((have z := lf9 h hk; z _))))) (fun h =>
  j_iconst (okx hB) (dc9 DL_law_3 26 rfl) (j_lwr (okx hB) hL (dc9 DL_law_3 27 rfl) (have z := lf9 h hk; z)))))))))) fun h5 h => j_tsI (okx hB) (dc9 DL_law_0 11 rfl) (tgt := 430) (v := 6) hr h (by decide) (by decide) rfl rfl (fun h => j_aload_n (okx hB) (dc9 DL_law_3 28 rfl) 1 rfl rfl (j_aload_n (okx hB) (dc9 DL_law_3 29 rfl) 0 rfl rfl (j_iload (okx hB) (dc9 DL_law_3 30 rfl) 4 rfl (j_iconst (okx hB) (dc9 DL_law_3 31 rfl) (j_iadd (okx hB) (dc9 DL_law_3 32 rfl) (j_sci (okx hB) hS (dc9 DL_law_3 33 rfl) h fun h => (j_aload_n (okx hB) (dc9 DL_law_3 34 rfl) 3 rfl rfl (bd9 h fun r33 x34 hc h => gd9 h fun hm h => j_lS (g' := 0) (okx hB) (c_L_count (hsB hB) hc) cwl_125 cw_L_count (Nat.le_of_ble_eq_true rfl) (Nat.le_of_ble_eq_true rfl) rfl (st := []) rfl (Nat.le_of_ble_eq_true rfl) (dc9 DL_law_3 35 rfl) hm (fun p => j_istore (okx hB) (dc9 DL_law_3 36 rfl) (Nat.le_of_ble_eq_true rfl) rfl (j_aload_n (okx hB) (dc9 DL_law_3 37 rfl) 3 rfl rfl (j_aload_n (okx hB) (dc9 DL_law_3 38 rfl) 1 rfl rfl (j_iload (okx hB) (dc9 DL_law_3 39 rfl) 5 rfl (j_iconst (okx hB) (dc9 DL_law_3 40 rfl) (j_iadd (okx hB) (dc9 DL_law_3 41 rfl) (j_sci (okx hB) hS (dc9 DL_law_3 42 rfl) h fun h => (bd9 h fun x36 d35 hc h => j_cV (okx hB) (c_X12_count (hsB hB) ((wt_113 x34)) hc) clL_127 cd_X12_count im_X12_count se_X12_count ((wt_113 x34).1) (Nat.le_of_ble_eq_true rfl) rfl (Nat.le_of_ble_eq_true rfl) (Nat.le_of_ble_eq_true rfl) rfl (st := []) rfl (Nat.le_of_ble_eq_true rfl) (dc9 DL_law_3 43 rfl) rfl (j_xd (c0 := 0) (s0 := 0) hc0 h fun x37 _ h => (j_istore (okx hB) (dc9 DL_law_3 44 rfl) (Nat.le_of_ble_eq_true rfl) rfl (j_aload_n (okx hB) (dc9 DL_law_3 45 rfl) 4 rfl rfl (b19 h fun x38 hc h => j_cV (okx hB) (c_X12_thrown (hsB hB) ((wt_113 x37)) hc) clL_105 cd_X12_thrown im_X12_thrown se_X12_thrown ((wt_113 x37).1) (Nat.le_of_ble_eq_true rfl) rfl (Nat.le_of_ble_eq_true rfl) (Nat.le_of_ble_eq_true rfl) rfl (st := []) rfl (Nat.le_of_ble_eq_true rfl) (dc9 DL_law_3 46 rfl) rfl (j_iload (okx hB) (dc9 DL_law_3 47 rfl) 1 rfl (j_icmp_eq (okx hB) (dj9 DL_law_3 48 466 rfl rfl) h (fun h => j_iload (okx hB) (dc9 DL_law_4 1 rfl) 1 rfl (j_if_ne (okx hB) (dj9 DL_law_4 2 483 rfl rfl) h (fun h => j_sub [2, 3, 4, 5, 6] rfl (L_law__wj483_23 hB hS hL h hk)) (fun h =>
  j_aload_n (okx hB) (dc9 DL_law_4 3 rfl) 5 rfl rfl (j_iconst (okx hB) (dc9 DL_law_4 4 rfl) (j_lald (okx hB) (at_161 x37) (Nat.le_of_ble_eq_true rfl) (dc9 DL_law_4 5 rfl) h fun h => (j_iload (okx hB) (dc9 DL_law_4 6 rfl) 0 rfl (j_i2l (okx hB) (dc9 DL_law_4 7 rfl) h fun h => (j_lcmp (okx hB) (dc9 DL_law_4 8 rfl) h fun h => (j_if_eq (okx hB) (dj9 DL_law_4 9 483 rfl rfl) h (fun h => j_sub [2, 3, 4, 5, 6] rfl (L_law__wj483_23 hB hS hL h hk)) (fun h =>
  j_iconst (okx hB) (dc9 DL_law_4 10 rfl) (j_lwr (okx hB) hL (dc9 DL_law_4 11 rfl) (have z := lf9 h hk; z)))))))))))) (fun h =>
  j_iconst (okx hB) (dc9 DL_law_3 49 rfl) (j_lwr (okx hB) hL (dc9 DL_law_4 0 rfl) (have z := lf9 h hk; z))))))))))))))))))))))))) fun h6 h => j_tsI (okx hB) (dc9 DL_law_0 11 rfl) (tgt := 486) (v := 7) hr h (by decide) (by decide) rfl rfl (fun h => j_aload_n (okx hB) (dc9 DL_law_4 13 rfl) 1 rfl rfl (j_aload_n (okx hB) (dc9 DL_law_4 14 rfl) 0 rfl rfl (j_iload (okx hB) (dc9 DL_law_4 15 rfl) 4 rfl (j_iconst (okx hB) (dc9 DL_law_4 16 rfl) (j_iadd (okx hB) (dc9 DL_law_4 17 rfl) (j_sci (okx hB) hS (dc9 DL_law_4 18 rfl) h fun h => (j_aload_n (okx hB) (dc9 DL_law_4 19 rfl) 0 rfl rfl (j_iload (okx hB) (dc9 DL_law_4 20 rfl) 4 rfl (j_iconst (okx hB) (dc9 DL_law_4 21 rfl) (j_iadd (okx hB) (dc9 DL_law_4 22 rfl) (j_sci (okx hB) hS (dc9 DL_law_4 23 rfl) h fun h => (j_aload_n (okx hB) (dc9 DL_law_4 24 rfl) 0 rfl rfl (j_iload (okx hB) (dc9 DL_law_4 25 rfl) 4 rfl (j_iconst (okx hB) (dc9 DL_law_4 26 rfl) (j_iadd (okx hB) (dc9 DL_law_4 27 rfl) (j_sci (okx hB) hS (dc9 DL_law_4 28 rfl) h fun h => (j_aload_n (okx hB) (dc9 DL_law_4 29 rfl) 3 rfl rfl (bd9 h fun r39 x40 hc h => gd9 h fun hm h => j_lS (g' := 0) (okx hB) (c_L_fuses (hsB hB) hc) cwl_128 cw_L_fuses (Nat.le_of_ble_eq_true rfl) (Nat.le_of_ble_eq_true rfl) rfl (st := []) rfl (Nat.le_of_ble_eq_true rfl) (dc9 DL_law_4 30 rfl) hm (fun p => j_istore (okx hB) (dc9 DL_law_4 31 rfl) (Nat.le_of_ble_eq_true rfl) rfl (j_aload_n (okx hB) (dc9 DL_law_4 32 rfl) 3 rfl rfl (j_aload_n (okx hB) (dc9 DL_law_4 33 rfl) 1 rfl rfl (j_iload (okx hB) (dc9 DL_law_4 34 rfl) 5 rfl (j_iconst (okx hB) (dc9 DL_law_4 35 rfl) (j_iadd (okx hB) (dc9 DL_law_4 36 rfl) (j_sci (okx hB) hS (dc9 DL_law_4 37 rfl) h fun h => (j_aload_n (okx hB) (dc9 DL_law_4 38 rfl) 1 rfl rfl (j_iload (okx hB) (dc9 DL_law_4 39 rfl) 5 rfl (j_iconst (okx hB) (dc9 DL_law_4 40 rfl) (j_iadd (okx hB) (dc9 DL_law_4 41 rfl) (j_sci (okx hB) hS (dc9 DL_law_4 42 rfl) h fun h => (j_aload_n (okx hB) (dc9 DL_law_4 43 rfl) 1 rfl rfl (j_iload (okx hB) (dc9 DL_law_4 44 rfl) 5 rfl (j_iconst (okx hB) (dc9 DL_law_4 45 rfl) (j_iadd (okx hB) (dc9 DL_law_4 46 rfl) (j_sci (okx hB) hS (dc9 DL_law_4 47 rfl) h fun h => (bd9 h fun x42 d41 hc h => j_cV (okx hB) (c_X12_fuses (hsB hB) ((wt_113 x40)) hc) clL_130 cd_X12_fuses im_X12_fuses se_X12_fuses ((wt_113 x40).1) (Nat.le_of_ble_eq_true rfl) rfl (Nat.le_of_ble_eq_true rfl) (Nat.le_of_ble_eq_true rfl) rfl (st := []) rfl (Nat.le_of_ble_eq_true rfl) (dc9 DL_law_4 48 rfl) rfl (j_xd (c0 := 0) (s0 := 0) hc0 h fun x43 _ h => (j_istore (okx hB) (dc9 DL_law_4 49 rfl) (Nat.le_of_ble_eq_true rfl) rfl (j_aload_n (okx hB) (dc9 DL_law_5 0 rfl) 4 rfl rfl (b19 h fun x44 hc h => j_cV (okx hB) (c_X12_thrown (hsB hB) ((wt_113 x43)) hc) clL_105 cd_X12_thrown im_X12_thrown se_X12_thrown ((wt_113 x43).1) (Nat.le_of_ble_eq_true rfl) rfl (Nat.le_of_ble_eq_true rfl) (Nat.le_of_ble_eq_true rfl) rfl (st := []) rfl (Nat.le_of_ble_eq_true rfl) (dc9 DL_law_5 1 rfl) rfl (j_iload (okx hB) (dc9 DL_law_5 2 rfl) 1 rfl (j_icmp_eq (okx hB) (dj9 DL_law_5 3 546 rfl rfl) h (fun h => j_iload (okx hB) (dc9 DL_law_5 6 rfl) 1 rfl (j_if_ne (okx hB) (dj9 DL_law_5 7 563 rfl rfl) h (fun h => j_sub [2, 3, 4, 5, 6] rfl (L_law__wj563_23 hB hS hL h hk)) (fun h =>
  j_aload_n (okx hB) (dc9 DL_law_5 8 rfl) 5 rfl rfl (j_iconst (okx hB) (dc9 DL_law_5 9 rfl) (j_lald (okx hB) (at_161 x43) (Nat.le_of_ble_eq_true rfl) (dc9 DL_law_5 10 rfl) h fun h => (j_iload (okx hB) (dc9 DL_law_5 11 rfl) 0 rfl (j_i2l (okx hB) (dc9 DL_law_5 12 rfl) h fun h => (j_lcmp (okx hB) (dc9 DL_law_5 13 rfl) h fun h => (j_if_eq (okx hB) (dj9 DL_law_5 14 563 rfl rfl) h (fun h => j_sub [2, 3, 4, 5, 6] rfl (L_law__wj563_23 hB hS hL h hk)) (fun h =>
  j_iconst (okx hB) (dc9 DL_law_5 15 rfl) (j_lwr (okx hB) hL (dc9 DL_law_5 16 rfl) (have z := lf9 h hk; z)))))))))))) (fun h =>
  j_iconst (okx hB) (dc9 DL_law_5 4 rfl) (j_lwr (okx hB) hL (dc9 DL_law_5 5 rfl) (have z := lf9 h hk; z))))))))))))))))))))))))))))))))))))))))))))) fun h7 h => j_tsI (okx hB) (dc9 DL_law_0 11 rfl) (tgt := 566) (v := 8) hr h (by decide) (by decide) rfl rfl (fun h => j_aload_n (okx hB) (dc9 DL_law_5 18 rfl) 1 rfl rfl (j_aload_n (okx hB) (dc9 DL_law_5 19 rfl) 0 rfl rfl (j_iload (okx hB) (dc9 DL_law_5 20 rfl) 4 rfl (j_iconst (okx hB) (dc9 DL_law_5 21 rfl) (j_iadd (okx hB) (dc9 DL_law_5 22 rfl) (j_sci (okx hB) hS (dc9 DL_law_5 23 rfl) h fun h => (j_aload_n (okx hB) (dc9 DL_law_5 24 rfl) 3 rfl rfl (bd9 h fun r45 x46 hc h => gd9 h fun hm h => j_lS (g' := 0) (okx hB) (c_L_law (hsB hB) hc) cwl_131 cw_L_law (Nat.le_of_ble_eq_true rfl) (Nat.le_of_ble_eq_true rfl) rfl (st := []) rfl (Nat.le_of_ble_eq_true rfl) (dc9 DL_law_5 25 rfl) hm (fun p => j_istore (okx hB) (dc9 DL_law_5 26 rfl) (Nat.le_of_ble_eq_true rfl) rfl (j_aload_n (okx hB) (dc9 DL_law_5 27 rfl) 3 rfl rfl (j_aload_n (okx hB) (dc9 DL_law_5 28 rfl) 1 rfl rfl (j_iload (okx hB) (dc9 DL_law_5 29 rfl) 5 rfl (j_iconst (okx hB) (dc9 DL_law_5 30 rfl) (j_iadd (okx hB) (dc9 DL_law_5 31 rfl) (j_sci (okx hB) hS (dc9 DL_law_5 32 rfl) h fun h => (bd9 h fun x48 d47 hc h => j_cV (okx hB) (c_X12_law (hsB hB) ((wt_113 x46)) hc) clL_133 cd_X12_law im_X12_law se_X12_law ((wt_113 x46).1) (Nat.le_of_ble_eq_true rfl) rfl (Nat.le_of_ble_eq_true rfl) (Nat.le_of_ble_eq_true rfl) rfl (st := []) rfl (Nat.le_of_ble_eq_true rfl) (dc9 DL_law_5 33 rfl) rfl (j_xd (c0 := 0) (s0 := 0) hc0 h fun x49 _ h => (j_istore (okx hB) (dc9 DL_law_5 34 rfl) (Nat.le_of_ble_eq_true rfl) rfl (j_aload_n (okx hB) (dc9 DL_law_5 35 rfl) 4 rfl rfl (b19 h fun x50 hc h => j_cV (okx hB) (c_X12_thrown (hsB hB) ((wt_113 x49)) hc) clL_105 cd_X12_thrown im_X12_thrown se_X12_thrown ((wt_113 x49).1) (Nat.le_of_ble_eq_true rfl) rfl (Nat.le_of_ble_eq_true rfl) (Nat.le_of_ble_eq_true rfl) rfl (st := []) rfl (Nat.le_of_ble_eq_true rfl) (dc9 DL_law_5 36 rfl) rfl (j_iload (okx hB) (dc9 DL_law_5 37 rfl) 1 rfl (j_icmp_eq (okx hB) (dj9 DL_law_5 38 602 rfl rfl) h (fun h => j_iload (okx hB) (dc9 DL_law_5 41 rfl) 1 rfl (j_if_ne (okx hB) (dj9 DL_law_5 42 619 rfl rfl) h (fun h => j_sub [2, 3, 4, 5, 6] rfl (L_law__wj619_23 hB hS hL h hk)) (fun h =>
  j_aload_n (okx hB) (dc9 DL_law_5 43 rfl) 5 rfl rfl (j_iconst (okx hB) (dc9 DL_law_5 44 rfl) (j_lald (okx hB) (at_161 x49) (Nat.le_of_ble_eq_true rfl) (dc9 DL_law_5 45 rfl) h fun h => (j_iload (okx hB) (dc9 DL_law_5 46 rfl) 0 rfl (j_i2l (okx hB) (dc9 DL_law_5 47 rfl) h fun h => (j_lcmp (okx hB) (dc9 DL_law_5 48 rfl) h fun h => (j_if_eq (okx hB) (dj9 DL_law_5 49 619 rfl rfl) h (fun h => j_sub [2, 3, 4, 5, 6] rfl (L_law__wj619_23 hB hS hL h hk)) (fun h =>
  j_iconst (okx hB) (dc9 DL_law_6 0 rfl) (j_lwr (okx hB) hL (dc9 DL_law_6 1 rfl) (have z := lf9 h hk; z)))))))))))) (fun h =>
  j_iconst (okx hB) (dc9 DL_law_5 39 rfl) (j_lwr (okx hB) hL (dc9 DL_law_5 40 rfl) (have z := lf9 h hk; z))))))))))))))))))))))))) fun h8 h => j_tsI (okx hB) (dc9 DL_law_0 11 rfl) (tgt := 622) (v := 9) hr h (by decide) (by decide) rfl rfl (fun h => j_aload_n (okx hB) (dc9 DL_law_6 3 rfl) 1 rfl rfl (j_aload_n (okx hB) (dc9 DL_law_6 4 rfl) 0 rfl rfl (j_iload (okx hB) (dc9 DL_law_6 5 rfl) 4 rfl (j_iconst (okx hB) (dc9 DL_law_6 6 rfl) (j_iadd (okx hB) (dc9 DL_law_6 7 rfl) (j_sci (okx hB) hS (dc9 DL_law_6 8 rfl) h fun h => (j_aload_n (okx hB) (dc9 DL_law_6 9 rfl) 3 rfl rfl (bd9 h fun r51 x52 hc h => gd9 h fun hm h => j_lS (g' := 0) (okx hB) (c_L_dual (hsB hB) hc) cwl_134 cw_L_dual (Nat.le_of_ble_eq_true rfl) (Nat.le_of_ble_eq_true rfl) rfl (st := []) rfl (Nat.le_of_ble_eq_true rfl) (dc9 DL_law_6 10 rfl) hm (fun p => j_istore (okx hB) (dc9 DL_law_6 11 rfl) (Nat.le_of_ble_eq_true rfl) rfl (j_aload_n (okx hB) (dc9 DL_law_6 12 rfl) 3 rfl rfl (j_aload_n (okx hB) (dc9 DL_law_6 13 rfl) 1 rfl rfl (j_iload (okx hB) (dc9 DL_law_6 14 rfl) 5 rfl (j_iconst (okx hB) (dc9 DL_law_6 15 rfl) (j_iadd (okx hB) (dc9 DL_law_6 16 rfl) (j_sci (okx hB) hS (dc9 DL_law_6 17 rfl) h fun h => (bd9 h fun x54 d53 hc h => j_cV (okx hB) (c_X12_dual (hsB hB) ((wt_113 x52)) hc) clL_136 cd_X12_dual im_X12_dual se_X12_dual ((wt_113 x52).1) (Nat.le_of_ble_eq_true rfl) rfl (Nat.le_of_ble_eq_true rfl) (Nat.le_of_ble_eq_true rfl) rfl (st := []) rfl (Nat.le_of_ble_eq_true rfl) (dc9 DL_law_6 18 rfl) rfl (j_xd (c0 := 0) (s0 := 0) hc0 h fun x55 _ h => (j_istore (okx hB) (dc9 DL_law_6 19 rfl) (Nat.le_of_ble_eq_true rfl) rfl (j_aload_n (okx hB) (dc9 DL_law_6 20 rfl) 4 rfl rfl (b19 h fun x56 hc h => j_cV (okx hB) (c_X12_thrown (hsB hB) ((wt_113 x55)) hc) clL_105 cd_X12_thrown im_X12_thrown se_X12_thrown ((wt_113 x55).1) (Nat.le_of_ble_eq_true rfl) rfl (Nat.le_of_ble_eq_true rfl) (Nat.le_of_ble_eq_true rfl) rfl (st := []) rfl (Nat.le_of_ble_eq_true rfl) (dc9 DL_law_6 21 rfl) rfl (j_iload (okx hB) (dc9 DL_law_6 22 rfl) 1 rfl (j_icmp_eq (okx hB) (dj9 DL_law_6 23 658 rfl rfl) h (fun h => j_iload (okx hB) (dc9 DL_law_6 26 rfl) 1 rfl (j_if_ne (okx hB) (dj9 DL_law_6 27 675 rfl rfl) h (fun h => j_sub [2, 3, 4, 5, 6] rfl (L_law__wj675_23 hB hS hL h hk)) (fun h =>
  j_aload_n (okx hB) (dc9 DL_law_6 28 rfl) 5 rfl rfl (j_iconst (okx hB) (dc9 DL_law_6 29 rfl) (j_lald (okx hB) (at_161 x55) (Nat.le_of_ble_eq_true rfl) (dc9 DL_law_6 30 rfl) h fun h => (j_iload (okx hB) (dc9 DL_law_6 31 rfl) 0 rfl (j_i2l (okx hB) (dc9 DL_law_6 32 rfl) h fun h => (j_lcmp (okx hB) (dc9 DL_law_6 33 rfl) h fun h => (j_if_eq (okx hB) (dj9 DL_law_6 34 675 rfl rfl) h (fun h => j_sub [2, 3, 4, 5, 6] rfl (L_law__wj675_23 hB hS hL h hk)) (fun h =>
  j_iconst (okx hB) (dc9 DL_law_6 35 rfl) (j_lwr (okx hB) hL (dc9 DL_law_6 36 rfl) (have z := lf9 h hk; z)))))))))))) (fun h =>
  j_iconst (okx hB) (dc9 DL_law_6 24 rfl) (j_lwr (okx hB) hL (dc9 DL_law_6 25 rfl) (have z := lf9 h hk; z))))))))))))))))))))))))) fun h9 h => j_tsI (okx hB) (dc9 DL_law_0 11 rfl) (tgt := 678) (v := 10) hr h (by decide) (by decide) rfl rfl (fun h => j_aload_n (okx hB) (dc9 DL_law_6 38 rfl) 1 rfl rfl (j_aload_n (okx hB) (dc9 DL_law_6 39 rfl) 0 rfl rfl (j_iload (okx hB) (dc9 DL_law_6 40 rfl) 4 rfl (j_iconst (okx hB) (dc9 DL_law_6 41 rfl) (j_iadd (okx hB) (dc9 DL_law_6 42 rfl) (j_sci (okx hB) hS (dc9 DL_law_6 43 rfl) h fun h => (j_aload_n (okx hB) (dc9 DL_law_6 44 rfl) 3 rfl rfl (bd9 h fun r57 x58 hc h => gd9 h fun hm h => j_lS (g' := 0) (okx hB) (c_L_size (hsB hB) hc) cwl_137 cw_L_size (Nat.le_of_ble_eq_true rfl) (Nat.le_of_ble_eq_true rfl) rfl (st := []) rfl (Nat.le_of_ble_eq_true rfl) (dc9 DL_law_6 45 rfl) hm (fun p => j_istore (okx hB) (dc9 DL_law_6 46 rfl) (Nat.le_of_ble_eq_true rfl) rfl (j_aload_n (okx hB) (dc9 DL_law_6 47 rfl) 3 rfl rfl (j_aload_n (okx hB) (dc9 DL_law_6 48 rfl) 1 rfl rfl (j_iload (okx hB) (dc9 DL_law_6 49 rfl) 5 rfl (j_iconst (okx hB) (dc9 DL_law_7 0 rfl) (j_iadd (okx hB) (dc9 DL_law_7 1 rfl) (j_sci (okx hB) hS (dc9 DL_law_7 2 rfl) h fun h => (bd9 h fun x60 d59 hc h => j_cV (okx hB) (c_X12_size (hsB hB) ((wt_113 x58)) hc) clL_139 cd_X12_size im_X12_size se_X12_size ((wt_113 x58).1) (Nat.le_of_ble_eq_true rfl) rfl (Nat.le_of_ble_eq_true rfl) (Nat.le_of_ble_eq_true rfl) rfl (st := []) rfl (Nat.le_of_ble_eq_true rfl) (dc9 DL_law_7 3 rfl) rfl (j_xd (c0 := 0) (s0 := 0) hc0 h fun x61 _ h => (j_istore (okx hB) (dc9 DL_law_7 4 rfl) (Nat.le_of_ble_eq_true rfl) rfl (j_aload_n (okx hB) (dc9 DL_law_7 5 rfl) 4 rfl rfl (b19 h fun x62 hc h => j_cV (okx hB) (c_X12_thrown (hsB hB) ((wt_113 x61)) hc) clL_105 cd_X12_thrown im_X12_thrown se_X12_thrown ((wt_113 x61).1) (Nat.le_of_ble_eq_true rfl) rfl (Nat.le_of_ble_eq_true rfl) (Nat.le_of_ble_eq_true rfl) rfl (st := []) rfl (Nat.le_of_ble_eq_true rfl) (dc9 DL_law_7 6 rfl) rfl (j_iload (okx hB) (dc9 DL_law_7 7 rfl) 1 rfl (j_icmp_eq (okx hB) (dj9 DL_law_7 8 714 rfl rfl) h (fun h => j_iload (okx hB) (dc9 DL_law_7 11 rfl) 1 rfl (j_if_ne (okx hB) (dj9 DL_law_7 12 731 rfl rfl) h (fun h => j_sub [2, 3, 4, 5, 6] rfl (L_law__wj731_23 hB hS hL h hk)) (fun h =>
  j_aload_n (okx hB) (dc9 DL_law_7 13 rfl) 5 rfl rfl (j_iconst (okx hB) (dc9 DL_law_7 14 rfl) (j_lald (okx hB) (at_161 x61) (Nat.le_of_ble_eq_true rfl) (dc9 DL_law_7 15 rfl) h fun h => (j_iload (okx hB) (dc9 DL_law_7 16 rfl) 0 rfl (j_i2l (okx hB) (dc9 DL_law_7 17 rfl) h fun h => (j_lcmp (okx hB) (dc9 DL_law_7 18 rfl) h fun h => (j_if_eq (okx hB) (dj9 DL_law_7 19 731 rfl rfl) h (fun h => j_sub [2, 3, 4, 5, 6] rfl (L_law__wj731_23 hB hS hL h hk)) (fun h =>
  j_iconst (okx hB) (dc9 DL_law_7 20 rfl) (j_lwr (okx hB) hL (dc9 DL_law_7 21 rfl) (have z := lf9 h hk; z)))))))))))) (fun h =>
  j_iconst (okx hB) (dc9 DL_law_7 9 rfl) (j_lwr (okx hB) hL (dc9 DL_law_7 10 rfl) (have z := lf9 h hk; z))))))))))))))))))))))))) fun h10 h => j_tsI (okx hB) (dc9 DL_law_0 11 rfl) (tgt := 734) (v := 11) hr h (by decide) (by decide) rfl rfl (fun h => j_aload_n (okx hB) (dc9 DL_law_7 23 rfl) 1 rfl rfl (j_aload_n (okx hB) (dc9 DL_law_7 24 rfl) 0 rfl rfl (j_iload (okx hB) (dc9 DL_law_7 25 rfl) 4 rfl (j_iconst (okx hB) (dc9 DL_law_7 26 rfl) (j_iadd (okx hB) (dc9 DL_law_7 27 rfl) (j_sci (okx hB) hS (dc9 DL_law_7 28 rfl) h fun h => (j_aload_n (okx hB) (dc9 DL_law_7 29 rfl) 0 rfl rfl (j_iload (okx hB) (dc9 DL_law_7 30 rfl) 4 rfl (j_iconst (okx hB) (dc9 DL_law_7 31 rfl) (j_iadd (okx hB) (dc9 DL_law_7 32 rfl) (j_sci (okx hB) hS (dc9 DL_law_7 33 rfl) h fun h => (j_aload_n (okx hB) (dc9 DL_law_7 34 rfl) 0 rfl rfl (j_iload (okx hB) (dc9 DL_law_7 35 rfl) 4 rfl (j_iconst (okx hB) (dc9 DL_law_7 36 rfl) (j_iadd (okx hB) (dc9 DL_law_7 37 rfl) (j_sci (okx hB) hS (dc9 DL_law_7 38 rfl) h fun h => (j_aload_n (okx hB) (dc9 DL_law_7 39 rfl) 3 rfl rfl (bd9 h fun r63 x64 hc h => gd9 h fun hm h => j_lS (g' := 0) (okx hB) (c_L_ways (hsB hB) hc) cwl_140 cw_L_ways (Nat.le_of_ble_eq_true rfl) (Nat.le_of_ble_eq_true rfl) rfl (st := []) rfl (Nat.le_of_ble_eq_true rfl) (dc9 DL_law_7 40 rfl) hm (fun p => j_istore (okx hB) (dc9 DL_law_7 41 rfl) (Nat.le_of_ble_eq_true rfl) rfl (j_aload_n (okx hB) (dc9 DL_law_7 42 rfl) 3 rfl rfl (j_aload_n (okx hB) (dc9 DL_law_7 43 rfl) 1 rfl rfl (j_iload (okx hB) (dc9 DL_law_7 44 rfl) 5 rfl (j_iconst (okx hB) (dc9 DL_law_7 45 rfl) (j_iadd (okx hB) (dc9 DL_law_7 46 rfl) (j_sci (okx hB) hS (dc9 DL_law_7 47 rfl) h fun h => (j_aload_n (okx hB) (dc9 DL_law_7 48 rfl) 1 rfl rfl (j_iload (okx hB) (dc9 DL_law_7 49 rfl) 5 rfl (j_iconst (okx hB) (dc9 DL_law_8 0 rfl) (j_iadd (okx hB) (dc9 DL_law_8 1 rfl) (j_sci (okx hB) hS (dc9 DL_law_8 2 rfl) h fun h => (j_aload_n (okx hB) (dc9 DL_law_8 3 rfl) 1 rfl rfl (j_iload (okx hB) (dc9 DL_law_8 4 rfl) 5 rfl (j_iconst (okx hB) (dc9 DL_law_8 5 rfl) (j_iadd (okx hB) (dc9 DL_law_8 6 rfl) (j_sci (okx hB) hS (dc9 DL_law_8 7 rfl) h fun h => (bd9 h fun x66 d65 hc h => j_cV (okx hB) (c_X12_ways (hsB hB) ((wt_113 x64)) hc) clL_142 cd_X12_ways im_X12_ways se_X12_ways ((wt_113 x64).1) (Nat.le_of_ble_eq_true rfl) rfl (Nat.le_of_ble_eq_true rfl) (Nat.le_of_ble_eq_true rfl) rfl (st := []) rfl (Nat.le_of_ble_eq_true rfl) (dc9 DL_law_8 8 rfl) rfl (j_xd (c0 := 0) (s0 := 0) hc0 h fun x67 _ h => (j_istore (okx hB) (dc9 DL_law_8 9 rfl) (Nat.le_of_ble_eq_true rfl) rfl (j_aload_n (okx hB) (dc9 DL_law_8 10 rfl) 4 rfl rfl (b19 h fun x68 hc h => j_cV (okx hB) (c_X12_thrown (hsB hB) ((wt_113 x67)) hc) clL_105 cd_X12_thrown im_X12_thrown se_X12_thrown ((wt_113 x67).1) (Nat.le_of_ble_eq_true rfl) rfl (Nat.le_of_ble_eq_true rfl) (Nat.le_of_ble_eq_true rfl) rfl (st := []) rfl (Nat.le_of_ble_eq_true rfl) (dc9 DL_law_8 11 rfl) rfl (j_iload (okx hB) (dc9 DL_law_8 12 rfl) 1 rfl (j_icmp_eq (okx hB) (dj9 DL_law_8 13 794 rfl rfl) h (fun h => j_iload (okx hB) (dc9 DL_law_8 16 rfl) 1 rfl (j_if_ne (okx hB) (dj9 DL_law_8 17 811 rfl rfl) h (fun h => j_sub [2, 3, 4, 5, 6] rfl (L_law__wj811_23 hB hS hL h hk)) (fun h =>
  j_aload_n (okx hB) (dc9 DL_law_8 18 rfl) 5 rfl rfl (j_iconst (okx hB) (dc9 DL_law_8 19 rfl) (j_lald (okx hB) (at_161 x67) (Nat.le_of_ble_eq_true rfl) (dc9 DL_law_8 20 rfl) h fun h => (j_iload (okx hB) (dc9 DL_law_8 21 rfl) 0 rfl (j_i2l (okx hB) (dc9 DL_law_8 22 rfl) h fun h => (j_lcmp (okx hB) (dc9 DL_law_8 23 rfl) h fun h => (j_if_eq (okx hB) (dj9 DL_law_8 24 811 rfl rfl) h (fun h => j_sub [2, 3, 4, 5, 6] rfl (L_law__wj811_23 hB hS hL h hk)) (fun h =>
  j_iconst (okx hB) (dc9 DL_law_8 25 rfl) (j_lwr (okx hB) hL (dc9 DL_law_8 26 rfl) (have z := lf9 h hk; z)))))))))))) (fun h =>
  j_iconst (okx hB) (dc9 DL_law_8 14 rfl) (j_lwr (okx hB) hL (dc9 DL_law_8 15 rfl) (have z := lf9 h hk; z))))))))))))))))))))))))))))))))))))))))))))) fun h11 h => j_tsI (okx hB) (dc9 DL_law_0 11 rfl) (tgt := 814) (v := 12) hr h (by decide) (by decide) rfl rfl (fun h => j_aload_n (okx hB) (dc9 DL_law_8 28 rfl) 1 rfl rfl (j_aload_n (okx hB) (dc9 DL_law_8 29 rfl) 0 rfl rfl (j_iload (okx hB) (dc9 DL_law_8 30 rfl) 4 rfl (j_iconst (okx hB) (dc9 DL_law_8 31 rfl) (j_iadd (okx hB) (dc9 DL_law_8 32 rfl) (j_sci (okx hB) hS (dc9 DL_law_8 33 rfl) h fun h => (j_aload_n (okx hB) (dc9 DL_law_8 34 rfl) 0 rfl rfl (j_iload (okx hB) (dc9 DL_law_8 35 rfl) 4 rfl (j_iconst (okx hB) (dc9 DL_law_8 36 rfl) (j_iadd (okx hB) (dc9 DL_law_8 37 rfl) (j_sci (okx hB) hS (dc9 DL_law_8 38 rfl) h fun h => (j_aload_n (okx hB) (dc9 DL_law_8 39 rfl) 3 rfl rfl (bd9 h fun r69 x70 hc h => gd9 h fun hm h => j_lS (g' := 47) (okx hB) (c_L_list (hsB hB) hc) cwl_143 cw_L_list (Nat.le_of_ble_eq_true rfl) (Nat.le_of_ble_eq_true rfl) rfl (st := []) rfl (Nat.le_of_ble_eq_true rfl) (dc9 DL_law_8 40 rfl) hm (fun p => j_istore (okx hB) (dc9 DL_law_8 41 rfl) (Nat.le_of_ble_eq_true rfl) rfl (j_aload_n (okx hB) (dc9 DL_law_8 42 rfl) 3 rfl rfl (j_aload_n (okx hB) (dc9 DL_law_8 43 rfl) 1 rfl rfl (j_iload (okx hB) (dc9 DL_law_8 44 rfl) 5 rfl (j_iconst (okx hB) (dc9 DL_law_8 45 rfl) (j_iadd (okx hB) (dc9 DL_law_8 46 rfl) (j_sci (okx hB) hS (dc9 DL_law_8 47 rfl) h fun h => (j_aload_n (okx hB) (dc9 DL_law_8 48 rfl) 1 rfl rfl (j_iload (okx hB) (dc9 DL_law_8 49 rfl) 5 rfl (j_iconst (okx hB) (dc9 DL_law_9 0 rfl) (j_iadd (okx hB) (dc9 DL_law_9 1 rfl) (j_sci (okx hB) hS (dc9 DL_law_9 2 rfl) h fun h => (bd9 h fun x72 d71 hc h => j_cV (okx hB) (c_X12_list (hsB hB) ((wt_113 x70)) hc) clL_146 cd_X12_list im_X12_list se_X12_list ((wt_113 x70).1) (Nat.le_of_ble_eq_true rfl) rfl (Nat.le_of_ble_eq_true rfl) (Nat.le_of_ble_eq_true rfl) rfl (st := []) rfl (Nat.le_of_ble_eq_true rfl) (dc9 DL_law_9 3 rfl) rfl (j_xd (c0 := 0) (s0 := 0) hc0 h fun x73 _ h => (j_istore (okx hB) (dc9 DL_law_9 4 rfl) (Nat.le_of_ble_eq_true rfl) rfl (j_aload_n (okx hB) (dc9 DL_law_9 5 rfl) 4 rfl rfl (b19 h fun x74 hc h => j_cV (okx hB) (c_X12_thrown (hsB hB) ((wt_113 x73)) hc) clL_105 cd_X12_thrown im_X12_thrown se_X12_thrown ((wt_113 x73).1) (Nat.le_of_ble_eq_true rfl) rfl (Nat.le_of_ble_eq_true rfl) (Nat.le_of_ble_eq_true rfl) rfl (st := []) rfl (Nat.le_of_ble_eq_true rfl) (dc9 DL_law_9 6 rfl) rfl (j_iload (okx hB) (dc9 DL_law_9 7 rfl) 1 rfl (j_icmp_eq (okx hB) (dj9 DL_law_9 8 862 rfl rfl) h (fun h => j_iload (okx hB) (dc9 DL_law_9 11 rfl) 1 rfl (j_if_ne (okx hB) (dj9 DL_law_9 12 879 rfl rfl) h (fun h => j_sub [2, 3, 4, 5, 6] rfl (L_law__wj879_23 hB hS hL h hk)) (fun h =>
  j_aload_n (okx hB) (dc9 DL_law_9 13 rfl) 5 rfl rfl (j_iconst (okx hB) (dc9 DL_law_9 14 rfl) (j_lald (okx hB) (at_161 x73) (Nat.le_of_ble_eq_true rfl) (dc9 DL_law_9 15 rfl) h fun h => (j_iload (okx hB) (dc9 DL_law_9 16 rfl) 0 rfl (j_i2l (okx hB) (dc9 DL_law_9 17 rfl) h fun h => (j_lcmp (okx hB) (dc9 DL_law_9 18 rfl) h fun h => (j_if_eq (okx hB) (dj9 DL_law_9 19 879 rfl rfl) h (fun h => j_sub [2, 3, 4, 5, 6] rfl (L_law__wj879_23 hB hS hL h hk)) (fun h =>
  j_iconst (okx hB) (dc9 DL_law_9 20 rfl) (j_lwr (okx hB) hL (dc9 DL_law_9 21 rfl) (have z := lf9 h hk; z)))))))))))) (fun h =>
  j_iconst (okx hB) (dc9 DL_law_9 9 rfl) (j_lwr (okx hB) hL (dc9 DL_law_9 10 rfl) (have z := lf9 h hk; z))))))))))))))))))))))))))))))))))) fun h12 h => j_tsI (okx hB) (dc9 DL_law_0 11 rfl) (tgt := 882) (v := 13) hr h (by decide) (by decide) rfl rfl (fun h => j_aload_n (okx hB) (dc9 DL_law_9 23 rfl) 1 rfl rfl (j_aload_n (okx hB) (dc9 DL_law_9 24 rfl) 0 rfl rfl (j_iload (okx hB) (dc9 DL_law_9 25 rfl) 4 rfl (j_iconst (okx hB) (dc9 DL_law_9 26 rfl) (j_iadd (okx hB) (dc9 DL_law_9 27 rfl) (j_sci (okx hB) hS (dc9 DL_law_9 28 rfl) h fun h => (j_aload_n (okx hB) (dc9 DL_law_9 29 rfl) 3 rfl rfl (bd9 h fun r75 x76 hc h => gd9 h fun hm h => j_lS (g' := 0) (okx hB) (c_L_take (hsB hB) hc) cwl_147 cw_L_take (Nat.le_of_ble_eq_true rfl) (Nat.le_of_ble_eq_true rfl) rfl (st := []) rfl (Nat.le_of_ble_eq_true rfl) (dc9 DL_law_9 30 rfl) hm (fun p => j_istore (okx hB) (dc9 DL_law_9 31 rfl) (Nat.le_of_ble_eq_true rfl) rfl (j_aload_n (okx hB) (dc9 DL_law_9 32 rfl) 3 rfl rfl (j_aload_n (okx hB) (dc9 DL_law_9 33 rfl) 1 rfl rfl (j_iload (okx hB) (dc9 DL_law_9 34 rfl) 5 rfl (j_iconst (okx hB) (dc9 DL_law_9 35 rfl) (j_iadd (okx hB) (dc9 DL_law_9 36 rfl) (j_sci (okx hB) hS (dc9 DL_law_9 37 rfl) h fun h => (bd9 h fun x78 d77 hc h => j_cV (okx hB) (c_X12_take (hsB hB) ((wt_113 x76)) hc) clL_149 cd_X12_take im_X12_take se_X12_take ((wt_113 x76).1) (Nat.le_of_ble_eq_true rfl) rfl (Nat.le_of_ble_eq_true rfl) (Nat.le_of_ble_eq_true rfl) rfl (st := []) rfl (Nat.le_of_ble_eq_true rfl) (dc9 DL_law_9 38 rfl) rfl (j_xd (c0 := 0) (s0 := 0) hc0 h fun x79 _ h => (j_istore (okx hB) (dc9 DL_law_9 39 rfl) (Nat.le_of_ble_eq_true rfl) rfl (j_aload_n (okx hB) (dc9 DL_law_9 40 rfl) 4 rfl rfl (b19 h fun x80 hc h => j_cV (okx hB) (c_X12_thrown (hsB hB) ((wt_113 x79)) hc) clL_105 cd_X12_thrown im_X12_thrown se_X12_thrown ((wt_113 x79).1) (Nat.le_of_ble_eq_true rfl) rfl (Nat.le_of_ble_eq_true rfl) (Nat.le_of_ble_eq_true rfl) rfl (st := []) rfl (Nat.le_of_ble_eq_true rfl) (dc9 DL_law_9 41 rfl) rfl (j_iload (okx hB) (dc9 DL_law_9 42 rfl) 1 rfl (j_icmp_eq (okx hB) (dj9 DL_law_9 43 918 rfl rfl) h (fun h => j_iload (okx hB) (dc9 DL_law_9 46 rfl) 1 rfl (j_if_ne (okx hB) (dj9 DL_law_9 47 935 rfl rfl) h (fun h => j_sub [2, 3, 4, 5, 6] rfl (L_law__wj935_23 hB hS hL h hk)) (fun h =>
  j_aload_n (okx hB) (dc9 DL_law_9 48 rfl) 5 rfl rfl (j_iconst (okx hB) (dc9 DL_law_9 49 rfl) (j_lald (okx hB) (at_161 x79) (Nat.le_of_ble_eq_true rfl) (dc9 DL_law_10 0 rfl) h fun h => (j_iload (okx hB) (dc9 DL_law_10 1 rfl) 0 rfl (j_i2l (okx hB) (dc9 DL_law_10 2 rfl) h fun h => (j_lcmp (okx hB) (dc9 DL_law_10 3 rfl) h fun h => (j_if_eq (okx hB) (dj9 DL_law_10 4 935 rfl rfl) h (fun h => j_sub [2, 3, 4, 5, 6] rfl (L_law__wj935_23 hB hS hL h hk)) (fun h =>
  j_iconst (okx hB) (dc9 DL_law_10 5 rfl) (j_lwr (okx hB) hL (dc9 DL_law_10 6 rfl) (have z := lf9 h hk; z)))))))))))) (fun h =>
  j_iconst (okx hB) (dc9 DL_law_9 44 rfl) (j_lwr (okx hB) hL (dc9 DL_law_9 45 rfl) (have z := lf9 h hk; z))))))))))))))))))))))))) fun h13 h => j_tsI (okx hB) (dc9 DL_law_0 11 rfl) (tgt := 938) (v := 14) hr h (by decide) (by decide) rfl rfl (fun h => j_aload_n (okx hB) (dc9 DL_law_10 8 rfl) 1 rfl rfl (j_aload_n (okx hB) (dc9 DL_law_10 9 rfl) 0 rfl rfl (j_iload (okx hB) (dc9 DL_law_10 10 rfl) 4 rfl (j_iconst (okx hB) (dc9 DL_law_10 11 rfl) (j_iadd (okx hB) (dc9 DL_law_10 12 rfl) (j_sci (okx hB) hS (dc9 DL_law_10 13 rfl) h fun h => (bd9 h fun r81 x82 hc h => gd9 h fun hm h => j_lS (g' := 0) (okx hB) (c_L_field (hsB hB) hc) cwl_150 cw_L_field (Nat.le_of_ble_eq_true rfl) (Nat.le_of_ble_eq_true rfl) rfl (st := []) rfl (Nat.le_of_ble_eq_true rfl) (dc9 DL_law_10 14 rfl) hm (fun p => j_istore (okx hB) (dc9 DL_law_10 15 rfl) (Nat.le_of_ble_eq_true rfl) rfl (j_aload_n (okx hB) (dc9 DL_law_10 16 rfl) 3 rfl rfl (j_aload_n (okx hB) (dc9 DL_law_10 17 rfl) 1 rfl rfl (j_iload (okx hB) (dc9 DL_law_10 18 rfl) 5 rfl (j_iconst (okx hB) (dc9 DL_law_10 19 rfl) (j_iadd (okx hB) (dc9 DL_law_10 20 rfl) (j_sci (okx hB) hS (dc9 DL_law_10 21 rfl) h fun h => (bd9 h fun _ d83 hc h => j_cV (okx hB) (c_X12_field (hsB hB) ((wt_113 x82)) hc) clL_153 cd_X12_field im_X12_field se_X12_field ((wt_113 x82).1) (Nat.le_of_ble_eq_true rfl) rfl (Nat.le_of_ble_eq_true rfl) (Nat.le_of_ble_eq_true rfl) rfl (st := []) rfl (Nat.le_of_ble_eq_true rfl) (dc9 DL_law_10 22 rfl) rfl (j_xd (c0 := 0) (s0 := 0) hc0 h fun x84 _ h => (j_aload_n (okx hB) (dc9 DL_law_10 23 rfl) 3 rfl rfl (b19 h fun x85 hc h => j_cV (okx hB) (c_X12_thrown (hsB hB) ((wt_113 x84)) hc) clL_105 cd_X12_thrown im_X12_thrown se_X12_thrown ((wt_113 x84).1) (Nat.le_of_ble_eq_true rfl) rfl (Nat.le_of_ble_eq_true rfl) (Nat.le_of_ble_eq_true rfl) rfl (st := []) rfl (Nat.le_of_ble_eq_true rfl) (dc9 DL_law_10 24 rfl) rfl (j_iload (okx hB) (dc9 DL_law_10 25 rfl) 0 rfl (j_icmp_eq (okx hB) (dj9 DL_law_10 26 971 rfl rfl) h (fun h => j_goto (okx hB) (dj9 DL_law_10 29 2026 rfl rfl) (j_iinc (okx hB) (dc9 DL_law_24 32 rfl) 5 rfl (Nat.le_of_ble_eq_true rfl) rfl (j_goto (okx hB) (dj9 DL_law_24 33 23 rfl rfl) (j_sub [2, 3, 4, 5, 0] rfl ((have z := lf9 h hk; z _)))))) (fun h =>
  j_iconst (okx hB) (dc9 DL_law_10 27 rfl) (j_lwr (okx hB) hL (dc9 DL_law_10 28 rfl) (have z := lf9 h hk; z))))))))))))))))))))))) fun h14 h => j_tsI (okx hB) (dc9 DL_law_0 11 rfl) (tgt := 974) (v := 15) hr h (by decide) (by decide) rfl rfl (fun h => j_aload_n (okx hB) (dc9 DL_law_10 30 rfl) 1 rfl rfl (j_aload_n (okx hB) (dc9 DL_law_10 31 rfl) 0 rfl rfl (j_iload (okx hB) (dc9 DL_law_10 32 rfl) 4 rfl (j_iconst (okx hB) (dc9 DL_law_10 33 rfl) (j_iadd (okx hB) (dc9 DL_law_10 34 rfl) (j_sci (okx hB) hS (dc9 DL_law_10 35 rfl) h fun h => (j_aload_n (okx hB) (dc9 DL_law_10 36 rfl) 0 rfl rfl (j_iload (okx hB) (dc9 DL_law_10 37 rfl) 4 rfl (j_iconst (okx hB) (dc9 DL_law_10 38 rfl) (j_iadd (okx hB) (dc9 DL_law_10 39 rfl) (j_sci (okx hB) hS (dc9 DL_law_10 40 rfl) h fun h => (j_aload_n (okx hB) (dc9 DL_law_10 41 rfl) 3 rfl rfl (bd9 h fun r86 x87 hc h => gd9 h fun hm h => j_lS (g' := 0) (okx hB) (c_L_character (hsB hB) hc) cwl_154 cw_L_character (Nat.le_of_ble_eq_true rfl) (Nat.le_of_ble_eq_true rfl) rfl (st := []) rfl (Nat.le_of_ble_eq_true rfl) (dc9 DL_law_10 42 rfl) hm (fun p => j_istore (okx hB) (dc9 DL_law_10 43 rfl) (Nat.le_of_ble_eq_true rfl) rfl (j_aload_n (okx hB) (dc9 DL_law_10 44 rfl) 3 rfl rfl (j_aload_n (okx hB) (dc9 DL_law_10 45 rfl) 1 rfl rfl (j_iload (okx hB) (dc9 DL_law_10 46 rfl) 5 rfl (j_iconst (okx hB) (dc9 DL_law_10 47 rfl) (j_iadd (okx hB) (dc9 DL_law_10 48 rfl) (j_sci (okx hB) hS (dc9 DL_law_10 49 rfl) h fun h => (j_aload_n (okx hB) (dc9 DL_law_11 0 rfl) 1 rfl rfl (j_iload (okx hB) (dc9 DL_law_11 1 rfl) 5 rfl (j_iconst (okx hB) (dc9 DL_law_11 2 rfl) (j_iadd (okx hB) (dc9 DL_law_11 3 rfl) (j_sci (okx hB) hS (dc9 DL_law_11 4 rfl) h fun h => (bd9 h fun x89 d88 hc h => j_cV (okx hB) (c_X12_character (hsB hB) ((wt_113 x87)) hc) clL_156 cd_X12_character im_X12_character se_X12_character ((wt_113 x87).1) (Nat.le_of_ble_eq_true rfl) rfl (Nat.le_of_ble_eq_true rfl) (Nat.le_of_ble_eq_true rfl) rfl (st := []) rfl (Nat.le_of_ble_eq_true rfl) (dc9 DL_law_11 5 rfl) rfl (j_xd (c0 := 0) (s0 := 0) hc0 h fun x90 _ h => (j_istore (okx hB) (dc9 DL_law_11 6 rfl) (Nat.le_of_ble_eq_true rfl) rfl (j_aload_n (okx hB) (dc9 DL_law_11 7 rfl) 4 rfl rfl (b19 h fun x91 hc h => j_cV (okx hB) (c_X12_thrown (hsB hB) ((wt_113 x90)) hc) clL_105 cd_X12_thrown im_X12_thrown se_X12_thrown ((wt_113 x90).1) (Nat.le_of_ble_eq_true rfl) rfl (Nat.le_of_ble_eq_true rfl) (Nat.le_of_ble_eq_true rfl) rfl (st := []) rfl (Nat.le_of_ble_eq_true rfl) (dc9 DL_law_11 8 rfl) rfl (j_iload (okx hB) (dc9 DL_law_11 9 rfl) 1 rfl (j_icmp_eq (okx hB) (dj9 DL_law_11 10 1022 rfl rfl) h (fun h => j_iload (okx hB) (dc9 DL_law_11 13 rfl) 1 rfl (j_if_ne (okx hB) (dj9 DL_law_11 14 1039 rfl rfl) h (fun h => j_sub [2, 3, 4, 5, 6] rfl (L_law__wj1039_23 hB hS hL h hk)) (fun h =>
  j_aload_n (okx hB) (dc9 DL_law_11 15 rfl) 5 rfl rfl (j_iconst (okx hB) (dc9 DL_law_11 16 rfl) (j_lald (okx hB) (at_161 x90) (Nat.le_of_ble_eq_true rfl) (dc9 DL_law_11 17 rfl) h fun h => (j_iload (okx hB) (dc9 DL_law_11 18 rfl) 0 rfl (j_i2l (okx hB) (dc9 DL_law_11 19 rfl) h fun h => (j_lcmp (okx hB) (dc9 DL_law_11 20 rfl) h fun h => (j_if_eq (okx hB) (dj9 DL_law_11 21 1039 rfl rfl) h (fun h => j_sub [2, 3, 4, 5, 6] rfl (L_law__wj1039_23 hB hS hL h hk)) (fun h =>
  j_iconst (okx hB) (dc9 DL_law_11 22 rfl) (j_lwr (okx hB) hL (dc9 DL_law_11 23 rfl) (have z := lf9 h hk; z)))))))))))) (fun h =>
  j_iconst (okx hB) (dc9 DL_law_11 11 rfl) (j_lwr (okx hB) hL (dc9 DL_law_11 12 rfl) (have z := lf9 h hk; z))))))))))))))))))))))))))))))))))) fun h15 h => j_tsI (okx hB) (dc9 DL_law_0 11 rfl) (tgt := 1042) (v := 16) hr h (by decide) (by decide) rfl rfl (fun h => j_aload_n (okx hB) (dc9 DL_law_11 25 rfl) 1 rfl rfl (j_aload_n (okx hB) (dc9 DL_law_11 26 rfl) 0 rfl rfl (j_iload (okx hB) (dc9 DL_law_11 27 rfl) 4 rfl (j_iconst (okx hB) (dc9 DL_law_11 28 rfl) (j_iadd (okx hB) (dc9 DL_law_11 29 rfl) (j_sci (okx hB) hS (dc9 DL_law_11 30 rfl) h fun h => (j_aload_n (okx hB) (dc9 DL_law_11 31 rfl) 0 rfl rfl (j_iload (okx hB) (dc9 DL_law_11 32 rfl) 4 rfl (j_iconst (okx hB) (dc9 DL_law_11 33 rfl) (j_iadd (okx hB) (dc9 DL_law_11 34 rfl) (j_sci (okx hB) hS (dc9 DL_law_11 35 rfl) h fun h => (j_aload_n (okx hB) (dc9 DL_law_11 36 rfl) 0 rfl rfl (j_iload (okx hB) (dc9 DL_law_11 37 rfl) 4 rfl (j_iconst (okx hB) (dc9 DL_law_11 38 rfl) (j_iadd (okx hB) (dc9 DL_law_11 39 rfl) (j_sci (okx hB) hS (dc9 DL_law_11 40 rfl) h fun h => (j_aload_n (okx hB) (dc9 DL_law_11 41 rfl) 0 rfl rfl (j_iload (okx hB) (dc9 DL_law_11 42 rfl) 4 rfl (j_iconst (okx hB) (dc9 DL_law_11 43 rfl) (j_iadd (okx hB) (dc9 DL_law_11 44 rfl) (j_sci (okx hB) hS (dc9 DL_law_11 45 rfl) h fun h => (j_aload_n (okx hB) (dc9 DL_law_11 46 rfl) 0 rfl rfl (j_iload (okx hB) (dc9 DL_law_11 47 rfl) 4 rfl (j_iconst (okx hB) (dc9 DL_law_11 48 rfl) (j_iadd (okx hB) (dc9 DL_law_11 49 rfl) (j_sci (okx hB) hS (dc9 DL_law_12 0 rfl) h fun h => (j_aload_n (okx hB) (dc9 DL_law_12 1 rfl) 0 rfl rfl (j_iload (okx hB) (dc9 DL_law_12 2 rfl) 4 rfl (j_bipush (okx hB) (dc9 DL_law_12 3 rfl) (by decide) (j_iadd (okx hB) (dc9 DL_law_12 4 rfl) (j_sci (okx hB) hS (dc9 DL_law_12 5 rfl) h fun h => (j_aload_n (okx hB) (dc9 DL_law_12 6 rfl) 0 rfl rfl (j_iload (okx hB) (dc9 DL_law_12 7 rfl) 4 rfl (j_bipush (okx hB) (dc9 DL_law_12 8 rfl) (by decide) (j_iadd (okx hB) (dc9 DL_law_12 9 rfl) (j_sci (okx hB) hS (dc9 DL_law_12 10 rfl) h fun h => (j_aload_n (okx hB) (dc9 DL_law_12 11 rfl) 3 rfl rfl (bd9 h fun r92 x93 hc h => gd9 h fun hm h => j_lS (g' := 0) (okx hB) (c_L_tell (hsB hB) hc) cwl_157 cw_L_tell (Nat.le_of_ble_eq_true rfl) (Nat.le_of_ble_eq_true rfl) rfl (st := []) rfl (Nat.le_of_ble_eq_true rfl) (dc9 DL_law_12 12 rfl) hm (fun p => j_istore (okx hB) (dc9 DL_law_12 13 rfl) (Nat.le_of_ble_eq_true rfl) rfl (j_aload_n (okx hB) (dc9 DL_law_12 14 rfl) 3 rfl rfl (j_aload_n (okx hB) (dc9 DL_law_12 15 rfl) 1 rfl rfl (j_iload (okx hB) (dc9 DL_law_12 16 rfl) 5 rfl (j_iconst (okx hB) (dc9 DL_law_12 17 rfl) (j_iadd (okx hB) (dc9 DL_law_12 18 rfl) (j_sci (okx hB) hS (dc9 DL_law_12 19 rfl) h fun h => (j_aload_n (okx hB) (dc9 DL_law_12 20 rfl) 1 rfl rfl (j_iload (okx hB) (dc9 DL_law_12 21 rfl) 5 rfl (j_iconst (okx hB) (dc9 DL_law_12 22 rfl) (j_iadd (okx hB) (dc9 DL_law_12 23 rfl) (j_sci (okx hB) hS (dc9 DL_law_12 24 rfl) h fun h => (j_aload_n (okx hB) (dc9 DL_law_12 25 rfl) 1 rfl rfl (j_iload (okx hB) (dc9 DL_law_12 26 rfl) 5 rfl (j_iconst (okx hB) (dc9 DL_law_12 27 rfl) (j_iadd (okx hB) (dc9 DL_law_12 28 rfl) (j_sci (okx hB) hS (dc9 DL_law_12 29 rfl) h fun h => (j_aload_n (okx hB) (dc9 DL_law_12 30 rfl) 1 rfl rfl (j_iload (okx hB) (dc9 DL_law_12 31 rfl) 5 rfl (j_iconst (okx hB) (dc9 DL_law_12 32 rfl) (j_iadd (okx hB) (dc9 DL_law_12 33 rfl) (j_sci (okx hB) hS (dc9 DL_law_12 34 rfl) h fun h => (j_aload_n (okx hB) (dc9 DL_law_12 35 rfl) 1 rfl rfl (j_iload (okx hB) (dc9 DL_law_12 36 rfl) 5 rfl (j_iconst (okx hB) (dc9 DL_law_12 37 rfl) (j_iadd (okx hB) (dc9 DL_law_12 38 rfl) (j_sci (okx hB) hS (dc9 DL_law_12 39 rfl) h fun h => (j_aload_n (okx hB) (dc9 DL_law_12 40 rfl) 1 rfl rfl (j_iload (okx hB) (dc9 DL_law_12 41 rfl) 5 rfl (j_bipush (okx hB) (dc9 DL_law_12 42 rfl) (by decide) (j_iadd (okx hB) (dc9 DL_law_12 43 rfl) (j_sci (okx hB) hS (dc9 DL_law_12 44 rfl) h fun h => (j_aload_n (okx hB) (dc9 DL_law_12 45 rfl) 1 rfl rfl (j_iload (okx hB) (dc9 DL_law_12 46 rfl) 5 rfl (j_bipush (okx hB) (dc9 DL_law_12 47 rfl) (by decide) (j_iadd (okx hB) (dc9 DL_law_12 48 rfl) (j_sci (okx hB) hS (dc9 DL_law_12 49 rfl) h fun h => (bd9 h fun x95 d94 hc h => j_cV (okx hB) (c_X12_tell (hsB hB) ((wt_113 x93)) hc) clL_160 cd_X12_tell im_X12_tell se_X12_tell ((wt_113 x93).1) (Nat.le_of_ble_eq_true rfl) rfl (Nat.le_of_ble_eq_true rfl) (Nat.le_of_ble_eq_true rfl) rfl (st := []) rfl (Nat.le_of_ble_eq_true rfl) (dc9 DL_law_13 0 rfl) rfl (j_xd (c0 := 0) (s0 := 0) hc0 h fun x96 _ h => (j_istore (okx hB) (dc9 DL_law_13 1 rfl) (Nat.le_of_ble_eq_true rfl) rfl (j_aload_n (okx hB) (dc9 DL_law_13 2 rfl) 4 rfl rfl (b19 h fun x97 hc h => j_cV (okx hB) (c_X12_thrown (hsB hB) ((wt_113 x96)) hc) clL_105 cd_X12_thrown im_X12_thrown se_X12_thrown ((wt_113 x96).1) (Nat.le_of_ble_eq_true rfl) rfl (Nat.le_of_ble_eq_true rfl) (Nat.le_of_ble_eq_true rfl) rfl (st := []) rfl (Nat.le_of_ble_eq_true rfl) (dc9 DL_law_13 3 rfl) rfl (j_iload (okx hB) (dc9 DL_law_13 4 rfl) 1 rfl (j_icmp_eq (okx hB) (dj9 DL_law_13 5 1154 rfl rfl) h (fun h => j_iload (okx hB) (dc9 DL_law_13 8 rfl) 1 rfl (j_if_ne (okx hB) (dj9 DL_law_13 9 1178 rfl rfl) h (fun h => j_sub [2, 3, 4, 5, 6] rfl (L_law__wj1178_23 hB hS hL h hk)) (fun h =>
  j_aload_n (okx hB) (dc9 DL_law_13 10 rfl) 5 rfl rfl (j_iconst (okx hB) (dc9 DL_law_13 11 rfl) (j_lald (okx hB) (at_161 x96) (Nat.le_of_ble_eq_true rfl) (dc9 DL_law_13 12 rfl) h fun h => (j_iload (okx hB) (dc9 DL_law_13 13 rfl) 0 rfl (j_if_eq (okx hB) (dj9 DL_law_13 14 1171 rfl rfl) h (fun h => j_lconst (okx hB) (v := 0) (dc9 DL_law_13 17 rfl) rfl (j_sub [2, 3, 4, 5, 6] rfl (L_law__wj1172_23 hB hS hL h hk))) (fun h =>
  j_lconst (okx hB) (v := 1) (dc9 DL_law_13 15 rfl) rfl (j_goto (okx hB) (dj9 DL_law_13 16 1172 rfl rfl) (j_sub [2, 3, 4, 5, 6] rfl (L_law__wj1172_23 hB hS hL h hk))))))))))) (fun h =>
  j_iconst (okx hB) (dc9 DL_law_13 6 rfl) (j_lwr (okx hB) hL (dc9 DL_law_13 7 rfl) (have z := lf9 h hk; z))))))))))))))))))))))))))))))))))))))))))))))))))))))))))))))))))))))))))))))))))))) fun h16 h => j_tsI (okx hB) (dc9 DL_law_0 11 rfl) (tgt := 1181) (v := 17) hr h (by decide) (by decide) rfl rfl (fun h => j_aload_n (okx hB) (dc9 DL_law_13 23 rfl) 1 rfl rfl (j_aload_n (okx hB) (dc9 DL_law_13 24 rfl) 0 rfl rfl (j_iload (okx hB) (dc9 DL_law_13 25 rfl) 4 rfl (j_iconst (okx hB) (dc9 DL_law_13 26 rfl) (j_iadd (okx hB) (dc9 DL_law_13 27 rfl) (j_sci (okx hB) hS (dc9 DL_law_13 28 rfl) h fun h => (j_aload_n (okx hB) (dc9 DL_law_13 29 rfl) 0 rfl rfl (j_iload (okx hB) (dc9 DL_law_13 30 rfl) 4 rfl (j_iconst (okx hB) (dc9 DL_law_13 31 rfl) (j_iadd (okx hB) (dc9 DL_law_13 32 rfl) (j_sci (okx hB) hS (dc9 DL_law_13 33 rfl) h fun h => (j_aload_n (okx hB) (dc9 DL_law_13 34 rfl) 0 rfl rfl (j_iload (okx hB) (dc9 DL_law_13 35 rfl) 4 rfl (j_iconst (okx hB) (dc9 DL_law_13 36 rfl) (j_iadd (okx hB) (dc9 DL_law_13 37 rfl) (j_sci (okx hB) hS (dc9 DL_law_13 38 rfl) h fun h => (j_aload_n (okx hB) (dc9 DL_law_13 39 rfl) 0 rfl rfl (j_iload (okx hB) (dc9 DL_law_13 40 rfl) 4 rfl (j_iconst (okx hB) (dc9 DL_law_13 41 rfl) (j_iadd (okx hB) (dc9 DL_law_13 42 rfl) (j_sci (okx hB) hS (dc9 DL_law_13 43 rfl) h fun h => (j_aload_n (okx hB) (dc9 DL_law_13 44 rfl) 3 rfl rfl (bd9 h fun r98 x99 hc h => gd9 h fun hm h => j_lS (g' := 0) (okx hB) (c_L_swap (hsB hB) hc) cwl_161 cw_L_swap (Nat.le_of_ble_eq_true rfl) (Nat.le_of_ble_eq_true rfl) rfl (st := []) rfl (Nat.le_of_ble_eq_true rfl) (dc9 DL_law_13 45 rfl) hm (fun p => j_istore (okx hB) (dc9 DL_law_13 46 rfl) (Nat.le_of_ble_eq_true rfl) rfl (j_aload_n (okx hB) (dc9 DL_law_13 47 rfl) 3 rfl rfl (j_aload_n (okx hB) (dc9 DL_law_13 48 rfl) 1 rfl rfl (j_iload (okx hB) (dc9 DL_law_13 49 rfl) 5 rfl (j_iconst (okx hB) (dc9 DL_law_14 0 rfl) (j_iadd (okx hB) (dc9 DL_law_14 1 rfl) (j_sci (okx hB) hS (dc9 DL_law_14 2 rfl) h fun h => (j_aload_n (okx hB) (dc9 DL_law_14 3 rfl) 1 rfl rfl (j_iload (okx hB) (dc9 DL_law_14 4 rfl) 5 rfl (j_iconst (okx hB) (dc9 DL_law_14 5 rfl) (j_iadd (okx hB) (dc9 DL_law_14 6 rfl) (j_sci (okx hB) hS (dc9 DL_law_14 7 rfl) h fun h => (j_aload_n (okx hB) (dc9 DL_law_14 8 rfl) 1 rfl rfl (j_iload (okx hB) (dc9 DL_law_14 9 rfl) 5 rfl (j_iconst (okx hB) (dc9 DL_law_14 10 rfl) (j_iadd (okx hB) (dc9 DL_law_14 11 rfl) (j_sci (okx hB) hS (dc9 DL_law_14 12 rfl) h fun h => (j_aload_n (okx hB) (dc9 DL_law_14 13 rfl) 1 rfl rfl (j_iload (okx hB) (dc9 DL_law_14 14 rfl) 5 rfl (j_iconst (okx hB) (dc9 DL_law_14 15 rfl) (j_iadd (okx hB) (dc9 DL_law_14 16 rfl) (j_sci (okx hB) hS (dc9 DL_law_14 17 rfl) h fun h => (bd9 h fun x101 d100 hc h => j_cV (okx hB) (c_X12_swap (hsB hB) ((wt_113 x99)) hc) clL_164 cd_X12_swap im_X12_swap se_X12_swap ((wt_113 x99).1) (Nat.le_of_ble_eq_true rfl) rfl (Nat.le_of_ble_eq_true rfl) (Nat.le_of_ble_eq_true rfl) rfl (st := []) rfl (Nat.le_of_ble_eq_true rfl) (dc9 DL_law_14 18 rfl) rfl (j_xd (c0 := 0) (s0 := 0) hc0 h fun x102 _ h => (j_istore (okx hB) (dc9 DL_law_14 19 rfl) (Nat.le_of_ble_eq_true rfl) rfl (j_aload_n (okx hB) (dc9 DL_law_14 20 rfl) 4 rfl rfl (b19 h fun x103 hc h => j_cV (okx hB) (c_X12_thrown (hsB hB) ((wt_113 x102)) hc) clL_105 cd_X12_thrown im_X12_thrown se_X12_thrown ((wt_113 x102).1) (Nat.le_of_ble_eq_true rfl) rfl (Nat.le_of_ble_eq_true rfl) (Nat.le_of_ble_eq_true rfl) rfl (st := []) rfl (Nat.le_of_ble_eq_true rfl) (dc9 DL_law_14 21 rfl) rfl (j_iload (okx hB) (dc9 DL_law_14 22 rfl) 1 rfl (j_icmp_eq (okx hB) (dj9 DL_law_14 23 1253 rfl rfl) h (fun h => j_iload (okx hB) (dc9 DL_law_14 26 rfl) 1 rfl (j_if_ne (okx hB) (dj9 DL_law_14 27 1277 rfl rfl) h (fun h => j_sub [2, 3, 4, 5, 6] rfl (L_law__wj1277_23 hB hS hL h hk)) (fun h =>
  j_aload_n (okx hB) (dc9 DL_law_14 28 rfl) 5 rfl rfl (j_iconst (okx hB) (dc9 DL_law_14 29 rfl) (j_lald (okx hB) (at_161 x102) (Nat.le_of_ble_eq_true rfl) (dc9 DL_law_14 30 rfl) h fun h => (j_iload (okx hB) (dc9 DL_law_14 31 rfl) 0 rfl (j_if_eq (okx hB) (dj9 DL_law_14 32 1270 rfl rfl) h (fun h => j_lconst (okx hB) (v := 0) (dc9 DL_law_14 35 rfl) rfl (j_sub [2, 3, 4, 5, 6] rfl (L_law__wj1271_23 hB hS hL h hk))) (fun h =>
  j_lconst (okx hB) (v := 1) (dc9 DL_law_14 33 rfl) rfl (j_goto (okx hB) (dj9 DL_law_14 34 1271 rfl rfl) (j_sub [2, 3, 4, 5, 6] rfl (L_law__wj1271_23 hB hS hL h hk))))))))))) (fun h =>
  j_iconst (okx hB) (dc9 DL_law_14 24 rfl) (j_lwr (okx hB) hL (dc9 DL_law_14 25 rfl) (have z := lf9 h hk; z))))))))))))))))))))))))))))))))))))))))))))))))))))))) fun h17 h => j_tsI (okx hB) (dc9 DL_law_0 11 rfl) (tgt := 1280) (v := 18) hr h (by decide) (by decide) rfl rfl (fun h => j_aload_n (okx hB) (dc9 DL_law_14 41 rfl) 1 rfl rfl (j_aload_n (okx hB) (dc9 DL_law_14 42 rfl) 0 rfl rfl (j_iload (okx hB) (dc9 DL_law_14 43 rfl) 4 rfl (j_iconst (okx hB) (dc9 DL_law_14 44 rfl) (j_iadd (okx hB) (dc9 DL_law_14 45 rfl) (j_sci (okx hB) hS (dc9 DL_law_14 46 rfl) h fun h => (j_aload_n (okx hB) (dc9 DL_law_14 47 rfl) 0 rfl rfl (j_iload (okx hB) (dc9 DL_law_14 48 rfl) 4 rfl (j_iconst (okx hB) (dc9 DL_law_14 49 rfl) (j_iadd (okx hB) (dc9 DL_law_15 0 rfl) (j_sci (okx hB) hS (dc9 DL_law_15 1 rfl) h fun h => (j_aload_n (okx hB) (dc9 DL_law_15 2 rfl) 3 rfl rfl (bd9 h fun r104 x105 hc h => gd9 h fun hm h => j_lS (g' := 0) (okx hB) (c_L_twist (hsB hB) hc) cwl_165 cw_L_twist (Nat.le_of_ble_eq_true rfl) (Nat.le_of_ble_eq_true rfl) rfl (st := []) rfl (Nat.le_of_ble_eq_true rfl) (dc9 DL_law_15 3 rfl) hm (fun p => j_istore (okx hB) (dc9 DL_law_15 4 rfl) (Nat.le_of_ble_eq_true rfl) rfl (j_aload_n (okx hB) (dc9 DL_law_15 5 rfl) 3 rfl rfl (j_aload_n (okx hB) (dc9 DL_law_15 6 rfl) 1 rfl rfl (j_iload (okx hB) (dc9 DL_law_15 7 rfl) 5 rfl (j_iconst (okx hB) (dc9 DL_law_15 8 rfl) (j_iadd (okx hB) (dc9 DL_law_15 9 rfl) (j_sci (okx hB) hS (dc9 DL_law_15 10 rfl) h fun h => (j_aload_n (okx hB) (dc9 DL_law_15 11 rfl) 1 rfl rfl (j_iload (okx hB) (dc9 DL_law_15 12 rfl) 5 rfl (j_iconst (okx hB) (dc9 DL_law_15 13 rfl) (j_iadd (okx hB) (dc9 DL_law_15 14 rfl) (j_sci (okx hB) hS (dc9 DL_law_15 15 rfl) h fun h => (bd9 h fun x107 d106 hc h => j_cV (okx hB) (c_X12_twist (hsB hB) ((wt_113 x105)) hc) clL_167 cd_X12_twist im_X12_twist se_X12_twist ((wt_113 x105).1) (Nat.le_of_ble_eq_true rfl) rfl (Nat.le_of_ble_eq_true rfl) (Nat.le_of_ble_eq_true rfl) rfl (st := []) rfl (Nat.le_of_ble_eq_true rfl) (dc9 DL_law_15 16 rfl) rfl (j_xd (c0 := 0) (s0 := 0) hc0 h fun x108 _ h => (j_istore (okx hB) (dc9 DL_law_15 17 rfl) (Nat.le_of_ble_eq_true rfl) rfl (j_aload_n (okx hB) (dc9 DL_law_15 18 rfl) 4 rfl rfl (b19 h fun x109 hc h => j_cV (okx hB) (c_X12_thrown (hsB hB) ((wt_113 x108)) hc) clL_105 cd_X12_thrown im_X12_thrown se_X12_thrown ((wt_113 x108).1) (Nat.le_of_ble_eq_true rfl) rfl (Nat.le_of_ble_eq_true rfl) (Nat.le_of_ble_eq_true rfl) rfl (st := []) rfl (Nat.le_of_ble_eq_true rfl) (dc9 DL_law_15 19 rfl) rfl (j_iload (okx hB) (dc9 DL_law_15 20 rfl) 1 rfl (j_icmp_eq (okx hB) (dj9 DL_law_15 21 1328 rfl rfl) h (fun h => j_iload (okx hB) (dc9 DL_law_15 24 rfl) 1 rfl (j_if_ne (okx hB) (dj9 DL_law_15 25 1352 rfl rfl) h (fun h => j_sub [2, 3, 4, 5, 6] rfl (L_law__wj1352_23 hB hS hL h hk)) (fun h =>
  j_aload_n (okx hB) (dc9 DL_law_15 26 rfl) 5 rfl rfl (j_iconst (okx hB) (dc9 DL_law_15 27 rfl) (j_lald (okx hB) (at_161 x108) (Nat.le_of_ble_eq_true rfl) (dc9 DL_law_15 28 rfl) h fun h => (j_iload (okx hB) (dc9 DL_law_15 29 rfl) 0 rfl (j_if_eq (okx hB) (dj9 DL_law_15 30 1345 rfl rfl) h (fun h => j_lconst (okx hB) (v := 0) (dc9 DL_law_15 33 rfl) rfl (j_sub [2, 3, 4, 5, 6] rfl (L_law__wj1346_23 hB hS hL h hk))) (fun h =>
  j_lconst (okx hB) (v := 1) (dc9 DL_law_15 31 rfl) rfl (j_goto (okx hB) (dj9 DL_law_15 32 1346 rfl rfl) (j_sub [2, 3, 4, 5, 6] rfl (L_law__wj1346_23 hB hS hL h hk))))))))))) (fun h =>
  j_iconst (okx hB) (dc9 DL_law_15 22 rfl) (j_lwr (okx hB) hL (dc9 DL_law_15 23 rfl) (have z := lf9 h hk; z))))))))))))))))))))))))))))))))))) fun h18 h => j_tsI (okx hB) (dc9 DL_law_0 11 rfl) (tgt := 1355) (v := 19) hr h (by decide) (by decide) rfl rfl (fun h => j_aload_n (okx hB) (dc9 DL_law_15 39 rfl) 1 rfl rfl (j_aload_n (okx hB) (dc9 DL_law_15 40 rfl) 0 rfl rfl (j_iload (okx hB) (dc9 DL_law_15 41 rfl) 4 rfl (j_iconst (okx hB) (dc9 DL_law_15 42 rfl) (j_iadd (okx hB) (dc9 DL_law_15 43 rfl) (j_sci (okx hB) hS (dc9 DL_law_15 44 rfl) h fun h => (j_aload_n (okx hB) (dc9 DL_law_15 45 rfl) 0 rfl rfl (j_iload (okx hB) (dc9 DL_law_15 46 rfl) 4 rfl (j_iconst (okx hB) (dc9 DL_law_15 47 rfl) (j_iadd (okx hB) (dc9 DL_law_15 48 rfl) (j_sci (okx hB) hS (dc9 DL_law_15 49 rfl) h fun h => (j_aload_n (okx hB) (dc9 DL_law_16 0 rfl) 0 rfl rfl (j_iload (okx hB) (dc9 DL_law_16 1 rfl) 4 rfl (j_iconst (okx hB) (dc9 DL_law_16 2 rfl) (j_iadd (okx hB) (dc9 DL_law_16 3 rfl) (j_sci (okx hB) hS (dc9 DL_law_16 4 rfl) h fun h => (j_aload_n (okx hB) (dc9 DL_law_16 5 rfl) 0 rfl rfl (j_iload (okx hB) (dc9 DL_law_16 6 rfl) 4 rfl (j_iconst (okx hB) (dc9 DL_law_16 7 rfl) (j_iadd (okx hB) (dc9 DL_law_16 8 rfl) (j_sci (okx hB) hS (dc9 DL_law_16 9 rfl) h fun h => (j_aload_n (okx hB) (dc9 DL_law_16 10 rfl) 0 rfl rfl (j_iload (okx hB) (dc9 DL_law_16 11 rfl) 4 rfl (j_iconst (okx hB) (dc9 DL_law_16 12 rfl) (j_iadd (okx hB) (dc9 DL_law_16 13 rfl) (j_sci (okx hB) hS (dc9 DL_law_16 14 rfl) h fun h => (j_aload_n (okx hB) (dc9 DL_law_16 15 rfl) 0 rfl rfl (j_iload (okx hB) (dc9 DL_law_16 16 rfl) 4 rfl (j_bipush (okx hB) (dc9 DL_law_16 17 rfl) (by decide) (j_iadd (okx hB) (dc9 DL_law_16 18 rfl) (j_sci (okx hB) hS (dc9 DL_law_16 19 rfl) h fun h => (j_aload_n (okx hB) (dc9 DL_law_16 20 rfl) 0 rfl rfl (j_iload (okx hB) (dc9 DL_law_16 21 rfl) 4 rfl (j_bipush (okx hB) (dc9 DL_law_16 22 rfl) (by decide) (j_iadd (okx hB) (dc9 DL_law_16 23 rfl) (j_sci (okx hB) hS (dc9 DL_law_16 24 rfl) h fun h => (j_aload_n (okx hB) (dc9 DL_law_16 25 rfl) 3 rfl rfl (bd9 h fun r110 x111 hc h => gd9 h fun hm h => j_lS (g' := 0) (okx hB) (c_L_told (hsB hB) hc) cwl_168 cw_L_told (Nat.le_of_ble_eq_true rfl) (Nat.le_of_ble_eq_true rfl) rfl (st := []) rfl (Nat.le_of_ble_eq_true rfl) (dc9 DL_law_16 26 rfl) hm (fun p => j_istore (okx hB) (dc9 DL_law_16 27 rfl) (Nat.le_of_ble_eq_true rfl) rfl (j_aload_n (okx hB) (dc9 DL_law_16 28 rfl) 3 rfl rfl (j_aload_n (okx hB) (dc9 DL_law_16 29 rfl) 1 rfl rfl (j_iload (okx hB) (dc9 DL_law_16 30 rfl) 5 rfl (j_iconst (okx hB) (dc9 DL_law_16 31 rfl) (j_iadd (okx hB) (dc9 DL_law_16 32 rfl) (j_sci (okx hB) hS (dc9 DL_law_16 33 rfl) h fun h => (j_aload_n (okx hB) (dc9 DL_law_16 34 rfl) 1 rfl rfl (j_iload (okx hB) (dc9 DL_law_16 35 rfl) 5 rfl (j_iconst (okx hB) (dc9 DL_law_16 36 rfl) (j_iadd (okx hB) (dc9 DL_law_16 37 rfl) (j_sci (okx hB) hS (dc9 DL_law_16 38 rfl) h fun h => (j_aload_n (okx hB) (dc9 DL_law_16 39 rfl) 1 rfl rfl (j_iload (okx hB) (dc9 DL_law_16 40 rfl) 5 rfl (j_iconst (okx hB) (dc9 DL_law_16 41 rfl) (j_iadd (okx hB) (dc9 DL_law_16 42 rfl) (j_sci (okx hB) hS (dc9 DL_law_16 43 rfl) h fun h => (j_aload_n (okx hB) (dc9 DL_law_16 44 rfl) 1 rfl rfl (j_iload (okx hB) (dc9 DL_law_16 45 rfl) 5 rfl (j_iconst (okx hB) (dc9 DL_law_16 46 rfl) (j_iadd (okx hB) (dc9 DL_law_16 47 rfl) (j_sci (okx hB) hS (dc9 DL_law_16 48 rfl) h fun h => (j_aload_n (okx hB) (dc9 DL_law_16 49 rfl) 1 rfl rfl (j_iload (okx hB) (dc9 DL_law_17 0 rfl) 5 rfl (j_iconst (okx hB) (dc9 DL_law_17 1 rfl) (j_iadd (okx hB) (dc9 DL_law_17 2 rfl) (j_sci (okx hB) hS (dc9 DL_law_17 3 rfl) h fun h => (j_aload_n (okx hB) (dc9 DL_law_17 4 rfl) 1 rfl rfl (j_iload (okx hB) (dc9 DL_law_17 5 rfl) 5 rfl (j_bipush (okx hB) (dc9 DL_law_17 6 rfl) (by decide) (j_iadd (okx hB) (dc9 DL_law_17 7 rfl) (j_sci (okx hB) hS (dc9 DL_law_17 8 rfl) h fun h => (j_aload_n (okx hB) (dc9 DL_law_17 9 rfl) 1 rfl rfl (j_iload (okx hB) (dc9 DL_law_17 10 rfl) 5 rfl (j_bipush (okx hB) (dc9 DL_law_17 11 rfl) (by decide) (j_iadd (okx hB) (dc9 DL_law_17 12 rfl) (j_sci (okx hB) hS (dc9 DL_law_17 13 rfl) h fun h => (bd9 h fun x113 d112 hc h => j_cV (okx hB) (c_X12_told (hsB hB) ((wt_113 x111)) hc) clL_170 cd_X12_told im_X12_told se_X12_told ((wt_113 x111).1) (Nat.le_of_ble_eq_true rfl) rfl (Nat.le_of_ble_eq_true rfl) (Nat.le_of_ble_eq_true rfl) rfl (st := []) rfl (Nat.le_of_ble_eq_true rfl) (dc9 DL_law_17 14 rfl) rfl (j_xd (c0 := 0) (s0 := 0) hc0 h fun x114 _ h => (j_istore (okx hB) (dc9 DL_law_17 15 rfl) (Nat.le_of_ble_eq_true rfl) rfl (j_aload_n (okx hB) (dc9 DL_law_17 16 rfl) 4 rfl rfl (b19 h fun x115 hc h => j_cV (okx hB) (c_X12_thrown (hsB hB) ((wt_113 x114)) hc) clL_105 cd_X12_thrown im_X12_thrown se_X12_thrown ((wt_113 x114).1) (Nat.le_of_ble_eq_true rfl) rfl (Nat.le_of_ble_eq_true rfl) (Nat.le_of_ble_eq_true rfl) rfl (st := []) rfl (Nat.le_of_ble_eq_true rfl) (dc9 DL_law_17 17 rfl) rfl (j_iload (okx hB) (dc9 DL_law_17 18 rfl) 1 rfl (j_icmp_eq (okx hB) (dj9 DL_law_17 19 1467 rfl rfl) h (fun h => j_iload (okx hB) (dc9 DL_law_17 22 rfl) 1 rfl (j_if_ne (okx hB) (dj9 DL_law_17 23 1484 rfl rfl) h (fun h => j_sub [2, 3, 4, 5, 6] rfl (L_law__wj1484_23 hB hS hL h hk)) (fun h =>
  j_aload_n (okx hB) (dc9 DL_law_17 24 rfl) 5 rfl rfl (j_iconst (okx hB) (dc9 DL_law_17 25 rfl) (j_lald (okx hB) (at_161 x114) (Nat.le_of_ble_eq_true rfl) (dc9 DL_law_17 26 rfl) h fun h => (j_iload (okx hB) (dc9 DL_law_17 27 rfl) 0 rfl (j_i2l (okx hB) (dc9 DL_law_17 28 rfl) h fun h => (j_lcmp (okx hB) (dc9 DL_law_17 29 rfl) h fun h => (j_if_eq (okx hB) (dj9 DL_law_17 30 1484 rfl rfl) h (fun h => j_sub [2, 3, 4, 5, 6] rfl (L_law__wj1484_23 hB hS hL h hk)) (fun h =>
  j_iconst (okx hB) (dc9 DL_law_17 31 rfl) (j_lwr (okx hB) hL (dc9 DL_law_17 32 rfl) (have z := lf9 h hk; z)))))))))))) (fun h =>
  j_iconst (okx hB) (dc9 DL_law_17 20 rfl) (j_lwr (okx hB) hL (dc9 DL_law_17 21 rfl) (have z := lf9 h hk; z))))))))))))))))))))))))))))))))))))))))))))))))))))))))))))))))))))))))))))))))))))) fun h19 h => j_tsI (okx hB) (dc9 DL_law_0 11 rfl) (tgt := 1487) (v := 20) hr h (by decide) (by decide) rfl rfl (fun h => j_aload_n (okx hB) (dc9 DL_law_17 34 rfl) 1 rfl rfl (j_aload_n (okx hB) (dc9 DL_law_17 35 rfl) 0 rfl rfl (j_iload (okx hB) (dc9 DL_law_17 36 rfl) 4 rfl (j_iconst (okx hB) (dc9 DL_law_17 37 rfl) (j_iadd (okx hB) (dc9 DL_law_17 38 rfl) (j_sci (okx hB) hS (dc9 DL_law_17 39 rfl) h fun h => (j_aload_n (okx hB) (dc9 DL_law_17 40 rfl) 3 rfl rfl (bd9 h fun r116 x117 hc h => gd9 h fun hm h => j_lS (g' := 0) (okx hB) (c_L_check (hsB hB) hc) cwl_171 cw_L_check (Nat.le_of_ble_eq_true rfl) (Nat.le_of_ble_eq_true rfl) rfl (st := []) rfl (Nat.le_of_ble_eq_true rfl) (dc9 DL_law_17 41 rfl) hm (fun p => j_istore (okx hB) (dc9 DL_law_17 42 rfl) (Nat.le_of_ble_eq_true rfl) rfl (j_aload_n (okx hB) (dc9 DL_law_17 43 rfl) 3 rfl rfl (j_aload_n (okx hB) (dc9 DL_law_17 44 rfl) 1 rfl rfl (j_iload (okx hB) (dc9 DL_law_17 45 rfl) 5 rfl (j_iconst (okx hB) (dc9 DL_law_17 46 rfl) (j_iadd (okx hB) (dc9 DL_law_17 47 rfl) (j_sci (okx hB) hS (dc9 DL_law_17 48 rfl) h fun h => (bd9 h fun x119 d118 hc h => j_cV (okx hB) (c_X12_check (hsB hB) ((wt_113 x117)) hc) clL_173 cd_X12_check im_X12_check se_X12_check ((wt_113 x117).1) (Nat.le_of_ble_eq_true rfl) rfl (Nat.le_of_ble_eq_true rfl) (Nat.le_of_ble_eq_true rfl) rfl (st := []) rfl (Nat.le_of_ble_eq_true rfl) (dc9 DL_law_17 49 rfl) rfl (j_xd (c0 := 0) (s0 := 0) hc0 h fun x120 _ h => (j_istore (okx hB) (dc9 DL_law_18 0 rfl) (Nat.le_of_ble_eq_true rfl) rfl (j_aload_n (okx hB) (dc9 DL_law_18 1 rfl) 4 rfl rfl (b19 h fun x121 hc h => j_cV (okx hB) (c_X12_thrown (hsB hB) ((wt_113 x120)) hc) clL_105 cd_X12_thrown im_X12_thrown se_X12_thrown ((wt_113 x120).1) (Nat.le_of_ble_eq_true rfl) rfl (Nat.le_of_ble_eq_true rfl) (Nat.le_of_ble_eq_true rfl) rfl (st := []) rfl (Nat.le_of_ble_eq_true rfl) (dc9 DL_law_18 2 rfl) rfl (j_iload (okx hB) (dc9 DL_law_18 3 rfl) 1 rfl (j_icmp_eq (okx hB) (dj9 DL_law_18 4 1523 rfl rfl) h (fun h => j_iload (okx hB) (dc9 DL_law_18 7 rfl) 1 rfl (j_if_ne (okx hB) (dj9 DL_law_18 8 1540 rfl rfl) h (fun h => j_sub [2, 3, 4, 5, 6] rfl (L_law__wj1540_23 hB hS hL h hk)) (fun h =>
  j_aload_n (okx hB) (dc9 DL_law_18 9 rfl) 5 rfl rfl (j_iconst (okx hB) (dc9 DL_law_18 10 rfl) (j_lald (okx hB) (at_161 x120) (Nat.le_of_ble_eq_true rfl) (dc9 DL_law_18 11 rfl) h fun h => (j_iload (okx hB) (dc9 DL_law_18 12 rfl) 0 rfl (j_i2l (okx hB) (dc9 DL_law_18 13 rfl) h fun h => (j_lcmp (okx hB) (dc9 DL_law_18 14 rfl) h fun h => (j_if_eq (okx hB) (dj9 DL_law_18 15 1540 rfl rfl) h (fun h => j_sub [2, 3, 4, 5, 6] rfl (L_law__wj1540_23 hB hS hL h hk)) (fun h =>
  j_iconst (okx hB) (dc9 DL_law_18 16 rfl) (j_lwr (okx hB) hL (dc9 DL_law_18 17 rfl) (have z := lf9 h hk; z)))))))))))) (fun h =>
  j_iconst (okx hB) (dc9 DL_law_18 5 rfl) (j_lwr (okx hB) hL (dc9 DL_law_18 6 rfl) (have z := lf9 h hk; z))))))))))))))))))))))))) fun h20 h => j_tsI (okx hB) (dc9 DL_law_0 11 rfl) (tgt := 1543) (v := 21) hr h (by decide) (by decide) rfl rfl (fun h => j_aload_n (okx hB) (dc9 DL_law_18 19 rfl) 1 rfl rfl (j_aload_n (okx hB) (dc9 DL_law_18 20 rfl) 0 rfl rfl (j_iload (okx hB) (dc9 DL_law_18 21 rfl) 4 rfl (j_iconst (okx hB) (dc9 DL_law_18 22 rfl) (j_iadd (okx hB) (dc9 DL_law_18 23 rfl) (j_sci (okx hB) hS (dc9 DL_law_18 24 rfl) h fun h => (j_aload_n (okx hB) (dc9 DL_law_18 25 rfl) 3 rfl rfl (bd9 h fun r122 x123 hc h => gd9 h fun hm h => j_lS (g' := 0) (okx hB) (c_L_broken (hsB hB) hc) cwl_174 cw_L_broken (Nat.le_of_ble_eq_true rfl) (Nat.le_of_ble_eq_true rfl) rfl (st := []) rfl (Nat.le_of_ble_eq_true rfl) (dc9 DL_law_18 26 rfl) hm (fun p => j_istore (okx hB) (dc9 DL_law_18 27 rfl) (Nat.le_of_ble_eq_true rfl) rfl (j_aload_n (okx hB) (dc9 DL_law_18 28 rfl) 3 rfl rfl (j_aload_n (okx hB) (dc9 DL_law_18 29 rfl) 1 rfl rfl (j_iload (okx hB) (dc9 DL_law_18 30 rfl) 5 rfl (j_iconst (okx hB) (dc9 DL_law_18 31 rfl) (j_iadd (okx hB) (dc9 DL_law_18 32 rfl) (j_sci (okx hB) hS (dc9 DL_law_18 33 rfl) h fun h => (bd9 h fun x125 d124 hc h => j_cV (okx hB) (c_X12_broken (hsB hB) ((wt_113 x123)) hc) clL_176 cd_X12_broken im_X12_broken se_X12_broken ((wt_113 x123).1) (Nat.le_of_ble_eq_true rfl) rfl (Nat.le_of_ble_eq_true rfl) (Nat.le_of_ble_eq_true rfl) rfl (st := []) rfl (Nat.le_of_ble_eq_true rfl) (dc9 DL_law_18 34 rfl) rfl (j_xd (c0 := 0) (s0 := 0) hc0 h fun x126 _ h => (j_istore (okx hB) (dc9 DL_law_18 35 rfl) (Nat.le_of_ble_eq_true rfl) rfl (j_aload_n (okx hB) (dc9 DL_law_18 36 rfl) 4 rfl rfl (b19 h fun x127 hc h => j_cV (okx hB) (c_X12_thrown (hsB hB) ((wt_113 x126)) hc) clL_105 cd_X12_thrown im_X12_thrown se_X12_thrown ((wt_113 x126).1) (Nat.le_of_ble_eq_true rfl) rfl (Nat.le_of_ble_eq_true rfl) (Nat.le_of_ble_eq_true rfl) rfl (st := []) rfl (Nat.le_of_ble_eq_true rfl) (dc9 DL_law_18 37 rfl) rfl (j_iload (okx hB) (dc9 DL_law_18 38 rfl) 1 rfl (j_icmp_eq (okx hB) (dj9 DL_law_18 39 1579 rfl rfl) h (fun h => j_iload (okx hB) (dc9 DL_law_18 42 rfl) 1 rfl (j_if_ne (okx hB) (dj9 DL_law_18 43 1596 rfl rfl) h (fun h => j_sub [2, 3, 4, 5, 6] rfl (L_law__wj1596_23 hB hS hL h hk)) (fun h =>
  j_aload_n (okx hB) (dc9 DL_law_18 44 rfl) 5 rfl rfl (j_iconst (okx hB) (dc9 DL_law_18 45 rfl) (j_lald (okx hB) (at_161 x126) (Nat.le_of_ble_eq_true rfl) (dc9 DL_law_18 46 rfl) h fun h => (j_iload (okx hB) (dc9 DL_law_18 47 rfl) 0 rfl (j_i2l (okx hB) (dc9 DL_law_18 48 rfl) h fun h => (j_lcmp (okx hB) (dc9 DL_law_18 49 rfl) h fun h => (j_if_eq (okx hB) (dj9 DL_law_19 0 1596 rfl rfl) h (fun h => j_sub [2, 3, 4, 5, 6] rfl (L_law__wj1596_23 hB hS hL h hk)) (fun h =>
  j_iconst (okx hB) (dc9 DL_law_19 1 rfl) (j_lwr (okx hB) hL (dc9 DL_law_19 2 rfl) (have z := lf9 h hk; z)))))))))))) (fun h =>
  j_iconst (okx hB) (dc9 DL_law_18 40 rfl) (j_lwr (okx hB) hL (dc9 DL_law_18 41 rfl) (have z := lf9 h hk; z))))))))))))))))))))))))) fun h21 h => j_tsI (okx hB) (dc9 DL_law_0 11 rfl) (tgt := 1599) (v := 22) hr h (by decide) (by decide) rfl rfl (fun h => j_aload_n (okx hB) (dc9 DL_law_19 4 rfl) 1 rfl rfl (j_aload_n (okx hB) (dc9 DL_law_19 5 rfl) 0 rfl rfl (j_iload (okx hB) (dc9 DL_law_19 6 rfl) 4 rfl (j_iconst (okx hB) (dc9 DL_law_19 7 rfl) (j_iadd (okx hB) (dc9 DL_law_19 8 rfl) (j_sci (okx hB) hS (dc9 DL_law_19 9 rfl) h fun h => (j_aload_n (okx hB) (dc9 DL_law_19 10 rfl) 3 rfl rfl (bd9 h fun r128 x129 hc h => gd9 h fun hm h => j_lS (g' := 0) (okx hB) (c_L_solve (hsB hB) hc) cwl_177 cw_L_solve (Nat.le_of_ble_eq_true rfl) (Nat.le_of_ble_eq_true rfl) rfl (st := []) rfl (Nat.le_of_ble_eq_true rfl) (dc9 DL_law_19 11 rfl) hm (fun p => j_istore (okx hB) (dc9 DL_law_19 12 rfl) (Nat.le_of_ble_eq_true rfl) rfl (j_aload_n (okx hB) (dc9 DL_law_19 13 rfl) 3 rfl rfl (j_aload_n (okx hB) (dc9 DL_law_19 14 rfl) 1 rfl rfl (j_iload (okx hB) (dc9 DL_law_19 15 rfl) 5 rfl (j_iconst (okx hB) (dc9 DL_law_19 16 rfl) (j_iadd (okx hB) (dc9 DL_law_19 17 rfl) (j_sci (okx hB) hS (dc9 DL_law_19 18 rfl) h fun h => (bd9 h fun x131 d130 hc h => j_cV (okx hB) (c_X12_solve (hsB hB) ((wt_113 x129)) hc) clL_179 cd_X12_solve im_X12_solve se_X12_solve ((wt_113 x129).1) (Nat.le_of_ble_eq_true rfl) rfl (Nat.le_of_ble_eq_true rfl) (Nat.le_of_ble_eq_true rfl) rfl (st := []) rfl (Nat.le_of_ble_eq_true rfl) (dc9 DL_law_19 19 rfl) rfl (j_xd (c0 := 0) (s0 := 0) hc0 h fun x132 _ h => (j_istore (okx hB) (dc9 DL_law_19 20 rfl) (Nat.le_of_ble_eq_true rfl) rfl (j_aload_n (okx hB) (dc9 DL_law_19 21 rfl) 4 rfl rfl (b19 h fun x133 hc h => j_cV (okx hB) (c_X12_thrown (hsB hB) ((wt_113 x132)) hc) clL_105 cd_X12_thrown im_X12_thrown se_X12_thrown ((wt_113 x132).1) (Nat.le_of_ble_eq_true rfl) rfl (Nat.le_of_ble_eq_true rfl) (Nat.le_of_ble_eq_true rfl) rfl (st := []) rfl (Nat.le_of_ble_eq_true rfl) (dc9 DL_law_19 22 rfl) rfl (j_iload (okx hB) (dc9 DL_law_19 23 rfl) 1 rfl (j_icmp_eq (okx hB) (dj9 DL_law_19 24 1635 rfl rfl) h (fun h => j_iload (okx hB) (dc9 DL_law_19 27 rfl) 1 rfl (j_if_ne (okx hB) (dj9 DL_law_19 28 1652 rfl rfl) h (fun h => j_sub [2, 3, 4, 5, 6] rfl (L_law__wj1652_23 hB hS hL h hk)) (fun h =>
  j_aload_n (okx hB) (dc9 DL_law_19 29 rfl) 5 rfl rfl (j_iconst (okx hB) (dc9 DL_law_19 30 rfl) (j_lald (okx hB) (at_161 x132) (Nat.le_of_ble_eq_true rfl) (dc9 DL_law_19 31 rfl) h fun h => (j_iload (okx hB) (dc9 DL_law_19 32 rfl) 0 rfl (j_i2l (okx hB) (dc9 DL_law_19 33 rfl) h fun h => (j_lcmp (okx hB) (dc9 DL_law_19 34 rfl) h fun h => (j_if_eq (okx hB) (dj9 DL_law_19 35 1652 rfl rfl) h (fun h => j_sub [2, 3, 4, 5, 6] rfl (L_law__wj1652_23 hB hS hL h hk)) (fun h =>
  j_iconst (okx hB) (dc9 DL_law_19 36 rfl) (j_lwr (okx hB) hL (dc9 DL_law_19 37 rfl) (have z := lf9 h hk; z)))))))))))) (fun h =>
  j_iconst (okx hB) (dc9 DL_law_19 25 rfl) (j_lwr (okx hB) hL (dc9 DL_law_19 26 rfl) (have z := lf9 h hk; z))))))))))))))))))))))))) fun h22 h => j_tsI (okx hB) (dc9 DL_law_0 11 rfl) (tgt := 1655) (v := 23) hr h (by decide) (by decide) rfl rfl (fun h => j_aload_n (okx hB) (dc9 DL_law_19 39 rfl) 1 rfl rfl (j_aload_n (okx hB) (dc9 DL_law_19 40 rfl) 0 rfl rfl (j_iload (okx hB) (dc9 DL_law_19 41 rfl) 4 rfl (j_iconst (okx hB) (dc9 DL_law_19 42 rfl) (j_iadd (okx hB) (dc9 DL_law_19 43 rfl) (j_sci (okx hB) hS (dc9 DL_law_19 44 rfl) h fun h => (j_aload_n (okx hB) (dc9 DL_law_19 45 rfl) 0 rfl rfl (j_iload (okx hB) (dc9 DL_law_19 46 rfl) 4 rfl (j_iconst (okx hB) (dc9 DL_law_19 47 rfl) (j_iadd (okx hB) (dc9 DL_law_19 48 rfl) (j_sci (okx hB) hS (dc9 DL_law_19 49 rfl) h fun h => (j_aload_n (okx hB) (dc9 DL_law_20 0 rfl) 0 rfl rfl (j_iload (okx hB) (dc9 DL_law_20 1 rfl) 4 rfl (j_iconst (okx hB) (dc9 DL_law_20 2 rfl) (j_iadd (okx hB) (dc9 DL_law_20 3 rfl) (j_sci (okx hB) hS (dc9 DL_law_20 4 rfl) h fun h => (j_aload_n (okx hB) (dc9 DL_law_20 5 rfl) 3 rfl rfl (bd9 h fun r134 x135 hc h => gd9 h fun hm h => j_lS (g' := 0) (okx hB) (c_L_s (hsB hB) hc) cwl_180 cw_L_s (Nat.le_of_ble_eq_true rfl) (Nat.le_of_ble_eq_true rfl) rfl (st := []) rfl (Nat.le_of_ble_eq_true rfl) (dc9 DL_law_20 6 rfl) hm (fun p => j_istore (okx hB) (dc9 DL_law_20 7 rfl) (Nat.le_of_ble_eq_true rfl) rfl (j_aload_n (okx hB) (dc9 DL_law_20 8 rfl) 3 rfl rfl (j_aload_n (okx hB) (dc9 DL_law_20 9 rfl) 1 rfl rfl (j_iload (okx hB) (dc9 DL_law_20 10 rfl) 5 rfl (j_iconst (okx hB) (dc9 DL_law_20 11 rfl) (j_iadd (okx hB) (dc9 DL_law_20 12 rfl) (j_sci (okx hB) hS (dc9 DL_law_20 13 rfl) h fun h => (j_aload_n (okx hB) (dc9 DL_law_20 14 rfl) 1 rfl rfl (j_iload (okx hB) (dc9 DL_law_20 15 rfl) 5 rfl (j_iconst (okx hB) (dc9 DL_law_20 16 rfl) (j_iadd (okx hB) (dc9 DL_law_20 17 rfl) (j_sci (okx hB) hS (dc9 DL_law_20 18 rfl) h fun h => (j_aload_n (okx hB) (dc9 DL_law_20 19 rfl) 1 rfl rfl (j_iload (okx hB) (dc9 DL_law_20 20 rfl) 5 rfl (j_iconst (okx hB) (dc9 DL_law_20 21 rfl) (j_iadd (okx hB) (dc9 DL_law_20 22 rfl) (j_sci (okx hB) hS (dc9 DL_law_20 23 rfl) h fun h => (bd9 h fun x137 d136 hc h => j_cV (okx hB) (c_X12_s (hsB hB) ((wt_113 x135)) hc) clL_182 cd_X12_s im_X12_s se_X12_s ((wt_113 x135).1) (Nat.le_of_ble_eq_true rfl) rfl (Nat.le_of_ble_eq_true rfl) (Nat.le_of_ble_eq_true rfl) rfl (st := []) rfl (Nat.le_of_ble_eq_true rfl) (dc9 DL_law_20 24 rfl) rfl (j_xd (c0 := 0) (s0 := 0) hc0 h fun x138 _ h => (j_istore (okx hB) (dc9 DL_law_20 25 rfl) (Nat.le_of_ble_eq_true rfl) rfl (j_aload_n (okx hB) (dc9 DL_law_20 26 rfl) 4 rfl rfl (b19 h fun x139 hc h => j_cV (okx hB) (c_X12_thrown (hsB hB) ((wt_113 x138)) hc) clL_105 cd_X12_thrown im_X12_thrown se_X12_thrown ((wt_113 x138).1) (Nat.le_of_ble_eq_true rfl) rfl (Nat.le_of_ble_eq_true rfl) (Nat.le_of_ble_eq_true rfl) rfl (st := []) rfl (Nat.le_of_ble_eq_true rfl) (dc9 DL_law_20 27 rfl) rfl (j_iload (okx hB) (dc9 DL_law_20 28 rfl) 1 rfl (j_icmp_eq (okx hB) (dj9 DL_law_20 29 1715 rfl rfl) h (fun h => j_iload (okx hB) (dc9 DL_law_20 32 rfl) 1 rfl (j_if_ne (okx hB) (dj9 DL_law_20 33 1732 rfl rfl) h (fun h => j_sub [2, 3, 4, 5, 6] rfl (L_law__wj1732_23 hB hS hL h hk)) (fun h =>
  j_aload_n (okx hB) (dc9 DL_law_20 34 rfl) 5 rfl rfl (j_iconst (okx hB) (dc9 DL_law_20 35 rfl) (j_lald (okx hB) (at_161 x138) (Nat.le_of_ble_eq_true rfl) (dc9 DL_law_20 36 rfl) h fun h => (j_iload (okx hB) (dc9 DL_law_20 37 rfl) 0 rfl (j_i2l (okx hB) (dc9 DL_law_20 38 rfl) h fun h => (j_lcmp (okx hB) (dc9 DL_law_20 39 rfl) h fun h => (j_if_eq (okx hB) (dj9 DL_law_20 40 1732 rfl rfl) h (fun h => j_sub [2, 3, 4, 5, 6] rfl (L_law__wj1732_23 hB hS hL h hk)) (fun h =>
  j_iconst (okx hB) (dc9 DL_law_20 41 rfl) (j_lwr (okx hB) hL (dc9 DL_law_20 42 rfl) (have z := lf9 h hk; z)))))))))))) (fun h =>
  j_iconst (okx hB) (dc9 DL_law_20 30 rfl) (j_lwr (okx hB) hL (dc9 DL_law_20 31 rfl) (have z := lf9 h hk; z))))))))))))))))))))))))))))))))))))))))))))) fun h23 h => j_tsI (okx hB) (dc9 DL_law_0 11 rfl) (tgt := 1735) (v := 24) hr h (by decide) (by decide) rfl rfl (fun h => j_aload_n (okx hB) (dc9 DL_law_20 44 rfl) 1 rfl rfl (j_aload_n (okx hB) (dc9 DL_law_20 45 rfl) 0 rfl rfl (j_iload (okx hB) (dc9 DL_law_20 46 rfl) 4 rfl (j_iconst (okx hB) (dc9 DL_law_20 47 rfl) (j_iadd (okx hB) (dc9 DL_law_20 48 rfl) (j_sci (okx hB) hS (dc9 DL_law_20 49 rfl) h fun h => (j_aload_n (okx hB) (dc9 DL_law_21 0 rfl) 3 rfl rfl (bd9 h fun r140 x141 hc h => gd9 h fun hm h => j_lS (g' := 0) (okx hB) (c_L_holds (hsB hB) hc) cwl_183 cw_L_holds (Nat.le_of_ble_eq_true rfl) (Nat.le_of_ble_eq_true rfl) rfl (st := []) rfl (Nat.le_of_ble_eq_true rfl) (dc9 DL_law_21 1 rfl) hm (fun p => j_istore (okx hB) (dc9 DL_law_21 2 rfl) (Nat.le_of_ble_eq_true rfl) rfl (j_aload_n (okx hB) (dc9 DL_law_21 3 rfl) 3 rfl rfl (j_aload_n (okx hB) (dc9 DL_law_21 4 rfl) 1 rfl rfl (j_iload (okx hB) (dc9 DL_law_21 5 rfl) 5 rfl (j_iconst (okx hB) (dc9 DL_law_21 6 rfl) (j_iadd (okx hB) (dc9 DL_law_21 7 rfl) (j_sci (okx hB) hS (dc9 DL_law_21 8 rfl) h fun h => (bd9 h fun x143 d142 hc h => j_cV (okx hB) (c_X12_holds (hsB hB) ((wt_113 x141)) hc) clL_185 cd_X12_holds im_X12_holds se_X12_holds ((wt_113 x141).1) (Nat.le_of_ble_eq_true rfl) rfl (Nat.le_of_ble_eq_true rfl) (Nat.le_of_ble_eq_true rfl) rfl (st := []) rfl (Nat.le_of_ble_eq_true rfl) (dc9 DL_law_21 9 rfl) rfl (j_xd (c0 := 0) (s0 := 0) hc0 h fun x144 _ h => (j_istore (okx hB) (dc9 DL_law_21 10 rfl) (Nat.le_of_ble_eq_true rfl) rfl (j_aload_n (okx hB) (dc9 DL_law_21 11 rfl) 4 rfl rfl (b19 h fun x145 hc h => j_cV (okx hB) (c_X12_thrown (hsB hB) ((wt_113 x144)) hc) clL_105 cd_X12_thrown im_X12_thrown se_X12_thrown ((wt_113 x144).1) (Nat.le_of_ble_eq_true rfl) rfl (Nat.le_of_ble_eq_true rfl) (Nat.le_of_ble_eq_true rfl) rfl (st := []) rfl (Nat.le_of_ble_eq_true rfl) (dc9 DL_law_21 12 rfl) rfl (j_iload (okx hB) (dc9 DL_law_21 13 rfl) 1 rfl (j_icmp_eq (okx hB) (dj9 DL_law_21 14 1771 rfl rfl) h (fun h => j_iload (okx hB) (dc9 DL_law_21 17 rfl) 1 rfl (j_if_ne (okx hB) (dj9 DL_law_21 18 1788 rfl rfl) h (fun h => j_sub [2, 3, 4, 5, 6] rfl (L_law__wj1788_23 hB hS hL h hk)) (fun h =>
  j_aload_n (okx hB) (dc9 DL_law_21 19 rfl) 5 rfl rfl (j_iconst (okx hB) (dc9 DL_law_21 20 rfl) (j_lald (okx hB) (at_161 x144) (Nat.le_of_ble_eq_true rfl) (dc9 DL_law_21 21 rfl) h fun h => (j_iload (okx hB) (dc9 DL_law_21 22 rfl) 0 rfl (j_i2l (okx hB) (dc9 DL_law_21 23 rfl) h fun h => (j_lcmp (okx hB) (dc9 DL_law_21 24 rfl) h fun h => (j_if_eq (okx hB) (dj9 DL_law_21 25 1788 rfl rfl) h (fun h => j_sub [2, 3, 4, 5, 6] rfl (L_law__wj1788_23 hB hS hL h hk)) (fun h =>
  j_iconst (okx hB) (dc9 DL_law_21 26 rfl) (j_lwr (okx hB) hL (dc9 DL_law_21 27 rfl) (have z := lf9 h hk; z)))))))))))) (fun h =>
  j_iconst (okx hB) (dc9 DL_law_21 15 rfl) (j_lwr (okx hB) hL (dc9 DL_law_21 16 rfl) (have z := lf9 h hk; z))))))))))))))))))))))))) fun h24 h => j_tsI (okx hB) (dc9 DL_law_0 11 rfl) (tgt := 1791) (v := 25) hr h (by decide) (by decide) rfl rfl (fun h => j_aload_n (okx hB) (dc9 DL_law_21 29 rfl) 1 rfl rfl (j_aload_n (okx hB) (dc9 DL_law_21 30 rfl) 0 rfl rfl (j_iload (okx hB) (dc9 DL_law_21 31 rfl) 4 rfl (j_iconst (okx hB) (dc9 DL_law_21 32 rfl) (j_iadd (okx hB) (dc9 DL_law_21 33 rfl) (j_sci (okx hB) hS (dc9 DL_law_21 34 rfl) h fun h => (j_aload_n (okx hB) (dc9 DL_law_21 35 rfl) 0 rfl rfl (j_iload (okx hB) (dc9 DL_law_21 36 rfl) 4 rfl (j_iconst (okx hB) (dc9 DL_law_21 37 rfl) (j_iadd (okx hB) (dc9 DL_law_21 38 rfl) (j_sci (okx hB) hS (dc9 DL_law_21 39 rfl) h fun h => (j_aload_n (okx hB) (dc9 DL_law_21 40 rfl) 0 rfl rfl (j_iload (okx hB) (dc9 DL_law_21 41 rfl) 4 rfl (j_iconst (okx hB) (dc9 DL_law_21 42 rfl) (j_iadd (okx hB) (dc9 DL_law_21 43 rfl) (j_sci (okx hB) hS (dc9 DL_law_21 44 rfl) h fun h => (j_aload_n (okx hB) (dc9 DL_law_21 45 rfl) 3 rfl rfl (bd9 h fun r146 x147 hc h => gd9 h fun hm h => j_lS (g' := 71) (okx hB) (c_L_turned (hsB hB) hc) cwl_186 cw_L_turned (Nat.le_of_ble_eq_true rfl) (Nat.le_of_ble_eq_true rfl) rfl (st := []) rfl (Nat.le_of_ble_eq_true rfl) (dc9 DL_law_21 46 rfl) hm (fun p => j_istore (okx hB) (dc9 DL_law_21 47 rfl) (Nat.le_of_ble_eq_true rfl) rfl (j_aload_n (okx hB) (dc9 DL_law_21 48 rfl) 3 rfl rfl (j_aload_n (okx hB) (dc9 DL_law_21 49 rfl) 1 rfl rfl (j_iload (okx hB) (dc9 DL_law_22 0 rfl) 5 rfl (j_iconst (okx hB) (dc9 DL_law_22 1 rfl) (j_iadd (okx hB) (dc9 DL_law_22 2 rfl) (j_sci (okx hB) hS (dc9 DL_law_22 3 rfl) h fun h => (j_aload_n (okx hB) (dc9 DL_law_22 4 rfl) 1 rfl rfl (j_iload (okx hB) (dc9 DL_law_22 5 rfl) 5 rfl (j_iconst (okx hB) (dc9 DL_law_22 6 rfl) (j_iadd (okx hB) (dc9 DL_law_22 7 rfl) (j_sci (okx hB) hS (dc9 DL_law_22 8 rfl) h fun h => (j_aload_n (okx hB) (dc9 DL_law_22 9 rfl) 1 rfl rfl (j_iload (okx hB) (dc9 DL_law_22 10 rfl) 5 rfl (j_iconst (okx hB) (dc9 DL_law_22 11 rfl) (j_iadd (okx hB) (dc9 DL_law_22 12 rfl) (j_sci (okx hB) hS (dc9 DL_law_22 13 rfl) h fun h => (bd9 h fun x149 d148 hc h => j_cV (okx hB) (c_X12_turned (hsB hB) ((wt_113 x147)) hc) clL_188 cd_X12_turned im_X12_turned se_X12_turned ((wt_113 x147).1) (Nat.le_of_ble_eq_true rfl) rfl (Nat.le_of_ble_eq_true rfl) (Nat.le_of_ble_eq_true rfl) rfl (st := []) rfl (Nat.le_of_ble_eq_true rfl) (dc9 DL_law_22 14 rfl) rfl (j_xd (c0 := 0) (s0 := 0) hc0 h fun x150 _ h => (j_istore (okx hB) (dc9 DL_law_22 15 rfl) (Nat.le_of_ble_eq_true rfl) rfl (j_aload_n (okx hB) (dc9 DL_law_22 16 rfl) 4 rfl rfl (b19 h fun x151 hc h => j_cV (okx hB) (c_X12_thrown (hsB hB) ((wt_113 x150)) hc) clL_105 cd_X12_thrown im_X12_thrown se_X12_thrown ((wt_113 x150).1) (Nat.le_of_ble_eq_true rfl) rfl (Nat.le_of_ble_eq_true rfl) (Nat.le_of_ble_eq_true rfl) rfl (st := []) rfl (Nat.le_of_ble_eq_true rfl) (dc9 DL_law_22 17 rfl) rfl (j_iload (okx hB) (dc9 DL_law_22 18 rfl) 1 rfl (j_icmp_eq (okx hB) (dj9 DL_law_22 19 1851 rfl rfl) h (fun h => j_iload (okx hB) (dc9 DL_law_22 22 rfl) 1 rfl (j_if_ne (okx hB) (dj9 DL_law_22 23 1868 rfl rfl) h (fun h => j_sub [2, 3, 4, 5, 6] rfl (L_law__wj1868_23 hB hS hL h hk)) (fun h =>
  j_aload_n (okx hB) (dc9 DL_law_22 24 rfl) 5 rfl rfl (j_iconst (okx hB) (dc9 DL_law_22 25 rfl) (j_lald (okx hB) (at_161 x150) (Nat.le_of_ble_eq_true rfl) (dc9 DL_law_22 26 rfl) h fun h => (j_iload (okx hB) (dc9 DL_law_22 27 rfl) 0 rfl (j_i2l (okx hB) (dc9 DL_law_22 28 rfl) h fun h => (j_lcmp (okx hB) (dc9 DL_law_22 29 rfl) h fun h => (j_if_eq (okx hB) (dj9 DL_law_22 30 1868 rfl rfl) h (fun h => j_sub [2, 3, 4, 5, 6] rfl (L_law__wj1868_23 hB hS hL h hk)) (fun h =>
  j_iconst (okx hB) (dc9 DL_law_22 31 rfl) (j_lwr (okx hB) hL (dc9 DL_law_22 32 rfl) (have z := lf9 h hk; z)))))))))))) (fun h =>
  j_iconst (okx hB) (dc9 DL_law_22 20 rfl) (j_lwr (okx hB) hL (dc9 DL_law_22 21 rfl) (have z := lf9 h hk; z))))))))))))))))))))))))))))))))))))))))))))) fun h25 h => j_tsI (okx hB) (dc9 DL_law_0 11 rfl) (tgt := 1871) (v := 26) hr h (by decide) (by decide) rfl rfl (fun h => j_aload_n (okx hB) (dc9 DL_law_22 34 rfl) 1 rfl rfl (j_aload_n (okx hB) (dc9 DL_law_22 35 rfl) 0 rfl rfl (j_iload (okx hB) (dc9 DL_law_22 36 rfl) 4 rfl (j_iconst (okx hB) (dc9 DL_law_22 37 rfl) (j_iadd (okx hB) (dc9 DL_law_22 38 rfl) (j_sci (okx hB) hS (dc9 DL_law_22 39 rfl) h fun h => (bd9 h fun x153 d152 hc h => j_cV (okx hB) (c_X11_letter (hsB hB) ((wt_1 x)) hc) clL_189 cd_X11_letter im_X11_letter se_X11_letter ((wt_1 x).1) (Nat.le_of_ble_eq_true rfl) rfl (Nat.le_of_ble_eq_true rfl) (Nat.le_of_ble_eq_true rfl) rfl (st := []) rfl (Nat.le_of_ble_eq_true rfl) (dc9 DL_law_22 40 rfl) rfl (j_xd (c0 := 0) (s0 := 0) hc0 h fun x154 _ h => (j_aload_n (okx hB) (dc9 DL_law_22 41 rfl) 2 rfl rfl (j_aload_n (okx hB) (dc9 DL_law_22 42 rfl) 0 rfl rfl (j_iload (okx hB) (dc9 DL_law_22 43 rfl) 4 rfl (j_iconst (okx hB) (dc9 DL_law_22 44 rfl) (j_iadd (okx hB) (dc9 DL_law_22 45 rfl) (j_sci (okx hB) hS (dc9 DL_law_22 46 rfl) h fun h => (bd9 h fun x156 d155 hc h => j_cV (okx hB) (c_X12_letter (hsB hB) ((wt_113 x154)) hc) clL_192 cd_X12_letter im_X12_letter se_X12_letter ((wt_113 x154).1) (Nat.le_of_ble_eq_true rfl) rfl (Nat.le_of_ble_eq_true rfl) (Nat.le_of_ble_eq_true rfl) rfl (st := [vi x153]) rfl (Nat.le_of_ble_eq_true rfl) (dc9 DL_law_22 47 rfl) rfl (j_xd (c0 := 0) (s0 := 0) hc0 h fun x157 _ h => (j_icmp_eq (okx hB) (dj9 DL_law_22 48 2026 rfl rfl) h (fun h => j_iinc (okx hB) (dc9 DL_law_24 32 rfl) 4 rfl (Nat.le_of_ble_eq_true rfl) rfl (j_goto (okx hB) (dj9 DL_law_24 33 23 rfl rfl) (j_sub [1, 2, 3, 4, 0] rfl ((have z := lf9 h hk; z _))))) (fun h =>
  j_iconst (okx hB) (dc9 DL_law_22 49 rfl) (j_lwr (okx hB) hL (dc9 DL_law_23 0 rfl) (have z := lf9 h hk; z)))))))))))))))))))) fun h26 h => j_tsI (okx hB) (dc9 DL_law_0 11 rfl) (tgt := 1896) (v := 27) hr h (by decide) (by decide) rfl rfl (fun h => j_aload_n (okx hB) (dc9 DL_law_23 1 rfl) 1 rfl rfl (j_aload_n (okx hB) (dc9 DL_law_23 2 rfl) 0 rfl rfl (j_iload (okx hB) (dc9 DL_law_23 3 rfl) 4 rfl (j_iconst (okx hB) (dc9 DL_law_23 4 rfl) (j_iadd (okx hB) (dc9 DL_law_23 5 rfl) (j_sci (okx hB) hS (dc9 DL_law_23 6 rfl) h fun h => (j_aload_n (okx hB) (dc9 DL_law_23 7 rfl) 0 rfl rfl (j_iload (okx hB) (dc9 DL_law_23 8 rfl) 4 rfl (j_iconst (okx hB) (dc9 DL_law_23 9 rfl) (j_iadd (okx hB) (dc9 DL_law_23 10 rfl) (j_sci (okx hB) hS (dc9 DL_law_23 11 rfl) h fun h => (j_aload_n (okx hB) (dc9 DL_law_23 12 rfl) 0 rfl rfl (j_iload (okx hB) (dc9 DL_law_23 13 rfl) 4 rfl (j_iconst (okx hB) (dc9 DL_law_23 14 rfl) (j_iadd (okx hB) (dc9 DL_law_23 15 rfl) (j_sci (okx hB) hS (dc9 DL_law_23 16 rfl) h fun h => (j_aload_n (okx hB) (dc9 DL_law_23 17 rfl) 3 rfl rfl (bd9 h fun r158 x159 hc h => gd9 h fun hm h => j_lS (g' := 0) (okx hB) (c_L_braid (hsB hB) hc) cwl_193 cw_L_braid (Nat.le_of_ble_eq_true rfl) (Nat.le_of_ble_eq_true rfl) rfl (st := []) rfl (Nat.le_of_ble_eq_true rfl) (dc9 DL_law_23 18 rfl) hm (fun p => j_istore (okx hB) (dc9 DL_law_23 19 rfl) (Nat.le_of_ble_eq_true rfl) rfl (j_aload_n (okx hB) (dc9 DL_law_23 20 rfl) 3 rfl rfl (j_aload_n (okx hB) (dc9 DL_law_23 21 rfl) 1 rfl rfl (j_iload (okx hB) (dc9 DL_law_23 22 rfl) 5 rfl (j_iconst (okx hB) (dc9 DL_law_23 23 rfl) (j_iadd (okx hB) (dc9 DL_law_23 24 rfl) (j_sci (okx hB) hS (dc9 DL_law_23 25 rfl) h fun h => (j_aload_n (okx hB) (dc9 DL_law_23 26 rfl) 1 rfl rfl (j_iload (okx hB) (dc9 DL_law_23 27 rfl) 5 rfl (j_iconst (okx hB) (dc9 DL_law_23 28 rfl) (j_iadd (okx hB) (dc9 DL_law_23 29 rfl) (j_sci (okx hB) hS (dc9 DL_law_23 30 rfl) h fun h => (j_aload_n (okx hB) (dc9 DL_law_23 31 rfl) 1 rfl rfl (j_iload (okx hB) (dc9 DL_law_23 32 rfl) 5 rfl (j_iconst (okx hB) (dc9 DL_law_23 33 rfl) (j_iadd (okx hB) (dc9 DL_law_23 34 rfl) (j_sci (okx hB) hS (dc9 DL_law_23 35 rfl) h fun h => (xb9 h (fun r160 x161 hc hm h => j_xVg (g' := 162) (by decide) (okx hB) (rv := (some (vi r160))) (c_X12_braid (hsB hB) hc) clL_195 cd_X12_braid im_X12_braid se_X12_braid ((wt_113 x159).1) (Nat.le_of_ble_eq_true rfl) rfl (Nat.le_of_ble_eq_true rfl) (Nat.le_of_ble_eq_true rfl) rfl (st := []) rfl (Nat.le_of_ble_eq_true rfl) (dc9 DL_law_23 36 rfl) rfl hc0 hm (fun p => j_istore (okx hB) (dc9 DL_law_23 37 rfl) (Nat.le_of_ble_eq_true rfl) rfl (j_aload_n (okx hB) (dc9 DL_law_23 38 rfl) 4 rfl rfl (b19 h fun x162 hc h => j_cV (okx hB) (c_X12_thrown (hsB hB) ((wt_113 x161)) hc) clL_105 cd_X12_thrown im_X12_thrown se_X12_thrown ((wt_113 x161).1) (Nat.le_of_ble_eq_true rfl) rfl (Nat.le_of_ble_eq_true rfl) (Nat.le_of_ble_eq_true rfl) rfl (st := []) rfl (Nat.le_of_ble_eq_true rfl) (dc9 DL_law_23 39 rfl) rfl (j_iload (okx hB) (dc9 DL_law_23 40 rfl) 1 rfl (j_icmp_eq (okx hB) (dj9 DL_law_23 41 1956 rfl rfl) h (fun h => j_iload (okx hB) (dc9 DL_law_23 44 rfl) 1 rfl (j_if_ne (okx hB) (dj9 DL_law_23 45 1973 rfl rfl) h (fun h => j_sub [2, 3, 4, 5, 6] rfl (L_law__wj1973_23 hB hS hL h hk)) (fun h =>
  j_aload_n (okx hB) (dc9 DL_law_23 46 rfl) 5 rfl rfl (j_iconst (okx hB) (dc9 DL_law_23 47 rfl) (j_lald (okx hB) (at_161 x161) (Nat.le_of_ble_eq_true rfl) (dc9 DL_law_23 48 rfl) h fun h => (j_iload (okx hB) (dc9 DL_law_23 49 rfl) 0 rfl (j_i2l (okx hB) (dc9 DL_law_24 0 rfl) h fun h => (j_lcmp (okx hB) (dc9 DL_law_24 1 rfl) h fun h => (j_if_eq (okx hB) (dj9 DL_law_24 2 1973 rfl rfl) h (fun h => j_sub [2, 3, 4, 5, 6] rfl (L_law__wj1973_23 hB hS hL h hk)) (fun h =>
  j_iconst (okx hB) (dc9 DL_law_24 3 rfl) (j_lwr (okx hB) hL (dc9 DL_law_24 4 rfl) (have z := lf9 h hk; z)))))))))))) (fun h =>
  j_iconst (okx hB) (dc9 DL_law_23 42 rfl) (j_lwr (okx hB) hL (dc9 DL_law_23 43 rfl) (have z := lf9 h hk; z))))))))) (fun _ _ _ _ h => nomatch h))))))))))))))))))))))))))))))))))))) fun h27 h => j_tsI (okx hB) (dc9 DL_law_0 11 rfl) (tgt := 1976) (v := 28) hr h (by decide) (by decide) rfl rfl (fun h => j_aload_n (okx hB) (dc9 DL_law_24 6 rfl) 1 rfl rfl (bd9 h fun x164 d163 hc h => j_cV (okx hB) (c_X11_back (hsB hB) ((wt_1 x)) hc) clL_196 cd_X11_back im_X11_back se_X11_back ((wt_1 x).1) (Nat.le_of_ble_eq_true rfl) rfl (Nat.le_of_ble_eq_true rfl) (Nat.le_of_ble_eq_true rfl) rfl (st := []) rfl (Nat.le_of_ble_eq_true rfl) (dc9 DL_law_24 7 rfl) rfl (j_xd (c0 := 0) (s0 := 0) hc0 h fun x165 _ h => (j_aload_n (okx hB) (dc9 DL_law_24 8 rfl) 2 rfl rfl (bd9 h fun x167 d166 hc h => j_cV (okx hB) (c_X12_back (hsB hB) ((wt_113 x165)) hc) clL_200 cd_X12_back im_X12_back se_X12_back ((wt_113 x165).1) (Nat.le_of_ble_eq_true rfl) rfl (Nat.le_of_ble_eq_true rfl) (Nat.le_of_ble_eq_true rfl) rfl (st := [vi x164]) rfl (Nat.le_of_ble_eq_true rfl) (dc9 DL_law_24 9 rfl) rfl (j_xd (c0 := 0) (s0 := 0) hc0 h fun x168 _ h => (j_icmp_eq (okx hB) (dj9 DL_law_24 10 2026 rfl rfl) h (fun h => j_iinc (okx hB) (dc9 DL_law_24 32 rfl) 4 rfl (Nat.le_of_ble_eq_true rfl) rfl (j_goto (okx hB) (dj9 DL_law_24 33 23 rfl rfl) (j_sub [1, 2, 3, 4, 0] rfl ((have z := lf9 h hk; z _))))) (fun h =>
  j_iconst (okx hB) (dc9 DL_law_24 11 rfl) (j_lwr (okx hB) hL (dc9 DL_law_24 12 rfl) (have z := lf9 h hk; z)))))))))) fun h28 h => j_tsI (okx hB) (dc9 DL_law_0 11 rfl) (tgt := 1989) (v := 29) hr h (by decide) (by decide) rfl rfl (fun h => j_aload_n (okx hB) (dc9 DL_law_24 13 rfl) 1 rfl rfl (bd9 h fun x170 d169 hc h => j_cV (okx hB) (c_X11_again (hsB hB) ((wt_1 x)) hc) clL_201 cd_X11_again im_X11_again se_X11_again ((wt_1 x).1) (Nat.le_of_ble_eq_true rfl) rfl (Nat.le_of_ble_eq_true rfl) (Nat.le_of_ble_eq_true rfl) rfl (st := []) rfl (Nat.le_of_ble_eq_true rfl) (dc9 DL_law_24 14 rfl) rfl (j_xd (c0 := 0) (s0 := 0) hc0 h fun x171 _ h => (j_aload_n (okx hB) (dc9 DL_law_24 15 rfl) 2 rfl rfl (bd9 h fun x173 d172 hc h => j_cV (okx hB) (c_X12_again (hsB hB) ((wt_113 x171)) hc) clL_204 cd_X12_again im_X12_again se_X12_again ((wt_113 x171).1) (Nat.le_of_ble_eq_true rfl) rfl (Nat.le_of_ble_eq_true rfl) (Nat.le_of_ble_eq_true rfl) rfl (st := [vi x170]) rfl (Nat.le_of_ble_eq_true rfl) (dc9 DL_law_24 16 rfl) rfl (j_xd (c0 := 0) (s0 := 0) hc0 h fun x174 _ h => (j_icmp_eq (okx hB) (dj9 DL_law_24 17 2026 rfl rfl) h (fun h => j_iinc (okx hB) (dc9 DL_law_24 32 rfl) 4 rfl (Nat.le_of_ble_eq_true rfl) rfl (j_goto (okx hB) (dj9 DL_law_24 33 23 rfl rfl) (j_sub [1, 2, 3, 4, 0] rfl ((have z := lf9 h hk; z _))))) (fun h =>
  j_iconst (okx hB) (dc9 DL_law_24 18 rfl) (j_lwr (okx hB) hL (dc9 DL_law_24 19 rfl) (have z := lf9 h hk; z)))))))))) fun h29 h => j_tsI (okx hB) (dc9 DL_law_0 11 rfl) (tgt := 2002) (v := 30) hr h (by decide) (by decide) rfl rfl (fun h => j_aload_n (okx hB) (dc9 DL_law_24 20 rfl) 1 rfl rfl (bd9 h fun _ d175 hc h => j_cV (okx hB) (c_X11_image (hsB hB) ((wt_1 x)) hc) clL_205 cd_X11_image im_X11_image se_X11_image ((wt_1 x).1) (Nat.le_of_ble_eq_true rfl) rfl (Nat.le_of_ble_eq_true rfl) (Nat.le_of_ble_eq_true rfl) rfl (st := []) rfl (Nat.le_of_ble_eq_true rfl) (dc9 DL_law_24 21 rfl) rfl (j_xd (c0 := 0) (s0 := 0) hc0 h fun x176 _ h => (j_aload_n (okx hB) (dc9 DL_law_24 22 rfl) 2 rfl rfl (bd9 h fun _ d177 hc h => j_cV (okx hB) (c_X12_image (hsB hB) ((wt_113 x176)) hc) clL_208 cd_X12_image im_X12_image se_X12_image ((wt_113 x176).1) (Nat.le_of_ble_eq_true rfl) rfl (Nat.le_of_ble_eq_true rfl) (Nat.le_of_ble_eq_true rfl) rfl (st := []) rfl (Nat.le_of_ble_eq_true rfl) (dc9 DL_law_24 23 rfl) rfl (j_xd (c0 := 0) (s0 := 0) hc0 h fun x178 _ h => (j_goto (okx hB) (dj9 DL_law_24 24 2026 rfl rfl) (j_iinc (okx hB) (dc9 DL_law_24 32 rfl) 4 rfl (Nat.le_of_ble_eq_true rfl) rfl (j_goto (okx hB) (dj9 DL_law_24 33 23 rfl rfl) (j_sub [1, 2, 3, 4, 0] rfl ((have z := lf9 h hk; z _)))))))))))) fun h30 h => j_tsI (okx hB) (dc9 DL_law_0 11 rfl) (tgt := 2013) (v := 31) hr h (by decide) (by decide) rfl rfl (fun h => j_aload_n (okx hB) (dc9 DL_law_24 25 rfl) 1 rfl rfl (bd9 h fun x180 d179 hc h => j_cV (okx hB) (c_X11_restore (hsB hB) ((wt_1 x)) hc) clL_209 cd_X11_restore im_X11_restore se_X11_restore ((wt_1 x).1) (Nat.le_of_ble_eq_true rfl) rfl (Nat.le_of_ble_eq_true rfl) (Nat.le_of_ble_eq_true rfl) rfl (st := []) rfl (Nat.le_of_ble_eq_true rfl) (dc9 DL_law_24 26 rfl) rfl (j_xd (c0 := 0) (s0 := 0) hc0 h fun x181 _ h => (j_aload_n (okx hB) (dc9 DL_law_24 27 rfl) 2 rfl rfl (bd9 h fun x183 d182 hc h => j_cV (okx hB) (c_X12_restore (hsB hB) ((wt_113 x181)) hc) clL_212 cd_X12_restore im_X12_restore se_X12_restore ((wt_113 x181).1) (Nat.le_of_ble_eq_true rfl) rfl (Nat.le_of_ble_eq_true rfl) (Nat.le_of_ble_eq_true rfl) rfl (st := [vi x180]) rfl (Nat.le_of_ble_eq_true rfl) (dc9 DL_law_24 28 rfl) rfl (j_xd (c0 := 0) (s0 := 0) hc0 h fun x184 _ h => (j_icmp_eq (okx hB) (dj9 DL_law_24 29 2026 rfl rfl) h (fun h => j_iinc (okx hB) (dc9 DL_law_24 32 rfl) 4 rfl (Nat.le_of_ble_eq_true rfl) rfl (j_goto (okx hB) (dj9 DL_law_24 33 23 rfl rfl) (j_sub [1, 2, 3, 4, 0] rfl ((have z := lf9 h hk; z _))))) (fun h =>
  j_iconst (okx hB) (dc9 DL_law_24 30 rfl) (j_lwr (okx hB) hL (dc9 DL_law_24 31 rfl) (have z := lf9 h hk; z)))))))))) fun h31 h => j_tsO (okx hB) (dc9 DL_law_0 11 rfl) (tgt := 2026) hr (by omega) rfl (j_iinc (okx hB) (dc9 DL_law_24 32 rfl) 4 rfl (Nat.le_of_ble_eq_true rfl) rfl (j_goto (okx hB) (dj9 DL_law_24 33 23 rfl rfl) (j_sub [1, 2, 3, 4, 0] rfl ((have z := lf9 h hk; z _))))))))))))))))

/-! ===== the branches of the law ===== -/
theorem br_0 {Ln : Nat} {sc : Int → Int} {v4 : Int} {x : XS} (h0 : 0 ≤ v4 ∧ v4 + 8 ≤ (Ln : Int)) (hL : Ln ≤ 4096) (hop : iand9 (sc v4) 31 = 0) : L_law__b23 Ln sc v4 x = (gd (ix (v4 + 1) Ln) <|
  gd (ix (v4 + 2) Ln) <|
  gd (ix (v4 + 3) Ln) <|
  gd (ix (v4 + 4) Ln) <|
  gd (ix (v4 + 5) Ln) <|
  bd (X11_feed 1 (sc (v4 + 1)) (sc (v4 + 2)) (sc (v4 + 3)) (sc (v4 + 4)) (sc (v4 + 5)) x.1) fun x2 d1 =>
  lt9 (xD x d1) fun x3 =>
  gd (ix (v4 + 1) Ln) <|
  gd (ix (v4 + 2) Ln) <|
  gd (ix (v4 + 3) Ln) <|
  gd (ix (v4 + 4) Ln) <|
  gd (ix (v4 + 5) Ln) <|
  bd (X12_feed 113 (sc (v4 + 1)) (sc (v4 + 2)) (sc (v4 + 3)) (sc (v4 + 4)) (sc (v4 + 5)) x3.1) fun x5 d4 =>
  lt9 (xD x3 d4) fun x6 =>
  gd (inR x2 ∧ inR x5) <|
  if x2 = x5 then (some (.inl (v4 + 8, x6))) else
  some (.inr (.inr ((0, x6))))) := by
  unfold L_law__b23
  rw [gd_pos (by omega), if_neg (by omega), gd_pos (by omega), hop, gd_pos (by omega), if_pos rfl]
theorem br_1 {Ln : Nat} {sc : Int → Int} {v4 : Int} {x : XS} (h0 : 0 ≤ v4 ∧ v4 + 8 ≤ (Ln : Int)) (hL : Ln ≤ 4096) (hop : iand9 (sc v4) 31 = 1) : L_law__b23 Ln sc v4 x = (gd (ix (v4 + 1) Ln) <|
  bd (L_table (sc (v4 + 1)) x) fun r7 x8 =>
  gd (xc x ≤ xc x8 ∧ xs x ≤ xs x8) <|
  gd (ix (v4 + 1) Ln) <|
  bd (X12_table 113 (sc (v4 + 1)) x8.1) fun x10 d9 =>
  lt9 (xD x8 d9) fun x11 =>
  b1 (X12_thrown 113 x11.1) fun x12 =>
  gd (inR x12 ∧ inR r7) <|
  if x12 = r7 then (gd (inR r7) <|
  if r7 = 0 then (gd (ix 0 1) <|
  gd (inR x10) <|
  gd (inR64 (x11.1.2 161 (Int.toNat 0)) ∧ inR64 x10) <|
  gd (inR (lcmp9 (x11.1.2 161 (Int.toNat 0)) x10)) <|
  if (lcmp9 (x11.1.2 161 (Int.toNat 0)) x10) = 0 then (L_law__j310_23 Ln sc v4 x11) else
  some (.inr (.inr ((0, x11))))) else
  L_law__j310_23 Ln sc v4 x11) else
  some (.inr (.inr ((0, x11))))) := by
  unfold L_law__b23
  rw [gd_pos (by omega), if_neg (by omega), gd_pos (by omega), hop, gd_pos (by omega), if_neg (by decide), if_pos rfl]
theorem br_2 {Ln : Nat} {sc : Int → Int} {v4 : Int} {x : XS} (h0 : 0 ≤ v4 ∧ v4 + 8 ≤ (Ln : Int)) (hL : Ln ≤ 4096) (hop : iand9 (sc v4) 31 = 2) : L_law__b23 Ln sc v4 x = (b1 (X11_fault 1 x.1) fun x13 =>
  bd (X12_fault 113 x.1) fun x15 d14 =>
  lt9 (xD x d14) fun x16 =>
  gd (inR x13 ∧ inR x15) <|
  if x13 = x15 then (some (.inl (v4 + 8, x16))) else
  some (.inr (.inr ((0, x16))))) := by
  unfold L_law__b23
  rw [gd_pos (by omega), if_neg (by omega), gd_pos (by omega), hop, gd_pos (by omega), if_neg (by decide), if_neg (by decide), if_pos rfl]
theorem br_3 {Ln : Nat} {sc : Int → Int} {v4 : Int} {x : XS} (h0 : 0 ≤ v4 ∧ v4 + 8 ≤ (Ln : Int)) (hL : Ln ≤ 4096) (hop : iand9 (sc v4) 31 = 3) : L_law__b23 Ln sc v4 x = (gd (ix (v4 + 1) Ln) <|
  gd (ix (v4 + 2) Ln) <|
  gd (ix (v4 + 3) Ln) <|
  bd (L_make (sc (v4 + 1)) (sc (v4 + 2)) (sc (v4 + 3)) x) fun r17 x18 =>
  gd (xc x ≤ xc x18 ∧ xs x ≤ xs x18) <|
  gd (ix (v4 + 1) Ln) <|
  gd (ix (v4 + 2) Ln) <|
  gd (ix (v4 + 3) Ln) <|
  bd (X12_make 113 (sc (v4 + 1)) (sc (v4 + 2)) (sc (v4 + 3)) x18.1) fun x20 d19 =>
  lt9 (xD x18 d19) fun x21 =>
  b1 (X12_thrown 113 x21.1) fun x22 =>
  gd (inR x22 ∧ inR r17) <|
  if x22 = r17 then (gd (inR r17) <|
  if r17 = 0 then (gd (ix 0 1) <|
  gd (inR x20) <|
  gd (inR64 (x21.1.2 161 (Int.toNat 0)) ∧ inR64 x20) <|
  gd (inR (lcmp9 (x21.1.2 161 (Int.toNat 0)) x20)) <|
  if (lcmp9 (x21.1.2 161 (Int.toNat 0)) x20) = 0 then (L_law__j403_23 Ln sc v4 x21) else
  some (.inr (.inr ((0, x21))))) else
  L_law__j403_23 Ln sc v4 x21) else
  some (.inr (.inr ((0, x21))))) := by
  unfold L_law__b23
  rw [gd_pos (by omega), if_neg (by omega), gd_pos (by omega), hop, gd_pos (by omega), if_neg (by decide), if_neg (by decide), if_neg (by decide), if_pos rfl]
theorem br_4 {Ln : Nat} {sc : Int → Int} {v4 : Int} {x : XS} (h0 : 0 ≤ v4 ∧ v4 + 8 ≤ (Ln : Int)) (hL : Ln ≤ 4096) (hop : iand9 (sc v4) 31 = 4) : L_law__b23 Ln sc v4 x = (bd (X11_keep 1 x.1) fun _ d23 =>
  lt9 (xD x d23) fun x24 =>
  bd (X12_keep 113 x24.1) fun _ d25 =>
  lt9 (xD x24 d25) fun x26 =>
  some (.inl (v4 + 8, x26))) := by
  unfold L_law__b23
  rw [gd_pos (by omega), if_neg (by omega), gd_pos (by omega), hop, gd_pos (by omega), if_neg (by decide), if_neg (by decide), if_neg (by decide), if_neg (by decide), if_pos rfl]
theorem br_5 {Ln : Nat} {sc : Int → Int} {v4 : Int} {x : XS} (h0 : 0 ≤ v4 ∧ v4 + 8 ≤ (Ln : Int)) (hL : Ln ≤ 4096) (hop : iand9 (sc v4) 31 = 5) : L_law__b23 Ln sc v4 x = (bd (X11_product 1 x.1) fun x28 d27 =>
  lt9 (xD x d27) fun x29 =>
  bd (X12_product 113 x29.1) fun x31 d30 =>
  lt9 (xD x29 d30) fun x32 =>
  gd (inR x28 ∧ inR x31) <|
  if x28 = x31 then (some (.inl (v4 + 8, x32))) else
  some (.inr (.inr ((0, x32))))) := by
  unfold L_law__b23
  rw [gd_pos (by omega), if_neg (by omega), gd_pos (by omega), hop, gd_pos (by omega), if_neg (by decide), if_neg (by decide), if_neg (by decide), if_neg (by decide), if_neg (by decide), if_pos rfl]
theorem br_6 {Ln : Nat} {sc : Int → Int} {v4 : Int} {x : XS} (h0 : 0 ≤ v4 ∧ v4 + 8 ≤ (Ln : Int)) (hL : Ln ≤ 4096) (hop : iand9 (sc v4) 31 = 6) : L_law__b23 Ln sc v4 x = (gd (ix (v4 + 1) Ln) <|
  bd (L_count (sc (v4 + 1)) x) fun r33 x34 =>
  gd (xc x ≤ xc x34 ∧ xs x ≤ xs x34) <|
  gd (ix (v4 + 1) Ln) <|
  bd (X12_count 113 (sc (v4 + 1)) x34.1) fun x36 d35 =>
  lt9 (xD x34 d35) fun x37 =>
  b1 (X12_thrown 113 x37.1) fun x38 =>
  gd (inR x38 ∧ inR r33) <|
  if x38 = r33 then (gd (inR r33) <|
  if r33 = 0 then (gd (ix 0 1) <|
  gd (inR x36) <|
  gd (inR64 (x37.1.2 161 (Int.toNat 0)) ∧ inR64 x36) <|
  gd (inR (lcmp9 (x37.1.2 161 (Int.toNat 0)) x36)) <|
  if (lcmp9 (x37.1.2 161 (Int.toNat 0)) x36) = 0 then (L_law__j483_23 Ln sc v4 x37) else
  some (.inr (.inr ((0, x37))))) else
  L_law__j483_23 Ln sc v4 x37) else
  some (.inr (.inr ((0, x37))))) := by
  unfold L_law__b23
  rw [gd_pos (by omega), if_neg (by omega), gd_pos (by omega), hop, gd_pos (by omega), if_neg (by decide), if_neg (by decide), if_neg (by decide), if_neg (by decide), if_neg (by decide), if_neg (by decide), if_pos rfl]
theorem br_7 {Ln : Nat} {sc : Int → Int} {v4 : Int} {x : XS} (h0 : 0 ≤ v4 ∧ v4 + 8 ≤ (Ln : Int)) (hL : Ln ≤ 4096) (hop : iand9 (sc v4) 31 = 7) : L_law__b23 Ln sc v4 x = (gd (ix (v4 + 1) Ln) <|
  gd (ix (v4 + 2) Ln) <|
  gd (ix (v4 + 3) Ln) <|
  bd (L_fuses (sc (v4 + 1)) (sc (v4 + 2)) (sc (v4 + 3)) x) fun r39 x40 =>
  gd (xc x ≤ xc x40 ∧ xs x ≤ xs x40) <|
  gd (ix (v4 + 1) Ln) <|
  gd (ix (v4 + 2) Ln) <|
  gd (ix (v4 + 3) Ln) <|
  bd (X12_fuses 113 (sc (v4 + 1)) (sc (v4 + 2)) (sc (v4 + 3)) x40.1) fun x42 d41 =>
  lt9 (xD x40 d41) fun x43 =>
  b1 (X12_thrown 113 x43.1) fun x44 =>
  gd (inR x44 ∧ inR r39) <|
  if x44 = r39 then (gd (inR r39) <|
  if r39 = 0 then (gd (ix 0 1) <|
  gd (inR x42) <|
  gd (inR64 (x43.1.2 161 (Int.toNat 0)) ∧ inR64 x42) <|
  gd (inR (lcmp9 (x43.1.2 161 (Int.toNat 0)) x42)) <|
  if (lcmp9 (x43.1.2 161 (Int.toNat 0)) x42) = 0 then (L_law__j563_23 Ln sc v4 x43) else
  some (.inr (.inr ((0, x43))))) else
  L_law__j563_23 Ln sc v4 x43) else
  some (.inr (.inr ((0, x43))))) := by
  unfold L_law__b23
  rw [gd_pos (by omega), if_neg (by omega), gd_pos (by omega), hop, gd_pos (by omega), if_neg (by decide), if_neg (by decide), if_neg (by decide), if_neg (by decide), if_neg (by decide), if_neg (by decide), if_neg (by decide), if_pos rfl]
theorem br_8 {Ln : Nat} {sc : Int → Int} {v4 : Int} {x : XS} (h0 : 0 ≤ v4 ∧ v4 + 8 ≤ (Ln : Int)) (hL : Ln ≤ 4096) (hop : iand9 (sc v4) 31 = 8) : L_law__b23 Ln sc v4 x = (gd (ix (v4 + 1) Ln) <|
  bd (L_law (sc (v4 + 1)) x) fun r45 x46 =>
  gd (xc x ≤ xc x46 ∧ xs x ≤ xs x46) <|
  gd (ix (v4 + 1) Ln) <|
  bd (X12_law 113 (sc (v4 + 1)) x46.1) fun x48 d47 =>
  lt9 (xD x46 d47) fun x49 =>
  b1 (X12_thrown 113 x49.1) fun x50 =>
  gd (inR x50 ∧ inR r45) <|
  if x50 = r45 then (gd (inR r45) <|
  if r45 = 0 then (gd (ix 0 1) <|
  gd (inR x48) <|
  gd (inR64 (x49.1.2 161 (Int.toNat 0)) ∧ inR64 x48) <|
  gd (inR (lcmp9 (x49.1.2 161 (Int.toNat 0)) x48)) <|
  if (lcmp9 (x49.1.2 161 (Int.toNat 0)) x48) = 0 then (L_law__j619_23 Ln sc v4 x49) else
  some (.inr (.inr ((0, x49))))) else
  L_law__j619_23 Ln sc v4 x49) else
  some (.inr (.inr ((0, x49))))) := by
  unfold L_law__b23
  rw [gd_pos (by omega), if_neg (by omega), gd_pos (by omega), hop, gd_pos (by omega), if_neg (by decide), if_neg (by decide), if_neg (by decide), if_neg (by decide), if_neg (by decide), if_neg (by decide), if_neg (by decide), if_neg (by decide), if_pos rfl]
theorem br_9 {Ln : Nat} {sc : Int → Int} {v4 : Int} {x : XS} (h0 : 0 ≤ v4 ∧ v4 + 8 ≤ (Ln : Int)) (hL : Ln ≤ 4096) (hop : iand9 (sc v4) 31 = 9) : L_law__b23 Ln sc v4 x = (gd (ix (v4 + 1) Ln) <|
  bd (L_dual (sc (v4 + 1)) x) fun r51 x52 =>
  gd (xc x ≤ xc x52 ∧ xs x ≤ xs x52) <|
  gd (ix (v4 + 1) Ln) <|
  bd (X12_dual 113 (sc (v4 + 1)) x52.1) fun x54 d53 =>
  lt9 (xD x52 d53) fun x55 =>
  b1 (X12_thrown 113 x55.1) fun x56 =>
  gd (inR x56 ∧ inR r51) <|
  if x56 = r51 then (gd (inR r51) <|
  if r51 = 0 then (gd (ix 0 1) <|
  gd (inR x54) <|
  gd (inR64 (x55.1.2 161 (Int.toNat 0)) ∧ inR64 x54) <|
  gd (inR (lcmp9 (x55.1.2 161 (Int.toNat 0)) x54)) <|
  if (lcmp9 (x55.1.2 161 (Int.toNat 0)) x54) = 0 then (L_law__j675_23 Ln sc v4 x55) else
  some (.inr (.inr ((0, x55))))) else
  L_law__j675_23 Ln sc v4 x55) else
  some (.inr (.inr ((0, x55))))) := by
  unfold L_law__b23
  rw [gd_pos (by omega), if_neg (by omega), gd_pos (by omega), hop, gd_pos (by omega), if_neg (by decide), if_neg (by decide), if_neg (by decide), if_neg (by decide), if_neg (by decide), if_neg (by decide), if_neg (by decide), if_neg (by decide), if_neg (by decide), if_pos rfl]
theorem br_10 {Ln : Nat} {sc : Int → Int} {v4 : Int} {x : XS} (h0 : 0 ≤ v4 ∧ v4 + 8 ≤ (Ln : Int)) (hL : Ln ≤ 4096) (hop : iand9 (sc v4) 31 = 10) : L_law__b23 Ln sc v4 x = (gd (ix (v4 + 1) Ln) <|
  bd (L_size (sc (v4 + 1)) x) fun r57 x58 =>
  gd (xc x ≤ xc x58 ∧ xs x ≤ xs x58) <|
  gd (ix (v4 + 1) Ln) <|
  bd (X12_size 113 (sc (v4 + 1)) x58.1) fun x60 d59 =>
  lt9 (xD x58 d59) fun x61 =>
  b1 (X12_thrown 113 x61.1) fun x62 =>
  gd (inR x62 ∧ inR r57) <|
  if x62 = r57 then (gd (inR r57) <|
  if r57 = 0 then (gd (ix 0 1) <|
  gd (inR x60) <|
  gd (inR64 (x61.1.2 161 (Int.toNat 0)) ∧ inR64 x60) <|
  gd (inR (lcmp9 (x61.1.2 161 (Int.toNat 0)) x60)) <|
  if (lcmp9 (x61.1.2 161 (Int.toNat 0)) x60) = 0 then (L_law__j731_23 Ln sc v4 x61) else
  some (.inr (.inr ((0, x61))))) else
  L_law__j731_23 Ln sc v4 x61) else
  some (.inr (.inr ((0, x61))))) := by
  unfold L_law__b23
  rw [gd_pos (by omega), if_neg (by omega), gd_pos (by omega), hop, gd_pos (by omega), if_neg (by decide), if_neg (by decide), if_neg (by decide), if_neg (by decide), if_neg (by decide), if_neg (by decide), if_neg (by decide), if_neg (by decide), if_neg (by decide), if_neg (by decide), if_pos rfl]
theorem br_11 {Ln : Nat} {sc : Int → Int} {v4 : Int} {x : XS} (h0 : 0 ≤ v4 ∧ v4 + 8 ≤ (Ln : Int)) (hL : Ln ≤ 4096) (hop : iand9 (sc v4) 31 = 11) : L_law__b23 Ln sc v4 x = (gd (ix (v4 + 1) Ln) <|
  gd (ix (v4 + 2) Ln) <|
  gd (ix (v4 + 3) Ln) <|
  bd (L_ways (sc (v4 + 1)) (sc (v4 + 2)) (sc (v4 + 3)) x) fun r63 x64 =>
  gd (xc x ≤ xc x64 ∧ xs x ≤ xs x64) <|
  gd (ix (v4 + 1) Ln) <|
  gd (ix (v4 + 2) Ln) <|
  gd (ix (v4 + 3) Ln) <|
  bd (X12_ways 113 (sc (v4 + 1)) (sc (v4 + 2)) (sc (v4 + 3)) x64.1) fun x66 d65 =>
  lt9 (xD x64 d65) fun x67 =>
  b1 (X12_thrown 113 x67.1) fun x68 =>
  gd (inR x68 ∧ inR r63) <|
  if x68 = r63 then (gd (inR r63) <|
  if r63 = 0 then (gd (ix 0 1) <|
  gd (inR x66) <|
  gd (inR64 (x67.1.2 161 (Int.toNat 0)) ∧ inR64 x66) <|
  gd (inR (lcmp9 (x67.1.2 161 (Int.toNat 0)) x66)) <|
  if (lcmp9 (x67.1.2 161 (Int.toNat 0)) x66) = 0 then (L_law__j811_23 Ln sc v4 x67) else
  some (.inr (.inr ((0, x67))))) else
  L_law__j811_23 Ln sc v4 x67) else
  some (.inr (.inr ((0, x67))))) := by
  unfold L_law__b23
  rw [gd_pos (by omega), if_neg (by omega), gd_pos (by omega), hop, gd_pos (by omega), if_neg (by decide), if_neg (by decide), if_neg (by decide), if_neg (by decide), if_neg (by decide), if_neg (by decide), if_neg (by decide), if_neg (by decide), if_neg (by decide), if_neg (by decide), if_neg (by decide), if_pos rfl]
theorem br_12 {Ln : Nat} {sc : Int → Int} {v4 : Int} {x : XS} (h0 : 0 ≤ v4 ∧ v4 + 8 ≤ (Ln : Int)) (hL : Ln ≤ 4096) (hop : iand9 (sc v4) 31 = 12) : L_law__b23 Ln sc v4 x = (gd (ix (v4 + 1) Ln) <|
  gd (ix (v4 + 2) Ln) <|
  bd (L_list (sc (v4 + 1)) (sc (v4 + 2)) x) fun r69 x70 =>
  gd (xc x ≤ xc x70 ∧ xs x ≤ xs x70) <|
  gd (ix (v4 + 1) Ln) <|
  gd (ix (v4 + 2) Ln) <|
  bd (X12_list 113 (sc (v4 + 1)) (sc (v4 + 2)) x70.1) fun x72 d71 =>
  lt9 (xD x70 d71) fun x73 =>
  b1 (X12_thrown 113 x73.1) fun x74 =>
  gd (inR x74 ∧ inR r69) <|
  if x74 = r69 then (gd (inR r69) <|
  if r69 = 0 then (gd (ix 0 1) <|
  gd (inR x72) <|
  gd (inR64 (x73.1.2 161 (Int.toNat 0)) ∧ inR64 x72) <|
  gd (inR (lcmp9 (x73.1.2 161 (Int.toNat 0)) x72)) <|
  if (lcmp9 (x73.1.2 161 (Int.toNat 0)) x72) = 0 then (L_law__j879_23 Ln sc v4 x73) else
  some (.inr (.inr ((0, x73))))) else
  L_law__j879_23 Ln sc v4 x73) else
  some (.inr (.inr ((0, x73))))) := by
  unfold L_law__b23
  rw [gd_pos (by omega), if_neg (by omega), gd_pos (by omega), hop, gd_pos (by omega), if_neg (by decide), if_neg (by decide), if_neg (by decide), if_neg (by decide), if_neg (by decide), if_neg (by decide), if_neg (by decide), if_neg (by decide), if_neg (by decide), if_neg (by decide), if_neg (by decide), if_neg (by decide), if_pos rfl]
theorem br_13 {Ln : Nat} {sc : Int → Int} {v4 : Int} {x : XS} (h0 : 0 ≤ v4 ∧ v4 + 8 ≤ (Ln : Int)) (hL : Ln ≤ 4096) (hop : iand9 (sc v4) 31 = 13) : L_law__b23 Ln sc v4 x = (gd (ix (v4 + 1) Ln) <|
  bd (L_take (sc (v4 + 1)) x) fun r75 x76 =>
  gd (xc x ≤ xc x76 ∧ xs x ≤ xs x76) <|
  gd (ix (v4 + 1) Ln) <|
  bd (X12_take 113 (sc (v4 + 1)) x76.1) fun x78 d77 =>
  lt9 (xD x76 d77) fun x79 =>
  b1 (X12_thrown 113 x79.1) fun x80 =>
  gd (inR x80 ∧ inR r75) <|
  if x80 = r75 then (gd (inR r75) <|
  if r75 = 0 then (gd (ix 0 1) <|
  gd (inR x78) <|
  gd (inR64 (x79.1.2 161 (Int.toNat 0)) ∧ inR64 x78) <|
  gd (inR (lcmp9 (x79.1.2 161 (Int.toNat 0)) x78)) <|
  if (lcmp9 (x79.1.2 161 (Int.toNat 0)) x78) = 0 then (L_law__j935_23 Ln sc v4 x79) else
  some (.inr (.inr ((0, x79))))) else
  L_law__j935_23 Ln sc v4 x79) else
  some (.inr (.inr ((0, x79))))) := by
  unfold L_law__b23
  rw [gd_pos (by omega), if_neg (by omega), gd_pos (by omega), hop, gd_pos (by omega), if_neg (by decide), if_neg (by decide), if_neg (by decide), if_neg (by decide), if_neg (by decide), if_neg (by decide), if_neg (by decide), if_neg (by decide), if_neg (by decide), if_neg (by decide), if_neg (by decide), if_neg (by decide), if_neg (by decide), if_pos rfl]
theorem br_14 {Ln : Nat} {sc : Int → Int} {v4 : Int} {x : XS} (h0 : 0 ≤ v4 ∧ v4 + 8 ≤ (Ln : Int)) (hL : Ln ≤ 4096) (hop : iand9 (sc v4) 31 = 14) : L_law__b23 Ln sc v4 x = (gd (ix (v4 + 1) Ln) <|
  bd (L_field (sc (v4 + 1)) x) fun r81 x82 =>
  gd (xc x ≤ xc x82 ∧ xs x ≤ xs x82) <|
  gd (ix (v4 + 1) Ln) <|
  bd (X12_field 113 (sc (v4 + 1)) x82.1) fun _ d83 =>
  lt9 (xD x82 d83) fun x84 =>
  b1 (X12_thrown 113 x84.1) fun x85 =>
  gd (inR x85 ∧ inR r81) <|
  if x85 = r81 then (some (.inl (v4 + 8, x84))) else
  some (.inr (.inr ((0, x84))))) := by
  unfold L_law__b23
  rw [gd_pos (by omega), if_neg (by omega), gd_pos (by omega), hop, gd_pos (by omega), if_neg (by decide), if_neg (by decide), if_neg (by decide), if_neg (by decide), if_neg (by decide), if_neg (by decide), if_neg (by decide), if_neg (by decide), if_neg (by decide), if_neg (by decide), if_neg (by decide), if_neg (by decide), if_neg (by decide), if_neg (by decide), if_pos rfl]
theorem br_15 {Ln : Nat} {sc : Int → Int} {v4 : Int} {x : XS} (h0 : 0 ≤ v4 ∧ v4 + 8 ≤ (Ln : Int)) (hL : Ln ≤ 4096) (hop : iand9 (sc v4) 31 = 15) : L_law__b23 Ln sc v4 x = (gd (ix (v4 + 1) Ln) <|
  gd (ix (v4 + 2) Ln) <|
  bd (L_character (sc (v4 + 1)) (sc (v4 + 2)) x) fun r86 x87 =>
  gd (xc x ≤ xc x87 ∧ xs x ≤ xs x87) <|
  gd (ix (v4 + 1) Ln) <|
  gd (ix (v4 + 2) Ln) <|
  bd (X12_character 113 (sc (v4 + 1)) (sc (v4 + 2)) x87.1) fun x89 d88 =>
  lt9 (xD x87 d88) fun x90 =>
  b1 (X12_thrown 113 x90.1) fun x91 =>
  gd (inR x91 ∧ inR r86) <|
  if x91 = r86 then (gd (inR r86) <|
  if r86 = 0 then (gd (ix 0 1) <|
  gd (inR x89) <|
  gd (inR64 (x90.1.2 161 (Int.toNat 0)) ∧ inR64 x89) <|
  gd (inR (lcmp9 (x90.1.2 161 (Int.toNat 0)) x89)) <|
  if (lcmp9 (x90.1.2 161 (Int.toNat 0)) x89) = 0 then (L_law__j1039_23 Ln sc v4 x90) else
  some (.inr (.inr ((0, x90))))) else
  L_law__j1039_23 Ln sc v4 x90) else
  some (.inr (.inr ((0, x90))))) := by
  unfold L_law__b23
  rw [gd_pos (by omega), if_neg (by omega), gd_pos (by omega), hop, gd_pos (by omega), if_neg (by decide), if_neg (by decide), if_neg (by decide), if_neg (by decide), if_neg (by decide), if_neg (by decide), if_neg (by decide), if_neg (by decide), if_neg (by decide), if_neg (by decide), if_neg (by decide), if_neg (by decide), if_neg (by decide), if_neg (by decide), if_neg (by decide), if_pos rfl]
theorem br_16 {Ln : Nat} {sc : Int → Int} {v4 : Int} {x : XS} (h0 : 0 ≤ v4 ∧ v4 + 8 ≤ (Ln : Int)) (hL : Ln ≤ 4096) (hop : iand9 (sc v4) 31 = 16) : L_law__b23 Ln sc v4 x = (gd (ix (v4 + 1) Ln) <|
  gd (ix (v4 + 2) Ln) <|
  gd (ix (v4 + 3) Ln) <|
  gd (ix (v4 + 4) Ln) <|
  gd (ix (v4 + 5) Ln) <|
  gd (ix (v4 + 6) Ln) <|
  gd (ix (v4 + 7) Ln) <|
  bd (L_tell (sc (v4 + 1)) (sc (v4 + 2)) (sc (v4 + 3)) (sc (v4 + 4)) (sc (v4 + 5)) (sc (v4 + 6)) (sc (v4 + 7)) x) fun r92 x93 =>
  gd (xc x ≤ xc x93 ∧ xs x ≤ xs x93) <|
  gd (ix (v4 + 1) Ln) <|
  gd (ix (v4 + 2) Ln) <|
  gd (ix (v4 + 3) Ln) <|
  gd (ix (v4 + 4) Ln) <|
  gd (ix (v4 + 5) Ln) <|
  gd (ix (v4 + 6) Ln) <|
  gd (ix (v4 + 7) Ln) <|
  bd (X12_tell 113 (sc (v4 + 1)) (sc (v4 + 2)) (sc (v4 + 3)) (sc (v4 + 4)) (sc (v4 + 5)) (sc (v4 + 6)) (sc (v4 + 7)) x93.1) fun x95 d94 =>
  lt9 (xD x93 d94) fun x96 =>
  b1 (X12_thrown 113 x96.1) fun x97 =>
  gd (inR x97 ∧ inR r92) <|
  if x97 = r92 then (gd (inR r92) <|
  if r92 = 0 then (gd (ix 0 1) <|
  gd (inR x95) <|
  if x95 = 0 then (L_law__j1172_23 Ln sc v4 (x96.1.2 161 (Int.toNat 0)) 0 x96) else
  L_law__j1172_23 Ln sc v4 (x96.1.2 161 (Int.toNat 0)) 1 x96) else
  L_law__j1178_23 Ln sc v4 x96) else
  some (.inr (.inr ((0, x96))))) := by
  unfold L_law__b23
  rw [gd_pos (by omega), if_neg (by omega), gd_pos (by omega), hop, gd_pos (by omega), if_neg (by decide), if_neg (by decide), if_neg (by decide), if_neg (by decide), if_neg (by decide), if_neg (by decide), if_neg (by decide), if_neg (by decide), if_neg (by decide), if_neg (by decide), if_neg (by decide), if_neg (by decide), if_neg (by decide), if_neg (by decide), if_neg (by decide), if_neg (by decide), if_pos rfl]
theorem br_17 {Ln : Nat} {sc : Int → Int} {v4 : Int} {x : XS} (h0 : 0 ≤ v4 ∧ v4 + 8 ≤ (Ln : Int)) (hL : Ln ≤ 4096) (hop : iand9 (sc v4) 31 = 17) : L_law__b23 Ln sc v4 x = (gd (ix (v4 + 1) Ln) <|
  gd (ix (v4 + 2) Ln) <|
  gd (ix (v4 + 3) Ln) <|
  gd (ix (v4 + 4) Ln) <|
  bd (L_swap (sc (v4 + 1)) (sc (v4 + 2)) (sc (v4 + 3)) (sc (v4 + 4)) x) fun r98 x99 =>
  gd (xc x ≤ xc x99 ∧ xs x ≤ xs x99) <|
  gd (ix (v4 + 1) Ln) <|
  gd (ix (v4 + 2) Ln) <|
  gd (ix (v4 + 3) Ln) <|
  gd (ix (v4 + 4) Ln) <|
  bd (X12_swap 113 (sc (v4 + 1)) (sc (v4 + 2)) (sc (v4 + 3)) (sc (v4 + 4)) x99.1) fun x101 d100 =>
  lt9 (xD x99 d100) fun x102 =>
  b1 (X12_thrown 113 x102.1) fun x103 =>
  gd (inR x103 ∧ inR r98) <|
  if x103 = r98 then (gd (inR r98) <|
  if r98 = 0 then (gd (ix 0 1) <|
  gd (inR x101) <|
  if x101 = 0 then (L_law__j1271_23 Ln sc v4 (x102.1.2 161 (Int.toNat 0)) 0 x102) else
  L_law__j1271_23 Ln sc v4 (x102.1.2 161 (Int.toNat 0)) 1 x102) else
  L_law__j1277_23 Ln sc v4 x102) else
  some (.inr (.inr ((0, x102))))) := by
  unfold L_law__b23
  rw [gd_pos (by omega), if_neg (by omega), gd_pos (by omega), hop, gd_pos (by omega), if_neg (by decide), if_neg (by decide), if_neg (by decide), if_neg (by decide), if_neg (by decide), if_neg (by decide), if_neg (by decide), if_neg (by decide), if_neg (by decide), if_neg (by decide), if_neg (by decide), if_neg (by decide), if_neg (by decide), if_neg (by decide), if_neg (by decide), if_neg (by decide), if_neg (by decide), if_pos rfl]
theorem br_18 {Ln : Nat} {sc : Int → Int} {v4 : Int} {x : XS} (h0 : 0 ≤ v4 ∧ v4 + 8 ≤ (Ln : Int)) (hL : Ln ≤ 4096) (hop : iand9 (sc v4) 31 = 18) : L_law__b23 Ln sc v4 x = (gd (ix (v4 + 1) Ln) <|
  gd (ix (v4 + 2) Ln) <|
  bd (L_twist (sc (v4 + 1)) (sc (v4 + 2)) x) fun r104 x105 =>
  gd (xc x ≤ xc x105 ∧ xs x ≤ xs x105) <|
  gd (ix (v4 + 1) Ln) <|
  gd (ix (v4 + 2) Ln) <|
  bd (X12_twist 113 (sc (v4 + 1)) (sc (v4 + 2)) x105.1) fun x107 d106 =>
  lt9 (xD x105 d106) fun x108 =>
  b1 (X12_thrown 113 x108.1) fun x109 =>
  gd (inR x109 ∧ inR r104) <|
  if x109 = r104 then (gd (inR r104) <|
  if r104 = 0 then (gd (ix 0 1) <|
  gd (inR x107) <|
  if x107 = 0 then (L_law__j1346_23 Ln sc v4 (x108.1.2 161 (Int.toNat 0)) 0 x108) else
  L_law__j1346_23 Ln sc v4 (x108.1.2 161 (Int.toNat 0)) 1 x108) else
  L_law__j1352_23 Ln sc v4 x108) else
  some (.inr (.inr ((0, x108))))) := by
  unfold L_law__b23
  rw [gd_pos (by omega), if_neg (by omega), gd_pos (by omega), hop, gd_pos (by omega), if_neg (by decide), if_neg (by decide), if_neg (by decide), if_neg (by decide), if_neg (by decide), if_neg (by decide), if_neg (by decide), if_neg (by decide), if_neg (by decide), if_neg (by decide), if_neg (by decide), if_neg (by decide), if_neg (by decide), if_neg (by decide), if_neg (by decide), if_neg (by decide), if_neg (by decide), if_neg (by decide), if_pos rfl]
theorem br_19 {Ln : Nat} {sc : Int → Int} {v4 : Int} {x : XS} (h0 : 0 ≤ v4 ∧ v4 + 8 ≤ (Ln : Int)) (hL : Ln ≤ 4096) (hop : iand9 (sc v4) 31 = 19) : L_law__b23 Ln sc v4 x = (gd (ix (v4 + 1) Ln) <|
  gd (ix (v4 + 2) Ln) <|
  gd (ix (v4 + 3) Ln) <|
  gd (ix (v4 + 4) Ln) <|
  gd (ix (v4 + 5) Ln) <|
  gd (ix (v4 + 6) Ln) <|
  gd (ix (v4 + 7) Ln) <|
  bd (L_told (sc (v4 + 1)) (sc (v4 + 2)) (sc (v4 + 3)) (sc (v4 + 4)) (sc (v4 + 5)) (sc (v4 + 6)) (sc (v4 + 7)) x) fun r110 x111 =>
  gd (xc x ≤ xc x111 ∧ xs x ≤ xs x111) <|
  gd (ix (v4 + 1) Ln) <|
  gd (ix (v4 + 2) Ln) <|
  gd (ix (v4 + 3) Ln) <|
  gd (ix (v4 + 4) Ln) <|
  gd (ix (v4 + 5) Ln) <|
  gd (ix (v4 + 6) Ln) <|
  gd (ix (v4 + 7) Ln) <|
  bd (X12_told 113 (sc (v4 + 1)) (sc (v4 + 2)) (sc (v4 + 3)) (sc (v4 + 4)) (sc (v4 + 5)) (sc (v4 + 6)) (sc (v4 + 7)) x111.1) fun x113 d112 =>
  lt9 (xD x111 d112) fun x114 =>
  b1 (X12_thrown 113 x114.1) fun x115 =>
  gd (inR x115 ∧ inR r110) <|
  if x115 = r110 then (gd (inR r110) <|
  if r110 = 0 then (gd (ix 0 1) <|
  gd (inR x113) <|
  gd (inR64 (x114.1.2 161 (Int.toNat 0)) ∧ inR64 x113) <|
  gd (inR (lcmp9 (x114.1.2 161 (Int.toNat 0)) x113)) <|
  if (lcmp9 (x114.1.2 161 (Int.toNat 0)) x113) = 0 then (L_law__j1484_23 Ln sc v4 x114) else
  some (.inr (.inr ((0, x114))))) else
  L_law__j1484_23 Ln sc v4 x114) else
  some (.inr (.inr ((0, x114))))) := by
  unfold L_law__b23
  rw [gd_pos (by omega), if_neg (by omega), gd_pos (by omega), hop, gd_pos (by omega), if_neg (by decide), if_neg (by decide), if_neg (by decide), if_neg (by decide), if_neg (by decide), if_neg (by decide), if_neg (by decide), if_neg (by decide), if_neg (by decide), if_neg (by decide), if_neg (by decide), if_neg (by decide), if_neg (by decide), if_neg (by decide), if_neg (by decide), if_neg (by decide), if_neg (by decide), if_neg (by decide), if_neg (by decide), if_pos rfl]
theorem br_20 {Ln : Nat} {sc : Int → Int} {v4 : Int} {x : XS} (h0 : 0 ≤ v4 ∧ v4 + 8 ≤ (Ln : Int)) (hL : Ln ≤ 4096) (hop : iand9 (sc v4) 31 = 20) : L_law__b23 Ln sc v4 x = (gd (ix (v4 + 1) Ln) <|
  bd (L_check (sc (v4 + 1)) x) fun r116 x117 =>
  gd (xc x ≤ xc x117 ∧ xs x ≤ xs x117) <|
  gd (ix (v4 + 1) Ln) <|
  bd (X12_check 113 (sc (v4 + 1)) x117.1) fun x119 d118 =>
  lt9 (xD x117 d118) fun x120 =>
  b1 (X12_thrown 113 x120.1) fun x121 =>
  gd (inR x121 ∧ inR r116) <|
  if x121 = r116 then (gd (inR r116) <|
  if r116 = 0 then (gd (ix 0 1) <|
  gd (inR x119) <|
  gd (inR64 (x120.1.2 161 (Int.toNat 0)) ∧ inR64 x119) <|
  gd (inR (lcmp9 (x120.1.2 161 (Int.toNat 0)) x119)) <|
  if (lcmp9 (x120.1.2 161 (Int.toNat 0)) x119) = 0 then (L_law__j1540_23 Ln sc v4 x120) else
  some (.inr (.inr ((0, x120))))) else
  L_law__j1540_23 Ln sc v4 x120) else
  some (.inr (.inr ((0, x120))))) := by
  unfold L_law__b23
  rw [gd_pos (by omega), if_neg (by omega), gd_pos (by omega), hop, gd_pos (by omega), if_neg (by decide), if_neg (by decide), if_neg (by decide), if_neg (by decide), if_neg (by decide), if_neg (by decide), if_neg (by decide), if_neg (by decide), if_neg (by decide), if_neg (by decide), if_neg (by decide), if_neg (by decide), if_neg (by decide), if_neg (by decide), if_neg (by decide), if_neg (by decide), if_neg (by decide), if_neg (by decide), if_neg (by decide), if_neg (by decide), if_pos rfl]
theorem br_21 {Ln : Nat} {sc : Int → Int} {v4 : Int} {x : XS} (h0 : 0 ≤ v4 ∧ v4 + 8 ≤ (Ln : Int)) (hL : Ln ≤ 4096) (hop : iand9 (sc v4) 31 = 21) : L_law__b23 Ln sc v4 x = (gd (ix (v4 + 1) Ln) <|
  bd (L_broken (sc (v4 + 1)) x) fun r122 x123 =>
  gd (xc x ≤ xc x123 ∧ xs x ≤ xs x123) <|
  gd (ix (v4 + 1) Ln) <|
  bd (X12_broken 113 (sc (v4 + 1)) x123.1) fun x125 d124 =>
  lt9 (xD x123 d124) fun x126 =>
  b1 (X12_thrown 113 x126.1) fun x127 =>
  gd (inR x127 ∧ inR r122) <|
  if x127 = r122 then (gd (inR r122) <|
  if r122 = 0 then (gd (ix 0 1) <|
  gd (inR x125) <|
  gd (inR64 (x126.1.2 161 (Int.toNat 0)) ∧ inR64 x125) <|
  gd (inR (lcmp9 (x126.1.2 161 (Int.toNat 0)) x125)) <|
  if (lcmp9 (x126.1.2 161 (Int.toNat 0)) x125) = 0 then (L_law__j1596_23 Ln sc v4 x126) else
  some (.inr (.inr ((0, x126))))) else
  L_law__j1596_23 Ln sc v4 x126) else
  some (.inr (.inr ((0, x126))))) := by
  unfold L_law__b23
  rw [gd_pos (by omega), if_neg (by omega), gd_pos (by omega), hop, gd_pos (by omega), if_neg (by decide), if_neg (by decide), if_neg (by decide), if_neg (by decide), if_neg (by decide), if_neg (by decide), if_neg (by decide), if_neg (by decide), if_neg (by decide), if_neg (by decide), if_neg (by decide), if_neg (by decide), if_neg (by decide), if_neg (by decide), if_neg (by decide), if_neg (by decide), if_neg (by decide), if_neg (by decide), if_neg (by decide), if_neg (by decide), if_neg (by decide), if_pos rfl]
theorem br_22 {Ln : Nat} {sc : Int → Int} {v4 : Int} {x : XS} (h0 : 0 ≤ v4 ∧ v4 + 8 ≤ (Ln : Int)) (hL : Ln ≤ 4096) (hop : iand9 (sc v4) 31 = 22) : L_law__b23 Ln sc v4 x = (gd (ix (v4 + 1) Ln) <|
  bd (L_solve (sc (v4 + 1)) x) fun r128 x129 =>
  gd (xc x ≤ xc x129 ∧ xs x ≤ xs x129) <|
  gd (ix (v4 + 1) Ln) <|
  bd (X12_solve 113 (sc (v4 + 1)) x129.1) fun x131 d130 =>
  lt9 (xD x129 d130) fun x132 =>
  b1 (X12_thrown 113 x132.1) fun x133 =>
  gd (inR x133 ∧ inR r128) <|
  if x133 = r128 then (gd (inR r128) <|
  if r128 = 0 then (gd (ix 0 1) <|
  gd (inR x131) <|
  gd (inR64 (x132.1.2 161 (Int.toNat 0)) ∧ inR64 x131) <|
  gd (inR (lcmp9 (x132.1.2 161 (Int.toNat 0)) x131)) <|
  if (lcmp9 (x132.1.2 161 (Int.toNat 0)) x131) = 0 then (L_law__j1652_23 Ln sc v4 x132) else
  some (.inr (.inr ((0, x132))))) else
  L_law__j1652_23 Ln sc v4 x132) else
  some (.inr (.inr ((0, x132))))) := by
  unfold L_law__b23
  rw [gd_pos (by omega), if_neg (by omega), gd_pos (by omega), hop, gd_pos (by omega), if_neg (by decide), if_neg (by decide), if_neg (by decide), if_neg (by decide), if_neg (by decide), if_neg (by decide), if_neg (by decide), if_neg (by decide), if_neg (by decide), if_neg (by decide), if_neg (by decide), if_neg (by decide), if_neg (by decide), if_neg (by decide), if_neg (by decide), if_neg (by decide), if_neg (by decide), if_neg (by decide), if_neg (by decide), if_neg (by decide), if_neg (by decide), if_neg (by decide), if_pos rfl]
theorem br_23 {Ln : Nat} {sc : Int → Int} {v4 : Int} {x : XS} (h0 : 0 ≤ v4 ∧ v4 + 8 ≤ (Ln : Int)) (hL : Ln ≤ 4096) (hop : iand9 (sc v4) 31 = 23) : L_law__b23 Ln sc v4 x = (gd (ix (v4 + 1) Ln) <|
  gd (ix (v4 + 2) Ln) <|
  gd (ix (v4 + 3) Ln) <|
  bd (L_s (sc (v4 + 1)) (sc (v4 + 2)) (sc (v4 + 3)) x) fun r134 x135 =>
  gd (xc x ≤ xc x135 ∧ xs x ≤ xs x135) <|
  gd (ix (v4 + 1) Ln) <|
  gd (ix (v4 + 2) Ln) <|
  gd (ix (v4 + 3) Ln) <|
  bd (X12_s 113 (sc (v4 + 1)) (sc (v4 + 2)) (sc (v4 + 3)) x135.1) fun x137 d136 =>
  lt9 (xD x135 d136) fun x138 =>
  b1 (X12_thrown 113 x138.1) fun x139 =>
  gd (inR x139 ∧ inR r134) <|
  if x139 = r134 then (gd (inR r134) <|
  if r134 = 0 then (gd (ix 0 1) <|
  gd (inR x137) <|
  gd (inR64 (x138.1.2 161 (Int.toNat 0)) ∧ inR64 x137) <|
  gd (inR (lcmp9 (x138.1.2 161 (Int.toNat 0)) x137)) <|
  if (lcmp9 (x138.1.2 161 (Int.toNat 0)) x137) = 0 then (L_law__j1732_23 Ln sc v4 x138) else
  some (.inr (.inr ((0, x138))))) else
  L_law__j1732_23 Ln sc v4 x138) else
  some (.inr (.inr ((0, x138))))) := by
  unfold L_law__b23
  rw [gd_pos (by omega), if_neg (by omega), gd_pos (by omega), hop, gd_pos (by omega), if_neg (by decide), if_neg (by decide), if_neg (by decide), if_neg (by decide), if_neg (by decide), if_neg (by decide), if_neg (by decide), if_neg (by decide), if_neg (by decide), if_neg (by decide), if_neg (by decide), if_neg (by decide), if_neg (by decide), if_neg (by decide), if_neg (by decide), if_neg (by decide), if_neg (by decide), if_neg (by decide), if_neg (by decide), if_neg (by decide), if_neg (by decide), if_neg (by decide), if_neg (by decide), if_pos rfl]
theorem br_24 {Ln : Nat} {sc : Int → Int} {v4 : Int} {x : XS} (h0 : 0 ≤ v4 ∧ v4 + 8 ≤ (Ln : Int)) (hL : Ln ≤ 4096) (hop : iand9 (sc v4) 31 = 24) : L_law__b23 Ln sc v4 x = (gd (ix (v4 + 1) Ln) <|
  bd (L_holds (sc (v4 + 1)) x) fun r140 x141 =>
  gd (xc x ≤ xc x141 ∧ xs x ≤ xs x141) <|
  gd (ix (v4 + 1) Ln) <|
  bd (X12_holds 113 (sc (v4 + 1)) x141.1) fun x143 d142 =>
  lt9 (xD x141 d142) fun x144 =>
  b1 (X12_thrown 113 x144.1) fun x145 =>
  gd (inR x145 ∧ inR r140) <|
  if x145 = r140 then (gd (inR r140) <|
  if r140 = 0 then (gd (ix 0 1) <|
  gd (inR x143) <|
  gd (inR64 (x144.1.2 161 (Int.toNat 0)) ∧ inR64 x143) <|
  gd (inR (lcmp9 (x144.1.2 161 (Int.toNat 0)) x143)) <|
  if (lcmp9 (x144.1.2 161 (Int.toNat 0)) x143) = 0 then (L_law__j1788_23 Ln sc v4 x144) else
  some (.inr (.inr ((0, x144))))) else
  L_law__j1788_23 Ln sc v4 x144) else
  some (.inr (.inr ((0, x144))))) := by
  unfold L_law__b23
  rw [gd_pos (by omega), if_neg (by omega), gd_pos (by omega), hop, gd_pos (by omega), if_neg (by decide), if_neg (by decide), if_neg (by decide), if_neg (by decide), if_neg (by decide), if_neg (by decide), if_neg (by decide), if_neg (by decide), if_neg (by decide), if_neg (by decide), if_neg (by decide), if_neg (by decide), if_neg (by decide), if_neg (by decide), if_neg (by decide), if_neg (by decide), if_neg (by decide), if_neg (by decide), if_neg (by decide), if_neg (by decide), if_neg (by decide), if_neg (by decide), if_neg (by decide), if_neg (by decide), if_pos rfl]
theorem br_25 {Ln : Nat} {sc : Int → Int} {v4 : Int} {x : XS} (h0 : 0 ≤ v4 ∧ v4 + 8 ≤ (Ln : Int)) (hL : Ln ≤ 4096) (hop : iand9 (sc v4) 31 = 25) : L_law__b23 Ln sc v4 x = (gd (ix (v4 + 1) Ln) <|
  gd (ix (v4 + 2) Ln) <|
  gd (ix (v4 + 3) Ln) <|
  bd (L_turned (sc (v4 + 1)) (sc (v4 + 2)) (sc (v4 + 3)) x) fun r146 x147 =>
  gd (xc x ≤ xc x147 ∧ xs x ≤ xs x147) <|
  gd (ix (v4 + 1) Ln) <|
  gd (ix (v4 + 2) Ln) <|
  gd (ix (v4 + 3) Ln) <|
  bd (X12_turned 113 (sc (v4 + 1)) (sc (v4 + 2)) (sc (v4 + 3)) x147.1) fun x149 d148 =>
  lt9 (xD x147 d148) fun x150 =>
  b1 (X12_thrown 113 x150.1) fun x151 =>
  gd (inR x151 ∧ inR r146) <|
  if x151 = r146 then (gd (inR r146) <|
  if r146 = 0 then (gd (ix 0 1) <|
  gd (inR x149) <|
  gd (inR64 (x150.1.2 161 (Int.toNat 0)) ∧ inR64 x149) <|
  gd (inR (lcmp9 (x150.1.2 161 (Int.toNat 0)) x149)) <|
  if (lcmp9 (x150.1.2 161 (Int.toNat 0)) x149) = 0 then (L_law__j1868_23 Ln sc v4 x150) else
  some (.inr (.inr ((0, x150))))) else
  L_law__j1868_23 Ln sc v4 x150) else
  some (.inr (.inr ((0, x150))))) := by
  unfold L_law__b23
  rw [gd_pos (by omega), if_neg (by omega), gd_pos (by omega), hop, gd_pos (by omega), if_neg (by decide), if_neg (by decide), if_neg (by decide), if_neg (by decide), if_neg (by decide), if_neg (by decide), if_neg (by decide), if_neg (by decide), if_neg (by decide), if_neg (by decide), if_neg (by decide), if_neg (by decide), if_neg (by decide), if_neg (by decide), if_neg (by decide), if_neg (by decide), if_neg (by decide), if_neg (by decide), if_neg (by decide), if_neg (by decide), if_neg (by decide), if_neg (by decide), if_neg (by decide), if_neg (by decide), if_neg (by decide), if_pos rfl]
theorem br_26 {Ln : Nat} {sc : Int → Int} {v4 : Int} {x : XS} (h0 : 0 ≤ v4 ∧ v4 + 8 ≤ (Ln : Int)) (hL : Ln ≤ 4096) (hop : iand9 (sc v4) 31 = 26) : L_law__b23 Ln sc v4 x = (gd (ix (v4 + 1) Ln) <|
  bd (X11_letter 1 (sc (v4 + 1)) x.1) fun x153 d152 =>
  lt9 (xD x d152) fun x154 =>
  gd (ix (v4 + 1) Ln) <|
  bd (X12_letter 113 (sc (v4 + 1)) x154.1) fun x156 d155 =>
  lt9 (xD x154 d155) fun x157 =>
  gd (inR x153 ∧ inR x156) <|
  if x153 = x156 then (some (.inl (v4 + 8, x157))) else
  some (.inr (.inr ((0, x157))))) := by
  unfold L_law__b23
  rw [gd_pos (by omega), if_neg (by omega), gd_pos (by omega), hop, gd_pos (by omega), if_neg (by decide), if_neg (by decide), if_neg (by decide), if_neg (by decide), if_neg (by decide), if_neg (by decide), if_neg (by decide), if_neg (by decide), if_neg (by decide), if_neg (by decide), if_neg (by decide), if_neg (by decide), if_neg (by decide), if_neg (by decide), if_neg (by decide), if_neg (by decide), if_neg (by decide), if_neg (by decide), if_neg (by decide), if_neg (by decide), if_neg (by decide), if_neg (by decide), if_neg (by decide), if_neg (by decide), if_neg (by decide), if_neg (by decide), if_pos rfl]
theorem br_27 {Ln : Nat} {sc : Int → Int} {v4 : Int} {x : XS} (h0 : 0 ≤ v4 ∧ v4 + 8 ≤ (Ln : Int)) (hL : Ln ≤ 4096) (hop : iand9 (sc v4) 31 = 27) : L_law__b23 Ln sc v4 x = (gd (ix (v4 + 1) Ln) <|
  gd (ix (v4 + 2) Ln) <|
  gd (ix (v4 + 3) Ln) <|
  bd (L_braid (sc (v4 + 1)) (sc (v4 + 2)) (sc (v4 + 3)) x) fun r158 x159 =>
  gd (xc x ≤ xc x159 ∧ xs x ≤ xs x159) <|
  gd (ix (v4 + 1) Ln) <|
  gd (ix (v4 + 2) Ln) <|
  gd (ix (v4 + 3) Ln) <|
  xb x159 (X12_braid (sc (v4 + 1)) (sc (v4 + 2)) (sc (v4 + 3)) x159) (fun r160 x161 =>
  b1 (X12_thrown 113 x161.1) fun x162 =>
  gd (inR x162 ∧ inR r158) <|
  if x162 = r158 then (gd (inR r158) <|
  if r158 = 0 then (gd (ix 0 1) <|
  gd (inR r160) <|
  gd (inR64 (x161.1.2 161 (Int.toNat 0)) ∧ inR64 r160) <|
  gd (inR (lcmp9 (x161.1.2 161 (Int.toNat 0)) r160)) <|
  if (lcmp9 (x161.1.2 161 (Int.toNat 0)) r160) = 0 then (L_law__j1973_23 Ln sc v4 x161) else
  some (.inr (.inr ((0, x161))))) else
  L_law__j1973_23 Ln sc v4 x161) else
  some (.inr (.inr ((0, x161))))) (fun _ _ => none)) := by
  unfold L_law__b23
  rw [gd_pos (by omega), if_neg (by omega), gd_pos (by omega), hop, gd_pos (by omega), if_neg (by decide), if_neg (by decide), if_neg (by decide), if_neg (by decide), if_neg (by decide), if_neg (by decide), if_neg (by decide), if_neg (by decide), if_neg (by decide), if_neg (by decide), if_neg (by decide), if_neg (by decide), if_neg (by decide), if_neg (by decide), if_neg (by decide), if_neg (by decide), if_neg (by decide), if_neg (by decide), if_neg (by decide), if_neg (by decide), if_neg (by decide), if_neg (by decide), if_neg (by decide), if_neg (by decide), if_neg (by decide), if_neg (by decide), if_neg (by decide), if_pos rfl]
theorem br_28 {Ln : Nat} {sc : Int → Int} {v4 : Int} {x : XS} (h0 : 0 ≤ v4 ∧ v4 + 8 ≤ (Ln : Int)) (hL : Ln ≤ 4096) (hop : iand9 (sc v4) 31 = 28) : L_law__b23 Ln sc v4 x = (bd (X11_back 1 x.1) fun x164 d163 =>
  lt9 (xD x d163) fun x165 =>
  bd (X12_back 113 x165.1) fun x167 d166 =>
  lt9 (xD x165 d166) fun x168 =>
  gd (inR x164 ∧ inR x167) <|
  if x164 = x167 then (some (.inl (v4 + 8, x168))) else
  some (.inr (.inr ((0, x168))))) := by
  unfold L_law__b23
  rw [gd_pos (by omega), if_neg (by omega), gd_pos (by omega), hop, gd_pos (by omega), if_neg (by decide), if_neg (by decide), if_neg (by decide), if_neg (by decide), if_neg (by decide), if_neg (by decide), if_neg (by decide), if_neg (by decide), if_neg (by decide), if_neg (by decide), if_neg (by decide), if_neg (by decide), if_neg (by decide), if_neg (by decide), if_neg (by decide), if_neg (by decide), if_neg (by decide), if_neg (by decide), if_neg (by decide), if_neg (by decide), if_neg (by decide), if_neg (by decide), if_neg (by decide), if_neg (by decide), if_neg (by decide), if_neg (by decide), if_neg (by decide), if_neg (by decide), if_pos rfl]
theorem br_29 {Ln : Nat} {sc : Int → Int} {v4 : Int} {x : XS} (h0 : 0 ≤ v4 ∧ v4 + 8 ≤ (Ln : Int)) (hL : Ln ≤ 4096) (hop : iand9 (sc v4) 31 = 29) : L_law__b23 Ln sc v4 x = (bd (X11_again 1 x.1) fun x170 d169 =>
  lt9 (xD x d169) fun x171 =>
  bd (X12_again 113 x171.1) fun x173 d172 =>
  lt9 (xD x171 d172) fun x174 =>
  gd (inR x170 ∧ inR x173) <|
  if x170 = x173 then (some (.inl (v4 + 8, x174))) else
  some (.inr (.inr ((0, x174))))) := by
  unfold L_law__b23
  rw [gd_pos (by omega), if_neg (by omega), gd_pos (by omega), hop, gd_pos (by omega), if_neg (by decide), if_neg (by decide), if_neg (by decide), if_neg (by decide), if_neg (by decide), if_neg (by decide), if_neg (by decide), if_neg (by decide), if_neg (by decide), if_neg (by decide), if_neg (by decide), if_neg (by decide), if_neg (by decide), if_neg (by decide), if_neg (by decide), if_neg (by decide), if_neg (by decide), if_neg (by decide), if_neg (by decide), if_neg (by decide), if_neg (by decide), if_neg (by decide), if_neg (by decide), if_neg (by decide), if_neg (by decide), if_neg (by decide), if_neg (by decide), if_neg (by decide), if_neg (by decide), if_pos rfl]
theorem br_30 {Ln : Nat} {sc : Int → Int} {v4 : Int} {x : XS} (h0 : 0 ≤ v4 ∧ v4 + 8 ≤ (Ln : Int)) (hL : Ln ≤ 4096) (hop : iand9 (sc v4) 31 = 30) : L_law__b23 Ln sc v4 x = (bd (X11_image 1 x.1) fun _ d175 =>
  lt9 (xD x d175) fun x176 =>
  bd (X12_image 113 x176.1) fun _ d177 =>
  lt9 (xD x176 d177) fun x178 =>
  some (.inl (v4 + 8, x178))) := by
  unfold L_law__b23
  rw [gd_pos (by omega), if_neg (by omega), gd_pos (by omega), hop, gd_pos (by omega), if_neg (by decide), if_neg (by decide), if_neg (by decide), if_neg (by decide), if_neg (by decide), if_neg (by decide), if_neg (by decide), if_neg (by decide), if_neg (by decide), if_neg (by decide), if_neg (by decide), if_neg (by decide), if_neg (by decide), if_neg (by decide), if_neg (by decide), if_neg (by decide), if_neg (by decide), if_neg (by decide), if_neg (by decide), if_neg (by decide), if_neg (by decide), if_neg (by decide), if_neg (by decide), if_neg (by decide), if_neg (by decide), if_neg (by decide), if_neg (by decide), if_neg (by decide), if_neg (by decide), if_neg (by decide), if_pos rfl]
theorem br_31 {Ln : Nat} {sc : Int → Int} {v4 : Int} {x : XS} (h0 : 0 ≤ v4 ∧ v4 + 8 ≤ (Ln : Int)) (hL : Ln ≤ 4096) (hop : iand9 (sc v4) 31 = 31) : L_law__b23 Ln sc v4 x = (bd (X11_restore 1 x.1) fun x180 d179 =>
  lt9 (xD x d179) fun x181 =>
  bd (X12_restore 113 x181.1) fun x183 d182 =>
  lt9 (xD x181 d182) fun x184 =>
  gd (inR x180 ∧ inR x183) <|
  if x180 = x183 then (some (.inl (v4 + 8, x184))) else
  some (.inr (.inr ((0, x184))))) := by
  unfold L_law__b23
  rw [gd_pos (by omega), if_neg (by omega), gd_pos (by omega), hop, gd_pos (by omega), if_neg (by decide), if_neg (by decide), if_neg (by decide), if_neg (by decide), if_neg (by decide), if_neg (by decide), if_neg (by decide), if_neg (by decide), if_neg (by decide), if_neg (by decide), if_neg (by decide), if_neg (by decide), if_neg (by decide), if_neg (by decide), if_neg (by decide), if_neg (by decide), if_neg (by decide), if_neg (by decide), if_neg (by decide), if_neg (by decide), if_neg (by decide), if_neg (by decide), if_neg (by decide), if_neg (by decide), if_neg (by decide), if_neg (by decide), if_neg (by decide), if_neg (by decide), if_neg (by decide), if_neg (by decide), if_neg (by decide), if_pos rfl]

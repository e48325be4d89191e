/-! ===== the law's beginning ===== -/
theorem DL_law_p : Dt code [(0, .new 8, 3, 3), (3, .dup, 1, 4), (4, .invokespecial 90, 3, 7), (7, .astore_n 1, 1, 8), (8, .new 91, 3, 11), (11, .dup, 1, 12), (12, .invokespecial 93, 3, 15), (15, .astore_n 2, 1, 16), (16, .iconst 1, 1, 17), (17, .newarray .long, 2, 19), (19, .astore_n 3, 1, 20), (20, .iconst 0, 1, 21), (21, .istore 4, 2, 23), (2032, .iconst 1, 1, 2033), (2033, .ireturn, 1, 2034)] := by unfold Dt; decide +kernel
theorem nwL_8 : NwO RL 8 11 17 := ⟨by decide, RX11, TX11, tyX11, rfl, inx11, tyX11_ok, am1 26 (by decide +kernel) rfl, am1 27 (by decide +kernel) rfl, am1 1 (by decide +kernel) rfl, rfl⟩
theorem nwL_91 : NwO RL 91 12 86 := ⟨by decide, RX12, TX12, tyX12, rfl, inx12, tyX12_ok, am7 81 (by decide +kernel) rfl, am7 82 (by decide +kernel) rfl, am1 14 (by decide +kernel) rfl, rfl⟩
def dN0 : DA := (fun _ _ => 0, fun _ _ => 0)
def N_law (d : DA) : Option DA :=
  lt9 (dz d 1) fun d =>
  b1 (N11_1 d) fun d =>
  lt9 (dz d 113) fun d =>
  b1 (N12_113 d) fun d =>
  lt9 (dz d 161) fun d =>
  some d
def P_law : Nat → Nat → Nat := pu (P12_113 (pu (P11_1 (pu (fun _ _ => 0) 1)) 113)) 161
def x0 (d : DA) : XS := (d, 64, 64, 0, 0, 0, 0, 0, 161, 18688)
set_option maxRecDepth 100000 in
theorem cs0_p : ∀ i, i < 162 → ∀ k, k < fN (kTl.getD i 0) → pP (sg (x0 dN0)) i k = P_law i k := by decide +kernel
theorem cs0_z : ∀ i, i < 162 → zZ (sg (x0 dN0)) i = zTl.getD i 0 := by decide +kernel
theorem ce_fn {G : GT} {ad : Nat → Nat} {σ σ' : HS} {i : Nat} (hk : kK σ' i = kK σ i) (hz : zZ σ' i = zZ σ i) (hi : iI σ' i = iI σ i) (hl : lL σ' i = lL σ i) (hp : ∀ k, k < fN (kK σ i) → pP σ' i k = pP σ i k) : ce9 G ad σ' i = ce9 G ad σ i := by
  unfold ce9
  rw [hk, hz, hi, hl]
  have e : (List.range (fN (kK σ i))).map (fun k => if fR (kK σ i) k then rf9 ad (pP σ' i k) else vi (iI σ i k)) = (List.range (fN (kK σ i))).map (fun k => if fR (kK σ i) k then rf9 ad (pP σ i k) else vi (iI σ i k)) := List.map_congr_left fun k hk => by rw [hp k (List.mem_range.mp hk)]
  rw [e]
set_option maxRecDepth 100000 in
theorem cs_sg {G : GT} {ad : Nat → Nat} {d : DA} : wl G ad (wD (sg (x0 d)) d) = wl G ad (wD (csX T9_3 161 P_law) d) := by
  unfold wl
  show (List.range 161).map _ = (List.range 161).map _
  refine List.map_congr_left fun i hi => ?_
  have h1 : i + 1 < 162 := by have := List.mem_range.mp hi; omega
  rw [ce_fn (σ := wD (csX T9_3 161 P_law) d) (σ' := wD (sg (x0 d)) d) rfl (cs0_z (i + 1) h1) rfl rfl (fun k hk => cs0_p (i + 1) h1 k hk)]
set_option maxRecDepth 100000 in
theorem j_x0 {B : BT} {ad : Nat → Nat} {d : DA} {nL pc : Nat} {lv : List (Nat × Value)} {st : List Value} (k : J (KX B 0 0 ad (x0 d)) nL d lv pc st) : J (KE B ad (csX T9_3 161 P_law) 161 18688) nL d lv pc st :=
  ⟨k.1, fun H locs ls hR hl => k.2 H locs ls (by
    have hR' : Rh B.1 B.2.2.2.2.2.1 ad (wD (csX T9_3 161 P_law) d) H locs := hR
    unfold Rh Rp at hR'
    rw [← cs_sg] at hR'
    exact hR') hl⟩
theorem cl00 : Cl 0 (fun _ _ => 0) := fun _ _ => Nat.le_refl _
set_option maxRecDepth 100000 in
theorem law_p {B : BT} {b Ln : Nat} {ad : Nat → Nat} {d' : DA} (hB : OkE B code RL 7 ret 746 19016) (hcl : Cl 0 (fun _ _ => 0)) (hae : Ae 0 ad ad) {d : DA} (h : N_law d = some d') (hT : L_law_T23 B b Ln (0, x0 d')) : J (KE B ad (csX T9_0 0 (fun _ _ => 0)) 0 0) 7 d [(0, .ref b)] 0 [] :=
  n_O hB hcl hae (k' := 1) (c' := 1) (s' := 17) nwL_8 rfl rfl rfl (Nat.le_of_ble_eq_true rfl) rfl (dc9 DL_law_p 0 rfl) h (fun a1 d hcl hae h => j_dup (okE hB) (dc9 DL_law_p 1 rfl) rfl (
  b19 h fun d hc h => n_C hB hae (k := 1) (k' := 112) (o := 1) (c' := 112) (s' := 5111) (c_N11_1 (hsE hB) hcl hc) clL_90 cd_X11_init im_X11_init rfl (Nat.le_of_ble_eq_true rfl) (Nat.le_of_ble_eq_true rfl) rfl rfl (Nat.le_of_ble_eq_true rfl) rfl rfl (Nat.le_of_ble_eq_true rfl) (dc9 DL_law_p 2 rfl) (fun z112 hae => (have hcl := cl_N11_1 hcl;
  j_astore_n (okE hB) (dc9 DL_law_p 3 rfl) rfl (Nat.le_of_ble_eq_true rfl) rfl (
  n_O hB hcl hae (k' := 113) (c' := 113) (s' := 5197) nwL_91 rfl rfl rfl (Nat.le_of_ble_eq_true rfl) rfl (dc9 DL_law_p 4 rfl) h (fun a113 d hcl hae h => j_dup (okE hB) (dc9 DL_law_p 5 rfl) rfl (
  b19 h fun d hc h => n_C hB hae (k := 113) (k' := 160) (o := 113) (c' := 160) (s' := 18687) (c_N12_113 (hsE hB) hcl hc) clL_93 cd_X12_init im_X12_init rfl (Nat.le_of_ble_eq_true rfl) (Nat.le_of_ble_eq_true rfl) rfl rfl (Nat.le_of_ble_eq_true rfl) rfl rfl (Nat.le_of_ble_eq_true rfl) (dc9 DL_law_p 6 rfl) (fun z160 hae => (have hcl := cl_N12_113 hcl;
  j_astore_n (okE hB) (dc9 DL_law_p 7 rfl) rfl (Nat.le_of_ble_eq_true rfl) rfl (
  j_iconst (okE hB) (dc9 DL_law_p 8 rfl) (
  n_J hB hcl hae (k' := 161) (c' := 161) (s' := 18688) (N := 1) rfl rfl rfl (Nat.le_of_ble_eq_true rfl) rfl rfl rfl (Nat.le_of_ble_eq_true rfl) (dc9 DL_law_p 9 rfl) h (fun a161 d hcl hae h =>
  j_astore_n (okE hB) (dc9 DL_law_p 10 rfl) rfl (Nat.le_of_ble_eq_true rfl) rfl (
  j_iconst (okE hB) (dc9 DL_law_p 11 rfl) (
  j_istore (okE hB) (dc9 DL_law_p 12 rfl) (Nat.le_of_ble_eq_true rfl) rfl (
  j_sub [4, 3, 2, 1, 0] rfl (j_x0 (lf9 (C := fun d => J (KX B 0 0 _ (x0 d)) 7 d _ 23 []) h (hT _))))))))))))))))))

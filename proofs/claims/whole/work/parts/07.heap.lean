section HR
variable {G : GT} {p : Program} {l : Launch} {e : Env} {R : Room} {s : State} {m : MethodId} {args : Array Value} {below : List Frame} {meth : Method} {c : Code} {H : Heap} {locs : List Loc} {cells slots : Nat} {Q : State → Prop} {cc : ByteArray} {own : String} {nL pc pc1 tgt : Nat} {ret : Option FieldType} {ls : Array Slot} {rest : List Value} {ad : Nat → Nat} {σ : HS}
/-- the field k of the class ci, named by the entry idx of the class own -/
def FL (own : String) (idx ci k : Nat) : Prop := ci < 13 ∧ ∃ (C : String) (T : u_T) (N : Nat) (ty : Nat → FieldType), vwCl[ci]? = some (C, T, N) ∧ fN ci = N ∧ k < N ∧ (∀ w ∈ u_ws C T N, w ∈ allw) ∧ (∀ k, k < N → parseFieldDescriptor (T k).2.2.1 = some (ty k)) ∧ (∀ a, a < N → ∀ b, b < N → a ≠ b → (T a).2.1 ≠ (T b).2.1) ∧
  (Cond.fieldLink own idx (T k).1 (T k).2.1 (T k).2.2.1 ∈ allw ∨ Cond.fieldLinkNest own idx (T k).1 (T k).2.1 (T k).2.2.1 "FuseKinds" ∈ allw)
/-- .. that may be written, of the type -/
def FP (own : String) (idx ci k : Nat) (ty : FieldType) : Prop := ∃ (C : String) (T : u_T) (N : Nat), vwCl[ci]? = some (C, T, N) ∧ (T k).2.2.2 = false ∧ parseFieldDescriptor (T k).2.2.1 = some ty
theorem g_fs {ci k : Nat} {f : Nat → Value} (h : k < fN ci) : ((List.range (fN ci)).map f)[k]? = some (f k) := by rw [List.getElem?_map, List.getElem?_range h]; rfl
theorem r_get0 (hC : Cx G l p s m meth c cc own nL ret) (hR : Rh G s ad σ H locs) {i idx ci k : Nat} (hi : isC σ i) (hk : kK σ i = ci) (hF : FL own idx ci k) {v : Value} (hv : (if fR ci k then rf9 ad (pP σ i k) else vi (iI σ i k)) = v) (hd : Dc cc pc (.getfield idx) 3 pc1)
    (kk : W p l e R s m args below meth c H locs cells slots Q (F0 m pc1 ls (v :: rest))) : W p l e R s m args below meth c H locs cells slots Q (F0 m pc ls (.ref (ad i) :: rest)) := by
  obtain ⟨hd, rfl⟩ := hd
  obtain ⟨hci, C, T, N, ty, hcl, hfN, hkN, hin, hty, hnm, hlk⟩ := hF
  obtain ⟨hx, hb, hml, hown, hwd, hK, -⟩ := hC
  have hE := wl_at (G := G) (ad := ad) hi
  rw [ce_O hk hci] at hE
  have hv9 : ((List.range (fN ci)).map (fun k => if fR ci k then rf9 ad (pP σ i k) else vi (iI σ i k)))[k]? = some v := by rw [g_fs (by rw [hfN]; exact hkN), hv]
  rcases hlk with h | h
  · exact va_get (D := gD G) (cl := vwCl) (tys := gT G) (Ts := allw) hx hb (fun w hw => hwd w hw args) hin hown hK hR.1.1 (i - 1) hE hcl k hkN (hwd _ h args) (fun _ h9 => h9) hv9 hd kk
  · exact va_getN (D := gD G) (cl := vwCl) (tys := gT G) (Ts := allw) hx hb (fun w hw => hwd w hw args) hin hown hK hR.1.1 (i - 1) hE hcl k hkN (hwd _ h args) (fun _ h9 => h9) hv9 hd kk
theorem r_getI (hC : Cx G l p s m meth c cc own nL ret) (hR : Rh G s ad σ H locs) {i idx ci k : Nat} (hi : isC σ i) (hk : kK σ i = ci) (hF : FL own idx ci k) (hf : fR ci k = false) (hd : Dc cc pc (.getfield idx) 3 pc1)
    (kk : W p l e R s m args below meth c H locs cells slots Q (F0 m pc1 ls (vi (iI σ i k) :: rest))) : W p l e R s m args below meth c H locs cells slots Q (F0 m pc ls (.ref (ad i) :: rest)) :=
  r_get0 hC hR hi hk hF (by rw [hf]; rfl) hd kk
theorem r_getR (hC : Cx G l p s m meth c cc own nL ret) (hR : Rh G s ad σ H locs) {i idx ci k q : Nat} (hi : isC σ i) (hk : kK σ i = ci) (hF : FL own idx ci k) (hf : fR ci k = true) (hq : pP σ i k = q) (h0 : q ≠ 0) (hd : Dc cc pc (.getfield idx) 3 pc1)
    (kk : W p l e R s m args below meth c H locs cells slots Q (F0 m pc1 ls (.ref (ad q) :: rest))) : W p l e R s m args below meth c H locs cells slots Q (F0 m pc ls (.ref (ad i) :: rest)) :=
  r_get0 hC hR hi hk hF (by rw [hf, hq, if_pos rfl, rf9, if_neg h0]) hd kk
theorem set_fs {ci k : Nat} {f g : Nat → Value} (h : k < fN ci) (ho : ∀ j, j ≠ k → g j = f j) : ((List.range (fN ci)).map f).set k (g k) = (List.range (fN ci)).map g := by
  apply List.ext_getElem?
  intro j
  by_cases hj : j = k
  · subst hj
    rw [List.getElem?_set_self (by simpa using h), List.getElem?_map, List.getElem?_range h]
    rfl
  · rw [List.getElem?_set_ne (Ne.symm hj), List.getElem?_map, List.getElem?_map]
    by_cases hl : j < fN ci
    · rw [List.getElem?_range hl]
      simp [ho j hj]
    · rw [List.getElem?_eq_none (by simpa using hl)]
      rfl
theorem r_put0 (hC : Cx G l p s m meth c cc own nL ret) (hR : Rh G s ad σ H locs) {i idx ci k : Nat} (hi : isC σ i) (hk : kK σ i = ci) (hF : FL own idx ci k) {ty : FieldType} (hP : FP own idx ci k ty) {v : Value} (hn : narrow ty v = v) (hfit : fits ty v = true) {σ' : HS} (hN : nN σ' = nN σ) (hK' : kK σ' = kK σ) (hv : (if fR ci k then rf9 ad (pP σ' i k) else vi (iI σ' i k)) = v)
    (ho : ∀ j, j ≠ i → ce9 G ad σ' j = ce9 G ad σ j) (hs : ∀ j, j ≠ k → (if fR ci j then rf9 ad (pP σ' i j) else vi (iI σ' i j)) = (if fR ci j then rf9 ad (pP σ i j) else vi (iI σ i j))) (hd : Dc cc pc (.putfield idx) 3 pc1)
    (kk : ∀ (H1 : Heap) (locs1 : List Loc), Rh G s ad σ' H1 locs1 → W p l e R s m args below meth c H1 locs1 cells slots Q (F0 m pc1 ls rest)) : W p l e R s m args below meth c H locs cells slots Q (F0 m pc ls (v :: .ref (ad i) :: rest)) := by
  obtain ⟨hd, rfl⟩ := hd
  obtain ⟨hci, C, T, N, ty0, hcl, hfN, hkN, hin, hty, hnm, hlk⟩ := hF
  obtain ⟨C2, T2, N2, hcl2, hfin, hpd⟩ := hP
  cases Option.some.inj (hcl.symm.trans hcl2)
  obtain ⟨hx, hb, hml, hown, hwd, hK, -⟩ := hC
  have hE := wl_at (G := G) (ad := ad) hi
  rw [ce_O hk hci] at hE
  have hkf : k < fN ci := by rw [hfN]; exact hkN
  have hset : (wl G ad σ).set (i - 1) (ad i, .inr (ci, ((List.range (fN ci)).map (fun k => if fR ci k then rf9 ad (pP σ i k) else vi (iI σ i k))).set k v)) = wl G ad σ' := by
    refine wl_set hi hN ?_ ho
    rw [ce_O (by rw [hK']; exact hk) hci]
    refine congrArg _ (congrArg _ ?_)
    rw [← hv]
    exact (set_fs (f := fun k => if fR ci k then rf9 ad (pP σ i k) else vi (iI σ i k)) (g := fun k => if fR ci k then rf9 ad (pP σ' i k) else vi (iI σ' i k)) hkf hs).symm
  rcases hlk with h | h
  · refine va_put (D := gD G) (cl := vwCl) (tys := gT G) (Ts := allw) hx hb (fun w hw => hwd w hw args) hin ty0 hty hnm hown hK hR.1.1 hR.1.2 hR.2 (i - 1) hE hcl k hkN (hwd _ h args) (fun _ h9 => h9) hfin hpd hn hfit (by simpa using hkf) hd (fun H1 locs1 hP hD hS => ?_)
    rw [hset] at hP hD
    exact kk H1 locs1 ⟨⟨hP, hD⟩, hS⟩
  · refine va_putN (D := gD G) (cl := vwCl) (tys := gT G) (Ts := allw) hx hb (fun w hw => hwd w hw args) hin ty0 hty hnm hown hK hR.1.1 hR.1.2 hR.2 (i - 1) hE hcl k hkN (hwd _ h args) (fun _ h9 => h9) hfin hpd hn hfit (by simpa using hkf) hd (fun H1 locs1 hP hD hS => ?_)
    rw [hset] at hP hD
    exact kk H1 locs1 ⟨⟨hP, hD⟩, hS⟩
theorem iI_stI (σ : HS) (c k : Nat) (v : Int) (j q : Nat) : iI (stI σ c k v) j q = if j = c then (if q = k then v else iI σ j q) else iI σ j q := by
  unfold stI sA iI fu
  by_cases h : j = c
  · subst h; simp
  · simp [h]
theorem ce_stI {G : GT} {ad : Nat → Nat} {σ : HS} {c k : Nat} {v : Int} {j : Nat} (h : j ≠ c) : ce9 G ad (stI σ c k v) j = ce9 G ad σ j := by
  have e : iI (stI σ c k v) j = iI σ j := funext fun q => by rw [iI_stI, if_neg h]
  unfold ce9
  rw [e]
  rfl
theorem nar_int (a : Int) : narrow .int (vi a) = vi a := rfl
theorem nar_bool {a : Int} (h : a = 0 ∨ a = 1) : narrow .boolean (vi a) = vi a ∧ fits .boolean (vi a) = true := by rcases h with rfl | rfl <;> decide
theorem r_putI (hC : Cx G l p s m meth c cc own nL ret) (hR : Rh G s ad σ H locs) {i idx ci k : Nat} {a : Int} (hi : isC σ i) (hk : kK σ i = ci) (hF : FL own idx ci k) (hP : FP own idx ci k .int) (hf : fR ci k = false) (hd : Dc cc pc (.putfield idx) 3 pc1)
    (kk : ∀ (H1 : Heap) (locs1 : List Loc), Rh G s ad (stI σ i k a) H1 locs1 → W p l e R s m args below meth c H1 locs1 cells slots Q (F0 m pc1 ls rest)) : W p l e R s m args below meth c H locs cells slots Q (F0 m pc ls (vi a :: .ref (ad i) :: rest)) := by
  refine r_put0 hC hR hi hk hF hP (nar_int a) rfl (σ' := stI σ i k a) rfl rfl (by rw [hf, iI_stI]; simp) (fun j hj => ce_stI hj) (fun j hj => ?_) hd kk
  rw [iI_stI, if_pos rfl, if_neg hj]
  rfl
theorem r_putZ (hC : Cx G l p s m meth c cc own nL ret) (hR : Rh G s ad σ H locs) {i idx ci k : Nat} {a : Int} (ha : a = 0 ∨ a = 1) (hi : isC σ i) (hk : kK σ i = ci) (hF : FL own idx ci k) (hP : FP own idx ci k .boolean) (hf : fR ci k = false) (hd : Dc cc pc (.putfield idx) 3 pc1)
    (kk : ∀ (H1 : Heap) (locs1 : List Loc), Rh G s ad (stI σ i k a) H1 locs1 → W p l e R s m args below meth c H1 locs1 cells slots Q (F0 m pc1 ls rest)) : W p l e R s m args below meth c H locs cells slots Q (F0 m pc ls (vi a :: .ref (ad i) :: rest)) := by
  refine r_put0 hC hR hi hk hF hP (nar_bool ha).1 (nar_bool ha).2 (σ' := stI σ i k a) rfl rfl (by rw [hf, iI_stI]; simp) (fun j hj => ce_stI hj) (fun j hj => ?_) hd kk
  rw [iI_stI, if_pos rfl, if_neg hj]
  rfl
/-! arrays -/
theorem r_alen (hC : Cx G l p s m meth c cc own nL ret) (hR : Rh G s ad σ H locs) {i : Nat} (hi : isC σ i) (hk : kK σ i = 13) (hd : Dc cc pc .arraylength 1 pc1)
    (kk : W p l e R s m args below meth c H locs cells slots Q (F0 m pc1 ls (vi (zZ σ i) :: rest))) : W p l e R s m args below meth c H locs cells slots Q (F0 m pc ls (.ref (ad i) :: rest)) := by
  obtain ⟨hd, rfl⟩ := hd
  have hE := wl_at (G := G) (ad := ad) hi
  rw [ce_I hk] at hE
  exact va_alen (D := gD G) (cl := vwCl) (tys := gT G) hC.1 hC.2.1 hC.2.2.2.2.2.1 hR.1.1 (i - 1) 0 hE rfl (v := Int32.ofInt (zZ σ i)) (by simp [Int32.ofInt_eq_ofNat]) hd kk
/-- a place of a row: its index is inside, the row's size is one of an array -/
abbrev ix9 (σ : HS) (i : Nat) (j : Int) : Prop := 0 ≤ j ∧ j < (zZ σ i : Int) ∧ zZ σ i < 2147483648
theorem r_iald (hC : Cx G l p s m meth c cc own nL ret) (hR : Rh G s ad σ H locs) {i : Nat} {j : Int} (hi : isC σ i) (hk : kK σ i = 13) (hj : ix9 σ i j) (hd : Dc cc pc .iaload 1 pc1)
    (kk : W p l e R s m args below meth c H locs cells slots Q (F0 m pc1 ls (vi (iI σ i j.toNat) :: rest))) : W p l e R s m args below meth c H locs cells slots Q (F0 m pc ls (vi j :: .ref (ad i) :: rest)) := by
  obtain ⟨hd, rfl⟩ := hd
  have hE := wl_at (G := G) (ad := ad) hi
  rw [ce_I hk] at hE
  obtain ⟨h1, h2⟩ := oi_clamp (n := zZ σ i) ⟨hj.1, hj.2.1⟩ hj.2.2
  refine va_iald (D := gD G) (cl := vwCl) (tys := gT G) hC.1 hC.2.1 hC.2.2.2.2.2.1 hR.1.1 (i - 1) 0 hE rfl h2 hd ?_
  rw [h1]
  exact kk
theorem r_lald (hC : Cx G l p s m meth c cc own nL ret) (hR : Rh G s ad σ H locs) {i : Nat} {j : Int} (hi : isC σ i) (hk : kK σ i = 14) (hj : ix9 σ i j) (hd : Dc cc pc .laload 1 pc1)
    (kk : W p l e R s m args below meth c H locs cells slots Q (F0 m pc1 ls (vl (lL σ i j.toNat) :: rest))) : W p l e R s m args below meth c H locs cells slots Q (F0 m pc ls (vi j :: .ref (ad i) :: rest)) := by
  obtain ⟨hd, rfl⟩ := hd
  have hE := wl_at (G := G) (ad := ad) hi
  rw [ce_L hk] at hE
  obtain ⟨h1, h2⟩ := oi_clamp (n := zZ σ i) ⟨hj.1, hj.2.1⟩ hj.2.2
  refine va_lald (D := gD G) (cl := vwCl) (tys := gT G) hC.1 hC.2.1 hC.2.2.2.2.2.1 hR.1.1 (i - 1) 1 hE rfl h2 hd ?_
  rw [h1]
  exact kk
theorem r_iast (hC : Cx G l p s m meth c cc own nL ret) (hR : Rh G s ad σ H locs) {i : Nat} {j a : Int} (hi : isC σ i) (hk : kK σ i = 13) (hj : ix9 σ i j) (hd : Dc cc pc .iastore 1 pc1)
    (kk : ∀ (H1 : Heap) (locs1 : List Loc), Rh G s ad (stI σ i j.toNat a) H1 locs1 → W p l e R s m args below meth c H1 locs1 cells slots Q (F0 m pc1 ls rest)) : W p l e R s m args below meth c H locs cells slots Q (F0 m pc ls (vi a :: vi j :: .ref (ad i) :: rest)) := by
  obtain ⟨hd, rfl⟩ := hd
  have hE := wl_at (G := G) (ad := ad) hi
  rw [ce_I hk] at hE
  obtain ⟨h1, h2⟩ := oi_clamp (n := zZ σ i) ⟨hj.1, hj.2.1⟩ hj.2.2
  refine va_iast (D := gD G) (cl := vwCl) (tys := gT G) hC.1 hC.2.1 hC.2.2.2.2.2.1 hR.1.1 hR.1.2 hR.2 (i - 1) 0 hE rfl h2 hd (fun H1 locs1 hP hD hS => ?_)
  have hset : (wl G ad σ).set (i - 1) (ad i, .inl (gI G, zZ σ i, .inl (upd (fun j => Int32.ofInt (iI σ i j)) (Int32.ofInt j).toNatClampNeg (Int32.ofInt a)))) = wl G ad (stI σ i j.toNat a) := by
    refine wl_set hi rfl ?_ (fun j hj => ce_stI hj)
    rw [ce_I (show kK (stI σ i j.toNat a) i = 13 from hk), h1]
    refine congrArg _ (congrArg _ (congrArg _ (congrArg _ (funext fun q => ?_))))
    rw [iI_stI, if_pos rfl]
    unfold upd
    split <;> rfl
  rw [hset] at hP hD
  exact kk H1 locs1 ⟨⟨hP, hD⟩, hS⟩
theorem lL_stL (σ : HS) (c k : Nat) (v : Int) (j q : Nat) : lL (stL σ c k v) j q = if j = c then (if q = k then v else lL σ j q) else lL σ j q := by
  unfold stL sB lL fu
  by_cases h : j = c
  · subst h; simp
  · simp [h]
theorem ce_stL {G : GT} {ad : Nat → Nat} {σ : HS} {c k : Nat} {v : Int} {j : Nat} (h : j ≠ c) : ce9 G ad (stL σ c k v) j = ce9 G ad σ j := by
  have e : lL (stL σ c k v) j = lL σ j := funext fun q => by rw [lL_stL, if_neg h]
  unfold ce9
  rw [e]
  rfl
theorem r_last (hC : Cx G l p s m meth c cc own nL ret) (hR : Rh G s ad σ H locs) {i : Nat} {j a : Int} (hi : isC σ i) (hk : kK σ i = 14) (hj : ix9 σ i j) (hd : Dc cc pc .lastore 1 pc1)
    (kk : ∀ (H1 : Heap) (locs1 : List Loc), Rh G s ad (stL σ i j.toNat a) H1 locs1 → W p l e R s m args below meth c H1 locs1 cells slots Q (F0 m pc1 ls rest)) : W p l e R s m args below meth c H locs cells slots Q (F0 m pc ls (vl a :: vi j :: .ref (ad i) :: rest)) := by
  obtain ⟨hd, rfl⟩ := hd
  have hE := wl_at (G := G) (ad := ad) hi
  rw [ce_L hk] at hE
  obtain ⟨h1, h2⟩ := oi_clamp (n := zZ σ i) ⟨hj.1, hj.2.1⟩ hj.2.2
  refine va_last (D := gD G) (cl := vwCl) (tys := gT G) hC.1 hC.2.1 hC.2.2.2.2.2.1 hR.1.1 hR.1.2 hR.2 (i - 1) 1 hE rfl h2 hd (fun H1 locs1 hP hD hS => ?_)
  have hset : (wl G ad σ).set (i - 1) (ad i, .inl (gJ G, zZ σ i, .inr (.inl (vp_updL (fun j => Int64.ofInt (lL σ i j)) (Int32.ofInt j).toNatClampNeg (Int64.ofInt a))))) = wl G ad (stL σ i j.toNat a) := by
    refine wl_set hi rfl ?_ (fun j hj => ce_stL hj)
    rw [ce_L (show kK (stL σ i j.toNat a) i = 14 from hk), h1]
    refine congrArg _ (congrArg _ (congrArg _ (congrArg _ (congrArg _ (funext fun q => ?_)))))
    rw [lL_stL, if_pos rfl]
    unfold vp_updL
    split <;> rfl
  rw [hset] at hP hD
  exact kk H1 locs1 ⟨⟨hP, hD⟩, hS⟩
theorem ix_of {σ : HS} {i n : Nat} {j : Int} (hz : zZ σ i = n) (hn : n < 2147483648) (h : 0 ≤ j ∧ j < (n : Int)) : ix9 σ i j := ⟨h.1, by rw [hz]; exact h.2, by rw [hz]; exact hn⟩
end HR

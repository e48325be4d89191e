section IR
variable {G : GT} {p : Program} {l : Launch} {e : Env} {R : Room} {s : State} {m : MethodId} {args : Array Value} {below : List Frame} {meth : Method} {c : Code} {H : Heap} {locs : List Loc} {cells slots : Nat} {Q : State → Prop} {cc : ByteArray} {own : String} {nL pc pc1 tgt : Nat} {ret : Option FieldType} {ls : Array Slot} {rest : List Value} {ad : Nat → Nat} {σ : HS} {lv lv' : List (Nat × Value)}
theorem r_iconst (hC : Cx G l p s m meth c cc own nL ret) {n : Int} (hd : Dc cc pc (.iconst n) 1 pc1)  (k : W p l e R s m args below meth c H locs cells slots Q (F0 m pc1 ls (vi n :: rest))) : W p l e R s m args below meth c H locs cells slots Q (F0 m pc ls (rest)) := by
  obtain ⟨hd, rfl⟩ := hd
  exact lv_iconst hC.1 hC.2.1 hd rfl k
theorem r_bipush (hC : Cx G l p s m meth c cc own nL ret) {n : Int} (hd : Dc cc pc (.bipush n) 2 pc1) (hn : (Int8.ofInt n).toInt32 = Int32.ofInt n) (k : W p l e R s m args below meth c H locs cells slots Q (F0 m pc1 ls (vi n :: rest))) : W p l e R s m args below meth c H locs cells slots Q (F0 m pc ls (rest)) := by
  obtain ⟨hd, rfl⟩ := hd
  exact lv_bipush hC.1 hC.2.1 hd hn k
theorem r_sipush (hC : Cx G l p s m meth c cc own nL ret) {n : Int} (hd : Dc cc pc (.sipush n) 3 pc1) (hn : (Int16.ofInt n).toInt32 = Int32.ofInt n) (k : W p l e R s m args below meth c H locs cells slots Q (F0 m pc1 ls (vi n :: rest))) : W p l e R s m args below meth c H locs cells slots Q (F0 m pc ls (rest)) := by
  obtain ⟨hd, rfl⟩ := hd
  exact lv_sipush hC.1 hC.2.1 hd hn k
theorem r_lconst (hC : Cx G l p s m meth c cc own nL ret) {n : Fin 2} {v : Int} (hd : Dc cc pc (.lconst n) 1 pc1) (hn : Int64.ofNat (n : Nat) = Int64.ofInt v) (k : W p l e R s m args below meth c H locs cells slots Q (F0 m pc1 ls (vl v :: rest))) : W p l e R s m args below meth c H locs cells slots Q (F0 m pc ls (rest)) := by
  obtain ⟨hd, rfl⟩ := hd
  exact lv_lconst hC.1 hC.2.1 hd hn k
theorem r_ldc (hC : Cx G l p s m meth c cc own nL ret) {i : Nat} {v : Int} (hw : Cond.constant own i (Int32.ofInt v) ∈ allw) (hd : Dc cc pc (.ldc i) 2 pc1) (k : W p l e R s m args below meth c H locs cells slots Q (F0 m pc1 ls (vi v :: rest))) : W p l e R s m args below meth c H locs cells slots Q (F0 m pc ls (rest)) := by
  obtain ⟨hd, rfl⟩ := hd
  exact lv_ldc hC.1 hC.2.1 hC.2.2.2.1 (hC.2.2.2.2.1 _ hw _) hd k
theorem r_ldcw (hC : Cx G l p s m meth c cc own nL ret) {i : Nat} {v : Int} (hw : Cond.constant own i (Int32.ofInt v) ∈ allw) (hd : Dc cc pc (.ldc_w i) 3 pc1) (k : W p l e R s m args below meth c H locs cells slots Q (F0 m pc1 ls (vi v :: rest))) : W p l e R s m args below meth c H locs cells slots Q (F0 m pc ls (rest)) := by
  obtain ⟨hd, rfl⟩ := hd
  exact lv_ldcw hC.1 hC.2.1 hC.2.2.2.1 (hC.2.2.2.2.1 _ hw _) hd k
theorem r_ldc2 (hC : Cx G l p s m meth c cc own nL ret) {i : Nat} {v : Int} (hw : Cond.constantLong own i (Int64.ofInt v) ∈ allw) (hd : Dc cc pc (.ldc2_w i) 3 pc1) (k : W p l e R s m args below meth c H locs cells slots Q (F0 m pc1 ls (vl v :: rest))) : W p l e R s m args below meth c H locs cells slots Q (F0 m pc ls (rest)) := by
  obtain ⟨hd, rfl⟩ := hd
  exact lv_ldc2 hC.1 hC.2.1 hC.2.2.2.1 (hC.2.2.2.2.1 _ hw _) hd k
theorem r_iload_n (hC : Cx G l p s m meth c cc own nL ret) (hl : lv_has ls nL lv) (q : Nat) {k9 : Fin 4} {i : Nat} {a : Int} (hq : lv[q]? = some (i, vi a)) (hd : Dc cc pc (.iload_n k9) 1 pc1) (hi : (k9 : Nat) = i) (k : W p l e R s m args below meth c H locs cells slots Q (F0 m pc1 ls (vi a :: rest))) : W p l e R s m args below meth c H locs cells slots Q (F0 m pc ls (rest)) := by
  obtain ⟨hd, rfl⟩ := hd
  exact lv_iload_n hC.1 hC.2.1 hd hi (lv_at hl q hq) k
theorem r_iload (hC : Cx G l p s m meth c cc own nL ret) (hl : lv_has ls nL lv) (q : Nat) {i : Nat} {a : Int} (hq : lv[q]? = some (i, vi a)) (hd : Dc cc pc (.iload i) 2 pc1) (k : W p l e R s m args below meth c H locs cells slots Q (F0 m pc1 ls (vi a :: rest))) : W p l e R s m args below meth c H locs cells slots Q (F0 m pc ls (rest)) := by
  obtain ⟨hd, rfl⟩ := hd
  exact lv_iload hC.1 hC.2.1 hd (lv_at hl q hq) k
theorem r_lload_n (hC : Cx G l p s m meth c cc own nL ret) (hl : lv_has ls nL lv) (q : Nat) {k9 : Fin 4} {i : Nat} {a : Int} (hq : lv[q]? = some (i, vl a)) (hd : Dc cc pc (.lload_n k9) 1 pc1) (hi : (k9 : Nat) = i) (k : W p l e R s m args below meth c H locs cells slots Q (F0 m pc1 ls (vl a :: rest))) : W p l e R s m args below meth c H locs cells slots Q (F0 m pc ls (rest)) := by
  obtain ⟨hd, rfl⟩ := hd
  exact lv_lload_n hC.1 hC.2.1 hd hi (lv_at hl q hq) k
theorem r_lload (hC : Cx G l p s m meth c cc own nL ret) (hl : lv_has ls nL lv) (q : Nat) {i : Nat} {a : Int} (hq : lv[q]? = some (i, vl a)) (hd : Dc cc pc (.lload i) 2 pc1) (k : W p l e R s m args below meth c H locs cells slots Q (F0 m pc1 ls (vl a :: rest))) : W p l e R s m args below meth c H locs cells slots Q (F0 m pc ls (rest)) := by
  obtain ⟨hd, rfl⟩ := hd
  exact lv_lload hC.1 hC.2.1 hd (lv_at hl q hq) k
theorem r_aload_n (hC : Cx G l p s m meth c cc own nL ret) (hl : lv_has ls nL lv) (q : Nat) {k9 : Fin 4} {i : Nat} {a : Nat} (hq : lv[q]? = some (i, .ref a)) (hd : Dc cc pc (.aload_n k9) 1 pc1) (hi : (k9 : Nat) = i) (k : W p l e R s m args below meth c H locs cells slots Q (F0 m pc1 ls (.ref a :: rest))) : W p l e R s m args below meth c H locs cells slots Q (F0 m pc ls (rest)) := by
  obtain ⟨hd, rfl⟩ := hd
  exact lv_aload_n hC.1 hC.2.1 hd hi (lv_at hl q hq) k
theorem r_aload (hC : Cx G l p s m meth c cc own nL ret) (hl : lv_has ls nL lv) (q : Nat) {i : Nat} {a : Nat} (hq : lv[q]? = some (i, .ref a)) (hd : Dc cc pc (.aload i) 2 pc1) (k : W p l e R s m args below meth c H locs cells slots Q (F0 m pc1 ls (.ref a :: rest))) : W p l e R s m args below meth c H locs cells slots Q (F0 m pc ls (rest)) := by
  obtain ⟨hd, rfl⟩ := hd
  exact lv_aload hC.1 hC.2.1 hd (lv_at hl q hq) k
theorem r_istore_n (hC : Cx G l p s m meth c cc own nL ret) (hl : lv_has ls nL lv) {k9 : Fin 4} {i : Nat} {a : Int} (hd : Dc cc pc (.istore_n k9) 1 pc1) (hi : (k9 : Nat) = i) (hn : i < nL) (hv : (i, vi a) :: lv.filter (fun q => !(q.1 == i) && !(q.1 + 1 == i && q.2.category == 2)) = lv') (k : ∀ ls' : Array Slot, lv_has ls' nL lv' → W p l e R s m args below meth c H locs cells slots Q (F0 m pc1 ls' (rest))) : W p l e R s m args below meth c H locs cells slots Q (F0 m pc ls (vi a :: rest)) := by
  obtain ⟨hd, rfl⟩ := hd
  exact lv_istore_n hC.1 hC.2.1 hd hi hl hn hv k
theorem r_istore (hC : Cx G l p s m meth c cc own nL ret) (hl : lv_has ls nL lv) {i : Nat} {a : Int} (hd : Dc cc pc (.istore i) 2 pc1) (hn : i < nL) (hv : (i, vi a) :: lv.filter (fun q => !(q.1 == i) && !(q.1 + 1 == i && q.2.category == 2)) = lv') (k : ∀ ls' : Array Slot, lv_has ls' nL lv' → W p l e R s m args below meth c H locs cells slots Q (F0 m pc1 ls' (rest))) : W p l e R s m args below meth c H locs cells slots Q (F0 m pc ls (vi a :: rest)) := by
  obtain ⟨hd, rfl⟩ := hd
  exact lv_istore hC.1 hC.2.1 hd hl hn hv k
theorem r_lstore_n (hC : Cx G l p s m meth c cc own nL ret) (hl : lv_has ls nL lv) {k9 : Fin 4} {i : Nat} {a : Int} (hd : Dc cc pc (.lstore_n k9) 1 pc1) (hi : (k9 : Nat) = i) (hn : i + 1 < nL) (hv : (i, vl a) :: lv.filter (fun q => !(q.1 == i) && (!(q.1 == i + 1) && !(q.1 + 1 == i && q.2.category == 2))) = lv') (k : ∀ ls' : Array Slot, lv_has ls' nL lv' → W p l e R s m args below meth c H locs cells slots Q (F0 m pc1 ls' (rest))) : W p l e R s m args below meth c H locs cells slots Q (F0 m pc ls (vl a :: rest)) := by
  obtain ⟨hd, rfl⟩ := hd
  exact lv_lstore_n hC.1 hC.2.1 hd hi hl hn hv k
theorem r_lstore (hC : Cx G l p s m meth c cc own nL ret) (hl : lv_has ls nL lv) {i : Nat} {a : Int} (hd : Dc cc pc (.lstore i) 2 pc1) (hn : i + 1 < nL) (hv : (i, vl a) :: lv.filter (fun q => !(q.1 == i) && (!(q.1 == i + 1) && !(q.1 + 1 == i && q.2.category == 2))) = lv') (k : ∀ ls' : Array Slot, lv_has ls' nL lv' → W p l e R s m args below meth c H locs cells slots Q (F0 m pc1 ls' (rest))) : W p l e R s m args below meth c H locs cells slots Q (F0 m pc ls (vl a :: rest)) := by
  obtain ⟨hd, rfl⟩ := hd
  exact lv_lstore hC.1 hC.2.1 hd hl hn hv k
theorem r_astore_n (hC : Cx G l p s m meth c cc own nL ret) (hl : lv_has ls nL lv) {k9 : Fin 4} {i : Nat} {a : Nat} (hd : Dc cc pc (.astore_n k9) 1 pc1) (hi : (k9 : Nat) = i) (hn : i < nL) (hv : (i, .ref a) :: lv.filter (fun q => !(q.1 == i) && !(q.1 + 1 == i && q.2.category == 2)) = lv') (k : ∀ ls' : Array Slot, lv_has ls' nL lv' → W p l e R s m args below meth c H locs cells slots Q (F0 m pc1 ls' (rest))) : W p l e R s m args below meth c H locs cells slots Q (F0 m pc ls (.ref a :: rest)) := by
  obtain ⟨hd, rfl⟩ := hd
  exact lv_astore_n hC.1 hC.2.1 hd hi hl hn hv k
theorem r_astore (hC : Cx G l p s m meth c cc own nL ret) (hl : lv_has ls nL lv) {i : Nat} {a : Nat} (hd : Dc cc pc (.astore i) 2 pc1) (hn : i < nL) (hv : (i, .ref a) :: lv.filter (fun q => !(q.1 == i) && !(q.1 + 1 == i && q.2.category == 2)) = lv') (k : ∀ ls' : Array Slot, lv_has ls' nL lv' → W p l e R s m args below meth c H locs cells slots Q (F0 m pc1 ls' (rest))) : W p l e R s m args below meth c H locs cells slots Q (F0 m pc ls (.ref a :: rest)) := by
  obtain ⟨hd, rfl⟩ := hd
  exact lv_astore hC.1 hC.2.1 hd hl hn hv k
theorem r_iinc (hC : Cx G l p s m meth c cc own nL ret) (hl : lv_has ls nL lv) (q : Nat) {i : Nat} {n a : Int} (hq : lv[q]? = some (i, vi a)) (hd : Dc cc pc (.iinc i n) 3 pc1) (hn : i < nL) (hv : (i, vi (a + n)) :: lv.filter (fun q => !(q.1 == i) && !(q.1 + 1 == i && q.2.category == 2)) = lv') (k : ∀ ls' : Array Slot, lv_has ls' nL lv' → W p l e R s m args below meth c H locs cells slots Q (F0 m pc1 ls' (rest))) : W p l e R s m args below meth c H locs cells slots Q (F0 m pc ls (rest)) := by
  obtain ⟨hd, rfl⟩ := hd
  exact lv_iinc hC.1 hC.2.1 hd hl hq (oi_add a n) hn hv k
theorem r_iadd (hC : Cx G l p s m meth c cc own nL ret) {a b : Int} (hd : Dc cc pc (.iadd) 1 pc1)  (k : W p l e R s m args below meth c H locs cells slots Q (F0 m pc1 ls (vi (a + b) :: rest))) : W p l e R s m args below meth c H locs cells slots Q (F0 m pc ls (vi b :: vi a :: rest)) := by
  obtain ⟨hd, rfl⟩ := hd
  refine lv_iadd hC.1 hC.2.1 hd ?_
  rw [oi_add]
  exact k
theorem r_isub (hC : Cx G l p s m meth c cc own nL ret) {a b : Int} (hd : Dc cc pc (.isub) 1 pc1)  (k : W p l e R s m args below meth c H locs cells slots Q (F0 m pc1 ls (vi (a - b) :: rest))) : W p l e R s m args below meth c H locs cells slots Q (F0 m pc ls (vi b :: vi a :: rest)) := by
  obtain ⟨hd, rfl⟩ := hd
  refine lv_isub hC.1 hC.2.1 hd ?_
  rw [oi_sub]
  exact k
theorem r_imul (hC : Cx G l p s m meth c cc own nL ret) {a b : Int} (hd : Dc cc pc (.imul) 1 pc1)  (k : W p l e R s m args below meth c H locs cells slots Q (F0 m pc1 ls (vi (a * b) :: rest))) : W p l e R s m args below meth c H locs cells slots Q (F0 m pc ls (vi b :: vi a :: rest)) := by
  obtain ⟨hd, rfl⟩ := hd
  refine lv_imul hC.1 hC.2.1 hd ?_
  rw [oi_mul]
  exact k
theorem r_ineg (hC : Cx G l p s m meth c cc own nL ret) {a : Int} (hd : Dc cc pc (.ineg) 1 pc1)  (k : W p l e R s m args below meth c H locs cells slots Q (F0 m pc1 ls (vi (-a) :: rest))) : W p l e R s m args below meth c H locs cells slots Q (F0 m pc ls (vi a :: rest)) := by
  obtain ⟨hd, rfl⟩ := hd
  refine lv_ineg hC.1 hC.2.1 hd ?_
  rw [oi_neg]
  exact k
theorem r_ladd (hC : Cx G l p s m meth c cc own nL ret) {a b : Int} (hd : Dc cc pc (.ladd) 1 pc1)  (k : W p l e R s m args below meth c H locs cells slots Q (F0 m pc1 ls (vl (a + b) :: rest))) : W p l e R s m args below meth c H locs cells slots Q (F0 m pc ls (vl b :: vl a :: rest)) := by
  obtain ⟨hd, rfl⟩ := hd
  refine lv_ladd hC.1 hC.2.1 hd ?_
  rw [ol_add]
  exact k
theorem r_lmul (hC : Cx G l p s m meth c cc own nL ret) {a b : Int} (hd : Dc cc pc (.lmul) 1 pc1)  (k : W p l e R s m args below meth c H locs cells slots Q (F0 m pc1 ls (vl (a * b) :: rest))) : W p l e R s m args below meth c H locs cells slots Q (F0 m pc ls (vl b :: vl a :: rest)) := by
  obtain ⟨hd, rfl⟩ := hd
  refine lv_lmul hC.1 hC.2.1 hd ?_
  rw [ol_mul]
  exact k
theorem r_iand (hC : Cx G l p s m meth c cc own nL ret) {a b : Int} (hd : Dc cc pc (.iand) 1 pc1)  (k : W p l e R s m args below meth c H locs cells slots Q (F0 m pc1 ls (vi (iand9 a b) :: rest))) : W p l e R s m args below meth c H locs cells slots Q (F0 m pc ls (vi b :: vi a :: rest)) := by
  obtain ⟨hd, rfl⟩ := hd
  refine lv_iand hC.1 hC.2.1 hd ?_
  unfold iand9 at k
  rw [vi, oi_of] at k
  exact k
theorem r_ior (hC : Cx G l p s m meth c cc own nL ret) {a b : Int} (hd : Dc cc pc (.ior) 1 pc1)  (k : W p l e R s m args below meth c H locs cells slots Q (F0 m pc1 ls (vi (ior9 a b) :: rest))) : W p l e R s m args below meth c H locs cells slots Q (F0 m pc ls (vi b :: vi a :: rest)) := by
  obtain ⟨hd, rfl⟩ := hd
  refine lv_ior hC.1 hC.2.1 hd ?_
  unfold ior9 at k
  rw [vi, oi_of] at k
  exact k
theorem r_ishl (hC : Cx G l p s m meth c cc own nL ret) {a b : Int} (hd : Dc cc pc (.ishl) 1 pc1)  (k : W p l e R s m args below meth c H locs cells slots Q (F0 m pc1 ls (vi (ishl9 a b) :: rest))) : W p l e R s m args below meth c H locs cells slots Q (F0 m pc ls (vi b :: vi a :: rest)) := by
  obtain ⟨hd, rfl⟩ := hd
  refine lv_ishl hC.1 hC.2.1 hd ?_
  unfold ishl9 at k
  rw [vi, oi_of] at k
  exact k
theorem r_ishr (hC : Cx G l p s m meth c cc own nL ret) {a b : Int} (hd : Dc cc pc (.ishr) 1 pc1)  (k : W p l e R s m args below meth c H locs cells slots Q (F0 m pc1 ls (vi (ishr9 a b) :: rest))) : W p l e R s m args below meth c H locs cells slots Q (F0 m pc ls (vi b :: vi a :: rest)) := by
  obtain ⟨hd, rfl⟩ := hd
  refine lv_ishr hC.1 hC.2.1 hd ?_
  unfold ishr9 at k
  rw [vi, oi_of] at k
  exact k
theorem r_iushr (hC : Cx G l p s m meth c cc own nL ret) {a b : Int} (hd : Dc cc pc (.iushr) 1 pc1)  (k : W p l e R s m args below meth c H locs cells slots Q (F0 m pc1 ls (vi (iushr9 a b) :: rest))) : W p l e R s m args below meth c H locs cells slots Q (F0 m pc ls (vi b :: vi a :: rest)) := by
  obtain ⟨hd, rfl⟩ := hd
  refine lv_iushr hC.1 hC.2.1 hd rfl ?_
  unfold iushr9 at k
  rw [vi, oi_of] at k
  exact k
abbrev dvg (a b : Int) : Prop := inR a ∧ inR b ∧ 0 < b
abbrev dvq (a b : Int) : Prop := 0 ≤ a ∧ inR a ∧ inR b ∧ 0 < b
abbrev dvl (a b : Int) : Prop := 0 ≤ a ∧ inR64 a ∧ inR64 b ∧ 0 < b
theorem inR64_0 : inR64 0 := ⟨by decide, by decide⟩
theorem ol_eq {a b : Int} (ha : inR64 a) (hb : inR64 b) : Int64.ofInt a = Int64.ofInt b ↔ a = b := by rw [← Int64.toInt_inj, ol_t ha, ol_t hb]
theorem ol_lt {a b : Int} (ha : inR64 a) (hb : inR64 b) : Int64.ofInt a < Int64.ofInt b ↔ a < b := by rw [Int64.lt_iff_toInt_lt, ol_t ha, ol_t hb]
theorem r_irem (hC : Cx G l p s m meth c cc own nL ret) {a b : Int} (hd : Dc cc pc (.irem) 1 pc1) (hr : dvg a b) (k : W p l e R s m args below meth c H locs cells slots Q (F0 m pc1 ls (vi (a.tmod b) :: rest))) : W p l e R s m args below meth c H locs cells slots Q (F0 m pc ls (vi b :: vi a :: rest)) := by
  obtain ⟨hd, rfl⟩ := hd
  refine lv_irem hC.1 hC.2.1 hd (fun h9 => ?_) ?_
  · have := (oi_eq hr.2.1 inR_0).mp h9
    have := hr.2.2
    omega
  · rw [oi_rem hr.1 hr.2.1 hr.2.2]
    exact k
theorem r_idiv (hC : Cx G l p s m meth c cc own nL ret) {a b : Int} (hd : Dc cc pc (.idiv) 1 pc1) (hr : dvq a b) (k : W p l e R s m args below meth c H locs cells slots Q (F0 m pc1 ls (vi (a / b) :: rest))) : W p l e R s m args below meth c H locs cells slots Q (F0 m pc ls (vi b :: vi a :: rest)) := by
  obtain ⟨hd, rfl⟩ := hd
  refine lv_idiv hC.1 hC.2.1 hd (fun h9 => ?_) ?_
  · have := (oi_eq hr.2.2.1 inR_0).mp h9
    have := hr.2.2.2
    omega
  · rw [oi_div hr.1 hr.2.1 hr.2.2.1 hr.2.2.2]
    exact k
theorem r_lrem (hC : Cx G l p s m meth c cc own nL ret) {a b : Int} (hd : Dc cc pc (.lrem) 1 pc1) (hr : dvl a b) (k : W p l e R s m args below meth c H locs cells slots Q (F0 m pc1 ls (vl (a % b) :: rest))) : W p l e R s m args below meth c H locs cells slots Q (F0 m pc ls (vl b :: vl a :: rest)) := by
  obtain ⟨hd, rfl⟩ := hd
  refine lv_lrem hC.1 hC.2.1 hd (fun h9 => ?_) ?_
  · have := (ol_eq hr.2.2.1 inR64_0).mp h9
    have := hr.2.2.2
    omega
  · rw [ol_rem hr.1 hr.2.1 hr.2.2.1 hr.2.2.2]
    exact k
theorem r_ldiv (hC : Cx G l p s m meth c cc own nL ret) {a b : Int} (hd : Dc cc pc (.ldiv) 1 pc1) (hr : dvl a b) (k : W p l e R s m args below meth c H locs cells slots Q (F0 m pc1 ls (vl (a / b) :: rest))) : W p l e R s m args below meth c H locs cells slots Q (F0 m pc ls (vl b :: vl a :: rest)) := by
  obtain ⟨hd, rfl⟩ := hd
  refine lv_ldiv hC.1 hC.2.1 hd (fun h9 => ?_) ?_
  · have := (ol_eq hr.2.2.1 inR64_0).mp h9
    have := hr.2.2.2
    omega
  · rw [ol_div hr.1 hr.2.1 hr.2.2.1 hr.2.2.2]
    exact k
theorem r_i2l (hC : Cx G l p s m meth c cc own nL ret) {a : Int} (hd : Dc cc pc (.i2l) 1 pc1) (hr : inR a) (k : W p l e R s m args below meth c H locs cells slots Q (F0 m pc1 ls (vl a :: rest))) : W p l e R s m args below meth c H locs cells slots Q (F0 m pc ls (vi a :: rest)) := by
  obtain ⟨hd, rfl⟩ := hd
  refine lv_i2l hC.1 hC.2.1 hd ?_ k
  exact Int64.toInt_inj.mp (by rw [Int32.toInt_toInt64, oi_t hr, ol_t ⟨by have := hr.1; omega, by have := hr.2; omega⟩])
theorem r_l2i (hC : Cx G l p s m meth c cc own nL ret) {a : Int} (hd : Dc cc pc (.l2i) 1 pc1) (hr : inR a) (k : W p l e R s m args below meth c H locs cells slots Q (F0 m pc1 ls (vi a :: rest))) : W p l e R s m args below meth c H locs cells slots Q (F0 m pc ls (vl a :: rest)) := by
  obtain ⟨hd, rfl⟩ := hd
  exact lv_l2i hC.1 hC.2.1 hd (Int32.toInt_inj.mp (by rw [Int64.toInt_toInt32, ol_t ⟨by have := hr.1; omega, by have := hr.2; omega⟩, oi_t hr, Int.bmod_eq_of_le (by have := hr.1; omega) (by have := hr.2; omega)])) k
theorem r_dup (hC : Cx G l p s m meth c cc own nL ret) {va : Value} (hd : Dc cc pc (.dup) 1 pc1) (h9 : va.category = 1) (k : W p l e R s m args below meth c H locs cells slots Q (F0 m pc1 ls (va :: va :: rest))) : W p l e R s m args below meth c H locs cells slots Q (F0 m pc ls (va :: rest)) := by
  obtain ⟨hd, rfl⟩ := hd
  exact lv_dup hC.1 hC.2.1 hd h9 k
theorem r_pop (hC : Cx G l p s m meth c cc own nL ret) {va : Value} (hd : Dc cc pc (.pop) 1 pc1) (h9 : va.category = 1) (k : W p l e R s m args below meth c H locs cells slots Q (F0 m pc1 ls (rest))) : W p l e R s m args below meth c H locs cells slots Q (F0 m pc ls (va :: rest)) := by
  obtain ⟨hd, rfl⟩ := hd
  exact lv_pop hC.1 hC.2.1 hd h9 k
theorem r_dup2 (hC : Cx G l p s m meth c cc own nL ret) {va vb : Value} (hd : Dc cc pc (.dup2) 1 pc1) (h9 : va.category = 1) (h8 : vb.category = 1) (k : W p l e R s m args below meth c H locs cells slots Q (F0 m pc1 ls (va :: vb :: va :: vb :: rest))) : W p l e R s m args below meth c H locs cells slots Q (F0 m pc ls (va :: vb :: rest)) := by
  obtain ⟨hd, rfl⟩ := hd
  exact lv_dup2_11 hC.1 hC.2.1 hd h9 h8 k
theorem r_dup_x1 (hC : Cx G l p s m meth c cc own nL ret) {va vb : Value} (hd : Dc cc pc (.dup_x1) 1 pc1) (h9 : va.category = 1) (h8 : vb.category = 1) (k : W p l e R s m args below meth c H locs cells slots Q (F0 m pc1 ls (va :: vb :: va :: rest))) : W p l e R s m args below meth c H locs cells slots Q (F0 m pc ls (va :: vb :: rest)) := by
  obtain ⟨hd, rfl⟩ := hd
  exact lv_dup_x1 hC.1 hC.2.1 hd h9 h8 k
theorem r_icmp_eq (hC : Cx G l p s m meth c cc own nL ret) {a b off : Int} (hd : Dj cc pc (.if_icmp .eq off) off 3 pc1 tgt) (hr : inR a ∧ inR b) (kt : a = b → W p l e R s m args below meth c H locs cells slots Q (F0 m tgt ls (rest))) (kf : ¬ (a = b) → W p l e R s m args below meth c H locs cells slots Q (F0 m pc1 ls (rest))) : W p l e R s m args below meth c H locs cells slots Q (F0 m pc ls (vi b :: vi a :: rest)) := by
  obtain ⟨hd, rfl, ht⟩ := hd
  obtain ⟨ha, hb⟩ := hr
  exact lv_icmp_eq hC.1 hC.2.1 hd ht (fun h9 => kt ((oi_eq ha hb).mp h9)) (fun h9 => kf (fun h8 => h9 ((oi_eq ha hb).mpr h8)))
theorem r_if_eq (hC : Cx G l p s m meth c cc own nL ret) {a off : Int} (hd : Dj cc pc (.ifCond .eq off) off 3 pc1 tgt) (ha : inR a) (kt : a = 0 → W p l e R s m args below meth c H locs cells slots Q (F0 m tgt ls (rest))) (kf : ¬ (a = 0) → W p l e R s m args below meth c H locs cells slots Q (F0 m pc1 ls (rest))) : W p l e R s m args below meth c H locs cells slots Q (F0 m pc ls (vi a :: rest)) := by
  obtain ⟨hd, rfl, ht⟩ := hd
  have hb := inR_0
  exact lv_if_eq hC.1 hC.2.1 hd ht (fun h9 => kt ((oi_eq ha hb).mp h9)) (fun h9 => kf (fun h8 => h9 ((oi_eq ha hb).mpr h8)))
theorem r_icmp_ne (hC : Cx G l p s m meth c cc own nL ret) {a b off : Int} (hd : Dj cc pc (.if_icmp .ne off) off 3 pc1 tgt) (hr : inR a ∧ inR b) (kt : ¬ a = b → W p l e R s m args below meth c H locs cells slots Q (F0 m tgt ls (rest))) (kf : a = b → W p l e R s m args below meth c H locs cells slots Q (F0 m pc1 ls (rest))) : W p l e R s m args below meth c H locs cells slots Q (F0 m pc ls (vi b :: vi a :: rest)) := by
  obtain ⟨hd, rfl, ht⟩ := hd
  obtain ⟨ha, hb⟩ := hr
  exact lv_icmp_ne hC.1 hC.2.1 hd ht (fun h9 => kt (fun h8 => h9 ((oi_eq ha hb).mpr h8))) (fun h9 => kf ((oi_eq ha hb).mp h9))
theorem r_if_ne (hC : Cx G l p s m meth c cc own nL ret) {a off : Int} (hd : Dj cc pc (.ifCond .ne off) off 3 pc1 tgt) (ha : inR a) (kt : ¬ a = 0 → W p l e R s m args below meth c H locs cells slots Q (F0 m tgt ls (rest))) (kf : a = 0 → W p l e R s m args below meth c H locs cells slots Q (F0 m pc1 ls (rest))) : W p l e R s m args below meth c H locs cells slots Q (F0 m pc ls (vi a :: rest)) := by
  obtain ⟨hd, rfl, ht⟩ := hd
  have hb := inR_0
  exact lv_if_ne hC.1 hC.2.1 hd ht (fun h9 => kt (fun h8 => h9 ((oi_eq ha hb).mpr h8))) (fun h9 => kf ((oi_eq ha hb).mp h9))
theorem r_icmp_lt (hC : Cx G l p s m meth c cc own nL ret) {a b off : Int} (hd : Dj cc pc (.if_icmp .lt off) off 3 pc1 tgt) (hr : inR a ∧ inR b) (kt : a < b → W p l e R s m args below meth c H locs cells slots Q (F0 m tgt ls (rest))) (kf : ¬ (a < b) → W p l e R s m args below meth c H locs cells slots Q (F0 m pc1 ls (rest))) : W p l e R s m args below meth c H locs cells slots Q (F0 m pc ls (vi b :: vi a :: rest)) := by
  obtain ⟨hd, rfl, ht⟩ := hd
  obtain ⟨ha, hb⟩ := hr
  exact lv_icmp_lt hC.1 hC.2.1 hd ht (fun h9 => kt ((oi_lt ha hb).mp h9)) (fun h9 => kf (fun h8 => h9 ((oi_lt ha hb).mpr h8)))
theorem r_if_lt (hC : Cx G l p s m meth c cc own nL ret) {a off : Int} (hd : Dj cc pc (.ifCond .lt off) off 3 pc1 tgt) (ha : inR a) (kt : a < 0 → W p l e R s m args below meth c H locs cells slots Q (F0 m tgt ls (rest))) (kf : ¬ (a < 0) → W p l e R s m args below meth c H locs cells slots Q (F0 m pc1 ls (rest))) : W p l e R s m args below meth c H locs cells slots Q (F0 m pc ls (vi a :: rest)) := by
  obtain ⟨hd, rfl, ht⟩ := hd
  have hb := inR_0
  exact lv_if_lt hC.1 hC.2.1 hd ht (fun h9 => kt ((oi_lt ha hb).mp h9)) (fun h9 => kf (fun h8 => h9 ((oi_lt ha hb).mpr h8)))
theorem r_icmp_ge (hC : Cx G l p s m meth c cc own nL ret) {a b off : Int} (hd : Dj cc pc (.if_icmp .ge off) off 3 pc1 tgt) (hr : inR a ∧ inR b) (kt : b ≤ a → W p l e R s m args below meth c H locs cells slots Q (F0 m tgt ls (rest))) (kf : ¬ (b ≤ a) → W p l e R s m args below meth c H locs cells slots Q (F0 m pc1 ls (rest))) : W p l e R s m args below meth c H locs cells slots Q (F0 m pc ls (vi b :: vi a :: rest)) := by
  obtain ⟨hd, rfl, ht⟩ := hd
  obtain ⟨ha, hb⟩ := hr
  exact lv_icmp_ge hC.1 hC.2.1 hd ht (fun h9 => kt ((oi_le hb ha).mp h9)) (fun h9 => kf (fun h8 => h9 ((oi_le hb ha).mpr h8)))
theorem r_if_ge (hC : Cx G l p s m meth c cc own nL ret) {a off : Int} (hd : Dj cc pc (.ifCond .ge off) off 3 pc1 tgt) (ha : inR a) (kt : 0 ≤ a → W p l e R s m args below meth c H locs cells slots Q (F0 m tgt ls (rest))) (kf : ¬ (0 ≤ a) → W p l e R s m args below meth c H locs cells slots Q (F0 m pc1 ls (rest))) : W p l e R s m args below meth c H locs cells slots Q (F0 m pc ls (vi a :: rest)) := by
  obtain ⟨hd, rfl, ht⟩ := hd
  have hb := inR_0
  exact lv_if_ge hC.1 hC.2.1 hd ht (fun h9 => kt ((oi_le hb ha).mp h9)) (fun h9 => kf (fun h8 => h9 ((oi_le hb ha).mpr h8)))
theorem r_icmp_gt (hC : Cx G l p s m meth c cc own nL ret) {a b off : Int} (hd : Dj cc pc (.if_icmp .gt off) off 3 pc1 tgt) (hr : inR a ∧ inR b) (kt : b < a → W p l e R s m args below meth c H locs cells slots Q (F0 m tgt ls (rest))) (kf : ¬ (b < a) → W p l e R s m args below meth c H locs cells slots Q (F0 m pc1 ls (rest))) : W p l e R s m args below meth c H locs cells slots Q (F0 m pc ls (vi b :: vi a :: rest)) := by
  obtain ⟨hd, rfl, ht⟩ := hd
  obtain ⟨ha, hb⟩ := hr
  exact lv_icmp_gt hC.1 hC.2.1 hd ht (fun h9 => kt ((oi_lt hb ha).mp h9)) (fun h9 => kf (fun h8 => h9 ((oi_lt hb ha).mpr h8)))
theorem r_if_gt (hC : Cx G l p s m meth c cc own nL ret) {a off : Int} (hd : Dj cc pc (.ifCond .gt off) off 3 pc1 tgt) (ha : inR a) (kt : 0 < a → W p l e R s m args below meth c H locs cells slots Q (F0 m tgt ls (rest))) (kf : ¬ (0 < a) → W p l e R s m args below meth c H locs cells slots Q (F0 m pc1 ls (rest))) : W p l e R s m args below meth c H locs cells slots Q (F0 m pc ls (vi a :: rest)) := by
  obtain ⟨hd, rfl, ht⟩ := hd
  have hb := inR_0
  exact lv_if_gt hC.1 hC.2.1 hd ht (fun h9 => kt ((oi_lt hb ha).mp h9)) (fun h9 => kf (fun h8 => h9 ((oi_lt hb ha).mpr h8)))
theorem r_icmp_le (hC : Cx G l p s m meth c cc own nL ret) {a b off : Int} (hd : Dj cc pc (.if_icmp .le off) off 3 pc1 tgt) (hr : inR a ∧ inR b) (kt : a ≤ b → W p l e R s m args below meth c H locs cells slots Q (F0 m tgt ls (rest))) (kf : ¬ (a ≤ b) → W p l e R s m args below meth c H locs cells slots Q (F0 m pc1 ls (rest))) : W p l e R s m args below meth c H locs cells slots Q (F0 m pc ls (vi b :: vi a :: rest)) := by
  obtain ⟨hd, rfl, ht⟩ := hd
  obtain ⟨ha, hb⟩ := hr
  exact lv_icmp_le hC.1 hC.2.1 hd ht (fun h9 => kt ((oi_le ha hb).mp h9)) (fun h9 => kf (fun h8 => h9 ((oi_le ha hb).mpr h8)))
theorem r_if_le (hC : Cx G l p s m meth c cc own nL ret) {a off : Int} (hd : Dj cc pc (.ifCond .le off) off 3 pc1 tgt) (ha : inR a) (kt : a ≤ 0 → W p l e R s m args below meth c H locs cells slots Q (F0 m tgt ls (rest))) (kf : ¬ (a ≤ 0) → W p l e R s m args below meth c H locs cells slots Q (F0 m pc1 ls (rest))) : W p l e R s m args below meth c H locs cells slots Q (F0 m pc ls (vi a :: rest)) := by
  obtain ⟨hd, rfl, ht⟩ := hd
  have hb := inR_0
  exact lv_if_le hC.1 hC.2.1 hd ht (fun h9 => kt ((oi_le ha hb).mp h9)) (fun h9 => kf (fun h8 => h9 ((oi_le ha hb).mpr h8)))
theorem r_goto (hC : Cx G l p s m meth c cc own nL ret) {off : Int} (hd : Dj cc pc (.goto off) off 3 pc1 tgt) (k : W p l e R s m args below meth c H locs cells slots Q (F0 m tgt ls (rest))) : W p l e R s m args below meth c H locs cells slots Q (F0 m pc ls (rest)) := lv_goto hC.1 hC.2.1 hd.1 hd.2.2 k
end IR

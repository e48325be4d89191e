theorem ac_nat : Cond.native arraycopyName ∈ allw := am3 134 (by decide +kernel) rfl
theorem ac_st : Cond.static arraycopyName ∈ allw := am3 133 (by decide +kernel) rfl
theorem ac_in : Cond.initialized "java/lang/System" ∈ allw := am1 24 (by decide +kernel) rfl
theorem ac0_138 : Cond.methodLink RX0 138 arraycopyName ∈ allw := am7 71 (by decide +kernel) rfl
theorem ac1_51 : Cond.methodLink RX1 51 arraycopyName ∈ allw := am6 20 (by decide +kernel) rfl
theorem ac3_28 : Cond.methodLink RX3 28 arraycopyName ∈ allw := am6 1 (by decide +kernel) rfl
theorem ac5_121 : Cond.methodLink RX5 121 arraycopyName ∈ allw := am6 159 (by decide +kernel) rfl
theorem ac6_58 : Cond.methodLink RX6 58 arraycopyName ∈ allw := am3 231 (by decide +kernel) rfl
theorem ac7_26 : Cond.methodLink RX7 26 arraycopyName ∈ allw := am3 191 (by decide +kernel) rfl
theorem ac8_32 : Cond.methodLink RX8 32 arraycopyName ∈ allw := am3 132 (by decide +kernel) rfl
theorem ac9_34 : Cond.methodLink RX9 34 arraycopyName ∈ allw := am3 230 (by decide +kernel) rfl
theorem gs2_111 : Cond.fieldLink RX2 111 "FuseKinds$Lister" "RENAMINGS" "[I" ∈ allw := am5 169 (by decide +kernel) rfl
theorem mx_st : Cond.static Lib.Math.max.name ∈ allw := am4 188 (by decide +kernel) rfl
theorem mx_cd : Cond.code Lib.Math.max.name Lib.Math.max.code 2 (some .int) ∈ allw := am4 189 (by decide +kernel) rfl
theorem mn_st : Cond.static Lib.Math.min.name ∈ allw := am4 185 (by decide +kernel) rfl
theorem mn_cd : Cond.code Lib.Math.min.name Lib.Math.min.code 2 (some .int) ∈ allw := am4 186 (by decide +kernel) rfl
theorem mb_st : Cond.static Lib.Math.abs.name ∈ allw := am4 220 (by decide +kernel) rfl
theorem mb_cd : Cond.code Lib.Math.abs.name Lib.Math.abs.code 1 (some .int) ∈ allw := am4 221 (by decide +kernel) rfl
theorem ml_st : Cond.static Lib.MathLoose.min_long.x ∈ allw := am5 100 (by decide +kernel) rfl
theorem ml_cd : Cond.code Lib.MathLoose.min_long.x Lib.MathLoose.min_long.code 4 (some .long) ∈ allw := am5 101 (by decide +kernel) rfl
/-! ===== further rows of the walk ===== -/
def renI (j : Int) : Int := (renT.getD j.toNat 0).toInt
def cp9 (sp : Int) (na : Nat) (dp : Int) (nb : Nat) (n : Int) : Prop := 0 ≤ sp ∧ 0 ≤ dp ∧ 0 ≤ n ∧ sp + n ≤ (na : Int) ∧ dp + n ≤ (nb : Int)
def cp9D (sp : Int) (na : Nat) (dp : Int) (nb : Nat) (n : Int) : Decidable (cp9 sp na dp nb n) := by unfold cp9; exact inferInstance
abbrev cpg (sp : Int) (na : Nat) (dp : Int) (nb : Nat) (n : Int) : Prop := 0 ≤ sp ∧ 0 ≤ dp ∧ 0 ≤ n ∧ sp + n ≤ (na : Int) ∧ dp + n ≤ (nb : Int)
def cpF (f g : Nat → Int) (sp dp n : Int) : Nat → Int := fun k => if dp.toNat ≤ k ∧ k < dp.toNat + n.toNat then f (sp.toNat + (k - dp.toNat)) else g k
def cpI (d : DA) (a : Nat) (sp : Int) (b : Nat) (dp n : Int) : DA := wA d b (cpF (d.1 a) (d.1 b) sp dp n)
def cpJ (d : DA) (a : Nat) (sp : Int) (b : Nat) (dp n : Int) : DA := wB d b (cpF (d.2 a) (d.2 b) sp dp n)
theorem or4 {P : Nat → Prop} {x a b c e : Nat} (h : x = a ∨ x = b ∨ x = c ∨ x = e) (ha : P a) (hb : P b) (hc : P c) (he : P e) : P x := by
  rcases h with h | h | h | h <;> (subst h; assumption)
theorem lcmp_ok {a b : Int} (ha : inR64 a) (hb : inR64 b) : lg_cmp (Int64.ofInt a) (Int64.ofInt b) = Int32.ofInt (lcmp9 a b) := by
  unfold lg_cmp lcmp9
  by_cases h1 : b < a
  · rw [if_pos (show Int64.ofInt a > Int64.ofInt b from (ol_lt hb ha).mpr h1), if_pos h1]; rfl
  · rw [if_neg (show ¬ Int64.ofInt a > Int64.ofInt b from fun h => h1 ((ol_lt hb ha).mp h)), if_neg h1]
    by_cases h2 : a = b
    · rw [if_pos (congrArg Int64.ofInt h2), if_pos h2]; rfl
    · rw [if_neg (fun h => h2 ((ol_eq ha hb).mp h)), if_neg h2]; rfl
theorem oi_nn {z : Int} (h0 : 0 ≤ z) (h1 : z < 2147483648) : ¬ Int32.ofInt z < 0 ∧ (Int32.ofInt z).toNatClampNeg = z.toNat := by
  have hr : inR z := ⟨by omega, by omega⟩
  refine ⟨fun h => ?_, ?_⟩
  · have := (oi_lt hr inR_0).mp h
    omega
  · show (Int32.ofInt z).toInt.toNat = z.toNat
    rw [oi_t hr]
section JR2
variable {K : KT} {cc : ByteArray} {own : String} {nL fr lo pc pc1 tgt : Nat} {ret : Option FieldType} {d : DA} {lv lv' : List (Nat × Value)} {st : List Value} {Y : Type} {y : Y}
theorem j_lcmp (hK : Ok9 K cc own nL ret fr lo) {a b : Int} {k : Option Y} (hd : Dc cc pc .lcmp 1 pc1) (h : gd (inR64 a ∧ inR64 b) k = some y) (f : k = some y → J K nL d lv pc1 (vi (lcmp9 a b) :: st)) : J K nL d lv pc (vl b :: vl a :: st) :=
  ⟨(f (gd_some h).2).1, fun H locs ls hR hl => by
    obtain ⟨hd, rfl⟩ := hd
    obtain ⟨⟨ha, hb⟩, h⟩ := gd_some h
    have hk := (f h).2 H locs ls hR hl
    refine W.lcmp hK.1.1 hK.1.2.1 hd ?_
    rw [lcmp_ok ha hb]
    exact hk⟩
theorem j_eqr {r q : Nat} {k : Option Y} (h : gd (r = q) k = some y) (f : k = some y → J K nL d lv pc (rf K q :: st)) : J K nL d lv pc (rf K r :: st) := by
  obtain ⟨e, h9⟩ := gd_some h
  subst e
  exact f h9
theorem j_tsI (hK : Ok9 K cc own nL ret fr lo) {a v df lo' hi off : Int} {offs : Array Int} {len : Nat} {kt kf : Option Y} (hd : Dc cc pc (.tableswitch df lo' hi offs) len pc1) (hr : inR a) (h : (if a = v then kt else kf) = some y) (h1 : ¬ v < lo') (h2 : ¬ hi < v) (ho : offs[(v - lo').toNat]? = some off) (ht : (pc : Int) + off = (tgt : Int)) (ft : kt = some y → J K nL d lv tgt st) (ff : a ≠ v → kf = some y → J K nL d lv pc (vi a :: st)) : J K nL d lv pc (vi a :: st) := by
  by_cases hv : a = v
  · subst hv
    rw [if_pos rfl] at h
    refine ⟨(ft h).1, fun H locs ls hR hl => ?_⟩
    refine lv_tableIn hK.1.1 hK.1.2.1 hd.1 (by rw [oi_t hr]; exact h1) (by rw [oi_t hr]; exact h2) (by rw [oi_t hr]; exact ho) ht ((ft h).2 H locs ls hR hl)
  · rw [if_neg hv] at h
    exact ff hv h
theorem j_tsO (hK : Ok9 K cc own nL ret fr lo) {a df lo' hi : Int} {offs : Array Int} {len : Nat} (hd : Dc cc pc (.tableswitch df lo' hi offs) len pc1) (hr : inR a) (h : a < lo' ∨ hi < a) (ht : (pc : Int) + df = (tgt : Int)) (k : J K nL d lv tgt st) : J K nL d lv pc (vi a :: st) :=
  ⟨k.1, fun H locs ls hR hl => lv_tableOut hK.1.1 hK.1.2.1 hd.1 (by rw [oi_t hr]; exact h) ht (k.2 H locs ls hR hl)⟩
/-! the classes' own constant row -/
theorem j_gren (hK : Ok9 K cc own nL ret fr lo) {idx : Nat} (hw : Cond.fieldLink own idx "FuseKinds$Lister" "RENAMINGS" "[I" ∈ allw) (hd : Dc cc pc (.getstatic idx) 3 pc1) (k : J K nL d lv pc1 (.ref (gR (kG K)) :: st)) : J K nL d lv pc st :=
  ⟨k.1, fun H locs ls hR hl => by
    obtain ⟨hd, rfl⟩ := hd
    obtain ⟨hx, hb, hml, hown, hwd, -, hSf, -⟩ := hK.1
    exact va_gets hx hb hSf.2.2.2.2.2.2.1 hR.2 hown (hwd _ hw _) (fun _ h => h) hd (k.2 H locs ls hR hl)⟩
theorem j_rald (hK : Ok9 K cc own nL ret fr lo) {j : Int} {k : Option Y} (hd : Dc cc pc .iaload 1 pc1) (h : gd (ix j 18) k = some y) (f : k = some y → J K nL d lv pc1 (vi (renI j) :: st)) : J K nL d lv pc (vi j :: .ref (gR (kG K)) :: st) :=
  ⟨(f (gd_some h).2).1, fun H locs ls hR hl => by
    obtain ⟨hd, rfl⟩ := hd
    obtain ⟨hj, h⟩ := gd_some h
    obtain ⟨hx, hb, hml, hown, hwd, -, hSf, -⟩ := hK.1
    obtain ⟨h1, h2⟩ := oi_clamp (n := 18) hj (by decide)
    refine va_ti hx hb hSf.2.2.2.2.2.2.2.1 hR.2 h2 (v := vi (renI j)) ?_ hd ((f h).2 H locs ls hR hl)
    rw [h1]
    exact congrArg Value.int (oi_of _).symm⟩
theorem j_rlen (hK : Ok9 K cc own nL ret fr lo) (hd : Dc cc pc .arraylength 1 pc1) (k : J K nL d lv pc1 (vi 18 :: st)) : J K nL d lv pc (.ref (gR (kG K)) :: st) :=
  ⟨k.1, fun H locs ls hR hl => by
    obtain ⟨hd, rfl⟩ := hd
    obtain ⟨hx, hb, hml, hown, hwd, -, hSf, -⟩ := hK.1
    exact va_tlen hx hb hSf.2.2.2.2.2.2.2.1 hR.2 (v := Int32.ofInt 18) rfl hd (k.2 H locs ls hR hl)⟩
/-! arraycopy -/
theorem ce_wA {G : GT} {ad : Nat → Nat} {σ : HS} {d : DA} {c : Nat} {f : Nat → Int} {j : Nat} (h : j ≠ c) : ce9 G ad (wD σ (wA d c f)) j = ce9 G ad (wD σ d) j := by
  have e : iI (wD σ (wA d c f)) j = iI (wD σ d) j := funext fun q => by
    show fu d.1 c f j q = d.1 j q
    rw [fu_n h]
  unfold ce9
  rw [e]
  rfl
theorem ce_wB {G : GT} {ad : Nat → Nat} {σ : HS} {d : DA} {c : Nat} {f : Nat → Int} {j : Nat} (h : j ≠ c) : ce9 G ad (wD σ (wB d c f)) j = ce9 G ad (wD σ d) j := by
  have e : lL (wD σ (wB d c f)) j = lL (wD σ d) j := funext fun q => by
    show fu d.2 c f j q = d.2 j q
    rw [fu_n h]
  unfold ce9
  rw [e]
  rfl
theorem j_cpI (hK : Ok9 K cc own nL ret fr lo) {i j ni nj idx : Nat} {sp dp n : Int} {q : DA → Option Y} (hi : Ar K i ni) (hni : ni < 2147483648) (hj : Ar K j nj) (hnj : nj < 2147483648) (hw : Cond.methodLink own idx arraycopyName ∈ allw) (hfr : 1 ≤ fr) (hlo : (st.map fun v => v.category).sum + 18 ≤ lo) (hd : Dc cc pc (.invokestatic idx) 3 pc1) (h : gd (cpg sp ni dp nj n) (lt9 (cpI d i sp j dp n) q) = some y) (kk : ∀ d1, q d1 = some y → J K nL d1 lv pc1 st) : J K nL d lv pc (vi n :: vi dp :: rf K j :: vi sp :: rf K i :: st) :=
  ⟨(kk _ (gd_some h).2).1, fun H locs ls hR hl => by
    obtain ⟨hd, rfl⟩ := hd
    obtain ⟨⟨g1, g2, g3, g4, g5⟩, h⟩ := gd_some h
    obtain ⟨hx, hb, hml, hown, hwd, hKx, hSf, -⟩ := hK.1
    obtain ⟨hi1, hi2, hi3⟩ := hi
    obtain ⟨hj1, hj2, hj3⟩ := hj
    have hEi := wl_at (G := kG K) (ad := ka K) (σ := wD (kσ K) d) hi1
    rw [ce_I (show kK (wD (kσ K) d) i = 13 from hi2)] at hEi
    have hEj := wl_at (G := kG K) (ad := ka K) (σ := wD (kσ K) d) hj1
    rw [ce_I (show kK (wD (kσ K) d) j = 13 from hj2)] at hEj
    have zi : zZ (wD (kσ K) d) i = ni := hi3
    have zj : zZ (wD (kσ K) d) j = nj := hj3
    rw [zi] at hEi
    rw [zj] at hEj
    obtain ⟨s1, s2⟩ := oi_nn (z := sp) g1 (by omega)
    obtain ⟨t1, t2⟩ := oi_nn (z := dp) g2 (by omega)
    obtain ⟨u1, u2⟩ := oi_nn (z := n) g3 (by omega)
    refine va_copyi (D := gD (kG K)) (cl := vwCl) (tys := gT (kG K)) hx hb (hml.trans hl.1.symm) hown (hwd _ hw _) (hwd _ ac_nat _) (hwd _ ac_st _) (hwd _ ac_in _) hKx hR.1.1 hR.1.2 hR.2 (i - 1) (j - 1) 0 0 hEi hEj rfl rfl rfl s1 t1 u1 (by rw [s2, u2]; omega) (by rw [t2, u2]; omega) (fun _ _ => rfl) (Nat.le_trans hfr hK.2.1) (Nat.le_trans hlo hK.2.2.1) hd (fun H1 locs1 hP hD hS => ?_)
    rw [s2, t2, u2] at hP hD
    have hset : (wl (kG K) (ka K) (wD (kσ K) d)).set (j - 1) (ka K j, .inl (gI (kG K), nj, .inl (va_cpy (fun k => Int32.ofInt (iI (wD (kσ K) d) i k)) (fun k => Int32.ofInt (iI (wD (kσ K) d) j k)) sp.toNat dp.toNat n.toNat))) = wl (kG K) (ka K) (wD (kσ K) (cpI d i sp j dp n)) := by
      refine wl_set hj1 rfl ?_ (fun k hk => ce_wA hk)
      rw [ce_I (show kK (wD (kσ K) (cpI d i sp j dp n)) j = 13 from hj2)]
      rw [show zZ (wD (kσ K) (cpI d i sp j dp n)) j = nj from hj3]
      refine congrArg _ (congrArg _ (congrArg _ (congrArg _ (funext fun k => ?_))))
      show Int32.ofInt (fu d.1 j (cpF (d.1 i) (d.1 j) sp dp n) j k) = _
      rw [fu_s]
      unfold cpF va_cpy
      split <;> rfl
    rw [hset] at hP hD
    exact (kk _ h).2 H1 locs1 ls ⟨⟨hP, hD⟩, hS⟩ hl⟩
theorem j_cpJ (hK : Ok9 K cc own nL ret fr lo) {i j ni nj idx : Nat} {sp dp n : Int} {q : DA → Option Y} (hi : Al K i ni) (hni : ni < 2147483648) (hj : Al K j nj) (hnj : nj < 2147483648) (hw : Cond.methodLink own idx arraycopyName ∈ allw) (hfr : 1 ≤ fr) (hlo : (st.map fun v => v.category).sum + 18 ≤ lo) (hd : Dc cc pc (.invokestatic idx) 3 pc1) (h : gd (cpg sp ni dp nj n) (lt9 (cpJ d i sp j dp n) q) = some y) (kk : ∀ d1, q d1 = some y → J K nL d1 lv pc1 st) : J K nL d lv pc (vi n :: vi dp :: rf K j :: vi sp :: rf K i :: st) :=
  ⟨(kk _ (gd_some h).2).1, fun H locs ls hR hl => by
    obtain ⟨hd, rfl⟩ := hd
    obtain ⟨⟨g1, g2, g3, g4, g5⟩, h⟩ := gd_some h
    obtain ⟨hx, hb, hml, hown, hwd, hKx, hSf, -⟩ := hK.1
    obtain ⟨hi1, hi2, hi3⟩ := hi
    obtain ⟨hj1, hj2, hj3⟩ := hj
    have hEi := wl_at (G := kG K) (ad := ka K) (σ := wD (kσ K) d) hi1
    rw [ce_L (show kK (wD (kσ K) d) i = 14 from hi2)] at hEi
    have hEj := wl_at (G := kG K) (ad := ka K) (σ := wD (kσ K) d) hj1
    rw [ce_L (show kK (wD (kσ K) d) j = 14 from hj2)] at hEj
    have zi : zZ (wD (kσ K) d) i = ni := hi3
    have zj : zZ (wD (kσ K) d) j = nj := hj3
    rw [zi] at hEi
    rw [zj] at hEj
    obtain ⟨s1, s2⟩ := oi_nn (z := sp) g1 (by omega)
    obtain ⟨t1, t2⟩ := oi_nn (z := dp) g2 (by omega)
    obtain ⟨u1, u2⟩ := oi_nn (z := n) g3 (by omega)
    refine va_copyl (D := gD (kG K)) (cl := vwCl) (tys := gT (kG K)) hx hb (hml.trans hl.1.symm) hown (hwd _ hw _) (hwd _ ac_nat _) (hwd _ ac_st _) (hwd _ ac_in _) hKx hR.1.1 hR.1.2 hR.2 (i - 1) (j - 1) 1 1 hEi hEj rfl rfl rfl s1 t1 u1 (by rw [s2, u2]; omega) (by rw [t2, u2]; omega) (fun _ _ => rfl) (Nat.le_trans hfr hK.2.1) (Nat.le_trans hlo hK.2.2.1) hd (fun H1 locs1 hP hD hS => ?_)
    rw [s2, t2, u2] at hP hD
    have hset : (wl (kG K) (ka K) (wD (kσ K) d)).set (j - 1) (ka K j, .inl (gJ (kG K), nj, .inr (.inl (va_cpy (fun k => Int64.ofInt (lL (wD (kσ K) d) i k)) (fun k => Int64.ofInt (lL (wD (kσ K) d) j k)) sp.toNat dp.toNat n.toNat)))) = wl (kG K) (ka K) (wD (kσ K) (cpJ d i sp j dp n)) := by
      refine wl_set hj1 rfl ?_ (fun k hk => ce_wB hk)
      rw [ce_L (show kK (wD (kσ K) (cpJ d i sp j dp n)) j = 14 from hj2)]
      rw [show zZ (wD (kσ K) (cpJ d i sp j dp n)) j = nj from hj3]
      refine congrArg _ (congrArg _ (congrArg _ (congrArg _ (congrArg _ (funext fun k => ?_)))))
      show Int64.ofInt (fu d.2 j (cpF (d.2 i) (d.2 j) sp dp n) j k) = _
      rw [fu_s]
      unfold cpF va_cpy
      split <;> rfl
    rw [hset] at hP hD
    exact (kk _ h).2 H1 locs1 ls ⟨⟨hP, hD⟩, hS⟩ hl⟩
/-! a nest mate's private method -/
def CNl (own : String) (idx : Nat) (y : MethodName) (n : Nat) : Prop := (Cond.methodLinkNest own idx y "FuseKinds" ∈ allw) ∧ (Cond.initialized y.cls ∈ allw) ∧ (y.cls ≠ "java/lang/invoke/MethodHandle" ∧ y.cls ≠ "java/lang/invoke/VarHandle" ∧ (parseMethodDescriptor y.desc).map (fun d => d.parameters.length) = some n)
theorem cn_B {G : GT} {l : Launch} {p : Program} {R : Room} {s : State} {m : MethodId} {args : Array Value} {meth : Method} {c : Code} (hC : Cx G l p s m meth c cc own nL ret) {idx : Nat} {y : MethodName} {n' n fr lo : Nat} {cy : ByteArray} {rt : Option FieldType} (hL : CNl own idx y n) (hcw : Cond.code y cy n' rt ∈ allw) (hfr : fr + 1 ≤ R.frames) (hlo : 8 + (n' + 11) + lo ≤ R.locals) : va_CN R s args own idx y "FuseKinds" cy n' rt [.code y cy n' rt] (rm9 fr lo) 0 0 n := by
  obtain ⟨h1, h2, h3⟩ := hL
  refine va_cnB (Ts := allw) (ws' := []) n (fun w hw => hC.2.2.2.2.1 w hw args) (fun w hw => ?_) rfl rfl rfl (va_Nw.of rfl (hC.2.2.2.2.1 _ h1 args)) (hC.2.2.2.2.1 _ h2 args) h3 ⟨hfr, hlo⟩
  have e := List.mem_singleton.mp hw
  subst e
  have h9 := (List.mem_filter.mp hcw).2
  simp only [okW, Bool.or_eq_true] at h9
  rcases h9 with h9 | h9
  · exact ⟨hcw, good_of_word h9⟩
  · exact Bool.noConfusion h9
theorem j_cVN (hK : Ok9 K cc own nL ret fr lo) {idx : Nat} {y : MethodName} {C : String} {n' n fr' lo' i ci : Nat} {cy : ByteArray} {rt : Option FieldType} {av : List Value} {rv : Option Value} {d' : DA} {st0 st1 : List Value} (hM : CtK K y cy n' rt fr' lo' d (rf K i :: av) rv d')
    (hL : CNl own idx y n) (hcw : Cond.code y cy n' rt ∈ allw) (hin : Cond.instanceMethod y ∈ allw) (hse : Cond.selects C y y ∈ allw) (hw : isC (kσ K) i ∧ kK (kσ K) i = ci) (hci : ci < 13) (hcl : (vwCl[ci]?).map (fun q => q.1) = some C) (hfr : fr' + 1 ≤ fr) (hlo : 8 + (n' + 11) + lo' ≤ lo) (hn : av.length = n) (hst : st0 = av.reverse ++ rf K i :: st) (hW : (st.map fun v => v.category).sum ≤ 8)
    (hd : Dc cc pc (.invokevirtual idx) 3 pc1) (hst1 : rv.toList ++ st = st1) (kk : J K nL d' lv pc1 st1) : J K nL d lv pc st0 :=
  ⟨kk.1, fun H locs ls hR hl => by
    obtain ⟨hd, rfl⟩ := hd
    subst hst1
    have hE := wl_at (G := kG K) (ad := ka K) (σ := wD (kσ K) d) hw.1
    rw [ce_O (show kK (wD (kσ K) d) i = ci from hw.2) hci] at hE
    obtain ⟨q, hq, hqC⟩ := Option.map_eq_some_iff.mp hcl
    refine r_back (Pc := PC (kG K) (ka K) (wD (kσ K) d) (rf K i :: av)) hR (va_runVN (As := av) (rest := st) ⟨hK.1.1, hK.1.2.1, hK.1.2.2.1, hK.1.2.2.2.1, fun w hw => hK.1.2.2.2.2.1 w hw _⟩ hM ⟨cn_B hK.1 hL hcw (Nat.le_trans hfr hK.2.1) (Nat.le_trans hlo hK.2.2.1), hK.1.2.2.2.2.1 _ hin _, hK.1.2.2.2.2.1 _ hse _⟩ ⟨pc_blind, ?_, fun U hU hW => pc_pre hK.1 hR U hU hW⟩ rfl hn hl.1 hst (lv_room hW) hd kk.1.1) (fun H1 locs1 hR1 => kk.2 H1 locs1 ls hR1 hl)
    have := va_recv (q := q) hK.1.2.2.2.2.2.1 hR.1.1 (ci := ci) (q0 := i - 1) hq hE
    rw [hqC] at this
    exact this⟩
end JR2
def mmax (a b : Int) : Int := if a < b then b else a
def mmin (a b : Int) : Int := if b < a then b else a
def mabs (a : Int) : Int := if 0 ≤ a then a else 0 - a
section JM
variable {K : KT} {cc : ByteArray} {own : String} {nL fr lo pc pc1 tgt : Nat} {ret : Option FieldType} {d : DA} {lv lv' : List (Nat × Value)} {st : List Value} {Y : Type} {y : Y}
theorem j_mmax (hK : Ok9 K cc own nL ret fr lo) {idx : Nat} {a b : Int} {k : Option Y} (hL : CL own idx yJ9_max_7cf53 2) (hfr : 1 ≤ fr) (hlo : (st.map fun v => v.category).sum + 13 ≤ lo) (hd : Dc cc pc (.invokestatic idx) 3 pc1) (h : gd (inR a ∧ inR b) k = some y) (f : k = some y → J K nL d lv pc1 (vi (mmax a b) :: st)) : J K nL d lv pc (vi b :: vi a :: st) :=
  ⟨(f (gd_some h).2).1, fun H locs ls hR hl => by
    obtain ⟨hd, rfl⟩ := hd
    obtain ⟨⟨ha, hb⟩, h⟩ := gd_some h
    have hk := (f h).2 H locs ls hR hl
    refine va_mmax hK.1.1 hK.1.2.1 (hK.1.2.2.1.trans hl.1.symm) hK.1.2.2.2.1 (hK.1.2.2.2.2.1 _ hL.1 _) (hK.1.2.2.2.2.1 _ mx_st _) (hK.1.2.2.2.2.1 _ hL.2.1 _) (hK.1.2.2.2.2.1 _ mx_cd _) (Nat.le_trans hfr hK.2.1) (Nat.le_trans hlo hK.2.2.1) (f h).1.1.1 (f h).1.1.2 hd ?_
    have e : (if Int32.ofInt a < Int32.ofInt b then Int32.ofInt b else Int32.ofInt a) = Int32.ofInt (mmax a b) := by
      unfold mmax
      by_cases h1 : a < b
      · rw [if_pos ((oi_lt ha hb).mpr h1), if_pos h1]
      · rw [if_neg (fun h9 => h1 ((oi_lt ha hb).mp h9)), if_neg h1]
    rw [e]
    exact hk⟩
theorem j_mmin (hK : Ok9 K cc own nL ret fr lo) {idx : Nat} {a b : Int} {k : Option Y} (hL : CL own idx yJ9_min_7cf53 2) (hfr : 1 ≤ fr) (hlo : (st.map fun v => v.category).sum + 13 ≤ lo) (hd : Dc cc pc (.invokestatic idx) 3 pc1) (h : gd (inR a ∧ inR b) k = some y) (f : k = some y → J K nL d lv pc1 (vi (mmin a b) :: st)) : J K nL d lv pc (vi b :: vi a :: st) :=
  ⟨(f (gd_some h).2).1, fun H locs ls hR hl => by
    obtain ⟨hd, rfl⟩ := hd
    obtain ⟨⟨ha, hb⟩, h⟩ := gd_some h
    have hk := (f h).2 H locs ls hR hl
    refine va_mmin hK.1.1 hK.1.2.1 (hK.1.2.2.1.trans hl.1.symm) hK.1.2.2.2.1 (hK.1.2.2.2.2.1 _ hL.1 _) (hK.1.2.2.2.2.1 _ mn_st _) (hK.1.2.2.2.2.1 _ hL.2.1 _) (hK.1.2.2.2.2.1 _ mn_cd _) (Nat.le_trans hfr hK.2.1) (Nat.le_trans hlo hK.2.2.1) (f h).1.1.1 (f h).1.1.2 hd ?_
    have e : (if Int32.ofInt b < Int32.ofInt a then Int32.ofInt b else Int32.ofInt a) = Int32.ofInt (mmin a b) := by
      unfold mmin
      by_cases h1 : b < a
      · rw [if_pos ((oi_lt hb ha).mpr h1), if_pos h1]
      · rw [if_neg (fun h9 => h1 ((oi_lt hb ha).mp h9)), if_neg h1]
    rw [e]
    exact hk⟩
theorem j_mminL (hK : Ok9 K cc own nL ret fr lo) {idx : Nat} {a b : Int} {k : Option Y} (hL : CL own idx yJ9_min_f86c9 2) (hfr : 1 ≤ fr) (hlo : (st.map fun v => v.category).sum + 15 ≤ lo) (hd : Dc cc pc (.invokestatic idx) 3 pc1) (h : gd (inR64 a ∧ inR64 b) k = some y) (f : k = some y → J K nL d lv pc1 (vl (mmin a b) :: st)) : J K nL d lv pc (vl b :: vl a :: st) :=
  ⟨(f (gd_some h).2).1, fun H locs ls hR hl => by
    obtain ⟨hd, rfl⟩ := hd
    obtain ⟨⟨ha, hb⟩, h⟩ := gd_some h
    have hk := (f h).2 H locs ls hR hl
    refine va_mmin_long hK.1.1 hK.1.2.1 (hK.1.2.2.1.trans hl.1.symm) hK.1.2.2.2.1 (hK.1.2.2.2.2.1 _ hL.1 _) (hK.1.2.2.2.2.1 _ ml_st _) (hK.1.2.2.2.2.1 _ hL.2.1 _) (hK.1.2.2.2.2.1 _ ml_cd _) (Nat.le_trans hfr hK.2.1) (Nat.le_trans hlo hK.2.2.1) (f h).1.1.1 (f h).1.1.2 hd ?_
    have e : (if Int64.ofInt b < Int64.ofInt a then Int64.ofInt b else Int64.ofInt a) = Int64.ofInt (mmin a b) := by
      unfold mmin
      by_cases h1 : b < a
      · rw [if_pos ((ol_lt hb ha).mpr h1), if_pos h1]
      · rw [if_neg (fun h9 => h1 ((ol_lt hb ha).mp h9)), if_neg h1]
    rw [e]
    exact hk⟩
theorem j_mabs (hK : Ok9 K cc own nL ret fr lo) {idx : Nat} {a : Int} {k : Option Y} (hL : CL own idx yJ9_abs_0f7a4 1) (hfr : 1 ≤ fr) (hlo : (st.map fun v => v.category).sum + 13 ≤ lo) (hd : Dc cc pc (.invokestatic idx) 3 pc1) (h : gd (inR a) k = some y) (f : k = some y → J K nL d lv pc1 (vi (mabs a) :: st)) : J K nL d lv pc (vi a :: st) :=
  ⟨(f (gd_some h).2).1, fun H locs ls hR hl => by
    obtain ⟨hd, rfl⟩ := hd
    obtain ⟨ha, h⟩ := gd_some h
    have hk := (f h).2 H locs ls hR hl
    refine va_mabs hK.1.1 hK.1.2.1 (hK.1.2.2.1.trans hl.1.symm) hK.1.2.2.2.1 (hK.1.2.2.2.2.1 _ hL.1 _) (hK.1.2.2.2.2.1 _ mb_st _) (hK.1.2.2.2.2.1 _ hL.2.1 _) (hK.1.2.2.2.2.1 _ mb_cd _) (Nat.le_trans hfr hK.2.1) (Nat.le_trans hlo hK.2.2.1) (f h).1.1.1 (f h).1.1.2 hd ?_
    have e : (if 0 ≤ Int32.ofInt a then Int32.ofInt a else 0 - Int32.ofInt a) = Int32.ofInt (mabs a) := by
      unfold mabs
      show (if Int32.ofInt 0 ≤ Int32.ofInt a then Int32.ofInt a else Int32.ofInt 0 - Int32.ofInt a) = _
      by_cases h1 : 0 ≤ a
      · rw [if_pos ((oi_le inR_0 ha).mpr h1), if_pos h1]
      · rw [if_neg (fun h9 => h1 ((oi_le inR_0 ha).mp h9)), if_neg h1, ← oi_sub]
    rw [e]
    exact hk⟩
theorem j_alenL (hK : Ok9 K cc own nL ret fr lo) {i n : Nat} (hw : Al K i n) (hd : Dc cc pc .arraylength 1 pc1) (kk : J K nL d lv pc1 (vi (n : Int) :: st)) : J K nL d lv pc (rf K i :: st) :=
  ⟨kk.1, fun H locs ls hR hl => by
    obtain ⟨hd, rfl⟩ := hd
    have hE := wl_at (G := kG K) (ad := ka K) (σ := wD (kσ K) d) hw.1
    rw [ce_L (show kK (wD (kσ K) d) i = 14 from hw.2.1), show zZ (wD (kσ K) d) i = n from hw.2.2] at hE
    exact va_alen (D := gD (kG K)) (cl := vwCl) (tys := gT (kG K)) hK.1.1 hK.1.2.1 hK.1.2.2.2.2.2.1 hR.1.1 (i - 1) 1 hE rfl (v := Int32.ofInt n) (by simp [Int32.ofInt_eq_ofNat]) hd (kk.2 H locs ls hR hl)⟩
end JM
/-! wiring that is laid by a call: the reader's and the turns' own references; rows that grow -/
def M_4 (σ : HS) (o : Nat) : Prop := (pP σ o 0 = o - 1 ∧ ArS σ (o - 1) 400) ∧ (pP σ o 10 = o - 7 ∧ W_8 σ (o - 7))
def M_10 (σ : HS) (o : Nat) : Prop := (pP σ o 4 = o - 63 ∧ W_8 σ (o - 63)) ∧ (pP σ o 5 = o - 10 ∧ W_3 σ (o - 10))
def Y_2 (σ : HS) (o z : Nat) : Prop := pP σ o 4 = o + 1 ∧ ArS σ (o + 1) z ∧ z < 2147483648
def Y_10 (σ : HS) (o z : Nat) : Prop := pP σ o 3 = o + 3 ∧ ArS σ (o + 3) z ∧ z < 2147483648
theorem cl11_39 : CNl RX11 39 yX4_init 0 := ⟨am1 190 (by decide +kernel) rfl, am1 6 (by decide +kernel) rfl, by decide +kernel⟩
theorem cl11_46 : CNl RX11 46 yX2_init 0 := ⟨am2 0 (by decide +kernel) rfl, am1 7 (by decide +kernel) rfl, by decide +kernel⟩
theorem cl11_53 : CNl RX11 53 yX7_init 0 := ⟨am2 44 (by decide +kernel) rfl, am1 8 (by decide +kernel) rfl, by decide +kernel⟩
theorem cl11_67 : CNl RX11 67 yX1_init 0 := ⟨am2 101 (by decide +kernel) rfl, am1 10 (by decide +kernel) rfl, by decide +kernel⟩
theorem cl11_81 : CNl RX11 81 yX5_init 0 := ⟨am2 202 (by decide +kernel) rfl, am1 12 (by decide +kernel) rfl, by decide +kernel⟩
theorem cl11_88 : CNl RX11 88 yX0_init 0 := ⟨am3 14 (by decide +kernel) rfl, am1 13 (by decide +kernel) rfl, by decide +kernel⟩
theorem cl11_154 : CNl RX11 154 yX6_forgetTold 0 := ⟨am3 161 (by decide +kernel) rfl, am1 2 (by decide +kernel) rfl, by decide +kernel⟩
theorem cl5_23 : CNl RX5 23 yX9_init 0 := ⟨am2 207 (by decide +kernel) rfl, am1 3 (by decide +kernel) rfl, by decide +kernel⟩
theorem cl6_20 : CNl RX6 20 yX9_init 0 := ⟨am1 42 (by decide +kernel) rfl, am1 3 (by decide +kernel) rfl, by decide +kernel⟩

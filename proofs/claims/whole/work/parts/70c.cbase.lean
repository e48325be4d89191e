/-! ===== constructors: rows over the pure data ===== -/
abbrev pu (pp : Nat → Nat → Nat) (k : Nat) : Nat → Nat → Nat := fu pp k (fun _ => 0)
abbrev pw (pp : Nat → Nat → Nat) (o f v : Nat) : Nat → Nat → Nat := fu pp o (fu (pp o) f v)
def Ae (k : Nat) (ad ad1 : Nat → Nat) : Prop := ∀ i, i ≤ k → ad1 i = ad i
theorem Ae.rf {k : Nat} {ad : Nat → Nat} : Ae k ad ad := fun _ _ => rfl
theorem Ae.upA {k k1 a : Nat} {ad ad1 : Nat → Nat} (h : Ae k ad ad1) (hk : k < k1) : Ae k ad (fu ad1 k1 a) := fun i hi => by
  rw [fu_n (by omega)]; exact h i hi
theorem Ae.upZ {k k1 : Nat} {ad ad1 a' : Nat → Nat} (h : Ae k ad ad1) (hk : k ≤ k1) : Ae k ad (fz k1 ad1 a') := fun i hi => by
  unfold fz
  rw [if_pos (by omega)]; exact h i hi
theorem Ae.same {k : Nat} {ad ad1 : Nat → Nat} (h : Ae k ad ad1) : fz k ad ad1 = ad1 := funext fun i => by
  unfold fz
  by_cases hi : i ≤ k
  · rw [if_pos hi, h i hi]
  · rw [if_neg hi]
def OkE (B : BT) (cc : ByteArray) (own : String) (nL : Nat) (ret : Option FieldType) (fr lo : Nat) : Prop := Ok9 (KE B (fun _ => 0) (csX ([], []) 0 (fun _ _ => 0)) 0 0) cc own nL ret fr lo
theorem okE {B : BT} {ad : Nat → Nat} {σ : HS} {c s : Nat} {cc : ByteArray} {own : String} {nL : Nat} {ret : Option FieldType} {fr lo : Nat} (h : OkE B cc own nL ret fr lo) : Ok9 (KE B ad σ c s) cc own nL ret fr lo := h
theorem hsE {B : BT} {cc : ByteArray} {own : String} {nL : Nat} {ret : Option FieldType} {fr lo : Nat} (h : OkE B cc own nL ret fr lo) : B.2.1.stackTraces = false := hst9 h
def EnC (Tb : TT) (B : BT) (k : Nat) (ad : Nat → Nat) (k' : Nat) (pp' : Nat → Nat → Nat) (d' : DA) (mc ms : Nat) : Prop := ∀ (adf : Nat → Nat) (c s : Nat), Ae k ad adf → c ≤ mc → s ≤ ms → En (KE B adf (csX Tb k' pp') c s) none d'
theorem cct_of {Tb Tb' : TT} {G : GT} {l : Launch} {y : MethodName} {cc : ByteArray} {n fr lo k : Nat} {ad : Nat → Nat} {pp : Nat → Nat → Nat} {d : DA} {av : List Value} {k' : Nat} {pp' : Nat → Nat → Nat} {d' : DA} {mc ms : Nat} (hst : l.stackTraces = false) (hpl : plainName y.cls = true) (hnm : y.name = "<init>") (hn : (lg_sl av).length ≤ n)
    (body : ∀ B : BT, B.1 = G → B.2.1 = l → B.2.2.2.2.2.2.2.2.2.1.name = "<init>" → OkE B cc y.cls n none fr lo → EnC Tb' B k ad k' pp' d' mc ms → J (KE B ad (csX Tb k pp) 0 0) n d (lv_args 0 av) 0 []) : CCt Tb Tb' G l y cc n fr lo k ad pp d av k' pp' d' mc ms := by
  refine Met.ofW (cc := cc) (maxL := n) (ret := none) hpl rfl ?_
  intro p e s m args below meth c s₁ Bx hml hv
  obtain ⟨rfl, hW, hK, hSf, hR, hA⟩ := hv
  rw [lg_entry_eq]
  have hC : Cx G l p s m meth c cc y.cls n none := ⟨Bx.exec, Bx.bytes, hml, findClass_of_methodNamed Bx.named, hW, hK, hSf, Bx.notSynchronized, Bx.returns, hA, hst⟩
  have hin : meth.name = "<init>" := (name_of_methodNamed Bx.named Bx.method).1.trans hnm
  have hb := body (G, l, p, e, rmX fr lo mc ms, s, m, av.toArray, below, meth, c, QK Tb' G k ad k' pp' d', MQ below (QK Tb' G k ad k' pp' d') av.toArray s mc ms (gA G), mc, ms) rfl rfl hin
    ⟨hC, Nat.le_refl _, Nat.le_refl _, fun H locs c1 s1 g1 h1 h2 k => by
      intro T hT X
      obtain ⟨t, a1, o, b1, b2, b3, L, b4, b5⟩ := k T hT X
      exact ⟨t, a1, o, b1, b2, b3, L, ⟨b4.1, b4.2.1, b4.2.2.mono h1 h2⟩, b5⟩⟩
    (fun adf c1 s1 hA1 hc1 hs1 => ⟨⟨⟨hc1, hs1⟩, hc1, hs1⟩, fun H locs t hR1 ht _ => ⟨rfl, ⟨adf, by rw [hA1.same, ht]; exact hR1.1⟩, hR1.2.F ht⟩⟩)
  exact hb.2 s.heap [] _ ⟨hR, va_S.rf⟩ (lv_entry av hn)
theorem c_back {Tb' : TT} {G : GT} {p : Program} {l : Launch} {e : Env} {R : Room} {s : State} {m : MethodId} {args av : Array Value} {below : List Frame} {meth : Method} {c : Code} {H : Heap} {locs : List Loc} {cells slots mc ms k k1 pc : Nat} {Q : State → Prop} {ls : Array Slot} {rest st0 : List Value} {σ : HS} {ad : Nat → Nat} {pp1 : Nat → Nat → Nat} {d1 : DA} (hR : Rh G s ad σ H locs)
    (hr : va_Run p l e R s m args below meth c H locs cells slots mc ms (F0 m pc ls st0) rest (QK Tb' G k ad k1 pp1 d1 av) (gA G))
    (kk : ∀ (a' : Nat → Nat) (H1 : Heap) (locs1 : List Loc), Rh G s (fz k ad a') (wD (csX Tb' k1 pp1) d1) H1 locs1 → W p l e R s m args below meth c H1 locs1 (cells + mc) (slots + ms) Q (F0 m (pc + 3) ls rest)) : W p l e R s m args below meth c H locs cells slots Q (F0 m pc ls st0) := by
  intro T hT X
  obtain ⟨v, st₀, t, T', L, h0, X', hL, e1, e2, ⟨hv, ⟨a', hRp⟩, hF⟩, st⟩ := hr T hT X
  cases hv
  obtain ⟨hz, hk⟩ := hF
  rw [h0] at hz hk
  have hS : va_S (gA G) s.heap T'.heap (locs ++ L) := ⟨Nat.le_trans hR.2.1 (by rw [e1]; exact hz), fun q h1 h2 => by rw [e1, hk q (Nat.lt_of_lt_of_le h1 hR.2.1) h2]; exact hR.2.2.1 q h1 h2, fun q hq => by
    rcases List.mem_append.mp hq with h | h
    · exact hR.2.2.2 q h
    · exact hL q h⟩
  obtain ⟨t2, a1, b1⟩ := kk a' T'.heap (locs ++ L) ⟨by rw [e1]; exact hRp, hS⟩ T' rfl X'
  exact ⟨t2, st t2 a1, b1⟩
theorem cn_Bx {G : GT} {l : Launch} {p : Program} {R : Room} {s : State} {m : MethodId} {args : Array Value} {meth : Method} {c : Code} {cc : ByteArray} {own : String} {nL : Nat} {ret : Option FieldType} (hC : Cx G l p s m meth c cc own nL ret) {idx : Nat} {y : MethodName} {n' n fr lo mc ms : Nat} {cy : ByteArray} {rt : Option FieldType} (hL : CNl own idx y n) (hcw : Cond.code y cy n' rt ∈ allw) (hfr : fr + 1 ≤ R.frames) (hlo : 8 + (n' + 11) + lo ≤ R.locals) : va_CN R s args own idx y "FuseKinds" cy n' rt [.code y cy n' rt] (rmX fr lo mc ms) mc ms n := by
  obtain ⟨h1, h2, h3⟩ := hL
  refine va_cnB (Ts := allw) (ws' := []) n (fun w hw => hC.2.2.2.2.1 w hw args) (fun w hw => ?_) rfl rfl rfl (va_Nw.of rfl (hC.2.2.2.2.1 _ h1 args)) (hC.2.2.2.2.1 _ h2 args) h3 ⟨hfr, hlo⟩
  have e := List.mem_singleton.mp hw
  subst e
  have h9 := (List.mem_filter.mp hcw).2
  simp only [okW, Bool.or_eq_true] at h9
  rcases h9 with h9 | h9
  · exact ⟨hcw, good_of_word h9⟩
  · exact Bool.noConfusion h9
section CC
variable {Tb Tb' : TT} {B : BT} {ad ad0 : Nat → Nat} {cc : ByteArray} {own : String} {nL fr lo pc pc1 c9 s9 k k' k0 c' s' : Nat} {pp : Nat → Nat → Nat} {d : DA} {ret : Option FieldType} {lv : List (Nat × Value)} {st : List Value} {Y : Type} {y : Y}
theorem n_I (hB : OkE B cc own nL ret fr lo) (hcl : Cl k pp) (hae : Ae k0 ad0 ad) {n : Int} {N : Nat} {q : DA → Option Y} (e1 : k + 1 = k') (e2 : c9 + 1 = c') (e3 : s9 + N = s') (e4 : k0 < k') (hN : n = (N : Int)) (hk : Tb.1.getD k' 0 = 13) (hz : Tb.2.getD k' 0 = N) (hb : N ≤ 67108864) (hd : Dc cc pc (.newarray .int) 2 pc1) (h : lt9 (dz d k') q = some y)
    (kk : ∀ (a : Nat) (d1 : DA), Cl k' (pu pp k') → Ae k0 ad0 (fu ad k' a) → q d1 = some y → J (KE B (fu ad k' a) (csX Tb k' (pu pp k')) c' s') nL d1 lv pc1 (.ref a :: st)) : J (KE B ad (csX Tb k pp) c9 s9) nL d lv pc (vi n :: st) := by
  subst e1; subst e2; subst e3
  exact j_cnI (okE hB) hcl hN hk hz hb hd (fun a => kk a _ hcl.up (hae.upA e4) h)
theorem n_J (hB : OkE B cc own nL ret fr lo) (hcl : Cl k pp) (hae : Ae k0 ad0 ad) {n : Int} {N : Nat} {q : DA → Option Y} (e1 : k + 1 = k') (e2 : c9 + 1 = c') (e3 : s9 + N = s') (e4 : k0 < k') (hN : n = (N : Int)) (hk : Tb.1.getD k' 0 = 14) (hz : Tb.2.getD k' 0 = N) (hb : N ≤ 67108864) (hd : Dc cc pc (.newarray .long) 2 pc1) (h : lt9 (dz d k') q = some y)
    (kk : ∀ (a : Nat) (d1 : DA), Cl k' (pu pp k') → Ae k0 ad0 (fu ad k' a) → q d1 = some y → J (KE B (fu ad k' a) (csX Tb k' (pu pp k')) c' s') nL d1 lv pc1 (.ref a :: st)) : J (KE B ad (csX Tb k pp) c9 s9) nL d lv pc (vi n :: st) := by
  subst e1; subst e2; subst e3
  exact j_cnJ (okE hB) hcl hN hk hz hb hd (fun a => kk a _ hcl.up (hae.upA e4) h)
/-- what a new of the class ci wants -/
def NwO (own : String) (idx ci N : Nat) : Prop := ci < 13 ∧ ∃ (C : String) (T : u_T) (ty : Nat → FieldType), vwCl[ci]? = some (C, T, N) ∧ (∀ w ∈ u_ws C T N, w ∈ allw) ∧ (∀ j, j < N → parseFieldDescriptor (T j).2.2.1 = some (ty j)) ∧ Cond.classLink own idx C ∈ allw ∧ Cond.instantiable C N ∈ allw ∧ Cond.initialized C ∈ allw ∧ (List.range N).map (fun j => defaultValue (ty j)) = (List.range N).map (vp_V (fs0 ci))
theorem n_O (hB : OkE B cc own nL ret fr lo) (hcl : Cl k pp) (hae : Ae k0 ad0 ad) {idx ci N : Nat} {q : DA → Option Y} (hN : NwO own idx ci N) (e1 : k + 1 = k') (e2 : c9 + 1 = c') (e3 : s9 + N = s') (e4 : k0 < k') (hk : Tb.1.getD k' 0 = ci) (hd : Dc cc pc (.new idx) 3 pc1) (h : lt9 (dz d k') q = some y)
    (kk : ∀ (a : Nat) (d1 : DA), Cl k' (pu pp k') → Ae k0 ad0 (fu ad k' a) → q d1 = some y → J (KE B (fu ad k' a) (csX Tb k' (pu pp k')) c' s') nL d1 lv pc1 (.ref a :: st)) : J (KE B ad (csX Tb k pp) c9 s9) nL d lv pc st := by
  subst e1; subst e2; subst e3
  obtain ⟨hci, C, T, ty, hc, hin, hty, hlk, hins, hini, hfs⟩ := hN
  exact j_cnO (okE hB) hcl hk hci hc hin hty hlk hins hini (fun j hj => List.map_inj_left.mp hfs j (List.mem_range.mpr hj)) hd (fun a => kk a _ hcl.up (hae.upA e4) h)
theorem n_F (hB : OkE B cc own nL ret fr lo) (hcl : Cl k pp) (hnm9 : B.2.2.2.2.2.2.2.2.2.1.name = "<init>") {o idx ci f v : Nat} {ty : FieldType} (ho : 1 ≤ o ∧ o ≤ k) (hk : Tb.1.getD o 0 = ci) (hF : FL own idx ci f) (hP : FPF own idx ci f ty) (hf : fR ci f = true) (hv : 1 ≤ v ∧ v ≤ k) (hnar : ∀ a : Nat, narrow ty (.ref a) = .ref a) (hfit : ∀ a : Nat, fits ty (.ref a) = true) (hd : Dc cc pc (.putfield idx) 3 pc1) (kk : Cl k (pw pp o f v) → J (KE B ad (csX Tb k (pw pp o f v)) c9 s9) nL d lv pc1 st) : J (KE B ad (csX Tb k pp) c9 s9) nL d lv pc (.ref (ad v) :: .ref (ad o) :: st) :=
  j_cpF (okE hB) hnm9 ho hk hF hP hf (Nat.ne_of_gt hv.1) hnar hfit hd (kk (hcl.put hv.2))
theorem n_R (hB : OkE B cc own nL ret fr lo) (hcl : Cl k pp) {o idx ci f v : Nat} {ty : FieldType} (ho : 1 ≤ o ∧ o ≤ k) (hci : ci < 13) (hk : Tb.1.getD o 0 = ci) (hF : FL own idx ci f) (hP : FP own idx ci f ty) (hf : fR ci f = true) (hv : 1 ≤ v ∧ v ≤ k) (hnar : ∀ a : Nat, narrow ty (.ref a) = .ref a) (hfit : ∀ a : Nat, fits ty (.ref a) = true) (hd : Dc cc pc (.putfield idx) 3 pc1) (kk : Cl k (pw pp o f v) → J (KE B ad (csX Tb k (pw pp o f v)) c9 s9) nL d lv pc1 st) : J (KE B ad (csX Tb k pp) c9 s9) nL d lv pc (.ref (ad v) :: .ref (ad o) :: st) := by
  have k9 := kk (hcl.put hv.2)
  refine ⟨k9.1, fun H locs ls hR hl => ?_⟩
  have hR' : Rh B.1 B.2.2.2.2.2.1 ad (wD (csX Tb k pp) d) H locs := hR
  refine r_put0 (σ := wD (csX Tb k pp) d) (σ' := wD (csX Tb k (pw pp o f v)) d) (i := o) (k := f) (ci := ci) (okE (B := B) (ad := ad) (σ := csX Tb k pp) (c := c9) (s := s9) hB).1 hR' ho hk hF hP (hnar _) (hfit _) rfl rfl ?_ (fun j hj => ce_ne rfl rfl rfl rfl (fun j2 => ?_)) (fun j hj => ?_) hd (fun H1 locs1 hR1 => k9.2 H1 locs1 ls hR1 hl)
  · rw [hf, if_pos rfl]
    show rf9 ad (fu pp o (fu (pp o) f v) o f) = _
    rw [fu_s, fu_s]
    unfold rf9
    rw [if_neg (Nat.ne_of_gt hv.1)]
  · show rf9 ad (fu pp o (fu (pp o) f v) j j2) = rf9 ad (pp j j2)
    rw [fu_n hj]
  · have e5 : pP (wD (csX Tb k (pw pp o f v)) d) o j = pP (wD (csX Tb k pp) d) o j := by
      show fu pp o (fu (pp o) f v) o j = pp o j
      rw [fu_s, fu_n hj]
    rw [e5]
    rfl
abbrev CCK (Tb Tb' : TT) (B : BT) (y : MethodName) (cy : ByteArray) (n fr lo k : Nat) (ad : Nat → Nat) (pp : Nat → Nat → Nat) (d : DA) (av : List Value) (k' : Nat) (pp' : Nat → Nat → Nat) (d' : DA) (mc ms : Nat) : Prop := CCt Tb Tb' B.1 B.2.1 y cy n fr lo k ad pp d av k' pp' d' mc ms
theorem bd_le {ad1 : Nat → Nat} {σ σ1 : HS} (h : Bd (KE B ad1 σ1 c' s')) (h1 : c9 ≤ c') (h2 : s9 ≤ s') : Bd (KE B ad σ c9 s9) := ⟨⟨Nat.le_trans h1 h.1.1, Nat.le_trans h2 h.1.2⟩, Nat.le_trans h1 h.2.1, Nat.le_trans h2 h.2.2⟩
theorem n_C (hB : OkE B cc own nL ret fr lo) (hae : Ae k0 ad0 ad) {idx : Nat} {yy : MethodName} {n' n fr' lo' o mc ms : Nat} {cy : ByteArray} {av : List Value} {pp1 : Nat → Nat → Nat} {d1 : DA} {st0 : List Value} (hM : CCK Tb Tb' B yy cy n' fr' lo' k ad pp d (.ref (ad o) :: av) k' pp1 d1 mc ms) (hL : CL own idx yy n) (hcw : Cond.code yy cy n' none ∈ allw) (hin : Cond.instanceMethod yy ∈ allw) (hnm : yy.name = "<init>") (hfr : fr' + 1 ≤ fr) (hlo : 8 + (n' + 11) + lo' ≤ lo) (hn : av.length = n) (hst : st0 = av.reverse ++ .ref (ad o) :: st) (hW : (st.map fun v => v.category).sum ≤ 8)
    (e2 : c9 + mc = c') (e3 : s9 + ms = s') (e4 : k0 ≤ k) (hd : Dc cc pc (.invokespecial idx) 3 pc1) (kk : ∀ a' : Nat → Nat, Ae k0 ad0 (fz k ad a') → J (KE B (fz k ad a') (csX Tb' k' pp1) c' s') nL d1 lv pc1 st) : J (KE B ad (csX Tb k pp) c9 s9) nL d lv pc st0 := by
  subst e2; subst e3
  have hb9 := (kk (fun _ => 0) (hae.upZ e4)).1
  have hK : Ok9 (KE B ad (csX Tb k pp) c9 s9) cc own nL ret fr lo := okE hB
  refine ⟨bd_le hb9 (Nat.le_add_right _ _) (Nat.le_add_right _ _), fun H locs ls hR hl => ?_⟩
  obtain ⟨hd, rfl⟩ := hd
  refine c_back hR (va_runI (As := av) (rest := st) (b := ad o) ⟨hK.1.1, hK.1.2.1, hK.1.2.2.1, hK.1.2.2.2.1, fun w hw => hK.1.2.2.2.2.1 w hw _⟩ hM ⟨cl_Bx hK.1 hL hcw (Nat.le_trans hfr hK.2.1) (Nat.le_trans hlo hK.2.2.1), hnm, hK.1.2.2.2.2.1 _ hin _⟩ ⟨pc_blind, fun U hU hW => pc_pre hK.1 hR U hU hW⟩ rfl hn hl.1 hst (lv_room hW) hd hb9.1) (fun a' H1 locs1 hR1 => (kk a' (hae.upZ e4)).2 H1 locs1 ls hR1 hl)
theorem n_CN (hB : OkE B cc own nL ret fr lo) (hae : Ae k0 ad0 ad) {idx : Nat} {yy : MethodName} {n' n fr' lo' o mc ms : Nat} {cy : ByteArray} {av : List Value} {pp1 : Nat → Nat → Nat} {d1 : DA} {st0 : List Value} (hM : CCK Tb Tb' B yy cy n' fr' lo' k ad pp d (.ref (ad o) :: av) k' pp1 d1 mc ms) (hL : CNl own idx yy n) (hcw : Cond.code yy cy n' none ∈ allw) (hin : Cond.instanceMethod yy ∈ allw) (hnm : yy.name = "<init>") (hfr : fr' + 1 ≤ fr) (hlo : 8 + (n' + 11) + lo' ≤ lo) (hn : av.length = n) (hst : st0 = av.reverse ++ .ref (ad o) :: st) (hW : (st.map fun v => v.category).sum ≤ 8)
    (e2 : c9 + mc = c') (e3 : s9 + ms = s') (e4 : k0 ≤ k) (hd : Dc cc pc (.invokespecial idx) 3 pc1) (kk : ∀ a' : Nat → Nat, Ae k0 ad0 (fz k ad a') → J (KE B (fz k ad a') (csX Tb' k' pp1) c' s') nL d1 lv pc1 st) : J (KE B ad (csX Tb k pp) c9 s9) nL d lv pc st0 := by
  subst e2; subst e3
  have hb9 := (kk (fun _ => 0) (hae.upZ e4)).1
  have hK : Ok9 (KE B ad (csX Tb k pp) c9 s9) cc own nL ret fr lo := okE hB
  refine ⟨bd_le hb9 (Nat.le_add_right _ _) (Nat.le_add_right _ _), fun H locs ls hR hl => ?_⟩
  obtain ⟨hd, rfl⟩ := hd
  refine c_back hR (va_runIN (As := av) (rest := st) (b := ad o) ⟨hK.1.1, hK.1.2.1, hK.1.2.2.1, hK.1.2.2.2.1, fun w hw => hK.1.2.2.2.2.1 w hw _⟩ hM ⟨cn_Bx hK.1 hL hcw (Nat.le_trans hfr hK.2.1) (Nat.le_trans hlo hK.2.2.1), hnm, hK.1.2.2.2.2.1 _ hin _⟩ ⟨pc_blind, fun U hU hW => pc_pre hK.1 hR U hU hW⟩ rfl hn hl.1 hst (lv_room hW) hd hb9.1) (fun a' H1 locs1 hR1 => (kk a' (hae.upZ e4)).2 H1 locs1 ls hR1 hl)
end CC
/-! ===== constructors: the cells renumbered (a Trees stands before its Table as made, behind it as numbered) ===== -/
def ta9 (b i : Nat) : Nat := if i < b then i else if i < b + 6 then i + 1 else if i = b + 6 then b else i
def si9 (b q : Nat) : Nat := if q < b then q else if q = b then b + 6 else if q ≤ b + 6 then q - 1 else q
def dr9 (b : Nat) (d : DA) : DA := (fun i => d.1 (ta9 b i), fun i => d.2 (ta9 b i))
def pr9 (b : Nat) (pp : Nat → Nat → Nat) : Nat → Nat → Nat := fun i j => si9 b (pp (ta9 b i) j)
theorem ta_si {b q : Nat} : ta9 b (si9 b q) = q := by
  unfold si9
  by_cases h1 : q < b
  · rw [if_pos h1]; unfold ta9; rw [if_pos h1]
  · rw [if_neg h1]
    by_cases h2 : q = b
    · rw [if_pos h2]; unfold ta9; rw [if_neg (by omega), if_neg (by omega), if_pos rfl, h2]
    · rw [if_neg h2]
      by_cases h3 : q ≤ b + 6
      · rw [if_pos h3]; unfold ta9; rw [if_neg (by omega), if_pos (by omega)]; omega
      · rw [if_neg h3]; unfold ta9; rw [if_neg (by omega), if_neg (by omega), if_neg (by omega)]
theorem ta_inj {b i j : Nat} (h : ta9 b i = ta9 b j) : i = j := by
  have e : ∀ a, si9 b (ta9 b a) = a := fun a => by
    unfold ta9
    by_cases h1 : a < b
    · rw [if_pos h1]; unfold si9; rw [if_pos h1]
    · rw [if_neg h1]
      by_cases h2 : a < b + 6
      · rw [if_pos h2]; unfold si9; rw [if_neg (by omega), if_neg (by omega), if_pos (by omega)]; omega
      · rw [if_neg h2]
        by_cases h3 : a = b + 6
        · rw [if_pos h3]; unfold si9; rw [if_neg (by omega), if_pos rfl, h3]
        · rw [if_neg h3]; unfold si9; rw [if_neg (by omega), if_neg (by omega), if_neg (by omega)]
  rw [← e i, h, e j]
theorem ta_lt {b i : Nat} (h : i < b) : ta9 b i = i := if_pos h
theorem ta_in {b k i : Nat} (hb : 1 ≤ b) (hk : b + 6 ≤ k) (h : 1 ≤ i ∧ i ≤ k) : 1 ≤ ta9 b i ∧ ta9 b i ≤ k := by
  obtain ⟨h0, h9⟩ := h
  unfold ta9
  by_cases h1 : i < b
  · rw [if_pos h1]; omega
  · rw [if_neg h1]
    by_cases h2 : i < b + 6
    · rw [if_pos h2]; omega
    · rw [if_neg h2]
      by_cases h3 : i = b + 6
      · rw [if_pos h3]; omega
      · rw [if_neg h3]; omega
theorem si_le {b k q : Nat} (hk : b + 6 ≤ k) (h : q ≤ k) : si9 b q ≤ k := by
  unfold si9
  by_cases h1 : q < b
  · rw [if_pos h1]; exact h
  · rw [if_neg h1]
    by_cases h2 : q = b
    · rw [if_pos h2]; exact hk
    · rw [if_neg h2]
      by_cases h3 : q ≤ b + 6
      · rw [if_pos h3]; omega
      · rw [if_neg h3]; exact h
theorem Cl.rn {k b : Nat} {pp : Nat → Nat → Nat} (hk : b + 6 ≤ k) (h : Cl k pp) : Cl k (pr9 b pp) := fun i j => si_le hk (h (ta9 b i) j)
theorem Ae.rn {k b : Nat} {ad ad1 : Nat → Nat} (h : Ae k ad ad1) (hk : k < b) : Ae k ad (fun i => ad1 (ta9 b i)) := fun i hi => by
  show ad1 (ta9 b i) = ad i
  rw [ta_lt (by omega)]; exact h i hi
/-- the tables of kinds and sizes, once renumbered -/
def TR (b k : Nat) (T T' : TT) : Prop := ∀ i, i < k + 1 → T'.1.getD i 0 = T.1.getD (ta9 b i) 0 ∧ T'.2.getD i 0 = T.2.getD (ta9 b i) 0
theorem ce_rn {G : GT} {ad : Nat → Nat} {T T' : TT} {b k i : Nat} {pp : Nat → Nat → Nat} {d : DA} (hb : 1 ≤ b) (hT : TR b k T T') (hi : i ≤ k) : ce9 G (fun a => ad (ta9 b a)) (wD (csX T' k (pr9 b pp)) (dr9 b d)) i = ce9 G ad (wD (csX T k pp) d) (ta9 b i) := by
  obtain ⟨t1, t2⟩ := hT i (by omega)
  have k1 : kK (wD (csX T' k (pr9 b pp)) (dr9 b d)) i = kK (wD (csX T k pp) d) (ta9 b i) := t1
  have z1 : zZ (wD (csX T' k (pr9 b pp)) (dr9 b d)) i = zZ (wD (csX T k pp) d) (ta9 b i) := t2
  have i1 : iI (wD (csX T' k (pr9 b pp)) (dr9 b d)) i = iI (wD (csX T k pp) d) (ta9 b i) := rfl
  have l1 : lL (wD (csX T' k (pr9 b pp)) (dr9 b d)) i = lL (wD (csX T k pp) d) (ta9 b i) := rfl
  have p1 : ∀ j, rf9 (fun a => ad (ta9 b a)) (pP (wD (csX T' k (pr9 b pp)) (dr9 b d)) i j) = rf9 ad (pP (wD (csX T k pp) d) (ta9 b i) j) := fun j => by
    show rf9 (fun a => ad (ta9 b a)) (si9 b (pp (ta9 b i) j)) = rf9 ad (pp (ta9 b i) j)
    generalize pp (ta9 b i) j = q
    unfold rf9
    by_cases c : q = 0
    · have e : si9 b q = 0 := by rw [c]; exact if_pos hb
      rw [if_pos e, if_pos c]
    · have e : si9 b q ≠ 0 := fun h => c (by
        have h9 := ta_si (b := b) (q := q)
        rw [h, ta_lt hb] at h9
        exact h9.symm)
      rw [if_neg e, if_neg c]
      show Value.ref (ad (ta9 b (si9 b q))) = Value.ref (ad q)
      rw [ta_si]
  unfold ce9
  rw [k1, z1, i1, l1]
  simp only [p1]
theorem rp_rn {G : GT} {ad : Nat → Nat} {T T' : TT} {b k : Nat} {pp : Nat → Nat → Nat} {d : DA} {H : Heap} (hb : 1 ≤ b) (hk : b + 6 ≤ k) (hT : TR b k T T') (h : Rp G ad (wD (csX T k pp) d) H) : Rp G (fun i => ad (ta9 b i)) (wD (csX T' k (pr9 b pp)) (dr9 b d)) H := by
  have hl : ∀ (n : Nat) (q : Nat × va_E), (wl G (fun i => ad (ta9 b i)) (wD (csX T' k (pr9 b pp)) (dr9 b d)))[n]? = some q → n < k ∧ (wl G ad (wD (csX T k pp) d))[ta9 b (n + 1) - 1]? = some q := by
    intro n q hq
    have hn : n < k := by
      obtain ⟨h3, -⟩ := List.getElem?_eq_some_iff.mp hq
      have h4 : n < nN (wD (csX T' k (pr9 b pp)) (dr9 b d)) := by simpa [wl] using h3
      exact h4
    refine ⟨hn, ?_⟩
    have c1 : isC (wD (csX T' k (pr9 b pp)) (dr9 b d)) (n + 1) := ⟨Nat.succ_le_succ (Nat.zero_le _), hn⟩
    have c2 : isC (wD (csX T k pp) d) (ta9 b (n + 1)) := ta_in hb hk ⟨Nat.succ_le_succ (Nat.zero_le _), hn⟩
    have e1 := wl_at (G := G) (ad := fun i => ad (ta9 b i)) c1
    rw [Nat.add_sub_cancel, hq] at e1
    rw [wl_at c2, e1, ce_rn hb hT hn]
  refine ⟨fun n q hq => h.1 _ q (hl n q hq).2, fun n m p q hp hq e => ?_, fun n q hq => h.2.2 _ q (hl n q hq).2⟩
  obtain ⟨n1, n2⟩ := hl n p hp
  obtain ⟨m1, m2⟩ := hl m q hq
  have e1 := h.2.1 _ _ p q n2 m2 e
  have a1 := (ta_in hb hk (i := n + 1) ⟨Nat.succ_le_succ (Nat.zero_le _), n1⟩).1
  have a2 := (ta_in hb hk (i := m + 1) ⟨Nat.succ_le_succ (Nat.zero_le _), m1⟩).1
  have e2 : ta9 b (n + 1) = ta9 b (m + 1) := by omega
  have e3 := ta_inj e2
  omega
theorem j_rn {T T' : TT} {B : BT} {ad ad0 : Nat → Nat} {nL pc c9 s9 k k0 : Nat} {pp : Nat → Nat → Nat} {d : DA} {lv : List (Nat × Value)} {st : List Value} {Y : Type} {y : Y} {q : DA → Option Y} (b : Nat) (hb : 1 ≤ b) (hk : b + 6 ≤ k) (hT : TR b k T T') (lvF : (Nat → Nat) → List (Nat × Value)) (stF : (Nat → Nat) → List Value) (e1 : lv = lvF (fun i => ad (ta9 b i))) (e2 : st = stF (fun i => ad (ta9 b i))) (hae : Ae k0 ad0 ad) (h0 : k0 < b) (hcl : Cl k pp) (h : lt9 (dr9 b d) q = some y)
    (kk : ∀ (a : Nat → Nat) (d1 : DA), Cl k (pr9 b pp) → Ae k0 ad0 a → q d1 = some y → J (KE B a (csX T' k (pr9 b pp)) c9 s9) nL d1 (lvF a) pc (stF a)) : J (KE B ad (csX T k pp) c9 s9) nL d lv pc st := by
  subst e1; subst e2
  have k9 := kk (fun i => ad (ta9 b i)) (dr9 b d) (hcl.rn hk) (hae.rn h0) h
  exact ⟨k9.1, fun H locs ls hR hl => k9.2 H locs ls ⟨rp_rn hb hk hT hR.1, hR.2⟩ hl⟩
abbrev T9_3 : TT := (kTl, zTl)
abbrev T9_2 : TT := ([0, 11, 6, 13, 13, 8, 13, 13, 14, 14, 13, 9, 13, 13, 13, 13, 13, 6, 13, 13, 8, 13, 13, 14, 14, 13, 9, 13, 13, 13, 13, 13, 8, 13, 13, 14, 14, 13, 8, 13, 13, 14, 14, 13, 13, 4, 2, 13, 13, 13, 13, 13, 13, 13, 7, 13, 13, 13, 3, 13, 13, 1, 13, 13, 13, 13, 13, 13, 10, 13, 13, 13, 13, 13, 13, 13, 13, 13, 13, 13, 13, 5, 13, 13, 13, 9, 8, 13, 13, 14, 14, 13, 13, 13, 13, 13, 13, 13, 13, 13, 13, 0, 13, 13, 13, 13, 13, 13, 13, 13, 13, 13, 13, 12, 13, 13, 13, 13, 13, 13, 13, 13, 13, 13, 13, 13, 13, 14, 14, 13, 13, 13, 13, 13, 13, 13, 13, 13, 13, 13, 13, 13, 13, 13, 13, 13, 13, 13, 13, 13, 13, 13, 13, 13, 13, 13, 13, 13, 13, 13, 13, 14, 13], [0, 0, 0, 5, 12, 0, 125, 5, 5, 5, 25, 0, 729, 27, 9, 5, 9, 0, 5, 12, 0, 125, 5, 5, 5, 25, 0, 729, 27, 9, 5, 9, 0, 125, 5, 5, 5, 25, 0, 125, 5, 5, 5, 25, 400, 0, 0, 64, 4, 64, 10, 10, 27, 11, 0, 100, 100, 100, 0, 32, 25, 0, 25, 25, 5, 5, 25, 25, 0, 5, 5, 64, 5, 5, 5, 5, 25, 25, 25, 25, 25, 0, 5, 5, 5, 0, 0, 125, 5, 5, 5, 25, 729, 27, 9, 5, 9, 160, 32, 25, 25, 0, 3, 3, 3, 25, 25, 25, 25, 25, 25, 25, 25, 0, 125, 125, 125, 729, 27, 5, 12, 2, 100, 100, 100, 100, 400, 5, 5, 4000, 4000, 125, 10, 10, 5, 5, 9, 9, 25, 25, 729, 729, 729, 25, 25, 25, 5, 5, 5, 25, 25, 25, 25, 25, 5, 125, 729, 27, 5, 12, 2, 1, 25])
abbrev T9_1 : TT := ([0, 11, 6, 13, 13, 8, 13, 13, 14, 14, 13, 9, 13, 13, 13, 13, 13, 6, 13, 13, 9, 8, 13, 13, 14, 14, 13, 13, 13, 13, 13, 13, 8, 13, 13, 14, 14, 13, 8, 13, 13, 14, 14, 13, 13, 4, 2, 13, 13, 13, 13, 13, 13, 13, 7, 13, 13, 13, 3, 13, 13, 1, 13, 13, 13, 13, 13, 13, 10, 13, 13, 13, 13, 13, 13, 13, 13, 13, 13, 13, 13, 5, 13, 13, 13, 9, 8, 13, 13, 14, 14, 13, 13, 13, 13, 13, 13, 13, 13, 13, 13, 0, 13, 13, 13, 13, 13, 13, 13, 13, 13, 13, 13, 12, 13, 13, 13, 13, 13, 13, 13, 13, 13, 13, 13, 13, 13, 14, 14, 13, 13, 13, 13, 13, 13, 13, 13, 13, 13, 13, 13, 13, 13, 13, 13, 13, 13, 13, 13, 13, 13, 13, 13, 13, 13, 13, 13, 13, 13, 13, 13, 14, 13], [0, 0, 0, 5, 12, 0, 125, 5, 5, 5, 25, 0, 729, 27, 9, 5, 9, 0, 5, 12, 0, 0, 125, 5, 5, 5, 25, 729, 27, 9, 5, 9, 0, 125, 5, 5, 5, 25, 0, 125, 5, 5, 5, 25, 400, 0, 0, 64, 4, 64, 10, 10, 27, 11, 0, 100, 100, 100, 0, 32, 25, 0, 25, 25, 5, 5, 25, 25, 0, 5, 5, 64, 5, 5, 5, 5, 25, 25, 25, 25, 25, 0, 5, 5, 5, 0, 0, 125, 5, 5, 5, 25, 729, 27, 9, 5, 9, 160, 32, 25, 25, 0, 3, 3, 3, 25, 25, 25, 25, 25, 25, 25, 25, 0, 125, 125, 125, 729, 27, 5, 12, 2, 100, 100, 100, 100, 400, 5, 5, 4000, 4000, 125, 10, 10, 5, 5, 9, 9, 25, 25, 729, 729, 729, 25, 25, 25, 5, 5, 5, 25, 25, 25, 25, 25, 5, 125, 729, 27, 5, 12, 2, 1, 25])
abbrev T9_0 : TT := ([0, 11, 6, 13, 13, 9, 8, 13, 13, 14, 14, 13, 13, 13, 13, 13, 13, 6, 13, 13, 9, 8, 13, 13, 14, 14, 13, 13, 13, 13, 13, 13, 8, 13, 13, 14, 14, 13, 8, 13, 13, 14, 14, 13, 13, 4, 2, 13, 13, 13, 13, 13, 13, 13, 7, 13, 13, 13, 3, 13, 13, 1, 13, 13, 13, 13, 13, 13, 10, 13, 13, 13, 13, 13, 13, 13, 13, 13, 13, 13, 13, 5, 13, 13, 13, 9, 8, 13, 13, 14, 14, 13, 13, 13, 13, 13, 13, 13, 13, 13, 13, 0, 13, 13, 13, 13, 13, 13, 13, 13, 13, 13, 13, 12, 13, 13, 13, 13, 13, 13, 13, 13, 13, 13, 13, 13, 13, 14, 14, 13, 13, 13, 13, 13, 13, 13, 13, 13, 13, 13, 13, 13, 13, 13, 13, 13, 13, 13, 13, 13, 13, 13, 13, 13, 13, 13, 13, 13, 13, 13, 13, 14, 13], [0, 0, 0, 5, 12, 0, 0, 125, 5, 5, 5, 25, 729, 27, 9, 5, 9, 0, 5, 12, 0, 0, 125, 5, 5, 5, 25, 729, 27, 9, 5, 9, 0, 125, 5, 5, 5, 25, 0, 125, 5, 5, 5, 25, 400, 0, 0, 64, 4, 64, 10, 10, 27, 11, 0, 100, 100, 100, 0, 32, 25, 0, 25, 25, 5, 5, 25, 25, 0, 5, 5, 64, 5, 5, 5, 5, 25, 25, 25, 25, 25, 0, 5, 5, 5, 0, 0, 125, 5, 5, 5, 25, 729, 27, 9, 5, 9, 160, 32, 25, 25, 0, 3, 3, 3, 25, 25, 25, 25, 25, 25, 25, 25, 0, 125, 125, 125, 729, 27, 5, 12, 2, 100, 100, 100, 100, 400, 5, 5, 4000, 4000, 125, 10, 10, 5, 5, 9, 9, 25, 25, 729, 729, 729, 25, 25, 25, 5, 5, 5, 25, 25, 25, 25, 25, 5, 125, 729, 27, 5, 12, 2, 1, 25])
theorem tr9_0 : TR 5 16 T9_0 T9_1 := by unfold TR; decide +kernel
theorem tr9_1 : TR 20 31 T9_1 T9_2 := by unfold TR; decide +kernel
theorem tr9_2 : TR 85 96 T9_2 T9_3 := by unfold TR; decide +kernel
theorem nw11_7 : NwO RX11 7 6 8 := ⟨by decide, RX6, TX6, tyX6, rfl, inx6, tyX6_ok, am1 34 (by decide +kernel) rfl, am1 35 (by decide +kernel) rfl, am1 2 (by decide +kernel) rfl, rfl⟩
theorem nw6_18 : NwO RX6 18 9 8 := ⟨by decide, RX9, TX9, tyX9, rfl, inx9, tyX9_ok, am1 40 (by decide +kernel) rfl, am1 41 (by decide +kernel) rfl, am1 3 (by decide +kernel) rfl, rfl⟩
theorem nw9_9 : NwO RX9 9 8 6 := ⟨by decide, RX8, TX8, tyX8, rfl, inx8, tyX8_ok, am1 46 (by decide +kernel) rfl, am1 47 (by decide +kernel) rfl, am1 4 (by decide +kernel) rfl, rfl⟩
theorem nw11_19 : NwO RX11 19 8 6 := ⟨by decide, RX8, TX8, tyX8, rfl, inx8, tyX8_ok, am1 186 (by decide +kernel) rfl, am1 47 (by decide +kernel) rfl, am1 4 (by decide +kernel) rfl, rfl⟩
theorem nw11_37 : NwO RX11 37 4 14 := ⟨by decide, RX4, TX4, tyX4, rfl, inx4, tyX4_ok, am1 188 (by decide +kernel) rfl, am1 189 (by decide +kernel) rfl, am1 6 (by decide +kernel) rfl, rfl⟩
theorem nw11_44 : NwO RX11 44 2 12 := ⟨by decide, RX2, TX2, tyX2, rfl, inx2, tyX2_ok, am1 238 (by decide +kernel) rfl, am1 239 (by decide +kernel) rfl, am1 7 (by decide +kernel) rfl, rfl⟩
theorem nw11_51 : NwO RX11 51 7 5 := ⟨by decide, RX7, TX7, tyX7, rfl, inx7, tyX7_ok, am2 42 (by decide +kernel) rfl, am2 43 (by decide +kernel) rfl, am1 8 (by decide +kernel) rfl, rfl⟩
theorem nw11_58 : NwO RX11 58 3 3 := ⟨by decide, RX3, TX3, tyX3, rfl, inx3, tyX3_ok, am2 69 (by decide +kernel) rfl, am2 70 (by decide +kernel) rfl, am1 9 (by decide +kernel) rfl, rfl⟩
theorem nw11_65 : NwO RX11 65 1 8 := ⟨by decide, RX1, TX1, tyX1, rfl, inx1, tyX1_ok, am2 99 (by decide +kernel) rfl, am2 100 (by decide +kernel) rfl, am1 10 (by decide +kernel) rfl, rfl⟩
theorem nw11_72 : NwO RX11 72 10 18 := ⟨by decide, RX10, TX10, tyX10, rfl, inx10, tyX10_ok, am2 132 (by decide +kernel) rfl, am2 133 (by decide +kernel) rfl, am1 11 (by decide +kernel) rfl, rfl⟩
theorem nw11_79 : NwO RX11 79 5 13 := ⟨by decide, RX5, TX5, tyX5, rfl, inx5, tyX5_ok, am2 200 (by decide +kernel) rfl, am2 201 (by decide +kernel) rfl, am1 12 (by decide +kernel) rfl, rfl⟩
theorem nw5_21 : NwO RX5 21 9 8 := ⟨by decide, RX9, TX9, tyX9, rfl, inx9, tyX9_ok, am2 206 (by decide +kernel) rfl, am1 41 (by decide +kernel) rfl, am1 3 (by decide +kernel) rfl, rfl⟩
theorem nw11_86 : NwO RX11 86 0 13 := ⟨by decide, RX0, TX0, tyX0, rfl, inx0, tyX0_ok, am3 12 (by decide +kernel) rfl, am3 13 (by decide +kernel) rfl, am1 13 (by decide +kernel) rfl, rfl⟩

/-! ===== contracts over the pure state ===== -/
def PC (G : GT) (ad : Nat → Nat) (σ : HS) (av : List Value) : Array Value → State → Prop := fun v U => v = av.toArray ∧ Wd U ∧ Kx G U ∧ Sf G U ∧ Rp G ad σ U.heap ∧ (∀ q, U.heap.size ≤ q → gA G q)
def QC (G : GT) (ad : Nat → Nat) (rv : Option Value) (σ' : HS) : Array Value → State → Outcome → State → Prop := fun _ st o t => o = .returned rv ∧ Rp G ad σ' t.heap ∧ va_F (gA G) st t
abbrev rm9 (fr lo : Nat) : Room := { frames := fr, cells := 0, slots := 0, locals := lo }
/-- y, from σ with av: it returns rv and leaves σ' -/
def Ct (G : GT) (l : Launch) (y : MethodName) (cc : ByteArray) (n : Nat) (ret : Option FieldType) (fr lo : Nat) (ad : Nat → Nat) (σ : HS) (av : List Value) (rv : Option Value) (σ' : HS) : Prop :=
  Met l y [.code y cc n ret] (rm9 fr lo) (PC G ad σ av) (QC G ad rv σ') 0 0 (gA G)
theorem Ct.ofW {G : GT} {l : Launch} {y : MethodName} {cc : ByteArray} {n : Nat} {ret : Option FieldType} {fr lo : Nat} {ad : Nat → Nat} {σ : HS} {av : List Value} {rv : Option Value} {σ' : HS} (hst : l.stackTraces = false) (hpl : plainName y.cls = true) (hn : (lg_sl av).length ≤ n)
    (body : ∀ (p : Program) (e : Env) (s : State) (m : MethodId) (below : List Frame) (meth : Method) (c : Code) (ls : Array Slot), Cx G l p s m meth c cc y.cls n ret → Rh G s ad σ s.heap [] → lv_has ls n (lv_args 0 av) →
      W p l e (rm9 fr lo) s m av.toArray below meth c s.heap [] 0 0 (MQ below (QC G ad rv σ') av.toArray s 0 0 (gA G)) (F0 m 0 ls [])) : Ct G l y cc n ret fr lo ad σ av rv σ' := by
  refine Met.ofW (cc := cc) (maxL := n) (ret := ret) hpl rfl ?_
  intro p e s m args below meth c s₁ B hml hv
  obtain ⟨rfl, hW, hK, hSf, hR, hA⟩ := hv
  rw [lg_entry_eq]
  exact body p e s m below meth c _ ⟨B.exec, B.bytes, hml, findClass_of_methodNamed B.named, hW, hK, hSf, B.notSynchronized, B.returns, hA, hst⟩ ⟨hR, va_S.rf⟩ (lv_entry av hn)
section CR
variable {G : GT} {p : Program} {l : Launch} {e : Env} {R : Room} {s : State} {m : MethodId} {args : Array Value} {below : List Frame} {meth : Method} {c : Code} {H : Heap} {locs : List Loc} {cells slots : Nat} {Q : State → Prop} {cc : ByteArray} {own : String} {nL pc pc1 tgt : Nat} {ret : Option FieldType} {ls : Array Slot} {rest : List Value} {ad : Nat → Nat} {σ : HS}
theorem Rh.end {σ' : HS} (hR : Rh G s ad σ' H locs) {t : State} (ht : t.heap = H) {rv : Option Value} : QC G ad rv σ' args s (.returned rv) t := ⟨rfl, by rw [ht]; exact hR.1, hR.2.F ht⟩
theorem r_iret {a : Int} {rv : Option Value} {σ' : HS} (hC : Cx G l p s m meth c cc own nL (some .int)) (hR : Rh G s ad σ H locs) (hd : Dc cc pc .ireturn 1 pc1) (e1 : some (vi a) = rv) (e2 : σ = σ') : W p l e R s m args below meth c H locs cells slots (MQ below (QC G ad rv σ') args s cells slots (gA G)) (F0 m pc ls [vi a]) := by
  subst e1; subst e2
  exact W.iret hC.1 hC.2.1 hC.2.2.2.2.2.2.2.2.1 (fun t ht _ => hR.end ht) hR.2.2.2 hd.1 hC.2.2.2.2.2.2.2.1
theorem r_zret {a : Int} {rv : Option Value} {σ' : HS} (hC : Cx G l p s m meth c cc own nL (some .boolean)) (hR : Rh G s ad σ H locs) (ha : a = 0 ∨ a = 1) (hd : Dc cc pc .ireturn 1 pc1) (e1 : some (vi a) = rv) (e2 : σ = σ') : W p l e R s m args below meth c H locs cells slots (MQ below (QC G ad rv σ') args s cells slots (gA G)) (F0 m pc ls [vi a]) := by
  subst e1; subst e2
  exact W.zret hC.1 hC.2.1 hC.2.2.2.2.2.2.2.2.1 (nar_bool ha).1 (fun t ht _ => hR.end ht) hR.2.2.2 hd.1 hC.2.2.2.2.2.2.2.1
theorem r_vret {rv : Option Value} {σ' : HS} (hC : Cx G l p s m meth c cc own nL none) (hR : Rh G s ad σ H locs) (hd : Dc cc pc .return_ 1 pc1) (e1 : none = rv) (e2 : σ = σ') : W p l e R s m args below meth c H locs cells slots (MQ below (QC G ad rv σ') args s cells slots (gA G)) (F0 m pc ls []) := by
  subst e1; subst e2
  exact W.vret hC.1 hC.2.1 hC.2.2.2.2.2.2.2.2.1 (fun t ht _ => hR.end ht) hR.2.2.2 hd.1 hC.2.2.2.2.2.2.2.1
theorem r_aret {i : Nat} {rv : Option Value} {σ' : HS} (hC : Cx G l p s m meth c cc own nL (some (.array .int))) (hR : Rh G s ad σ H locs) (hd : Dc cc pc .areturn 1 pc1) (e1 : some (.ref (ad i)) = rv) (e2 : σ = σ') : W p l e R s m args below meth c H locs cells slots (MQ below (QC G ad rv σ') args s cells slots (gA G)) (F0 m pc ls [.ref (ad i)]) := by
  subst e1; subst e2
  exact W.aret hC.1 hC.2.1 hC.2.2.2.2.2.2.2.2.1 (Or.inr ⟨_, rfl⟩) (Or.inr ⟨_, rfl⟩) (fun t ht _ => hR.end ht) hR.2.2.2 hd.1 hC.2.2.2.2.2.2.2.1
/-- the words of a call -/
def CL (own : String) (idx : Nat) (y : MethodName) (n : Nat) : Prop := (Cond.methodLink own idx y ∈ allw) ∧ (Cond.initialized y.cls ∈ allw) ∧ (y.cls ≠ "java/lang/invoke/MethodHandle" ∧ y.cls ≠ "java/lang/invoke/VarHandle" ∧ (parseMethodDescriptor y.desc).map (fun d => d.parameters.length) = some n)
theorem pc_blind {av : List Value} : FrameBlind (PC G ad σ av) := by
  intro a U g mk h
  obtain ⟨h1, h2, h3, h4, h5, h6⟩ := h
  exact ⟨h1, h2.moved (State.WarmedH.refl U), va_K.moved (Vm.Alike.refl U.vm) h3, h4.moved (State.WarmedH.refl U) va_S.rf, h5, h6⟩
theorem pc_pre (hC : Cx G l p s m meth c cc own nL ret) (hR : Rh G s ad σ H locs) {av : List Value} (U : State) (hU : U.heap = H) (hW : s.WarmedH U.vm) : PC G ad σ av av.toArray U := by
  obtain ⟨-, -, -, -, hwd, hK, hSf, -, -, hA, -⟩ := hC
  exact ⟨rfl, hwd.moved hW, va_K.moved hW.alike hK, hSf.moved hW (by rw [hU]; exact hR.2), by rw [hU]; exact hR.1, fun q hq => hA q (Nat.le_trans hR.2.1 (by rw [hU] at hq; exact hq))⟩
theorem cl_B (hC : Cx G l p s m meth c cc own nL ret) {idx : Nat} {y : MethodName} {n' n fr lo : Nat} {cy : ByteArray} {rt : Option FieldType} (hL : CL own idx y n) (hcw : Cond.code y cy n' rt ∈ allw) (hfr : fr + 1 ≤ R.frames) (hlo : 8 + (n' + 11) + lo ≤ R.locals) : CallB R s args own idx y cy n' rt [.code y cy n' rt] (rm9 fr lo) 0 0 n := by
  obtain ⟨h1, h2, h3⟩ := hL
  refine callB_of (Ts := allw) (ws' := []) n (fun w hw => hC.2.2.2.2.1 w hw args) (fun w hw => ?_) rfl rfl rfl (hC.2.2.2.2.1 _ h2 args) (hC.2.2.2.2.1 _ h1 args) h3 ⟨hfr, hlo⟩
  have e := List.mem_singleton.mp hw
  subst e
  have h9 := (List.mem_filter.mp hcw).2
  simp only [okW, Bool.or_eq_true] at h9
  rcases h9 with h9 | h9
  · exact ⟨hcw, good_of_word h9⟩
  · exact Bool.noConfusion h9
/-- what comes back -/
theorem r_back {Pc : Array Value → State → Prop} {av : List Value} {rv : Option Value} {σ' : HS} {st0 : List Value} (hR : Rh G s ad σ H locs) (hr : va_Run p l e R s m args below meth c H locs cells slots 0 0 (F0 m pc ls st0) rest (QC G ad rv σ' av.toArray) (gA G))
    (kk : ∀ (H1 : Heap) (locs1 : List Loc), Rh G s ad σ' H1 locs1 → W p l e R s m args below meth c H1 locs1 cells slots Q (F0 m (pc + 3) ls (rv.toList ++ rest))) : W p l e R s m args below meth c H locs cells slots Q (F0 m pc ls st0) := by
  intro T hT X
  obtain ⟨v, st₀, t, T', L, h0, X', hL, e1, e2, ⟨hv, hRp, hF⟩, st⟩ := hr T hT X
  cases hv
  obtain ⟨hz, hk⟩ := hF
  rw [h0] at hz hk
  have hS : va_S (gA G) s.heap T'.heap (locs ++ L) := ⟨Nat.le_trans hR.2.1 (by rw [e1]; exact hz), fun q h1 h2 => by rw [e1, hk q (Nat.lt_of_lt_of_le h1 hR.2.1) h2]; exact hR.2.2.1 q h1 h2, fun q hq => by
    rcases List.mem_append.mp hq with h | h
    · exact hR.2.2.2 q h
    · exact hL q h⟩
  obtain ⟨t2, a1, b1⟩ := kk T'.heap (locs ++ L) ⟨by rw [e1]; exact hRp, hS⟩ T' rfl X'
  exact ⟨t2, st t2 a1, b1⟩
theorem r_callV (hC : Cx G l p s m meth c cc own nL ret) (hR : Rh G s ad σ H locs) (hl : ls.size = nL) {idx : Nat} {y : MethodName} {C : String} {n' n fr lo i ci : Nat} {cy : ByteArray} {rt : Option FieldType} {av : List Value} {rv : Option Value} {σ' : HS} {st0 st1 : List Value} (hM : Ct G l y cy n' rt fr lo ad σ (.ref (ad i) :: av) rv σ')
    (hL : CL own idx y n) (hcw : Cond.code y cy n' rt ∈ allw) (hin : Cond.instanceMethod y ∈ allw) (hse : Cond.selects C y y ∈ allw) (hi : isC σ i) (hk : kK σ i = ci) (hci : ci < 13) (hcl : (vwCl[ci]?).map (fun q => q.1) = some C) (hfr : fr + 1 ≤ R.frames) (hlo : 8 + (n' + 11) + lo ≤ R.locals) (hn : av.length = n) (hst : st0 = av.reverse ++ .ref (ad i) :: rest) (hW : (rest.map fun v => v.category).sum ≤ 8)
    (hd : Dc cc pc (.invokevirtual idx) 3 pc1) (kk : ∀ (H1 : Heap) (locs1 : List Loc), Rh G s ad σ' H1 locs1 → W p l e R s m args below meth c H1 locs1 cells slots Q (F0 m pc1 ls st1)) (hst1 : rv.toList ++ rest = st1) (hcs : cells ≤ R.cells ∧ slots ≤ R.slots) : W p l e R s m args below meth c H locs cells slots Q (F0 m pc ls st0) := by
  obtain ⟨hd, rfl⟩ := hd
  subst hst1
  have hE := wl_at (G := G) (ad := ad) hi
  rw [ce_O hk hci] at hE
  obtain ⟨q, hq, hqC⟩ := Option.map_eq_some_iff.mp hcl
  refine r_back (Pc := PC G ad σ (.ref (ad i) :: av)) hR (va_runV (As := av) (rest := rest) ⟨hC.1, hC.2.1, hC.2.2.1, hC.2.2.2.1, fun w hw => hC.2.2.2.2.1 w hw args⟩ hM ⟨cl_B hC hL hcw hfr hlo, hC.2.2.2.2.1 _ hin args, hC.2.2.2.2.1 _ hse args⟩ ⟨pc_blind, ?_, fun U hU hW => pc_pre hC hR U hU hW⟩ rfl hn hl hst (lv_room hW) hd ⟨hcs.1, hcs.2⟩) kk
  have := va_recv (q := q) hC.2.2.2.2.2.1 hR.1.1 (ci := ci) (q0 := i - 1) hq hE
  rw [hqC] at this
  exact this
theorem r_callS (hC : Cx G l p s m meth c cc own nL ret) (hR : Rh G s ad σ H locs) (hl : ls.size = nL) {idx : Nat} {y : MethodName} {n' n fr lo : Nat} {cy : ByteArray} {rt : Option FieldType} {av : List Value} {rv : Option Value} {σ' : HS} {st0 st1 : List Value} (hM : Ct G l y cy n' rt fr lo ad σ av rv σ')
    (hL : CL own idx y n) (hcw : Cond.code y cy n' rt ∈ allw) (hin : Cond.static y ∈ allw) (hfr : fr + 1 ≤ R.frames) (hlo : 8 + (n' + 11) + lo ≤ R.locals) (hn : av.length = n) (hst : st0 = av.reverse ++ rest) (hW : (rest.map fun v => v.category).sum ≤ 8)
    (hd : Dc cc pc (.invokestatic idx) 3 pc1) (kk : ∀ (H1 : Heap) (locs1 : List Loc), Rh G s ad σ' H1 locs1 → W p l e R s m args below meth c H1 locs1 cells slots Q (F0 m pc1 ls st1)) (hst1 : rv.toList ++ rest = st1) (hcs : cells ≤ R.cells ∧ slots ≤ R.slots) : W p l e R s m args below meth c H locs cells slots Q (F0 m pc ls st0) := by
  obtain ⟨hd, rfl⟩ := hd
  subst hst1
  exact r_back (Pc := PC G ad σ av) hR (va_runS (As := av) (rest := rest) ⟨hC.1, hC.2.1, hC.2.2.1, hC.2.2.2.1, fun w hw => hC.2.2.2.2.1 w hw args⟩ hM ⟨cl_B hC hL hcw hfr hlo, hC.2.2.2.2.1 _ hin args⟩ ⟨pc_blind, fun U hU hW => pc_pre hC hR U hU hW⟩ rfl hn hl hst (lv_room hW) hd ⟨hcs.1, hcs.2⟩) kk
end CR
section BR
variable {p : Program} {l : Launch} {e : Env} {R : Room} {s : State} {m : MethodId} {args : Array Value} {below : List Frame} {meth : Method} {c : Code} {H : Heap} {locs : List Loc} {cells slots : Nat} {Q : State → Prop} {pc : Nat} {ls : Array Slot} {rest : List Value}
theorem r_bindI {β : Type} {a : Int} {k : Int → Option β} {out : β} (hM : lt9 a k = some out) (kk : ∀ x : Int, k x = some out → W p l e R s m args below meth c H locs cells slots Q (F0 m pc ls (vi x :: rest))) : W p l e R s m args below meth c H locs cells slots Q (F0 m pc ls (vi a :: rest)) := kk a hM
theorem r_bindL {β : Type} {a : Int} {k : Int → Option β} {out : β} (hM : lt9 a k = some out) (kk : ∀ x : Int, k x = some out → W p l e R s m args below meth c H locs cells slots Q (F0 m pc ls (vl x :: rest))) : W p l e R s m args below meth c H locs cells slots Q (F0 m pc ls (vl a :: rest)) := kk a hM
end BR
theorem el_some {α β γ : Type} {v : α ⊕ β} {f : α → Option γ} {g : β → Option γ} {x : γ} (h : el9 v f g = some x) : (∃ a, v = .inl a ∧ f a = some x) ∨ (∃ b, v = .inr b ∧ g b = some x) := by
  cases v with
  | inl a => exact Or.inl ⟨a, rfl, h⟩
  | inr b => exact Or.inr ⟨b, rfl, h⟩
theorem inx {C : String} {T : u_T} {N : Nat} (ix : List Nat) (h : ∀ k, k < N → tables_1[ix.getD k 0]? = some (u_lay C T k)) (hg : ∀ k, k < N → okW (u_lay C T k) = true) : ∀ w ∈ u_ws C T N, w ∈ allw := by
  intro w hw
  obtain ⟨k, hk, rfl⟩ := List.mem_map.mp hw
  have hk' : k < N := List.mem_range.mp hk
  exact am _ (h k hk') (hg k hk')

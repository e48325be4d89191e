/-! ===== the walk over the pure data ===== -/
def wI (d : DA) (c k : Nat) (v : Int) : DA := (fu d.1 c (fu (d.1 c) k v), d.2)
def wL (d : DA) (c k : Nat) (v : Int) : DA := (d.1, fu d.2 c (fu (d.2 c) k v))
def wA (d : DA) (c : Nat) (f : Nat → Int) : DA := (fu d.1 c f, d.2)
def wB (d : DA) (c : Nat) (f : Nat → Int) : DA := (d.1, fu d.2 c f)
abbrev BT : Type := GT × Launch × Program × Env × Room × State × MethodId × Array Value × List Frame × Method × Code × (Array Value → State → Outcome → State → Prop) × (State → Prop) × Nat × Nat
abbrev KT : Type := BT × (Nat → Nat) × HS × Nat × Nat
def kG (K : KT) : GT := K.1.1
def kl (K : KT) : Launch := K.1.2.1
def kp (K : KT) : Program := K.1.2.2.1
def ke (K : KT) : Env := K.1.2.2.2.1
def kR (K : KT) : Room := K.1.2.2.2.2.1
def ks (K : KT) : State := K.1.2.2.2.2.2.1
def km (K : KT) : MethodId := K.1.2.2.2.2.2.2.1
def kav (K : KT) : Array Value := K.1.2.2.2.2.2.2.2.1
def kb (K : KT) : List Frame := K.1.2.2.2.2.2.2.2.2.1
def kme (K : KT) : Method := K.1.2.2.2.2.2.2.2.2.2.1
def kc (K : KT) : Code := K.1.2.2.2.2.2.2.2.2.2.2.1
def kQc (K : KT) : Array Value → State → Outcome → State → Prop := K.1.2.2.2.2.2.2.2.2.2.2.2.1
def kQ (K : KT) : State → Prop := K.1.2.2.2.2.2.2.2.2.2.2.2.2.1
def kmc (K : KT) : Nat := K.1.2.2.2.2.2.2.2.2.2.2.2.2.2.1
def kms (K : KT) : Nat := K.1.2.2.2.2.2.2.2.2.2.2.2.2.2.2
def ka (K : KT) : Nat → Nat := K.2.1
def kσ (K : KT) : HS := K.2.2.1
def kcl (K : KT) : Nat := K.2.2.2.1
def ksl (K : KT) : Nat := K.2.2.2.2
abbrev rf (K : KT) (i : Nat) : Value := .ref (ka K i)
def Lift (K : KT) : Prop := ∀ (H : Heap) (locs : List Loc) (c s : Nat) (g : JFrame), c ≤ kmc K → s ≤ kms K → W (kp K) (kl K) (ke K) (kR K) (ks K) (km K) (kav K) (kb K) (kme K) (kc K) H locs c s (MQ (kb K) (kQc K) (kav K) (ks K) c s (gA (kG K))) g → W (kp K) (kl K) (ke K) (kR K) (ks K) (km K) (kav K) (kb K) (kme K) (kc K) H locs c s (kQ K) g
def Ok9 (K : KT) (cc : ByteArray) (own : String) (nL : Nat) (ret : Option FieldType) (fr lo : Nat) : Prop :=
  Cx (kG K) (kl K) (kp K) (ks K) (km K) (kme K) (kc K) cc own nL ret ∧ fr ≤ (kR K).frames ∧ lo ≤ (kR K).locals ∧ Lift K
theorem hst9 {K : KT} {cc : ByteArray} {own : String} {nL : Nat} {ret : Option FieldType} {fr lo : Nat} (h : Ok9 K cc own nL ret fr lo) : (kl K).stackTraces = false := h.1.2.2.2.2.2.2.2.2.2.2
def Bd (K : KT) : Prop := (kcl K ≤ (kR K).cells ∧ ksl K ≤ (kR K).slots) ∧ kcl K ≤ kmc K ∧ ksl K ≤ kms K
def J (K : KT) (nL : Nat) (d : DA) (lv : List (Nat × Value)) (pc : Nat) (st : List Value) : Prop :=
  Bd K ∧ ∀ (H : Heap) (locs : List Loc) (ls : Array Slot), Rh (kG K) (ks K) (ka K) (wD (kσ K) d) H locs → lv_has ls nL lv →
    W (kp K) (kl K) (ke K) (kR K) (ks K) (km K) (kav K) (kb K) (kme K) (kc K) H locs (kcl K) (ksl K) (kQ K) (F0 (km K) pc ls st)
/-- what the method's end wants: the answer rv with the data d -/
def En (K : KT) (rv : Option Value) (d : DA) : Prop := Bd K ∧ ∀ (H : Heap) (locs : List Loc) (t : State), Rh (kG K) (ks K) (ka K) (wD (kσ K) d) H locs → t.heap = H → (ks K).WarmedH t.vm → kQc K (kav K) (ks K) (.returned rv) t
def Dt (cc : ByteArray) (tbl : List (Nat × Instr × Nat × Nat)) : Prop := ∀ x ∈ tbl, decode cc x.1 = .ok (x.2.1, x.2.2.1) ∧ x.1 + x.2.2.1 = x.2.2.2
theorem dc9 {cc : ByteArray} {tbl : List (Nat × Instr × Nat × Nat)} (h : Dt cc tbl) (k : Nat) {pc n pc1 : Nat} {i : Instr} (hk : tbl[k]? = some (pc, i, n, pc1)) : Dc cc pc i n pc1 := by
  have h1 := h _ (List.mem_of_getElem? hk)
  dsimp only at h1
  unfold Dc
  exact h1
theorem dj9 {cc : ByteArray} {tbl : List (Nat × Instr × Nat × Nat)} (h : Dt cc tbl) (k tgt : Nat) {pc n pc1 : Nat} {i : Instr} {off : Int} (hk : tbl[k]? = some (pc, i, n, pc1)) (ht : (pc : Int) + off = (tgt : Int)) : Dj cc pc i off n pc1 tgt := ⟨(dc9 h k hk).1, (dc9 h k hk).2, ht⟩
/-! loops of the pure programs -/
def wl9 {S X : Type} (b : S → Option (S ⊕ X)) : Nat → S → Option X
  | 0, _ => none
  | n + 1, s => match b s with
    | some (.inl s1) => wl9 b n s1
    | some (.inr x) => some x
    | none => none
def lpE {S E Y : Type} (b : S → Option (S ⊕ E)) (s : S) (k : E → Option Y) : Option Y := match wl9 b FUEL s with
  | some e => k e
  | none => none
def lpR {S E R Y : Type} (b : S → Option (S ⊕ (E ⊕ R))) (s : S) (k : E → Option Y) (j : R → Option Y) : Option Y := match wl9 b FUEL s with
  | some (.inl e) => k e
  | some (.inr r) => j r
  | none => none
def S2 {S E : Type} (T : S → Prop) (F : E → Prop) : S ⊕ E → Prop
  | .inl s => T s
  | .inr e => F e
def S3 {S E R : Type} (T : S → Prop) (F : E → Prop) (V : R → Prop) : S ⊕ (E ⊕ R) → Prop
  | .inl s => T s
  | .inr (.inl e) => F e
  | .inr (.inr r) => V r
theorem wl_all {S X : Type} {b : S → Option (S ⊕ X)} {T : S → Prop} {F : X → Prop} (hs : ∀ s y, b s = some y → S2 T F y → T s) : ∀ n s x, wl9 b n s = some x → F x → T s := by
  intro n
  induction n with
  | zero => intro s x h _; cases h
  | succ n ih =>
    intro s x h hF
    unfold wl9 at h
    split at h
    · next s1 h1 => exact hs s _ h1 (ih s1 x h hF)
    · next x1 h1 => cases h; exact hs s _ h1 hF
    · cases h
theorem j_lpE {S E Y : Type} {b : S → Option (S ⊕ E)} {s : S} {k : E → Option Y} {y : Y} (T : S → Prop) (F : E → Prop) (h : lpE b s k = some y) (hs : ∀ s y, b s = some y → S2 T F y → T s) (hk : ∀ e, k e = some y → F e) : T s := by
  unfold lpE at h
  split at h
  · next e h1 => exact wl_all hs _ _ _ h1 (hk e h)
  · cases h
theorem j_lpR {S E R Y : Type} {b : S → Option (S ⊕ (E ⊕ R))} {s : S} {k : E → Option Y} {j : R → Option Y} {y : Y} (T : S → Prop) (F : E → Prop) (V : R → Prop) (h : lpR b s k j = some y) (hs : ∀ s y, b s = some y → S3 T F V y → T s) (hk : ∀ e, k e = some y → F e) (hj : ∀ r, j r = some y → V r) : T s := by
  unfold lpR at h
  have hs' : ∀ s y, b s = some y → S2 T (fun z : E ⊕ R => match z with | .inl e => F e | .inr r => V r) y → T s := fun s y h1 h2 => hs s y h1 (by
    cases y with
    | inl a => exact h2
    | inr z => cases z with
      | inl a => exact h2
      | inr a => exact h2)
  split at h
  · next e h1 => exact wl_all hs' _ _ _ h1 (hk e h)
  · next r h1 => exact wl_all hs' _ _ _ h1 (hj r h)
  · cases h
theorem gd9 {α : Type} {c : Prop} [Decidable c] {k : Option α} {x : α} {P : Prop} (h : gd c k = some x) (f : c → k = some x → P) : P := f (gd_some h).1 (gd_some h).2
theorem bd9 {α β δ : Type} {o : Option (α × δ)} {k : α → δ → Option β} {x : β} {P : Prop} (h : bd o k = some x) (f : ∀ a d, o = some (a, d) → k a d = some x → P) : P := by
  obtain ⟨a, d, h1, h2⟩ := bd_some h
  exact f a d h1 h2
def b1 {α β : Type} (o : Option α) (k : α → Option β) : Option β := match o with | some a => k a | none => none
theorem b19 {α β : Type} {o : Option α} {k : α → Option β} {x : β} {P : Prop} (h : b1 o k = some x) (f : ∀ a, o = some a → k a = some x → P) : P := by
  unfold b1 at h
  split at h
  · next a => exact f a rfl h
  · cases h
theorem lf9 {α : Type} {a y : α} {C : α → Prop} (h : some a = some y) (hk : C y) : C a := by cases h; exact hk
/-! ends -/
def FI (K : KT) (x : Int × DA) : Prop := En K (some (vi x.1)) x.2
def FV (K : KT) (x : Unit × DA) : Prop := En K none x.2
def FL9 (K : KT) (x : Int × DA) : Prop := En K (some (vl x.1)) x.2
def FA (K : KT) (x : Nat × DA) : Prop := En K (some (rf K x.1)) x.2
def FI0 (K : KT) (d : DA) (x : Int) : Prop := En K (some (vi x)) d
def FA0 (K : KT) (d : DA) (x : Nat) : Prop := En K (some (rf K x)) d
def FL90 (K : KT) (d : DA) (x : Int) : Prop := En K (some (vl x)) d
section JR
variable {K : KT} {cc : ByteArray} {own : String} {nL fr lo pc pc1 tgt : Nat} {ret : Option FieldType} {d : DA} {lv lv' : List (Nat × Value)} {st : List Value} {Y : Type} {y : Y}
theorem j_sub (ks : List Nat) (hl : lv_pick lv ks = lv') (k : J K nL d lv' pc st) : J K nL d lv pc st := ⟨k.1, fun H locs ls hR h => k.2 H locs ls hR (lv_sub h ks hl)⟩
theorem brB {g c : Prop} [Decidable g] [Decidable c] {kt kf : Option Y} {P Q : Prop} (h : gd g (if c then kt else kf) = some y) (ft : kt = some y → Bd K ∧ P) (ff : kf = some y → Bd K ∧ Q) : Bd K := by
  have h1 := ite_some (gd_some h).2
  by_cases hc : c
  · exact (ft (h1.1 hc)).1
  · exact (ff (h1.2 hc)).1
theorem brN {g c : Prop} [Decidable g] [Decidable c] {kt kf : Option Y} {P Q : Prop} (h : gd g (if c then kf else kt) = some y) (ft : kt = some y → Bd K ∧ P) (ff : kf = some y → Bd K ∧ Q) : Bd K := by
  have h1 := ite_some (gd_some h).2
  by_cases hc : c
  · exact (ff (h1.1 hc)).1
  · exact (ft (h1.2 hc)).1
theorem j_letI {a : Int} {k : Int → Option Y} (h : lt9 a k = some y) (f : ∀ x : Int, k x = some y → J K nL d lv pc (vi x :: st)) : J K nL d lv pc (vi a :: st) := f a h
theorem j_letL {a : Int} {k : Int → Option Y} (h : lt9 a k = some y) (f : ∀ x : Int, k x = some y → J K nL d lv pc (vl x :: st)) : J K nL d lv pc (vl a :: st) := f a h
theorem j_iconst (hK : Ok9 K cc own nL ret fr lo) {n : Int} (hd : Dc cc pc (.iconst n) 1 pc1)  (k : J K nL d lv pc1 (vi n :: st)) : J K nL d lv pc (st) := ⟨k.1, fun H locs ls hR hl => r_iconst hK.1 hd (k.2 H locs ls hR hl)⟩
theorem j_bipush (hK : Ok9 K cc own nL ret fr lo) {n : Int} (hd : Dc cc pc (.bipush n) 2 pc1) (hn : (Int8.ofInt n).toInt32 = Int32.ofInt n) (k : J K nL d lv pc1 (vi n :: st)) : J K nL d lv pc (st) := ⟨k.1, fun H locs ls hR hl => r_bipush hK.1 hd hn (k.2 H locs ls hR hl)⟩
theorem j_sipush (hK : Ok9 K cc own nL ret fr lo) {n : Int} (hd : Dc cc pc (.sipush n) 3 pc1) (hn : (Int16.ofInt n).toInt32 = Int32.ofInt n) (k : J K nL d lv pc1 (vi n :: st)) : J K nL d lv pc (st) := ⟨k.1, fun H locs ls hR hl => r_sipush hK.1 hd hn (k.2 H locs ls hR hl)⟩
theorem j_lconst (hK : Ok9 K cc own nL ret fr lo) {n : Fin 2} {v : Int} (hd : Dc cc pc (.lconst n) 1 pc1) (hn : Int64.ofNat (n : Nat) = Int64.ofInt v) (k : J K nL d lv pc1 (vl v :: st)) : J K nL d lv pc (st) := ⟨k.1, fun H locs ls hR hl => r_lconst hK.1 hd hn (k.2 H locs ls hR hl)⟩
theorem j_ldc (hK : Ok9 K cc own nL ret fr lo) {i : Nat} {v : Int} (hd : Dc cc pc (.ldc i) 2 pc1) (hw : Cond.constant own i (Int32.ofInt v) ∈ allw) (k : J K nL d lv pc1 (vi v :: st)) : J K nL d lv pc (st) := ⟨k.1, fun H locs ls hR hl => r_ldc hK.1 hw hd (k.2 H locs ls hR hl)⟩
theorem j_ldcw (hK : Ok9 K cc own nL ret fr lo) {i : Nat} {v : Int} (hd : Dc cc pc (.ldc_w i) 3 pc1) (hw : Cond.constant own i (Int32.ofInt v) ∈ allw) (k : J K nL d lv pc1 (vi v :: st)) : J K nL d lv pc (st) := ⟨k.1, fun H locs ls hR hl => r_ldcw hK.1 hw hd (k.2 H locs ls hR hl)⟩
theorem j_ldc2 (hK : Ok9 K cc own nL ret fr lo) {i : Nat} {v : Int} (hd : Dc cc pc (.ldc2_w i) 3 pc1) (hw : Cond.constantLong own i (Int64.ofInt v) ∈ allw) (k : J K nL d lv pc1 (vl v :: st)) : J K nL d lv pc (st) := ⟨k.1, fun H locs ls hR hl => r_ldc2 hK.1 hw hd (k.2 H locs ls hR hl)⟩
theorem j_iload_n (hK : Ok9 K cc own nL ret fr lo) {k9 : Fin 4} {i : Nat} {a : Int} (hd : Dc cc pc (.iload_n k9) 1 pc1) (q : Nat) (hq : lv[q]? = some (i, vi a)) (hi : (k9 : Nat) = i) (k : J K nL d lv pc1 (vi a :: st)) : J K nL d lv pc (st) := ⟨k.1, fun H locs ls hR hl => r_iload_n hK.1 hl q hq hd hi (k.2 H locs ls hR hl)⟩
theorem j_iload (hK : Ok9 K cc own nL ret fr lo) {i : Nat} {a : Int} (hd : Dc cc pc (.iload i) 2 pc1) (q : Nat) (hq : lv[q]? = some (i, vi a)) (k : J K nL d lv pc1 (vi a :: st)) : J K nL d lv pc (st) := ⟨k.1, fun H locs ls hR hl => r_iload hK.1 hl q hq hd (k.2 H locs ls hR hl)⟩
theorem j_istore_n (hK : Ok9 K cc own nL ret fr lo) {k9 : Fin 4} {i : Nat} {a : Int} (hd : Dc cc pc (.istore_n k9) 1 pc1) (hi : (k9 : Nat) = i) (hn : i < nL) (hv : (i, vi a) :: lv.filter (fun q => !(q.1 == i) && !(q.1 + 1 == i && q.2.category == 2)) = lv') (k : J K nL d lv' pc1 (st)) : J K nL d lv pc (vi a :: st) := ⟨k.1, fun H locs ls hR hl => r_istore_n hK.1 hl hd hi hn hv (fun ls' hl' => k.2 H locs ls' hR hl')⟩
theorem j_istore (hK : Ok9 K cc own nL ret fr lo) {i : Nat} {a : Int} (hd : Dc cc pc (.istore i) 2 pc1) (hn : i < nL) (hv : (i, vi a) :: lv.filter (fun q => !(q.1 == i) && !(q.1 + 1 == i && q.2.category == 2)) = lv') (k : J K nL d lv' pc1 (st)) : J K nL d lv pc (vi a :: st) := ⟨k.1, fun H locs ls hR hl => r_istore hK.1 hl hd hn hv (fun ls' hl' => k.2 H locs ls' hR hl')⟩
theorem j_lload_n (hK : Ok9 K cc own nL ret fr lo) {k9 : Fin 4} {i : Nat} {a : Int} (hd : Dc cc pc (.lload_n k9) 1 pc1) (q : Nat) (hq : lv[q]? = some (i, vl a)) (hi : (k9 : Nat) = i) (k : J K nL d lv pc1 (vl a :: st)) : J K nL d lv pc (st) := ⟨k.1, fun H locs ls hR hl => r_lload_n hK.1 hl q hq hd hi (k.2 H locs ls hR hl)⟩
theorem j_lload (hK : Ok9 K cc own nL ret fr lo) {i : Nat} {a : Int} (hd : Dc cc pc (.lload i) 2 pc1) (q : Nat) (hq : lv[q]? = some (i, vl a)) (k : J K nL d lv pc1 (vl a :: st)) : J K nL d lv pc (st) := ⟨k.1, fun H locs ls hR hl => r_lload hK.1 hl q hq hd (k.2 H locs ls hR hl)⟩
theorem j_lstore_n (hK : Ok9 K cc own nL ret fr lo) {k9 : Fin 4} {i : Nat} {a : Int} (hd : Dc cc pc (.lstore_n k9) 1 pc1) (hi : (k9 : Nat) = i) (hn : i + 1 < nL) (hv : (i, vl a) :: lv.filter (fun q => !(q.1 == i) && (!(q.1 == i + 1) && !(q.1 + 1 == i && q.2.category == 2))) = lv') (k : J K nL d lv' pc1 (st)) : J K nL d lv pc (vl a :: st) := ⟨k.1, fun H locs ls hR hl => r_lstore_n hK.1 hl hd hi hn hv (fun ls' hl' => k.2 H locs ls' hR hl')⟩
theorem j_lstore (hK : Ok9 K cc own nL ret fr lo) {i : Nat} {a : Int} (hd : Dc cc pc (.lstore i) 2 pc1) (hn : i + 1 < nL) (hv : (i, vl a) :: lv.filter (fun q => !(q.1 == i) && (!(q.1 == i + 1) && !(q.1 + 1 == i && q.2.category == 2))) = lv') (k : J K nL d lv' pc1 (st)) : J K nL d lv pc (vl a :: st) := ⟨k.1, fun H locs ls hR hl => r_lstore hK.1 hl hd hn hv (fun ls' hl' => k.2 H locs ls' hR hl')⟩
theorem j_aload_n (hK : Ok9 K cc own nL ret fr lo) {k9 : Fin 4} {i : Nat} {a : Nat} (hd : Dc cc pc (.aload_n k9) 1 pc1) (q : Nat) (hq : lv[q]? = some (i, .ref a)) (hi : (k9 : Nat) = i) (k : J K nL d lv pc1 (.ref a :: st)) : J K nL d lv pc (st) := ⟨k.1, fun H locs ls hR hl => r_aload_n hK.1 hl q hq hd hi (k.2 H locs ls hR hl)⟩
theorem j_aload (hK : Ok9 K cc own nL ret fr lo) {i : Nat} {a : Nat} (hd : Dc cc pc (.aload i) 2 pc1) (q : Nat) (hq : lv[q]? = some (i, .ref a)) (k : J K nL d lv pc1 (.ref a :: st)) : J K nL d lv pc (st) := ⟨k.1, fun H locs ls hR hl => r_aload hK.1 hl q hq hd (k.2 H locs ls hR hl)⟩
theorem j_astore_n (hK : Ok9 K cc own nL ret fr lo) {k9 : Fin 4} {i : Nat} {a : Nat} (hd : Dc cc pc (.astore_n k9) 1 pc1) (hi : (k9 : Nat) = i) (hn : i < nL) (hv : (i, .ref a) :: lv.filter (fun q => !(q.1 == i) && !(q.1 + 1 == i && q.2.category == 2)) = lv') (k : J K nL d lv' pc1 (st)) : J K nL d lv pc (.ref a :: st) := ⟨k.1, fun H locs ls hR hl => r_astore_n hK.1 hl hd hi hn hv (fun ls' hl' => k.2 H locs ls' hR hl')⟩
theorem j_astore (hK : Ok9 K cc own nL ret fr lo) {i : Nat} {a : Nat} (hd : Dc cc pc (.astore i) 2 pc1) (hn : i < nL) (hv : (i, .ref a) :: lv.filter (fun q => !(q.1 == i) && !(q.1 + 1 == i && q.2.category == 2)) = lv') (k : J K nL d lv' pc1 (st)) : J K nL d lv pc (.ref a :: st) := ⟨k.1, fun H locs ls hR hl => r_astore hK.1 hl hd hn hv (fun ls' hl' => k.2 H locs ls' hR hl')⟩
theorem j_iinc (hK : Ok9 K cc own nL ret fr lo) {i : Nat} {n a : Int} (hd : Dc cc pc (.iinc i n) 3 pc1) (q : Nat) (hq : lv[q]? = some (i, vi a)) (hn : i < nL) (hv : (i, vi (a + n)) :: lv.filter (fun q => !(q.1 == i) && !(q.1 + 1 == i && q.2.category == 2)) = lv') (k : J K nL d lv' pc1 (st)) : J K nL d lv pc (st) := ⟨k.1, fun H locs ls hR hl => r_iinc hK.1 hl q hq hd hn hv (fun ls' hl' => k.2 H locs ls' hR hl')⟩
theorem j_iadd (hK : Ok9 K cc own nL ret fr lo) {a b : Int} (hd : Dc cc pc (.iadd) 1 pc1)  (k : J K nL d lv pc1 (vi (a + b) :: st)) : J K nL d lv pc (vi b :: vi a :: st) := ⟨k.1, fun H locs ls hR hl => r_iadd hK.1 hd (k.2 H locs ls hR hl)⟩
theorem j_isub (hK : Ok9 K cc own nL ret fr lo) {a b : Int} (hd : Dc cc pc (.isub) 1 pc1)  (k : J K nL d lv pc1 (vi (a - b) :: st)) : J K nL d lv pc (vi b :: vi a :: st) := ⟨k.1, fun H locs ls hR hl => r_isub hK.1 hd (k.2 H locs ls hR hl)⟩
theorem j_imul (hK : Ok9 K cc own nL ret fr lo) {a b : Int} (hd : Dc cc pc (.imul) 1 pc1)  (k : J K nL d lv pc1 (vi (a * b) :: st)) : J K nL d lv pc (vi b :: vi a :: st) := ⟨k.1, fun H locs ls hR hl => r_imul hK.1 hd (k.2 H locs ls hR hl)⟩
theorem j_iand (hK : Ok9 K cc own nL ret fr lo) {a b : Int} (hd : Dc cc pc (.iand) 1 pc1)  (k : J K nL d lv pc1 (vi (iand9 a b) :: st)) : J K nL d lv pc (vi b :: vi a :: st) := ⟨k.1, fun H locs ls hR hl => r_iand hK.1 hd (k.2 H locs ls hR hl)⟩
theorem j_ior (hK : Ok9 K cc own nL ret fr lo) {a b : Int} (hd : Dc cc pc (.ior) 1 pc1)  (k : J K nL d lv pc1 (vi (ior9 a b) :: st)) : J K nL d lv pc (vi b :: vi a :: st) := ⟨k.1, fun H locs ls hR hl => r_ior hK.1 hd (k.2 H locs ls hR hl)⟩
theorem j_ishl (hK : Ok9 K cc own nL ret fr lo) {a b : Int} (hd : Dc cc pc (.ishl) 1 pc1)  (k : J K nL d lv pc1 (vi (ishl9 a b) :: st)) : J K nL d lv pc (vi b :: vi a :: st) := ⟨k.1, fun H locs ls hR hl => r_ishl hK.1 hd (k.2 H locs ls hR hl)⟩
theorem j_ishr (hK : Ok9 K cc own nL ret fr lo) {a b : Int} (hd : Dc cc pc (.ishr) 1 pc1)  (k : J K nL d lv pc1 (vi (ishr9 a b) :: st)) : J K nL d lv pc (vi b :: vi a :: st) := ⟨k.1, fun H locs ls hR hl => r_ishr hK.1 hd (k.2 H locs ls hR hl)⟩
theorem j_iushr (hK : Ok9 K cc own nL ret fr lo) {a b : Int} (hd : Dc cc pc (.iushr) 1 pc1)  (k : J K nL d lv pc1 (vi (iushr9 a b) :: st)) : J K nL d lv pc (vi b :: vi a :: st) := ⟨k.1, fun H locs ls hR hl => r_iushr hK.1 hd (k.2 H locs ls hR hl)⟩
theorem j_ineg (hK : Ok9 K cc own nL ret fr lo) {a : Int} (hd : Dc cc pc (.ineg) 1 pc1)  (k : J K nL d lv pc1 (vi (-a) :: st)) : J K nL d lv pc (vi a :: st) := ⟨k.1, fun H locs ls hR hl => r_ineg hK.1 hd (k.2 H locs ls hR hl)⟩
theorem j_ladd (hK : Ok9 K cc own nL ret fr lo) {a b : Int} (hd : Dc cc pc (.ladd) 1 pc1)  (k : J K nL d lv pc1 (vl (a + b) :: st)) : J K nL d lv pc (vl b :: vl a :: st) := ⟨k.1, fun H locs ls hR hl => r_ladd hK.1 hd (k.2 H locs ls hR hl)⟩
theorem j_lmul (hK : Ok9 K cc own nL ret fr lo) {a b : Int} (hd : Dc cc pc (.lmul) 1 pc1)  (k : J K nL d lv pc1 (vl (a * b) :: st)) : J K nL d lv pc (vl b :: vl a :: st) := ⟨k.1, fun H locs ls hR hl => r_lmul hK.1 hd (k.2 H locs ls hR hl)⟩
theorem j_irem (hK : Ok9 K cc own nL ret fr lo) {a b : Int} {k : Option Y} (hd : Dc cc pc (.irem) 1 pc1) (h : gd (dvg a b) k = some y) (f : k = some y → J K nL d lv pc1 (vi (a.tmod b) :: st)) : J K nL d lv pc (vi b :: vi a :: st) := ⟨(f (gd_some h).2).1, fun H locs ls hR hl => r_irem hK.1 hd (gd_some h).1 ((f (gd_some h).2).2 H locs ls hR hl)⟩
theorem j_idiv (hK : Ok9 K cc own nL ret fr lo) {a b : Int} {k : Option Y} (hd : Dc cc pc (.idiv) 1 pc1) (h : gd (dvq a b) k = some y) (f : k = some y → J K nL d lv pc1 (vi (a / b) :: st)) : J K nL d lv pc (vi b :: vi a :: st) := ⟨(f (gd_some h).2).1, fun H locs ls hR hl => r_idiv hK.1 hd (gd_some h).1 ((f (gd_some h).2).2 H locs ls hR hl)⟩
theorem j_lrem (hK : Ok9 K cc own nL ret fr lo) {a b : Int} {k : Option Y} (hd : Dc cc pc (.lrem) 1 pc1) (h : gd (dvl a b) k = some y) (f : k = some y → J K nL d lv pc1 (vl (a % b) :: st)) : J K nL d lv pc (vl b :: vl a :: st) := ⟨(f (gd_some h).2).1, fun H locs ls hR hl => r_lrem hK.1 hd (gd_some h).1 ((f (gd_some h).2).2 H locs ls hR hl)⟩
theorem j_ldiv (hK : Ok9 K cc own nL ret fr lo) {a b : Int} {k : Option Y} (hd : Dc cc pc (.ldiv) 1 pc1) (h : gd (dvl a b) k = some y) (f : k = some y → J K nL d lv pc1 (vl (a / b) :: st)) : J K nL d lv pc (vl b :: vl a :: st) := ⟨(f (gd_some h).2).1, fun H locs ls hR hl => r_ldiv hK.1 hd (gd_some h).1 ((f (gd_some h).2).2 H locs ls hR hl)⟩
theorem j_i2l (hK : Ok9 K cc own nL ret fr lo) {a : Int} {k : Option Y} (hd : Dc cc pc (.i2l) 1 pc1) (h : gd (inR a) k = some y) (f : k = some y → J K nL d lv pc1 (vl a :: st)) : J K nL d lv pc (vi a :: st) := ⟨(f (gd_some h).2).1, fun H locs ls hR hl => r_i2l hK.1 hd (gd_some h).1 ((f (gd_some h).2).2 H locs ls hR hl)⟩
theorem j_l2i (hK : Ok9 K cc own nL ret fr lo) {a : Int} {k : Option Y} (hd : Dc cc pc (.l2i) 1 pc1) (h : gd (inR a) k = some y) (f : k = some y → J K nL d lv pc1 (vi a :: st)) : J K nL d lv pc (vl a :: st) := ⟨(f (gd_some h).2).1, fun H locs ls hR hl => r_l2i hK.1 hd (gd_some h).1 ((f (gd_some h).2).2 H locs ls hR hl)⟩
theorem j_dup (hK : Ok9 K cc own nL ret fr lo) {va : Value} (hd : Dc cc pc (.dup) 1 pc1) (h9 : va.category = 1) (k : J K nL d lv pc1 (va :: va :: st)) : J K nL d lv pc (va :: st) := ⟨k.1, fun H locs ls hR hl => r_dup hK.1 hd h9 (k.2 H locs ls hR hl)⟩
theorem j_pop (hK : Ok9 K cc own nL ret fr lo) {va : Value} (hd : Dc cc pc (.pop) 1 pc1) (h9 : va.category = 1) (k : J K nL d lv pc1 (st)) : J K nL d lv pc (va :: st) := ⟨k.1, fun H locs ls hR hl => r_pop hK.1 hd h9 (k.2 H locs ls hR hl)⟩
theorem j_dup2 (hK : Ok9 K cc own nL ret fr lo) {va vb : Value} (hd : Dc cc pc (.dup2) 1 pc1) (h9 : va.category = 1) (h8 : vb.category = 1) (k : J K nL d lv pc1 (va :: vb :: va :: vb :: st)) : J K nL d lv pc (va :: vb :: st) := ⟨k.1, fun H locs ls hR hl => r_dup2 hK.1 hd h9 h8 (k.2 H locs ls hR hl)⟩
theorem j_dup_x1 (hK : Ok9 K cc own nL ret fr lo) {va vb : Value} (hd : Dc cc pc (.dup_x1) 1 pc1) (h9 : va.category = 1) (h8 : vb.category = 1) (k : J K nL d lv pc1 (va :: vb :: va :: st)) : J K nL d lv pc (va :: vb :: st) := ⟨k.1, fun H locs ls hR hl => r_dup_x1 hK.1 hd h9 h8 (k.2 H locs ls hR hl)⟩
theorem j_icmp_eq (hK : Ok9 K cc own nL ret fr lo) {a b off : Int} {kt kf : Option Y} (hd : Dj cc pc (.if_icmp .eq off) off 3 pc1 tgt) (h : gd (inR a ∧ inR b) (if a = b then kt else kf) = some y) (ft : kt = some y → J K nL d lv tgt (st)) (ff : kf = some y → J K nL d lv pc1 (st)) : J K nL d lv pc (vi b :: vi a :: st) := ⟨brB h ft ff, fun H locs ls hR hl => r_icmp_eq hK.1 hd (gd_some h).1 (fun hc => (ft ((ite_some (gd_some h).2).1 hc)).2 H locs ls hR hl) (fun hc => (ff ((ite_some (gd_some h).2).2 hc)).2 H locs ls hR hl)⟩
theorem j_if_eq (hK : Ok9 K cc own nL ret fr lo) {a off : Int} {kt kf : Option Y} (hd : Dj cc pc (.ifCond .eq off) off 3 pc1 tgt) (h : gd (inR a) (if a = 0 then kt else kf) = some y) (ft : kt = some y → J K nL d lv tgt (st)) (ff : kf = some y → J K nL d lv pc1 (st)) : J K nL d lv pc (vi a :: st) := ⟨brB h ft ff, fun H locs ls hR hl => r_if_eq hK.1 hd (gd_some h).1 (fun hc => (ft ((ite_some (gd_some h).2).1 hc)).2 H locs ls hR hl) (fun hc => (ff ((ite_some (gd_some h).2).2 hc)).2 H locs ls hR hl)⟩
theorem j_icmp_ne (hK : Ok9 K cc own nL ret fr lo) {a b off : Int} {kt kf : Option Y} (hd : Dj cc pc (.if_icmp .ne off) off 3 pc1 tgt) (h : gd (inR a ∧ inR b) (if a = b then kf else kt) = some y) (ft : kt = some y → J K nL d lv tgt (st)) (ff : kf = some y → J K nL d lv pc1 (st)) : J K nL d lv pc (vi b :: vi a :: st) := ⟨brN h ft ff, fun H locs ls hR hl => r_icmp_ne hK.1 hd (gd_some h).1 (fun hc => (ft ((ite_some (gd_some h).2).2 hc)).2 H locs ls hR hl) (fun hc => (ff ((ite_some (gd_some h).2).1 hc)).2 H locs ls hR hl)⟩
theorem j_if_ne (hK : Ok9 K cc own nL ret fr lo) {a off : Int} {kt kf : Option Y} (hd : Dj cc pc (.ifCond .ne off) off 3 pc1 tgt) (h : gd (inR a) (if a = 0 then kf else kt) = some y) (ft : kt = some y → J K nL d lv tgt (st)) (ff : kf = some y → J K nL d lv pc1 (st)) : J K nL d lv pc (vi a :: st) := ⟨brN h ft ff, fun H locs ls hR hl => r_if_ne hK.1 hd (gd_some h).1 (fun hc => (ft ((ite_some (gd_some h).2).2 hc)).2 H locs ls hR hl) (fun hc => (ff ((ite_some (gd_some h).2).1 hc)).2 H locs ls hR hl)⟩
theorem j_icmp_lt (hK : Ok9 K cc own nL ret fr lo) {a b off : Int} {kt kf : Option Y} (hd : Dj cc pc (.if_icmp .lt off) off 3 pc1 tgt) (h : gd (inR a ∧ inR b) (if a < b then kt else kf) = some y) (ft : kt = some y → J K nL d lv tgt (st)) (ff : kf = some y → J K nL d lv pc1 (st)) : J K nL d lv pc (vi b :: vi a :: st) := ⟨brB h ft ff, fun H locs ls hR hl => r_icmp_lt hK.1 hd (gd_some h).1 (fun hc => (ft ((ite_some (gd_some h).2).1 hc)).2 H locs ls hR hl) (fun hc => (ff ((ite_some (gd_some h).2).2 hc)).2 H locs ls hR hl)⟩
theorem j_if_lt (hK : Ok9 K cc own nL ret fr lo) {a off : Int} {kt kf : Option Y} (hd : Dj cc pc (.ifCond .lt off) off 3 pc1 tgt) (h : gd (inR a) (if a < 0 then kt else kf) = some y) (ft : kt = some y → J K nL d lv tgt (st)) (ff : kf = some y → J K nL d lv pc1 (st)) : J K nL d lv pc (vi a :: st) := ⟨brB h ft ff, fun H locs ls hR hl => r_if_lt hK.1 hd (gd_some h).1 (fun hc => (ft ((ite_some (gd_some h).2).1 hc)).2 H locs ls hR hl) (fun hc => (ff ((ite_some (gd_some h).2).2 hc)).2 H locs ls hR hl)⟩
theorem j_icmp_ge (hK : Ok9 K cc own nL ret fr lo) {a b off : Int} {kt kf : Option Y} (hd : Dj cc pc (.if_icmp .ge off) off 3 pc1 tgt) (h : gd (inR a ∧ inR b) (if b ≤ a then kt else kf) = some y) (ft : kt = some y → J K nL d lv tgt (st)) (ff : kf = some y → J K nL d lv pc1 (st)) : J K nL d lv pc (vi b :: vi a :: st) := ⟨brB h ft ff, fun H locs ls hR hl => r_icmp_ge hK.1 hd (gd_some h).1 (fun hc => (ft ((ite_some (gd_some h).2).1 hc)).2 H locs ls hR hl) (fun hc => (ff ((ite_some (gd_some h).2).2 hc)).2 H locs ls hR hl)⟩
theorem j_if_ge (hK : Ok9 K cc own nL ret fr lo) {a off : Int} {kt kf : Option Y} (hd : Dj cc pc (.ifCond .ge off) off 3 pc1 tgt) (h : gd (inR a) (if 0 ≤ a then kt else kf) = some y) (ft : kt = some y → J K nL d lv tgt (st)) (ff : kf = some y → J K nL d lv pc1 (st)) : J K nL d lv pc (vi a :: st) := ⟨brB h ft ff, fun H locs ls hR hl => r_if_ge hK.1 hd (gd_some h).1 (fun hc => (ft ((ite_some (gd_some h).2).1 hc)).2 H locs ls hR hl) (fun hc => (ff ((ite_some (gd_some h).2).2 hc)).2 H locs ls hR hl)⟩
theorem j_icmp_gt (hK : Ok9 K cc own nL ret fr lo) {a b off : Int} {kt kf : Option Y} (hd : Dj cc pc (.if_icmp .gt off) off 3 pc1 tgt) (h : gd (inR a ∧ inR b) (if b < a then kt else kf) = some y) (ft : kt = some y → J K nL d lv tgt (st)) (ff : kf = some y → J K nL d lv pc1 (st)) : J K nL d lv pc (vi b :: vi a :: st) := ⟨brB h ft ff, fun H locs ls hR hl => r_icmp_gt hK.1 hd (gd_some h).1 (fun hc => (ft ((ite_some (gd_some h).2).1 hc)).2 H locs ls hR hl) (fun hc => (ff ((ite_some (gd_some h).2).2 hc)).2 H locs ls hR hl)⟩
theorem j_if_gt (hK : Ok9 K cc own nL ret fr lo) {a off : Int} {kt kf : Option Y} (hd : Dj cc pc (.ifCond .gt off) off 3 pc1 tgt) (h : gd (inR a) (if 0 < a then kt else kf) = some y) (ft : kt = some y → J K nL d lv tgt (st)) (ff : kf = some y → J K nL d lv pc1 (st)) : J K nL d lv pc (vi a :: st) := ⟨brB h ft ff, fun H locs ls hR hl => r_if_gt hK.1 hd (gd_some h).1 (fun hc => (ft ((ite_some (gd_some h).2).1 hc)).2 H locs ls hR hl) (fun hc => (ff ((ite_some (gd_some h).2).2 hc)).2 H locs ls hR hl)⟩
theorem j_icmp_le (hK : Ok9 K cc own nL ret fr lo) {a b off : Int} {kt kf : Option Y} (hd : Dj cc pc (.if_icmp .le off) off 3 pc1 tgt) (h : gd (inR a ∧ inR b) (if a ≤ b then kt else kf) = some y) (ft : kt = some y → J K nL d lv tgt (st)) (ff : kf = some y → J K nL d lv pc1 (st)) : J K nL d lv pc (vi b :: vi a :: st) := ⟨brB h ft ff, fun H locs ls hR hl => r_icmp_le hK.1 hd (gd_some h).1 (fun hc => (ft ((ite_some (gd_some h).2).1 hc)).2 H locs ls hR hl) (fun hc => (ff ((ite_some (gd_some h).2).2 hc)).2 H locs ls hR hl)⟩
theorem j_if_le (hK : Ok9 K cc own nL ret fr lo) {a off : Int} {kt kf : Option Y} (hd : Dj cc pc (.ifCond .le off) off 3 pc1 tgt) (h : gd (inR a) (if a ≤ 0 then kt else kf) = some y) (ft : kt = some y → J K nL d lv tgt (st)) (ff : kf = some y → J K nL d lv pc1 (st)) : J K nL d lv pc (vi a :: st) := ⟨brB h ft ff, fun H locs ls hR hl => r_if_le hK.1 hd (gd_some h).1 (fun hc => (ft ((ite_some (gd_some h).2).1 hc)).2 H locs ls hR hl) (fun hc => (ff ((ite_some (gd_some h).2).2 hc)).2 H locs ls hR hl)⟩
theorem j_goto (hK : Ok9 K cc own nL ret fr lo) {off : Int} (hd : Dj cc pc (.goto off) off 3 pc1 tgt) (k : J K nL d lv tgt (st)) : J K nL d lv pc (st) := ⟨k.1, fun H locs ls hR hl => r_goto hK.1 hd (k.2 H locs ls hR hl)⟩
/-! fields and rows -/
theorem j_getI (hK : Ok9 K cc own nL ret fr lo) {i idx ci k : Nat} (hw : isC (kσ K) i ∧ kK (kσ K) i = ci) (hF : FL own idx ci k) (hf : fR ci k = false) (hd : Dc cc pc (.getfield idx) 3 pc1) (kk : J K nL d lv pc1 (vi (d.1 i k) :: st)) : J K nL d lv pc (rf K i :: st) :=
  ⟨kk.1, fun H locs ls hR hl => r_getI hK.1 hR hw.1 hw.2 hF hf hd (kk.2 H locs ls hR hl)⟩
theorem j_getR (hK : Ok9 K cc own nL ret fr lo) {i idx ci k q : Nat} (hw : isC (kσ K) i ∧ kK (kσ K) i = ci) (hF : FL own idx ci k) (hf : fR ci k = true) (hq : pP (kσ K) i k = q) (h0 : isC (kσ K) q) (hd : Dc cc pc (.getfield idx) 3 pc1) (kk : J K nL d lv pc1 (rf K q :: st)) : J K nL d lv pc (rf K i :: st) :=
  ⟨kk.1, fun H locs ls hR hl => r_getR hK.1 hR hw.1 hw.2 hF hf hq (Nat.ne_of_gt h0.1) hd (kk.2 H locs ls hR hl)⟩
theorem j_putI (hK : Ok9 K cc own nL ret fr lo) {i idx ci k : Nat} {a : Int} {q : DA → Option Y} (hw : isC (kσ K) i ∧ kK (kσ K) i = ci) (hF : FL own idx ci k) (hP : FP own idx ci k .int) (hf : fR ci k = false) (hd : Dc cc pc (.putfield idx) 3 pc1) (h : lt9 (wI d i k a) q = some y) (kk : ∀ d1, q d1 = some y → J K nL d1 lv pc1 st) : J K nL d lv pc (vi a :: rf K i :: st) :=
  ⟨(kk _ h).1, fun H locs ls hR hl => r_putI hK.1 hR hw.1 hw.2 hF hP hf hd (fun H1 locs1 hR1 => (kk _ h).2 H1 locs1 ls hR1 hl)⟩
theorem j_putZ (hK : Ok9 K cc own nL ret fr lo) {i idx ci k : Nat} {a : Int} {q : DA → Option Y} (hw : isC (kσ K) i ∧ kK (kσ K) i = ci) (hF : FL own idx ci k) (hP : FP own idx ci k .boolean) (hf : fR ci k = false) (hd : Dc cc pc (.putfield idx) 3 pc1) (h : gd (a = 0 ∨ a = 1) (lt9 (wI d i k a) q) = some y) (kk : ∀ d1, q d1 = some y → J K nL d1 lv pc1 st) : J K nL d lv pc (vi a :: rf K i :: st) :=
  ⟨(kk _ (gd_some h).2).1, fun H locs ls hR hl => r_putZ hK.1 hR (gd_some h).1 hw.1 hw.2 hF hP hf hd (fun H1 locs1 hR1 => (kk _ (gd_some h).2).2 H1 locs1 ls hR1 hl)⟩
abbrev ArS (σ : HS) (i n : Nat) : Prop := isC σ i ∧ kK σ i = 13 ∧ zZ σ i = n
abbrev AlS (σ : HS) (i n : Nat) : Prop := isC σ i ∧ kK σ i = 14 ∧ zZ σ i = n
abbrev Ar (K : KT) (i n : Nat) : Prop := ArS (kσ K) i n
abbrev Al (K : KT) (i n : Nat) : Prop := AlS (kσ K) i n
abbrev ix (j : Int) (n : Nat) : Prop := 0 ≤ j ∧ j < (n : Int)
theorem j_alen (hK : Ok9 K cc own nL ret fr lo) {i n : Nat} (hw : Ar K i n) (hd : Dc cc pc .arraylength 1 pc1) (kk : J K nL d lv pc1 (vi (n : Int) :: st)) : J K nL d lv pc (rf K i :: st) :=
  ⟨kk.1, fun H locs ls hR hl => r_alen hK.1 hR hw.1 hw.2.1 hd (by
    have e : zZ (wD (kσ K) d) i = n := hw.2.2
    rw [e]
    exact kk.2 H locs ls hR hl)⟩
theorem j_iald (hK : Ok9 K cc own nL ret fr lo) {i n : Nat} {j : Int} {k : Option Y} (hw : Ar K i n) (hn : n < 2147483648) (hd : Dc cc pc .iaload 1 pc1) (h : gd (ix j n) k = some y) (kk : k = some y → J K nL d lv pc1 (vi (d.1 i j.toNat) :: st)) : J K nL d lv pc (vi j :: rf K i :: st) :=
  ⟨(kk (gd_some h).2).1, fun H locs ls hR hl => r_iald hK.1 hR hw.1 hw.2.1 (ix_of hw.2.2 hn (gd_some h).1) hd ((kk (gd_some h).2).2 H locs ls hR hl)⟩
theorem j_lald (hK : Ok9 K cc own nL ret fr lo) {i n : Nat} {j : Int} {k : Option Y} (hw : Al K i n) (hn : n < 2147483648) (hd : Dc cc pc .laload 1 pc1) (h : gd (ix j n) k = some y) (kk : k = some y → J K nL d lv pc1 (vl (d.2 i j.toNat) :: st)) : J K nL d lv pc (vi j :: rf K i :: st) :=
  ⟨(kk (gd_some h).2).1, fun H locs ls hR hl => r_lald hK.1 hR hw.1 hw.2.1 (ix_of hw.2.2 hn (gd_some h).1) hd ((kk (gd_some h).2).2 H locs ls hR hl)⟩
theorem j_iast (hK : Ok9 K cc own nL ret fr lo) {i n : Nat} {j a : Int} {q : DA → Option Y} (hw : Ar K i n) (hn : n < 2147483648) (hd : Dc cc pc .iastore 1 pc1) (h : gd (ix j n) (lt9 (wI d i j.toNat a) q) = some y) (kk : ∀ d1, q d1 = some y → J K nL d1 lv pc1 st) : J K nL d lv pc (vi a :: vi j :: rf K i :: st) :=
  ⟨(kk _ (gd_some h).2).1, fun H locs ls hR hl => r_iast hK.1 hR hw.1 hw.2.1 (ix_of hw.2.2 hn (gd_some h).1) hd (fun H1 locs1 hR1 => (kk _ (gd_some h).2).2 H1 locs1 ls hR1 hl)⟩
theorem j_last (hK : Ok9 K cc own nL ret fr lo) {i n : Nat} {j a : Int} {q : DA → Option Y} (hw : Al K i n) (hn : n < 2147483648) (hd : Dc cc pc .lastore 1 pc1) (h : gd (ix j n) (lt9 (wL d i j.toNat a) q) = some y) (kk : ∀ d1, q d1 = some y → J K nL d1 lv pc1 st) : J K nL d lv pc (vl a :: vi j :: rf K i :: st) :=
  ⟨(kk _ (gd_some h).2).1, fun H locs ls hR hl => r_last hK.1 hR hw.1 hw.2.1 (ix_of hw.2.2 hn (gd_some h).1) hd (fun H1 locs1 hR1 => (kk _ (gd_some h).2).2 H1 locs1 ls hR1 hl)⟩
end JR
section JE
variable {K : KT} {cc : ByteArray} {own : String} {nL fr lo pc pc1 tgt : Nat} {d : DA} {lv lv' : List (Nat × Value)} {st : List Value} {Y : Type} {y : Y}
/-! ends -/
theorem j_iret {a : Int} (hK : Ok9 K cc own nL (some .int) fr lo) (hd : Dc cc pc .ireturn 1 pc1) (hf : En K (some (vi a)) d) : J K nL d lv pc [vi a] :=
  ⟨hf.1, fun H locs _ hR _ => hK.2.2.2 _ _ _ _ _ hf.1.2.1 hf.1.2.2 (W.iret hK.1.1 hK.1.2.1 hK.1.2.2.2.2.2.2.2.2.1 (fun t ht hw => hf.2 H locs t hR ht hw) hR.2.2.2 hd.1 hK.1.2.2.2.2.2.2.2.1)⟩
theorem j_zret {a : Int} (hK : Ok9 K cc own nL (some .boolean) fr lo) (ha : a = 0 ∨ a = 1) (hd : Dc cc pc .ireturn 1 pc1) (hf : En K (some (vi a)) d) : J K nL d lv pc [vi a] :=
  ⟨hf.1, fun H locs _ hR _ => hK.2.2.2 _ _ _ _ _ hf.1.2.1 hf.1.2.2 (W.zret hK.1.1 hK.1.2.1 hK.1.2.2.2.2.2.2.2.2.1 (nar_bool ha).1 (fun t ht hw => hf.2 H locs t hR ht hw) hR.2.2.2 hd.1 hK.1.2.2.2.2.2.2.2.1)⟩
theorem j_nret {a : Int} {ty : FieldType} (hK : Ok9 K cc own nL (some ty) fr lo) (ha : narrow ty (vi a) = vi a) (hd : Dc cc pc .ireturn 1 pc1) (hf : En K (some (vi a)) d) : J K nL d lv pc [vi a] :=
  ⟨hf.1, fun H locs _ hR _ => hK.2.2.2 _ _ _ _ _ hf.1.2.1 hf.1.2.2 (W.zret hK.1.1 hK.1.2.1 hK.1.2.2.2.2.2.2.2.2.1 ha (fun t ht hw => hf.2 H locs t hR ht hw) hR.2.2.2 hd.1 hK.1.2.2.2.2.2.2.2.1)⟩
theorem j_lret {a : Int} (hK : Ok9 K cc own nL (some .long) fr lo) (hd : Dc cc pc .lreturn 1 pc1) (hf : En K (some (vl a)) d) : J K nL d lv pc [vl a] :=
  ⟨hf.1, fun H locs _ hR _ => hK.2.2.2 _ _ _ _ _ hf.1.2.1 hf.1.2.2 (W.lret hK.1.1 hK.1.2.1 hK.1.2.2.2.2.2.2.2.2.1 (fun t ht hw => hf.2 H locs t hR ht hw) hR.2.2.2 hd.1 hK.1.2.2.2.2.2.2.2.1)⟩
theorem j_vret (hK : Ok9 K cc own nL none fr lo) (hd : Dc cc pc .return_ 1 pc1) (hf : En K none d) : J K nL d lv pc [] :=
  ⟨hf.1, fun H locs _ hR _ => hK.2.2.2 _ _ _ _ _ hf.1.2.1 hf.1.2.2 (W.vret hK.1.1 hK.1.2.1 hK.1.2.2.2.2.2.2.2.2.1 (fun t ht hw => hf.2 H locs t hR ht hw) hR.2.2.2 hd.1 hK.1.2.2.2.2.2.2.2.1)⟩
theorem j_aret {i : Nat} (hK : Ok9 K cc own nL (some (.array .int)) fr lo) (hd : Dc cc pc .areturn 1 pc1) (hf : En K (some (rf K i)) d) : J K nL d lv pc [rf K i] :=
  ⟨hf.1, fun H locs _ hR _ => hK.2.2.2 _ _ _ _ _ hf.1.2.1 hf.1.2.2 (W.aret hK.1.1 hK.1.2.1 hK.1.2.2.2.2.2.2.2.2.1 (Or.inr ⟨_, rfl⟩) (Or.inr ⟨_, rfl⟩) (fun t ht hw => hf.2 H locs t hR ht hw) hR.2.2.2 hd.1 hK.1.2.2.2.2.2.2.2.1)⟩
end JE
section JC
variable {K : KT} {cc : ByteArray} {own : String} {nL fr lo pc pc1 tgt : Nat} {ret : Option FieldType} {d : DA} {lv lv' : List (Nat × Value)} {st : List Value} {Y : Type} {y : Y}
/-! calls -/
abbrev CtK (K : KT) (y : MethodName) (cy : ByteArray) (n' : Nat) (rt : Option FieldType) (fr lo : Nat) (d : DA) (av : List Value) (rv : Option Value) (d' : DA) : Prop := Ct (kG K) (kl K) y cy n' rt fr lo (ka K) (wD (kσ K) d) av rv (wD (kσ K) d')
theorem j_cV (hK : Ok9 K cc own nL ret fr lo) {idx : Nat} {y : MethodName} {C : String} {n' n fr' lo' i ci : Nat} {cy : ByteArray} {rt : Option FieldType} {av : List Value} {rv : Option Value} {d' : DA} {st0 st1 : List Value} (hM : CtK K y cy n' rt fr' lo' d (rf K i :: av) rv d')
    (hL : CL own idx y n) (hcw : Cond.code y cy n' rt ∈ allw) (hin : Cond.instanceMethod y ∈ allw) (hse : Cond.selects C y y ∈ allw) (hw : isC (kσ K) i ∧ kK (kσ K) i = ci) (hci : ci < 13) (hcl : (vwCl[ci]?).map (fun q => q.1) = some C) (hfr : fr' + 1 ≤ fr) (hlo : 8 + (n' + 11) + lo' ≤ lo) (hn : av.length = n) (hst : st0 = av.reverse ++ rf K i :: st) (hW : (st.map fun v => v.category).sum ≤ 8)
    (hd : Dc cc pc (.invokevirtual idx) 3 pc1) (hst1 : rv.toList ++ st = st1) (kk : J K nL d' lv pc1 st1) : J K nL d lv pc st0 :=
  ⟨kk.1, fun H locs ls hR hl => r_callV hK.1 hR hl.1 hM hL hcw hin hse hw.1 hw.2 hci hcl (Nat.le_trans hfr hK.2.1) (Nat.le_trans hlo hK.2.2.1) hn hst hW hd (fun H1 locs1 hR1 => kk.2 H1 locs1 ls hR1 hl) hst1 kk.1.1⟩
theorem j_cS (hK : Ok9 K cc own nL ret fr lo) {idx : Nat} {y : MethodName} {n' n fr' lo' : Nat} {cy : ByteArray} {rt : Option FieldType} {av : List Value} {rv : Option Value} {d' : DA} {st0 st1 : List Value} (hM : CtK K y cy n' rt fr' lo' d av rv d')
    (hL : CL own idx y n) (hcw : Cond.code y cy n' rt ∈ allw) (hin : Cond.static y ∈ allw) (hfr : fr' + 1 ≤ fr) (hlo : 8 + (n' + 11) + lo' ≤ lo) (hn : av.length = n) (hst : st0 = av.reverse ++ st) (hW : (st.map fun v => v.category).sum ≤ 8)
    (hd : Dc cc pc (.invokestatic idx) 3 pc1) (hst1 : rv.toList ++ st = st1) (kk : J K nL d' lv pc1 st1) : J K nL d lv pc st0 :=
  ⟨kk.1, fun H locs ls hR hl => r_callS hK.1 hR hl.1 hM hL hcw hin (Nat.le_trans hfr hK.2.1) (Nat.le_trans hlo hK.2.2.1) hn hst hW hd (fun H1 locs1 hR1 => kk.2 H1 locs1 ls hR1 hl) hst1 kk.1.1⟩
/-- a contract out of a walk -/
theorem ct_of {G : GT} {l : Launch} {y : MethodName} {cc : ByteArray} {n : Nat} {ret : Option FieldType} {fr lo : Nat} {ad : Nat → Nat} {σ : HS} {d d' : DA} {av : List Value} {rv : Option Value} (hst : l.stackTraces = false) (hpl : plainName y.cls = true) (hn : (lg_sl av).length ≤ n)
    (body : ∀ K : KT, kG K = G → kl K = l → kσ K = σ → ka K = ad → En K rv d' → Ok9 K cc y.cls n ret fr lo → J K n d (lv_args 0 av) 0 []) : Ct G l y cc n ret fr lo ad (wD σ d) av rv (wD σ d') :=
  Ct.ofW hst hpl hn (fun p e s m below meth c ls hC hR hl => (body ((G, l, p, e, rm9 fr lo, s, m, av.toArray, below, meth, c, QC G ad rv (wD σ d'), MQ below (QC G ad rv (wD σ d')) av.toArray s 0 0 (gA G), 0, 0), ad, σ, 0, 0) rfl rfl rfl rfl ⟨⟨⟨Nat.le_refl _, Nat.le_refl _⟩, Nat.le_refl _, Nat.le_refl _⟩, fun H locs t hR1 ht _ => Rh.end (args := av.toArray) hR1 ht⟩
    ⟨hC, Nat.le_refl _, Nat.le_refl _, (fun H locs c1 s1 g h1 h2 k => by
      have e1 : c1 = 0 := Nat.le_zero.mp h1
      have e2 : s1 = 0 := Nat.le_zero.mp h2
      subst e1; subst e2
      exact k)⟩).2 s.heap [] ls hR hl)
end JC

/-! ===== words that every method carries ===== -/
def nestW : Cond → Bool
  | .fieldLinkNest .. => true
  | .methodLinkNest .. => true
  | .declares _ => true
  | .castable _ _ => true
  | _ => false
def okW (w : Cond) : Bool := goodWord w || nestW w
def allw : List Cond := lw_tbl.filter okW
def Wd (U : State) : Prop := ∀ w ∈ allw, ∀ a : Array Value, w.before a U = true
theorem warmC {a b : String} {s U : State} (hW : s.WarmedH U.vm) (hZ : va_Nw (.castable a b) s) : va_Nw (.castable a b) U := va_tabs rfl (rfl : (s.setVm U.vm).vm = U.vm) (by rw [Cond.castable_setVm hW.alike]; exact hZ)
theorem okW_at {args a' : Array Value} {s U : State} {w : Cond} (hW : s.WarmedH U.vm) (hg : okW w = true) (h : w.before args s = true) : w.before a' U = true := by
  simp only [okW, Bool.or_eq_true] at hg
  rcases hg with hg | hg
  · exact word_at hW (good_of_word hg) h
  · cases w <;> first | exact va_Nw.use rfl (va_Nw.warmF hW (va_Nw.of rfl h)) | exact va_Nw.use rfl (va_Nw.warmM hW (va_Nw.of rfl h)) | exact va_Nw.use rfl (va_Nw.warmD hW (va_Nw.of rfl h)) | exact va_Nw.use rfl (warmC hW (va_Nw.of rfl h)) | (exact Bool.noConfusion hg)
theorem Wd.moved {s U : State} (h : Wd s) (hW : s.WarmedH U.vm) : Wd U := fun w hw _ => okW_at hW (List.mem_filter.mp hw).2 (h w hw #[])
theorem Wd.of {args : Array Value} {s : State} (h : ∀ w ∈ lw_tbl, w.before args s = true) : Wd s := fun w hw _ => okW_at (State.WarmedH.refl s) (List.mem_filter.mp hw).2 (h w (List.mem_filter.mp hw).1)
theorem am (i : Nat) {w : Cond} (h : tables_1[i]? = some w) (g : okW w = true) : w ∈ allw := List.mem_filter.mpr ⟨List.mem_append_right _ (List.mem_of_getElem? h), g⟩
theorem aps (i : Nat) {q : MethodName × Nat} (h : lw_privs[i]? = some q) (g : okW (Cond.selects q.1.cls q.1 q.1) = true) : Cond.selects q.1.cls q.1 q.1 ∈ allw := List.mem_filter.mpr ⟨List.mem_append_left _ (List.mem_map.mpr ⟨q, List.mem_of_getElem? h, rfl⟩), g⟩
/-! ===== the ghost: class numbers, slots, array classes, the heap's size at the law's start, the constants' addresses ===== -/
abbrev GT : Type := (Nat → ClassId) × (Nat → Nat → Nat) × ClassId × ClassId × Nat × (Nat → Nat) × (Nat → Nat) × Nat
abbrev gD (G : GT) : va_G := (G.1, G.2.1)
abbrev gI (G : GT) : ClassId := G.2.2.1
abbrev gJ (G : GT) : ClassId := G.2.2.2.1
abbrev gz (G : GT) : Nat := G.2.2.2.2.1
abbrev gS (G : GT) : Nat → Nat := G.2.2.2.2.2.1
abbrev gV (G : GT) : Nat → Nat := G.2.2.2.2.2.2.1
abbrev gR (G : GT) : Nat := G.2.2.2.2.2.2.2
def gA (G : GT) : Nat → Prop := fun q => gz G ≤ q
abbrev gT (G : GT) : List (ClassId × FieldType) := [(gI G, .int), (gJ G, .long)]
def Kx (G : GT) (U : State) : Prop := va_K (gD G) vwCl (gT G) U
def renT : List Int32 := [1, 2, 3, 1, 3, 2, 2, 1, 3, 2, 3, 1, 3, 1, 2, 3, 2, 1]
def strT : List (String × Nat × String) := [("FuseKinds", 102, "the tape has not so many bytes"), ("FuseKinds", 131, "no such table is made"), ("FuseKinds", 192, "nothing such is counted"), ("FuseKinds", 199, "no such kind"), ("FuseKinds", 222, "no such law"), ("FuseKinds", 234, "not so many times"), ("FuseKinds", 239, "no such list"), ("FuseKinds", 244, "no such table in the list"), ("FuseKinds", 253, "no prime from 2 to 31"), ("FuseKinds", 263, "no such character"), ("FuseKinds", 309, "nothing such is told"), ("FuseKinds", 311, "nothing such is checked"), ("FuseKinds", 326, "no such kind of a pentagon"), ("FuseKinds", 336, "no such number"), ("FuseKinds", 361, "no such turns"), ("FuseKinds", 366, "nothing such of a braid")]
def strL : List Nat := [4, 4]
def strB : List (List Int32) := [[114, 97, 110, 107], [110, 111, 110, 101]]
/-- what of the JDK's and the classes' own constants a run rests on -/
def Sf (G : GT) (U : State) : Prop :=
  vx_Zq Bundle.tN "UNASSIGNED_STACK" Bundle.steD (gA G) U U.heap ∧ vx_Zq Bundle.tN "SUPPRESSED_SENTINEL" Bundle.listD (gA G) U U.heap ∧
  (∀ q ∈ strT, ∃ a, vk_R q.1 q.2.1 q.2.2 a U) ∧
  (vk_R "FuseKinds$Reader" 73 "rank" (gS G 0) U ∧ vk_R "FuseKinds$Reader" 79 "none" (gS G 1) U ∧ vk_R "FuseKindsModel" 274 "rank" (gS G 0) U ∧ vk_R "FuseKindsModel" 265 "none" (gS G 1) U) ∧
  vk_S 2 strL strB (gS G) (gV G) (gA G) U U.heap ∧
  va_Z "java/lang/String" "COMPACT_STRINGS" "Z" (.int 1) (gA G) U U.heap ∧
  va_Z "FuseKinds$Lister" "RENAMINGS" "[I" (.ref (gR G)) (gA G) U U.heap ∧
  va_T .int (gR G) 18 (fun j => .int (renT.getD j 0)) (gA G) U U.heap ∧
  vx_Zq "jdk/internal/util/Preconditions" "SIOOBE_FORMATTER" "Ljava/util/function/BiFunction;" (gA G) U U.heap
theorem Sf.moved {G : GT} {s U : State} {locs : List Loc} (h : Sf G s) (hW : s.WarmedH U.vm) (hS : va_S (gA G) s.heap U.heap locs) : Sf G U := by
  obtain ⟨h1, h2, h3, ⟨h4, h5, h6, h7⟩, h8, h9, h10, h11, h12⟩ := h
  exact ⟨vx_Zq.moved hW.alike (h1.kept hS.2.1), vx_Zq.moved hW.alike (h2.kept hS.2.1), fun q hq => (h3 q hq).imp fun _ z => vk_R.warm hW z, ⟨vk_R.warm hW h4, vk_R.warm hW h5, vk_R.warm hW h6, vk_R.warm hW h7⟩, vk_S.moved hW.alike (h8.kept hS.2.1), va_Z.moved hW.alike (h9.kept hS.2.1), va_Z.moved hW.alike (h10.kept hS.2.1), va_T.moved hW.alike (h11.kept hS.2.1), vx_Zq.moved hW.alike (h12.kept hS.2.1)⟩
/-! ===== the pure state: how many cells; the kind of each; sizes; references; ints; longs; what was made ===== -/
abbrev HS : Type := Nat × (Nat → Nat) × (Nat → Nat) × (Nat → Nat → Nat) × (Nat → Nat → Int) × (Nat → Nat → Int) × Nat × Nat
def nN (σ : HS) : Nat := σ.1
def kK (σ : HS) : Nat → Nat := σ.2.1
def zZ (σ : HS) : Nat → Nat := σ.2.2.1
def pP (σ : HS) : Nat → Nat → Nat := σ.2.2.2.1
def iI (σ : HS) : Nat → Nat → Int := σ.2.2.2.2.1
def lL (σ : HS) : Nat → Nat → Int := σ.2.2.2.2.2.1
def cC (σ : HS) : Nat := σ.2.2.2.2.2.2.1
def sS (σ : HS) : Nat := σ.2.2.2.2.2.2.2
/-- one place of a row -/
def fu {α : Type} (f : Nat → α) (k : Nat) (v : α) : Nat → α := fun j => if j = k then v else f j
/-- a whole row of ints, of longs; one place -/
def sA (σ : HS) (c : Nat) (f : Nat → Int) : HS := (σ.1, σ.2.1, σ.2.2.1, σ.2.2.2.1, fu σ.2.2.2.2.1 c f, σ.2.2.2.2.2)
def sB (σ : HS) (c : Nat) (f : Nat → Int) : HS := (σ.1, σ.2.1, σ.2.2.1, σ.2.2.2.1, σ.2.2.2.2.1, fu σ.2.2.2.2.2.1 c f, σ.2.2.2.2.2.2)
def stI (σ : HS) (c k : Nat) (v : Int) : HS := sA σ c (fu (iI σ c) k v)
def stL (σ : HS) (c k : Nat) (v : Int) : HS := sB σ c (fu (lL σ c) k v)
def stP (σ : HS) (c k : Nat) (v : Nat) : HS := (σ.1, σ.2.1, σ.2.2.1, fu σ.2.2.2.1 c (fu (σ.2.2.2.1 c) k v), σ.2.2.2.2)
/-- a new cell of the kind, the size, the slots that it costs -/
def mk9 (σ : HS) (kind size cost : Nat) : HS := (σ.1 + 1, fu σ.2.1 (σ.1 + 1) kind, fu σ.2.2.1 (σ.1 + 1) size, fu σ.2.2.2.1 (σ.1 + 1) (fun _ => 0), fu σ.2.2.2.2.1 (σ.1 + 1) (fun _ => 0), fu σ.2.2.2.2.2.1 (σ.1 + 1) (fun _ => 0), σ.2.2.2.2.2.2.1 + 1, σ.2.2.2.2.2.2.2 + cost)
/-! words of the pure programs -/
abbrev inR (a : Int) : Prop := -2147483648 ≤ a ∧ a ≤ 2147483647
abbrev inR64 (a : Int) : Prop := -9223372036854775808 ≤ a ∧ a ≤ 9223372036854775807
def gd {α : Type} (c : Prop) [Decidable c] (k : Option α) : Option α := if c then k else none
abbrev DA : Type := (Nat → Nat → Int) × (Nat → Nat → Int)
def dA (σ : HS) : DA := (σ.2.2.2.2.1, σ.2.2.2.2.2.1)
def wD (σ : HS) (d : DA) : HS := (σ.1, σ.2.1, σ.2.2.1, σ.2.2.2.1, d.1, d.2, σ.2.2.2.2.2.2)
def bd {α β δ : Type} (o : Option (α × δ)) (k : α → δ → Option β) : Option β := match o with | some (a, σ) => k a σ | none => none
def el9 {α β γ : Type} (v : α ⊕ β) (f : α → Option γ) (g : β → Option γ) : Option γ := match v with | .inl a => f a | .inr b => g b
def lt9 {α β : Type} (a : α) (k : α → Option β) : Option β := k a
theorem gd_some {α : Type} {c : Prop} [Decidable c] {k : Option α} {x : α} (h : gd c k = some x) : c ∧ k = some x := by
  unfold gd at h
  split at h
  · next hc => exact ⟨hc, h⟩
  · cases h
theorem bd_some {α β δ : Type} {o : Option (α × δ)} {k : α → δ → Option β} {x : β} (h : bd o k = some x) : ∃ a σ, o = some (a, σ) ∧ k a σ = some x := by
  unfold bd at h
  split at h
  · next a σ => exact ⟨a, σ, rfl, h⟩
  · cases h
theorem ite_some {α : Type} {c : Prop} [Decidable c] {a b : Option α} {x : α} (h : (if c then a else b) = some x) : (c → a = some x) ∧ (¬ c → b = some x) := ⟨fun hc => by rwa [if_pos hc] at h, fun hc => by rwa [if_neg hc] at h⟩
def iand9 (a b : Int) : Int := (Int32.ofInt a &&& Int32.ofInt b).toInt
def ior9 (a b : Int) : Int := (Int32.ofInt a ||| Int32.ofInt b).toInt
def ishl9 (a b : Int) : Int := (Int32.ofInt a <<< (Int32.ofInt b &&& 31)).toInt
def ishr9 (a b : Int) : Int := (Int32.ofInt a >>> (Int32.ofInt b &&& 31)).toInt
def iushr9 (a b : Int) : Int := ((Int32.ofInt a).toUInt32 >>> ((Int32.ofInt b).toUInt32 &&& Int32.toUInt32 31)).toInt32.toInt
def lcmp9 (a b : Int) : Int := if b < a then 1 else if a = b then 0 else -1
def FUEL : Nat := 4000000
/-! ===== values ===== -/
abbrev vi (a : Int) : Value := .int (Int32.ofInt a)
abbrev vl (a : Int) : Value := .long (Int64.ofInt a)
abbrev vr (ad : Nat → Nat) (i : Nat) : Value := .ref (ad i)
def rf9 (ad : Nat → Nat) (q : Nat) : Value := if q = 0 then .null else .ref (ad q)
/-! ===== the classes' fields: which are references ===== -/
def fRt : List (List Bool) := [[true, false, false, true, true, true, true, true, true, true, true, true, true], [false, false, true, true, true, true, true, true], [false, false, false, false, true, true, true, true, false, true, true, true], [false, true, true], [true, false, false, false, false, false, false, false, false, false, true, false, false, false], [false, false, false, true, true, true, true, true, true, true, false, true, true], [true, true, true, true, false, false, false, false], [true, true, true, false, false], [false, true, true, true, true, true], [true, true, true, true, true, true, false, false], [true, true, false, true, true, true, false, false, false, true, true, true, true, true, true, true, true, true], [true, true, false, true, false, true, true, false, false, true, true, true, true, true, true, true, true], [false, false, false, false, false, true, true, true, true, true, true, true, true, false, true, true, true, true, false, false, true, false, false, false, false, false, false, false, false, false, false, true, true, false, false, false, false, true, true, true, true, true, true, false, true, false, false, false, true, true, false, false, false, true, true, true, true, true, false, false, true, true, true, true, true, false, false, false, true, true, true, true, true, true, false, true, false, false, false, false, true, true, true, true, true, true]]
def fR (ci k : Nat) : Bool := (fRt.getD ci []).getD k false
def fN (ci : Nat) : Nat := (fRt.getD ci []).length

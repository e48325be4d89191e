def R_law : String := "FuseKindsLaw"
def lw_P (b : Addr) (xs : List Int32) (args : Array Value) (s : State) : Prop := args = #[.ref b] ∧ s.IntsAt b xs ∧ xs.length ≤ 4096 ∧ (Jvm.Cond.and given_1 narrow_1).before args s = true
def lw_Q (_ : Array Value) (s : State) (o : Outcome) (t : State) : Prop := o = .returned (some (.int 1)) ∧ Framed s o t [] 601024 7293033
def lw_Z (below : List Frame) (a : Array Value) (s : State) : State → Prop := fun t => ∃ o, t.status = .running ∧ Ended t below o ∧ lw_Q a s o t
/-- the law's own end, with 1 on the stack, nothing written that was there before, its room as the claim has it -/
theorem lw_ret {p : Program} {l : Launch} {e : Env} {s : State} {m : MethodId} {below : List Frame} {meth : Method} {c : Code} {b : Nat} (hx : p.tables.exec = Jvm.exec) (hb : c.code = code) (hr : meth.sig.returnType = ret) (hlocks : meth.locks = false) {pc : Nat} {H : Heap} {ls : Array Slot} (hdg : decode code pc = .ok (.ireturn, 1)) : W p l e room_1 s m #[Value.ref b] below meth c H [] 601024 7293033 (lw_Z below #[Value.ref b] s) (F0 m pc ls [.int 1]) := by
  intro T hT X
  obtain ⟨fs, hret, hrun, hended, hW, hframe⟩ := X.leave (v := some (.int 1)) (hlocks := hlocks) (fun h => by rw [hr] at h; cases h)
  have hmeth' : T.vm.method? m = some meth := X.method'
  refine ⟨T.setFrames fs, ?_, .returned (some (.int 1)), hrun, hended, rfl, ⟨_, rfl⟩, hW, hframe⟩
  jvm_step X.here [X.here.top, hx, hb, hdg, hmeth', hr, ret, narrow_b1]
  (try refine ⟨rfl, ?_⟩); (try refine ⟨rfl, ?_⟩)
  first | (intro acts; rw [hret _ acts rfl rfl rfl]) | rw [hret _ _ rfl rfl rfl]
  exact Steps.refl _
/-- what holds at the law's entry: the machine, the code, the tables' words (any of lw_tbl by 'hts w (by decide +kernel)'), the script of L ints xs at the cell b, what the Statement gives of the start (any of its parts by flat_of_before) -/
def lw_At (p : Program) (s : State) (m : MethodId) (meth : Method) (c : Code) (b L : Nat) (xs : Nat → Int32) : Prop :=
  p.tables.exec = Jvm.exec ∧ c.code = code ∧ meth.sig.returnType = ret ∧ c.maxLocals = 7 ∧ s.vm.findClass R_law = some m.cls ∧ (∀ w ∈ lw_tbl, w.before #[Value.ref b] s = true) ∧ va_X b L xs s s.heap ∧ b < s.heap.size ∧ meth.locks = false ∧ (Jvm.Cond.and given_1 narrow_1).before #[Value.ref b] s = true
/-! ===== the law's loop ===== -/
def scI (xs : Nat → Int32) (j : Int) : Int := (xs j.toNat).toInt
def ScB (B : BT) (b L : Nat) (xs : Nat → Int32) : Prop := va_X b L xs B.2.2.2.2.2.1 B.2.2.2.2.2.1.heap ∧ b < B.2.2.2.2.2.1.heap.size ∧ ¬ gA B.1 b ∧ L ≤ 4096
def LwB (B : BT) (b : Nat) : Prop := B.2.2.2.2.1 = room_1 ∧ B.2.2.2.2.2.2.2.1 = #[Value.ref b] ∧ B.2.2.2.2.2.2.2.2.2.2.2.2.1 = lw_Z B.2.2.2.2.2.2.2.2.1 #[Value.ref b] B.2.2.2.2.2.1 ∧ B.2.2.2.2.2.2.2.2.2.2.2.2.2.1 = 601024 ∧ B.2.2.2.2.2.2.2.2.2.2.2.2.2.2 = 7293033 ∧ (∀ q, gA B.1 q → B.2.2.2.2.2.1.heap.size ≤ q)
def FW (y : Int × XS) : Prop := y.1 = 1 ∧ xc y.2 ≤ 601024 ∧ xs y.2 ≤ 7293033
theorem hc0 {x : XS} : HC 0 0 x := ⟨Nat.zero_le _, Nat.zero_le _⟩
section LW
variable {B : BT} {ad ad0 : Nat → Nat} {x x1 : XS} {own : String} {nL fr lo pc pc1 tgt b L : Nat} {xs9 : Nat → Int32} {cc : ByteArray} {ret9 : Option FieldType} {lv lv' : List (Nat × Value)} {st : List Value} {Y : Type} {y : Y}
theorem j_scl (hK : Ok9 (KX B 0 0 ad x) cc own nL ret9 fr lo) (hS : ScB B b L xs9) (hd : Dc cc pc .arraylength 1 pc1) (k : J (KX B 0 0 ad x) nL x.1 lv pc1 (vi (L : Int) :: st)) : J (KX B 0 0 ad x) nL x.1 lv pc (.ref b :: st) :=
  ⟨k.1, fun H locs ls hR hl => by
    obtain ⟨hd, rfl⟩ := hd
    refine va_slen hK.1.1 hK.1.2.1 hS.1 hS.2.1 hS.2.2.1 hR.2 hd ?_
    have e : Int32.ofNat L = Int32.ofInt (L : Int) := by simp [Int32.ofInt_eq_ofNat]
    rw [e]
    exact k.2 H locs ls hR hl⟩
theorem j_sci (hK : Ok9 (KX B 0 0 ad x) cc own nL ret9 fr lo) (hS : ScB B b L xs9) {j : Int} {k : Option Y} (hd : Dc cc pc .iaload 1 pc1) (h : gd (ix j L) k = some y) (f : k = some y → J (KX B 0 0 ad x) nL x.1 lv pc1 (vi (scI xs9 j) :: st)) : J (KX B 0 0 ad x) nL x.1 lv pc (vi j :: .ref b :: st) :=
  ⟨(f (gd_some h).2).1, fun H locs ls hR hl => by
    obtain ⟨hd, rfl⟩ := hd
    obtain ⟨hj, h⟩ := gd_some h
    obtain ⟨h1, h2⟩ := oi_clamp (n := L) hj (by have := hS.2.2.2; omega)
    refine va_sld hK.1.1 hK.1.2.1 hS.1 hS.2.1 hS.2.2.1 hR.2 h2 hd ?_
    rw [h1]
    have e : xs9 j.toNat = Int32.ofInt (scI xs9 j) := (oi_of _).symm
    rw [e]
    exact (f h).2 H locs ls hR hl⟩
theorem j_lwr (hK : Ok9 (KX B 0 0 ad x) code own 7 ret fr lo) (hL : LwB B b) {a : Int} (hd : Dc code pc .ireturn 1 pc1) (hk : FW (a, x)) : J (KX B 0 0 ad x) 7 x.1 lv pc [vi a] := by
  obtain ⟨e1, e2, e3, e4, e5, e6⟩ := hL
  obtain ⟨h1, h2, h3⟩ := hk
  have h1' : a = 1 := h1
  have h2' : xc x ≤ 601024 := h2
  have h3' : xs x ≤ 7293033 := h3
  have c1 : B.2.2.2.2.1.cells = 601024 := by rw [e1]; rfl
  have c2 : B.2.2.2.2.1.slots = 7293033 := by rw [e1]; rfl
  subst h1'
  refine ⟨⟨⟨?_, ?_⟩, ?_, ?_⟩, fun H locs ls hR hl => ?_⟩
  · show xc x - 0 ≤ B.2.2.2.2.1.cells; rw [c1]; exact h2'
  · show xs x - 0 ≤ B.2.2.2.2.1.slots; rw [c2]; exact h3'
  · show xc x - 0 ≤ B.2.2.2.2.2.2.2.2.2.2.2.2.2.1; rw [e4]; exact h2'
  · show xs x - 0 ≤ B.2.2.2.2.2.2.2.2.2.2.2.2.2.2; rw [e5]; exact h3'
  · show W B.2.2.1 B.2.1 B.2.2.2.1 B.2.2.2.2.1 B.2.2.2.2.2.1 B.2.2.2.2.2.2.1 B.2.2.2.2.2.2.2.1 B.2.2.2.2.2.2.2.2.1 B.2.2.2.2.2.2.2.2.2.1 B.2.2.2.2.2.2.2.2.2.2.1 H locs (xc x - 0) (xs x - 0) B.2.2.2.2.2.2.2.2.2.2.2.2.1 (F0 B.2.2.2.2.2.2.1 pc ls [vi 1])
    rw [e1, e2, e3]
    refine va_forget (fun q hq => e6 _ (hR.2.2.2 q hq)) (W.widen (k := 601024) (n := 7293033) h2' h3' ?_)
    exact lw_ret hK.1.1 hK.1.2.1 hK.1.2.2.2.2.2.2.2.2.1 hK.1.2.2.2.2.2.2.2.1 hd.1
/-- a helper's call -/
def CW (idx : Nat) (y : MethodName) (n : Nat) : Prop := (Cond.methodLink RL idx y ∈ allw) ∧ (Cond.initialized y.cls ∈ allw) ∧ (Cond.static y ∈ allw) ∧ (y.cls ≠ "java/lang/invoke/MethodHandle" ∧ y.cls ≠ "java/lang/invoke/VarHandle" ∧ (parseMethodDescriptor y.desc).map (fun d => d.parameters.length) = some n)
theorem l_run (hK : Ok9 (KX B 0 0 ad x) cc RL nL ret9 fr lo) {idx : Nat} {y : MethodName} {n' n fr' lo' g' : Nat} {cy : ByteArray} {hh : List (Nat × Nat × Nat × Nat)} {av : List Value} {r : Int} {st0 : List Value} (hM : LCt B.1 B.2.1 y cy n' hh fr' lo' g' ad x av r x1) (hL : CW idx y n) (hcw : Cond.codeWith y cy n' (some .int) hh ∈ allw) (hfr : fr' + 1 ≤ fr) (hlo : 8 + (n' + 11) + lo' ≤ lo) (hn : av.length = n) (hst : st0 = av.reverse ++ st) (hW : (st.map fun v => v.category).sum ≤ 8)
    (hd : decode cc pc = .ok (.invokestatic idx, 3)) (hm : xc x ≤ xc x1 ∧ xs x ≤ xs x1) {ad' : Nat → Nat} (hB : Bd (KX B 0 0 ad' x1)) (H : Heap) (locs : List Loc) (ls : Array Slot) (hR : Rh B.1 B.2.2.2.2.2.1 ad (sg x) H locs) (hl : lv_has ls nL lv) :
    va_Run (kp (KX B 0 0 ad x)) (kl (KX B 0 0 ad x)) (ke (KX B 0 0 ad x)) (kR (KX B 0 0 ad x)) (ks (KX B 0 0 ad x)) (km (KX B 0 0 ad x)) (kav (KX B 0 0 ad x)) (kb (KX B 0 0 ad x)) (kme (KX B 0 0 ad x)) (kc (KX B 0 0 ad x)) H locs (xc x - 0) (xs x - 0) (xc x1 - xc x) (xs x1 - xs x) (F0 (km (KX B 0 0 ad x)) pc ls st0) st (QX B.1 g' ad (some (vi r)) x1 av.toArray) (gA B.1) := by
  refine vx_runSW (As := av) (rest := st) (hh := hh) (ws := [.codeWith y cy n' (some .int) hh]) ⟨hK.1.1, hK.1.2.1, hK.1.2.2.1, hK.1.2.2.2.1, fun w hw => hK.1.2.2.2.2.1 w hw _⟩ hM ⟨⟨rfl, rfl, Nat.le_trans hfr hK.2.1, Nat.le_trans hlo hK.2.2.1, fun w hw a' U hWm => ?_, List.mem_cons_self⟩, hK.1.2.2.2.2.1 _ hcw _, hK.1.2.2.2.2.1 _ hL.2.1 _, ⟨hL.2.2.2.1, hL.2.2.2.2.1⟩, fun sig h => ?_, hK.1.2.2.2.2.1 _ hL.1 _, hK.1.2.2.2.2.1 _ hL.2.2.1 _⟩ ⟨pc_blind, fun U hU hW => pc_pre hK.1 hR U hU hW⟩ rfl hn hl.1 hst (lv_room hW) hd ?_
  · have e := List.mem_singleton.mp hw
    subst e
    exact okW_at hWm (List.mem_filter.mp hcw).2 (hK.1.2.2.2.2.1 _ hcw a')
  · have h2 := hL.2.2.2.2.2
    rw [h] at h2
    exact (Option.some.inj h2).symm
  · obtain ⟨⟨h1, h2⟩, -⟩ := hB
    have h1' : xc x1 - 0 ≤ (kR (KX B 0 0 ad x)).cells := h1
    have h2' : xs x1 - 0 ≤ (kR (KX B 0 0 ad x)).slots := h2
    obtain ⟨h5, h6⟩ := hm
    constructor <;> omega
theorem j_lS {g' : Nat} (hK : Ok9 (KX B 0 0 ad x) cc RL nL ret9 fr lo) {idx : Nat} {y : MethodName} {n' n fr' lo' : Nat} {cy : ByteArray} {hh : List (Nat × Nat × Nat × Nat)} {av : List Value} {r : Int} {st0 : List Value} (hM : LCt B.1 B.2.1 y cy n' hh fr' lo' g' ad x av r x1) (hL : CW idx y n) (hcw : Cond.codeWith y cy n' (some .int) hh ∈ allw) (hfr : fr' + 1 ≤ fr) (hlo : 8 + (n' + 11) + lo' ≤ lo) (hn : av.length = n) (hst : st0 = av.reverse ++ st) (hW : (st.map fun v => v.category).sum ≤ 8)
    (hd : Dc cc pc (.invokestatic idx) 3 pc1) (hm : xc x ≤ xc x1 ∧ xs x ≤ xs x1) (kk : ∀ p, J (KX B 0 0 (if g' = 0 then ad else fu ad g' p) x1) nL x1.1 lv pc1 (vi r :: st)) : J (KX B 0 0 ad x) nL x.1 lv pc st0 :=
  ⟨bd_dn (kk 0).1 hm, fun H locs ls hR hl => by
    obtain ⟨hd, rfl⟩ := hd
    have hr := l_run hK hM hL hcw hfr hlo hn hst hW hd hm (kk 0).1 H locs ls hR hl
    intro T hT X
    obtain ⟨v, st₀, t, T', Lc, h0, X', hLc, e1, e2, ⟨hv, ⟨ad', hA, hRp⟩, hF⟩, stp⟩ := hr T hT X
    cases hv
    obtain ⟨hz, hk⟩ := hF
    rw [h0] at hz hk
    have hS : va_S (gA B.1) B.2.2.2.2.2.1.heap T'.heap (locs ++ Lc) := ⟨Nat.le_trans hR.2.1 (by rw [e1]; exact hz), fun q h1 h2 => by rw [e1, hk q (Nat.lt_of_lt_of_le h1 hR.2.1) h2]; exact hR.2.2.1 q h1 h2, fun q hq => by
      rcases List.mem_append.mp hq with h | h
      · exact hR.2.2.2 q h
      · exact hLc q h⟩
    have ea : ad' = if g' = 0 then ad else fu ad g' (ad' g') := by
      by_cases hg : g' = 0
      · subst hg; rw [if_pos rfl]; exact hA.zero
      · rw [if_neg hg]; exact hA.one hg
    have hR1 : Rh B.1 B.2.2.2.2.2.1 (if g' = 0 then ad else fu ad g' (ad' g')) (sg x1) T'.heap (locs ++ Lc) := by
      rw [← ea]
      exact ⟨by rw [e1]; exact hRp, hS⟩
    have X2 := X'
    rw [cell_eq (Nat.zero_le _) hm.1, cell_eq (Nat.zero_le _) hm.2] at X2
    obtain ⟨t2, a1, b1⟩ := (kk (ad' g')).2 T'.heap (locs ++ Lc) ls hR1 hl T' rfl X2
    exact ⟨t2, stp t2 a1, b1⟩⟩
end LW
theorem cw_L_table : Cond.codeWith yL_table cL_table 4 (some .int) [(0, 9, 12, 13)] ∈ allw := am3 239 rfl rfl
theorem cw_L_make : Cond.codeWith yL_make cL_make 6 (some .int) [(0, 12, 15, 13)] ∈ allw := am4 198 rfl rfl
theorem cw_L_count : Cond.codeWith yL_count cL_count 4 (some .int) [(0, 9, 12, 22)] ∈ allw := am4 228 rfl rfl
theorem cw_L_fuses : Cond.codeWith yL_fuses cL_fuses 6 (some .int) [(0, 12, 15, 22)] ∈ allw := am5 16 rfl rfl
theorem cw_L_law : Cond.codeWith yL_law cL_law 4 (some .int) [(0, 9, 12, 22)] ∈ allw := am5 33 rfl rfl
theorem cw_L_dual : Cond.codeWith yL_dual cL_dual 4 (some .int) [(0, 9, 12, 22)] ∈ allw := am5 66 rfl rfl
theorem cw_L_size : Cond.codeWith yL_size cL_size 4 (some .int) [(0, 9, 12, 22)] ∈ allw := am5 77 rfl rfl
theorem cw_L_ways : Cond.codeWith yL_ways cL_ways 6 (some .int) [(0, 12, 15, 22)] ∈ allw := am5 104 rfl rfl
theorem cw_L_list : Cond.codeWith yL_list cL_list 5 (some .int) [(0, 10, 13, 13)] ∈ allw := am5 117 rfl rfl
theorem cw_L_take : Cond.codeWith yL_take cL_take 4 (some .int) [(0, 9, 12, 22)] ∈ allw := am5 197 rfl rfl
theorem cw_L_field : Cond.codeWith yL_field cL_field 3 (some .int) [(0, 5, 8, 13)] ∈ allw := am5 211 rfl rfl
theorem cw_L_character : Cond.codeWith yL_character cL_character 5 (some .int) [(0, 10, 13, 22)] ∈ allw := am5 222 rfl rfl
theorem cw_L_tell : Cond.codeWith yL_tell cL_tell 10 (some .int) [(0, 27, 30, 22)] ∈ allw := am6 32 rfl rfl
theorem cw_L_swap : Cond.codeWith yL_swap cL_swap 7 (some .int) [(0, 21, 24, 22)] ∈ allw := am6 50 rfl rfl
theorem cw_L_twist : Cond.codeWith yL_twist cL_twist 5 (some .int) [(0, 17, 20, 22)] ∈ allw := am6 58 rfl rfl
theorem cw_L_told : Cond.codeWith yL_told cL_told 10 (some .int) [(0, 20, 23, 22)] ∈ allw := am6 65 rfl rfl
theorem cw_L_check : Cond.codeWith yL_check cL_check 4 (some .int) [(0, 9, 12, 22)] ∈ allw := am6 73 rfl rfl
theorem cw_L_broken : Cond.codeWith yL_broken cL_broken 4 (some .int) [(0, 9, 12, 22)] ∈ allw := am6 118 rfl rfl
theorem cw_L_solve : Cond.codeWith yL_solve cL_solve 4 (some .int) [(0, 9, 12, 22)] ∈ allw := am6 126 rfl rfl
theorem cw_L_s : Cond.codeWith yL_s cL_s 6 (some .int) [(0, 12, 15, 22)] ∈ allw := am6 182 rfl rfl
theorem cw_L_holds : Cond.codeWith yL_holds cL_holds 4 (some .int) [(0, 9, 12, 22)] ∈ allw := am6 200 rfl rfl
theorem cw_L_turned : Cond.codeWith yL_turned cL_turned 6 (some .int) [(0, 12, 15, 22)] ∈ allw := am6 232 rfl rfl
theorem cw_L_braid : Cond.codeWith yL_braid cL_braid 6 (some .int) [(0, 12, 15, 22)] ∈ allw := am7 34 rfl rfl
theorem cwl_99 : CW 99 yL_table 3 := ⟨am3 237 (by decide +kernel) rfl, am1 0 (by decide +kernel) rfl, am3 238 (by decide +kernel) rfl, by decide +kernel⟩
theorem cwl_113 : CW 113 yL_make 5 := ⟨am4 196 (by decide +kernel) rfl, am1 0 (by decide +kernel) rfl, am4 197 (by decide +kernel) rfl, by decide +kernel⟩
theorem cwl_125 : CW 125 yL_count 3 := ⟨am4 226 (by decide +kernel) rfl, am1 0 (by decide +kernel) rfl, am4 227 (by decide +kernel) rfl, by decide +kernel⟩
theorem cwl_128 : CW 128 yL_fuses 5 := ⟨am5 14 (by decide +kernel) rfl, am1 0 (by decide +kernel) rfl, am5 15 (by decide +kernel) rfl, by decide +kernel⟩
theorem cwl_131 : CW 131 yL_law 3 := ⟨am5 31 (by decide +kernel) rfl, am1 0 (by decide +kernel) rfl, am5 32 (by decide +kernel) rfl, by decide +kernel⟩
theorem cwl_134 : CW 134 yL_dual 3 := ⟨am5 64 (by decide +kernel) rfl, am1 0 (by decide +kernel) rfl, am5 65 (by decide +kernel) rfl, by decide +kernel⟩
theorem cwl_137 : CW 137 yL_size 3 := ⟨am5 75 (by decide +kernel) rfl, am1 0 (by decide +kernel) rfl, am5 76 (by decide +kernel) rfl, by decide +kernel⟩
theorem cwl_140 : CW 140 yL_ways 5 := ⟨am5 102 (by decide +kernel) rfl, am1 0 (by decide +kernel) rfl, am5 103 (by decide +kernel) rfl, by decide +kernel⟩
theorem cwl_143 : CW 143 yL_list 4 := ⟨am5 115 (by decide +kernel) rfl, am1 0 (by decide +kernel) rfl, am5 116 (by decide +kernel) rfl, by decide +kernel⟩
theorem cwl_147 : CW 147 yL_take 3 := ⟨am5 195 (by decide +kernel) rfl, am1 0 (by decide +kernel) rfl, am5 196 (by decide +kernel) rfl, by decide +kernel⟩
theorem cwl_150 : CW 150 yL_field 2 := ⟨am5 209 (by decide +kernel) rfl, am1 0 (by decide +kernel) rfl, am5 210 (by decide +kernel) rfl, by decide +kernel⟩
theorem cwl_154 : CW 154 yL_character 4 := ⟨am5 220 (by decide +kernel) rfl, am1 0 (by decide +kernel) rfl, am5 221 (by decide +kernel) rfl, by decide +kernel⟩
theorem cwl_157 : CW 157 yL_tell 9 := ⟨am6 30 (by decide +kernel) rfl, am1 0 (by decide +kernel) rfl, am6 31 (by decide +kernel) rfl, by decide +kernel⟩
theorem cwl_161 : CW 161 yL_swap 6 := ⟨am6 48 (by decide +kernel) rfl, am1 0 (by decide +kernel) rfl, am6 49 (by decide +kernel) rfl, by decide +kernel⟩
theorem cwl_165 : CW 165 yL_twist 4 := ⟨am6 56 (by decide +kernel) rfl, am1 0 (by decide +kernel) rfl, am6 57 (by decide +kernel) rfl, by decide +kernel⟩
theorem cwl_168 : CW 168 yL_told 9 := ⟨am6 63 (by decide +kernel) rfl, am1 0 (by decide +kernel) rfl, am6 64 (by decide +kernel) rfl, by decide +kernel⟩
theorem cwl_171 : CW 171 yL_check 3 := ⟨am6 71 (by decide +kernel) rfl, am1 0 (by decide +kernel) rfl, am6 72 (by decide +kernel) rfl, by decide +kernel⟩
theorem cwl_174 : CW 174 yL_broken 3 := ⟨am6 116 (by decide +kernel) rfl, am1 0 (by decide +kernel) rfl, am6 117 (by decide +kernel) rfl, by decide +kernel⟩
theorem cwl_177 : CW 177 yL_solve 3 := ⟨am6 124 (by decide +kernel) rfl, am1 0 (by decide +kernel) rfl, am6 125 (by decide +kernel) rfl, by decide +kernel⟩
theorem cwl_180 : CW 180 yL_s 5 := ⟨am6 180 (by decide +kernel) rfl, am1 0 (by decide +kernel) rfl, am6 181 (by decide +kernel) rfl, by decide +kernel⟩
theorem cwl_183 : CW 183 yL_holds 3 := ⟨am6 198 (by decide +kernel) rfl, am1 0 (by decide +kernel) rfl, am6 199 (by decide +kernel) rfl, by decide +kernel⟩
theorem cwl_186 : CW 186 yL_turned 5 := ⟨am6 230 (by decide +kernel) rfl, am1 0 (by decide +kernel) rfl, am6 231 (by decide +kernel) rfl, by decide +kernel⟩
theorem cwl_193 : CW 193 yL_braid 5 := ⟨am7 32 (by decide +kernel) rfl, am1 0 (by decide +kernel) rfl, am7 33 (by decide +kernel) rfl, by decide +kernel⟩

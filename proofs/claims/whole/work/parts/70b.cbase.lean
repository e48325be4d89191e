/-! ===== constructors: Object's own, contracts, calls ===== -/
theorem ob_in : Cond.instanceMethod Lib.objectInit ∈ allw := am1 32 (by decide +kernel) rfl
theorem ob_cd : Cond.code Lib.objectInit ⟨#[0xb1]⟩ 1 none ∈ allw := am1 33 (by decide +kernel) rfl
theorem ob11_1 : Cond.methodLink RX11 1 Lib.objectInit ∈ allw := am1 31 (by decide +kernel) rfl
theorem ob0_3 : Cond.methodLink RX0 3 Lib.objectInit ∈ allw := am3 17 (by decide +kernel) rfl
theorem ob1_3 : Cond.methodLink RX1 3 Lib.objectInit ∈ allw := am2 104 (by decide +kernel) rfl
theorem ob2_3 : Cond.methodLink RX2 3 Lib.objectInit ∈ allw := am2 3 (by decide +kernel) rfl
theorem ob3_1 : Cond.methodLink RX3 1 Lib.objectInit ∈ allw := am2 74 (by decide +kernel) rfl
theorem ob4_3 : Cond.methodLink RX4 3 Lib.objectInit ∈ allw := am1 193 (by decide +kernel) rfl
theorem ob5_3 : Cond.methodLink RX5 3 Lib.objectInit ∈ allw := am2 205 (by decide +kernel) rfl
theorem ob6_3 : Cond.methodLink RX6 3 Lib.objectInit ∈ allw := am1 39 (by decide +kernel) rfl
theorem ob7_1 : Cond.methodLink RX7 1 Lib.objectInit ∈ allw := am2 47 (by decide +kernel) rfl
theorem ob8_3 : Cond.methodLink RX8 3 Lib.objectInit ∈ allw := am1 51 (by decide +kernel) rfl
theorem ob9_3 : Cond.methodLink RX9 3 Lib.objectInit ∈ allw := am1 45 (by decide +kernel) rfl
theorem ob10_3 : Cond.methodLink RX10 3 Lib.objectInit ∈ allw := am2 137 (by decide +kernel) rfl
theorem ob12_1 : Cond.methodLink RX12 1 Lib.objectInit ∈ allw := am7 86 (by decide +kernel) rfl
theorem j_obj {K : KT} {cc : ByteArray} {own : String} {nL fr lo pc pc1 : Nat} {ret : Option FieldType} {d : DA} {lv : List (Nat × Value)} {st : List Value} (hK : Ok9 K cc own nL ret fr lo) {idx a : Nat} (hw : Cond.methodLink own idx Lib.objectInit ∈ allw) (hfr : 1 ≤ fr) (hlo : 20 ≤ lo) (hst : (st.map fun v => v.category).sum ≤ 8) (hd : Dc cc pc (.invokespecial idx) 3 pc1) (k : J K nL d lv pc1 st) : J K nL d lv pc (.ref a :: st) :=
  ⟨k.1, fun H locs ls hR hl => by
    obtain ⟨hd, rfl⟩ := hd
    refine W.objInit hK.1.1 hK.1.2.1 hK.1.2.2.2.1 (hK.1.2.2.2.2.1 _ hw _) (hK.1.2.2.2.2.1 _ ob_in _) (hK.1.2.2.2.2.1 _ ob_cd _) (g := F0 (km K) pc ls (.ref a :: st)) rfl (hl.1.trans hK.1.2.2.1.symm) rfl hd (Nat.le_trans hfr hK.2.1) ?_ (k.2 H locs ls hR hl)
    have e : 2 * (F0 (km K) pc ls (.ref a :: st)).monitorRoom = 0 := rfl
    rw [e]
    exact Nat.le_trans (by omega) (Nat.le_trans hlo hK.2.2.1)⟩
def fz (k : Nat) (ad a' : Nat → Nat) : Nat → Nat := fun i => if i ≤ k then ad i else a' i
def QK (Tb : TT) (G : GT) (k : Nat) (ad : Nat → Nat) (k' : Nat) (pp' : Nat → Nat → Nat) (d' : DA) : Array Value → State → Outcome → State → Prop := fun _ st o t => o = .returned none ∧ (∃ a', Rp G (fz k ad a') (wD (csX Tb k' pp') d') t.heap) ∧ va_F (gA G) st t
/-- the constructor y: from the cells 1 .. k it makes those up to k' -/
def CCt (Tb Tb' : TT) (G : GT) (l : Launch) (y : MethodName) (cc : ByteArray) (n fr lo k : Nat) (ad : Nat → Nat) (pp : Nat → Nat → Nat) (d : DA) (av : List Value) (k' : Nat) (pp' : Nat → Nat → Nat) (d' : DA) (mc ms : Nat) : Prop :=
  Met l y [.code y cc n none] (rmX fr lo mc ms) (PC G ad (wD (csX Tb k pp) d) av) (QK Tb' G k ad k' pp' d') mc ms (gA G)

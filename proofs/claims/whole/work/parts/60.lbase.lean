/-! ===== the helpers of the law: they catch ===== -/
theorem lk_13 : Cond.classLink RL 13 (exN 0) ∈ allw := am4 0 (by decide +kernel) rfl
theorem ck_13 : Cond.castable (exN 0) (exN 0) ∈ allw := am4 7 (by decide +kernel) rfl
theorem lk_22 : Cond.classLink RL 22 (exN 1) ∈ allw := am4 229 (by decide +kernel) rfl
theorem ck_22 : Cond.castable (exN 1) (exN 1) ∈ allw := am5 0 (by decide +kernel) rfl
def TbB (B : BT) (hh : List (Nat × Nat × Nat × Nat)) : Prop := B.2.2.2.2.2.2.2.2.2.2.1.exceptionTable.toList = tableOf hh
def LCt (G : GT) (l : Launch) (y : MethodName) (cc : ByteArray) (n : Nat) (hh : List (Nat × Nat × Nat × Nat)) (fr lo g : Nat) (ad : Nat → Nat) (x : XS) (av : List Value) (r : Int) (x' : XS) : Prop :=
  Met l y [.codeWith y cc n (some .int) hh] (rmX fr lo (xc x' - xc x) (xs x' - xs x)) (PC G ad (sg x) av) (QX G g ad (some (vi r)) x') (xc x' - xc x) (xs x' - xs x) (gA G)
abbrev noX : String → State → State → Prop := fun _ _ _ => False
abbrev FLI (B : BT) (c0 s0 g : Nat) (ad0 : Nat → Nat) (y : Int × XS) : Prop := EX B c0 s0 noX g ad0 (.inl (some (vi y.1))) y.2
theorem lct_of {G : GT} {l : Launch} {y : MethodName} {cc : ByteArray} {n : Nat} {hh : List (Nat × Nat × Nat × Nat)} {fr lo g : Nat} {ad : Nat → Nat} {x x' : XS} {av : List Value} {r : Int} (hst : l.stackTraces = false) (hpl : plainName y.cls = true) (hn : (lg_sl av).length ≤ n)
    (body : ∀ B : BT, B.1 = G → B.2.1 = l → OkB B cc y.cls n (some .int) fr lo → TbB B hh → EX B (xc x) (xs x) noX g ad (.inl (some (vi r))) x' → J (KX B (xc x) (xs x) ad x) n x.1 (lv_args 0 av) 0 []) : LCt G l y cc n hh fr lo g ad x av r x' := by
  refine va_MetW (cc := cc) (maxL := n) (ret := some .int) (hh := hh) hpl rfl ?_
  intro p e s m args below meth c s₁ B0 hml hv
  obtain ⟨rfl, hW, hK, hSf, hR, hA⟩ := hv
  rw [lg_entry_eq]
  have hC : Cx G l p s m meth c cc y.cls n (some .int) := ⟨B0.exec, B0.bytes, hml, findClass_of_methodNamed B0.named, hW, hK, hSf, B0.notSynchronized, B0.returns, hA, hst⟩
  have hTb : c.exceptionTable.toList = tableOf hh := vx_table (x := y) B0 (atoms_spec (ws := [.codeWith y cc n (some .int) hh]) B0.pre _ List.mem_cons_self)
  obtain ⟨B, hB⟩ : ∃ B : BT, B = (G, l, p, e, rmX fr lo (xc x' - xc x) (xs x' - xs x), s, m, av.toArray, below, meth, c, QX G g ad (some (vi r)) x', MQ below (QX G g ad (some (vi r)) x') av.toArray s (xc x' - xc x) (xs x' - xs x) (gA G), xc x' - xc x, xs x' - xs x) := ⟨_, rfl⟩
  have hb := body B (by rw [hB]) (by rw [hB]) (by
      subst hB
      refine ⟨hC, Nat.le_refl _, Nat.le_refl _, fun H locs c1 s1 g1 h1 h2 k => ?_⟩
      intro T hT X
      obtain ⟨t, a1, o, b1, b2, b3, L, b4, b5⟩ := k T hT X
      exact ⟨t, a1, o, b1, b2, b3, L, ⟨b4.1, b4.2.1, b4.2.2.mono h1 h2⟩, b5⟩) (by subst hB; exact hTb) (by
      subst hB
      exact ⟨⟨⟨Nat.le_refl _, Nat.le_refl _⟩, Nat.le_refl _, Nat.le_refl _⟩, fun ad' hA' t h1 h2 => ⟨rfl, ⟨ad', hA', h1⟩, h2⟩⟩)
  subst hB
  have h2 := hb.2 s.heap [] _ ⟨hR, va_S.rf⟩ (lv_entry av hn)
  have z1 : xc x - xc x = 0 := Nat.sub_self _
  have z2 : xs x - xs x = 0 := Nat.sub_self _
  have h3 : ∀ B9 : BT, kcl (KX B9 (xc x) (xs x) ad x) = 0 := fun _ => z1
  have h4 : ∀ B9 : BT, ksl (KX B9 (xc x) (xs x) ad x) = 0 := fun _ => z2
  rw [h3, h4] at h2
  exact h2
section LC
variable {B : BT} {c0 s0 g : Nat} {ad ad0 : Nat → Nat} {x x1 : XS} {cc : ByteArray} {nL fr lo pc pc1 tgt : Nat} {ret : Option FieldType} {lv lv' : List (Nat × Value)} {st : List Value} {Y : Type} {y : Y}
/-- an X-call that throws, caught here -/
theorem j_xVc {g' : Nat} (hK : Ok9 (KX B c0 s0 ad x) cc RL nL ret fr lo) {hh : List (Nat × Nat × Nat × Nat)} (hT : TbB B hh) {ent : ExceptionTableEntry} (hent : tableOf hh = [ent]) (hcov : covers ent pc = true) {hpc ct : Nat} (h1 : ent.handlerPc = hpc) (h2 : ent.catchType = ct) (h0 : ct ≠ 0) {idx : Nat} {y : MethodName} {C : String} {n' n fr' lo' i ci en : Nat} (hlk : Cond.classLink RL ct (exN en) ∈ allw) (hck : Cond.castable (exN en) (exN en) ∈ allw) {cy : ByteArray} {rt : Option FieldType} {av : List Value} {st0 : List Value} (hM : XCK B y cy n' rt fr' lo' g' ad x (.ref (ad i) :: av) (.inr en) x1)
    (hL : CL RL idx y n) (hcw : Cond.code y cy n' rt ∈ allw) (hin : Cond.instanceMethod y ∈ allw) (hse : Cond.selects C y y ∈ allw) (hw : isC (sg x) i ∧ kK (sg x) i = ci) (hci : ci < 13) (hcl : (vwCl[ci]?).map (fun q => q.1) = some C) (hfr : fr' + 1 ≤ fr) (hlo : 8 + (n' + 11) + lo' ≤ lo) (hn : av.length = n) (hst : st0 = av.reverse ++ .ref (ad i) :: st) (hW : (st.map fun v => v.category).sum ≤ 8)
    (hd : Dc cc pc (.invokevirtual idx) 3 pc1) (hc : HC c0 s0 x) (hm : xc x ≤ xc x1 ∧ xs x ≤ xs x1) (kk : ∀ ad1 q, Ag g' ad ad1 → J (KX B c0 s0 ad1 x1) nL x1.1 lv hpc [.ref q]) : J (KX B c0 s0 ad x) nL x.1 lv pc st0 :=
  ⟨bd_dn (kk ad 0 (Ag.refl _ _)).1 hm, fun H locs ls hR hl => by
    obtain ⟨hd, rfl⟩ := hd
    refine x_thrown hR (x_run hK hM hL hcw hin hse hw hci hcl hfr hlo hn hst hW hd hc hm (kk ad 0 (Ag.refl _ _)).1 H locs ls hR hl) (fun ad' H1 locs1 q ce hA hR1 hce hcv hcl9 => ?_)
    rw [show kcl (KX B c0 s0 ad x) + (xc x1 - xc x) = kcl (KX B c0 s0 ad' x1) from cell_eq hc.1 hm.1, show ksl (KX B c0 s0 ad x) + (xs x1 - xs x) = ksl (KX B c0 s0 ad' x1) from cell_eq hc.2 hm.2]
    subst h1; subst h2
    exact vx_catch (own := RL) (name := exN en) hK.1.2.2.2.1 [] ent [] (hT.trans hent) (fun z hz => nomatch hz) hcov h0 (hK.1.2.2.2.2.1 _ hlk _) (hK.1.2.2.2.2.1 _ hck _) hce hcv hcl9 ((kk ad' q hA).2 H1 locs1 ls hR1 hl)⟩
end LC
theorem clL_7 : CL RL 7 yX11_table 1 := ⟨am4 1 (by decide +kernel) rfl, am1 1 (by decide +kernel) rfl, by decide +kernel⟩
theorem clL_15 : CL RL 15 yX11_make 3 := ⟨am4 199 (by decide +kernel) rfl, am1 1 (by decide +kernel) rfl, by decide +kernel⟩
theorem clL_19 : CL RL 19 yX11_count 1 := ⟨am4 230 (by decide +kernel) rfl, am1 1 (by decide +kernel) rfl, by decide +kernel⟩
theorem clL_24 : CL RL 24 yX11_fuses 3 := ⟨am5 17 (by decide +kernel) rfl, am1 1 (by decide +kernel) rfl, by decide +kernel⟩
theorem clL_27 : CL RL 27 yX11_law 1 := ⟨am5 34 (by decide +kernel) rfl, am1 1 (by decide +kernel) rfl, by decide +kernel⟩
theorem clL_30 : CL RL 30 yX11_dual 1 := ⟨am5 67 (by decide +kernel) rfl, am1 1 (by decide +kernel) rfl, by decide +kernel⟩
theorem clL_33 : CL RL 33 yX11_size 1 := ⟨am5 78 (by decide +kernel) rfl, am1 1 (by decide +kernel) rfl, by decide +kernel⟩
theorem clL_36 : CL RL 36 yX11_ways 3 := ⟨am5 105 (by decide +kernel) rfl, am1 1 (by decide +kernel) rfl, by decide +kernel⟩
theorem clL_39 : CL RL 39 yX11_list 2 := ⟨am5 118 (by decide +kernel) rfl, am1 1 (by decide +kernel) rfl, by decide +kernel⟩
theorem clL_43 : CL RL 43 yX11_take 1 := ⟨am5 198 (by decide +kernel) rfl, am1 1 (by decide +kernel) rfl, by decide +kernel⟩
theorem clL_46 : CL RL 46 yX11_field 1 := ⟨am5 212 (by decide +kernel) rfl, am1 1 (by decide +kernel) rfl, by decide +kernel⟩
theorem clL_50 : CL RL 50 yX11_character 2 := ⟨am5 223 (by decide +kernel) rfl, am1 1 (by decide +kernel) rfl, by decide +kernel⟩
theorem clL_53 : CL RL 53 yX11_tell 7 := ⟨am6 33 (by decide +kernel) rfl, am1 1 (by decide +kernel) rfl, by decide +kernel⟩
theorem clL_57 : CL RL 57 yX11_swap 4 := ⟨am6 51 (by decide +kernel) rfl, am1 1 (by decide +kernel) rfl, by decide +kernel⟩
theorem clL_61 : CL RL 61 yX11_twist 2 := ⟨am6 59 (by decide +kernel) rfl, am1 1 (by decide +kernel) rfl, by decide +kernel⟩
theorem clL_65 : CL RL 65 yX11_told 7 := ⟨am6 66 (by decide +kernel) rfl, am1 1 (by decide +kernel) rfl, by decide +kernel⟩
theorem clL_69 : CL RL 69 yX11_check 1 := ⟨am6 74 (by decide +kernel) rfl, am1 1 (by decide +kernel) rfl, by decide +kernel⟩
theorem clL_72 : CL RL 72 yX11_broken 1 := ⟨am6 119 (by decide +kernel) rfl, am1 1 (by decide +kernel) rfl, by decide +kernel⟩
theorem clL_75 : CL RL 75 yX11_solve 1 := ⟨am6 127 (by decide +kernel) rfl, am1 1 (by decide +kernel) rfl, by decide +kernel⟩
theorem clL_78 : CL RL 78 yX11_s 3 := ⟨am6 183 (by decide +kernel) rfl, am1 1 (by decide +kernel) rfl, by decide +kernel⟩
theorem clL_81 : CL RL 81 yX11_holds 1 := ⟨am6 201 (by decide +kernel) rfl, am1 1 (by decide +kernel) rfl, by decide +kernel⟩
theorem clL_84 : CL RL 84 yX11_turned 3 := ⟨am6 233 (by decide +kernel) rfl, am1 1 (by decide +kernel) rfl, by decide +kernel⟩
theorem clL_87 : CL RL 87 yX11_braid 3 := ⟨am7 35 (by decide +kernel) rfl, am1 1 (by decide +kernel) rfl, by decide +kernel⟩
theorem clL_90 : CL RL 90 yX11_init 0 := ⟨am1 28 (by decide +kernel) rfl, am1 1 (by decide +kernel) rfl, by decide +kernel⟩
theorem clL_93 : CL RL 93 yX12_init 0 := ⟨am7 83 (by decide +kernel) rfl, am1 14 (by decide +kernel) rfl, by decide +kernel⟩
theorem clL_94 : CL RL 94 yX11_feed 5 := ⟨am3 112 (by decide +kernel) rfl, am1 1 (by decide +kernel) rfl, by decide +kernel⟩
theorem clL_98 : CL RL 98 yX12_feed 5 := ⟨am8 114 (by decide +kernel) rfl, am1 14 (by decide +kernel) rfl, by decide +kernel⟩
theorem clL_104 : CL RL 104 yX12_table 1 := ⟨am8 118 (by decide +kernel) rfl, am1 14 (by decide +kernel) rfl, by decide +kernel⟩
theorem clL_105 : CL RL 105 yX12_thrown 0 := ⟨am8 110 (by decide +kernel) rfl, am1 14 (by decide +kernel) rfl, by decide +kernel⟩
theorem clL_109 : CL RL 109 yX11_fault 0 := ⟨am3 120 (by decide +kernel) rfl, am1 1 (by decide +kernel) rfl, by decide +kernel⟩
theorem clL_112 : CL RL 112 yX12_fault 0 := ⟨am8 195 (by decide +kernel) rfl, am1 14 (by decide +kernel) rfl, by decide +kernel⟩
theorem clL_116 : CL RL 116 yX12_make 3 := ⟨am8 199 (by decide +kernel) rfl, am1 14 (by decide +kernel) rfl, by decide +kernel⟩
theorem clL_117 : CL RL 117 yX11_keep 0 := ⟨am3 124 (by decide +kernel) rfl, am1 1 (by decide +kernel) rfl, by decide +kernel⟩
theorem clL_120 : CL RL 120 yX12_keep 0 := ⟨am8 209 (by decide +kernel) rfl, am1 14 (by decide +kernel) rfl, by decide +kernel⟩
theorem clL_121 : CL RL 121 yX11_product 0 := ⟨am3 135 (by decide +kernel) rfl, am1 1 (by decide +kernel) rfl, by decide +kernel⟩
theorem clL_124 : CL RL 124 yX12_product 0 := ⟨am8 213 (by decide +kernel) rfl, am1 14 (by decide +kernel) rfl, by decide +kernel⟩
theorem clL_127 : CL RL 127 yX12_count 1 := ⟨am8 221 (by decide +kernel) rfl, am1 14 (by decide +kernel) rfl, by decide +kernel⟩
theorem clL_130 : CL RL 130 yX12_fuses 3 := ⟨am8 229 (by decide +kernel) rfl, am1 14 (by decide +kernel) rfl, by decide +kernel⟩
theorem clL_133 : CL RL 133 yX12_law 1 := ⟨am8 237 (by decide +kernel) rfl, am1 14 (by decide +kernel) rfl, by decide +kernel⟩
theorem clL_136 : CL RL 136 yX12_dual 1 := ⟨am9 21 (by decide +kernel) rfl, am1 14 (by decide +kernel) rfl, by decide +kernel⟩
theorem clL_139 : CL RL 139 yX12_size 1 := ⟨am9 29 (by decide +kernel) rfl, am1 14 (by decide +kernel) rfl, by decide +kernel⟩
theorem clL_142 : CL RL 142 yX12_ways 3 := ⟨am9 40 (by decide +kernel) rfl, am1 14 (by decide +kernel) rfl, by decide +kernel⟩
theorem clL_146 : CL RL 146 yX12_list 2 := ⟨am9 45 (by decide +kernel) rfl, am1 14 (by decide +kernel) rfl, by decide +kernel⟩
theorem clL_149 : CL RL 149 yX12_take 1 := ⟨am9 80 (by decide +kernel) rfl, am1 14 (by decide +kernel) rfl, by decide +kernel⟩
theorem clL_153 : CL RL 153 yX12_field 1 := ⟨am9 84 (by decide +kernel) rfl, am1 14 (by decide +kernel) rfl, by decide +kernel⟩
theorem clL_156 : CL RL 156 yX12_character 2 := ⟨am9 91 (by decide +kernel) rfl, am1 14 (by decide +kernel) rfl, by decide +kernel⟩
theorem clL_160 : CL RL 160 yX12_tell 7 := ⟨am9 107 (by decide +kernel) rfl, am1 14 (by decide +kernel) rfl, by decide +kernel⟩
theorem clL_164 : CL RL 164 yX12_swap 4 := ⟨am9 142 (by decide +kernel) rfl, am1 14 (by decide +kernel) rfl, by decide +kernel⟩
theorem clL_167 : CL RL 167 yX12_twist 2 := ⟨am9 146 (by decide +kernel) rfl, am1 14 (by decide +kernel) rfl, by decide +kernel⟩
theorem clL_170 : CL RL 170 yX12_told 7 := ⟨am9 162 (by decide +kernel) rfl, am1 14 (by decide +kernel) rfl, by decide +kernel⟩
theorem clL_173 : CL RL 173 yX12_check 1 := ⟨am9 174 (by decide +kernel) rfl, am1 14 (by decide +kernel) rfl, by decide +kernel⟩
theorem clL_176 : CL RL 176 yX12_broken 1 := ⟨am9 206 (by decide +kernel) rfl, am1 14 (by decide +kernel) rfl, by decide +kernel⟩
theorem clL_179 : CL RL 179 yX12_solve 1 := ⟨am9 210 (by decide +kernel) rfl, am1 14 (by decide +kernel) rfl, by decide +kernel⟩
theorem clL_182 : CL RL 182 yX12_s 3 := ⟨am10 14 (by decide +kernel) rfl, am1 14 (by decide +kernel) rfl, by decide +kernel⟩
theorem clL_185 : CL RL 185 yX12_holds 1 := ⟨am10 22 (by decide +kernel) rfl, am1 14 (by decide +kernel) rfl, by decide +kernel⟩
theorem clL_188 : CL RL 188 yX12_turned 3 := ⟨am10 54 (by decide +kernel) rfl, am1 14 (by decide +kernel) rfl, by decide +kernel⟩
theorem clL_189 : CL RL 189 yX11_letter 1 := ⟨am3 171 (by decide +kernel) rfl, am1 1 (by decide +kernel) rfl, by decide +kernel⟩
theorem clL_192 : CL RL 192 yX12_letter 1 := ⟨am9 150 (by decide +kernel) rfl, am1 14 (by decide +kernel) rfl, by decide +kernel⟩
theorem clL_195 : CL RL 195 yX12_braid 3 := ⟨am10 66 (by decide +kernel) rfl, am1 14 (by decide +kernel) rfl, by decide +kernel⟩
theorem clL_196 : CL RL 196 yX11_back 0 := ⟨am3 196 (by decide +kernel) rfl, am1 1 (by decide +kernel) rfl, by decide +kernel⟩
theorem clL_200 : CL RL 200 yX12_back 0 := ⟨am9 154 (by decide +kernel) rfl, am1 14 (by decide +kernel) rfl, by decide +kernel⟩
theorem clL_201 : CL RL 201 yX11_again 0 := ⟨am3 209 (by decide +kernel) rfl, am1 1 (by decide +kernel) rfl, by decide +kernel⟩
theorem clL_204 : CL RL 204 yX12_again 0 := ⟨am9 158 (by decide +kernel) rfl, am1 14 (by decide +kernel) rfl, by decide +kernel⟩
theorem clL_205 : CL RL 205 yX11_image 0 := ⟨am3 217 (by decide +kernel) rfl, am1 1 (by decide +kernel) rfl, by decide +kernel⟩
theorem clL_208 : CL RL 208 yX12_image 0 := ⟨am10 102 (by decide +kernel) rfl, am1 14 (by decide +kernel) rfl, by decide +kernel⟩
theorem clL_209 : CL RL 209 yX11_restore 0 := ⟨am3 232 (by decide +kernel) rfl, am1 1 (by decide +kernel) rfl, by decide +kernel⟩
theorem clL_212 : CL RL 212 yX12_restore 0 := ⟨am10 109 (by decide +kernel) rfl, am1 14 (by decide +kernel) rfl, by decide +kernel⟩

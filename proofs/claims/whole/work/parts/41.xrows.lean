/-! ===== rows of the X level ===== -/
def X0 : XS := (((fun _ _ => 0), (fun _ _ => 0)), 0, 0, 0, 0, 0, 0, 0, 0, 0)
def OkB (B : BT) (cc : ByteArray) (own : String) (nL : Nat) (ret : Option FieldType) (fr lo : Nat) : Prop := Ok9 (KX B 0 0 (fun _ => 0) X0) cc own nL ret fr lo
theorem okx {B : BT} {cc : ByteArray} {own : String} {nL : Nat} {ret : Option FieldType} {fr lo c0 s0 : Nat} {ad : Nat → Nat} {x : XS} (h : OkB B cc own nL ret fr lo) : Ok9 (KX B c0 s0 ad x) cc own nL ret fr lo := h
def OkZ (B : BT) (XC : String → State → State → Prop) : Prop := OkX (KX B 0 0 (fun _ => 0) X0) XC
theorem okX {B : BT} {XC : String → State → State → Prop} {c0 s0 : Nat} {ad : Nat → Nat} {x : XS} (h : OkZ B XC) : OkX (KX B c0 s0 ad x) XC := h
theorem hsB {B : BT} {cc : ByteArray} {own : String} {nL : Nat} {ret : Option FieldType} {fr lo : Nat} (h : OkB B cc own nL ret fr lo) : B.2.1.stackTraces = false := hst9 h
theorem th_c100 : Cond.classLink RX11 100 "java/lang/IllegalArgumentException" ∈ allw := am4 5 (by decide +kernel) rfl
theorem th_c190 : Cond.classLink RX11 190 "java/util/NoSuchElementException" ∈ allw := am4 238 (by decide +kernel) rfl
theorem th_i0 : Cond.initialized "java/lang/IllegalArgumentException" ∈ allw := am1 18 (by decide +kernel) rfl
theorem th_i1 : Cond.initialized nsN ∈ allw := am1 25 (by decide +kernel) rfl
section XT
variable {B : BT} {c0 s0 g : Nat} {ad ad0 : Nat → Nat} {x x1 : XS} {XC : String → State → State → Prop} {cc : ByteArray} {own : String} {nL fr lo pc pc1 tgt : Nat} {ret : Option FieldType} {lv lv' : List (Nat × Value)} {st : List Value} {Y : Type} {y : Y}
theorem xt_le : xc x ≤ xc (xT x) ∧ xs x ≤ xs (xT x) := ⟨Nat.le_succ _, Nat.le_add_right _ 6⟩
theorem xt_cells {c0 a b : Nat} (h : c0 ≤ a) (h1 : a + 1 - c0 ≤ b) : a - c0 + 1 ≤ b := by omega
theorem xt_slots {c0 a b : Nat} (h : c0 ≤ a) (h1 : a + 6 - c0 ≤ b) : a - c0 + 6 ≤ b := by omega
theorem xt_hx {e : Nat} (hA : Ag g ad0 ad) (hk : EX B c0 s0 XC g ad0 (.inr e) (xT x)) {H : Heap} {locs : List Loc} (hR : Rh B.1 B.2.2.2.2.2.1 ad (wD (sg x) x.1) H locs) (t : State) (h1 : H.size ≤ t.heap.size) (h2 : ∀ q : Nat, q < H.size → t.heap[q]? = H[q]?) : XC (exN e) B.2.2.2.2.2.1 t :=
  hk.2 ad hA t (Rp.kept hR.1 h2) ⟨Nat.le_trans hR.2.1 h1, fun q hq hn => by rw [h2 q (Nat.lt_of_lt_of_le hq hR.2.1)]; exact hR.2.2.1 q hq hn⟩
theorem j_thr0 (hK : Ok9 (KX B c0 s0 ad x) cc RX11 nL ret fr lo) (hX : OkX (KX B c0 s0 ad x) XC) {ik is : Nat} {text : String} (hk1 : Cond.classLink RX11 ik "java/lang/IllegalArgumentException" ∈ allw) (hs : ("FuseKinds", is, text) ∈ strT) (d0 : decode cc pc = .ok (.new ik, 3)) (d3 : decode cc (pc + 3) = .ok (.dup, 1)) (d4 : decode cc (pc + 4) = .ok (.ldc is, 2)) (d6 : decode cc (pc + 6) = .ok (.invokespecial 104, 3)) (d9 : decode cc (pc + 9) = .ok (.athrow, 1)) (hfr : 6 ≤ fr) (hlo : 8 + 82 ≤ lo) (hst : (st.map fun v => v.category).sum ≤ 8) (hC : HC c0 s0 x) (hA : Ag g ad0 ad) (hk : EX B c0 s0 XC g ad0 (.inr 0) (xT x)) : J (KX B c0 s0 ad x) nL x.1 lv pc st :=
  ⟨bd_dn hk.1 xt_le, fun H locs ls hR hl => by
    rw [hX.1]
    obtain ⟨a, ha⟩ := hK.1.2.2.2.2.2.2.1.2.2.1 _ hs
    refine vx_throwS (names := thN) hK.1.1 hK.1.2.1 (hst9 hK) hK.1.2.2.2.1 (by decide +kernel) (by decide +kernel) (hK.1.2.2.2.2.1 _ hk1 _) (hK.1.2.2.2.2.1 _ th_i0 _) ha (fun w hw => hK.1.2.2.2.2.1 _ (List.mem_filter.mpr ⟨(th_w0 w hw).1, (th_w0 w hw).2.1⟩) _) (fun w hw => ?_) hK.1.2.2.2.2.2.2.1.1 hK.1.2.2.2.2.2.2.1.2.1 hR.2 (hl.1.trans hK.1.2.2.1.symm) d0 d3 d4 d6 d9 (fun z hz => (hX.2 z hz).elim) (Nat.le_trans (Nat.le_trans (by decide) hfr) hK.2.1) (Nat.le_trans (Nat.le_trans (Nat.add_le_add_right hst _) hlo) hK.2.2.1) (xt_cells hC.1 hk.1.1.1) (xt_slots hC.2 hk.1.1.2) hK.1.2.2.2.2.2.2.2.1 (fun t _ h1 h2 => xt_hx hA hk hR t h1 h2) hR.2.2.2 (xt_cells hC.1 hk.1.2.1) (xt_slots hC.2 hk.1.2.2)
    rcases List.mem_cons.mp hw with rfl | hw
    · rfl
    · rcases List.mem_cons.mp hw with rfl | hw
      · rfl
      · exact (th_w0 w hw).2.2⟩
theorem j_thr0W (hK : Ok9 (KX B c0 s0 ad x) cc RX11 nL ret fr lo) (hX : OkX (KX B c0 s0 ad x) XC) {ik is : Nat} {text : String} (hk1 : Cond.classLink RX11 ik "java/lang/IllegalArgumentException" ∈ allw) (hs : ("FuseKinds", is, text) ∈ strT) (d0 : decode cc pc = .ok (.new ik, 3)) (d3 : decode cc (pc + 3) = .ok (.dup, 1)) (d4 : decode cc (pc + 4) = .ok (.ldc_w is, 3)) (d6 : decode cc (pc + 7) = .ok (.invokespecial 104, 3)) (d9 : decode cc (pc + 10) = .ok (.athrow, 1)) (hfr : 6 ≤ fr) (hlo : 8 + 82 ≤ lo) (hst : (st.map fun v => v.category).sum ≤ 8) (hC : HC c0 s0 x) (hA : Ag g ad0 ad) (hk : EX B c0 s0 XC g ad0 (.inr 0) (xT x)) : J (KX B c0 s0 ad x) nL x.1 lv pc st :=
  ⟨bd_dn hk.1 xt_le, fun H locs ls hR hl => by
    rw [hX.1]
    obtain ⟨a, ha⟩ := hK.1.2.2.2.2.2.2.1.2.2.1 _ hs
    refine vx_throwSW (names := thN) hK.1.1 hK.1.2.1 (hst9 hK) hK.1.2.2.2.1 (by decide +kernel) (by decide +kernel) (hK.1.2.2.2.2.1 _ hk1 _) (hK.1.2.2.2.2.1 _ th_i0 _) ha (fun w hw => hK.1.2.2.2.2.1 _ (List.mem_filter.mpr ⟨(th_w0 w hw).1, (th_w0 w hw).2.1⟩) _) (fun w hw => ?_) hK.1.2.2.2.2.2.2.1.1 hK.1.2.2.2.2.2.2.1.2.1 hR.2 (hl.1.trans hK.1.2.2.1.symm) d0 d3 d4 d6 d9 (fun z hz => (hX.2 z hz).elim) (Nat.le_trans (Nat.le_trans (by decide) hfr) hK.2.1) (Nat.le_trans (Nat.le_trans (Nat.add_le_add_right hst _) hlo) hK.2.2.1) (xt_cells hC.1 hk.1.1.1) (xt_slots hC.2 hk.1.1.2) hK.1.2.2.2.2.2.2.2.1 (fun t _ h1 h2 => xt_hx hA hk hR t h1 h2) hR.2.2.2 (xt_cells hC.1 hk.1.2.1) (xt_slots hC.2 hk.1.2.2)
    rcases List.mem_cons.mp hw with rfl | hw
    · rfl
    · rcases List.mem_cons.mp hw with rfl | hw
      · rfl
      · exact (th_w0 w hw).2.2⟩
theorem j_thr1 (hK : Ok9 (KX B c0 s0 ad x) cc RX11 nL ret fr lo) (hX : OkX (KX B c0 s0 ad x) XC) {ik is : Nat} {text : String} (hk1 : Cond.classLink RX11 ik nsN ∈ allw) (hs : ("FuseKinds", is, text) ∈ strT) (d0 : decode cc pc = .ok (.new ik, 3)) (d3 : decode cc (pc + 3) = .ok (.dup, 1)) (d4 : decode cc (pc + 4) = .ok (.ldc is, 2)) (d6 : decode cc (pc + 6) = .ok (.invokespecial 194, 3)) (d9 : decode cc (pc + 9) = .ok (.athrow, 1)) (hfr : 6 ≤ fr) (hlo : 8 + 82 ≤ lo) (hst : (st.map fun v => v.category).sum ≤ 8) (hC : HC c0 s0 x) (hA : Ag g ad0 ad) (hk : EX B c0 s0 XC g ad0 (.inr 1) (xT x)) : J (KX B c0 s0 ad x) nL x.1 lv pc st :=
  ⟨bd_dn hk.1 xt_le, fun H locs ls hR hl => by
    rw [hX.1]
    obtain ⟨a, ha⟩ := hK.1.2.2.2.2.2.2.1.2.2.1 _ hs
    exact ns_throw hK.1.1 hK.1.2.1 (hst9 hK) hK.1.2.2.2.1 (hK.1.2.2.2.2.1 _ hk1 _) (hK.1.2.2.2.2.1 _ th_i1 _) ha (fun w hw => hK.1.2.2.2.2.1 _ (List.mem_filter.mpr ⟨(th_w1 w hw).1, (th_w1 w hw).2.1⟩) _) (fun w hw => (th_w1 w hw).2.2) rfl rfl hK.1.2.2.2.2.2.2.1.1 hK.1.2.2.2.2.2.2.1.2.1 hR.2 (hl.1.trans hK.1.2.2.1.symm) d0 d3 (Or.inl ⟨d4, rfl⟩) d6 d9 (fun z hz => (hX.2 z hz).elim) (Nat.le_trans (Nat.le_trans (by decide) hfr) hK.2.1) (Nat.le_trans (Nat.le_trans (Nat.add_le_add_right hst _) (Nat.le_trans (by decide) hlo)) hK.2.2.1) (xt_cells hC.1 hk.1.1.1) (xt_slots hC.2 hk.1.1.2) hK.1.2.2.2.2.2.2.2.1 (fun t _ h1 h2 => xt_hx hA hk hR t h1 h2) hR.2.2.2 (xt_cells hC.1 hk.1.2.1) (xt_slots hC.2 hk.1.2.2)⟩
theorem j_thr1W (hK : Ok9 (KX B c0 s0 ad x) cc RX11 nL ret fr lo) (hX : OkX (KX B c0 s0 ad x) XC) {ik is : Nat} {text : String} (hk1 : Cond.classLink RX11 ik nsN ∈ allw) (hs : ("FuseKinds", is, text) ∈ strT) (d0 : decode cc pc = .ok (.new ik, 3)) (d3 : decode cc (pc + 3) = .ok (.dup, 1)) (d4 : decode cc (pc + 4) = .ok (.ldc_w is, 3)) (d6 : decode cc (pc + 7) = .ok (.invokespecial 194, 3)) (d9 : decode cc (pc + 10) = .ok (.athrow, 1)) (hfr : 6 ≤ fr) (hlo : 8 + 82 ≤ lo) (hst : (st.map fun v => v.category).sum ≤ 8) (hC : HC c0 s0 x) (hA : Ag g ad0 ad) (hk : EX B c0 s0 XC g ad0 (.inr 1) (xT x)) : J (KX B c0 s0 ad x) nL x.1 lv pc st :=
  ⟨bd_dn hk.1 xt_le, fun H locs ls hR hl => by
    rw [hX.1]
    obtain ⟨a, ha⟩ := hK.1.2.2.2.2.2.2.1.2.2.1 _ hs
    exact ns_throw hK.1.1 hK.1.2.1 (hst9 hK) hK.1.2.2.2.1 (hK.1.2.2.2.2.1 _ hk1 _) (hK.1.2.2.2.2.1 _ th_i1 _) ha (fun w hw => hK.1.2.2.2.2.1 _ (List.mem_filter.mpr ⟨(th_w1 w hw).1, (th_w1 w hw).2.1⟩) _) (fun w hw => (th_w1 w hw).2.2) rfl rfl hK.1.2.2.2.2.2.2.1.1 hK.1.2.2.2.2.2.2.1.2.1 hR.2 (hl.1.trans hK.1.2.2.1.symm) d0 d3 (Or.inr ⟨d4, rfl⟩) d6 d9 (fun z hz => (hX.2 z hz).elim) (Nat.le_trans (Nat.le_trans (by decide) hfr) hK.2.1) (Nat.le_trans (Nat.le_trans (Nat.add_le_add_right hst _) (Nat.le_trans (by decide) hlo)) hK.2.2.1) (xt_cells hC.1 hk.1.1.1) (xt_slots hC.2 hk.1.1.2) hK.1.2.2.2.2.2.2.2.1 (fun t _ h1 h2 => xt_hx hA hk hR t h1 h2) hR.2.2.2 (xt_cells hC.1 hk.1.2.1) (xt_slots hC.2 hk.1.2.2)⟩
def xR1 (x : XS) : XS := (x.1, xzc x, xzf x, 44, xrb x, xtt x, xtn x, xe x, xc x, xs x)
def xR2 (x : XS) : XS := (x.1, xzc x, xzf x, xrt x, 38, xtt x, xtn x, xe x, xc x, xs x)
def xR3 (x : XS) : XS := (x.1, xzc x, xzf x, xrt x, xrb x, 5, xtn x, xe x, xc x, xs x)
def xR4 (x : XS) : XS := (x.1, xzc x, xzf x, xrt x, xrb x, xtt x, 58, xe x, xc x, xs x)
theorem ce_sg {G : GT} {x x' : XS} {j : Nat} (h1 : x'.1 = x.1) (h2 : xzc x' = xzc x) (h3 : xzf x' = xzf x) (hp : pP (sg x') j = pP (sg x) j) : ce9 G ad (sg x') j = ce9 G ad (sg x) j := by
  have ei : iI (sg x') = iI (sg x) := by show x'.1.1 = x.1.1; rw [h1]
  have el : lL (sg x') = lL (sg x) := by show x'.1.2 = x.1.2; rw [h1]
  have ez : zZ (sg x') = zZ (sg x) := by
    funext i
    show (if i = 47 then xzc x' else if i = 71 then xzf x' else zTl.getD i 0) = (if i = 47 then xzc x else if i = 71 then xzf x else zTl.getD i 0)
    rw [h2, h3]
  unfold ce9
  rw [ei, el, ez, hp]
  rfl
theorem fpr1 : FP RX4 9 4 0 (.array .int) := ⟨RX4, TX4, 14, rfl, rfl, by decide +kernel⟩
theorem j_pxR1 (hK : Ok9 (KX B c0 s0 ad x) cc RX4 nL ret fr lo) {q : XS → Option Y} (hF : FL RX4 9 4 0) (hd : Dc cc pc (.putfield 9) 3 pc1) (hC : HC c0 s0 x) (h : lt9 (xR1 x) q = some y) (f : ∀ x1, HC c0 s0 x1 → q x1 = some y → J (KX B c0 s0 ad x1) nL x1.1 lv pc1 st) : J (KX B c0 s0 ad x) nL x.1 lv pc (.ref (ad 44) :: .ref (ad 45) :: st) :=
  ⟨(f (xR1 x) hC h).1, fun H locs ls hR hl => by
    refine r_put0 (σ := sg x) (σ' := sg (xR1 x)) (i := 45) (k := 0) (ci := 4) hK.1 hR (wt_45 x).1.1 (wt_45 x).1.2 hF fpr1 rfl rfl rfl rfl rfl (fun j hj => ce_sg rfl rfl rfl ?_) (fun j hj => ?_) hd (fun H1 locs1 hR1 => (f (xR1 x) hC h).2 H1 locs1 ls hR1 hl)
    · funext k
      unfold pP sg
      simp [hj]
      try rfl
    · have e : pP (sg (xR1 x)) 45 j = pP (sg x) 45 j := by
        unfold pP sg
        simp [hj]
        try rfl
      rw [e]
      rfl⟩
theorem fpr2 : FP RX4 35 4 10 (.object "FuseKinds$Table") := ⟨RX4, TX4, 14, rfl, rfl, by decide +kernel⟩
theorem j_pxR2 (hK : Ok9 (KX B c0 s0 ad x) cc RX4 nL ret fr lo) {q : XS → Option Y} (hF : FL RX4 35 4 10) (hd : Dc cc pc (.putfield 35) 3 pc1) (hC : HC c0 s0 x) (h : lt9 (xR2 x) q = some y) (f : ∀ x1, HC c0 s0 x1 → q x1 = some y → J (KX B c0 s0 ad x1) nL x1.1 lv pc1 st) : J (KX B c0 s0 ad x) nL x.1 lv pc (.ref (ad 38) :: .ref (ad 45) :: st) :=
  ⟨(f (xR2 x) hC h).1, fun H locs ls hR hl => by
    refine r_put0 (σ := sg x) (σ' := sg (xR2 x)) (i := 45) (k := 10) (ci := 4) hK.1 hR (wt_45 x).1.1 (wt_45 x).1.2 hF fpr2 rfl rfl rfl rfl rfl (fun j hj => ce_sg rfl rfl rfl ?_) (fun j hj => ?_) hd (fun H1 locs1 hR1 => (f (xR2 x) hC h).2 H1 locs1 ls hR1 hl)
    · funext k
      unfold pP sg
      simp [hj]
      try rfl
    · have e : pP (sg (xR2 x)) 45 j = pP (sg x) 45 j := by
        unfold pP sg
        simp [hj]
        try rfl
      rw [e]
      rfl⟩
theorem fpr3 : FP RX10 61 10 4 (.object "FuseKinds$Table") := ⟨RX10, TX10, 18, rfl, rfl, by decide +kernel⟩
theorem j_pxR3 (hK : Ok9 (KX B c0 s0 ad x) cc RX10 nL ret fr lo) {q : XS → Option Y} (hF : FL RX10 61 10 4) (hd : Dc cc pc (.putfield 61) 3 pc1) (hC : HC c0 s0 x) (h : lt9 (xR3 x) q = some y) (f : ∀ x1, HC c0 s0 x1 → q x1 = some y → J (KX B c0 s0 ad x1) nL x1.1 lv pc1 st) : J (KX B c0 s0 ad x) nL x.1 lv pc (.ref (ad 5) :: .ref (ad 68) :: st) :=
  ⟨(f (xR3 x) hC h).1, fun H locs ls hR hl => by
    refine r_put0 (σ := sg x) (σ' := sg (xR3 x)) (i := 68) (k := 4) (ci := 10) hK.1 hR (wt_68 x).1.1 (wt_68 x).1.2 hF fpr3 rfl rfl rfl rfl rfl (fun j hj => ce_sg rfl rfl rfl ?_) (fun j hj => ?_) hd (fun H1 locs1 hR1 => (f (xR3 x) hC h).2 H1 locs1 ls hR1 hl)
    · funext k
      unfold pP sg
      simp [hj]
      try rfl
    · have e : pP (sg (xR3 x)) 68 j = pP (sg x) 68 j := by
        unfold pP sg
        simp [hj]
        try rfl
      rw [e]
      rfl⟩
theorem fpr4 : FP RX10 65 10 5 (.object "FuseKinds$Numbers") := ⟨RX10, TX10, 18, rfl, rfl, by decide +kernel⟩
theorem j_pxR4 (hK : Ok9 (KX B c0 s0 ad x) cc RX10 nL ret fr lo) {q : XS → Option Y} (hF : FL RX10 65 10 5) (hd : Dc cc pc (.putfield 65) 3 pc1) (hC : HC c0 s0 x) (h : lt9 (xR4 x) q = some y) (f : ∀ x1, HC c0 s0 x1 → q x1 = some y → J (KX B c0 s0 ad x1) nL x1.1 lv pc1 st) : J (KX B c0 s0 ad x) nL x.1 lv pc (.ref (ad 58) :: .ref (ad 68) :: st) :=
  ⟨(f (xR4 x) hC h).1, fun H locs ls hR hl => by
    refine r_put0 (σ := sg x) (σ' := sg (xR4 x)) (i := 68) (k := 5) (ci := 10) hK.1 hR (wt_68 x).1.1 (wt_68 x).1.2 hF fpr4 rfl rfl rfl rfl rfl (fun j hj => ce_sg rfl rfl rfl ?_) (fun j hj => ?_) hd (fun H1 locs1 hR1 => (f (xR4 x) hC h).2 H1 locs1 ls hR1 hl)
    · funext k
      unfold pP sg
      simp [hj]
      try rfl
    · have e : pP (sg (xR4 x)) 68 j = pP (sg x) 68 j := by
        unfold pP sg
        simp [hj]
        try rfl
      rw [e]
      rfl⟩
end XT

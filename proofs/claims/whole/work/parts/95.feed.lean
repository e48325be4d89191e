/-! ===== feed ===== -/
theorem and_bd {y : Int} {m : Int} {n : Nat} (hm : (Int32.ofInt m).toBitVec.toNat = n) (hn : n < 2147483648) : 0 ≤ iand9 y m ∧ iand9 y m ≤ n := by
  unfold iand9
  show 0 ≤ (Int32.ofInt y &&& Int32.ofInt m).toBitVec.toInt ∧ (Int32.ofInt y &&& Int32.ofInt m).toBitVec.toInt ≤ n
  rw [Int32.toBitVec_and]
  have h1 : ((Int32.ofInt y).toBitVec &&& (Int32.ofInt m).toBitVec).toNat ≤ n := by
    rw [BitVec.toNat_and, hm]; exact Nat.and_le_right
  rw [BitVec.toInt_eq_toNat_of_lt (by omega)]
  omega
theorem b255 : ∀ q : Nat, q < 32 → 8 ≤ q → (255#32).getLsbD q = false := by decide
theorem byte_shr {w : Int} {s : Nat} (hs : s = 0 ∨ s = 8 ∨ s = 16 ∨ s = 24) : iand9 (ishr9 w (s : Int)) 255 = iand9 (iushr9 w (s : Int)) 255 := by
  unfold iand9 ishr9 iushr9
  rw [Int32.ofInt_toInt, Int32.ofInt_toInt]
  congr 1
  apply Int32.toBitVec.inj
  generalize Int32.ofInt w = A
  rw [Int32.toBitVec_and, Int32.toBitVec_and]
  have e255 : (Int32.ofInt 255).toBitVec = 255#32 := by decide
  rw [e255]
  have key : ∀ t : Nat, t ≤ 24 → (A.toBitVec.sshiftRight t &&& 255#32) = ((A.toBitVec >>> t) &&& 255#32) := by
    intro t ht
    ext i hi
    simp only [BitVec.getElem_and]
    by_cases c : i < 8
    · congr 1
      rw [BitVec.getElem_sshiftRight, BitVec.getElem_ushiftRight]
      rw [dif_pos (by omega)]
      rw [BitVec.getLsbD_eq_getElem (by omega)]
    · have : (255#32)[i] = false := by
        rw [← BitVec.getLsbD_eq_getElem]
        exact b255 i hi (by omega)
      rw [this, Bool.and_false, Bool.and_false]
  rcases hs with rfl | rfl | rfl | rfl
  · exact key 0 (by omega)
  · exact key 8 (by omega)
  · exact key 16 (by omega)
  · exact key 24 (by omega)
/-- n bytes written behind t -/
def fd9 (cc ci cb t : Nat) (b : Nat → Int) (d : DA) : Nat → DA
  | 0 => d
  | n + 1 => wI (wI (fd9 cc ci cb t b d n) cb (t + n) (b n)) cc ci ((t : Int) + n + 1)
theorem fd_o {cc ci cb t : Nat} {b : Nat → Int} {d : DA} {c : Nat} (h1 : c ≠ cc) (h2 : c ≠ cb) : ∀ n, (fd9 cc ci cb t b d n).1 c = d.1 c := by
  intro n
  induction n with
  | zero => rfl
  | succ n ih => unfold fd9; rw [wI_ne h1, wI_ne h2, ih]
theorem fd_i {cc ci cb t : Nat} {b : Nat → Int} {d : DA} {i : Nat} (h1 : cc ≠ cb) (h2 : i ≠ ci) : ∀ n, (fd9 cc ci cb t b d n).1 cc i = d.1 cc i := by
  intro n
  induction n with
  | zero => rfl
  | succ n ih => unfold fd9; rw [wI_at, fu_n h2, wI_ne h1, ih]
theorem fd_n {cc ci cb t : Nat} {b : Nat → Int} {d : DA} (h0 : d.1 cc ci = t) : ∀ n : Nat, (fd9 cc ci cb t b d n).1 cc ci = (t : Int) + n := by
  intro n
  cases n with
  | zero => show d.1 cc ci = _; omega
  | succ n => unfold fd9; rw [wI_at, fu_s]; omega
theorem fd_b {cc ci cb t : Nat} {b : Nat → Int} {d : DA} (h1 : cb ≠ cc) : ∀ (n : Nat) (j : Nat), (fd9 cc ci cb t b d n).1 cb j = if t ≤ j ∧ j < t + n then b (j - t) else d.1 cb j := by
  intro n j
  induction n with
  | zero => rw [if_neg (by omega)]; rfl
  | succ n ih =>
    unfold fd9
    rw [wI_ne h1, wI_at, fu_app]
    by_cases c : j = t + n
    · rw [if_pos c, if_pos (by omega)]; congr 1; omega
    · rw [if_neg c, ih]
      by_cases c2 : t ≤ j ∧ j < t + n
      · rw [if_pos c2, if_pos (by omega)]
      · rw [if_neg c2, if_neg (by omega)]
/-- the bytes of five words -/
def wd9 (v1 v2 v3 v4 v5 : Int) (i : Nat) : Int := if i < 4 then v1 else if i < 8 then v2 else if i < 12 then v3 else if i < 16 then v4 else v5
def by9 (v1 v2 v3 v4 v5 : Int) (i : Nat) : Int := iand9 (iushr9 (wd9 v1 v2 v3 v4 v5 i) ((24 - 8 * (i % 4) : Nat) : Int)) 255
theorem x11_feedNumber {d : DA} {t a : Nat} {b : Nat → Int} {v : Int} (h0 : d.1 1 7 = t) (ht : t + a + 4 ≤ 400) (hb : ∀ i, i < 4 → b (a + i) = iand9 (iushr9 v ((24 - 8 * i : Nat) : Int)) 255) : X11_feedNumber 1 v (fd9 1 7 44 t b d a) = some ((), fd9 1 7 44 t b d (a + 4)) := by
  unfold X11_feedNumber
  refine lpE_for (fun i => ((24 : Int) - 8 * (i : Int), fd9 1 7 44 t b d (a + i))) 4 _ rfl (by omega) (fun i hi => ?_) ?_
  · show X11_feedNumber_b3 1 v ((24 : Int) - 8 * (i : Int)) (fd9 1 7 44 t b d (a + i)) = _
    unfold X11_feedNumber_b3
    have hn := fd_n (cb := 44) (b := b) h0 (a + i)
    generalize hE : fd9 1 7 44 t b d (a + i) = E at hn
    have hn' : E.1 1 7 = ((t + (a + i) : Nat) : Int) := by omega
    rw [hn', Int.toNat_natCast, gd_pos (by omega), if_neg (by omega), gd_pos (by omega), if_neg (by omega), gd_pos (by omega), lt_pos, lt_pos]
    have e2 : (wI E (1 + 43) (t + (a + i)) (iand9 (iushr9 v (24 - 8 * (i : Int))) 255)).1 1 7 = ((t + (a + i) : Nat) : Int) := hn'
    rw [e2]
    have e3 : fd9 1 7 44 t b d (a + (i + 1)) = wI (wI E 44 (t + (a + i)) (b (a + i))) 1 7 ((t : Int) + ((a + i : Nat) : Int) + 1) := by rw [← hE]; rfl
    rw [e3, hb i hi, show ((24 - 8 * i : Nat) : Int) = 24 - 8 * (i : Int) by omega]
    have e4 : (24 : Int) - 8 * (i : Int) + -8 = 24 - 8 * ((i + 1 : Nat) : Int) := by omega
    rw [e4, show ((t + (a + i) : Nat) : Int) + 1 = (t : Int) + ((a + i : Nat) : Int) + 1 by omega]
  · show X11_feedNumber_b3 1 v ((24 : Int) - 8 * ((4 : Nat) : Int)) _ = _
    unfold X11_feedNumber_b3
    rw [gd_pos (by omega), if_pos (by omega)]
theorem x11_feed {d : DA} {t : Nat} {v1 v2 v3 v4 v5 : Int} (h0 : d.1 1 7 = t) (ht : t ≤ 400) : X11_feed 1 v1 v2 v3 v4 v5 d = some (if t ≤ 380 then ((t : Int) + 20, fd9 1 7 44 t (by9 v1 v2 v3 v4 v5) d 20) else (-1, d)) := by
  unfold X11_feed
  rw [h0, gd_pos (by omega)]
  by_cases c : t ≤ 380
  · rw [if_pos (by omega), if_pos c]
    have e1 := x11_feedNumber (b := by9 v1 v2 v3 v4 v5) (a := 0) (v := v1) h0 (by omega) (fun i hi => by unfold by9 wd9; rw [if_pos (by omega), show (0 + i) % 4 = i by omega])
    have e2 := x11_feedNumber (b := by9 v1 v2 v3 v4 v5) (a := 4) (v := v2) h0 (by omega) (fun i hi => by unfold by9 wd9; rw [if_neg (by omega), if_pos (by omega), show (4 + i) % 4 = i by omega])
    have e3 := x11_feedNumber (b := by9 v1 v2 v3 v4 v5) (a := 8) (v := v3) h0 (by omega) (fun i hi => by unfold by9 wd9; rw [if_neg (by omega), if_neg (by omega), if_pos (by omega), show (8 + i) % 4 = i by omega])
    have e4 := x11_feedNumber (b := by9 v1 v2 v3 v4 v5) (a := 12) (v := v4) h0 (by omega) (fun i hi => by unfold by9 wd9; rw [if_neg (by omega), if_neg (by omega), if_neg (by omega), if_pos (by omega), show (12 + i) % 4 = i by omega])
    have e5 := x11_feedNumber (b := by9 v1 v2 v3 v4 v5) (a := 16) (v := v5) h0 (by omega) (fun i hi => by unfold by9 wd9; rw [if_neg (by omega), if_neg (by omega), if_neg (by omega), if_neg (by omega), show (16 + i) % 4 = i by omega])
    have e1' : X11_feedNumber 1 v1 d = some ((), fd9 1 7 44 t (by9 v1 v2 v3 v4 v5) d (0 + 4)) := e1
    rw [bd_pos e1', bd_pos e2, bd_pos e3, bd_pos e4, bd_pos e5, fd_n h0]
    rfl
  · rw [if_neg (by omega), if_neg c]
theorem x12_feed {d : DA} {t : Nat} {v1 v2 v3 v4 v5 : Int} (h0 : d.1 113 21 = t) (ht : t ≤ 400) : X12_feed 113 v1 v2 v3 v4 v5 d = some (if t ≤ 380 then ((t : Int) + 20, fd9 113 21 126 t (by9 v1 v2 v3 v4 v5) (wI d 113 0 0) 20) else (-1, wI d 113 0 0)) := by
  unfold X12_feed
  have h0' : (wI d 113 0 0).1 113 21 = t := h0
  rw [lt_pos, h0', gd_pos (by omega)]
  generalize wI d 113 0 0 = e at h0'
  by_cases c : t ≤ 380
  · rw [if_pos (by omega), if_pos c]
    refine (lpE_for (fun i => ((i : Int), fd9 113 21 126 t (by9 v1 v2 v3 v4 v5) e i)) 20 (fd9 113 21 126 t (by9 v1 v2 v3 v4 v5) e 20) rfl (by omega) (fun i hi => ?_) ?_).trans (by rw [fd_n h0']; rfl)
    · show X12_feed_b23 113 v1 v2 v3 v4 v5 (i : Int) (fd9 113 21 126 t (by9 v1 v2 v3 v4 v5) e i) = _
      have key : X12_feed_j76_23 113 v1 v2 v3 v4 v5 (i : Int) (wd9 v1 v2 v3 v4 v5 i) (fd9 113 21 126 t (by9 v1 v2 v3 v4 v5) e i) = some (.inl (((i + 1 : Nat) : Int), fd9 113 21 126 t (by9 v1 v2 v3 v4 v5) e (i + 1))) := by
        unfold X12_feed_j76_23
        have hn := fd_n (cb := 126) (b := by9 v1 v2 v3 v4 v5) h0' i
        generalize hE : fd9 113 21 126 t (by9 v1 v2 v3 v4 v5) e i = E at hn
        have hn' : E.1 113 21 = ((t + i : Nat) : Int) := by omega
        have e0 : Int.tmod (i : Int) 4 = ((i % 4 : Nat) : Int) := by rw [Int.tmod_eq_emod_of_nonneg (by omega)]; omega
        have e9 : (24 : Int) - 8 * ((i % 4 : Nat) : Int) = ((24 - 8 * (i % 4) : Nat) : Int) := by omega
        rw [hn', Int.toNat_natCast, e0, e9, byte_shr (by omega), gd_pos (by unfold dvg; omega), gd_pos (by omega), lt_pos, lt_pos]
        have e2 : ∀ z, (wI E (113 + 13) (t + i) z).1 113 21 = ((t + i : Nat) : Int) := fun z => hn'
        rw [e2]
        have e3 : fd9 113 21 126 t (by9 v1 v2 v3 v4 v5) e (i + 1) = wI (wI E 126 (t + i) (by9 v1 v2 v3 v4 v5 i)) 113 21 ((t : Int) + (i : Int) + 1) := by rw [← hE]; rfl
        rw [e3, show ((t + i : Nat) : Int) + 1 = (t : Int) + (i : Int) + 1 by omega]
        rfl
      unfold X12_feed_b23
      by_cases c1 : i < 4
      · have : wd9 v1 v2 v3 v4 v5 i = v1 := by unfold wd9; rw [if_pos c1]
        rw [this] at key
        simp (disch := omega) only [gd_pos, if_pos, if_neg, lt_pos, reduceIte]; exact key
      · by_cases c2 : i < 8
        · have : wd9 v1 v2 v3 v4 v5 i = v2 := by unfold wd9; rw [if_neg c1, if_pos c2]
          rw [this] at key
          simp (disch := omega) only [gd_pos, if_pos, if_neg, lt_pos, reduceIte]; exact key
        · by_cases c3 : i < 12
          · have : wd9 v1 v2 v3 v4 v5 i = v3 := by unfold wd9; rw [if_neg c1, if_neg c2, if_pos c3]
            rw [this] at key
            simp (disch := omega) only [gd_pos, if_pos, if_neg, lt_pos, reduceIte]; exact key
          · by_cases c4 : i < 16
            · have : wd9 v1 v2 v3 v4 v5 i = v4 := by unfold wd9; rw [if_neg c1, if_neg c2, if_neg c3, if_pos c4]
              rw [this] at key
              simp (disch := omega) only [gd_pos, if_pos, if_neg, lt_pos, reduceIte]; exact key
            · have : wd9 v1 v2 v3 v4 v5 i = v5 := by unfold wd9; rw [if_neg c1, if_neg c2, if_neg c3, if_neg c4]
              rw [this] at key
              simp (disch := omega) only [gd_pos, if_pos, if_neg, lt_pos, reduceIte]; exact key
    · show X12_feed_b23 113 v1 v2 v3 v4 v5 ((20 : Nat) : Int) _ = _
      unfold X12_feed_b23
      rw [gd_pos (by omega), if_pos (by omega)]
  · rw [if_neg (by omega), if_neg c]
/-! the tape's place in the invariant -/
def chP (c j : Nat) : Bool := (c == 1 && (j == 7 || j == 8)) || c == 44 || (c == 113 && (j == 21 || j == 30)) || c == 126
theorem Inv.tape {k : Nat} {x x' : XS} (h : Inv k x) (hk : k < 512) (hA : ∀ c j, rel c j = true → chP c j = false → x'.1.1 c j = x.1.1 c j) (hz : xzc x' = xzc x ∧ xzf x' = xzf x ∧ xe x' = 0 ∧ xok9 x') (hc : xc x' ≤ xc x + 100 ∧ xs x' ≤ xs x + 1000)
    (hnew : ∀ tp, PI9 (vw x.1.1) tp → ∃ tp', PI9 (vw x'.1.1) tp') : Inv (k + 1) x' := by
  obtain ⟨⟨z1, z2, z3, z4, z5, z6, z7⟩, r, p, m, D, U, tp, kr, la, hS, hH, hP, hK, hLi, hN, hC, hT, hV, hI⟩ := h
  have hAg : Ag9 chP (vw x.1.1) (vw x'.1.1) := Ag9.of hA
  obtain ⟨tp', hP'⟩ := hnew tp hP
  obtain ⟨e1, e2, e3, e4⟩ := hz
  refine ⟨⟨(by omega), by rw [e1]; exact z2, by rw [e2]; exact z3, e3, e4, by rw [e1, e2]; omega, by rw [e1, e2]; omega⟩, r, p, m, D, U, tp', kr, la, ?_⟩
  rw [e1, e2]
  exact ⟨(hS.cg hAg ⟨fun _ => rfl, fun _ => rfl, fun _ => rfl, fun _ => rfl, fun _ => rfl, fun _ => rfl, fun _ => rfl, fun _ => rfl, fun _ => rfl, fun _ => rfl, fun _ => rfl⟩ ⟨rfl, rfl, rfl, rfl, rfl, rfl, rfl, rfl⟩).up, hH.cg hAg ⟨fun _ => rfl, fun _ => rfl, fun _ => rfl, fun _ => rfl, fun _ => rfl, fun _ => rfl, fun _ => rfl, fun _ => rfl⟩ ⟨rfl, rfl, rfl, rfl⟩, hP', hK.cg hAg ⟨fun _ => rfl, fun _ => rfl⟩ ⟨rfl, rfl, rfl⟩, hLi.cg hAg ⟨fun _ => rfl, fun _ => rfl, fun _ => rfl⟩ ⟨rfl, rfl, rfl, rfl, rfl, rfl, rfl⟩, hN.cg hAg (fun _ => rfl) rfl, CI.cg hC hAg ⟨fun _ => rfl, fun _ => rfl⟩ ⟨rfl, rfl⟩, hT.cg hAg ⟨fun _ => rfl, fun _ => rfl, fun _ => rfl, fun _ => rfl⟩ rfl, VI9.cg hV hAg ⟨rfl, rfl, rfl⟩ ⟨fun _ => rfl, fun _ => rfl⟩, (hI.cg hAg ⟨fun _ => rfl, fun _ => rfl, fun _ => rfl, fun _ => rfl, fun _ => rfl, fun _ => rfl, fun _ => rfl, fun _ => rfl, fun _ => rfl, fun _ => rfl, fun _ => rfl, fun _ => rfl, fun _ => rfl⟩ ⟨rfl, rfl, rfl, rfl, rfl⟩).up⟩
theorem Inv.tp {k : Nat} {x : XS} (h : Inv k x) : ∃ tp : Nat, x.1.1 1 7 = tp ∧ x.1.1 113 21 = tp ∧ tp ≤ 400 ∧ (∀ j, j < tp → x.1.1 44 j = x.1.1 126 j ∧ 0 ≤ x.1.1 126 j ∧ x.1.1 126 j ≤ 255) ∧ x.1.1 1 8 = x.1.1 113 30 ∧ -1 ≤ x.1.1 113 30 ∧ x.1.1 113 30 ≤ 400 := by
  obtain ⟨-, r, p, m, D, U, tp, kr, la, -, -, ⟨h1, h2, h3, h4, h5, h6, h7⟩, -⟩ := h
  exact ⟨tp, h1, h2, h3, h4, h5, h6, h7⟩
/-- what n bytes leave -/
def Fdd9 (cc ci cb t n : Nat) (b : Nat → Int) (d A : DA) : Prop := (∀ c, c ≠ cc → c ≠ cb → A.1 c = d.1 c) ∧ (∀ i, i ≠ ci → A.1 cc i = d.1 cc i) ∧ A.1 cc ci = (t : Int) + n ∧ ∀ j, A.1 cb j = if t ≤ j ∧ j < t + n then b (j - t) else d.1 cb j
theorem fd_all {cc ci cb t : Nat} {b : Nat → Int} {d : DA} (h1 : cc ≠ cb) (h0 : d.1 cc ci = t) (n : Nat) : Fdd9 cc ci cb t n b d (fd9 cc ci cb t b d n) :=
  ⟨fun _ z1 z2 => fd_o z1 z2 n, fun _ z => fd_i h1 z n, fd_n h0 n, fun j => fd_b (Ne.symm h1) n j⟩
theorem x11_feed2 {d : DA} {t n : Nat} {v1 v2 v3 v4 v5 : Int} (h0 : d.1 1 7 = t) (ht : t ≤ 380) (hn : n = 20) : ∃ A, X11_feed 1 v1 v2 v3 v4 v5 d = some ((t : Int) + n, A) ∧ Fdd9 1 7 44 t n (by9 v1 v2 v3 v4 v5) d A := by
  refine ⟨fd9 1 7 44 t (by9 v1 v2 v3 v4 v5) d n, ?_, fd_all (by decide) h0 n⟩
  subst hn
  rw [x11_feed h0 (by omega), if_pos ht, show ((20 : Nat) : Int) = 20 from rfl]
theorem x12_feed2 {d : DA} {t n : Nat} {v1 v2 v3 v4 v5 : Int} (h0 : d.1 113 21 = t) (ht : t ≤ 380) (hn : n = 20) : ∃ B, X12_feed 113 v1 v2 v3 v4 v5 d = some ((t : Int) + n, B) ∧ Fdd9 113 21 126 t n (by9 v1 v2 v3 v4 v5) (wI d 113 0 0) B := by
  have h0' : (wI d 113 0 0).1 113 21 = t := h0
  refine ⟨fd9 113 21 126 t (by9 v1 v2 v3 v4 v5) (wI d 113 0 0) n, ?_, fd_all (by decide) h0' n⟩
  subst hn
  rw [x12_feed h0 (by omega), if_pos ht, show ((20 : Nat) : Int) = 20 from rfl]

/-! ===== hexagons: the class ===== -/
theorem x9_hsum {d : DA} {n F R : Nat → Int} {r p a b c e g h : Nat} (hE : CD d n F R r p) (h3 : r ≤ 3) (ha : a < r) (hb : b < r) (hc : c < r) (he : e < r) (hg : g < r) (hh : h < r) : X9_hexagonSum 11 (six c a b e g 0 : Nat) (thr 0 c e : Nat) (six a b c e 0 h : Nat) d = some (sm r fun k => F (six c a b e g k) * R (thr k c e) * F (six a b c e k h)) := by
  obtain ⟨k1, k2, k3, k4, k5⟩ := hE
  unfold X9_hexagonSum
  refine lpS9 (r := r) (fun k => F (six c a b e g k) * R (thr k c e) * F (six a b c e k h)) (by omega) (fun i hi => ?_) ?_
  · show X9_hexagonSum_b6 11 _ _ _ (sm i _) (i : Int) d = _
    unfold X9_hexagonSum_b6
    have k1' : d.1 (11 - 6) 0 = r := k1
    have k3' : d.1 (11 + 1) = F := k3
    have k4' : d.1 (11 + 2) = R := k4
    have s1 : ((six c a b e g 0 : Nat) : Int) + (i : Int) = ((six c a b e g i : Nat) : Int) := by unfold six; omega
    have s2 : ((thr 0 c e : Nat) : Int) + 9 * (i : Int) = ((thr i c e : Nat) : Int) := by unfold thr; omega
    have s3 : ((six a b c e 0 h : Nat) : Int) + 3 * (i : Int) = ((six a b c e i h : Nat) : Int) := by unfold six; omega
    have l1 : six c a b e g i < 729 := by unfold six; omega
    have l2 : thr i c e < 27 := by unfold thr; omega
    have l3 : six a b c e i h < 729 := by unfold six; omega
    rw [k1', gd_pos (by omega), if_neg (by omega), s1, gd_pos (by omega), s2, gd_pos (by omega), s3, gd_pos (by omega), lt_pos, k3', k4', Int.toNat_natCast, Int.toNat_natCast, Int.toNat_natCast]
    rfl
  · show X9_hexagonSum_b6 11 _ _ _ (sm r _) (r : Int) d = _
    unfold X9_hexagonSum_b6
    have k1' : d.1 (11 - 6) 0 = r := k1
    rw [k1', gd_pos (by omega), if_pos (by omega)]
/-- a level of a loop over kinds, whatever holds -/
theorem lvG {b : Int × DA → Option ((Int × DA) ⊕ DA)} {P : Ac9 → DA → Prop} {r : Nat} (h3 : r ≤ 3) (h5 : ∀ s d, P s d → d.1 5 0 = r) (bo : Int → DA → Option ((Int × DA) ⊕ DA)) {K : Nat} {G : Nat → Ac9 → Ac9} (hG : ∀ v m s, v < r → Bd9a m s → Bd9a (m + K) (G v s)) (hb : ∀ v d, b (v, d) = gd (inR v ∧ inR (d.1 5 0)) (if d.1 5 0 ≤ v then some (.inr d) else bo v d)) {M : Nat} (hM : M + 3 * K ≤ 90000) (ho : ∀ (v : Nat) s d, v < r → Bd9a (M + 2 * K) s → P s d → ∃ d', bo v d = some (.inl ((v : Int) + 1, d')) ∧ P (G v s) d') {s : Ac9} {d : DA} (hs : Bd9a M s) (h : P s d) : ∃ d', (∀ {Y : Type} (k : DA → Option Y), lpE b (0, d) k = k d') ∧ P (fo9 G r s) d' := by
  have key := lev9i (b := b) (P := fun v d => Bd9a (M + v * K) (fo9 G v s) ∧ P (fo9 G v s) d) (r := r) (by omega) (fun v d hv hP => by
    obtain ⟨h1, h2⟩ := hP
    have hk : v * K ≤ 2 * K := Nat.mul_le_mul_right K (by omega)
    obtain ⟨d', e1, e2⟩ := ho v _ d hv (h1.up (by omega)) h2
    refine ⟨d', ?_, (hG v _ _ hv h1).up (by rw [Nat.succ_mul]; omega), e2⟩
    have := h5 _ _ h2
    rw [hb, this, gd_pos (by omega), if_neg (by omega)]; exact e1) (fun d hP => by
    have := h5 _ _ hP.2
    rw [hb, this, gd_pos (by omega), if_pos (by omega)]) (d := d) ⟨hs.up (by omega), h⟩
  obtain ⟨d', e1, e2⟩ := key
  exact ⟨d', e1, e2.2⟩
def PH (d0 : DA) (s : Ac9) (d : DA) : Prop := FrC d0 d ∧ d.1 11 6 = s.1 ∧ d.1 11 7 = s.2.1
theorem hv5 {d0 d : DA} {n F R : Nat → Int} {r p M : Nat} {x : Nat → Nat} {s : Ac9} (hE : CE d0 n F R r p) (hR : ∀ a b c, a < r → b < r → c < r → 0 ≤ R (thr a b c) ∧ R (thr a b c) < p) (hx : ∀ q, q < 5 → x q < r) (c1 : n (ti (x 0) (x 2) (x 4)) = 1) (c2 : n (ti (x 4) (x 1) (x 3)) = 1) (hM : M ≤ 80000) (hs : Bd9a M s) (h : PH d0 s d) : ∃ d', (∀ {Y : Type} (f : DA → Option Y), lpE (fun q => X9_checkHexagonsOf_b49 11 58 (x 0) (x 1) (x 2) (x 3) (x 4) q.1 q.2) (0, d) f = f d') ∧ PH d0 (sp9 r false (fun _ _ => true) (hxS n) (hxB F R p r) 1 5 x s) d' := by
  have h3 := hE.2.2.1
  obtain ⟨h2, h31⟩ := hE.2.2.2.1
  have h5 : ∀ s d, PH d0 s d → d.1 5 0 = r := fun s d hP => (hP.1.D hE.1).1
  rw [sp9_f]
  refine lvG h3 h5 (fun v d => b1 (X8_at 5 (x 1) (x 2) v d) fun x3 => gd (inR x3 ∧ inR 1) <| if x3 = 1 then (b1 (X8_at 5 (x 0) v (x 3) d) fun x4 => gd (inR x4 ∧ inR 1) <| if x4 = 1 then (lt9 (wI d 11 6 ((d.1 11 6) + 1)) fun d5 => b1 (X9_swapPlace (x 0) (x 2) (x 4) d5) fun x6 => gd (ix x6 27) <| b1 (X9_place (x 0) (x 2) (x 1) (x 3) (x 4) v d5) fun x7 => gd (ix x7 729) <| b1 (X9_swapPlace (x 1) (x 2) v d5) fun x8 => gd (ix x8 27) <| lt9 (((d5.1 13 (Int.toNat x6)) * (d5.1 12 (Int.toNat x7))) * (d5.1 13 (Int.toNat x8))) fun x9 => b1 (X9_place (x 2) (x 0) (x 1) (x 3) (x 4) 0 d5) fun x10 => b1 (X9_swapPlace 0 (x 2) (x 3) d5) fun x11 => b1 (X9_place (x 0) (x 1) (x 2) (x 3) 0 v d5) fun x12 => b1 (X9_hexagonSum 11 x10 x11 x12 d5) fun x13 => b1 (X3_reduce 58 x9 d5) fun x14 => b1 (X3_reduce 58 x13 d5) fun x15 => gd (inR x14 ∧ inR x15) <| if x14 = x15 then (X9_checkHexagonsOf_j213_49 11 58 (x 0) (x 1) (x 2) (x 3) (x 4) v (d5.1 11 7) 0 d5) else X9_checkHexagonsOf_j213_49 11 58 (x 0) (x 1) (x 2) (x 3) (x 4) v (d5.1 11 7) 1 d5) else some (.inl (v + 1, d))) else some (.inl (v + 1, d))) (K := 3 ^ 0) (fun v m s _ hs => spG_bd (may := fun _ _ => true) (S := hxS n) (H := hxB F R p r) (i := 5) (x := x) h3 v m s hs) (fun v d => rfl) (M := M) (by omega) (fun g s d hg hB hP => ?_) hs h
  obtain ⟨k1, k2, k3, k4, k5⟩ := hP.1.D hE.1
  have b1 := hE.n9 (hx 1 (by omega)) (hx 2 (by omega)) hg
  have b2 := hE.n9 (hx 0 (by omega)) hg (hx 3 (by omega))
  have x5 : ∀ q, q < 5 → x q < 5 := fun q hq => by have := hx q hq; omega
  have xe : ∀ q, q < 5 → fu x 5 g q = x q := fun q hq => fu_ne (by omega)
  have xf : fu x 5 g 5 = g := by rw [fu_app, if_pos rfl]
  rw [if_pos rfl, sp9_z]
  have eS : hxS n (fu x 5 g) = decide (n (ti (x 1) (x 2) g) = 1 ∧ n (ti (x 0) g (x 3)) = 1) := by
    unfold hxS
    rw [xe 0 (by omega), xe 1 (by omega), xe 2 (by omega), xe 3 (by omega), xe 4 (by omega), xf]
    by_cases z : n (ti (x 1) (x 2) g) = 1 ∧ n (ti (x 0) g (x 3)) = 1
    · rw [decide_eq_true z, decide_eq_true ⟨c1, c2, z.1, z.2⟩]
    · rw [decide_eq_false z, decide_eq_false (fun y => z ⟨y.2.2.1, y.2.2.2⟩)]
  rw [eS, b1_pos (x8_at9 k2 (x5 1 (by omega)) (x5 2 (by omega)) (by omega)), gd_pos (by omega)]
  by_cases z1 : n (ti (x 1) (x 2) g) = 1
  · rw [if_pos z1, b1_pos (x8_at9 k2 (x5 0 (by omega)) (by omega) (x5 3 (by omega))), gd_pos (by omega)]
    by_cases z2 : n (ti (x 0) g (x 3)) = 1
    · rw [if_pos z2, decide_eq_true ⟨z1, z2⟩, lt_pos, hP.2.1]
      generalize hd5 : wI d 11 6 ((s.1 : Int) + 1) = d5
      have g5 : FrC d0 d5 := by rw [← hd5]; exact hP.1.n (Or.inl rfl)
      have hD5 := g5.D hE.1
      obtain ⟨m1, m2, m3, m4, m5⟩ := hD5
      have w7 : d5.1 11 7 = s.2.1 := by rw [← hd5, wI_at, fu_n (by decide)]; exact hP.2.2
      have w6 : d5.1 11 6 = ((s.1 + 1 : Nat) : Int) := by rw [← hd5, wI_at, fu_s]; omega
      have th : ∀ (a b c : Nat), X9_swapPlace (a : Int) b c d5 = some ((thr a b c : Nat) : Int) := fun a b c => by
        unfold X9_swapPlace thr
        refine congrArg some ?_
        omega
      have sx : ∀ (a b c e g h : Nat), X9_place (a : Int) b c e g h d5 = some ((six a b c e g h : Nat) : Int) := fun a b c e g h => by
        unfold X9_place six
        refine congrArg some ?_
        omega
      have t0 : X9_swapPlace 0 (x 2) (x 3) d5 = some ((thr 0 (x 2) (x 3) : Nat) : Int) := th 0 (x 2) (x 3)
      have s0 : X9_place (x 2) (x 0) (x 1) (x 3) (x 4) 0 d5 = some ((six (x 2) (x 0) (x 1) (x 3) (x 4) 0 : Nat) : Int) := sx _ _ _ _ _ 0
      have s1 : X9_place (x 0) (x 1) (x 2) (x 3) 0 g d5 = some ((six (x 0) (x 1) (x 2) (x 3) 0 g : Nat) : Int) := sx _ _ _ _ 0 _
      have l1 : thr (x 0) (x 2) (x 4) < 27 := by have := hx 0 (by omega); have := hx 2 (by omega); have := hx 4 (by omega); unfold thr; omega
      have l2 : six (x 0) (x 2) (x 1) (x 3) (x 4) g < 729 := by have := hx 0 (by omega); have := hx 1 (by omega); have := hx 2 (by omega); have := hx 3 (by omega); have := hx 4 (by omega); unfold six; omega
      have l3 : thr (x 1) (x 2) g < 27 := by have := hx 1 (by omega); have := hx 2 (by omega); unfold thr; omega
      have hsum := x9_hsum (a := x 0) (b := x 1) (c := x 2) (e := x 3) (g := x 4) (h := g) (g5.D hE.1) h3 (hx 0 (by omega)) (hx 1 (by omega)) (hx 2 (by omega)) (hx 3 (by omega)) (hx 4 (by omega)) hg
      have tb : ∀ k, k < r → 0 ≤ F (six (x 2) (x 0) (x 1) (x 3) (x 4) k) * R (thr k (x 2) (x 3)) * F (six (x 0) (x 1) (x 2) (x 3) k g) ∧ F (six (x 2) (x 0) (x 1) (x 3) (x 4) k) * R (thr k (x 2) (x 3)) * F (six (x 0) (x 1) (x 2) (x 3) k g) ≤ 27000 := fun k hk => tri_bd h31 (hE.2.2.2.2 _ _ _ _ _ _ (hx 2 (by omega)) (hx 0 (by omega)) (hx 1 (by omega)) (hx 3 (by omega)) (hx 4 (by omega)) hk) (hR _ _ _ hk (hx 2 (by omega)) (hx 3 (by omega))) (hE.2.2.2.2 _ _ _ _ _ _ (hx 0 (by omega)) (hx 1 (by omega)) (hx 2 (by omega)) (hx 3 (by omega)) hk hg)
      have sb := sm_bd (lo := 0) (hi := 27000) r tb
      have lb := tri_bd h31 (hR _ _ _ (hx 0 (by omega)) (hx 2 (by omega)) (hx 4 (by omega))) (hE.2.2.2.2 _ _ _ _ _ _ (hx 0 (by omega)) (hx 2 (by omega)) (hx 1 (by omega)) (hx 3 (by omega)) (hx 4 (by omega)) hg) (hR _ _ _ (hx 1 (by omega)) (hx 2 (by omega)) hg)
      have eT : (sm r fun k => F (six (x 2) (x 0) (x 1) (x 3) (x 4) k) * R (thr k (x 2) (x 3)) * F (six (x 0) (x 1) (x 2) (x 3) k g)) = sm r (hxT F R (fu x 5 g)) := by
        refine sm_congr r (fun k hk => ?_)
        unfold hxT
        rw [xe 0 (by omega), xe 1 (by omega), xe 2 (by omega), xe 3 (by omega), xe 4 (by omega), xf]
      have eL : R (thr (x 0) (x 2) (x 4)) * F (six (x 0) (x 2) (x 1) (x 3) (x 4) g) * R (thr (x 1) (x 2) g) = hxL F R (fu x 5 g) := by
        unfold hxL
        rw [xe 0 (by omega), xe 1 (by omega), xe 2 (by omega), xe 3 (by omega), xe 4 (by omega), xf]
      rw [eT] at hsum sb
      rw [eL] at lb
      have sb2 : 0 ≤ sm r (hxT F R (fu x 5 g)) ∧ sm r (hxT F R (fu x 5 g)) ≤ 81000 := by
        have : (r : Int) * 27000 ≤ 81000 := by omega
        omega
      have q1 := em_bd (show 0 < p by omega) (hxL F R (fu x 5 g))
      have q2 := em_bd (show 0 < p by omega) (sm r (hxT F R (fu x 5 g)))
      rw [b1_pos (th _ _ _), gd_pos (by omega), b1_pos (sx _ _ _ _ _ _), gd_pos (by omega), b1_pos (th _ _ _), gd_pos (by omega), lt_pos, m3, m4, Int.toNat_natCast, Int.toNat_natCast, Int.toNat_natCast, eL, b1_pos s0, b1_pos t0, b1_pos s1, b1_pos hsum, b1_pos (x3_reduce m5 h2 h31 (by omega) (by omega)), b1_pos (x3_reduce m5 h2 h31 (by omega) (by omega)), gd_pos (by omega), w7]
      have j : ∀ v : Int, X9_checkHexagonsOf_j213_49 11 58 (x 0) (x 1) (x 2) (x 3) (x 4) g (s.2.1 : Int) v d5 = some (.inl ((g : Int) + 1, wI d5 11 7 ((s.2.1 : Int) + v))) := fun v => rfl
      by_cases cB : hxB F R p r (fu x 5 g) = true
      · rw [if_pos ((em_iff (by omega)).mpr (hxB_iff.mp cB)), cB, j 0]
        exact ⟨_, rfl, g5.n (Or.inr rfl), by rw [wI_at, fu_n (by decide)]; exact w6, by rw [wI_at, fu_s]; show (s.2.1 : Int) + 0 = (s.2.1 : Int); omega⟩
      · have cB' : hxB F R p r (fu x 5 g) = false := by cases h : hxB F R p r (fu x 5 g); rfl; exact absurd h cB
        rw [if_neg (fun y => cB (hxB_iff.mpr ((em_iff (by omega)).mp y))), cB', j 1]
        exact ⟨_, rfl, g5.n (Or.inr rfl), by rw [wI_at, fu_n (by decide)]; exact w6, by rw [wI_at, fu_s]; show (s.2.1 : Int) + 1 = ((s.2.1 + 1 : Nat) : Int); omega⟩
    · rw [if_neg z2, decide_eq_false (fun y => z2 y.2)]
      exact ⟨d, rfl, hP⟩
  · rw [if_neg z1, decide_eq_false (fun y => z1 y.1)]
    exact ⟨d, rfl, hP⟩
/-- hexagons with nothing at the last place fall out -/
theorem sp_none {r : Nat} {S H : (Nat → Nat) → Bool} {i : Nat} {x : Nat → Nat} {s : Ac9} (h : ∀ v, S (fu x i v) = false) : sp9 r false (fun _ _ => true) S H 1 i x s = s := by
  rw [sp9_f]
  have : ∀ j, fo9 (fun v s => if true = true then sp9 r false (fun _ _ => true) S H 0 (i + 1) (fu x i v) s else s) j s = s := by
    intro j
    induction j with
    | zero => rfl
    | succ j ih =>
      unfold fo9
      rw [ih, if_pos rfl, sp9_z, h j]
      rfl
  exact this r
theorem hv4 {d0 d : DA} {n F R : Nat → Int} {r p M : Nat} {x : Nat → Nat} {s : Ac9} (hE : CE d0 n F R r p) (hR : ∀ a b c, a < r → b < r → c < r → 0 ≤ R (thr a b c) ∧ R (thr a b c) < p) (hx : ∀ q, q < 4 → x q < r) (hM : M ≤ 70000) (hs : Bd9a M s) (h : PH d0 s d) : ∃ d', X9_checkHexagonsOf 11 58 (x 0) (x 1) (x 2) (x 3) d = some ((), d') ∧ PH d0 (sp9 r false (fun _ _ => true) (hxS n) (hxB F R p r) 2 4 x s) d' := by
  have h3 := hE.2.2.1
  have h5 : ∀ s d, PH d0 s d → d.1 5 0 = r := fun s d hP => (hP.1.D hE.1).1
  have key : ∃ d', (∀ {Y : Type} (f : DA → Option Y), lpE (fun q => X9_checkHexagonsOf_b3 11 58 (x 0) (x 1) (x 2) (x 3) q.1 q.2) (0, d) f = f d') ∧ PH d0 (sp9 r false (fun _ _ => true) (hxS n) (hxB F R p r) 2 4 x s) d' := by
    rw [sp9_f]
    refine lvG h3 h5 (fun v d => b1 (X8_at 5 (x 0) (x 2) v d) fun x1 => gd (inR x1 ∧ inR 1) <| if x1 = 1 then (b1 (X8_at 5 v (x 1) (x 3) d) fun x2 => gd (inR x2 ∧ inR 1) <| if x2 = 1 then (lpE (fun q => X9_checkHexagonsOf_b49 11 58 (x 0) (x 1) (x 2) (x 3) v q.1 q.2) (0, d) (fun e => some (.inl (v + 1, e)))) else some (.inl (v + 1, d))) else some (.inl (v + 1, d))) (K := 3 ^ 1) (fun v m s _ hs => spG_bd (may := fun _ _ => true) (S := hxS n) (H := hxB F R p r) (i := 4) (x := x) h3 v m s hs) (fun v d => rfl) (M := M) (by omega) (fun e s d he hB hP => ?_) hs h
    have k2 := (hP.1.D hE.1).2.1
    have b1 := hE.n9 (hx 0 (by omega)) (hx 2 (by omega)) he
    have b2 := hE.n9 he (hx 1 (by omega)) (hx 3 (by omega))
    have x5 : ∀ q, q < 4 → x q < 5 := fun q hq => by have := hx q hq; omega
    have xe : ∀ q, q < 4 → fu x 4 e q = x q := fun q hq => fu_ne (by omega)
    have xf : fu x 4 e 4 = e := by rw [fu_app, if_pos rfl]
    rw [if_pos rfl, b1_pos (x8_at9 k2 (x5 0 (by omega)) (x5 2 (by omega)) (by omega)), gd_pos (by omega)]
    by_cases z1 : n (ti (x 0) (x 2) e) = 1
    · rw [if_pos z1, b1_pos (x8_at9 k2 (by omega) (x5 1 (by omega)) (x5 3 (by omega))), gd_pos (by omega)]
      by_cases z2 : n (ti e (x 1) (x 3)) = 1
      · rw [if_pos z2]
        obtain ⟨d', e1, e2⟩ := hv5 (x := fu x 4 e) hE hR (fun q hq => by
          by_cases c : q = 4
          · subst c; rw [xf]; exact he
          · rw [xe q (by omega)]; exact hx q (by omega)) (by rw [xe 0 (by omega), xe 2 (by omega), xf]; exact z1) (by rw [xf, xe 1 (by omega), xe 3 (by omega)]; exact z2) (M := M + 2 * 3 ^ 1) (by omega) hB hP
        rw [xe 0 (by omega), xe 1 (by omega), xe 2 (by omega), xe 3 (by omega), xf] at e1
        rw [e1]
        exact ⟨d', rfl, e2⟩
      · rw [if_neg z2, sp_none (fun v => by
          unfold hxS
          refine decide_eq_false (fun y => z2 ?_)
          have xx : ∀ q, q < 5 → fu (fu x 4 e) (4 + 1) v q = fu x 4 e q := fun q hq => fu_ne (by omega)
          have := y.2.1
          rw [xx 4 (by omega), xx 1 (by omega), xx 3 (by omega), xf, xe 1 (by omega), xe 3 (by omega)] at this
          exact this)]
        exact ⟨d, rfl, hP⟩
    · rw [if_neg z1, sp_none (fun v => by
        unfold hxS
        refine decide_eq_false (fun y => z1 ?_)
        have xx : ∀ q, q < 5 → fu (fu x 4 e) (4 + 1) v q = fu x 4 e q := fun q hq => fu_ne (by omega)
        have := y.1
        rw [xx 0 (by omega), xx 2 (by omega), xx 4 (by omega), xf, xe 0 (by omega), xe 2 (by omega)] at this
        exact this)]
      exact ⟨d, rfl, hP⟩
  obtain ⟨d', e1, e2⟩ := key
  exact ⟨d', e1 _, e2⟩
theorem hvs {d0 : DA} {n F R : Nat → Int} {r p : Nat} (hE : CE d0 n F R r p) (hR : ∀ a b c, a < r → b < r → c < r → 0 ≤ R (thr a b c) ∧ R (thr a b c) < p) : ∃ d', X9_checkHexagons 11 58 d0 = some ((), d') ∧ PH d0 (hx9 n F R p r) d' := by
  have h3 := hE.2.2.1
  have h5 : ∀ s d, PH d0 s d → d.1 5 0 = r := fun s d hP => (hP.1.D hE.1).1
  have hP : PH d0 (0, 0, fun _ => 0) (wI (wI d0 11 6 0) 11 7 0) := ⟨((FrC.rf d0).n (Or.inl rfl)).n (Or.inr rfl), rfl, rfl⟩
  have l3 : ∀ (x : Nat → Nat) (s : Ac9) (d : DA) (M : Nat), (∀ q, q < 3 → x q < r) → M ≤ 60000 → Bd9a M s → PH d0 s d → ∃ d', (∀ {Y : Type} (f : DA → Option Y), lpE (fun q => X9_checkHexagons_b54 11 58 (x 0) (x 1) (x 2) q.1 q.2) (0, d) f = f d') ∧ PH d0 (sp9 r false (fun _ _ => true) (hxS n) (hxB F R p r) 3 3 x s) d' := fun x s d M hx hM hs h => by
    rw [sp9_f]
    refine lvG h3 h5 (fun v d => bd (X9_checkHexagonsOf 11 58 (x 0) (x 1) (x 2) v d) fun _ d3 => some (.inl (v + 1, d3))) (K := 3 ^ 2) (fun v m s _ hs => spG_bd (may := fun _ _ => true) (S := hxS n) (H := hxB F R p r) (i := 3) (x := x) h3 v m s hs) (fun v d => rfl) (M := M) (by omega) (fun e s d he hB hP => ?_) hs h
    have xe : ∀ q, q < 3 → fu x 3 e q = x q := fun q hq => fu_ne (by omega)
    have xf : fu x 3 e 3 = e := by rw [fu_app, if_pos rfl]
    obtain ⟨d', e1, e2⟩ := hv4 (x := fu x 3 e) hE hR (fun q hq => by
      by_cases c : q = 3
      · subst c; rw [xf]; exact he
      · rw [xe q (by omega)]; exact hx q (by omega)) (M := M + 2 * 3 ^ 2) (by omega) hB hP
    rw [xe 0 (by omega), xe 1 (by omega), xe 2 (by omega), xf] at e1
    rw [if_pos rfl, bd_pos e1]
    exact ⟨d', rfl, e2⟩
  have l2 : ∀ (x : Nat → Nat) (s : Ac9) (d : DA) (M : Nat), (∀ q, q < 2 → x q < r) → M ≤ 50000 → Bd9a M s → PH d0 s d → ∃ d', (∀ {Y : Type} (f : DA → Option Y), lpE (fun q => X9_checkHexagons_b39 11 58 (x 0) (x 1) q.1 q.2) (0, d) f = f d') ∧ PH d0 (sp9 r false (fun _ _ => true) (hxS n) (hxB F R p r) 4 2 x s) d' := fun x s d M hx hM hs h => by
    rw [sp9_f]
    refine lvG h3 h5 (fun v d => lpE (fun q => X9_checkHexagons_b54 11 58 (x 0) (x 1) v q.1 q.2) (0, d) (fun e => some (.inl (v + 1, e)))) (K := 3 ^ 3) (fun v m s _ hs => spG_bd (may := fun _ _ => true) (S := hxS n) (H := hxB F R p r) (i := 2) (x := x) h3 v m s hs) (fun v d => rfl) (M := M) (by omega) (fun e s d he hB hP => ?_) hs h
    have xe : ∀ q, q < 2 → fu x 2 e q = x q := fun q hq => fu_ne (by omega)
    have xf : fu x 2 e 2 = e := by rw [fu_app, if_pos rfl]
    obtain ⟨d', e1, e2⟩ := l3 (fu x 2 e) s d (M + 2 * 3 ^ 3) (fun q hq => by
      by_cases c : q = 2
      · subst c; rw [xf]; exact he
      · rw [xe q (by omega)]; exact hx q (by omega)) (by omega) hB hP
    rw [xe 0 (by omega), xe 1 (by omega), xf] at e1
    rw [if_pos rfl, e1]
    exact ⟨d', rfl, e2⟩
  have l1 : ∀ (x : Nat → Nat) (s : Ac9) (d : DA) (M : Nat), (∀ q, q < 1 → x q < r) → M ≤ 40000 → Bd9a M s → PH d0 s d → ∃ d', (∀ {Y : Type} (f : DA → Option Y), lpE (fun q => X9_checkHexagons_b25 11 58 (x 0) q.1 q.2) (0, d) f = f d') ∧ PH d0 (sp9 r false (fun _ _ => true) (hxS n) (hxB F R p r) 5 1 x s) d' := fun x s d M hx hM hs h => by
    rw [sp9_f]
    refine lvG h3 h5 (fun v d => lpE (fun q => X9_checkHexagons_b39 11 58 (x 0) v q.1 q.2) (0, d) (fun e => some (.inl (v + 1, e)))) (K := 3 ^ 4) (fun v m s _ hs => spG_bd (may := fun _ _ => true) (S := hxS n) (H := hxB F R p r) (i := 1) (x := x) h3 v m s hs) (fun v d => rfl) (M := M) (by omega) (fun e s d he hB hP => ?_) hs h
    have xe : ∀ q, q < 1 → fu x 1 e q = x q := fun q hq => fu_ne (by omega)
    have xf : fu x 1 e 1 = e := by rw [fu_app, if_pos rfl]
    obtain ⟨d', e1, e2⟩ := l2 (fu x 1 e) s d (M + 2 * 3 ^ 4) (fun q hq => by
      by_cases c : q = 1
      · subst c; rw [xf]; exact he
      · rw [xe q (by omega)]; exact hx q (by omega)) (by omega) hB hP
    rw [xe 0 (by omega), xf] at e1
    rw [if_pos rfl, e1]
    exact ⟨d', rfl, e2⟩
  have key : ∃ d', (∀ {Y : Type} (f : DA → Option Y), lpE (fun q => X9_checkHexagons_b12 11 58 q.1 q.2) (0, wI (wI d0 11 6 0) 11 7 0) f = f d') ∧ PH d0 (hx9 n F R p r) d' := by
    unfold hx9
    rw [sp9_f]
    refine lvG h3 h5 (fun v d => lpE (fun q => X9_checkHexagons_b25 11 58 v q.1 q.2) (0, d) (fun e => some (.inl (v + 1, e)))) (K := 3 ^ 5) (fun v m s _ hs => spG_bd (may := fun _ _ => true) (S := hxS n) (H := hxB F R p r) (i := 0) (x := fun _ => 0) h3 v m s hs) (fun v d => rfl) (M := 0) (by omega) (fun e s d he hB hP => ?_) ⟨Nat.le_refl _, Nat.le_refl _⟩ hP
    have xf : fu (fun _ => 0) 0 e 0 = e := by rw [fu_app, if_pos rfl]
    obtain ⟨d', e1, e2⟩ := l1 (fu (fun _ => 0) 0 e) s d (0 + 2 * 3 ^ 5) (fun q hq => by
      have : q = 0 := by omega
      subst this; rw [xf]; exact he) (by omega) hB hP
    rw [xf] at e1
    rw [if_pos rfl, e1]
    exact ⟨d', rfl, e2⟩
  obtain ⟨d', e1, e2⟩ := key
  exact ⟨d', by unfold X9_checkHexagons; rw [lt_pos, lt_pos]; exact e1 _, e2⟩

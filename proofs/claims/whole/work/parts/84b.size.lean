/-! ===== sizes, ways: the whole calls ===== -/
def szX (n : Nat → Nat → Nat → Int) (r : Nat) (f : Nat → Int) : Nat → Nat → Int
  | 0 => f
  | t + 1 => pre f (szS n r (szA n r t)) r
theorem nn9 {d : DA} {o : Nat} (h : Nb d o) : N9 (nn d o) := fun _ _ _ hi hj hk => h.at hi hj hk
theorem x8_sizeOf {d : DA} {o r v : Nat} (hr : d.1 o 0 = r) (h1 : 1 ≤ r) (h5 : r ≤ 5) (hn : Nb d o) (hv : v < 5) : ∃ d', X8_sizeOf o v d = some (szA (nn d o) r 100 v, d') ∧ ∃ f g h, d' = wB (wB (wA d (o + 5) f) (o + 3) g) (o + 4) h := by
  unfold X8_sizeOf
  rw [bd_pos (x8_weigh hr h5), bd_pos (fillL (by omega))]
  generalize hD : wA d (o + 5) (pm (d.1 (o + 5)) (fun j k => sm r (fun i => nn d o i j k)) r r 0) = D
  have hD1 : D.1 o 0 = r := by rw [← hD, wA_ne (by omega), hr]
  have hw : ∀ j k, j < r → k < r → D.1 (o + 5) (5 * j + k) = sm r (fun i => nn d o i j k) := fun j k hj hk => by rw [← hD, wA_at, pm_at hj hk h5]
  have hA := szA_bd (r := r) h5 (nn9 hn)
  generalize hf : D.2 (o + 3) = f3
  generalize hg : D.2 (o + 4) = f4
  have key : lpE (fun q => X8_sizeOf_b16 o v q.1 q.2) (0, wB D (o + 3) (pre f3 (fun _ => 1000000) 5)) (fun e => gd (ix (v : Int) 5) <| gd (inR (e.2 (o + 3) (Int.toNat v))) <| some ((e.2 (o + 3) (Int.toNat v), e))) = some (szA (nn d o) r 100 v, wB (wB D (o + 3) (pre f3 (szA (nn d o) r 100) 5)) (o + 4) (szX (nn d o) r f4 100)) := by
    refine (lpE_for (fun t => ((t : Int), wB (wB D (o + 3) (pre f3 (szA (nn d o) r t) 5)) (o + 4) (szX (nn d o) r f4 t))) 100 (wB (wB D (o + 3) (pre f3 (szA (nn d o) r 100) 5)) (o + 4) (szX (nn d o) r f4 100)) ?_ (by omega) (fun t ht => ?_) ?_).trans ?_
    · have : wB (wB D (o + 3) (pre f3 (szA (nn d o) r 0) 5)) (o + 4) (szX (nn d o) r f4 0) = wB D (o + 3) (pre f3 (fun _ => 1000000) 5) := by
        show wB (wB D (o + 3) _) (o + 4) f4 = _
        rw [← hg, wB_cm (by omega), wB_same]; rfl
      rw [this]; rfl
    · unfold X8_sizeOf_b16
      dsimp only
      simp (disch := omega) only [gd_pos, if_pos, if_neg, lt_pos, reduceIte]
      have hbd := hA t
      -- the sums
      refine (lpE_rowL (d := wB (wB D (o + 3) (pre f3 (szA (nn d o) r t) 5)) (o + 4) (szX (nn d o) r f4 t)) (o + 4) r (szS (nn d o) r (szA (nn d o) r t)) (by omega) (fun k hk => ?_) ?_).trans ?_
      · unfold X8_sizeOf_b24
        dsimp only
        rw [wB_wB, show (wB (wB D (o + 3) (pre f3 (szA (nn d o) r t) 5)) (o + 4) (pre ((wB (wB D (o + 3) (pre f3 (szA (nn d o) r t) 5)) (o + 4) (szX (nn d o) r f4 t)).2 (o + 4)) (szS (nn d o) r (szA (nn d o) r t)) k)).1 = D.1 from rfl, hD1]
        simp (disch := omega) only [gd_pos, if_pos, if_neg, lt_pos, reduceIte]
        generalize hE : wB (wB D (o + 3) (pre f3 (szA (nn d o) r t) 5)) (o + 4) (pre ((wB (wB D (o + 3) (pre f3 (szA (nn d o) r t) 5)) (o + 4) (szX (nn d o) r f4 t)).2 (o + 4)) (szS (nn d o) r (szA (nn d o) r t)) k) = E
        have hE1 : E.1 = D.1 := by rw [← hE]; rfl
        have hE3 : E.2 (o + 3) = pre f3 (szA (nn d o) r t) 5 := by rw [← hE, wB_ne (by omega), wB_at]
        refine (lpE_for (fun j => (sm j (fun j => (sm r fun i => nn d o i j k) * szA (nn d o) r t j), (j : Int))) r (szS (nn d o) r (szA (nn d o) r t) k) rfl (by omega) (fun j hj => ?_) ?_).trans ?_
        · unfold X8_sizeOf_b38
          dsimp only
          rw [hE1, hD1, show (5 * (j : Int) + (k : Int)).toNat = 5 * j + k by omega, hw j k hj hk, hE3, Int.toNat_natCast, pre_lt (show j < 5 by omega)]
          have h9 := sm_bd (f := fun i => nn d o i j k) (lo := 0) (hi := 9) r (fun i hi => hn.at (by omega) (by omega) (by omega))
          simp (disch := omega) only [gd_pos, if_pos, if_neg, lt_pos, reduceIte]
          rfl
        · unfold X8_sizeOf_b38
          dsimp only
          rw [hE1, hD1]
          simp (disch := omega) only [gd_pos, if_pos, if_neg, lt_pos, reduceIte]
          rfl
        · unfold X8_sizeOf_j78_24
          rw [Int.toNat_natCast]
          simp (disch := omega) only [gd_pos, if_pos, if_neg, lt_pos, reduceIte]
      · unfold X8_sizeOf_b24
        dsimp only
        rw [wB_wB, show (wB (wB D (o + 3) (pre f3 (szA (nn d o) r t) 5)) (o + 4) (pre ((wB (wB D (o + 3) (pre f3 (szA (nn d o) r t) 5)) (o + 4) (szX (nn d o) r f4 t)).2 (o + 4)) (szS (nn d o) r (szA (nn d o) r t)) r)).1 = D.1 from rfl, hD1]
        simp (disch := omega) only [gd_pos, if_pos, if_neg, lt_pos, reduceIte]
      · unfold X8_sizeOf_j92_16
        rw [wB_wB, wB_at]
        have hx : pre (szX (nn d o) r f4 t) (szS (nn d o) r (szA (nn d o) r t)) r = szX (nn d o) r f4 (t + 1) := by
          cases t with
          | zero => rfl
          | succ t => show pre (pre f4 _ r) _ r = pre f4 _ r; rw [pre_pre]
        rw [hx]
        have hS : ∀ k, k < r → (wB (wB D (o + 3) (pre f3 (szA (nn d o) r t) 5)) (o + 4) (szX (nn d o) r f4 (t + 1))).2 (o + 4) k = szS (nn d o) r (szA (nn d o) r t) k := fun k hk => by
          rw [wB_at]
          show pre f4 _ r k = _
          rw [pre_lt hk]
        have e9 := x8_shrink (d := wB (wB D (o + 3) (pre f3 (szA (nn d o) r t) 5)) (o + 4) (szX (nn d o) r f4 (t + 1))) (o := o) (r := r) hD1 h1 h5 (fun k hk => by rw [hS k hk]; exact szS_bd h5 (nn9 hn) (by omega) hbd)
        rw [bd_pos e9]
        have hG : pre ((wB (wB D (o + 3) (pre f3 (szA (nn d o) r t) 5)) (o + 4) (szX (nn d o) r f4 (t + 1))).2 (o + 3)) (fun k => if (wB (wB D (o + 3) (pre f3 (szA (nn d o) r t) 5)) (o + 4) (szX (nn d o) r f4 (t + 1))).2 (o + 4) 0 = 0 then 0 else mmin ((wB (wB D (o + 3) (pre f3 (szA (nn d o) r t) 5)) (o + 4) (szX (nn d o) r f4 (t + 1))).2 (o + 4) k * 1000000 / (wB (wB D (o + 3) (pre f3 (szA (nn d o) r t) 5)) (o + 4) (szX (nn d o) r f4 (t + 1))).2 (o + 4) 0) 1000000000) r = pre f3 (szA (nn d o) r (t + 1)) 5 := by
          rw [wB_ne (show o + 3 ≠ o + 4 by omega), wB_at]
          show _ = pre f3 (pre (szA (nn d o) r t) (szN (nn d o) r (szA (nn d o) r t)) r) 5
          rw [← pre_pre5 h5]
          funext q
          by_cases hq : q < r
          · rw [pre_lt hq, pre_lt hq]; rw [hS 0 (by omega), hS q hq]; rfl
          · rw [pre_ge hq, pre_ge hq]
        rw [hG, wB_cm (show o + 4 ≠ o + 3 by omega), wB_wB]
        rfl
    · unfold X8_sizeOf_b16
      dsimp only
      simp (disch := omega) only [gd_pos, if_pos, if_neg, lt_pos, reduceIte]
    · have hb := hA 100 v hv
      rw [wB_ne (show o + 3 ≠ o + 4 by omega), wB_at, Int.toNat_natCast, pre_lt hv]
      simp (disch := omega) only [gd_pos, if_pos, if_neg, lt_pos, reduceIte]
  rw [hf] at *
  exact ⟨_, key, _, _, _, by rw [← hD]⟩

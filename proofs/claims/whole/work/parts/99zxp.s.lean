/-! ===== S by a character and turns ===== -/
def wt9 (p : Nat) (c t : Nat → Int) (k : Nat) : Int := (t k * c k) % (p : Int)
def sS9 (n : Nat → Int) (r p : Nat) (iv : Int → Int) (c t : Nat → Int) : Mx := fun i j => ((sm r fun k => n (ti i j k) * wt9 p c t k) % (p : Int) * (iv (t i) * iv (t j))) % (p : Int)
def Dq9 (p r : Nat) (c : Nat → Int) : Int := (sm r fun k => c k * c k) % (p : Int)
def Pq9 (p r : Nat) (c t : Nat → Int) : Int := (sm r fun k => wt9 p c t k * c k) % (p : Int)
def Cb (p r : Nat) (c : Nat → Int) : Prop := ∀ k, k < r → 0 ≤ c k ∧ c k < p
def Tb (p r : Nat) (t : Nat → Int) : Prop := ∀ k, k < r → 1 ≤ t k ∧ t k < p
theorem sS9_b {n : Nat → Int} {r p : Nat} {iv : Int → Int} {c t : Nat → Int} (hp : 0 < p) : Mb p r (sS9 n r p iv c t) := fun _ _ _ _ => em_bd hp _
theorem wt9_b {p : Nat} {c t : Nat → Int} (hp : 0 < p) (k : Nat) : 0 ≤ wt9 p c t k ∧ wt9 p c t k < p := em_bd hp _
/-- the class begins by a character -/
theorem x10_begin {x : XS} {r p ci : Nat} {c : Nat → Int} (k1 : x.1.1 5 0 = r) (h5 : r ≤ 5) (hci : ci < 5) (k3 : x.1.1 58 0 = p) (h2 : 2 ≤ p) (h31 : p ≤ 31) (hc : ∀ k, k < r → x.1.1 62 (5 * ci + k) = c k) (hb : Cb p r c) : ∃ f, X10_begin ci x = some (.inl (), xD (xR4 (xR3 x)) (wI (wA (wI x.1 68 6 (r : Int)) 72 f) 68 7 (Dq9 p r c))) ∧ ∀ k, k < r → f k = c k := by
  obtain ⟨y, hy⟩ : ∃ y, y = xR4 (xR3 x) := ⟨_, rfl⟩
  have hy1 : y.1 = x.1 := by rw [hy]; rfl
  have hyn : xtn y = 58 := by rw [hy]; rfl
  refine ⟨pre (x.1.1 72) c r, ?_, fun k hk => pre_lt hk⟩
  unfold X10_begin
  rw [lt_pos, lt_pos, ← hy, lt_pos, hy1, k1, lt_pos]
  have e0 : xD y (wI x.1 68 6 (r : Int)) = xD y (wA (wI x.1 68 6 (r : Int)) 72 (pre (x.1.1 72) c 0)) := by
    rw [pre_0]
    have : (wI x.1 68 6 (r : Int)).1 72 = x.1.1 72 := by rw [wI_ne (by decide)]
    rw [← this, wA_same]
  rw [e0]
  have sb : ∀ m, m ≤ r → 0 ≤ sm m (fun k => c k * c k) ∧ sm m (fun k => c k * c k) ≤ 4500 := fun m hm => by
    have := sm_bd (lo := 0) (hi := 900) (f := fun k => c k * c k) m (fun k hk => by
      have := hb k (by omega)
      exact mlb9 (u := 30) (v := 30) (by omega) (by omega))
    omega
  refine (lpE_for (fun m => (sm m (fun k => c k * c k), (m : Int), xD y (wA (wI x.1 68 6 (r : Int)) 72 (pre (x.1.1 72) c m)))) r (sm r (fun k => c k * c k), xD y (wA (wI x.1 68 6 (r : Int)) 72 (pre (x.1.1 72) c r))) rfl (by omega) (fun m hm => ?_) ?_).trans ?_
  · show X10_begin_b24 ci (sm m (fun k => c k * c k)) (m : Int) (xD y (wA (wI x.1 68 6 (r : Int)) 72 (pre (x.1.1 72) c m))) = some (.inl (sm m (fun k => c k * c k) + c m * c m, ((m + 1 : Nat) : Int), xD y (wA (wI x.1 68 6 (r : Int)) 72 (pre (x.1.1 72) c (m + 1)))))
    have e6 : (xD y (wA (wI x.1 68 6 (r : Int)) 72 (pre (x.1.1 72) c m))).1.1 68 6 = r := by
      show (wA (wI x.1 68 6 (r : Int)) 72 (pre (x.1.1 72) c m)).1 68 6 = r
      rw [wA_ne (by decide), wI_at, fu_s]
    have ea : X1_at 61 ci m (xD y (wA (wI x.1 68 6 (r : Int)) 72 (pre (x.1.1 72) c m))).1 = some (c m) := by
      unfold X1_at
      have ei : ((5 * (ci : Int)) + (m : Int)).toNat = 5 * ci + m := by omega
      rw [gd_pos (by omega), ei]
      show some ((wA (wI x.1 68 6 (r : Int)) 72 (pre (x.1.1 72) c m)).1 62 (5 * ci + m)) = _
      rw [wA_ne (by decide), wI_ne (by decide), hc m hm]
    unfold X10_begin_b24
    have ew : wI (xD y (wA (wI x.1 68 6 (r : Int)) 72 (pre (x.1.1 72) c m))).1 72 m (c m) = wA (wI x.1 68 6 (r : Int)) 72 (pre (x.1.1 72) c (m + 1)) := by
      show wI (wA (wI x.1 68 6 (r : Int)) 72 (pre (x.1.1 72) c m)) 72 m (c m) = _
      rw [wA_wI, pre_s]
    have ev : (wA (wI x.1 68 6 (r : Int)) 72 (pre (x.1.1 72) c (m + 1))).1 72 m = c m := by rw [wA_at, pre_lt (by omega)]
    rw [e6, gd_pos (by omega), if_neg (by omega), b1_pos ea, gd_pos (by omega), lt_pos, Int.toNat_natCast, ew, lt_pos, gd_pos (by omega), gd_pos (by omega), lt_pos]
    show some (Sum.inl (sm m (fun k => c k * c k) + (wA (wI x.1 68 6 (r : Int)) 72 (pre (x.1.1 72) c (m + 1))).1 72 m * (wA (wI x.1 68 6 (r : Int)) 72 (pre (x.1.1 72) c (m + 1))).1 72 m, (m : Int) + 1, xD (xD y _) _)) = _
    rw [ev]
    rfl
  · show X10_begin_b24 ci (sm r (fun k => c k * c k)) (r : Int) (xD y (wA (wI x.1 68 6 (r : Int)) 72 (pre (x.1.1 72) c r))) = _
    have e6 : (xD y (wA (wI x.1 68 6 (r : Int)) 72 (pre (x.1.1 72) c r))).1.1 68 6 = r := by
      show (wA (wI x.1 68 6 (r : Int)) 72 (pre (x.1.1 72) c r)).1 68 6 = r
      rw [wA_ne (by decide), wI_at, fu_s]
    unfold X10_begin_b24
    rw [e6, gd_pos (by omega), if_pos (by omega)]
  · show X10_begin_j74 (sm r (fun k => c k * c k)) (xD y (wA (wI x.1 68 6 (r : Int)) 72 (pre (x.1.1 72) c r))) = _
    unfold X10_begin_j74
    have hn : xtn (xD y (wA (wI x.1 68 6 (r : Int)) 72 (pre (x.1.1 72) c r))) = 58 := hyn
    have p58 : (xD y (wA (wI x.1 68 6 (r : Int)) 72 (pre (x.1.1 72) c r))).1.1 58 0 = p := by
      show (wA (wI x.1 68 6 (r : Int)) 72 (pre (x.1.1 72) c r)).1 58 0 = p
      rw [wA_ne (by decide), wI_ne (by decide)]; exact k3
    have := sb r (Nat.le_refl _)
    rw [gd_pos hn, b1_pos (x3_reduce p58 h2 h31 (by omega) (by omega)), lt_pos, lt_pos]
    rfl
/-- the class fills S for turns -/
theorem x10_fill {d : DA} {n : Nat → Int} {r p a1 n1 : Nat} {iv : Int → Int} {c t : Nat → Int} (h6 : d.1 68 6 = r) (hT : TG n r) (hn6 : d.1 6 = n) (k3 : d.1 58 0 = p) (h2 : 2 ≤ p) (h31 : p ≤ 31) (hiv : IvG p iv) (h9 : ∀ j : Nat, 1 ≤ j → j < p → d.1 59 j = iv j) (hc : ∀ k, k < r → d.1 72 k = c k) (hb : Cb p r c) (ht : ∀ k, k < r → d.1 a1 k = t k) (htb : Tb p r t) (ha : a1 ≠ 68 ∧ a1 ≠ 73 ∧ a1 ≠ 75 ∧ a1 ≠ 76) (hn1 : 5 ≤ n1) (hn2 : n1 < 2147483648) : ∃ f g h, X10_fill 68 a1 n1 d = some ((), wA (wI (wA (wA d 73 f) 75 g) 68 8 (Pq9 p r c t)) 76 h) ∧ (∀ k, k < r → f k = t k) ∧ Ms r h (sS9 n r p iv c t) := by
  have h5 := hT.1.2
  have hp0 : 0 < p := by omega
  refine ⟨pre (d.1 73) t r, pre (d.1 75) (wt9 p c t) r, _, ?_, fun k hk => pre_lt hk, fun i j hi hj => pm_at (G := sS9 n r p iv c t) (f := d.1 76) hi hj h5⟩
  have o2 : ∀ (f g : Nat → Int) (q : Nat), q ≠ 73 → q ≠ 75 → (wA (wA d 73 f) 75 g).1 q = d.1 q := fun f g q z1 z2 => w2_o z1 z2
  have sb : ∀ m, m ≤ r → 0 ≤ sm m (fun k => wt9 p c t k * c k) ∧ sm m (fun k => wt9 p c t k * c k) ≤ 4500 := fun m hm => by
    have := sm_bd (lo := 0) (hi := 900) (f := fun k => wt9 p c t k * c k) m (fun k hk => by
      have b1 := hb k (by omega)
      have b2 := wt9_b (c := c) (t := t) hp0 k
      exact mlb9 (u := 30) (v := 30) (by omega) (by omega))
    omega
  unfold X10_fill
  refine (lpE_for (fun m => (sm m (fun k => wt9 p c t k * c k), (m : Int), wA (wA d 73 (pre (d.1 73) t m)) 75 (pre (d.1 75) (wt9 p c t) m))) r (sm r (fun k => wt9 p c t k * c k), wA (wA d 73 (pre (d.1 73) t r)) 75 (pre (d.1 75) (wt9 p c t) r)) ?_ (by omega) (fun m hm => ?_) ?_).trans ?_
  · rw [pre_0, pre_0, wA_same, wA_same]; rfl
  · show X10_fill_b4 68 a1 n1 (sm m (fun k => wt9 p c t k * c k)) (m : Int) (wA (wA d 73 (pre (d.1 73) t m)) 75 (pre (d.1 75) (wt9 p c t) m)) = some (.inl (sm m (fun k => wt9 p c t k * c k) + wt9 p c t m * c m, ((m + 1 : Nat) : Int), wA (wA d 73 (pre (d.1 73) t (m + 1))) 75 (pre (d.1 75) (wt9 p c t) (m + 1))))
    have b1 := hb m hm
    have b2 := htb m hm
    have mb := mlb9 (u := 30) (v := 30) (show 0 ≤ t m ∧ t m ≤ 30 by omega) (show 0 ≤ c m ∧ c m ≤ 30 by omega)
    have q6 : ∀ f g : Nat → Int, (wA (wA d 73 f) 75 g).1 68 6 = r := fun f g => by rw [o2 f g 68 (by decide) (by decide)]; exact h6
    have qa : ∀ f g : Nat → Int, (wA (wA d 73 f) 75 g).1 a1 m = t m := fun f g => by rw [o2 f g a1 ha.2.1 ha.2.2.1]; exact ht m hm
    have s1 : ∀ f g v, wI (wA (wA d 73 f) 75 g) (68 + 5) m v = wA (wA d 73 (fu f m v)) 75 g := fun f g v => w2_wa (by decide)
    have s2 : ∀ f g v, wI (wA (wA d 73 f) 75 g) (68 + 7) m v = wA (wA d 73 f) 75 (fu g m v) := fun f g v => w2_wb
    have g1 : ∀ g : Nat → Int, (wA (wA d 73 (pre (d.1 73) t (m + 1))) 75 g).1 (68 + 5) m = t m := fun g => by
      show (wA (wA d 73 (pre (d.1 73) t (m + 1))) 75 g).1 73 m = _
      rw [w2_a (by decide), pre_lt (by omega)]
    have g2 : ∀ f g : Nat → Int, (wA (wA d 73 f) 75 g).1 (68 + 4) m = c m := fun f g => by
      show (wA (wA d 73 f) 75 g).1 72 m = _
      rw [o2 f g 72 (by decide) (by decide)]; exact hc m hm
    have g3 : ∀ f : Nat → Int, (wA (wA d 73 f) 75 (pre (d.1 75) (wt9 p c t) (m + 1))).1 (68 + 7) m = wt9 p c t m := fun f => by
      show (wA (wA d 73 f) 75 (pre (d.1 75) (wt9 p c t) (m + 1))).1 75 m = _
      rw [w2_b, pre_lt (by omega)]
    have p58 : ∀ f g : Nat → Int, (wA (wA d 73 f) 75 g).1 58 0 = p := fun f g => by rw [o2 f g 58 (by decide) (by decide)]; exact k3
    have er : ∀ f g : Nat → Int, X3_reduce (68 - 10) (t m * c m) (wA (wA d 73 f) 75 g) = some (wt9 p c t m) := fun f g => x3_reduce (p58 f g) h2 h31 (by omega) (by omega)
    unfold X10_fill_b4
    rw [q6, gd_pos (by omega), if_neg (by omega), gd_pos (by omega), gd_pos (by omega), lt_pos, Int.toNat_natCast, qa, s1, pre_s, gd_pos (by omega), gd_pos (by omega), g1, g2, b1_pos (er _ _), gd_pos (by omega), lt_pos, s2, pre_s, gd_pos (by omega), gd_pos (by omega), lt_pos, g3, g2]
    rfl
  · show X10_fill_b4 68 a1 n1 (sm r (fun k => wt9 p c t k * c k)) (r : Int) (wA (wA d 73 (pre (d.1 73) t r)) 75 (pre (d.1 75) (wt9 p c t) r)) = _
    have q6 : ∀ f g : Nat → Int, (wA (wA d 73 f) 75 g).1 68 6 = r := fun f g => by rw [o2 f g 68 (by decide) (by decide)]; exact h6
    unfold X10_fill_b4
    rw [q6, gd_pos (by omega), if_pos (by omega)]
  · show X10_fill_j69 68 a1 n1 (sm r (fun k => wt9 p c t k * c k)) (wA (wA d 73 (pre (d.1 73) t r)) 75 (pre (d.1 75) (wt9 p c t) r)) = _
    have p58 : ∀ f g : Nat → Int, (wA (wA d 73 f) 75 g).1 58 0 = p := fun f g => by rw [o2 f g 58 (by decide) (by decide)]; exact k3
    have sr := sb r (Nat.le_refl _)
    have er : X3_reduce (68 - 10) (sm r (fun k => wt9 p c t k * c k)) (wA (wA d 73 (pre (d.1 73) t r)) 75 (pre (d.1 75) (wt9 p c t) r)) = some (Pq9 p r c t) := x3_reduce (p58 _ _) h2 h31 (by omega) (by omega)
    unfold X10_fill_j69
    rw [b1_pos er, lt_pos]
    generalize hE : wI (wA (wA d 73 (pre (d.1 73) t r)) 75 (pre (d.1 75) (wt9 p c t) r)) 68 8 (Pq9 p r c t) = E
    have E6 : E.1 68 6 = r := by rw [← hE, wI_at, fu_n (by decide), o2 _ _ 68 (by decide) (by decide)]; exact h6
    have Eo : ∀ q, q ≠ 68 → q ≠ 73 → q ≠ 75 → E.1 q = d.1 q := fun q z1 z2 z3 => by rw [← hE, wI_ne z1, o2 _ _ q z2 z3]
    have E73 : ∀ k, k < r → E.1 73 k = t k := fun k hk => by rw [← hE, wI_ne (by decide), w2_a (by decide), pre_lt hk]
    have E75 : ∀ k, k < r → E.1 75 k = wt9 p c t k := fun k hk => by rw [← hE, wI_ne (by decide), w2_b, pre_lt hk]
    rw [← Eo 76 (by decide) (by decide) (by decide)]
    refine lpE_sq (bi := fun (i : Nat) q => X10_fill_b94 68 a1 n1 i q.1 q.2) 76 r (sS9 n r p iv c t) h5 (fun i hi f => ?_) (fun f => ?_) (fun i j hi hj f hf => ?_) (fun i hi f => ?_)
    · show X10_fill_b83 68 a1 n1 (i : Int) (wA E 76 f) = _
      have e6 : (wA E 76 f).1 68 6 = r := by rw [wA_ne (by decide)]; exact E6
      unfold X10_fill_b83
      rw [e6, gd_pos (by omega), if_neg (by omega)]
    · show X10_fill_b83 68 a1 n1 (r : Int) (wA E 76 f) = _
      have e6 : (wA E 76 f).1 68 6 = r := by rw [wA_ne (by decide)]; exact E6
      unfold X10_fill_b83
      rw [e6, gd_pos (by omega), if_pos (by omega)]
    · show X10_fill_b94 68 a1 n1 i (j : Int) (wA E 76 f) = _
      have e6 : (wA E 76 f).1 68 6 = r := by rw [wA_ne (by decide)]; exact E6
      have eo : ∀ q, q ≠ 76 → (wA E 76 f).1 q = E.1 q := fun q z => wA_ne z
      have en : (wA E 76 f).1 6 = n := by rw [eo 6 (by decide), Eo 6 (by decide) (by decide) (by decide)]; exact hn6
      have e58 : (wA E 76 f).1 58 0 = p := by rw [eo 58 (by decide), Eo 58 (by decide) (by decide) (by decide)]; exact k3
      have nb : ∀ k, k < r → 0 ≤ n (ti i j k) ∧ n (ti i j k) ≤ 9 := fun k hk => hT.2.1 _ (ti_lt (by omega) (by omega) (by omega))
      have tb : ∀ k, k < r → 0 ≤ n (ti i j k) * wt9 p c t k ∧ n (ti i j k) * wt9 p c t k ≤ 9 * 30 := fun k hk => by
        have b2 := wt9_b (c := c) (t := t) hp0 k
        exact mlb9 (u := 9) (v := 30) (nb k hk) (by omega)
      have sb2 := sm_bd (lo := 0) (hi := 9 * 30) r tb
      have hr3 : (r : Int) * (9 * 30) ≤ 1350 := by omega
      unfold X10_fill_b94
      rw [e6, gd_pos (by omega), if_neg (by omega)]
      refine (lpS9 (r := r) (fun k => n (ti i j k) * wt9 p c t k) (by omega) (fun m hm => ?_) ?_).trans ?_
      · show X10_fill_b109 68 a1 n1 i j (sm m _) (m : Int) (wA E 76 f) = _
        unfold X10_fill_b109
        have ew : (wA E 76 f).1 (68 + 7) m = wt9 p c t m := by
          show (wA E 76 f).1 75 m = _
          rw [eo 75 (by decide)]; exact E75 m hm
        have eat : X8_at (68 - 63) i j m (wA E 76 f) = some (n (ti i j m)) := x8_at9 en (by omega) (by omega) (by omega)
        rw [e6, gd_pos (by omega), if_neg (by omega), b1_pos eat, gd_pos (by omega), lt_pos, Int.toNat_natCast, ew]
        rfl
      · show X10_fill_b109 68 a1 n1 i j (sm r _) (r : Int) (wA E 76 f) = _
        unfold X10_fill_b109
        rw [e6, gd_pos (by omega), if_pos (by omega)]
      · show X10_fill_j149_94 68 a1 n1 i j (sm r fun k => n (ti i j k) * wt9 p c t k) (wA E 76 f) = _
        generalize hS : (sm r fun k => n (ti i j k) * wt9 p c t k) = S at sb2
        have bi := htb i hi
        have bj := htb j hj
        obtain ⟨ui, hui⟩ : ∃ u : Nat, t i = u := ⟨(t i).toNat, by omega⟩
        obtain ⟨uj, huj⟩ : ∃ u : Nat, t j = u := ⟨(t j).toNat, by omega⟩
        have ti1 : (wA E 76 f).1 (68 + 5) i = ui := by
          show (wA E 76 f).1 73 i = _
          rw [eo 73 (by decide), E73 i hi]; exact hui
        have tj1 : (wA E 76 f).1 (68 + 5) j = uj := by
          show (wA E 76 f).1 73 j = _
          rw [eo 73 (by decide), E73 j hj]; exact huj
        have e59 : ∀ u : Nat, 1 ≤ u → u < p → (wA E 76 f).1 (68 - 10 + 1) u = iv u := fun u z1 z2 => by
          show (wA E 76 f).1 59 u = _
          rw [eo 59 (by decide), Eo 59 (by decide) (by decide) (by decide)]; exact h9 u z1 z2
        have i1 := (hiv (ui : Int) (by omega) (by omega)).1
        have i2 := (hiv (uj : Int) (by omega) (by omega)).1
        have mb := mlb9 (u := 30) (v := 30) (show 0 ≤ iv (ui : Int) ∧ iv (ui : Int) ≤ 30 by omega) (show 0 ≤ iv (uj : Int) ∧ iv (uj : Int) ≤ 30 by omega)
        have sm9 := em_bd hp0 S
        have mb2 := mlb9 (u := 30) (v := 900) (show 0 ≤ S % (p : Int) ∧ S % (p : Int) ≤ 30 by omega) (show 0 ≤ iv (ui : Int) * iv (uj : Int) ∧ iv (ui : Int) * iv (uj : Int) ≤ 900 by omega)
        have er1 : X3_reduce (68 - 10) S (wA E 76 f) = some (S % (p : Int)) := x3_reduce e58 h2 h31 (by omega) (by omega)
        have er2 : X3_reduce (68 - 10) (S % (p : Int) * (iv (ui : Int) * iv (uj : Int))) (wA E 76 f) = some ((S % (p : Int) * (iv (ui : Int) * iv (uj : Int))) % (p : Int)) := x3_reduce e58 h2 h31 (by omega) (by omega)
        have ei : ((5 * (i : Int)) + (j : Int)).toNat = 5 * i + j := by omega
        unfold X10_fill_j149_94
        rw [gd_pos (by omega), Int.toNat_natCast, Int.toNat_natCast, ti1, gd_pos (by omega), gd_pos (by omega), tj1, gd_pos (by omega), lt_pos, Int.toNat_natCast, Int.toNat_natCast, e59 ui (by omega) (by omega), e59 uj (by omega) (by omega), b1_pos er1, b1_pos er2, gd_pos (by omega), lt_pos, ei]
        have es : sS9 n r p iv c t i j = (S % (p : Int) * (iv (ui : Int) * iv (uj : Int))) % (p : Int) := by
          unfold sS9
          rw [hS, hui, huj]
        rw [es]
    · show X10_fill_b94 68 a1 n1 i (r : Int) (wA E 76 f) = _
      have e6 : (wA E 76 f).1 68 6 = r := by rw [wA_ne (by decide)]; exact E6
      unfold X10_fill_b94
      rw [e6, gd_pos (by omega), if_pos (by omega)]

/-! ===== the class reads on ===== -/
def tv9 (B : Nat → Int) (n s : Nat) : Int := nV B s (tE B n s - s)
def kf9 (B : Nat → Int) (n s : Nat) (l k : Int) : Int := if tR B n s = 2 then (if tE B n s - s ≤ 3 then (if tv9 B n s < l ∨ k ≤ tv9 B n s then 3 else 0) else 2) else 1
theorem tv9_bd {B : Nat → Int} {n s : Nat} (h : s ≤ n) (h2 : tR B n s = 2) (h3 : tE B n s - s ≤ 3) : 0 ≤ tv9 B n s ∧ tv9 B n s < 1000 := by
  unfold tv9
  have c0 : ¬ n ≤ s := fun z => by unfold tR at h2; rw [if_pos z] at h2; cases h2
  have c1 : ¬ bL (B s) = true := fun z => by unfold tR at h2; rw [if_neg c0, if_pos z] at h2; cases h2
  have c2 : bD (B s) = true := by
    by_cases z : bD (B s) = true
    · exact z
    · unfold tR at h2; rw [if_neg c0, if_neg c1, if_neg z] at h2; split at h2 <;> cases h2
  have t0 : tE B n s = aeN (fun j => bD (B j)) n s := by unfold tE; rw [if_neg c0, if_neg c1, if_pos c2]
  obtain ⟨a1, a2, a3, a4⟩ := aeN_sp (P := fun j => bD (B j)) (n := n) (q := s) h
  rw [← t0] at a1 a2 a3
  have := nV_bd (B := B) (s := s) (tE B n s - s) (fun i hi => (a3 (s + i) (by omega) (by omega)).2)
  generalize tE B n s - s = m at this h3
  have : (10 : Int) ^ m ≤ 1000 := by
    rcases (show m = 0 ∨ m = 1 ∨ m = 2 ∨ m = 3 by omega) with rfl | rfl | rfl | rfl <;> decide
  omega
theorem CT9.all {B : Nat → Int} {n s : Nat} {f : Nat → Int} (h : CT9 B n s f) : (f 4 = 0 ∧ tR B n s = 0) ∨ (f 4 = 1 ∧ tR B n s = 1 ∧ tW B s (tE B n s) 0) ∨ (f 4 = 2 ∧ tR B n s = 1 ∧ ¬ tW B s (tE B n s) 0 ∧ tW B s (tE B n s) 1) ∨ (f 4 = 6 ∧ tR B n s = 1 ∧ ¬ tW B s (tE B n s) 0 ∧ ¬ tW B s (tE B n s) 1) ∨ (f 4 = 3 ∧ tR B n s = 2 ∧ tE B n s - s ≤ 3 ∧ f 5 = tv9 B n s) ∨ (f 4 = 4 ∧ tR B n s = 2 ∧ ¬ tE B n s - s ≤ 3) ∨ (f 4 = 5 ∧ tR B n s = 3 ∧ f 5 = B s) ∨ (f 4 = 6 ∧ tR B n s = 4) := by
  obtain ⟨-, -, h0, h1, h2, h3, h4⟩ := h
  have hr : tR B n s = 0 ∨ tR B n s = 1 ∨ tR B n s = 2 ∨ tR B n s = 3 ∨ tR B n s = 4 := by
    unfold tR
    repeat' split
    all_goals omega
  rcases hr with r | r | r | r | r
  · exact Or.inl ⟨h0 r, r⟩
  · obtain ⟨a, b, c⟩ := h1 r
    by_cases w0 : tW B s (tE B n s) 0
    · exact Or.inr (Or.inl ⟨a w0, r, w0⟩)
    · by_cases w1 : tW B s (tE B n s) 1
      · exact Or.inr (Or.inr (Or.inl ⟨b w0 w1, r, w0, w1⟩))
      · exact Or.inr (Or.inr (Or.inr (Or.inl ⟨c w0 w1, r, w0, w1⟩)))
  · obtain ⟨a, b⟩ := h2 r
    by_cases w : tE B n s - s ≤ 3
    · exact Or.inr (Or.inr (Or.inr (Or.inr (Or.inl ⟨(a w).1, r, w, (a w).2⟩))))
    · exact Or.inr (Or.inr (Or.inr (Or.inr (Or.inr (Or.inl ⟨b w, r, w⟩)))))
  · exact Or.inr (Or.inr (Or.inr (Or.inr (Or.inr (Or.inr (Or.inl ⟨(h3 r).1, r, (h3 r).2⟩))))))
  · exact Or.inr (Or.inr (Or.inr (Or.inr (Or.inr (Or.inr (Or.inr ⟨h4 r, r⟩))))))
theorem CT9.bd {B : Nat → Int} {n s : Nat} {f : Nat → Int} (h : CT9 B n s f) : 0 ≤ f 4 ∧ f 4 ≤ 6 := by
  rcases h.all with z | z | z | z | z | z | z | z <;> omega
/-- the class reads: what it holds -/
def CD9 (n : Nat) (d0 : DA) (q ex k : Nat) (T : Nat → Int) (a b td : Nat) (d : DA) : Prop := (∀ c, c ≠ 45 → c ≠ 38 → c ≠ 39 → d.1 c = d0.1 c) ∧ d.2 = d0.2 ∧ (d.1 45 1 = n ∧ d.1 45 2 = q ∧ q ≤ n ∧ d.1 45 6 = ex ∧ d.1 45 7 = 0 ∧ d.1 45 8 = 0 ∧ d.1 45 9 = -1) ∧ (4 ≤ ex → d.1 45 11 = a ∧ 1 ≤ a ∧ a < k) ∧ (5 ≤ ex → d.1 45 12 = b ∧ 1 ≤ b ∧ b < k) ∧ (d.1 45 13 = td ∧ td < 2 ^ 25) ∧ (2 ≤ ex → d.1 38 0 = k ∧ (1 ≤ k ∧ k ≤ 5) ∧ ∀ q, q < 125 → d.1 39 q = T q ∧ 0 ≤ T q ∧ T q ≤ 9)
/-- the end: fault, place, rank, table -/
def CF9 (d0 : DA) (ft : Int) (pl k : Nat) (T : Nat → Int) (d : DA) : Prop := (∀ c, c ≠ 45 → c ≠ 38 → c ≠ 39 → d.1 c = d0.1 c) ∧ d.2 = d0.2 ∧ d.1 45 7 = 1 ∧ d.1 45 8 = ft ∧ (ft ≠ 0 → d.1 45 9 = pl) ∧ (ft = 0 → d.1 45 9 = -1 ∧ d.1 38 0 = k ∧ (1 ≤ k ∧ k ≤ 5) ∧ ∀ q, q < 125 → d.1 39 q = T q ∧ 0 ≤ T q ∧ T q ≤ 9)
/-- from here on the class ends so -/
def Rr9 (n : Nat) (d0 : DA) (q ex k : Nat) (T : Nat → Int) (a b td : Nat) (ft : Int) (pl k' : Nat) (T' : Nat → Int) : Prop := ∀ (j F : Nat) (x : XS), CD9 n d0 q ex k T a b td x.1 → xrt x = 44 ∧ xrb x = 38 → j ≤ q → n + 2 ≤ F + j → ∃ d, wl9 (fun q => X4_read_b48 n q.1 q.2) F ((j : Int), x) = some (xD x d) ∧ CF9 d0 ft pl k' T' d
/-- what a token may leave of the class's object -/
def Fo9 (f g : Nat → Int) : Prop := ∀ j, j ≠ 2 → j ≠ 3 → j ≠ 4 → j ≠ 5 → f j = g j
theorem xD_D {x : XS} {d e : DA} : xD (xD x d) e = xD x e := rfl
theorem rr_step {B : Nat → Int} {n : Nat} {d0 : DA} {q ex k : Nat} {T : Nat → Int} {a b td q' ex' k' : Nat} {T' : Nat → Int} {a' b' td' : Nat} {ft : Int} {pl k9 : Nat} {T9 : Nat → Int} (hB : Tp9 B n) (h44 : ∀ j, j < n → d0.1 44 j = B j) (hqq : q < q') (hu : ∀ d f, CD9 n d0 q ex k T a b td d → CT9 B n (tS B n q) f → Fo9 f (d.1 45) → ∃ d', X4_useToken 45 (wA d 45 f) = some ((), d') ∧ CD9 n d0 q' ex' k' T' a' b' td' d') (hR : Rr9 n d0 q' ex' k' T' a' b' td' ft pl k9 T9) : Rr9 n d0 q ex k T a b td ft pl k9 T9 := by
  intro j F x hC hx hj hF
  have hn := hB.1
  obtain ⟨c1, c2, ⟨c3, c4, c5, c6, c7, c8, c9⟩, c10⟩ := id hC
  obtain ⟨f, g1, g2, g3⟩ := x4_token (d := x.1) hB (fun j hj => by rw [c1 44 (by decide) (by decide) (by decide)]; exact h44 j hj) c3 c4 c5
  obtain ⟨d', u1, u2⟩ := hu x.1 f hC g2 g3
  obtain ⟨F', rfl⟩ : ∃ F', F = F' + 1 := ⟨F - 1, by omega⟩
  have e1 : X4_read_b48 n (j : Int) x = some (.inl (((j + 1 : Nat) : Int), xD x d')) := by
    unfold X4_read_b48
    have u8 : d'.1 45 8 = 0 := u2.2.2.1.2.2.2.2.2.1
    rw [gd_pos (by omega), if_neg (by omega), c7, gd_pos (by decide), if_pos rfl, gd_pos hx, bd_pos g1, lt_pos, gd_pos (show xrt (xD x (wA x.1 45 f)) = 44 ∧ xrb (xD x (wA x.1 45 f)) = 38 from hx), bd_pos (show X4_useToken 45 (xD x (wA x.1 45 f)).1 = some ((), d') from u1), lt_pos, xD_D]
    show gd (inR (d'.1 45 8)) (if d'.1 45 8 = 0 then _ else _) = _
    rw [u8, gd_pos (by decide), if_pos rfl]
    rfl
  rw [wl9_in (b := fun q : Int × XS => X4_read_b48 n q.1 q.2) e1]
  obtain ⟨d9, r1, r2⟩ := hR (j + 1) F' (xD x d') u2 hx (by omega) (by omega)
  exact ⟨d9, r1, r2⟩
theorem rr_end {n : Nat} {d0 : DA} {ft : Int} {pl k : Nat} {T : Nat → Int} {x : XS} {d : DA} {j F : Nat} (hn : n ≤ 400) (hj : j ≤ n) (hF : n + 1 ≤ F + j) (hF2 : 1 ≤ F) (h : CF9 d0 ft pl k T d) : wl9 (fun q => X4_read_b48 n q.1 q.2) F (((j + 1 : Nat) : Int), xD x d) = some (xD x d) := by
  obtain ⟨F', rfl⟩ : ∃ F', F = F' + 1 := ⟨F - 1, by omega⟩
  refine wl9_out (b := fun q : Int × XS => X4_read_b48 n q.1 q.2) ?_
  show X4_read_b48 n ((j + 1 : Nat) : Int) (xD x d) = _
  unfold X4_read_b48
  rw [gd_pos (by omega)]
  by_cases c : (n : Int) < ((j + 1 : Nat) : Int)
  · rw [if_pos c]
  · have h7 : (xD x d).1.1 45 7 = 1 := h.2.2.1
    rw [if_neg c, h7, gd_pos (by decide), if_neg (by decide)]
theorem rr_bad {B : Nat → Int} {n : Nat} {d0 : DA} {q ex k : Nat} {T : Nat → Int} {a b td : Nat} {ft : Int} {k9 : Nat} {T9 : Nat → Int} (hB : Tp9 B n) (h44 : ∀ j, j < n → d0.1 44 j = B j) (hf : 1 ≤ ft ∧ ft ≤ 9) (hu : ∀ d f, CD9 n d0 q ex k T a b td d → CT9 B n (tS B n q) f → Fo9 f (d.1 45) → ∃ f', X4_useToken 45 (wA d 45 f) = some ((), wA d 45 f') ∧ f' 8 = ft ∧ f' 3 = f 3) : Rr9 n d0 q ex k T a b td ft (tS B n q) k9 T9 := by
  intro j F x hC hx hj hF
  have hn := hB.1
  obtain ⟨c1, c2, ⟨c3, c4, c5, c6, c7, c8, c9⟩, c10⟩ := id hC
  obtain ⟨f, g1, g2, g3⟩ := x4_token (d := x.1) hB (fun j hj => by rw [c1 44 (by decide) (by decide) (by decide)]; exact h44 j hj) c3 c4 c5
  obtain ⟨f', u1, u2, u3⟩ := hu x.1 f hC g2 g3
  have u3' : f' 3 = (tS B n q : Nat) := by rw [u3]; exact g2.2.1
  obtain ⟨F', rfl⟩ : ∃ F', F = F' + 1 := ⟨F - 1, by omega⟩
  have e1 : X4_read_b48 n (j : Int) x = some (.inl (((j + 1 : Nat) : Int), xD x (wA x.1 45 (fu (fu f' 9 (tS B n q : Nat)) 7 1)))) := by
    unfold X4_read_b48
    rw [gd_pos (by omega), if_neg (by omega), c7, gd_pos (by decide), if_pos rfl, gd_pos hx, bd_pos g1, lt_pos, gd_pos (show xrt (xD x (wA x.1 45 f)) = 44 ∧ xrb (xD x (wA x.1 45 f)) = 38 from hx), bd_pos (show X4_useToken 45 (xD x (wA x.1 45 f)).1 = some ((), wA x.1 45 f') from u1), lt_pos, xD_D]
    have v8 : (xD x (wA x.1 45 f')).1.1 45 8 = ft := by show (wA x.1 45 f').1 45 8 = ft; rw [wA_at]; exact u2
    have v3 : (xD x (wA x.1 45 f')).1.1 45 3 = (tS B n q : Nat) := by show (wA x.1 45 f').1 45 3 = _; rw [wA_at]; exact u3'
    rw [v8, v3, gd_pos (by omega), if_neg (by omega), lt_pos, lt_pos, gd_pos (Or.inr rfl), lt_pos, lt_pos]
    show some (Sum.inl ((j : Int) + 1, xD x (wI (wI (wA x.1 45 f') 45 9 (tS B n q : Nat)) 45 7 1))) = _
    rw [wA_wI, wA_wI]
    rfl
  have hCF : CF9 d0 ft (tS B n q) k9 T9 (wA x.1 45 (fu (fu f' 9 (tS B n q : Nat)) 7 1)) := by
    refine ⟨fun c z1 z2 z3 => by rw [wA_ne z1]; exact c1 c z1 z2 z3, c2, by rw [wA_at, fu_s], by rw [wA_at, fu_n (by decide), fu_n (by decide)]; exact u2, fun _ => by rw [wA_at, fu_n (by decide), fu_s], fun z => by omega⟩
  rw [wl9_in (b := fun q : Int × XS => X4_read_b48 n q.1 q.2) e1]
  exact ⟨_, rr_end hn (by omega) (by omega) (by omega) hCF, hCF⟩
/-- a token is taken: what stays -/
theorem CD9.tk {n : Nat} {d0 : DA} {q ex k : Nat} {T : Nat → Int} {a b td : Nat} {d : DA} {q' ex' a' b' td' : Nat} {f f' : Nat → Int} (h : CD9 n d0 q ex k T a b td d) (hf : Fo9 f (d.1 45)) (hx : 2 ≤ ex' → 2 ≤ ex) (hq : f' 2 = q' ∧ q' ≤ n) (h6 : f' 6 = ex') (ho : ∀ j, j = 1 ∨ j = 7 ∨ j = 8 ∨ j = 9 → f' j = f j) (h11 : 4 ≤ ex' → f' 11 = a' ∧ 1 ≤ a' ∧ a' < k) (h12 : 5 ≤ ex' → f' 12 = b' ∧ 1 ≤ b' ∧ b' < k) (h13 : f' 13 = td' ∧ td' < 2 ^ 25) : CD9 n d0 q' ex' k T a' b' td' (wA d 45 f') := by
  obtain ⟨c1, c2, ⟨c3, c4, c5, c6, c7, c8, c9⟩, c10, c11, c12, c13⟩ := h
  have o : ∀ j, j = 1 ∨ j = 7 ∨ j = 8 ∨ j = 9 → f' j = d.1 45 j := fun j hj => by rw [ho j hj]; exact hf j (by omega) (by omega) (by omega) (by omega)
  unfold CD9
  rw [wA_at]
  refine ⟨fun c z1 z2 z3 => by rw [wA_ne z1]; exact c1 c z1 z2 z3, c2, ⟨by rw [o 1 (by omega)]; exact c3, hq.1, hq.2, h6, by rw [o 7 (by omega)]; exact c7, by rw [o 8 (by omega)]; exact c8, by rw [o 9 (by omega)]; exact c9⟩, h11, h12, h13, fun z => ?_⟩
  rw [wA_ne (by decide), wA_ne (by decide)]
  exact c13 (hx z)

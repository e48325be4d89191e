/-! ===== braids: what both sides tell ===== -/
def ptB (n : Nat → Int) (a c x : Nat) : Bool := decide (n (ti a a x) = 1 ∧ n (ti x a c) = 1)
def pcB (n : Nat → Int) (a c x : Nat) : Bool := decide (n (ti a a x) = 1 ∧ n (ti a x c) = 1)
def bm9 (n : Nat → Int) (r a c : Nat) : Nat := cn9 (ptB n a c) r
def bF9 (n F : Nat → Int) (r a c : Nat) : Mx := fun i j => F (six a a a c (pk9 (ptB n a c) r i) (pk9 (pcB n a c) r j))
def bRp (n R : Nat → Int) (r a c : Nat) (i : Nat) : Int := R (thr a a (pk9 (ptB n a c) r i))
def bRc (n R : Nat → Int) (r a c : Nat) (j : Nat) : Int := R (thr a a (pk9 (pcB n a c) r j))
def dg9m (v : Nat → Int) : Mx := fun i j => if i = j then v i else 0
def bG9 (n F : Nat → Int) (r p : Nat) (iv : Int → Int) (a c : Nat) : Bool × Mx × Mx := gRun p (bm9 n r a c) iv (bm9 n r a c) 0 (bF9 n F r a c, id9)
def bOk (n F R : Nat → Int) (r p : Nat) (iv : Int → Int) (a c : Nat) : Prop := (∀ x, x < r → (ptB n a c x = true ∨ pcB n a c x = true) → R (thr a a x) ≠ 0) ∧ cn9 (pcB n a c) r = bm9 n r a c ∧ (bG9 n F r p iv a c).1 = true
def b1m (n R : Nat → Int) (r a c : Nat) : Mx := dg9m (bRp n R r a c)
def b2m (n F R : Nat → Int) (r p : Nat) (iv : Int → Int) (a c : Nat) : Mx := mm9 p (bm9 n r a c) (st9m p (bF9 n F r a c) (bRc n R r a c)) (bG9 n F r p iv a c).2.2
def b1b (n R : Nat → Int) (r : Nat) (iv : Int → Int) (a c : Nat) : Mx := dg9m (fun i => iv (bRp n R r a c i))
def b2b (n F R : Nat → Int) (r p : Nat) (iv : Int → Int) (a c : Nat) : Mx := mm9 p (bm9 n r a c) (st9m p (bF9 n F r a c) (fun j => iv (bRc n R r a c j))) (bG9 n F r p iv a c).2.2
def sqL (n F R : Nat → Int) (r p : Nat) (iv : Int → Int) (a c : Nat) (l : Int) : Mx := if l = 1 then b1m n R r a c else if l = 2 then b2m n F R r p iv a c else if l = -1 then b1b n R r iv a c else b2b n F R r p iv a c
def wrd9 (p m : Nat) (sq : Int → Mx) (w : Nat → Int) : Nat → Mx
  | 0 => id9
  | k + 1 => mm9 p m (wrd9 p m sq w k) (sq (w k))
def trc9 (n F R : Nat → Int) (r p : Nat) (iv : Int → Int) (a : Nat) (w : Nat → Int) (L c : Nat) : Int := (sm (bm9 n r a c) fun i => wrd9 p (bm9 n r a c) (sqL n F R r p iv a c) w L i i) % (p : Int)
def rl9 (n F R : Nat → Int) (r p : Nat) (iv : Int → Int) (a c : Nat) : Prop := ∀ i j, i < bm9 n r a c → j < bm9 n r a c → mm9 p (bm9 n r a c) (mm9 p (bm9 n r a c) (b1m n R r a c) (b2m n F R r p iv a c)) (b1m n R r a c) i j = mm9 p (bm9 n r a c) (b2m n F R r p iv a c) (mm9 p (bm9 n r a c) (b1m n R r a c) (b2m n F R r p iv a c)) i j
/-- what braids rest on -/
def BD9 (n F R : Nat → Int) (r p : Nat) (iv : Int → Int) (a : Nat) : Prop := TG n r ∧ r ≤ 3 ∧ (2 ≤ p ∧ p ≤ 31) ∧ IvG p iv ∧ a < r ∧ (∀ a b c e g h, a < r → b < r → c < r → e < r → g < r → h < r → 0 ≤ F (six a b c e g h) ∧ F (six a b c e g h) < p) ∧ (∀ a b c, a < r → b < r → c < r → 0 ≤ R (thr a b c) ∧ R (thr a b c) < p)
theorem bm9_le {n : Nat → Int} {r a c : Nat} : bm9 n r a c ≤ r := cn9_le r
section
variable {n F R : Nat → Int} {r p a c : Nat} {iv : Int → Int}
theorem bF9_b (h : BD9 n F R r p iv a) (hc : c < r) (he : cn9 (pcB n a c) r = bm9 n r a c) : Mb p (bm9 n r a c) (bF9 n F r a c) := fun i j hi hj => by
  obtain ⟨-, -, -, -, ha, hF, -⟩ := h
  exact hF a a a c _ _ ha ha ha hc (pk9_ok hi).1 (pk9_ok (by rw [he]; exact hj)).1
theorem bG9_b (h : BD9 n F R r p iv a) (hc : c < r) (he : cn9 (pcB n a c) r = bm9 n r a c) : Mb p (bm9 n r a c) (bG9 n F r p iv a c).2.2 := (g_run0 h.2.2.1.1 h.2.2.2.1 (bF9_b h hc he)).2.2
theorem bRp_b (h : BD9 n F R r p iv a) (hO : bOk n F R r p iv a c) {i : Nat} (hi : i < bm9 n r a c) : 1 ≤ bRp n R r a c i ∧ bRp n R r a c i < p := by
  obtain ⟨-, -, -, -, ha, -, hR⟩ := h
  have k := pk9_ok hi
  have b := hR a a _ ha ha k.1
  have z := hO.1 _ k.1 (Or.inl k.2.1)
  unfold bRp
  omega
theorem bRc_b (h : BD9 n F R r p iv a) (hO : bOk n F R r p iv a c) {i : Nat} (hi : i < bm9 n r a c) : 1 ≤ bRc n R r a c i ∧ bRc n R r a c i < p := by
  obtain ⟨-, -, -, -, ha, -, hR⟩ := h
  have k := pk9_ok (P := pcB n a c) (m := r) (i := i) (by rw [hO.2.1]; exact hi)
  have b := hR a a _ ha ha k.1
  have z := hO.1 _ k.1 (Or.inr k.2.1)
  unfold bRc
  omega
theorem dg_b {m : Nat} {v : Nat → Int} (hp : 0 < p) (hv : ∀ i, i < m → 0 ≤ v i ∧ v i < p) : Mb p m (dg9m v) := fun i j hi hj => by
  unfold dg9m
  by_cases e : i = j
  · rw [if_pos e]; exact hv i hi
  · rw [if_neg e]; omega
theorem b1m_b (h : BD9 n F R r p iv a) (hO : bOk n F R r p iv a c) : Mb p (bm9 n r a c) (b1m n R r a c) := dg_b (by have := h.2.2.1; omega) (fun i hi => by have := bRp_b h hO hi; omega)
theorem b1b_b (h : BD9 n F R r p iv a) (hO : bOk n F R r p iv a c) : Mb p (bm9 n r a c) (b1b n R r iv a c) := dg_b (by have := h.2.2.1; omega) (fun i hi => by
  have := bRp_b h hO hi
  have := (h.2.2.2.1 _ this.1 this.2).1
  omega)
theorem b2m_b (h : BD9 n F R r p iv a) : Mb p (bm9 n r a c) (b2m n F R r p iv a c) := mm9_b (by have := h.2.2.1; omega)
theorem b2b_b (h : BD9 n F R r p iv a) : Mb p (bm9 n r a c) (b2b n F R r p iv a c) := mm9_b (by have := h.2.2.1; omega)
theorem sqL_b (h : BD9 n F R r p iv a) (hO : bOk n F R r p iv a c) (l : Int) : Mb p (bm9 n r a c) (sqL n F R r p iv a c l) := by
  unfold sqL
  split
  · exact b1m_b h hO
  · split
    · exact b2m_b h
    · split
      · exact b1b_b h hO
      · exact b2b_b h
theorem wrd9_b {m : Nat} {sq : Int → Mx} {w : Nat → Int} (hp : 2 ≤ p) : ∀ L, Mb p m (wrd9 p m sq w L) := by
  intro L
  cases L with
  | zero => exact id9_b hp
  | succ L => exact mm9_b (by omega)
/-! squares by squares -/
theorem mm_cg {m i j : Nat} {A B : Mx} : cgm p (mm9 p m A B i j) (sm m fun k => A i k * B k j) := cgm.em _
theorem mm_eq {m i j : Nat} {A B : Mx} {v : Int} (hp : 0 < p) (h : cgm p (sm m fun k => A i k * B k j) v) (hv : 0 ≤ v ∧ v < p) : mm9 p m A B i j = v := ((cgm.em _).tr h).eq (em_bd hp _) hv
theorem mm_id {m i j : Nat} {A : Mx} (hp : 0 < p) (hA : Mb p m A) (hi : i < m) (hj : j < m) : mm9 p m id9 A i j = A i j := mm_eq hp (by rw [id_sm hi]; exact cgm.rf _) (hA i j hi hj)
theorem mm_as {m i j : Nat} {A B C : Mx} (hi : i < m) (hj : j < m) : mm9 p m (mm9 p m A B) C i j = mm9 p m A (mm9 p m B C) i j := by
  have e1 : cgm p (sm m fun k => mm9 p m A B i k * C k j) (sm m fun k => (sm m fun l => A i l * B l k) * C k j) := cgm.sm9 m (fun k _ => mm_cg.mul (cgm.rf _))
  have e2 : cgm p (sm m fun k => A i k * mm9 p m B C k j) (sm m fun l => A i l * sm m fun k => B l k * C k j) := cgm.sm9 m (fun k _ => (cgm.rf _).mul mm_cg)
  rw [sm_as] at e1
  have e3 := e1.tr e2.sy
  by_cases hp : 0 < p
  · exact (em_iff hp).mpr e3
  · have : p = 0 := by omega
    subst this
    unfold mm9 at e3 ⊢
    obtain ⟨w, hw⟩ := e3
    have : ((0 : Nat) : Int) * w = 0 := by rw [Int.natCast_zero, Int.zero_mul]
    rw [show ((sm m fun k => (sm m fun k_1 => A i k_1 * B k_1 k) % ((0 : Nat) : Int) * C k j)) = (sm m fun k => A i k * ((sm m fun k_1 => B k k_1 * C k_1 j) % ((0 : Nat) : Int))) by omega]
theorem mm_cong {m i j : Nat} {A B A' B' : Mx} (hA : ∀ k, k < m → A i k = A' i k) (hB : ∀ k, k < m → B k j = B' k j) : mm9 p m A B i j = mm9 p m A' B' i j := by
  unfold mm9
  rw [sm_congr m (fun k hk => by rw [hA k hk, hB k hk])]
/-- the squares of the letters taken back -/
theorem one_back (h : BD9 n F R r p iv a) (hO : bOk n F R r p iv a c) : LI p (bm9 n r a c) (b1b n R r iv a c) (b1m n R r a c) := fun i j hi hj => by
  have b := bRp_b h hO hi
  have e : (sm (bm9 n r a c) fun k => b1b n R r iv a c i k * b1m n R r a c k j) = b1b n R r iv a c i i * b1m n R r a c i j := sm1 (f := fun k => b1b n R r iv a c i k * b1m n R r a c k j) _ hi (fun k _ hk => by
    show b1b n R r iv a c i k * _ = 0
    unfold b1b dg9m
    rw [if_neg (fun e => hk e.symm), Int.zero_mul])
  rw [e]
  unfold b1b b1m dg9m id9
  rw [if_pos rfl]
  by_cases e : i = j
  · rw [if_pos e, if_pos e, Int.mul_comm]
    exact (h.2.2.2.1 _ b.1 b.2).2
  · rw [if_neg e, if_neg e, Int.mul_zero]; exact cgm.rf _
def mp9 (m : Nat) (A B : Mx) : Mx := fun i j => sm m fun k => A i k * B k j
theorem mp_as {m i j : Nat} {A B C : Mx} : mp9 m (mp9 m A B) C i j = mp9 m A (mp9 m B C) i j := sm_as
theorem mp_cg {m i j : Nat} {A B A' B' : Mx} (hA : ∀ k, k < m → cgm p (A i k) (A' i k)) (hB : ∀ k, k < m → cgm p (B k j) (B' k j)) : cgm p (mp9 m A B i j) (mp9 m A' B' i j) := cgm.sm9 m (fun k hk => (hA k hk).mul (hB k hk))
theorem two_back (h : BD9 n F R r p iv a) (hc : c < r) (hO : bOk n F R r p iv a c) : LI p (bm9 n r a c) (b2b n F R r p iv a c) (b2m n F R r p iv a c) := fun i j hi hj => by
  have hp := h.2.2.1.1
  have hiv := h.2.2.2.1
  have GF : LI p (bm9 n r a c) (bG9 n F r p iv a c).2.2 (bF9 n F r a c) := fun i j hi hj => ((g_run0 (iv := iv) (M := bF9 n F r a c) (n := bm9 n r a c) hp hiv (bF9_b h hc hO.2.1)).1 hO.2.2 i j hi hj).sy
  have FG := GF.right hp hiv
  have vb : ∀ k, k < bm9 n r a c → 1 ≤ bRc n R r a c k ∧ bRc n R r a c k < p := fun k hk => bRc_b h hO hk
  show cgm p (mp9 (bm9 n r a c) (b2b n F R r p iv a c) (b2m n F R r p iv a c) i j) _
  unfold b2b b2m
  generalize bm9 n r a c = m at *
  generalize (bG9 n F r p iv a c).2.2 = G at *
  generalize bF9 n F r a c = F9 at *
  generalize bRc n R r a c = v at *
  have e1 : cgm p (mp9 m (mm9 p m (st9m p F9 fun j => iv (v j)) G) (mm9 p m (st9m p F9 v) G) i j) (mp9 m (mp9 m (st9m p F9 fun j => iv (v j)) G) (mp9 m (st9m p F9 v) G) i j) := mp_cg (fun k _ => mm_cg) (fun k _ => mm_cg)
  rw [mp_as] at e1
  have e2 : ∀ l, l < m → cgm p (mp9 m G (mp9 m (st9m p F9 v) G) l j) (v l * G l j) := fun l hl => by
    rw [← mp_as]
    have q1 : ∀ k, k < m → cgm p (mp9 m G (st9m p F9 v) l k) (id9 l k * v k) := fun k hk => by
      have z1 : cgm p (mp9 m G (st9m p F9 v) l k) (sm m fun q => (G l q * F9 q k) * v k) := cgm.sm9 m (fun q _ => by
        have : cgm p (G l q * st9m p F9 v q k) (G l q * (F9 q k * v k)) := (cgm.rf _).mul (cgm.em _)
        rw [Int.mul_assoc]; exact this)
      rw [smR] at z1
      exact z1.tr ((GF l k hl hk).mul (cgm.rf _))
    have q2 : cgm p (mp9 m (mp9 m G (st9m p F9 v)) G l j) (sm m fun k => id9 l k * (v k * G k j)) := cgm.sm9 m (fun k hk => by
      have := (q1 k hk).mul (cgm.rf (p := p) (G k j))
      rw [Int.mul_assoc] at this
      exact this)
    rw [id_sm hl] at q2
    exact q2
  have e3 : cgm p (mp9 m (st9m p F9 fun j => iv (v j)) (mp9 m G (mp9 m (st9m p F9 v) G)) i j) (sm m fun l => F9 i l * G l j) := cgm.sm9 m (fun l hl => by
    have z1 : cgm p (st9m p F9 (fun j => iv (v j)) i l) (F9 i l * iv (v l)) := cgm.em _
    have z2 := z1.mul (e2 l hl)
    have z3 : cgm p (F9 i l * iv (v l) * (v l * G l j)) (F9 i l * G l j) := by
      have z4 : cgm p (F9 i l * (v l * iv (v l)) * G l j) (F9 i l * 1 * G l j) := ((cgm.rf _).mul (hiv _ (vb l hl).1 (vb l hl).2).2).mul (cgm.rf _)
      rw [Int.mul_one] at z4
      rw [show F9 i l * iv (v l) * (v l * G l j) = F9 i l * (v l * iv (v l)) * G l j by
        rw [Int.mul_assoc, Int.mul_assoc (F9 i l), ← Int.mul_assoc (iv (v l)), Int.mul_comm (iv (v l))]]
      exact z4
    exact z2.tr z3)
  exact (e1.tr e3).tr (FG i j hi hj)
end

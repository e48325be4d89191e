/-! ===== a square turned back on one side is turned back on the other ===== -/
theorem sm_as {n i j : Nat} {A B C : Mx} : (sm n fun k => (sm n fun l => A i l * B l k) * C k j) = sm n fun l => A i l * sm n fun k => B l k * C k j := by
  have : (fun k => (sm n fun l => A i l * B l k) * C k j) = fun k => sm n fun l => A i l * (B l k * C k j) := funext fun k => by
    rw [← smR]
    exact sm_congr n (fun l _ => Int.mul_assoc _ _ _)
  rw [this, smC]
  exact sm_congr n (fun l _ => smM n)
def LI (p n : Nat) (G F : Mx) : Prop := ∀ i j, i < n → j < n → cgm p (sm n fun k => G i k * F k j) (id9 i j)
theorem LI.ker {p n : Nat} {G F : Mx} (h : LI p n G F) {v : Nat → Int} (hv : ∀ i, i < n → cgm p (sm n fun k => F i k * v k) 0) : ∀ i, i < n → cgm p (v i) 0 := fun i hi => by
  have e1 : cgm p (sm n fun j => (sm n fun k => G i k * F k j) * v j) (sm n fun j => id9 i j * v j) := cgm.sm9 n (fun j hj => (h i j hi hj).mul (cgm.rf _))
  rw [id_sm hi] at e1
  refine e1.sy.tr ?_
  have e2 := sm_as (n := n) (i := i) (j := 0) (A := G) (B := F) (C := fun k _ => v k)
  rw [e2]
  exact cgm.sm0 n (fun l hl => (hv l hl).mul_z _)
theorem LI.right {p n : Nat} {iv : Int → Int} {G F : Mx} (hp : 2 ≤ p) (hiv : IvG p iv) (h : LI p n G F) : LI p n F G := fun i j hi hj => by
  -- the columns of F, and the unit's column j, depend on one another
  obtain ⟨a, ⟨m, hm, hn⟩, hz⟩ := dep9 hp hiv n (fun m k => if m < n then F k m else id9 k j)
  have hz' : ∀ k, k < n → cgm p (sm n (fun m => F k m * a m) + a n * id9 k j) 0 := fun k hk => by
    have := hz k hk
    have e : (sm (n + 1) fun m => a m * (if m < n then F k m else id9 k j)) = sm n (fun m => F k m * a m) + a n * id9 k j := by
      show sm n (fun m => a m * (if m < n then F k m else id9 k j)) + a n * (if n < n then F k n else id9 k j) = _
      rw [if_neg (by omega)]
      refine congrArg (· + a n * id9 k j) (sm_congr n (fun m hm => ?_))
      rw [if_pos hm, Int.mul_comm]
    rw [e] at this
    exact this
  have hb : ¬ cgm p (a n) 0 := fun z => by
    have az : ∀ m, m < n → cgm p (a m) 0 := h.ker (fun k hk => by
      have := (hz' k hk).sub (z.z_mul (id9 k j))
      rw [Int.sub_zero] at this
      refine cgm.tr (cgm.of ?_) this
      omega)
    rcases Nat.lt_or_ge m n with y | y
    · exact hn (az m y)
    · have : m = n := by omega
      subst this
      exact hn z
  -- by G: a l = - a n * G l j
  have ga : ∀ l, l < n → cgm p (a l + a n * G l j) 0 := fun l hl => by
    have e1 : cgm p (sm n fun k => G l k * (sm n (fun m => F k m * a m) + a n * id9 k j)) 0 := cgm.sm0 n (fun k hk => (hz' k hk).mul_z _)
    have e2 : (sm n fun k => G l k * (sm n (fun m => F k m * a m) + a n * id9 k j)) = (sm n fun k => G l k * sm n fun m => F k m * a m) + a n * G l j := by
      have : (fun k => G l k * (sm n (fun m => F k m * a m) + a n * id9 k j)) = fun k => G l k * (sm n fun m => F k m * a m) + G l k * (a n * id9 k j) := funext fun k => Int.mul_add _ _ _
      rw [this, smA]
      refine congrArg ((sm n fun k => G l k * sm n fun m => F k m * a m) + ·) ?_
      rw [sm1 (j := j) n hj (fun k _ hn => by unfold id9; rw [if_neg hn, Int.mul_zero, Int.mul_zero])]
      unfold id9
      rw [if_pos rfl, Int.mul_one, Int.mul_comm]
    rw [e2] at e1
    have e3 : cgm p (sm n fun k => G l k * sm n fun m => F k m * a m) (a l) := by
      rw [← sm_as (n := n) (i := l) (j := 0) (A := G) (B := F) (C := fun k _ => a k)]
      have := cgm.sm9 (p := p) n (f := fun m => (sm n fun k => G l k * F k m) * a m) (g := fun m => id9 l m * a m) (fun m hm => (h l m hl hm).mul (cgm.rf _))
      rw [id_sm hl] at this
      exact this
    exact (e3.sy.add (cgm.rf _)).tr e1
  -- F a = - a n * (F G) column j, and F a = - a n * unit's column j
  have e4 : cgm p (sm n fun k => F i k * (a k + a n * G k j)) 0 := cgm.sm0 n (fun k hk => (ga k hk).mul_z _)
  have e5 : (sm n fun k => F i k * (a k + a n * G k j)) = sm n (fun k => F i k * a k) + a n * sm n fun k => F i k * G k j := by
    rw [← smM, ← smA]
    refine sm_congr n (fun k _ => ?_)
    rw [Int.mul_add, ← Int.mul_assoc, ← Int.mul_assoc, Int.mul_comm (F i k) (a n)]
  rw [e5] at e4
  have e6 := e4.sub (hz' i hi)
  have e7 : cgm p (a n * ((sm n fun k => F i k * G k j) - id9 i j)) 0 := by
    rw [Int.sub_zero] at e6
    refine cgm.tr (cgm.of ?_) e6
    rw [Int.mul_sub]; omega
  rcases iv_dom hiv hp e7 with z | z
  · exact absurd z hb
  · unfold cgm at z ⊢
    rwa [Int.sub_zero] at z
/-- a square with an inverse is turned back to it -/
theorem g_inv {p n : Nat} {iv : Int → Int} {M R : Mx} (hp : 2 ≤ p) (hiv : IvG p iv) (hM : Mb p n M) (hR : Mb p n R) (h : LI p n R M) : (gRun p n iv n 0 (M, id9)).1 = true ∧ ∀ i j, i < n → j < n → (gRun p n iv n 0 (M, id9)).2.2 i j = R i j := by
  obtain ⟨g1, g2, g3⟩ := g_run0 hp hiv hM
  have ht : (gRun p n iv n 0 (M, id9)).1 = true := by
    cases c : (gRun p n iv n 0 (M, id9)).1 with
    | true => rfl
    | false =>
      obtain ⟨v, ⟨k, hk, hn⟩, hv⟩ := g2 c
      exact absurd (h.ker hv k hk) hn
  refine ⟨ht, fun i j hi hj => ?_⟩
  have hV := g1 ht
  generalize (gRun p n iv n 0 (M, id9)).2.2 = V at hV g3
  have hMR : LI p n M R := h.right hp hiv
  refine cgm.eq (p := p) ?_ (g3 i j hi hj) (hR i j hi hj)
  -- V = V (M R) = (V M) R = R
  have e1 : cgm p (sm n fun l => V i l * sm n fun k => M l k * R k j) (sm n fun l => V i l * id9 l j) := cgm.sm9 n (fun l hl => (cgm.rf _).mul (hMR l j hl hj))
  have e2 : (sm n fun l => V i l * id9 l j) = V i j := by
    rw [sm1 (j := j) n hj (fun k _ hn => by unfold id9; rw [if_neg hn, Int.mul_zero])]
    unfold id9
    rw [if_pos rfl, Int.mul_one]
  have e3 : cgm p (sm n fun k => (sm n fun l => V i l * M l k) * R k j) (sm n fun k => id9 i k * R k j) := cgm.sm9 n (fun k hk => (hV i k hi hk).sy.mul (cgm.rf _))
  rw [sm_as, id_sm (f := fun k => R k j) hi] at e3
  rw [e2] at e1
  exact e1.sy.tr e3

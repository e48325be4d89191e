/-! ===== the class: which numbers can stand at a kind ===== -/
def Mq9 (n : Nat → Int) (p i x : Nat) : Mx := fun j k => (n (ti i j k) + (if j = k then (p : Int) - x else 0)) % (p : Int)
def bad9 (n : Nat → Int) (p r : Nat) (iv : Int → Int) (i x : Nat) : Prop := (gRun p r iv r 0 (Mq9 n p i x, id9)).1 = false
theorem Mq9_b {n : Nat → Int} {p r i x : Nat} (hp : 0 < p) : Mb p r (Mq9 n p i x) := fun _ _ _ _ => em_bd hp _
theorem Mq9_s {n v : Nat → Int} {p r i x j : Nat} (hj : j < r) : cgm p (sm r fun k => Mq9 n p i x j k * v k) (sm r (fun k => n (ti i j k) * v k) - (x : Int) * v j) := by
  have e1 : cgm p (sm r fun k => Mq9 n p i x j k * v k) (sm r fun k => n (ti i j k) * v k + (if j = k then (p : Int) - x else 0) * v k) := cgm.sm9 r (fun k _ => by
    rw [← Int.add_mul]
    exact (cgm.em _).mul (cgm.rf _))
  refine e1.tr ?_
  rw [smA]
  have e2 : sm r (fun k => (if j = k then (p : Int) - x else 0) * v k) = ((p : Int) - x) * v j := by
    rw [sm1 (j := j) r hj (fun k _ hn => by rw [if_neg (fun e => hn e.symm), Int.zero_mul]), if_pos rfl]
  rw [e2]
  refine ⟨v j, ?_⟩
  rw [Int.sub_mul]; omega
/-- what is found so far: all numbers below X that can stand at i, in order -/
def VaG (n : Nat → Int) (p r : Nat) (iv : Int → Int) (i X va : Nat) (vs : Nat → Int) : Prop := va ≤ r ∧ (∀ t, t < va → ∃ x : Nat, vs (5 * i + t) = x ∧ x < X ∧ bad9 n p r iv i x) ∧ (∀ t t', t < t' → t' < va → vs (5 * i + t) < vs (5 * i + t')) ∧ ∀ x : Nat, x < X → bad9 n p r iv i x → ∃ t, t < va ∧ vs (5 * i + t) = x
theorem VaG.lt {n : Nat → Int} {p r : Nat} {iv : Int → Int} {i X va : Nat} {vs : Nat → Int} (h : VaG n p r iv i X va vs) (hp : 2 ≤ p) (hiv : IvG p iv) (hX : X < p) (hb : bad9 n p r iv i X) : va < r := by
  obtain ⟨h1, h2, h3, h4⟩ := h
  obtain ⟨l, hl⟩ : ∃ l : Nat → Int, l = fun m => if m < va then vs (5 * i + m) else (X : Int) := ⟨_, rfl⟩
  have lb : ∀ m, m < va + 1 → ∃ x : Nat, l m = x ∧ x < p ∧ bad9 n p r iv i x := fun m hm => by
    rw [hl]
    by_cases c : m < va
    · obtain ⟨x, a1, a2, a3⟩ := h2 m c
      exact ⟨x, by show (if m < va then vs (5 * i + m) else (X : Int)) = _; rw [if_pos c]; exact a1, (by omega), a3⟩
    · exact ⟨X, by show (if m < va then vs (5 * i + m) else (X : Int)) = _; rw [if_neg c], hX, hb⟩
  have ex : ∀ m, ∃ u : Nat → Int, m < va + 1 → (∃ k, k < r ∧ ¬ cgm p (u k) 0) ∧ ∀ j, j < r → cgm p (sm r fun k => n (ti i j k) * u k) (l m * u j) := fun m => by
    by_cases c : m < va + 1
    · obtain ⟨x, a1, a2, a3⟩ := lb m c
      obtain ⟨u, u1, u2⟩ := (g_run0 hp hiv (Mq9_b (n := n) (r := r) (i := i) (x := x) (show 0 < p by omega))).2.1 a3
      refine ⟨u, fun _ => ⟨u1, fun j hj => ?_⟩⟩
      have := (Mq9_s (n := n) (p := p) (i := i) (x := x) (v := u) hj).sy.tr (u2 j hj)
      rw [a1]
      unfold cgm at this ⊢
      rwa [Int.sub_zero] at this
    · exact ⟨fun _ => 0, fun z => absurd z c⟩
  obtain ⟨u, hu⟩ := Classical.axiomOfChoice ex
  have := few9 (p := p) (n := r) (q := va + 1) hp hiv (I := fun a => a = 0) (A := fun _ j k => n (ti i j k)) (u := u) (l := fun _ m => l m) (fun _ m j _ hm hj => (hu m hm).2 j hj) (fun m m' h5 h6 => ⟨0, rfl, fun z => by
    have lt : l m < l m' := by
      rw [hl]
      show (if m < va then vs (5 * i + m) else (X : Int)) < (if m' < va then vs (5 * i + m') else (X : Int))
      rw [if_pos (show m < va by omega)]
      by_cases c : m' < va
      · rw [if_pos c]; exact h3 m m' h5 c
      · rw [if_neg c]
        obtain ⟨x, a1, a2, a3⟩ := h2 m (by omega)
        rw [a1]; omega
    obtain ⟨x, a1, a2, -⟩ := lb m (by omega)
    obtain ⟨y, b1, b2, -⟩ := lb m' h6
    have z' : cgm p (l m) (l m') := z
    rw [a1, b1] at z' lt
    have := z'.eq (by omega) (by omega)
    omega⟩) (fun m hm => (hu m hm).1)
  omega
theorem VaG.skip {n : Nat → Int} {p r : Nat} {iv : Int → Int} {i X va : Nat} {vs : Nat → Int} (h : VaG n p r iv i X va vs) (hb : ¬ bad9 n p r iv i X) : VaG n p r iv i (X + 1) va vs := by
  obtain ⟨h1, h2, h3, h4⟩ := h
  refine ⟨h1, fun t ht => ?_, h3, fun x hx hbx => ?_⟩
  · obtain ⟨x, a1, a2, a3⟩ := h2 t ht
    exact ⟨x, a1, (by omega), a3⟩
  · by_cases c : x = X
    · subst c; exact absurd hbx hb
    · exact h4 x (by omega) hbx
theorem VaG.put {n : Nat → Int} {p r : Nat} {iv : Int → Int} {i X va : Nat} {vs : Nat → Int} (h : VaG n p r iv i X va vs) (hv : va < r) (hb : bad9 n p r iv i X) : VaG n p r iv i (X + 1) (va + 1) (fu vs (5 * i + va) (X : Int)) := by
  obtain ⟨h1, h2, h3, h4⟩ := h
  have e1 : ∀ t, t < va → fu vs (5 * i + va) (X : Int) (5 * i + t) = vs (5 * i + t) := fun t ht => by rw [fu_app, if_neg (by omega)]
  have e2 : fu vs (5 * i + va) (X : Int) (5 * i + va) = X := by rw [fu_app, if_pos rfl]
  refine ⟨hv, fun t ht => ?_, fun t t' ht ht' => ?_, fun x hx hbx => ?_⟩
  · by_cases c : t = va
    · subst c; exact ⟨X, e2, (by omega), hb⟩
    · obtain ⟨x, a1, a2, a3⟩ := h2 t (by omega)
      exact ⟨x, by rw [e1 t (by omega)]; exact a1, (by omega), a3⟩
  · rw [e1 t (by omega)]
    by_cases c : t' = va
    · subst c
      obtain ⟨x, a1, a2, a3⟩ := h2 t ht
      rw [e2, a1]; omega
    · rw [e1 t' (by omega)]; exact h3 t t' ht (by omega)
  · by_cases c : x = X
    · subst c; exact ⟨va, (by omega), e2⟩
    · obtain ⟨t, a1, a2⟩ := h4 x (by omega) hbx
      exact ⟨t, (by omega), by rw [e1 t a1]; exact a2⟩
/-- what the class's search for characters leaves alone -/
def FrX (d0 d : DA) : Prop := d.2 = d0.2 ∧ ∀ c, (c < 60 ∨ 67 < c) → d.1 c = d0.1 c
theorem FrX.rf (d : DA) : FrX d d := ⟨rfl, fun _ _ => rfl⟩
theorem FrX.tr {a b c : DA} (h : FrX a b) (h2 : FrX b c) : FrX a c := ⟨h2.1.trans h.1, fun i hi => (h2.2 i hi).trans (h.2 i hi)⟩
theorem FrX.w {d0 d : DA} (h : FrX d0 d) {c : Nat} {f : Nat → Int} (hc : 60 ≤ c ∧ c ≤ 67) : FrX d0 (wA d c f) := ⟨h.1, fun i hi => by rw [wA_ne (by omega)]; exact h.2 i hi⟩
theorem FrX.i {d0 d : DA} (h : FrX d0 d) {c k : Nat} {v : Int} (hc : 60 ≤ c ∧ c ≤ 67) : FrX d0 (wI d c k v) := ⟨h.1, fun i hi => by rw [wI_ne (by omega)]; exact h.2 i hi⟩
/-- what the search rests on -/
def XD9 (d : DA) (n : Nat → Int) (r p : Nat) (iv : Int → Int) : Prop := d.1 5 0 = r ∧ d.1 6 = n ∧ d.1 58 0 = p ∧ ∀ j : Nat, 1 ≤ j → j < p → d.1 59 j = iv j
theorem FrX.D {d0 d : DA} (h : FrX d0 d) {n : Nat → Int} {r p : Nat} {iv : Int → Int} (hD : XD9 d0 n r p iv) : XD9 d n r p iv := by
  unfold XD9 at hD ⊢
  rw [h.2 5 (by omega), h.2 6 (by omega), h.2 58 (by omega), h.2 59 (by omega)]
  exact hD
theorem x1_vals {d0 d : DA} {n : Nat → Int} {r p i : Nat} {iv : Int → Int} (hD : XD9 d0 n r p iv) (hT : TG n r) (h2 : 2 ≤ p) (h31 : p ≤ 31) (hiv : IvG p iv) (hi : i < r) (hd : FrX d0 d) : ∃ d' va vs, X1_findValues 61 5 58 i d = some ((), d') ∧ FrX d0 d' ∧ VaG n p r iv i p va vs ∧ d'.1 63 = vs ∧ (∀ q, ¬ (5 * i ≤ q ∧ q < 5 * i + 5) → vs q = d.1 63 q) ∧ d'.1 64 = fu (d.1 64) i (va : Int) ∧ (∀ c, c = 61 ∨ c = 62 ∨ c = 65 → d'.1 c = d.1 c) := by
  have h5 := hT.1.2
  have key : ∃ e : Int × DA, lpE (fun q => X1_findValues_b6 61 5 58 i q.1 q.2.1 q.2.2) (0, 0, d) (fun e : Int × DA => gd (ix (i : Int) 5) <| lt9 (wI e.2 (61 + 3) (Int.toNat (i : Int)) (e.1)) fun d7 => some (((), d7) : Unit × DA)) = (fun e : Int × DA => gd (ix (i : Int) 5) <| lt9 (wI e.2 (61 + 3) (Int.toNat (i : Int)) (e.1)) fun d7 => some (((), d7) : Unit × DA)) e ∧ (∃ (va : Nat) (vs : Nat → Int), e.1 = (va : Int) ∧ FrX d0 e.2 ∧ VaG n p r iv i p va vs ∧ e.2.1 63 = vs ∧ (∀ q, ¬ (5 * i ≤ q ∧ q < 5 * i + 5) → vs q = d.1 63 q) ∧ e.2.1 64 = d.1 64 ∧ (∀ c, c = 61 ∨ c = 62 ∨ c = 65 → e.2.1 c = d.1 c)) := by
    refine lpE_inv (fun (x : Nat) (s : Int × Int × DA) => ∃ (va : Nat) (vs : Nat → Int), s.1 = (va : Int) ∧ s.2.1 = (x : Int) ∧ FrX d0 s.2.2 ∧ VaG n p r iv i x va vs ∧ s.2.2.1 63 = vs ∧ (∀ q, ¬ (5 * i ≤ q ∧ q < 5 * i + 5) → vs q = d.1 63 q) ∧ s.2.2.1 64 = d.1 64 ∧ (∀ c, c = 61 ∨ c = 62 ∨ c = 65 → s.2.2.1 c = d.1 c)) _ p (by omega) ⟨0, d.1 63, rfl, rfl, hd, ⟨Nat.zero_le _, fun t ht => absurd ht (Nat.not_lt_zero _), fun t t' _ ht => absurd ht (Nat.not_lt_zero _), fun x hx => absurd hx (Nat.not_lt_zero _)⟩, rfl, fun _ _ => rfl, rfl, fun _ _ => rfl⟩ (fun x s hx hI => ?_) (fun s hI => ?_)
    · obtain ⟨v1, v2, D⟩ := s
      obtain ⟨va, vs, q1, q2, q3, q4, q5, q6, q7, q8⟩ := hI
      have q1 : v1 = (va : Int) := q1
      have q2 : v2 = (x : Int) := q2
      have q3 : FrX d0 D := q3
      have q5 : D.1 63 = vs := q5
      have q7 : D.1 64 = d.1 64 := q7
      subst q1 q2
      obtain ⟨k1, k2, k3, k4⟩ := q3.D hD
      have hva := q4.1
      -- the square
      obtain ⟨F, hF, mF⟩ : ∃ F, (∀ {Y : Type} (k : DA → Option Y), lpE (fun q => X1_findValues_b18 61 5 58 i va x q.1 q.2) (0, D) k = k (wA D 66 F)) ∧ Ms r F (Mq9 n p i x) := by
        refine ⟨pm (D.1 66) (Mq9 n p i x) r r 0, fun {Y} k => lpE_sq (bi := fun (j : Nat) q => X1_findValues_b30 61 5 58 i va x j q.1 q.2) 66 r (Mq9 n p i x) h5 (fun j hj f => ?_) (fun f => ?_) (fun j m hj hm f hf => ?_) (fun j hj f => ?_), fun j m hj hm => pm_at hj hm h5⟩
        · show X1_findValues_b18 61 5 58 i va x (j : Int) (wA D 66 f) = _
          have e5 : (wA D 66 f).1 5 0 = r := by rw [wA_ne (by decide)]; exact k1
          unfold X1_findValues_b18
          rw [e5, gd_pos (by omega), if_neg (by omega)]
        · show X1_findValues_b18 61 5 58 i va x (r : Int) (wA D 66 f) = _
          have e5 : (wA D 66 f).1 5 0 = r := by rw [wA_ne (by decide)]; exact k1
          unfold X1_findValues_b18
          rw [e5, gd_pos (by omega), if_pos (by omega)]
        · show X1_findValues_b30 61 5 58 i va x j (m : Int) (wA D 66 f) = _
          have e5 : (wA D 66 f).1 5 0 = r := by rw [wA_ne (by decide)]; exact k1
          have e6 : (wA D 66 f).1 6 = n := by rw [wA_ne (by decide)]; exact k2
          have e58 : (wA D 66 f).1 58 0 = p := by rw [wA_ne (by decide)]; exact k3
          have nb := hT.2.1 (ti i j m) (ti_lt (by omega) (by omega) (by omega))
          have ei : ((5 * (j : Int)) + (m : Int)).toNat = 5 * j + m := by omega
          have jj : ∀ s0 : Int, 0 ≤ s0 → s0 ≤ 31 → X1_findValues_j57_30 61 5 58 i va x j m s0 (wA D 66 f) = some (.inl ((m : Int) + 1, wI (wA D 66 f) 66 (5 * j + m) ((n (ti i j m) + s0) % (p : Int)))) := fun s0 z1 z2 => by
            unfold X1_findValues_j57_30
            rw [b1_pos (x8_at9 e6 (by omega) (by omega) (by omega)), b1_pos (x3_reduce e58 h2 h31 (by omega) (by omega)), gd_pos (by omega), lt_pos, ei]
          unfold X1_findValues_b30
          rw [e5, gd_pos (by omega), if_neg (by omega), gd_pos (by omega)]
          unfold Mq9
          by_cases c : j = m
          · rw [if_pos (by omega), e58, jj _ (by omega) (by omega), if_pos c]
          · rw [if_neg (by omega), jj 0 (by omega) (by omega), if_neg c]
        · show X1_findValues_b30 61 5 58 i va x j (r : Int) (wA D 66 f) = _
          have e5 : (wA D 66 f).1 5 0 = r := by rw [wA_ne (by decide)]; exact k1
          unfold X1_findValues_b30
          rw [e5, gd_pos (by omega), if_pos (by omega)]
      have head : X1_findValues_b6 61 5 58 i (va : Int) (x : Int) D = X1_findValues_j99_6 61 5 58 i va x (wA D 66 F) := by
        unfold X1_findValues_b6
        rw [k3, gd_pos (by omega), if_neg (by omega), hF]
      have g66 : FrX d0 (wA D 66 F) := q3.w (by omega)
      obtain ⟨m1, m2, m3, m4⟩ := g66.D hD
      obtain ⟨f', g', t1, -⟩ := x3_turnB (d := wA D 66 F) (a1 := 66) (n1 := 25) (c0 := 67) (n0 := 25) (n := r) (p := p) (M := Mq9 n p i x) (iv := iv) h5 (Nat.le_refl _) (by omega) (Nat.le_refl _) (by omega) (by rw [wA_at]; exact mF) (Mq9_b (by omega)) m3 h2 h31 (by decide) (by decide) (by decide) hiv m4
      by_cases cb : bad9 n p r iv i x
      · have hlt := q4.lt h2 hiv hx cb
        have cb' : (gRun p r iv r 0 (Mq9 n p i x, id9)).1 = false := cb
        rw [cb', if_neg (by decide)] at t1
        have eix : ((5 * (i : Int)) + (va : Int)).toNat = 5 * i + va := by omega
        refine ⟨((va : Int) + 1, (x : Int) + 1, wI (wA (wA (wA D 66 F) 60 f') 67 g') 63 (5 * i + va) (x : Int)), ?_, va + 1, fu vs (5 * i + va) (x : Int), by show (va : Int) + 1 = _; omega, by show (x : Int) + 1 = _; omega, ((g66.w (by omega)).w (by omega)).i (by omega), q4.put hlt cb, ?_, fun q hq => ?_, ?_, fun c hc => ?_⟩
        · show X1_findValues_b6 61 5 58 i (va : Int) (x : Int) D = _
          rw [head]
          unfold X1_findValues_j99_6
          have t1' : X3_turnBack 58 (61 + 5) 25 (61 + 6) 25 r (wA D 66 F) = some (0, wA (wA (wA D 66 F) 60 f') 67 g') := t1
          rw [gd_pos (by omega), if_neg (by omega), m1, bd_pos t1', gd_pos (by omega), if_pos rfl, gd_pos (by omega), lt_pos, eix]
        · show (wI (wA (wA (wA D 66 F) 60 f') 67 g') 63 (5 * i + va) (x : Int)).1 63 = _
          rw [wI_at, wA_ne (by decide), wA_ne (by decide), wA_ne (by decide), q5]
        · rw [fu_app, if_neg (by omega)]; exact q6 q hq
        · show (wI (wA (wA (wA D 66 F) 60 f') 67 g') 63 (5 * i + va) (x : Int)).1 64 = _
          rw [wI_ne (by decide), wA_ne (by decide), wA_ne (by decide), wA_ne (by decide), q7]
        · show (wI (wA (wA (wA D 66 F) 60 f') 67 g') 63 (5 * i + va) (x : Int)).1 c = _
          rw [wI_ne (by omega), wA_ne (by omega), wA_ne (by omega), wA_ne (by omega)]; exact q8 c hc
      · have cb' : (gRun p r iv r 0 (Mq9 n p i x, id9)).1 = true := by
          cases h : (gRun p r iv r 0 (Mq9 n p i x, id9)).1
          · exact absurd h cb
          · rfl
        rw [cb', if_pos rfl] at t1
        by_cases c5 : 5 ≤ va
        · refine ⟨((va : Int), (x : Int) + 1, wA D 66 F), ?_, va, vs, rfl, by show (x : Int) + 1 = _; omega, g66, q4.skip cb, ?_, q6, ?_, fun c hc => ?_⟩
          · show X1_findValues_b6 61 5 58 i (va : Int) (x : Int) D = _
            rw [head]
            unfold X1_findValues_j99_6
            rw [gd_pos (by omega), if_pos (by omega)]
          · show (wA D 66 F).1 63 = _
            rw [wA_ne (by decide)]; exact q5
          · show (wA D 66 F).1 64 = _
            rw [wA_ne (by decide)]; exact q7
          · show (wA D 66 F).1 c = _
            rw [wA_ne (by omega)]; exact q8 c hc
        · refine ⟨((va : Int), (x : Int) + 1, wA (wA (wA D 66 F) 60 f') 67 g'), ?_, va, vs, rfl, by show (x : Int) + 1 = _; omega, (g66.w (by omega)).w (by omega), q4.skip cb, ?_, q6, ?_, fun c hc => ?_⟩
          · show X1_findValues_b6 61 5 58 i (va : Int) (x : Int) D = _
            rw [head]
            unfold X1_findValues_j99_6
            have t1' : X3_turnBack 58 (61 + 5) 25 (61 + 6) 25 r (wA D 66 F) = some (1, wA (wA (wA D 66 F) 60 f') 67 g') := t1
            rw [gd_pos (by omega), if_neg (by omega), m1, bd_pos t1', gd_pos (by omega), if_neg (by decide)]
          · show (wA (wA (wA D 66 F) 60 f') 67 g').1 63 = _
            rw [wA_ne (by decide), wA_ne (by decide), wA_ne (by decide)]; exact q5
          · show (wA (wA (wA D 66 F) 60 f') 67 g').1 64 = _
            rw [wA_ne (by decide), wA_ne (by decide), wA_ne (by decide)]; exact q7
          · show (wA (wA (wA D 66 F) 60 f') 67 g').1 c = _
            rw [wA_ne (by omega), wA_ne (by omega), wA_ne (by omega)]; exact q8 c hc
    · obtain ⟨v1, v2, D⟩ := s
      obtain ⟨va, vs, q1, q2, q3, q4, q5, q6, q7, q8⟩ := hI
      have q2 : v2 = (p : Int) := q2
      have q3 : FrX d0 D := q3
      subst q2
      obtain ⟨k1, k2, k3, k4⟩ := q3.D hD
      refine ⟨(v1, D), ?_, va, vs, q1, q3, q4, q5, q6, q7, q8⟩
      show X1_findValues_b6 61 5 58 i v1 (p : Int) D = _
      unfold X1_findValues_b6
      rw [k3, gd_pos (by omega), if_pos (by omega)]
  obtain ⟨⟨v1, D⟩, e1, va, vs, q1, q3, q4, q5, q6, q7, q8⟩ := key
  have q1 : v1 = (va : Int) := q1
  have q3 : FrX d0 D := q3
  have q5 : D.1 63 = vs := q5
  have q7 : D.1 64 = d.1 64 := q7
  subst q1
  refine ⟨wI D 64 i (va : Int), va, vs, ?_, q3.i (by omega), q4, by rw [wI_ne (by decide)]; exact q5, q6, by rw [wI_at, q7], fun c hc => by rw [wI_ne (by omega)]; exact q8 c hc⟩
  unfold X1_findValues
  rw [e1]
  show gd (ix (i : Int) 5) _ = _
  rw [gd_pos (by omega), lt_pos, Int.toNat_natCast]

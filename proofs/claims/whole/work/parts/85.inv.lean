/-! ===== what holds between the calls ===== -/
/-- the ints that count from call to call -/
def scrL : List Nat := [0, 7, 8, 9, 10, 11, 14, 15, 16, 22, 23, 24, 25, 26, 29, 30, 31, 34, 35, 36, 37, 38, 39, 40, 41, 42, 43, 45, 48, 49, 50, 51, 52, 53, 60, 63, 64, 65, 66, 67, 72, 73, 74, 75, 76, 77, 78, 79, 80, 83, 84, 85, 86, 87, 88, 89, 90, 91, 92, 93, 94, 95, 96, 97, 98, 99, 100, 101, 102, 103, 104, 105, 106, 107, 108, 109, 110, 111, 112, 116, 127, 128, 131, 132, 133, 134, 135, 136, 137, 138, 139, 140, 141, 142, 143, 144, 145, 146, 147, 148, 149, 150, 151, 152, 153, 154, 161, 162]
def relL : List Nat := [1, 2, 4, 13, 18, 19, 21, 30, 33, 34, 35, 76, 77, 78, 79]
def rel (c j : Nat) : Bool := if c = 113 then relL.contains j else if c = 46 then decide (j < 4) else if c = 68 then decide (j = 2) else !(scrL.contains c)
def vw (g : Nat → Nat → Int) : Nat → Nat → Int := fun c j => if rel c j then g c j else 0
theorem vw_eq {g g' : Nat → Nat → Int} (h : ∀ c j, rel c j = true → g' c j = g c j) : vw g' = vw g := funext fun c => funext fun j => by
  unfold vw
  by_cases hr : rel c j = true
  · rw [if_pos hr, if_pos hr, h c j hr]
  · rw [if_neg hr, if_neg hr]
/-- the ints that count are as they were -/
def Sm (d d' : DA) : Prop := ∀ c j, rel c j = true → d'.1 c j = d.1 c j
theorem Sm.rf (d : DA) : Sm d d := fun _ _ _ => rfl
theorem Sm.tr {a b c : DA} (h1 : Sm a b) (h2 : Sm b c) : Sm a c := fun i j h => (h2 i j h).trans (h1 i j h)
theorem Sm.eq {d d' : DA} (h : d'.1 = d.1) : Sm d d' := fun _ _ _ => by rw [h]
theorem Sm.wI {d : DA} {c k : Nat} {v : Int} (h : rel c k = false) : Sm d (wI d c k v) := fun i j hr => by
  by_cases e : i = c
  · subst e
    rw [wI_at, fu_app]
    by_cases e2 : j = k
    · subst e2; rw [h] at hr; cases hr
    · rw [if_neg e2]
  · rw [wI_ne e]
theorem Sm.wA {d : DA} {c : Nat} {f : Nat → Int} (h : ∀ j, rel c j = false) : Sm d (wA d c f) := fun i j hr => by
  by_cases e : i = c
  · subst e; rw [h] at hr; cases hr
  · rw [wA_ne e]
theorem Sm.wL {d : DA} {c k : Nat} {v : Int} : Sm d (wL d c k v) := fun _ _ _ => rfl
theorem Sm.wB {d : DA} {c : Nat} {f : Nat → Int} : Sm d (wB d c f) := fun _ _ _ => rfl
/-! tables, fields, trees -/
def ti (i j k : Nat) : Nat := 25 * i + 5 * j + k
def TG (n : Nat → Int) (r : Nat) : Prop := (1 ≤ r ∧ r ≤ 5) ∧ (∀ j, j < 125 → 0 ≤ n j ∧ n j ≤ 9) ∧ (∀ i j k, i < 5 → j < 5 → k < 5 → (r ≤ i ∨ r ≤ j ∨ r ≤ k) → n (ti i j k) = 0) ∧ (∀ j k, j < r → k < r → n (ti 0 j k) = if j = k then 1 else 0) ∧ (∀ j k, j < r → k < r → n (ti j 0 k) = if j = k then 1 else 0)
def PG (p : Nat) : Prop := p ∈ [2, 3, 5, 7, 11, 13, 17, 19, 23, 29, 31]
def fre (n : Nat → Int) (r : Nat) : Prop := ∀ i j k, i < r → j < r → k < r → n (ti i j k) ≤ 1
def isTr (n : Nat → Int) (a b c d e g : Nat) : Prop := n (ti a b e) = 1 ∧ n (ti e c d) = 1 ∧ n (ti b c g) = 1 ∧ n (ti a g d) = 1
def six (a b c d e g : Nat) : Nat := 243 * a + 81 * b + 27 * c + 9 * d + 3 * e + g
def thr (a b c : Nat) : Nat := 9 * a + 3 * b + c
/-- the told trees of both sides -/
def FG (n f f9 : Nat → Int) (r : Nat) : Prop := ∀ a b c d e g, a < r → b < r → c < r → d < r → e < r → g < r → (isTr n a b c d e g → f9 (six a b c d e g) = if a = 0 ∨ b = 0 ∨ c = 0 then 1 else f (six a b c d e g)) ∧ (¬ isTr n a b c d e g → f9 (six a b c d e g) = 0)
def RG (n s s9 : Nat → Int) (r : Nat) : Prop := ∀ a b c, a < r → b < r → c < r → (n (ti a b c) = 1 → s9 (thr a b c) = if a = 0 ∨ b = 0 then 1 else s (thr a b c)) ∧ (n (ti a b c) ≠ 1 → s9 (thr a b c) = 0)
def Lt9 (l : Int) : Prop := l = 1 ∨ l = 2 ∨ l = -1 ∨ l = -2
/-- a state of the class beside the reference's: table, field, trees, turns, word, what was refused -/
def SI (k : Nat) (g : Nat → Nat → Int) (o cr cp cl cn cf cs ct cw cu r p m : Nat) : Prop :=
  (g (o + 3) 0 = r ∧ g 113 cr = r ∧ g (o + 4) = g cn ∧ TG (g cn) r) ∧
  (g o 5 = p ∧ g 113 cp = p ∧ PG p) ∧
  ((r ≤ 3 → fre (g cn) r → FG (g cn) (g cf) (g (o + 10)) r ∧ RG (g cn) (g cs) (g (o + 11)) r) ∧ (∀ q, q < 729 → 0 ≤ g cf q ∧ g cf q < p) ∧ (∀ q, q < 27 → 0 ≤ g cs q ∧ g cs q < p)) ∧
  ((∀ j, j < 5 → g (o + 1) j = g ct j ∧ 1 ≤ g ct j ∧ g ct j < p) ∧ g ct 0 = 1) ∧
  (g o 4 = m ∧ g 113 cl = m ∧ m ≤ 12 ∧ ∀ j, j < m → g (o + 2) j = g cw j ∧ Lt9 (g cw j)) ∧
  (g o 6 = g cu 0 ∧ g o 7 = g cu 1 ∧ 0 ≤ g cu 0 ∧ g cu 0 ≤ k ∧ 0 ≤ g cu 1 ∧ g cu 1 ≤ k)
/-! the story -/
def EG (n : Nat → Int) (r p : Nat) (what wher fro to pl be af : Int) : Prop :=
  (be = fro ∧ af = to ∧ what = 0 ∧ r ≤ 3 ∧ fre n r ∧ (0 ≤ fro ∧ fro < p) ∧ (0 ≤ to ∧ to < p) ∧ ∃ a b c d e g, (a < r ∧ b < r ∧ c < r ∧ d < r ∧ e < r ∧ g < r) ∧ (a ≠ 0 ∧ b ≠ 0 ∧ c ≠ 0) ∧ isTr n a b c d e g ∧ wher = (six a b c d e g : Nat) ∧ pl = (six a b c d e g : Nat)) ∨
  (be = fro ∧ af = to ∧ what = 1 ∧ r ≤ 3 ∧ fre n r ∧ (0 ≤ fro ∧ fro < p) ∧ (0 ≤ to ∧ to < p) ∧ ∃ a b c, (a < r ∧ b < r ∧ c < r) ∧ (a ≠ 0 ∧ b ≠ 0) ∧ n (ti a b c) = 1 ∧ wher = (thr a b c : Nat) ∧ pl = 729 + (thr a b c : Nat)) ∨
  (be = fro ∧ af = to ∧ what = 2 ∧ (1 ≤ fro ∧ fro < p) ∧ (1 ≤ to ∧ to < p) ∧ ∃ j : Nat, (1 ≤ j ∧ j < 5) ∧ wher = j ∧ pl = 756 + j) ∨
  (af = to ∧ what = 3 ∧ Lt9 to ∧ pl = 761)
/-- how many letters among the entries before j -/
def lc (w : Nat → Int) : Nat → Nat
  | 0 => 0
  | j + 1 => lc w j + if w j = 3 then 1 else 0
def HI (g : Nat → Nat → Int) (r p m D U : Nat) : Prop :=
  g 54 3 = D ∧ g 113 18 = D ∧ g 54 4 = U ∧ g 113 19 = U ∧ D + U ≤ 100 ∧ (∀ j, j < D + U → EG (g 114) r p (g 122 j) (g 123 j) (g 124 j) (g 125 j) (g 55 j) (g 56 j) (g 57 j)) ∧ lc (g 122) D ≤ m ∧ m + lc (g 122) (D + U) ≤ 12 + lc (g 122) D
/-! tape, kept table, list -/
def PI9 (g : Nat → Nat → Int) (tp : Nat) : Prop := g 1 7 = tp ∧ g 113 21 = tp ∧ tp ≤ 400 ∧ (∀ j, j < tp → g 44 j = g 126 j ∧ 0 ≤ g 126 j ∧ g 126 j ≤ 255) ∧ g 1 8 = g 113 30 ∧ -1 ≤ g 113 30 ∧ g 113 30 ≤ 400
def KI (g : Nat → Nat → Int) (kr : Nat) : Prop := g 113 2 = kr ∧ (∀ q, ¬ q < 125 → g 33 q = g 115 q) ∧ (kr = 0 → g 1 4 = 0) ∧ (kr ≠ 0 → g 1 4 = 1 ∧ g 32 0 = kr ∧ g 33 = g 115 ∧ TG (g 115) kr)
def LI9 (g : Nat → Nat → Int) (la zc : Nat) : Prop := g 46 2 = la ∧ g 113 33 = la ∧ la ≤ 4000 ∧ la ≤ zc ∧ (la ≠ 0 → ∃ lr lb ow : Nat, g 46 0 = lr ∧ g 113 34 = lr ∧ g 46 1 = lb ∧ g 113 35 = lb ∧ (2 ≤ lr ∧ lr ≤ 4) ∧ (1 ≤ lb ∧ lb ≤ 5 ∧ (lr = 4 → lb ≤ 2)) ∧ g 46 3 = ow ∧ ((lr = 2 → la ≤ ow) ∧ ow ≤ la) ∧ ∀ i, i < la → g 47 i = g 129 i ∧ 0 ≤ g 129 i ∧ g 129 i ≤ 100000 ∧ g 130 i = if i < ow then 0 else 1)
/-! characters, turns, solutions that are known -/
def chS (n : Nat → Int) (r : Nat) (c : Nat → Int) (i j : Nat) : Int := sm r fun k => n (ti i j k) * c k
def isCh (n : Nat → Int) (r p : Nat) (c : Nat → Int) : Prop := c 0 = 1 ∧ (∀ k, k < r → 0 ≤ c k ∧ c k < p) ∧ ∀ i j, 1 ≤ i → i < r → 1 ≤ j → j < r → (p : Int) ∣ chS n r c i j - c i * c j
/-- less in the order of the first kind at which they differ -/
def lxl (r : Nat) (a b : Nat → Int) : Prop := ∃ k, k < r ∧ a k < b k ∧ ∀ j, j < k → a j = b j
/-- the rows C 0 .. C (q - 1) are all the characters, in order -/
def ChL (n : Nat → Int) (r p q : Nat) (C : Nat → Nat → Int) : Prop := (∀ i, i < q → isCh n r p (C i)) ∧ (∀ i j, i < j → j < q → lxl r (C i) (C j)) ∧ ∀ c, isCh n r p c → ∃ i, i < q ∧ ∀ k, k < r → c k = C i k
def CI (a b : Int) (rows n : Nat → Int) (r p : Nat) : Prop := a = 0 ∨ (a = 1 ∧ ∃ q : Nat, b = q ∧ q ≤ 5 ∧ ChL n r p q (fun i k => rows (5 * i + k)))

/-! ===== the whole layout ===== -/
abbrev XS : Type := DA × Nat × Nat × Nat × Nat × Nat × Nat × Nat × Nat × Nat
def xzc (x : XS) : Nat := x.2.1
def xzf (x : XS) : Nat := x.2.2.1
def xrt (x : XS) : Nat := x.2.2.2.1
def xrb (x : XS) : Nat := x.2.2.2.2.1
def xtt (x : XS) : Nat := x.2.2.2.2.2.1
def xtn (x : XS) : Nat := x.2.2.2.2.2.2.1
def xe (x : XS) : Nat := x.2.2.2.2.2.2.2.1
def xc (x : XS) : Nat := x.2.2.2.2.2.2.2.2.1
def xs (x : XS) : Nat := x.2.2.2.2.2.2.2.2.2
def kTl : List Nat := [0, 11, 6, 13, 13, 8, 13, 13, 14, 14, 13, 9, 13, 13, 13, 13, 13, 6, 13, 13, 8, 13, 13, 14, 14, 13, 9, 13, 13, 13, 13, 13, 8, 13, 13, 14, 14, 13, 8, 13, 13, 14, 14, 13, 13, 4, 2, 13, 13, 13, 13, 13, 13, 13, 7, 13, 13, 13, 3, 13, 13, 1, 13, 13, 13, 13, 13, 13, 10, 13, 13, 13, 13, 13, 13, 13, 13, 13, 13, 13, 13, 5, 13, 13, 13, 8, 13, 13, 14, 14, 13, 9, 13, 13, 13, 13, 13, 13, 13, 13, 13, 0, 13, 13, 13, 13, 13, 13, 13, 13, 13, 13, 13, 12, 13, 13, 13, 13, 13, 13, 13, 13, 13, 13, 13, 13, 13, 14, 14, 13, 13, 13, 13, 13, 13, 13, 13, 13, 13, 13, 13, 13, 13, 13, 13, 13, 13, 13, 13, 13, 13, 13, 13, 13, 13, 13, 13, 13, 13, 13, 13, 14, 13]
def zTl : List Nat := [0, 0, 0, 5, 12, 0, 125, 5, 5, 5, 25, 0, 729, 27, 9, 5, 9, 0, 5, 12, 0, 125, 5, 5, 5, 25, 0, 729, 27, 9, 5, 9, 0, 125, 5, 5, 5, 25, 0, 125, 5, 5, 5, 25, 400, 0, 0, 64, 4, 64, 10, 10, 27, 11, 0, 100, 100, 100, 0, 32, 25, 0, 25, 25, 5, 5, 25, 25, 0, 5, 5, 64, 5, 5, 5, 5, 25, 25, 25, 25, 25, 0, 5, 5, 5, 0, 125, 5, 5, 5, 25, 0, 729, 27, 9, 5, 9, 160, 32, 25, 25, 0, 3, 3, 3, 25, 25, 25, 25, 25, 25, 25, 25, 0, 125, 125, 125, 729, 27, 5, 12, 2, 100, 100, 100, 100, 400, 5, 5, 4000, 4000, 125, 10, 10, 5, 5, 9, 9, 25, 25, 729, 729, 729, 25, 25, 25, 5, 5, 5, 25, 25, 25, 25, 25, 5, 125, 729, 27, 5, 12, 2, 1, 25]
def pTl : List (List Nat) := [[], [2, 17, 0, 32, 0, 38, 44, 0, 0, 45, 46, 54, 58, 61, 68, 81, 101], [11, 5, 3, 4], [], [], [0, 6, 7, 8, 9, 10], [], [], [], [], [], [5, 12, 13, 14, 15, 16], [], [], [], [], [], [26, 20, 18, 19], [], [], [0, 21, 22, 23, 24, 25], [], [], [], [], [], [20, 27, 28, 29, 30, 31], [], [], [], [], [], [0, 33, 34, 35, 36, 37], [], [], [], [], [], [0, 39, 40, 41, 42, 43], [], [], [], [], [], [], [], [0, 0, 0, 0, 47, 48, 49, 50, 0, 51, 52, 53], [], [], [], [], [], [], [], [55, 56, 57], [], [], [], [0, 59, 60], [], [], [0, 0, 62, 63, 64, 65, 66, 67], [], [], [], [], [], [], [69, 70, 0, 71, 0, 0, 0, 0, 0, 72, 73, 74, 75, 76, 77, 78, 79, 80], [], [], [], [], [], [], [], [], [], [], [], [], [0, 0, 0, 82, 83, 84, 91, 85, 97, 98, 0, 99, 100], [], [], [], [0, 86, 87, 88, 89, 90], [], [], [], [], [], [85, 92, 93, 94, 95, 96], [], [], [], [], [], [], [], [], [], [102, 0, 0, 103, 104, 105, 106, 107, 108, 109, 110, 111, 112], [], [], [], [], [], [], [], [], [], [], [], [0, 0, 0, 0, 0, 114, 115, 116, 117, 118, 119, 120, 121, 0, 122, 123, 124, 125, 0, 0, 126, 0, 0, 0, 0, 0, 0, 0, 0, 0, 0, 127, 128, 0, 0, 0, 0, 129, 130, 131, 132, 133, 134, 0, 135, 0, 0, 0, 136, 137, 0, 0, 0, 138, 139, 140, 141, 142, 0, 0, 143, 144, 145, 146, 147, 0, 0, 0, 148, 149, 150, 151, 152, 153, 0, 154, 0, 0, 0, 0, 155, 156, 157, 158, 159, 160], [], [], [], [], [], [], [], [], [], [], [], [], [], [], [], [], [], [], [], [], [], [], [], [], [], [], [], [], [], [], [], [], [], [], [], [], [], [], [], [], [], [], [], [], [], [], [], [], []]
/-- the cells, out of what may change -/
def sg (x : XS) : HS := (161 + xe x, fun i => kTl.getD i 0, fun i => if i = 47 then xzc x else if i = 71 then xzf x else zTl.getD i 0, fun c k => if c = 45 then (if k = 0 then xrt x else if k = 10 then xrb x else 0) else if c = 68 then (if k = 4 then xtt x else if k = 5 then xtn x else (pTl.getD 68 []).getD k 0) else (pTl.getD c []).getD k 0, x.1.1, x.1.2, 0, 0)
theorem ic {x : XS} (q : Nat) (h1 : 1 ≤ q) (h2 : q ≤ 161) : isC (sg x) q := ⟨h1, Nat.le_trans h2 (Nat.le_add_right 161 (xe x))⟩
theorem wt_5 (x : XS) : W_8 (sg x) 5 := ⟨⟨ic _ (Nat.le_of_ble_eq_true rfl) (Nat.le_of_ble_eq_true rfl), rfl⟩, ⟨rfl, ic _ (Nat.le_of_ble_eq_true rfl) (Nat.le_of_ble_eq_true rfl), rfl, rfl⟩, ⟨rfl, ic _ (Nat.le_of_ble_eq_true rfl) (Nat.le_of_ble_eq_true rfl), rfl, rfl⟩, ⟨rfl, ic _ (Nat.le_of_ble_eq_true rfl) (Nat.le_of_ble_eq_true rfl), rfl, rfl⟩, ⟨rfl, ic _ (Nat.le_of_ble_eq_true rfl) (Nat.le_of_ble_eq_true rfl), rfl, rfl⟩, ⟨rfl, ic _ (Nat.le_of_ble_eq_true rfl) (Nat.le_of_ble_eq_true rfl), rfl, rfl⟩, trivial⟩
theorem wt_11 (x : XS) : W_9 (sg x) 11 := ⟨⟨ic _ (Nat.le_of_ble_eq_true rfl) (Nat.le_of_ble_eq_true rfl), rfl⟩, ⟨rfl, wt_5 x⟩, ⟨rfl, ic _ (Nat.le_of_ble_eq_true rfl) (Nat.le_of_ble_eq_true rfl), rfl, rfl⟩, ⟨rfl, ic _ (Nat.le_of_ble_eq_true rfl) (Nat.le_of_ble_eq_true rfl), rfl, rfl⟩, ⟨rfl, ic _ (Nat.le_of_ble_eq_true rfl) (Nat.le_of_ble_eq_true rfl), rfl, rfl⟩, ⟨rfl, ic _ (Nat.le_of_ble_eq_true rfl) (Nat.le_of_ble_eq_true rfl), rfl, rfl⟩, ⟨rfl, ic _ (Nat.le_of_ble_eq_true rfl) (Nat.le_of_ble_eq_true rfl), rfl, rfl⟩, trivial⟩
theorem wt_2 (x : XS) : W_6 (sg x) 2 := ⟨⟨ic _ (Nat.le_of_ble_eq_true rfl) (Nat.le_of_ble_eq_true rfl), rfl⟩, ⟨rfl, wt_11 x⟩, ⟨rfl, wt_5 x⟩, ⟨rfl, ic _ (Nat.le_of_ble_eq_true rfl) (Nat.le_of_ble_eq_true rfl), rfl, rfl⟩, ⟨rfl, ic _ (Nat.le_of_ble_eq_true rfl) (Nat.le_of_ble_eq_true rfl), rfl, rfl⟩, trivial⟩
theorem wt_20 (x : XS) : W_8 (sg x) 20 := ⟨⟨ic _ (Nat.le_of_ble_eq_true rfl) (Nat.le_of_ble_eq_true rfl), rfl⟩, ⟨rfl, ic _ (Nat.le_of_ble_eq_true rfl) (Nat.le_of_ble_eq_true rfl), rfl, rfl⟩, ⟨rfl, ic _ (Nat.le_of_ble_eq_true rfl) (Nat.le_of_ble_eq_true rfl), rfl, rfl⟩, ⟨rfl, ic _ (Nat.le_of_ble_eq_true rfl) (Nat.le_of_ble_eq_true rfl), rfl, rfl⟩, ⟨rfl, ic _ (Nat.le_of_ble_eq_true rfl) (Nat.le_of_ble_eq_true rfl), rfl, rfl⟩, ⟨rfl, ic _ (Nat.le_of_ble_eq_true rfl) (Nat.le_of_ble_eq_true rfl), rfl, rfl⟩, trivial⟩
theorem wt_26 (x : XS) : W_9 (sg x) 26 := ⟨⟨ic _ (Nat.le_of_ble_eq_true rfl) (Nat.le_of_ble_eq_true rfl), rfl⟩, ⟨rfl, wt_20 x⟩, ⟨rfl, ic _ (Nat.le_of_ble_eq_true rfl) (Nat.le_of_ble_eq_true rfl), rfl, rfl⟩, ⟨rfl, ic _ (Nat.le_of_ble_eq_true rfl) (Nat.le_of_ble_eq_true rfl), rfl, rfl⟩, ⟨rfl, ic _ (Nat.le_of_ble_eq_true rfl) (Nat.le_of_ble_eq_true rfl), rfl, rfl⟩, ⟨rfl, ic _ (Nat.le_of_ble_eq_true rfl) (Nat.le_of_ble_eq_true rfl), rfl, rfl⟩, ⟨rfl, ic _ (Nat.le_of_ble_eq_true rfl) (Nat.le_of_ble_eq_true rfl), rfl, rfl⟩, trivial⟩
theorem wt_17 (x : XS) : W_6 (sg x) 17 := ⟨⟨ic _ (Nat.le_of_ble_eq_true rfl) (Nat.le_of_ble_eq_true rfl), rfl⟩, ⟨rfl, wt_26 x⟩, ⟨rfl, wt_20 x⟩, ⟨rfl, ic _ (Nat.le_of_ble_eq_true rfl) (Nat.le_of_ble_eq_true rfl), rfl, rfl⟩, ⟨rfl, ic _ (Nat.le_of_ble_eq_true rfl) (Nat.le_of_ble_eq_true rfl), rfl, rfl⟩, trivial⟩
theorem wt_32 (x : XS) : W_8 (sg x) 32 := ⟨⟨ic _ (Nat.le_of_ble_eq_true rfl) (Nat.le_of_ble_eq_true rfl), rfl⟩, ⟨rfl, ic _ (Nat.le_of_ble_eq_true rfl) (Nat.le_of_ble_eq_true rfl), rfl, rfl⟩, ⟨rfl, ic _ (Nat.le_of_ble_eq_true rfl) (Nat.le_of_ble_eq_true rfl), rfl, rfl⟩, ⟨rfl, ic _ (Nat.le_of_ble_eq_true rfl) (Nat.le_of_ble_eq_true rfl), rfl, rfl⟩, ⟨rfl, ic _ (Nat.le_of_ble_eq_true rfl) (Nat.le_of_ble_eq_true rfl), rfl, rfl⟩, ⟨rfl, ic _ (Nat.le_of_ble_eq_true rfl) (Nat.le_of_ble_eq_true rfl), rfl, rfl⟩, trivial⟩
theorem wt_38 (x : XS) : W_8 (sg x) 38 := ⟨⟨ic _ (Nat.le_of_ble_eq_true rfl) (Nat.le_of_ble_eq_true rfl), rfl⟩, ⟨rfl, ic _ (Nat.le_of_ble_eq_true rfl) (Nat.le_of_ble_eq_true rfl), rfl, rfl⟩, ⟨rfl, ic _ (Nat.le_of_ble_eq_true rfl) (Nat.le_of_ble_eq_true rfl), rfl, rfl⟩, ⟨rfl, ic _ (Nat.le_of_ble_eq_true rfl) (Nat.le_of_ble_eq_true rfl), rfl, rfl⟩, ⟨rfl, ic _ (Nat.le_of_ble_eq_true rfl) (Nat.le_of_ble_eq_true rfl), rfl, rfl⟩, ⟨rfl, ic _ (Nat.le_of_ble_eq_true rfl) (Nat.le_of_ble_eq_true rfl), rfl, rfl⟩, trivial⟩
theorem wt_45 (x : XS) : W_4 (sg x) 45 := ⟨⟨ic _ (Nat.le_of_ble_eq_true rfl) (Nat.le_of_ble_eq_true rfl), rfl⟩, trivial⟩
theorem wt_46 (x : XS) : W_2 (sg x) 46 := ⟨⟨ic _ (Nat.le_of_ble_eq_true rfl) (Nat.le_of_ble_eq_true rfl), rfl⟩, ⟨rfl, ic _ (Nat.le_of_ble_eq_true rfl) (Nat.le_of_ble_eq_true rfl), rfl, rfl⟩, ⟨rfl, ic _ (Nat.le_of_ble_eq_true rfl) (Nat.le_of_ble_eq_true rfl), rfl, rfl⟩, ⟨rfl, ic _ (Nat.le_of_ble_eq_true rfl) (Nat.le_of_ble_eq_true rfl), rfl, rfl⟩, ⟨rfl, ic _ (Nat.le_of_ble_eq_true rfl) (Nat.le_of_ble_eq_true rfl), rfl, rfl⟩, ⟨rfl, ic _ (Nat.le_of_ble_eq_true rfl) (Nat.le_of_ble_eq_true rfl), rfl, rfl⟩, ⟨rfl, ic _ (Nat.le_of_ble_eq_true rfl) (Nat.le_of_ble_eq_true rfl), rfl, rfl⟩, trivial⟩
theorem wt_54 (x : XS) : W_7 (sg x) 54 := ⟨⟨ic _ (Nat.le_of_ble_eq_true rfl) (Nat.le_of_ble_eq_true rfl), rfl⟩, ⟨rfl, ic _ (Nat.le_of_ble_eq_true rfl) (Nat.le_of_ble_eq_true rfl), rfl, rfl⟩, ⟨rfl, ic _ (Nat.le_of_ble_eq_true rfl) (Nat.le_of_ble_eq_true rfl), rfl, rfl⟩, ⟨rfl, ic _ (Nat.le_of_ble_eq_true rfl) (Nat.le_of_ble_eq_true rfl), rfl, rfl⟩, trivial⟩
theorem wt_58 (x : XS) : W_3 (sg x) 58 := ⟨⟨ic _ (Nat.le_of_ble_eq_true rfl) (Nat.le_of_ble_eq_true rfl), rfl⟩, ⟨rfl, ic _ (Nat.le_of_ble_eq_true rfl) (Nat.le_of_ble_eq_true rfl), rfl, rfl⟩, ⟨rfl, ic _ (Nat.le_of_ble_eq_true rfl) (Nat.le_of_ble_eq_true rfl), rfl, rfl⟩, trivial⟩
theorem wt_61 (x : XS) : W_1 (sg x) 61 := ⟨⟨ic _ (Nat.le_of_ble_eq_true rfl) (Nat.le_of_ble_eq_true rfl), rfl⟩, ⟨rfl, ic _ (Nat.le_of_ble_eq_true rfl) (Nat.le_of_ble_eq_true rfl), rfl, rfl⟩, ⟨rfl, ic _ (Nat.le_of_ble_eq_true rfl) (Nat.le_of_ble_eq_true rfl), rfl, rfl⟩, ⟨rfl, ic _ (Nat.le_of_ble_eq_true rfl) (Nat.le_of_ble_eq_true rfl), rfl, rfl⟩, ⟨rfl, ic _ (Nat.le_of_ble_eq_true rfl) (Nat.le_of_ble_eq_true rfl), rfl, rfl⟩, ⟨rfl, ic _ (Nat.le_of_ble_eq_true rfl) (Nat.le_of_ble_eq_true rfl), rfl, rfl⟩, ⟨rfl, ic _ (Nat.le_of_ble_eq_true rfl) (Nat.le_of_ble_eq_true rfl), rfl, rfl⟩, trivial⟩
theorem wt_68 (x : XS) : W_10 (sg x) 68 := ⟨⟨ic _ (Nat.le_of_ble_eq_true rfl) (Nat.le_of_ble_eq_true rfl), rfl⟩, ⟨rfl, ic _ (Nat.le_of_ble_eq_true rfl) (Nat.le_of_ble_eq_true rfl), rfl, rfl⟩, ⟨rfl, ic _ (Nat.le_of_ble_eq_true rfl) (Nat.le_of_ble_eq_true rfl), rfl, rfl⟩, ⟨rfl, ic _ (Nat.le_of_ble_eq_true rfl) (Nat.le_of_ble_eq_true rfl), rfl, rfl⟩, ⟨rfl, ic _ (Nat.le_of_ble_eq_true rfl) (Nat.le_of_ble_eq_true rfl), rfl, rfl⟩, ⟨rfl, ic _ (Nat.le_of_ble_eq_true rfl) (Nat.le_of_ble_eq_true rfl), rfl, rfl⟩, ⟨rfl, ic _ (Nat.le_of_ble_eq_true rfl) (Nat.le_of_ble_eq_true rfl), rfl, rfl⟩, ⟨rfl, ic _ (Nat.le_of_ble_eq_true rfl) (Nat.le_of_ble_eq_true rfl), rfl, rfl⟩, ⟨rfl, ic _ (Nat.le_of_ble_eq_true rfl) (Nat.le_of_ble_eq_true rfl), rfl, rfl⟩, ⟨rfl, ic _ (Nat.le_of_ble_eq_true rfl) (Nat.le_of_ble_eq_true rfl), rfl, rfl⟩, ⟨rfl, ic _ (Nat.le_of_ble_eq_true rfl) (Nat.le_of_ble_eq_true rfl), rfl, rfl⟩, ⟨rfl, ic _ (Nat.le_of_ble_eq_true rfl) (Nat.le_of_ble_eq_true rfl), rfl, rfl⟩, trivial⟩
theorem wt_85 (x : XS) : W_8 (sg x) 85 := ⟨⟨ic _ (Nat.le_of_ble_eq_true rfl) (Nat.le_of_ble_eq_true rfl), rfl⟩, ⟨rfl, ic _ (Nat.le_of_ble_eq_true rfl) (Nat.le_of_ble_eq_true rfl), rfl, rfl⟩, ⟨rfl, ic _ (Nat.le_of_ble_eq_true rfl) (Nat.le_of_ble_eq_true rfl), rfl, rfl⟩, ⟨rfl, ic _ (Nat.le_of_ble_eq_true rfl) (Nat.le_of_ble_eq_true rfl), rfl, rfl⟩, ⟨rfl, ic _ (Nat.le_of_ble_eq_true rfl) (Nat.le_of_ble_eq_true rfl), rfl, rfl⟩, ⟨rfl, ic _ (Nat.le_of_ble_eq_true rfl) (Nat.le_of_ble_eq_true rfl), rfl, rfl⟩, trivial⟩
theorem wt_91 (x : XS) : W_9 (sg x) 91 := ⟨⟨ic _ (Nat.le_of_ble_eq_true rfl) (Nat.le_of_ble_eq_true rfl), rfl⟩, ⟨rfl, wt_85 x⟩, ⟨rfl, ic _ (Nat.le_of_ble_eq_true rfl) (Nat.le_of_ble_eq_true rfl), rfl, rfl⟩, ⟨rfl, ic _ (Nat.le_of_ble_eq_true rfl) (Nat.le_of_ble_eq_true rfl), rfl, rfl⟩, ⟨rfl, ic _ (Nat.le_of_ble_eq_true rfl) (Nat.le_of_ble_eq_true rfl), rfl, rfl⟩, ⟨rfl, ic _ (Nat.le_of_ble_eq_true rfl) (Nat.le_of_ble_eq_true rfl), rfl, rfl⟩, ⟨rfl, ic _ (Nat.le_of_ble_eq_true rfl) (Nat.le_of_ble_eq_true rfl), rfl, rfl⟩, trivial⟩
theorem wt_81 (x : XS) : W_5 (sg x) 81 := ⟨⟨ic _ (Nat.le_of_ble_eq_true rfl) (Nat.le_of_ble_eq_true rfl), rfl⟩, ⟨rfl, ic _ (Nat.le_of_ble_eq_true rfl) (Nat.le_of_ble_eq_true rfl), rfl, rfl⟩, ⟨rfl, ic _ (Nat.le_of_ble_eq_true rfl) (Nat.le_of_ble_eq_true rfl), rfl, rfl⟩, ⟨rfl, ic _ (Nat.le_of_ble_eq_true rfl) (Nat.le_of_ble_eq_true rfl), rfl, rfl⟩, ⟨rfl, wt_91 x⟩, ⟨rfl, wt_85 x⟩, ⟨rfl, ic _ (Nat.le_of_ble_eq_true rfl) (Nat.le_of_ble_eq_true rfl), rfl, rfl⟩, ⟨rfl, ic _ (Nat.le_of_ble_eq_true rfl) (Nat.le_of_ble_eq_true rfl), rfl, rfl⟩, ⟨rfl, ic _ (Nat.le_of_ble_eq_true rfl) (Nat.le_of_ble_eq_true rfl), rfl, rfl⟩, ⟨rfl, ic _ (Nat.le_of_ble_eq_true rfl) (Nat.le_of_ble_eq_true rfl), rfl, rfl⟩, trivial⟩
theorem wt_101 (x : XS) : W_0 (sg x) 101 := ⟨⟨ic _ (Nat.le_of_ble_eq_true rfl) (Nat.le_of_ble_eq_true rfl), rfl⟩, ⟨rfl, ic _ (Nat.le_of_ble_eq_true rfl) (Nat.le_of_ble_eq_true rfl), rfl, rfl⟩, ⟨rfl, ic _ (Nat.le_of_ble_eq_true rfl) (Nat.le_of_ble_eq_true rfl), rfl, rfl⟩, ⟨rfl, ic _ (Nat.le_of_ble_eq_true rfl) (Nat.le_of_ble_eq_true rfl), rfl, rfl⟩, ⟨rfl, ic _ (Nat.le_of_ble_eq_true rfl) (Nat.le_of_ble_eq_true rfl), rfl, rfl⟩, ⟨rfl, ic _ (Nat.le_of_ble_eq_true rfl) (Nat.le_of_ble_eq_true rfl), rfl, rfl⟩, ⟨rfl, ic _ (Nat.le_of_ble_eq_true rfl) (Nat.le_of_ble_eq_true rfl), rfl, rfl⟩, ⟨rfl, ic _ (Nat.le_of_ble_eq_true rfl) (Nat.le_of_ble_eq_true rfl), rfl, rfl⟩, ⟨rfl, ic _ (Nat.le_of_ble_eq_true rfl) (Nat.le_of_ble_eq_true rfl), rfl, rfl⟩, ⟨rfl, ic _ (Nat.le_of_ble_eq_true rfl) (Nat.le_of_ble_eq_true rfl), rfl, rfl⟩, ⟨rfl, ic _ (Nat.le_of_ble_eq_true rfl) (Nat.le_of_ble_eq_true rfl), rfl, rfl⟩, ⟨rfl, ic _ (Nat.le_of_ble_eq_true rfl) (Nat.le_of_ble_eq_true rfl), rfl, rfl⟩, trivial⟩
theorem wt_1 (x : XS) : W_11 (sg x) 1 := ⟨⟨ic _ (Nat.le_of_ble_eq_true rfl) (Nat.le_of_ble_eq_true rfl), rfl⟩, ⟨rfl, wt_2 x⟩, ⟨rfl, wt_17 x⟩, ⟨rfl, wt_32 x⟩, ⟨rfl, wt_38 x⟩, ⟨rfl, ic _ (Nat.le_of_ble_eq_true rfl) (Nat.le_of_ble_eq_true rfl), rfl, rfl⟩, ⟨rfl, wt_45 x⟩, ⟨rfl, wt_46 x⟩, ⟨rfl, wt_54 x⟩, ⟨rfl, wt_58 x⟩, ⟨rfl, wt_61 x⟩, ⟨rfl, wt_68 x⟩, ⟨rfl, wt_81 x⟩, ⟨rfl, wt_101 x⟩, trivial⟩
theorem wt_113 (x : XS) : W_12 (sg x) 113 := ⟨⟨ic _ (Nat.le_of_ble_eq_true rfl) (Nat.le_of_ble_eq_true rfl), rfl⟩, ⟨rfl, ic _ (Nat.le_of_ble_eq_true rfl) (Nat.le_of_ble_eq_true rfl), rfl, rfl⟩, ⟨rfl, ic _ (Nat.le_of_ble_eq_true rfl) (Nat.le_of_ble_eq_true rfl), rfl, rfl⟩, ⟨rfl, ic _ (Nat.le_of_ble_eq_true rfl) (Nat.le_of_ble_eq_true rfl), rfl, rfl⟩, ⟨rfl, ic _ (Nat.le_of_ble_eq_true rfl) (Nat.le_of_ble_eq_true rfl), rfl, rfl⟩, ⟨rfl, ic _ (Nat.le_of_ble_eq_true rfl) (Nat.le_of_ble_eq_true rfl), rfl, rfl⟩, ⟨rfl, ic _ (Nat.le_of_ble_eq_true rfl) (Nat.le_of_ble_eq_true rfl), rfl, rfl⟩, ⟨rfl, ic _ (Nat.le_of_ble_eq_true rfl) (Nat.le_of_ble_eq_true rfl), rfl, rfl⟩, ⟨rfl, ic _ (Nat.le_of_ble_eq_true rfl) (Nat.le_of_ble_eq_true rfl), rfl, rfl⟩, ⟨rfl, ic _ (Nat.le_of_ble_eq_true rfl) (Nat.le_of_ble_eq_true rfl), rfl, rfl⟩, ⟨rfl, ic _ (Nat.le_of_ble_eq_true rfl) (Nat.le_of_ble_eq_true rfl), rfl, rfl⟩, ⟨rfl, ic _ (Nat.le_of_ble_eq_true rfl) (Nat.le_of_ble_eq_true rfl), rfl, rfl⟩, ⟨rfl, ic _ (Nat.le_of_ble_eq_true rfl) (Nat.le_of_ble_eq_true rfl), rfl, rfl⟩, ⟨rfl, ic _ (Nat.le_of_ble_eq_true rfl) (Nat.le_of_ble_eq_true rfl), rfl, rfl⟩, ⟨rfl, ic _ (Nat.le_of_ble_eq_true rfl) (Nat.le_of_ble_eq_true rfl), rfl, rfl⟩, ⟨rfl, ic _ (Nat.le_of_ble_eq_true rfl) (Nat.le_of_ble_eq_true rfl), rfl, rfl⟩, ⟨rfl, ic _ (Nat.le_of_ble_eq_true rfl) (Nat.le_of_ble_eq_true rfl), rfl, rfl⟩, ⟨rfl, ic _ (Nat.le_of_ble_eq_true rfl) (Nat.le_of_ble_eq_true rfl), rfl, rfl⟩, ⟨rfl, ic _ (Nat.le_of_ble_eq_true rfl) (Nat.le_of_ble_eq_true rfl), rfl, rfl⟩, ⟨rfl, ic _ (Nat.le_of_ble_eq_true rfl) (Nat.le_of_ble_eq_true rfl), rfl, rfl⟩, ⟨rfl, ic _ (Nat.le_of_ble_eq_true rfl) (Nat.le_of_ble_eq_true rfl), rfl, rfl⟩, ⟨rfl, ic _ (Nat.le_of_ble_eq_true rfl) (Nat.le_of_ble_eq_true rfl), rfl, rfl⟩, ⟨rfl, ic _ (Nat.le_of_ble_eq_true rfl) (Nat.le_of_ble_eq_true rfl), rfl, rfl⟩, ⟨rfl, ic _ (Nat.le_of_ble_eq_true rfl) (Nat.le_of_ble_eq_true rfl), rfl, rfl⟩, ⟨rfl, ic _ (Nat.le_of_ble_eq_true rfl) (Nat.le_of_ble_eq_true rfl), rfl, rfl⟩, ⟨rfl, ic _ (Nat.le_of_ble_eq_true rfl) (Nat.le_of_ble_eq_true rfl), rfl, rfl⟩, ⟨rfl, ic _ (Nat.le_of_ble_eq_true rfl) (Nat.le_of_ble_eq_true rfl), rfl, rfl⟩, ⟨rfl, ic _ (Nat.le_of_ble_eq_true rfl) (Nat.le_of_ble_eq_true rfl), rfl, rfl⟩, ⟨rfl, ic _ (Nat.le_of_ble_eq_true rfl) (Nat.le_of_ble_eq_true rfl), rfl, rfl⟩, ⟨rfl, ic _ (Nat.le_of_ble_eq_true rfl) (Nat.le_of_ble_eq_true rfl), rfl, rfl⟩, ⟨rfl, ic _ (Nat.le_of_ble_eq_true rfl) (Nat.le_of_ble_eq_true rfl), rfl, rfl⟩, ⟨rfl, ic _ (Nat.le_of_ble_eq_true rfl) (Nat.le_of_ble_eq_true rfl), rfl, rfl⟩, ⟨rfl, ic _ (Nat.le_of_ble_eq_true rfl) (Nat.le_of_ble_eq_true rfl), rfl, rfl⟩, ⟨rfl, ic _ (Nat.le_of_ble_eq_true rfl) (Nat.le_of_ble_eq_true rfl), rfl, rfl⟩, ⟨rfl, ic _ (Nat.le_of_ble_eq_true rfl) (Nat.le_of_ble_eq_true rfl), rfl, rfl⟩, ⟨rfl, ic _ (Nat.le_of_ble_eq_true rfl) (Nat.le_of_ble_eq_true rfl), rfl, rfl⟩, ⟨rfl, ic _ (Nat.le_of_ble_eq_true rfl) (Nat.le_of_ble_eq_true rfl), rfl, rfl⟩, ⟨rfl, ic _ (Nat.le_of_ble_eq_true rfl) (Nat.le_of_ble_eq_true rfl), rfl, rfl⟩, ⟨rfl, ic _ (Nat.le_of_ble_eq_true rfl) (Nat.le_of_ble_eq_true rfl), rfl, rfl⟩, ⟨rfl, ic _ (Nat.le_of_ble_eq_true rfl) (Nat.le_of_ble_eq_true rfl), rfl, rfl⟩, ⟨rfl, ic _ (Nat.le_of_ble_eq_true rfl) (Nat.le_of_ble_eq_true rfl), rfl, rfl⟩, ⟨rfl, ic _ (Nat.le_of_ble_eq_true rfl) (Nat.le_of_ble_eq_true rfl), rfl, rfl⟩, ⟨rfl, ic _ (Nat.le_of_ble_eq_true rfl) (Nat.le_of_ble_eq_true rfl), rfl, rfl⟩, ⟨rfl, ic _ (Nat.le_of_ble_eq_true rfl) (Nat.le_of_ble_eq_true rfl), rfl, rfl⟩, ⟨rfl, ic _ (Nat.le_of_ble_eq_true rfl) (Nat.le_of_ble_eq_true rfl), rfl, rfl⟩, ⟨rfl, ic _ (Nat.le_of_ble_eq_true rfl) (Nat.le_of_ble_eq_true rfl), rfl, rfl⟩, ⟨rfl, ic _ (Nat.le_of_ble_eq_true rfl) (Nat.le_of_ble_eq_true rfl), rfl, rfl⟩, ⟨rfl, ic _ (Nat.le_of_ble_eq_true rfl) (Nat.le_of_ble_eq_true rfl), rfl, rfl⟩, trivial⟩
theorem at_3 (x : XS) : ArS (sg x) 3 5 := ⟨ic _ (Nat.le_of_ble_eq_true rfl) (Nat.le_of_ble_eq_true rfl), rfl, rfl⟩
theorem at_4 (x : XS) : ArS (sg x) 4 12 := ⟨ic _ (Nat.le_of_ble_eq_true rfl) (Nat.le_of_ble_eq_true rfl), rfl, rfl⟩
theorem at_6 (x : XS) : ArS (sg x) 6 125 := ⟨ic _ (Nat.le_of_ble_eq_true rfl) (Nat.le_of_ble_eq_true rfl), rfl, rfl⟩
theorem at_7 (x : XS) : ArS (sg x) 7 5 := ⟨ic _ (Nat.le_of_ble_eq_true rfl) (Nat.le_of_ble_eq_true rfl), rfl, rfl⟩
theorem at_8 (x : XS) : AlS (sg x) 8 5 := ⟨ic _ (Nat.le_of_ble_eq_true rfl) (Nat.le_of_ble_eq_true rfl), rfl, rfl⟩
theorem at_9 (x : XS) : AlS (sg x) 9 5 := ⟨ic _ (Nat.le_of_ble_eq_true rfl) (Nat.le_of_ble_eq_true rfl), rfl, rfl⟩
theorem at_10 (x : XS) : ArS (sg x) 10 25 := ⟨ic _ (Nat.le_of_ble_eq_true rfl) (Nat.le_of_ble_eq_true rfl), rfl, rfl⟩
theorem at_12 (x : XS) : ArS (sg x) 12 729 := ⟨ic _ (Nat.le_of_ble_eq_true rfl) (Nat.le_of_ble_eq_true rfl), rfl, rfl⟩
theorem at_13 (x : XS) : ArS (sg x) 13 27 := ⟨ic _ (Nat.le_of_ble_eq_true rfl) (Nat.le_of_ble_eq_true rfl), rfl, rfl⟩
theorem at_14 (x : XS) : ArS (sg x) 14 9 := ⟨ic _ (Nat.le_of_ble_eq_true rfl) (Nat.le_of_ble_eq_true rfl), rfl, rfl⟩
theorem at_15 (x : XS) : ArS (sg x) 15 5 := ⟨ic _ (Nat.le_of_ble_eq_true rfl) (Nat.le_of_ble_eq_true rfl), rfl, rfl⟩
theorem at_16 (x : XS) : ArS (sg x) 16 9 := ⟨ic _ (Nat.le_of_ble_eq_true rfl) (Nat.le_of_ble_eq_true rfl), rfl, rfl⟩
theorem at_18 (x : XS) : ArS (sg x) 18 5 := ⟨ic _ (Nat.le_of_ble_eq_true rfl) (Nat.le_of_ble_eq_true rfl), rfl, rfl⟩
theorem at_19 (x : XS) : ArS (sg x) 19 12 := ⟨ic _ (Nat.le_of_ble_eq_true rfl) (Nat.le_of_ble_eq_true rfl), rfl, rfl⟩
theorem at_21 (x : XS) : ArS (sg x) 21 125 := ⟨ic _ (Nat.le_of_ble_eq_true rfl) (Nat.le_of_ble_eq_true rfl), rfl, rfl⟩
theorem at_22 (x : XS) : ArS (sg x) 22 5 := ⟨ic _ (Nat.le_of_ble_eq_true rfl) (Nat.le_of_ble_eq_true rfl), rfl, rfl⟩
theorem at_23 (x : XS) : AlS (sg x) 23 5 := ⟨ic _ (Nat.le_of_ble_eq_true rfl) (Nat.le_of_ble_eq_true rfl), rfl, rfl⟩
theorem at_24 (x : XS) : AlS (sg x) 24 5 := ⟨ic _ (Nat.le_of_ble_eq_true rfl) (Nat.le_of_ble_eq_true rfl), rfl, rfl⟩
theorem at_25 (x : XS) : ArS (sg x) 25 25 := ⟨ic _ (Nat.le_of_ble_eq_true rfl) (Nat.le_of_ble_eq_true rfl), rfl, rfl⟩
theorem at_27 (x : XS) : ArS (sg x) 27 729 := ⟨ic _ (Nat.le_of_ble_eq_true rfl) (Nat.le_of_ble_eq_true rfl), rfl, rfl⟩
theorem at_28 (x : XS) : ArS (sg x) 28 27 := ⟨ic _ (Nat.le_of_ble_eq_true rfl) (Nat.le_of_ble_eq_true rfl), rfl, rfl⟩
theorem at_29 (x : XS) : ArS (sg x) 29 9 := ⟨ic _ (Nat.le_of_ble_eq_true rfl) (Nat.le_of_ble_eq_true rfl), rfl, rfl⟩
theorem at_30 (x : XS) : ArS (sg x) 30 5 := ⟨ic _ (Nat.le_of_ble_eq_true rfl) (Nat.le_of_ble_eq_true rfl), rfl, rfl⟩
theorem at_31 (x : XS) : ArS (sg x) 31 9 := ⟨ic _ (Nat.le_of_ble_eq_true rfl) (Nat.le_of_ble_eq_true rfl), rfl, rfl⟩
theorem at_33 (x : XS) : ArS (sg x) 33 125 := ⟨ic _ (Nat.le_of_ble_eq_true rfl) (Nat.le_of_ble_eq_true rfl), rfl, rfl⟩
theorem at_34 (x : XS) : ArS (sg x) 34 5 := ⟨ic _ (Nat.le_of_ble_eq_true rfl) (Nat.le_of_ble_eq_true rfl), rfl, rfl⟩
theorem at_35 (x : XS) : AlS (sg x) 35 5 := ⟨ic _ (Nat.le_of_ble_eq_true rfl) (Nat.le_of_ble_eq_true rfl), rfl, rfl⟩
theorem at_36 (x : XS) : AlS (sg x) 36 5 := ⟨ic _ (Nat.le_of_ble_eq_true rfl) (Nat.le_of_ble_eq_true rfl), rfl, rfl⟩
theorem at_37 (x : XS) : ArS (sg x) 37 25 := ⟨ic _ (Nat.le_of_ble_eq_true rfl) (Nat.le_of_ble_eq_true rfl), rfl, rfl⟩
theorem at_39 (x : XS) : ArS (sg x) 39 125 := ⟨ic _ (Nat.le_of_ble_eq_true rfl) (Nat.le_of_ble_eq_true rfl), rfl, rfl⟩
theorem at_40 (x : XS) : ArS (sg x) 40 5 := ⟨ic _ (Nat.le_of_ble_eq_true rfl) (Nat.le_of_ble_eq_true rfl), rfl, rfl⟩
theorem at_41 (x : XS) : AlS (sg x) 41 5 := ⟨ic _ (Nat.le_of_ble_eq_true rfl) (Nat.le_of_ble_eq_true rfl), rfl, rfl⟩
theorem at_42 (x : XS) : AlS (sg x) 42 5 := ⟨ic _ (Nat.le_of_ble_eq_true rfl) (Nat.le_of_ble_eq_true rfl), rfl, rfl⟩
theorem at_43 (x : XS) : ArS (sg x) 43 25 := ⟨ic _ (Nat.le_of_ble_eq_true rfl) (Nat.le_of_ble_eq_true rfl), rfl, rfl⟩
theorem at_44 (x : XS) : ArS (sg x) 44 400 := ⟨ic _ (Nat.le_of_ble_eq_true rfl) (Nat.le_of_ble_eq_true rfl), rfl, rfl⟩
theorem at_48 (x : XS) : ArS (sg x) 48 4 := ⟨ic _ (Nat.le_of_ble_eq_true rfl) (Nat.le_of_ble_eq_true rfl), rfl, rfl⟩
theorem at_49 (x : XS) : ArS (sg x) 49 64 := ⟨ic _ (Nat.le_of_ble_eq_true rfl) (Nat.le_of_ble_eq_true rfl), rfl, rfl⟩
theorem at_50 (x : XS) : ArS (sg x) 50 10 := ⟨ic _ (Nat.le_of_ble_eq_true rfl) (Nat.le_of_ble_eq_true rfl), rfl, rfl⟩
theorem at_51 (x : XS) : ArS (sg x) 51 10 := ⟨ic _ (Nat.le_of_ble_eq_true rfl) (Nat.le_of_ble_eq_true rfl), rfl, rfl⟩
theorem at_52 (x : XS) : ArS (sg x) 52 27 := ⟨ic _ (Nat.le_of_ble_eq_true rfl) (Nat.le_of_ble_eq_true rfl), rfl, rfl⟩
theorem at_53 (x : XS) : ArS (sg x) 53 11 := ⟨ic _ (Nat.le_of_ble_eq_true rfl) (Nat.le_of_ble_eq_true rfl), rfl, rfl⟩
theorem at_55 (x : XS) : ArS (sg x) 55 100 := ⟨ic _ (Nat.le_of_ble_eq_true rfl) (Nat.le_of_ble_eq_true rfl), rfl, rfl⟩
theorem at_56 (x : XS) : ArS (sg x) 56 100 := ⟨ic _ (Nat.le_of_ble_eq_true rfl) (Nat.le_of_ble_eq_true rfl), rfl, rfl⟩
theorem at_57 (x : XS) : ArS (sg x) 57 100 := ⟨ic _ (Nat.le_of_ble_eq_true rfl) (Nat.le_of_ble_eq_true rfl), rfl, rfl⟩
theorem at_59 (x : XS) : ArS (sg x) 59 32 := ⟨ic _ (Nat.le_of_ble_eq_true rfl) (Nat.le_of_ble_eq_true rfl), rfl, rfl⟩
theorem at_60 (x : XS) : ArS (sg x) 60 25 := ⟨ic _ (Nat.le_of_ble_eq_true rfl) (Nat.le_of_ble_eq_true rfl), rfl, rfl⟩
theorem at_62 (x : XS) : ArS (sg x) 62 25 := ⟨ic _ (Nat.le_of_ble_eq_true rfl) (Nat.le_of_ble_eq_true rfl), rfl, rfl⟩
theorem at_63 (x : XS) : ArS (sg x) 63 25 := ⟨ic _ (Nat.le_of_ble_eq_true rfl) (Nat.le_of_ble_eq_true rfl), rfl, rfl⟩
theorem at_64 (x : XS) : ArS (sg x) 64 5 := ⟨ic _ (Nat.le_of_ble_eq_true rfl) (Nat.le_of_ble_eq_true rfl), rfl, rfl⟩
theorem at_65 (x : XS) : ArS (sg x) 65 5 := ⟨ic _ (Nat.le_of_ble_eq_true rfl) (Nat.le_of_ble_eq_true rfl), rfl, rfl⟩
theorem at_66 (x : XS) : ArS (sg x) 66 25 := ⟨ic _ (Nat.le_of_ble_eq_true rfl) (Nat.le_of_ble_eq_true rfl), rfl, rfl⟩
theorem at_67 (x : XS) : ArS (sg x) 67 25 := ⟨ic _ (Nat.le_of_ble_eq_true rfl) (Nat.le_of_ble_eq_true rfl), rfl, rfl⟩
theorem at_69 (x : XS) : ArS (sg x) 69 5 := ⟨ic _ (Nat.le_of_ble_eq_true rfl) (Nat.le_of_ble_eq_true rfl), rfl, rfl⟩
theorem at_70 (x : XS) : ArS (sg x) 70 5 := ⟨ic _ (Nat.le_of_ble_eq_true rfl) (Nat.le_of_ble_eq_true rfl), rfl, rfl⟩
theorem at_72 (x : XS) : ArS (sg x) 72 5 := ⟨ic _ (Nat.le_of_ble_eq_true rfl) (Nat.le_of_ble_eq_true rfl), rfl, rfl⟩
theorem at_73 (x : XS) : ArS (sg x) 73 5 := ⟨ic _ (Nat.le_of_ble_eq_true rfl) (Nat.le_of_ble_eq_true rfl), rfl, rfl⟩
theorem at_74 (x : XS) : ArS (sg x) 74 5 := ⟨ic _ (Nat.le_of_ble_eq_true rfl) (Nat.le_of_ble_eq_true rfl), rfl, rfl⟩
theorem at_75 (x : XS) : ArS (sg x) 75 5 := ⟨ic _ (Nat.le_of_ble_eq_true rfl) (Nat.le_of_ble_eq_true rfl), rfl, rfl⟩
theorem at_76 (x : XS) : ArS (sg x) 76 25 := ⟨ic _ (Nat.le_of_ble_eq_true rfl) (Nat.le_of_ble_eq_true rfl), rfl, rfl⟩
theorem at_77 (x : XS) : ArS (sg x) 77 25 := ⟨ic _ (Nat.le_of_ble_eq_true rfl) (Nat.le_of_ble_eq_true rfl), rfl, rfl⟩
theorem at_78 (x : XS) : ArS (sg x) 78 25 := ⟨ic _ (Nat.le_of_ble_eq_true rfl) (Nat.le_of_ble_eq_true rfl), rfl, rfl⟩
theorem at_79 (x : XS) : ArS (sg x) 79 25 := ⟨ic _ (Nat.le_of_ble_eq_true rfl) (Nat.le_of_ble_eq_true rfl), rfl, rfl⟩
theorem at_80 (x : XS) : ArS (sg x) 80 25 := ⟨ic _ (Nat.le_of_ble_eq_true rfl) (Nat.le_of_ble_eq_true rfl), rfl, rfl⟩
theorem at_82 (x : XS) : ArS (sg x) 82 5 := ⟨ic _ (Nat.le_of_ble_eq_true rfl) (Nat.le_of_ble_eq_true rfl), rfl, rfl⟩
theorem at_83 (x : XS) : ArS (sg x) 83 5 := ⟨ic _ (Nat.le_of_ble_eq_true rfl) (Nat.le_of_ble_eq_true rfl), rfl, rfl⟩
theorem at_84 (x : XS) : ArS (sg x) 84 5 := ⟨ic _ (Nat.le_of_ble_eq_true rfl) (Nat.le_of_ble_eq_true rfl), rfl, rfl⟩
theorem at_86 (x : XS) : ArS (sg x) 86 125 := ⟨ic _ (Nat.le_of_ble_eq_true rfl) (Nat.le_of_ble_eq_true rfl), rfl, rfl⟩
theorem at_87 (x : XS) : ArS (sg x) 87 5 := ⟨ic _ (Nat.le_of_ble_eq_true rfl) (Nat.le_of_ble_eq_true rfl), rfl, rfl⟩
theorem at_88 (x : XS) : AlS (sg x) 88 5 := ⟨ic _ (Nat.le_of_ble_eq_true rfl) (Nat.le_of_ble_eq_true rfl), rfl, rfl⟩
theorem at_89 (x : XS) : AlS (sg x) 89 5 := ⟨ic _ (Nat.le_of_ble_eq_true rfl) (Nat.le_of_ble_eq_true rfl), rfl, rfl⟩
theorem at_90 (x : XS) : ArS (sg x) 90 25 := ⟨ic _ (Nat.le_of_ble_eq_true rfl) (Nat.le_of_ble_eq_true rfl), rfl, rfl⟩
theorem at_92 (x : XS) : ArS (sg x) 92 729 := ⟨ic _ (Nat.le_of_ble_eq_true rfl) (Nat.le_of_ble_eq_true rfl), rfl, rfl⟩
theorem at_93 (x : XS) : ArS (sg x) 93 27 := ⟨ic _ (Nat.le_of_ble_eq_true rfl) (Nat.le_of_ble_eq_true rfl), rfl, rfl⟩
theorem at_94 (x : XS) : ArS (sg x) 94 9 := ⟨ic _ (Nat.le_of_ble_eq_true rfl) (Nat.le_of_ble_eq_true rfl), rfl, rfl⟩
theorem at_95 (x : XS) : ArS (sg x) 95 5 := ⟨ic _ (Nat.le_of_ble_eq_true rfl) (Nat.le_of_ble_eq_true rfl), rfl, rfl⟩
theorem at_96 (x : XS) : ArS (sg x) 96 9 := ⟨ic _ (Nat.le_of_ble_eq_true rfl) (Nat.le_of_ble_eq_true rfl), rfl, rfl⟩
theorem at_97 (x : XS) : ArS (sg x) 97 160 := ⟨ic _ (Nat.le_of_ble_eq_true rfl) (Nat.le_of_ble_eq_true rfl), rfl, rfl⟩
theorem at_98 (x : XS) : ArS (sg x) 98 32 := ⟨ic _ (Nat.le_of_ble_eq_true rfl) (Nat.le_of_ble_eq_true rfl), rfl, rfl⟩
theorem at_99 (x : XS) : ArS (sg x) 99 25 := ⟨ic _ (Nat.le_of_ble_eq_true rfl) (Nat.le_of_ble_eq_true rfl), rfl, rfl⟩
theorem at_100 (x : XS) : ArS (sg x) 100 25 := ⟨ic _ (Nat.le_of_ble_eq_true rfl) (Nat.le_of_ble_eq_true rfl), rfl, rfl⟩
theorem at_102 (x : XS) : ArS (sg x) 102 3 := ⟨ic _ (Nat.le_of_ble_eq_true rfl) (Nat.le_of_ble_eq_true rfl), rfl, rfl⟩
theorem at_103 (x : XS) : ArS (sg x) 103 3 := ⟨ic _ (Nat.le_of_ble_eq_true rfl) (Nat.le_of_ble_eq_true rfl), rfl, rfl⟩
theorem at_104 (x : XS) : ArS (sg x) 104 3 := ⟨ic _ (Nat.le_of_ble_eq_true rfl) (Nat.le_of_ble_eq_true rfl), rfl, rfl⟩
theorem at_105 (x : XS) : ArS (sg x) 105 25 := ⟨ic _ (Nat.le_of_ble_eq_true rfl) (Nat.le_of_ble_eq_true rfl), rfl, rfl⟩
theorem at_106 (x : XS) : ArS (sg x) 106 25 := ⟨ic _ (Nat.le_of_ble_eq_true rfl) (Nat.le_of_ble_eq_true rfl), rfl, rfl⟩
theorem at_107 (x : XS) : ArS (sg x) 107 25 := ⟨ic _ (Nat.le_of_ble_eq_true rfl) (Nat.le_of_ble_eq_true rfl), rfl, rfl⟩
theorem at_108 (x : XS) : ArS (sg x) 108 25 := ⟨ic _ (Nat.le_of_ble_eq_true rfl) (Nat.le_of_ble_eq_true rfl), rfl, rfl⟩
theorem at_109 (x : XS) : ArS (sg x) 109 25 := ⟨ic _ (Nat.le_of_ble_eq_true rfl) (Nat.le_of_ble_eq_true rfl), rfl, rfl⟩
theorem at_110 (x : XS) : ArS (sg x) 110 25 := ⟨ic _ (Nat.le_of_ble_eq_true rfl) (Nat.le_of_ble_eq_true rfl), rfl, rfl⟩
theorem at_111 (x : XS) : ArS (sg x) 111 25 := ⟨ic _ (Nat.le_of_ble_eq_true rfl) (Nat.le_of_ble_eq_true rfl), rfl, rfl⟩
theorem at_112 (x : XS) : ArS (sg x) 112 25 := ⟨ic _ (Nat.le_of_ble_eq_true rfl) (Nat.le_of_ble_eq_true rfl), rfl, rfl⟩
theorem at_114 (x : XS) : ArS (sg x) 114 125 := ⟨ic _ (Nat.le_of_ble_eq_true rfl) (Nat.le_of_ble_eq_true rfl), rfl, rfl⟩
theorem at_115 (x : XS) : ArS (sg x) 115 125 := ⟨ic _ (Nat.le_of_ble_eq_true rfl) (Nat.le_of_ble_eq_true rfl), rfl, rfl⟩
theorem at_116 (x : XS) : ArS (sg x) 116 125 := ⟨ic _ (Nat.le_of_ble_eq_true rfl) (Nat.le_of_ble_eq_true rfl), rfl, rfl⟩
theorem at_117 (x : XS) : ArS (sg x) 117 729 := ⟨ic _ (Nat.le_of_ble_eq_true rfl) (Nat.le_of_ble_eq_true rfl), rfl, rfl⟩
theorem at_118 (x : XS) : ArS (sg x) 118 27 := ⟨ic _ (Nat.le_of_ble_eq_true rfl) (Nat.le_of_ble_eq_true rfl), rfl, rfl⟩
theorem at_119 (x : XS) : ArS (sg x) 119 5 := ⟨ic _ (Nat.le_of_ble_eq_true rfl) (Nat.le_of_ble_eq_true rfl), rfl, rfl⟩
theorem at_120 (x : XS) : ArS (sg x) 120 12 := ⟨ic _ (Nat.le_of_ble_eq_true rfl) (Nat.le_of_ble_eq_true rfl), rfl, rfl⟩
theorem at_121 (x : XS) : ArS (sg x) 121 2 := ⟨ic _ (Nat.le_of_ble_eq_true rfl) (Nat.le_of_ble_eq_true rfl), rfl, rfl⟩
theorem at_122 (x : XS) : ArS (sg x) 122 100 := ⟨ic _ (Nat.le_of_ble_eq_true rfl) (Nat.le_of_ble_eq_true rfl), rfl, rfl⟩
theorem at_123 (x : XS) : ArS (sg x) 123 100 := ⟨ic _ (Nat.le_of_ble_eq_true rfl) (Nat.le_of_ble_eq_true rfl), rfl, rfl⟩
theorem at_124 (x : XS) : ArS (sg x) 124 100 := ⟨ic _ (Nat.le_of_ble_eq_true rfl) (Nat.le_of_ble_eq_true rfl), rfl, rfl⟩
theorem at_125 (x : XS) : ArS (sg x) 125 100 := ⟨ic _ (Nat.le_of_ble_eq_true rfl) (Nat.le_of_ble_eq_true rfl), rfl, rfl⟩
theorem at_126 (x : XS) : ArS (sg x) 126 400 := ⟨ic _ (Nat.le_of_ble_eq_true rfl) (Nat.le_of_ble_eq_true rfl), rfl, rfl⟩
theorem at_127 (x : XS) : AlS (sg x) 127 5 := ⟨ic _ (Nat.le_of_ble_eq_true rfl) (Nat.le_of_ble_eq_true rfl), rfl, rfl⟩
theorem at_128 (x : XS) : AlS (sg x) 128 5 := ⟨ic _ (Nat.le_of_ble_eq_true rfl) (Nat.le_of_ble_eq_true rfl), rfl, rfl⟩
theorem at_129 (x : XS) : ArS (sg x) 129 4000 := ⟨ic _ (Nat.le_of_ble_eq_true rfl) (Nat.le_of_ble_eq_true rfl), rfl, rfl⟩
theorem at_130 (x : XS) : ArS (sg x) 130 4000 := ⟨ic _ (Nat.le_of_ble_eq_true rfl) (Nat.le_of_ble_eq_true rfl), rfl, rfl⟩
theorem at_131 (x : XS) : ArS (sg x) 131 125 := ⟨ic _ (Nat.le_of_ble_eq_true rfl) (Nat.le_of_ble_eq_true rfl), rfl, rfl⟩
theorem at_132 (x : XS) : ArS (sg x) 132 10 := ⟨ic _ (Nat.le_of_ble_eq_true rfl) (Nat.le_of_ble_eq_true rfl), rfl, rfl⟩
theorem at_133 (x : XS) : ArS (sg x) 133 10 := ⟨ic _ (Nat.le_of_ble_eq_true rfl) (Nat.le_of_ble_eq_true rfl), rfl, rfl⟩
theorem at_134 (x : XS) : ArS (sg x) 134 5 := ⟨ic _ (Nat.le_of_ble_eq_true rfl) (Nat.le_of_ble_eq_true rfl), rfl, rfl⟩
theorem at_135 (x : XS) : ArS (sg x) 135 5 := ⟨ic _ (Nat.le_of_ble_eq_true rfl) (Nat.le_of_ble_eq_true rfl), rfl, rfl⟩
theorem at_136 (x : XS) : ArS (sg x) 136 9 := ⟨ic _ (Nat.le_of_ble_eq_true rfl) (Nat.le_of_ble_eq_true rfl), rfl, rfl⟩
theorem at_137 (x : XS) : ArS (sg x) 137 9 := ⟨ic _ (Nat.le_of_ble_eq_true rfl) (Nat.le_of_ble_eq_true rfl), rfl, rfl⟩
theorem at_138 (x : XS) : ArS (sg x) 138 25 := ⟨ic _ (Nat.le_of_ble_eq_true rfl) (Nat.le_of_ble_eq_true rfl), rfl, rfl⟩
theorem at_139 (x : XS) : ArS (sg x) 139 25 := ⟨ic _ (Nat.le_of_ble_eq_true rfl) (Nat.le_of_ble_eq_true rfl), rfl, rfl⟩
theorem at_140 (x : XS) : ArS (sg x) 140 729 := ⟨ic _ (Nat.le_of_ble_eq_true rfl) (Nat.le_of_ble_eq_true rfl), rfl, rfl⟩
theorem at_141 (x : XS) : ArS (sg x) 141 729 := ⟨ic _ (Nat.le_of_ble_eq_true rfl) (Nat.le_of_ble_eq_true rfl), rfl, rfl⟩
theorem at_142 (x : XS) : ArS (sg x) 142 729 := ⟨ic _ (Nat.le_of_ble_eq_true rfl) (Nat.le_of_ble_eq_true rfl), rfl, rfl⟩
theorem at_143 (x : XS) : ArS (sg x) 143 25 := ⟨ic _ (Nat.le_of_ble_eq_true rfl) (Nat.le_of_ble_eq_true rfl), rfl, rfl⟩
theorem at_144 (x : XS) : ArS (sg x) 144 25 := ⟨ic _ (Nat.le_of_ble_eq_true rfl) (Nat.le_of_ble_eq_true rfl), rfl, rfl⟩
theorem at_145 (x : XS) : ArS (sg x) 145 25 := ⟨ic _ (Nat.le_of_ble_eq_true rfl) (Nat.le_of_ble_eq_true rfl), rfl, rfl⟩
theorem at_146 (x : XS) : ArS (sg x) 146 5 := ⟨ic _ (Nat.le_of_ble_eq_true rfl) (Nat.le_of_ble_eq_true rfl), rfl, rfl⟩
theorem at_147 (x : XS) : ArS (sg x) 147 5 := ⟨ic _ (Nat.le_of_ble_eq_true rfl) (Nat.le_of_ble_eq_true rfl), rfl, rfl⟩
theorem at_148 (x : XS) : ArS (sg x) 148 5 := ⟨ic _ (Nat.le_of_ble_eq_true rfl) (Nat.le_of_ble_eq_true rfl), rfl, rfl⟩
theorem at_149 (x : XS) : ArS (sg x) 149 25 := ⟨ic _ (Nat.le_of_ble_eq_true rfl) (Nat.le_of_ble_eq_true rfl), rfl, rfl⟩
theorem at_150 (x : XS) : ArS (sg x) 150 25 := ⟨ic _ (Nat.le_of_ble_eq_true rfl) (Nat.le_of_ble_eq_true rfl), rfl, rfl⟩
theorem at_151 (x : XS) : ArS (sg x) 151 25 := ⟨ic _ (Nat.le_of_ble_eq_true rfl) (Nat.le_of_ble_eq_true rfl), rfl, rfl⟩
theorem at_152 (x : XS) : ArS (sg x) 152 25 := ⟨ic _ (Nat.le_of_ble_eq_true rfl) (Nat.le_of_ble_eq_true rfl), rfl, rfl⟩
theorem at_153 (x : XS) : ArS (sg x) 153 25 := ⟨ic _ (Nat.le_of_ble_eq_true rfl) (Nat.le_of_ble_eq_true rfl), rfl, rfl⟩
theorem at_154 (x : XS) : ArS (sg x) 154 5 := ⟨ic _ (Nat.le_of_ble_eq_true rfl) (Nat.le_of_ble_eq_true rfl), rfl, rfl⟩
theorem at_155 (x : XS) : ArS (sg x) 155 125 := ⟨ic _ (Nat.le_of_ble_eq_true rfl) (Nat.le_of_ble_eq_true rfl), rfl, rfl⟩
theorem at_156 (x : XS) : ArS (sg x) 156 729 := ⟨ic _ (Nat.le_of_ble_eq_true rfl) (Nat.le_of_ble_eq_true rfl), rfl, rfl⟩
theorem at_157 (x : XS) : ArS (sg x) 157 27 := ⟨ic _ (Nat.le_of_ble_eq_true rfl) (Nat.le_of_ble_eq_true rfl), rfl, rfl⟩
theorem at_158 (x : XS) : ArS (sg x) 158 5 := ⟨ic _ (Nat.le_of_ble_eq_true rfl) (Nat.le_of_ble_eq_true rfl), rfl, rfl⟩
theorem at_159 (x : XS) : ArS (sg x) 159 12 := ⟨ic _ (Nat.le_of_ble_eq_true rfl) (Nat.le_of_ble_eq_true rfl), rfl, rfl⟩
theorem at_160 (x : XS) : ArS (sg x) 160 2 := ⟨ic _ (Nat.le_of_ble_eq_true rfl) (Nat.le_of_ble_eq_true rfl), rfl, rfl⟩
theorem at_161 (x : XS) : AlS (sg x) 161 1 := ⟨ic _ (Nat.le_of_ble_eq_true rfl) (Nat.le_of_ble_eq_true rfl), rfl, rfl⟩
theorem m4 {x : XS} (h : xrt x = 44 ∧ xrb x = 38) : M_4 (sg x) 45 := ⟨⟨h.1, at_44 x⟩, ⟨h.2, wt_38 x⟩⟩
theorem m10 {x : XS} (h : xtt x = 5 ∧ xtn x = 58) : M_10 (sg x) 68 := ⟨⟨h.1, wt_5 x⟩, ⟨h.2, wt_58 x⟩⟩
theorem y2 {x : XS} (h : xzc x < 2147483648) : Y_2 (sg x) 46 (xzc x) := ⟨rfl, ⟨ic _ (Nat.le_of_ble_eq_true rfl) (Nat.le_of_ble_eq_true rfl), rfl, rfl⟩, h⟩
theorem y10 {x : XS} (h : xzf x < 2147483648) : Y_10 (sg x) 68 (xzf x) := ⟨rfl, ⟨ic _ (Nat.le_of_ble_eq_true rfl) (Nat.le_of_ble_eq_true rfl), rfl, rfl⟩, h⟩
/-! what changes -/
def xD (x : XS) (d : DA) : XS := (d, x.2)
def xT (x : XS) : XS := (x.1, xzc x, xzf x, xrt x, xrb x, xtt x, xtn x, xe x, xc x + 1, xs x + 6)
def KX (B : BT) (c0 s0 : Nat) (ad : Nat → Nat) (x : XS) : KT := (B, ad, sg x, xc x - c0, xs x - s0)
def exN (e : Nat) : String := if e = 0 then "java/lang/IllegalArgumentException" else "java/util/NoSuchElementException"
def Ag (g : Nat) (ad0 ad : Nat → Nat) : Prop := ∀ i, (i = g → g = 0) → ad i = ad0 i
theorem Ag.refl (g : Nat) (ad : Nat → Nat) : Ag g ad ad := fun _ _ => rfl
theorem Ag.zero {ad ad' : Nat → Nat} (h : Ag 0 ad ad') : ad' = ad := funext fun i => h i (fun _ => rfl)
theorem Ag.one {g : Nat} {ad ad' : Nat → Nat} (h : Ag g ad ad') (hg : g ≠ 0) : ad' = fu ad g (ad' g) := funext fun i => by
  by_cases hi : i = g
  · subst hi; rw [fu_s]
  · rw [fu_n hi]; exact h i (fun e => absurd e hi)
theorem Ag.fu {g p : Nat} {ad0 ad : Nat → Nat} (h : Ag g ad0 ad) (hg : g ≠ 0) : Ag g ad0 (fu ad g p) := fun i hi => by
  by_cases e : i = g
  · exact absurd (hi e) hg
  · rw [fu_n e]; exact h i hi
def QX (G : GT) (g : Nat) (ad : Nat → Nat) (rv : Option Value) (x' : XS) : Array Value → State → Outcome → State → Prop := fun _ st o t => o = .returned rv ∧ (∃ ad', Ag g ad ad' ∧ Rp G ad' (sg x') t.heap) ∧ va_F (gA G) st t
def XX (G : GT) (g : Nat) (ad : Nat → Nat) (E : String) (x' : XS) : String → State → State → Prop := fun E' st t => E' = E ∧ (∃ ad', Ag g ad ad' ∧ Rp G ad' (sg x') t.heap) ∧ va_F (gA G) st t
def QY (G : GT) (g : Nat) (ad : Nat → Nat) (x' : XS) : Option Value ⊕ Nat → Array Value → State → Outcome → State → Prop
  | .inl rv => QX G g ad rv x'
  | .inr _ => fun _ _ _ _ => False
def XY (G : GT) (g : Nat) (ad : Nat → Nat) (x' : XS) : Option Value ⊕ Nat → String → State → State → Prop
  | .inl _ => fun _ _ _ => False
  | .inr e => XX G g ad (exN e) x'
abbrev rmX (fr lo mc ms : Nat) : Room := { frames := fr, cells := mc, slots := ms, locals := lo }
/-- y, from x with av: it returns or throws as ρ says, and leaves x' -/
def XCt (G : GT) (l : Launch) (y : MethodName) (cc : ByteArray) (n : Nat) (ret : Option FieldType) (fr lo g : Nat) (ad : Nat → Nat) (x : XS) (av : List Value) (ρ : Option Value ⊕ Nat) (x' : XS) : Prop :=
  vx_Met l y [.code y cc n ret] (rmX fr lo (xc x' - xc x) (xs x' - xs x)) (PC G ad (sg x) av) (QY G g ad x' ρ) (XY G g ad x' ρ) (xc x' - xc x) (xs x' - xs x) (gA G)
/-- the method's context: it ends by vx_MQ, and has no handlers -/
def OkX (K : KT) (XC : String → State → State → Prop) : Prop := kQ K = vx_MQ (kb K) (kQc K) XC (kav K) (ks K) (kmc K) (kms K) (gA (kG K)) ∧ ∀ z ∈ (kc K).exceptionTable.toList, False
def EY (B : BT) (XC : String → State → State → Prop) (t : State) : Option Value ⊕ Nat → Prop
  | .inl rv => kQc (B, fun _ => 0, (0, fun _ => 0, fun _ => 0, fun _ _ => 0, fun _ _ => 0, fun _ _ => 0, 0, 0), 0, 0) (kav (B, fun _ => 0, (0, fun _ => 0, fun _ => 0, fun _ _ => 0, fun _ _ => 0, fun _ _ => 0, 0, 0), 0, 0)) B.2.2.2.2.2.1 (.returned rv) t
  | .inr e => XC (exN e) B.2.2.2.2.2.1 t
def EX (B : BT) (c0 s0 : Nat) (XC : String → State → State → Prop) (g : Nat) (ad0 : Nat → Nat) (ρ : Option Value ⊕ Nat) (x : XS) : Prop := Bd (KX B c0 s0 ad0 x) ∧ ∀ ad, Ag g ad0 ad → ∀ t : State, Rp B.1 ad (sg x) t.heap → va_F (gA B.1) B.2.2.2.2.2.1 t → EY B XC t ρ
theorem enx {B : BT} {c0 s0 : Nat} {XC : String → State → State → Prop} {g : Nat} {ad0 ad : Nat → Nat} {rv : Option Value} {x : XS} (h : EX B c0 s0 XC g ad0 (.inl rv) x) (hA : Ag g ad0 ad) : En (KX B c0 s0 ad x) rv x.1 :=
  ⟨h.1, fun H locs t hR ht _ => h.2 ad hA t (by rw [ht]; exact hR.1) (hR.2.F ht)⟩
def xb {R Y : Type} (x : XS) (o : Option ((R ⊕ Nat) × XS)) (k : R → XS → Option Y) (j : Nat → XS → Option Y) : Option Y := match o with
  | some (.inl r, x1) => gd (xc x ≤ xc x1 ∧ xs x ≤ xs x1) (k r x1)
  | some (.inr e, x1) => gd (xc x ≤ xc x1 ∧ xs x ≤ xs x1) (j e x1)
  | none => none
theorem xb9 {R Y : Type} {x : XS} {o : Option ((R ⊕ Nat) × XS)} {k : R → XS → Option Y} {j : Nat → XS → Option Y} {y : Y} {P : Prop} (h : xb x o k j = some y) (f : ∀ r x1, o = some (.inl r, x1) → (xc x ≤ xc x1 ∧ xs x ≤ xs x1) → k r x1 = some y → P) (g : ∀ e x1, o = some (.inr e, x1) → (xc x ≤ xc x1 ∧ xs x ≤ xs x1) → j e x1 = some y → P) : P := by
  unfold xb at h
  split at h
  · exact f _ _ rfl (gd_some h).1 (gd_some h).2
  · exact g _ _ rfl (gd_some h).1 (gd_some h).2
  · cases h
def ρI : Int ⊕ Nat → Option Value ⊕ Nat
  | .inl r => .inl (some (vi r))
  | .inr e => .inr e
def ρV : Unit ⊕ Nat → Option Value ⊕ Nat
  | .inl _ => .inl none
  | .inr e => .inr e
abbrev FXI (B : BT) (c0 s0 : Nat) (XC : String → State → State → Prop) (g : Nat) (ad0 : Nat → Nat) (y : (Int ⊕ Nat) × XS) : Prop := EX B c0 s0 XC g ad0 (ρI y.1) y.2
abbrev FXV (B : BT) (c0 s0 : Nat) (XC : String → State → State → Prop) (g : Nat) (ad0 : Nat → Nat) (y : (Unit ⊕ Nat) × XS) : Prop := EX B c0 s0 XC g ad0 (ρV y.1) y.2
abbrev HC (c0 s0 : Nat) (x : XS) : Prop := c0 ≤ xc x ∧ s0 ≤ xs x
theorem hc_up {c0 s0 : Nat} {x x1 : XS} (h : HC c0 s0 x) (hm : xc x ≤ xc x1 ∧ xs x ≤ xs x1) : HC c0 s0 x1 := ⟨Nat.le_trans h.1 hm.1, Nat.le_trans h.2 hm.2⟩
theorem bd_dn {B : BT} {c0 s0 : Nat} {ad ad' : Nat → Nat} {x x1 : XS} (h : Bd (KX B c0 s0 ad' x1)) (hm : xc x ≤ xc x1 ∧ xs x ≤ xs x1) : Bd (KX B c0 s0 ad x) := by
  obtain ⟨⟨h1, h2⟩, h3, h4⟩ := h
  have e1 : xc x - c0 ≤ xc x1 - c0 := Nat.sub_le_sub_right hm.1 c0
  have e2 : xs x - s0 ≤ xs x1 - s0 := Nat.sub_le_sub_right hm.2 s0
  exact ⟨⟨Nat.le_trans e1 h1, Nat.le_trans e2 h2⟩, Nat.le_trans e1 h3, Nat.le_trans e2 h4⟩
theorem Rp.kept {G : GT} {ad : Nat → Nat} {σ : HS} {H H1 : Heap} (h : Rp G ad σ H) (hk : ∀ q : Nat, q < H.size → H1[q]? = H[q]?) : Rp G ad σ H1 := ⟨h.1.kept (fun k q hq => hk _ (h.1 k q hq).lt), h.2⟩
section XR
variable {B : BT} {c0 s0 g : Nat} {ad ad0 : Nat → Nat} {x x1 : XS} {XC : String → State → State → Prop} {cc : ByteArray} {own : String} {nL fr lo pc pc1 tgt : Nat} {ret : Option FieldType} {lv lv' : List (Nat × Value)} {st : List Value} {Y : Type} {y : Y}
theorem j_xd {d1 : DA} {q : XS → Option Y} (hc : HC c0 s0 x) (h : lt9 (xD x d1) q = some y) (f : ∀ x1, HC c0 s0 x1 → q x1 = some y → J (KX B c0 s0 ad x1) nL x1.1 lv pc st) : J (KX B c0 s0 ad x) nL d1 lv pc st := f (xD x d1) hc h
theorem cl_Bx {G : GT} {l : Launch} {p : Program} {R : Room} {s : State} {m : MethodId} {args : Array Value} {meth : Method} {c : Code} (hC : Cx G l p s m meth c cc own nL ret) {idx : Nat} {y : MethodName} {n' n fr lo mc ms : Nat} {cy : ByteArray} {rt : Option FieldType} (hL : CL own idx y n) (hcw : Cond.code y cy n' rt ∈ allw) (hfr : fr + 1 ≤ R.frames) (hlo : 8 + (n' + 11) + lo ≤ R.locals) : CallB R s args own idx y cy n' rt [.code y cy n' rt] (rmX fr lo mc ms) mc ms n := by
  obtain ⟨h1, h2, h3⟩ := hL
  refine callB_of (Ts := allw) (ws' := []) n (fun w hw => hC.2.2.2.2.1 w hw args) (fun w hw => ?_) rfl rfl rfl (hC.2.2.2.2.1 _ h2 args) (hC.2.2.2.2.1 _ h1 args) h3 ⟨hfr, hlo⟩
  have e := List.mem_singleton.mp hw
  subst e
  have h9 := (List.mem_filter.mp hcw).2
  simp only [okW, Bool.or_eq_true] at h9
  rcases h9 with h9 | h9
  · exact ⟨hcw, good_of_word h9⟩
  · exact Bool.noConfusion h9
/-- behind a call that returns -/
theorem x_back {G : GT} {p : Program} {l : Launch} {e : Env} {R : Room} {s : State} {m : MethodId} {args av : Array Value} {below : List Frame} {meth : Method} {c : Code} {H : Heap} {locs : List Loc} {cells slots mc ms : Nat} {Q : State → Prop} {ls : Array Slot} {rest st0 : List Value} {rv : Option Value} {σ : HS} (hR : Rh G s ad σ H locs)
    (hr : vx_Run p l e R s m args below meth c H locs cells slots mc ms (F0 m pc ls st0) rest (QY G g ad x1 (.inl rv) av) (XY G g ad x1 (.inl rv)) (gA G))
    (kk : ∀ (ad' : Nat → Nat) (H1 : Heap) (locs1 : List Loc), Ag g ad ad' → Rh G s ad' (sg x1) H1 locs1 → W p l e R s m args below meth c H1 locs1 (cells + mc) (slots + ms) Q (F0 m (pc + 3) ls (rv.toList ++ rest))) : W p l e R s m args below meth c H locs cells slots Q (F0 m pc ls st0) := by
  intro T hT X
  rcases hr T hT X with ⟨v, st₀, t, T', L, h0, X', hL, e1, e2, ⟨hv, ⟨ad', hA, hRp⟩, hF⟩, st⟩ | ⟨q, st₀, t, T', L, E, ce, h0, X', hL, e1, e2, hX, -⟩
  · cases hv
    obtain ⟨hz, hk⟩ := hF
    rw [h0] at hz hk
    have hS : va_S (gA G) s.heap T'.heap (locs ++ L) := ⟨Nat.le_trans hR.2.1 (by rw [e1]; exact hz), fun q h1 h2 => by rw [e1, hk q (Nat.lt_of_lt_of_le h1 hR.2.1) h2]; exact hR.2.2.1 q h1 h2, fun q hq => by
      rcases List.mem_append.mp hq with h | h
      · exact hR.2.2.2 q h
      · exact hL q h⟩
    obtain ⟨t2, a1, b1⟩ := kk ad' T'.heap (locs ++ L) hA ⟨by rw [e1]; exact hRp, hS⟩ T' rfl X'
    exact ⟨t2, st t2 a1, b1⟩
  · exact hX.elim
/-- behind a call that throws -/
theorem x_thrown {G : GT} {p : Program} {l : Launch} {e : Env} {R : Room} {s : State} {m : MethodId} {args av : Array Value} {below : List Frame} {meth : Method} {c : Code} {H : Heap} {locs : List Loc} {cells slots mc ms : Nat} {Q : State → Prop} {ls : Array Slot} {rest st0 : List Value} {en : Nat} {σ : HS} (hR : Rh G s ad σ H locs)
    (hr : vx_Run p l e R s m args below meth c H locs cells slots mc ms (F0 m pc ls st0) rest (QY G g ad x1 (.inr en) av) (XY G g ad x1 (.inr en)) (gA G))
    (kk : ∀ (ad' : Nat → Nat) (H1 : Heap) (locs1 : List Loc) (q : Addr) (ce : Cell), Ag g ad ad' → Rh G s ad' (sg x1) H1 locs1 → H1[q]? = some ce → ce.vm = .none → s.vm.findClass (exN en) = some ce.cls → vx_W p l e R s m args below meth c H1 locs1 (cells + mc) (slots + ms) Q (F0 m pc ls rest) q) : W p l e R s m args below meth c H locs cells slots Q (F0 m pc ls st0) := by
  intro T hT X
  rcases hr T hT X with ⟨v, st₀, t, T', L, h0, X', hL, e1, e2, hX, st⟩ | ⟨q, st₀, t, T', L, E, ce, h0, X', hL, e1, e2, ⟨hE, ⟨ad', hA, hRp⟩, hF⟩, hce, hcv, hcl, st⟩
  · exact hX.elim
  · subst hE
    obtain ⟨hz, hk⟩ := hF
    rw [h0] at hz hk
    have hS : va_S (gA G) s.heap T'.heap (locs ++ L) := ⟨Nat.le_trans hR.2.1 (by rw [e1]; exact hz), fun q h1 h2 => by rw [e1, hk q (Nat.lt_of_lt_of_le h1 hR.2.1) h2]; exact hR.2.2.1 q h1 h2, fun q hq => by
      rcases List.mem_append.mp hq with h | h
      · exact hR.2.2.2 q h
      · exact hL q h⟩
    obtain ⟨t2, a1, b1⟩ := kk ad' T'.heap (locs ++ L) q ce hA ⟨by rw [e1]; exact hRp, hS⟩ (by rw [e1]; exact hce) hcv hcl T' rfl X'
    exact ⟨t2, st.trans a1, b1⟩
abbrev XCK (B : BT) (y : MethodName) (cy : ByteArray) (n' : Nat) (rt : Option FieldType) (fr lo g : Nat) (ad : Nat → Nat) (x : XS) (av : List Value) (ρ : Option Value ⊕ Nat) (x' : XS) : Prop := XCt B.1 B.2.1 y cy n' rt fr lo g ad x av ρ x'
theorem x_run (hK : Ok9 (KX B c0 s0 ad x) cc own nL ret fr lo) {idx : Nat} {y : MethodName} {C : String} {n' n fr' lo' i ci g' : Nat} {cy : ByteArray} {rt : Option FieldType} {av : List Value} {ρ : Option Value ⊕ Nat} {st0 : List Value} (hM : XCK B y cy n' rt fr' lo' g' ad x (.ref (ad i) :: av) ρ x1)
    (hL : CL own idx y n) (hcw : Cond.code y cy n' rt ∈ allw) (hin : Cond.instanceMethod y ∈ allw) (hse : Cond.selects C y y ∈ allw) (hw : isC (sg x) i ∧ kK (sg x) i = ci) (hci : ci < 13) (hcl : (vwCl[ci]?).map (fun q => q.1) = some C) (hfr : fr' + 1 ≤ fr) (hlo : 8 + (n' + 11) + lo' ≤ lo) (hn : av.length = n) (hst : st0 = av.reverse ++ .ref (ad i) :: st) (hW : (st.map fun v => v.category).sum ≤ 8)
    (hd : decode cc pc = .ok (.invokevirtual idx, 3)) (hc : HC c0 s0 x) (hm : xc x ≤ xc x1 ∧ xs x ≤ xs x1) {ad' : Nat → Nat} (hB : Bd (KX B c0 s0 ad' x1)) (H : Heap) (locs : List Loc) (ls : Array Slot) (hR : Rh B.1 B.2.2.2.2.2.1 ad (sg x) H locs) (hl : lv_has ls nL lv) :
    vx_Run (kp (KX B c0 s0 ad x)) (kl (KX B c0 s0 ad x)) (ke (KX B c0 s0 ad x)) (kR (KX B c0 s0 ad x)) (ks (KX B c0 s0 ad x)) (km (KX B c0 s0 ad x)) (kav (KX B c0 s0 ad x)) (kb (KX B c0 s0 ad x)) (kme (KX B c0 s0 ad x)) (kc (KX B c0 s0 ad x)) H locs (xc x - c0) (xs x - s0) (xc x1 - xc x) (xs x1 - xs x) (F0 (km (KX B c0 s0 ad x)) pc ls st0) st (QY B.1 g' ad x1 ρ (.ref (ad i) :: av).toArray) (XY B.1 g' ad x1 ρ) (gA B.1) := by
  have hE := wl_at (G := B.1) (ad := ad) (σ := sg x) hw.1
  rw [ce_O hw.2 hci] at hE
  obtain ⟨q, hq, hqC⟩ := Option.map_eq_some_iff.mp hcl
  refine vx_runV (As := av) (rest := st) (b := ad i) (C := C) ⟨hK.1.1, hK.1.2.1, hK.1.2.2.1, hK.1.2.2.2.1, fun w hw => hK.1.2.2.2.2.1 w hw _⟩ hM ⟨cl_Bx hK.1 hL hcw (Nat.le_trans hfr hK.2.1) (Nat.le_trans hlo hK.2.2.1), hK.1.2.2.2.2.1 _ hin _, hK.1.2.2.2.2.1 _ hse _⟩ ⟨pc_blind, ?_, fun U hU hW => pc_pre hK.1 hR U hU hW⟩ rfl hn hl.1 hst (lv_room hW) hd ?_
  · have := va_recv (q := q) hK.1.2.2.2.2.2.1 hR.1.1 (ci := ci) (q0 := i - 1) hq hE
    rw [hqC] at this
    exact this
  · obtain ⟨⟨h1, h2⟩, -⟩ := hB
    obtain ⟨h3, h4⟩ := hc
    obtain ⟨h5, h6⟩ := hm
    have h1' : xc x1 - c0 ≤ (kR (KX B c0 s0 ad x)).cells := h1
    have h2' : xs x1 - s0 ≤ (kR (KX B c0 s0 ad x)).slots := h2
    constructor <;> omega
theorem cell_eq {a b c : Nat} (h1 : c ≤ a) (h2 : a ≤ b) : (a - c) + (b - a) = b - c := by omega
/-- an X-call that returns; the callee changes no address -/
theorem j_xV (hK : Ok9 (KX B c0 s0 ad x) cc own nL ret fr lo) {idx : Nat} {y : MethodName} {C : String} {n' n fr' lo' i ci : Nat} {cy : ByteArray} {rt : Option FieldType} {av : List Value} {rv : Option Value} {st0 st1 : List Value} (hM : XCK B y cy n' rt fr' lo' 0 ad x (.ref (ad i) :: av) (.inl rv) x1)
    (hL : CL own idx y n) (hcw : Cond.code y cy n' rt ∈ allw) (hin : Cond.instanceMethod y ∈ allw) (hse : Cond.selects C y y ∈ allw) (hw : isC (sg x) i ∧ kK (sg x) i = ci) (hci : ci < 13) (hcl : (vwCl[ci]?).map (fun q => q.1) = some C) (hfr : fr' + 1 ≤ fr) (hlo : 8 + (n' + 11) + lo' ≤ lo) (hn : av.length = n) (hst : st0 = av.reverse ++ .ref (ad i) :: st) (hW : (st.map fun v => v.category).sum ≤ 8)
    (hd : Dc cc pc (.invokevirtual idx) 3 pc1) (hst1 : rv.toList ++ st = st1) (hc : HC c0 s0 x) (hm : xc x ≤ xc x1 ∧ xs x ≤ xs x1) (kk : J (KX B c0 s0 ad x1) nL x1.1 lv pc1 st1) : J (KX B c0 s0 ad x) nL x.1 lv pc st0 :=
  ⟨bd_dn kk.1 hm, fun H locs ls hR hl => by
    obtain ⟨hd, rfl⟩ := hd
    subst hst1
    refine x_back hR (x_run hK hM hL hcw hin hse hw hci hcl hfr hlo hn hst hW hd hc hm kk.1 H locs ls hR hl) (fun ad' H1 locs1 hA hR1 => ?_)
    cases hA.zero
    rw [show kcl (KX B c0 s0 ad x) + (xc x1 - xc x) = kcl (KX B c0 s0 ad x1) from cell_eq hc.1 hm.1, show ksl (KX B c0 s0 ad x) + (xs x1 - xs x) = ksl (KX B c0 s0 ad x1) from cell_eq hc.2 hm.2]
    exact kk.2 H1 locs1 ls hR1 hl⟩
/-- .. that has grown the row g' -/
theorem j_xVg {g' : Nat} (hg : g' ≠ 0) (hK : Ok9 (KX B c0 s0 ad x) cc own nL ret fr lo) {idx : Nat} {y : MethodName} {C : String} {n' n fr' lo' i ci : Nat} {cy : ByteArray} {rt : Option FieldType} {av : List Value} {rv : Option Value} {st0 st1 : List Value} (hM : XCK B y cy n' rt fr' lo' g' ad x (.ref (ad i) :: av) (.inl rv) x1)
    (hL : CL own idx y n) (hcw : Cond.code y cy n' rt ∈ allw) (hin : Cond.instanceMethod y ∈ allw) (hse : Cond.selects C y y ∈ allw) (hw : isC (sg x) i ∧ kK (sg x) i = ci) (hci : ci < 13) (hcl : (vwCl[ci]?).map (fun q => q.1) = some C) (hfr : fr' + 1 ≤ fr) (hlo : 8 + (n' + 11) + lo' ≤ lo) (hn : av.length = n) (hst : st0 = av.reverse ++ .ref (ad i) :: st) (hW : (st.map fun v => v.category).sum ≤ 8)
    (hd : Dc cc pc (.invokevirtual idx) 3 pc1) (hst1 : rv.toList ++ st = st1) (hc : HC c0 s0 x) (hm : xc x ≤ xc x1 ∧ xs x ≤ xs x1) (kk : ∀ p, J (KX B c0 s0 (fu ad g' p) x1) nL x1.1 lv pc1 st1) : J (KX B c0 s0 ad x) nL x.1 lv pc st0 :=
  ⟨bd_dn (kk 0).1 hm, fun H locs ls hR hl => by
    obtain ⟨hd, rfl⟩ := hd
    subst hst1
    refine x_back hR (x_run hK hM hL hcw hin hse hw hci hcl hfr hlo hn hst hW hd hc hm (kk 0).1 H locs ls hR hl) (fun ad' H1 locs1 hA hR1 => ?_)
    rw [show kcl (KX B c0 s0 ad x) + (xc x1 - xc x) = kcl (KX B c0 s0 ad x1) from cell_eq hc.1 hm.1, show ksl (KX B c0 s0 ad x) + (xs x1 - xs x) = ksl (KX B c0 s0 ad x1) from cell_eq hc.2 hm.2]
    have e := hA.one hg
    rw [e] at hR1
    exact (kk (ad' g')).2 H1 locs1 ls hR1 hl⟩
/-- an X-call that throws, through -/
theorem j_xVt (hK : Ok9 (KX B c0 s0 ad x) cc own nL ret fr lo) (hX : OkX (KX B c0 s0 ad x) XC) {idx : Nat} {y : MethodName} {C : String} {n' n fr' lo' i ci en : Nat} {cy : ByteArray} {rt : Option FieldType} {av : List Value} {st0 : List Value} (hM : XCK B y cy n' rt fr' lo' 0 ad x (.ref (ad i) :: av) (.inr en) x1)
    (hL : CL own idx y n) (hcw : Cond.code y cy n' rt ∈ allw) (hin : Cond.instanceMethod y ∈ allw) (hse : Cond.selects C y y ∈ allw) (hw : isC (sg x) i ∧ kK (sg x) i = ci) (hci : ci < 13) (hcl : (vwCl[ci]?).map (fun q => q.1) = some C) (hfr : fr' + 1 ≤ fr) (hlo : 8 + (n' + 11) + lo' ≤ lo) (hn : av.length = n) (hst : st0 = av.reverse ++ .ref (ad i) :: st) (hW : (st.map fun v => v.category).sum ≤ 8)
    (hd : Dc cc pc (.invokevirtual idx) 3 pc1) (hc : HC c0 s0 x) (hm : xc x ≤ xc x1 ∧ xs x ≤ xs x1) (hA0 : Ag g ad0 ad) (hk : EX B c0 s0 XC g ad0 (.inr en) x1) : J (KX B c0 s0 ad x) nL x.1 lv pc st0 :=
  ⟨bd_dn hk.1 hm, fun H locs ls hR hl => by
    obtain ⟨hd, rfl⟩ := hd
    rw [hX.1]
    refine x_thrown hR (x_run hK hM hL hcw hin hse hw hci hcl hfr hlo hn hst hW hd hc hm hk.1 H locs ls hR hl) (fun ad' H1 locs1 q ce hA hR1 hce hcv hcl9 => ?_)
    cases hA.zero
    rw [show kcl (KX B c0 s0 ad x) + (xc x1 - xc x) = kcl (KX B c0 s0 ad x1) from cell_eq hc.1 hm.1, show ksl (KX B c0 s0 ad x) + (xs x1 - xs x) = ksl (KX B c0 s0 ad x1) from cell_eq hc.2 hm.2]
    exact vx_out (fun z hz => (hX.2 z hz).elim) hK.1.2.2.2.2.2.2.2.1 hce hcv hcl9 (fun t ht _ => hk.2 ad hA0 t (by rw [ht]; exact hR1.1) (hR1.2.F ht)) hR1.2.2.2 hk.1.2.1 hk.1.2.2⟩
/-- the contract out of the walk -/
theorem xct_of {G : GT} {l : Launch} {y : MethodName} {cc : ByteArray} {n : Nat} {ret : Option FieldType} {fr lo g : Nat} {ad : Nat → Nat} {x x' : XS} {av : List Value} {ρ : Option Value ⊕ Nat} (hst : l.stackTraces = false) (hpl : plainName y.cls = true) (hn : (lg_sl av).length ≤ n)
    (body : ∀ (B : BT) (XC : String → State → State → Prop), B.1 = G → B.2.1 = l → (∀ (ad : Nat → Nat) (x : XS), Ok9 (KX B (xc (x : XS)) (xs x) ad x) cc y.cls n ret fr lo) → OkX (KX B (xc x) (xs x) ad x) XC → EX B (xc x) (xs x) XC g ad ρ x' → J (KX B (xc x) (xs x) ad x) n x.1 (lv_args 0 av) 0 []) : XCt G l y cc n ret fr lo g ad x av ρ x' := by
  refine vx_ofW (cc := cc) (maxL := n) (ret := ret) hpl rfl ?_
  intro p e s m args below meth c s₁ B hml hT hv
  obtain ⟨rfl, hW, hK, hSf, hR, hA⟩ := hv
  rw [lg_entry_eq]
  have hC : Cx G l p s m meth c cc y.cls n ret := ⟨B.exec, B.bytes, hml, findClass_of_methodNamed B.named, hW, hK, hSf, B.notSynchronized, B.returns, hA, hst⟩
  have hb := body (G, l, p, e, rmX fr lo (xc x' - xc x) (xs x' - xs x), s, m, av.toArray, below, meth, c, QY G g ad x' ρ, vx_MQ below (QY G g ad x' ρ) (XY G g ad x' ρ) av.toArray s (xc x' - xc x) (xs x' - xs x) (gA G), xc x' - xc x, xs x' - xs x) (XY G g ad x' ρ) rfl rfl
    (fun ad9 x9 => ⟨hC, Nat.le_refl _, Nat.le_refl _, fun H locs c1 s1 g1 h1 h2 k => by
      intro T hT X
      obtain ⟨t, a1, o, b1, b2, b3, L, b4, b5⟩ := k T hT X
      exact ⟨t, a1, o, b1, b2, Or.inl ⟨b3, L, ⟨b4.1, b4.2.1, b4.2.2.mono h1 h2⟩, b5⟩⟩⟩)
    ⟨rfl, hT⟩ ⟨⟨⟨Nat.le_refl _, Nat.le_refl _⟩, Nat.le_refl _, Nat.le_refl _⟩, fun ad' hA' t h1 h2 => by
      cases ρ with
      | inl rv => exact ⟨rfl, ⟨ad', hA', h1⟩, h2⟩
      | inr en => exact ⟨rfl, ⟨ad', hA', h1⟩, h2⟩⟩
  have h2 := hb.2 s.heap [] _ ⟨hR, va_S.rf⟩ (lv_entry av hn)
  have z1 : xc x - xc x = 0 := Nat.sub_self _
  have z2 : xs x - xs x = 0 := Nat.sub_self _
  have h3 : kcl (KX (G, l, p, e, rmX fr lo (xc x' - xc x) (xs x' - xs x), s, m, av.toArray, below, meth, c, QY G g ad x' ρ, vx_MQ below (QY G g ad x' ρ) (XY G g ad x' ρ) av.toArray s (xc x' - xc x) (xs x' - xs x) (gA G), xc x' - xc x, xs x' - xs x) (xc x) (xs x) ad x) = 0 := z1
  have h4 : ksl (KX (G, l, p, e, rmX fr lo (xc x' - xc x) (xs x' - xs x), s, m, av.toArray, below, meth, c, QY G g ad x' ρ, vx_MQ below (QY G g ad x' ρ) (XY G g ad x' ρ) av.toArray s (xc x' - xc x) (xs x' - xs x) (gA G), xc x' - xc x, xs x' - xs x) (xc x) (xs x) ad x) = 0 := z2
  rw [h3, h4] at h2
  exact h2
end XR

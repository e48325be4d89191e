/-! ===== list: four kinds, each its own dual, at most two each: how many ===== -/
def xg9 (L Y g : Nat) : Nat := Y / 3 ^ (L - 1 - g) % 3
/-- the equations 1, 1, 2, 2 and 1, 1, 2, 3 of LAW 1 -/
def bad4 (L Y : Nat) : Bool := if L = 8 then !(Nat.beq (1 + xg9 8 Y 0 * xg9 8 Y 3 + xg9 8 Y 1 * xg9 8 Y 6 + xg9 8 Y 2 * xg9 8 Y 7) (xg9 8 Y 1 * xg9 8 Y 1 + xg9 8 Y 3 * xg9 8 Y 3 + xg9 8 Y 4 * xg9 8 Y 4)) else if L = 9 then !(Nat.beq (xg9 9 Y 0 * xg9 9 Y 4 + xg9 9 Y 1 * xg9 9 Y 7 + xg9 9 Y 2 * xg9 9 Y 8) (xg9 9 Y 1 * xg9 9 Y 2 + xg9 9 Y 3 * xg9 9 Y 4 + xg9 9 Y 4 * xg9 9 Y 5)) else false
theorem bad4_n : tb9 bad4 10 0 0 ≤ 2142 := by decide +kernel

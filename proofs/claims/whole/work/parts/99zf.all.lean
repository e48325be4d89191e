/-! ===== all calls, from those that are open ===== -/
def St9 (n : Int) : Prop := ∀ (Ln k : Nat) (sc : Int → Int) (x : XS), Inv k x → k < 512 → (0 ≤ 8 * (k : Int) ∧ 8 * (k : Int) + 8 ≤ (Ln : Int)) → Ln ≤ 4096 → ScR sc → iand9 (sc (8 * (k : Int))) 31 = n → Step9 Ln sc k x
theorem all_of (s1 : St9 1) (s12 : St9 12) (s13 : St9 13) (s15 : St9 15) (s20 : St9 20) (s21 : St9 21) (s22 : St9 22) (s23 : St9 23) (s24 : St9 24) (s25 : St9 25) (s27 : St9 27) : All9 := fun Ln k sc x h hk h0 hL hsc => by
  have hb := and_bd (y := sc (8 * (k : Int))) (m := 31) (n := 31) (by decide) (by omega)
  by_cases c : iand9 (sc (8 * (k : Int))) 31 = 0
  · exact st_0 h hk h0 hL c
  have c0 := c
  clear c
  by_cases c : iand9 (sc (8 * (k : Int))) 31 = 1
  · exact s1 Ln k sc x h hk h0 hL hsc c
  have c1 := c
  clear c
  by_cases c : iand9 (sc (8 * (k : Int))) 31 = 2
  · exact st_2 h hk h0 hL c
  have c2 := c
  clear c
  by_cases c : iand9 (sc (8 * (k : Int))) 31 = 3
  · exact st_3 h hk h0 hL hsc c
  have c3 := c
  clear c
  by_cases c : iand9 (sc (8 * (k : Int))) 31 = 4
  · exact st_4 h hk h0 hL c
  have c4 := c
  clear c
  by_cases c : iand9 (sc (8 * (k : Int))) 31 = 5
  · exact st_5 h hk h0 hL c
  have c5 := c
  clear c
  by_cases c : iand9 (sc (8 * (k : Int))) 31 = 6
  · exact st_6 h hk h0 hL hsc c
  have c6 := c
  clear c
  by_cases c : iand9 (sc (8 * (k : Int))) 31 = 7
  · exact st_7 h hk h0 hL hsc c
  have c7 := c
  clear c
  by_cases c : iand9 (sc (8 * (k : Int))) 31 = 8
  · exact st_8 h hk h0 hL hsc c
  have c8 := c
  clear c
  by_cases c : iand9 (sc (8 * (k : Int))) 31 = 9
  · exact st_9 h hk h0 hL hsc c
  have c9 := c
  clear c
  by_cases c : iand9 (sc (8 * (k : Int))) 31 = 10
  · exact st_10 h hk h0 hL hsc c
  have c10 := c
  clear c
  by_cases c : iand9 (sc (8 * (k : Int))) 31 = 11
  · exact st_11 h hk h0 hL hsc c
  have c11 := c
  clear c
  by_cases c : iand9 (sc (8 * (k : Int))) 31 = 12
  · exact s12 Ln k sc x h hk h0 hL hsc c
  have c12 := c
  clear c
  by_cases c : iand9 (sc (8 * (k : Int))) 31 = 13
  · exact s13 Ln k sc x h hk h0 hL hsc c
  have c13 := c
  clear c
  by_cases c : iand9 (sc (8 * (k : Int))) 31 = 14
  · exact st_14 h hk h0 hL hsc c
  have c14 := c
  clear c
  by_cases c : iand9 (sc (8 * (k : Int))) 31 = 15
  · exact s15 Ln k sc x h hk h0 hL hsc c
  have c15 := c
  clear c
  by_cases c : iand9 (sc (8 * (k : Int))) 31 = 16
  · exact st_16 h hk h0 hL hsc c
  have c16 := c
  clear c
  by_cases c : iand9 (sc (8 * (k : Int))) 31 = 17
  · exact st_17 h hk h0 hL hsc c
  have c17 := c
  clear c
  by_cases c : iand9 (sc (8 * (k : Int))) 31 = 18
  · exact st_18 h hk h0 hL hsc c
  have c18 := c
  clear c
  by_cases c : iand9 (sc (8 * (k : Int))) 31 = 19
  · exact st_19 h hk h0 hL hsc c
  have c19 := c
  clear c
  by_cases c : iand9 (sc (8 * (k : Int))) 31 = 20
  · exact s20 Ln k sc x h hk h0 hL hsc c
  have c20 := c
  clear c
  by_cases c : iand9 (sc (8 * (k : Int))) 31 = 21
  · exact s21 Ln k sc x h hk h0 hL hsc c
  have c21 := c
  clear c
  by_cases c : iand9 (sc (8 * (k : Int))) 31 = 22
  · exact s22 Ln k sc x h hk h0 hL hsc c
  have c22 := c
  clear c
  by_cases c : iand9 (sc (8 * (k : Int))) 31 = 23
  · exact s23 Ln k sc x h hk h0 hL hsc c
  have c23 := c
  clear c
  by_cases c : iand9 (sc (8 * (k : Int))) 31 = 24
  · exact s24 Ln k sc x h hk h0 hL hsc c
  have c24 := c
  clear c
  by_cases c : iand9 (sc (8 * (k : Int))) 31 = 25
  · exact s25 Ln k sc x h hk h0 hL hsc c
  have c25 := c
  clear c
  by_cases c : iand9 (sc (8 * (k : Int))) 31 = 26
  · exact st_26 h hk h0 hL hsc c
  have c26 := c
  clear c
  by_cases c : iand9 (sc (8 * (k : Int))) 31 = 27
  · exact s27 Ln k sc x h hk h0 hL hsc c
  have c27 := c
  clear c
  by_cases c : iand9 (sc (8 * (k : Int))) 31 = 28
  · exact st_28 h hk h0 hL c
  have c28 := c
  clear c
  by_cases c : iand9 (sc (8 * (k : Int))) 31 = 29
  · exact st_29 h hk h0 hL c
  have c29 := c
  clear c
  by_cases c : iand9 (sc (8 * (k : Int))) 31 = 30
  · exact st_30 h hk h0 hL c
  have c30 := c
  clear c
  by_cases c : iand9 (sc (8 * (k : Int))) 31 = 31
  · exact st_31 h hk h0 hL c
  have c31 := c
  clear c
  exact absurd hb (fun z => by omega)
theorem pure_of_open (s1 : St9 1) (s12 : St9 12) (s13 : St9 13) (s15 : St9 15) (s20 : St9 20) (s21 : St9 21) (s22 : St9 22) (s23 : St9 23) (s24 : St9 24) (s25 : St9 25) (s27 : St9 27) : PureLaw := pure_of beg9 (all_of s1 s12 s13 s15 s20 s21 s22 s23 s24 s25 s27)

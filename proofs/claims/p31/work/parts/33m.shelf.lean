/-! the shelf keeps -/
set_option maxHeartbeats 1000000 in
set_option maxRecDepth 20000 in
theorem sX7_put_sh_ok (L : Int) (n_rows : Nat) (f_rows : Nat → Int32) (f_most : Int32) (f_used : Int32) (f_p1_cells : Nat → Int32) (g0 : 0 ≤ f_used.toInt) (g1 : f_used.toInt ≤ f_most.toInt) (g2 : 1 ≤ f_most.toInt) (g3 : f_most.toInt ≤ 8) (g4 : 55 * f_most.toInt ≤ (n_rows : Int)) (g5 : shelfOK f_rows f_used.toInt L) (g6 : L ≤ 55) (g7 : cellOK f_p1_cells L) : ok (sX7_put n_rows f_rows f_most f_used f_p1_cells) (fun z => 0 ≤ z.2.toInt ∧ z.2.toInt ≤ f_most.toInt ∧ shelfOK z.1 z.2.toInt L) := by
  unfold sX7_put
  try simp (disch := decide) only [i_add, i_sub, i_mul, i_0, i_1, i_m1, i_m2, i_m3, i_m4, i_nI, i_eq, i_lt, i_le, i_clamp, true_or, or_true, true_and, and_true, false_or, or_false, false_and, and_false] at g0
  try simp (disch := decide) only [i_add, i_sub, i_mul, i_0, i_1, i_m1, i_m2, i_m3, i_m4, i_nI, i_eq, i_lt, i_le, i_clamp, true_or, or_true, true_and, and_true, false_or, or_false, false_and, and_false] at g1
  try simp (disch := decide) only [i_add, i_sub, i_mul, i_0, i_1, i_m1, i_m2, i_m3, i_m4, i_nI, i_eq, i_lt, i_le, i_clamp, true_or, or_true, true_and, and_true, false_or, or_false, false_and, and_false] at g2
  try simp (disch := decide) only [i_add, i_sub, i_mul, i_0, i_1, i_m1, i_m2, i_m3, i_m4, i_nI, i_eq, i_lt, i_le, i_clamp, true_or, or_true, true_and, and_true, false_or, or_false, false_and, and_false] at g3
  try simp (disch := decide) only [i_add, i_sub, i_mul, i_0, i_1, i_m1, i_m2, i_m3, i_m4, i_nI, i_eq, i_lt, i_le, i_clamp, true_or, or_true, true_and, and_true, false_or, or_false, false_and, and_false] at g4
  try simp (disch := decide) only [i_add, i_sub, i_mul, i_0, i_1, i_m1, i_m2, i_m3, i_m4, i_nI, i_eq, i_lt, i_le, i_clamp, true_or, or_true, true_and, and_true, false_or, or_false, false_and, and_false] at g6
  try (have hm1 : (f_used * (nI 55)).toInt = f_used.toInt * 55 := by first | omega | ((try simp (disch := decide) only [i_add, i_sub, i_mul, i_0, i_1, i_m1, i_m2, i_m3, i_m4, i_nI, i_eq, i_lt, i_le, i_clamp, true_or, or_true, true_and, and_true, false_or, or_false, false_and, and_false]) <;> omega))
  try simp (disch := decide) only [i_add, i_sub, i_mul, i_0, i_1, i_m1, i_m2, i_m3, i_m4, i_nI, i_eq, i_lt, i_le, i_clamp, true_or, or_true, true_and, and_true, false_or, or_false, false_and, and_false] at hm1
  try (have hm2 : (f_most - (nI 1)).toInt = f_most.toInt - 1 := by first | omega | ((try simp (disch := decide) only [i_add, i_sub, i_mul, i_0, i_1, i_m1, i_m2, i_m3, i_m4, i_nI, i_eq, i_lt, i_le, i_clamp, true_or, or_true, true_and, and_true, false_or, or_false, false_and, and_false]) <;> omega))
  try simp (disch := decide) only [i_add, i_sub, i_mul, i_0, i_1, i_m1, i_m2, i_m3, i_m4, i_nI, i_eq, i_lt, i_le, i_clamp, true_or, or_true, true_and, and_true, false_or, or_false, false_and, and_false] at hm2
  try (have hm3 : ((f_most - (nI 1)) * (nI 55)).toInt = (f_most.toInt - 1) * 55 := by first | omega | ((try simp (disch := decide) only [i_add, i_sub, i_mul, i_0, i_1, i_m1, i_m2, i_m3, i_m4, i_nI, i_eq, i_lt, i_le, i_clamp, true_or, or_true, true_and, and_true, false_or, or_false, false_and, and_false]) <;> omega))
  try simp (disch := decide) only [i_add, i_sub, i_mul, i_0, i_1, i_m1, i_m2, i_m3, i_m4, i_nI, i_eq, i_lt, i_le, i_clamp, true_or, or_true, true_and, and_true, false_or, or_false, false_and, and_false] at hm3
  try (have hm4 : (f_used - (nI 1)).toInt = f_used.toInt - 1 := by first | omega | ((try simp (disch := decide) only [i_add, i_sub, i_mul, i_0, i_1, i_m1, i_m2, i_m3, i_m4, i_nI, i_eq, i_lt, i_le, i_clamp, true_or, or_true, true_and, and_true, false_or, or_false, false_and, and_false]) <;> omega))
  try simp (disch := decide) only [i_add, i_sub, i_mul, i_0, i_1, i_m1, i_m2, i_m3, i_m4, i_nI, i_eq, i_lt, i_le, i_clamp, true_or, or_true, true_and, and_true, false_or, or_false, false_and, and_false] at hm4
  refine ok_vi (fun h1 => ?_) (fun h1 => ?_)
  · try simp (disch := decide) only [i_add, i_sub, i_mul, i_0, i_1, i_m1, i_m2, i_m3, i_m4, i_nI, i_eq, i_lt, i_le, i_clamp, true_or, or_true, true_and, and_true, false_or, or_false, false_and, and_false] at h1
    refine ok_vi (fun h2 => ?_) (fun h2 => ?_)
    · try simp (disch := decide) only [i_add, i_sub, i_mul, i_0, i_1, i_m1, i_m2, i_m3, i_m4, i_nI, i_eq, i_lt, i_le, i_clamp, true_or, or_true, true_and, and_true, false_or, or_false, false_and, and_false] at h2
      refine ok_some ?_
      try dsimp only
      refine ⟨?_, ?_, ?_⟩
      · first | omega | ((try simp (disch := decide) only [i_add, i_sub, i_mul, i_0, i_1, i_m1, i_m2, i_m3, i_m4, i_nI, i_eq, i_lt, i_le, i_clamp, true_or, or_true, true_and, and_true, false_or, or_false, false_and, and_false]) <;> omega)
      · first | omega | ((try simp (disch := decide) only [i_add, i_sub, i_mul, i_0, i_1, i_m1, i_m2, i_m3, i_m4, i_nI, i_eq, i_lt, i_le, i_clamp, true_or, or_true, true_and, and_true, false_or, or_false, false_and, and_false]) <;> omega)
      · first | ((with_reducible refine shelfOK_put g5 g7 g6 ?_ ?_ ?_) <;> omega) | ((with_reducible refine shelfOK_put (shelfOK_shift (K := y8.toInt) (shelfOK_mono g5 ?_) g6 ?_ ?_ ?_) g7 g6 ?_ ?_ ?_) <;> omega) | (exfalso; omega) | assumption
    · try simp (disch := decide) only [i_add, i_sub, i_mul, i_0, i_1, i_m1, i_m2, i_m3, i_m4, i_nI, i_eq, i_lt, i_le, i_clamp, true_or, or_true, true_and, and_true, false_or, or_false, false_and, and_false] at h2
      try (have hm5 : (y8 * (nI 55)).toInt = y8.toInt * 55 := by first | omega | ((try simp (disch := decide) only [i_add, i_sub, i_mul, i_0, i_1, i_m1, i_m2, i_m3, i_m4, i_nI, i_eq, i_lt, i_le, i_clamp, true_or, or_true, true_and, and_true, false_or, or_false, false_and, and_false]) <;> omega))
      try simp (disch := decide) only [i_add, i_sub, i_mul, i_0, i_1, i_m1, i_m2, i_m3, i_m4, i_nI, i_eq, i_lt, i_le, i_clamp, true_or, or_true, true_and, and_true, false_or, or_false, false_and, and_false] at hm5
      refine ok_vg (cpOk_mk (by first | omega | ((try simp (disch := decide) only [i_add, i_sub, i_mul, i_0, i_1, i_m1, i_m2, i_m3, i_m4, i_nI, i_eq, i_lt, i_le, i_clamp, true_or, or_true, true_and, and_true, false_or, or_false, false_and, and_false]) <;> omega)) (by first | omega | ((try simp (disch := decide) only [i_add, i_sub, i_mul, i_0, i_1, i_m1, i_m2, i_m3, i_m4, i_nI, i_eq, i_lt, i_le, i_clamp, true_or, or_true, true_and, and_true, false_or, or_false, false_and, and_false]) <;> omega)) (by first | omega | ((try simp (disch := decide) only [i_add, i_sub, i_mul, i_0, i_1, i_m1, i_m2, i_m3, i_m4, i_nI, i_eq, i_lt, i_le, i_clamp, true_or, or_true, true_and, and_true, false_or, or_false, false_and, and_false]) <;> omega)) (by first | omega | ((try simp (disch := decide) only [i_add, i_sub, i_mul, i_0, i_1, i_m1, i_m2, i_m3, i_m4, i_nI, i_eq, i_lt, i_le, i_clamp, true_or, or_true, true_and, and_true, false_or, or_false, false_and, and_false]) <;> omega)) (by first | omega | ((try simp (disch := decide) only [i_add, i_sub, i_mul, i_0, i_1, i_m1, i_m2, i_m3, i_m4, i_nI, i_eq, i_lt, i_le, i_clamp, true_or, or_true, true_and, and_true, false_or, or_false, false_and, and_false]) <;> omega))) ?_
      refine ok_vlet fun u4 hy3 => ?_
      subst hy3
      refine ok_vlet fun y5 hy4 => ?_
      try simp (disch := decide) only [i_add, i_sub, i_mul, i_0, i_1, i_m1, i_m2, i_m3, i_m4, i_nI, i_eq, i_lt, i_le, i_clamp, true_or, or_true, true_and, and_true, false_or, or_false, false_and, and_false] at hy4
      refine ok_some ?_
      try dsimp only
      refine ⟨?_, ?_, ?_⟩
      · first | omega | ((try simp (disch := decide) only [i_add, i_sub, i_mul, i_0, i_1, i_m1, i_m2, i_m3, i_m4, i_nI, i_eq, i_lt, i_le, i_clamp, true_or, or_true, true_and, and_true, false_or, or_false, false_and, and_false]) <;> omega)
      · first | omega | ((try simp (disch := decide) only [i_add, i_sub, i_mul, i_0, i_1, i_m1, i_m2, i_m3, i_m4, i_nI, i_eq, i_lt, i_le, i_clamp, true_or, or_true, true_and, and_true, false_or, or_false, false_and, and_false]) <;> omega)
      · first | ((with_reducible refine shelfOK_put g5 g7 g6 ?_ ?_ ?_) <;> omega) | ((with_reducible refine shelfOK_put (shelfOK_shift (K := y8.toInt) (shelfOK_mono g5 ?_) g6 ?_ ?_ ?_) g7 g6 ?_ ?_ ?_) <;> omega) | (exfalso; omega) | assumption
  · try simp (disch := decide) only [i_add, i_sub, i_mul, i_0, i_1, i_m1, i_m2, i_m3, i_m4, i_nI, i_eq, i_lt, i_le, i_clamp, true_or, or_true, true_and, and_true, false_or, or_false, false_and, and_false] at h1
    try (have hm5 : (y8 * (nI 55)).toInt = y8.toInt * 55 := by first | omega | ((try simp (disch := decide) only [i_add, i_sub, i_mul, i_0, i_1, i_m1, i_m2, i_m3, i_m4, i_nI, i_eq, i_lt, i_le, i_clamp, true_or, or_true, true_and, and_true, false_or, or_false, false_and, and_false]) <;> omega))
    try simp (disch := decide) only [i_add, i_sub, i_mul, i_0, i_1, i_m1, i_m2, i_m3, i_m4, i_nI, i_eq, i_lt, i_le, i_clamp, true_or, or_true, true_and, and_true, false_or, or_false, false_and, and_false] at hm5
    refine ok_vg (cpOk_mk (by first | omega | ((try simp (disch := decide) only [i_add, i_sub, i_mul, i_0, i_1, i_m1, i_m2, i_m3, i_m4, i_nI, i_eq, i_lt, i_le, i_clamp, true_or, or_true, true_and, and_true, false_or, or_false, false_and, and_false]) <;> omega)) (by first | omega | ((try simp (disch := decide) only [i_add, i_sub, i_mul, i_0, i_1, i_m1, i_m2, i_m3, i_m4, i_nI, i_eq, i_lt, i_le, i_clamp, true_or, or_true, true_and, and_true, false_or, or_false, false_and, and_false]) <;> omega)) (by first | omega | ((try simp (disch := decide) only [i_add, i_sub, i_mul, i_0, i_1, i_m1, i_m2, i_m3, i_m4, i_nI, i_eq, i_lt, i_le, i_clamp, true_or, or_true, true_and, and_true, false_or, or_false, false_and, and_false]) <;> omega)) (by first | omega | ((try simp (disch := decide) only [i_add, i_sub, i_mul, i_0, i_1, i_m1, i_m2, i_m3, i_m4, i_nI, i_eq, i_lt, i_le, i_clamp, true_or, or_true, true_and, and_true, false_or, or_false, false_and, and_false]) <;> omega)) (by first | omega | ((try simp (disch := decide) only [i_add, i_sub, i_mul, i_0, i_1, i_m1, i_m2, i_m3, i_m4, i_nI, i_eq, i_lt, i_le, i_clamp, true_or, or_true, true_and, and_true, false_or, or_false, false_and, and_false]) <;> omega))) ?_
    refine ok_vlet fun u7 hy5 => ?_
    subst hy5
    refine ok_vlet fun y8 hy6 => ?_
    try simp (disch := decide) only [i_add, i_sub, i_mul, i_0, i_1, i_m1, i_m2, i_m3, i_m4, i_nI, i_eq, i_lt, i_le, i_clamp, true_or, or_true, true_and, and_true, false_or, or_false, false_and, and_false] at hy6
    refine ok_vi (fun h7 => ?_) (fun h7 => ?_)
    · try simp (disch := decide) only [i_add, i_sub, i_mul, i_0, i_1, i_m1, i_m2, i_m3, i_m4, i_nI, i_eq, i_lt, i_le, i_clamp, true_or, or_true, true_and, and_true, false_or, or_false, false_and, and_false] at h7
      refine ok_some ?_
      try dsimp only
      refine ⟨?_, ?_, ?_⟩
      · first | omega | ((try simp (disch := decide) only [i_add, i_sub, i_mul, i_0, i_1, i_m1, i_m2, i_m3, i_m4, i_nI, i_eq, i_lt, i_le, i_clamp, true_or, or_true, true_and, and_true, false_or, or_false, false_and, and_false]) <;> omega)
      · first | omega | ((try simp (disch := decide) only [i_add, i_sub, i_mul, i_0, i_1, i_m1, i_m2, i_m3, i_m4, i_nI, i_eq, i_lt, i_le, i_clamp, true_or, or_true, true_and, and_true, false_or, or_false, false_and, and_false]) <;> omega)
      · first | ((with_reducible refine shelfOK_put g5 g7 g6 ?_ ?_ ?_) <;> omega) | ((with_reducible refine shelfOK_put (shelfOK_shift (K := y8.toInt) (shelfOK_mono g5 ?_) g6 ?_ ?_ ?_) g7 g6 ?_ ?_ ?_) <;> omega) | (exfalso; omega) | assumption
    · try simp (disch := decide) only [i_add, i_sub, i_mul, i_0, i_1, i_m1, i_m2, i_m3, i_m4, i_nI, i_eq, i_lt, i_le, i_clamp, true_or, or_true, true_and, and_true, false_or, or_false, false_and, and_false] at h7
      try (have hm5 : (y8 * (nI 55)).toInt = y8.toInt * 55 := by first | omega | ((try simp (disch := decide) only [i_add, i_sub, i_mul, i_0, i_1, i_m1, i_m2, i_m3, i_m4, i_nI, i_eq, i_lt, i_le, i_clamp, true_or, or_true, true_and, and_true, false_or, or_false, false_and, and_false]) <;> omega))
      try simp (disch := decide) only [i_add, i_sub, i_mul, i_0, i_1, i_m1, i_m2, i_m3, i_m4, i_nI, i_eq, i_lt, i_le, i_clamp, true_or, or_true, true_and, and_true, false_or, or_false, false_and, and_false] at hm5
      refine ok_vg (cpOk_mk (by first | omega | ((try simp (disch := decide) only [i_add, i_sub, i_mul, i_0, i_1, i_m1, i_m2, i_m3, i_m4, i_nI, i_eq, i_lt, i_le, i_clamp, true_or, or_true, true_and, and_true, false_or, or_false, false_and, and_false]) <;> omega)) (by first | omega | ((try simp (disch := decide) only [i_add, i_sub, i_mul, i_0, i_1, i_m1, i_m2, i_m3, i_m4, i_nI, i_eq, i_lt, i_le, i_clamp, true_or, or_true, true_and, and_true, false_or, or_false, false_and, and_false]) <;> omega)) (by first | omega | ((try simp (disch := decide) only [i_add, i_sub, i_mul, i_0, i_1, i_m1, i_m2, i_m3, i_m4, i_nI, i_eq, i_lt, i_le, i_clamp, true_or, or_true, true_and, and_true, false_or, or_false, false_and, and_false]) <;> omega)) (by first | omega | ((try simp (disch := decide) only [i_add, i_sub, i_mul, i_0, i_1, i_m1, i_m2, i_m3, i_m4, i_nI, i_eq, i_lt, i_le, i_clamp, true_or, or_true, true_and, and_true, false_or, or_false, false_and, and_false]) <;> omega)) (by first | omega | ((try simp (disch := decide) only [i_add, i_sub, i_mul, i_0, i_1, i_m1, i_m2, i_m3, i_m4, i_nI, i_eq, i_lt, i_le, i_clamp, true_or, or_true, true_and, and_true, false_or, or_false, false_and, and_false]) <;> omega))) ?_
      refine ok_vlet fun u11 hy8 => ?_
      subst hy8
      refine ok_vlet fun y12 hy9 => ?_
      try simp (disch := decide) only [i_add, i_sub, i_mul, i_0, i_1, i_m1, i_m2, i_m3, i_m4, i_nI, i_eq, i_lt, i_le, i_clamp, true_or, or_true, true_and, and_true, false_or, or_false, false_and, and_false] at hy9
      refine ok_some ?_
      try dsimp only
      refine ⟨?_, ?_, ?_⟩
      · first | omega | ((try simp (disch := decide) only [i_add, i_sub, i_mul, i_0, i_1, i_m1, i_m2, i_m3, i_m4, i_nI, i_eq, i_lt, i_le, i_clamp, true_or, or_true, true_and, and_true, false_or, or_false, false_and, and_false]) <;> omega)
      · first | omega | ((try simp (disch := decide) only [i_add, i_sub, i_mul, i_0, i_1, i_m1, i_m2, i_m3, i_m4, i_nI, i_eq, i_lt, i_le, i_clamp, true_or, or_true, true_and, and_true, false_or, or_false, false_and, and_false]) <;> omega)
      · first | ((with_reducible refine shelfOK_put g5 g7 g6 ?_ ?_ ?_) <;> omega) | ((with_reducible refine shelfOK_put (shelfOK_shift (K := y8.toInt) (shelfOK_mono g5 ?_) g6 ?_ ?_ ?_) g7 g6 ?_ ?_ ?_) <;> omega) | (exfalso; omega) | assumption
set_option maxHeartbeats 1000000 in
set_option maxRecDepth 20000 in
theorem sX7_takeInto_sh_ok (L : Int) (n_rows : Nat) (f_rows : Nat → Int32) (f_most : Int32) (f_used : Int32) (f_p1_cells : Nat → Int32) (g0 : 0 ≤ f_used.toInt) (g1 : f_used.toInt ≤ f_most.toInt) (g2 : 1 ≤ f_most.toInt) (g3 : f_most.toInt ≤ 8) (g4 : 55 * f_most.toInt ≤ (n_rows : Int)) (g5 : shelfOK f_rows f_used.toInt L) (g6 : L ≤ 55) (g7 : cellOK f_p1_cells L) : ok (sX7_takeInto n_rows f_rows f_most f_used f_p1_cells) (fun z => 0 ≤ z.2.1.toInt ∧ z.2.1.toInt ≤ f_used.toInt ∧ (z.1.toInt = 0 ∨ z.1.toInt = 1) ∧ cellOK z.2.2 L) := by
  unfold sX7_takeInto
  try simp (disch := decide) only [i_add, i_sub, i_mul, i_0, i_1, i_m1, i_m2, i_m3, i_m4, i_nI, i_eq, i_lt, i_le, i_clamp, true_or, or_true, true_and, and_true, false_or, or_false, false_and, and_false] at g0
  try simp (disch := decide) only [i_add, i_sub, i_mul, i_0, i_1, i_m1, i_m2, i_m3, i_m4, i_nI, i_eq, i_lt, i_le, i_clamp, true_or, or_true, true_and, and_true, false_or, or_false, false_and, and_false] at g1
  try simp (disch := decide) only [i_add, i_sub, i_mul, i_0, i_1, i_m1, i_m2, i_m3, i_m4, i_nI, i_eq, i_lt, i_le, i_clamp, true_or, or_true, true_and, and_true, false_or, or_false, false_and, and_false] at g2
  try simp (disch := decide) only [i_add, i_sub, i_mul, i_0, i_1, i_m1, i_m2, i_m3, i_m4, i_nI, i_eq, i_lt, i_le, i_clamp, true_or, or_true, true_and, and_true, false_or, or_false, false_and, and_false] at g3
  try simp (disch := decide) only [i_add, i_sub, i_mul, i_0, i_1, i_m1, i_m2, i_m3, i_m4, i_nI, i_eq, i_lt, i_le, i_clamp, true_or, or_true, true_and, and_true, false_or, or_false, false_and, and_false] at g4
  try simp (disch := decide) only [i_add, i_sub, i_mul, i_0, i_1, i_m1, i_m2, i_m3, i_m4, i_nI, i_eq, i_lt, i_le, i_clamp, true_or, or_true, true_and, and_true, false_or, or_false, false_and, and_false] at g6
  try (have hm1 : (f_used * (nI 55)).toInt = f_used.toInt * 55 := by first | omega | ((try simp (disch := decide) only [i_add, i_sub, i_mul, i_0, i_1, i_m1, i_m2, i_m3, i_m4, i_nI, i_eq, i_lt, i_le, i_clamp, true_or, or_true, true_and, and_true, false_or, or_false, false_and, and_false]) <;> omega))
  try simp (disch := decide) only [i_add, i_sub, i_mul, i_0, i_1, i_m1, i_m2, i_m3, i_m4, i_nI, i_eq, i_lt, i_le, i_clamp, true_or, or_true, true_and, and_true, false_or, or_false, false_and, and_false] at hm1
  try (have hm2 : (f_most - (nI 1)).toInt = f_most.toInt - 1 := by first | omega | ((try simp (disch := decide) only [i_add, i_sub, i_mul, i_0, i_1, i_m1, i_m2, i_m3, i_m4, i_nI, i_eq, i_lt, i_le, i_clamp, true_or, or_true, true_and, and_true, false_or, or_false, false_and, and_false]) <;> omega))
  try simp (disch := decide) only [i_add, i_sub, i_mul, i_0, i_1, i_m1, i_m2, i_m3, i_m4, i_nI, i_eq, i_lt, i_le, i_clamp, true_or, or_true, true_and, and_true, false_or, or_false, false_and, and_false] at hm2
  try (have hm3 : ((f_most - (nI 1)) * (nI 55)).toInt = (f_most.toInt - 1) * 55 := by first | omega | ((try simp (disch := decide) only [i_add, i_sub, i_mul, i_0, i_1, i_m1, i_m2, i_m3, i_m4, i_nI, i_eq, i_lt, i_le, i_clamp, true_or, or_true, true_and, and_true, false_or, or_false, false_and, and_false]) <;> omega))
  try simp (disch := decide) only [i_add, i_sub, i_mul, i_0, i_1, i_m1, i_m2, i_m3, i_m4, i_nI, i_eq, i_lt, i_le, i_clamp, true_or, or_true, true_and, and_true, false_or, or_false, false_and, and_false] at hm3
  try (have hm4 : (f_used - (nI 1)).toInt = f_used.toInt - 1 := by first | omega | ((try simp (disch := decide) only [i_add, i_sub, i_mul, i_0, i_1, i_m1, i_m2, i_m3, i_m4, i_nI, i_eq, i_lt, i_le, i_clamp, true_or, or_true, true_and, and_true, false_or, or_false, false_and, and_false]) <;> omega))
  try simp (disch := decide) only [i_add, i_sub, i_mul, i_0, i_1, i_m1, i_m2, i_m3, i_m4, i_nI, i_eq, i_lt, i_le, i_clamp, true_or, or_true, true_and, and_true, false_or, or_false, false_and, and_false] at hm4
  refine ok_vi (fun h1 => ?_) (fun h1 => ?_)
  · try simp (disch := decide) only [i_add, i_sub, i_mul, i_0, i_1, i_m1, i_m2, i_m3, i_m4, i_nI, i_eq, i_lt, i_le, i_clamp, true_or, or_true, true_and, and_true, false_or, or_false, false_and, and_false] at h1
    refine ok_some ?_
    try dsimp only
    refine ⟨?_, ?_, ?_, ?_⟩
    · first | omega | ((try simp (disch := decide) only [i_add, i_sub, i_mul, i_0, i_1, i_m1, i_m2, i_m3, i_m4, i_nI, i_eq, i_lt, i_le, i_clamp, true_or, or_true, true_and, and_true, false_or, or_false, false_and, and_false]) <;> omega)
    · first | omega | ((try simp (disch := decide) only [i_add, i_sub, i_mul, i_0, i_1, i_m1, i_m2, i_m3, i_m4, i_nI, i_eq, i_lt, i_le, i_clamp, true_or, or_true, true_and, and_true, false_or, or_false, false_and, and_false]) <;> omega)
    · first | omega | ((try simp (disch := decide) only [i_add, i_sub, i_mul, i_0, i_1, i_m1, i_m2, i_m3, i_m4, i_nI, i_eq, i_lt, i_le, i_clamp, true_or, or_true, true_and, and_true, false_or, or_false, false_and, and_false]) <;> omega)
    · first | ((with_reducible refine shelfOK_take g5 g6 ?_ ?_ ?_) <;> omega) | (exfalso; omega) | assumption
  · try simp (disch := decide) only [i_add, i_sub, i_mul, i_0, i_1, i_m1, i_m2, i_m3, i_m4, i_nI, i_eq, i_lt, i_le, i_clamp, true_or, or_true, true_and, and_true, false_or, or_false, false_and, and_false] at h1
    refine ok_vi (fun h2 => ?_) (fun h2 => ?_)
    · try simp (disch := decide) only [i_add, i_sub, i_mul, i_0, i_1, i_m1, i_m2, i_m3, i_m4, i_nI, i_eq, i_lt, i_le, i_clamp, true_or, or_true, true_and, and_true, false_or, or_false, false_and, and_false] at h2
      refine ok_vlet fun y3 hy3 => ?_
      try simp (disch := decide) only [i_add, i_sub, i_mul, i_0, i_1, i_m1, i_m2, i_m3, i_m4, i_nI, i_eq, i_lt, i_le, i_clamp, true_or, or_true, true_and, and_true, false_or, or_false, false_and, and_false] at hy3
      try (have hm5 : (y3 * (nI 55)).toInt = y3.toInt * 55 := by first | omega | ((try simp (disch := decide) only [i_add, i_sub, i_mul, i_0, i_1, i_m1, i_m2, i_m3, i_m4, i_nI, i_eq, i_lt, i_le, i_clamp, true_or, or_true, true_and, and_true, false_or, or_false, false_and, and_false]) <;> omega))
      try simp (disch := decide) only [i_add, i_sub, i_mul, i_0, i_1, i_m1, i_m2, i_m3, i_m4, i_nI, i_eq, i_lt, i_le, i_clamp, true_or, or_true, true_and, and_true, false_or, or_false, false_and, and_false] at hm5
      refine ok_vg (cpOk_mk (by first | omega | ((try simp (disch := decide) only [i_add, i_sub, i_mul, i_0, i_1, i_m1, i_m2, i_m3, i_m4, i_nI, i_eq, i_lt, i_le, i_clamp, true_or, or_true, true_and, and_true, false_or, or_false, false_and, and_false]) <;> omega)) (by first | omega | ((try simp (disch := decide) only [i_add, i_sub, i_mul, i_0, i_1, i_m1, i_m2, i_m3, i_m4, i_nI, i_eq, i_lt, i_le, i_clamp, true_or, or_true, true_and, and_true, false_or, or_false, false_and, and_false]) <;> omega)) (by first | omega | ((try simp (disch := decide) only [i_add, i_sub, i_mul, i_0, i_1, i_m1, i_m2, i_m3, i_m4, i_nI, i_eq, i_lt, i_le, i_clamp, true_or, or_true, true_and, and_true, false_or, or_false, false_and, and_false]) <;> omega)) (by first | omega | ((try simp (disch := decide) only [i_add, i_sub, i_mul, i_0, i_1, i_m1, i_m2, i_m3, i_m4, i_nI, i_eq, i_lt, i_le, i_clamp, true_or, or_true, true_and, and_true, false_or, or_false, false_and, and_false]) <;> omega)) (by first | omega | ((try simp (disch := decide) only [i_add, i_sub, i_mul, i_0, i_1, i_m1, i_m2, i_m3, i_m4, i_nI, i_eq, i_lt, i_le, i_clamp, true_or, or_true, true_and, and_true, false_or, or_false, false_and, and_false]) <;> omega))) ?_
      refine ok_vlet fun u5 hy4 => ?_
      subst hy4
      refine ok_some ?_
      try dsimp only
      refine ⟨?_, ?_, ?_, ?_⟩
      · first | omega | ((try simp (disch := decide) only [i_add, i_sub, i_mul, i_0, i_1, i_m1, i_m2, i_m3, i_m4, i_nI, i_eq, i_lt, i_le, i_clamp, true_or, or_true, true_and, and_true, false_or, or_false, false_and, and_false]) <;> omega)
      · first | omega | ((try simp (disch := decide) only [i_add, i_sub, i_mul, i_0, i_1, i_m1, i_m2, i_m3, i_m4, i_nI, i_eq, i_lt, i_le, i_clamp, true_or, or_true, true_and, and_true, false_or, or_false, false_and, and_false]) <;> omega)
      · first | omega | ((try simp (disch := decide) only [i_add, i_sub, i_mul, i_0, i_1, i_m1, i_m2, i_m3, i_m4, i_nI, i_eq, i_lt, i_le, i_clamp, true_or, or_true, true_and, and_true, false_or, or_false, false_and, and_false]) <;> omega)
      · first | ((with_reducible refine shelfOK_take g5 g6 ?_ ?_ ?_) <;> omega) | (exfalso; omega) | assumption
    · try simp (disch := decide) only [i_add, i_sub, i_mul, i_0, i_1, i_m1, i_m2, i_m3, i_m4, i_nI, i_eq, i_lt, i_le, i_clamp, true_or, or_true, true_and, and_true, false_or, or_false, false_and, and_false] at h2
      refine ok_some ?_
      try dsimp only
      refine ⟨?_, ?_, ?_, ?_⟩
      · first | omega | ((try simp (disch := decide) only [i_add, i_sub, i_mul, i_0, i_1, i_m1, i_m2, i_m3, i_m4, i_nI, i_eq, i_lt, i_le, i_clamp, true_or, or_true, true_and, and_true, false_or, or_false, false_and, and_false]) <;> omega)
      · first | omega | ((try simp (disch := decide) only [i_add, i_sub, i_mul, i_0, i_1, i_m1, i_m2, i_m3, i_m4, i_nI, i_eq, i_lt, i_le, i_clamp, true_or, or_true, true_and, and_true, false_or, or_false, false_and, and_false]) <;> omega)
      · first | omega | ((try simp (disch := decide) only [i_add, i_sub, i_mul, i_0, i_1, i_m1, i_m2, i_m3, i_m4, i_nI, i_eq, i_lt, i_le, i_clamp, true_or, or_true, true_and, and_true, false_or, or_false, false_and, and_false]) <;> omega)
      · first | ((with_reducible refine shelfOK_take g5 g6 ?_ ?_ ?_) <;> omega) | (exfalso; omega) | assumption

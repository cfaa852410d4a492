/-! no spec stops short: Scene, Board, bit count -/
set_option maxHeartbeats 1000000 in
set_option maxRecDepth 20000 in
theorem sX4_cell_ok  (f_cells : Nat → Int32) (x1 : Int32) (x2 : Int32)  : ok (sX4_cell f_cells x1 x2) (fun _ => True) := by
  unfold sX4_cell
  refine ok_vlet fun y1 hy1 => ?_
  try simp (disch := decide) only [i_add, i_sub, i_mul, i_0, i_1, i_m1, i_m2, i_m3, i_m4, i_nI, i_eq, i_lt, i_le, i_clamp, true_or, or_true, true_and, and_true, false_or, or_false, false_and, and_false] at hy1
  refine ok_vi (fun h2 => ?_) (fun h2 => ?_)
  · try simp (disch := decide) only [i_add, i_sub, i_mul, i_0, i_1, i_m1, i_m2, i_m3, i_m4, i_nI, i_eq, i_lt, i_le, i_clamp, true_or, or_true, true_and, and_true, false_or, or_false, false_and, and_false] at h2
    exact ok_some trivial
  · try simp (disch := decide) only [i_add, i_sub, i_mul, i_0, i_1, i_m1, i_m2, i_m3, i_m4, i_nI, i_eq, i_lt, i_le, i_clamp, true_or, or_true, true_and, and_true, false_or, or_false, false_and, and_false] at h2
    refine ok_vi (fun h3 => ?_) (fun h3 => ?_)
    · try simp (disch := decide) only [i_add, i_sub, i_mul, i_0, i_1, i_m1, i_m2, i_m3, i_m4, i_nI, i_eq, i_lt, i_le, i_clamp, true_or, or_true, true_and, and_true, false_or, or_false, false_and, and_false] at h3
      exact ok_some trivial
    · try simp (disch := decide) only [i_add, i_sub, i_mul, i_0, i_1, i_m1, i_m2, i_m3, i_m4, i_nI, i_eq, i_lt, i_le, i_clamp, true_or, or_true, true_and, and_true, false_or, or_false, false_and, and_false] at h3
      refine ok_vg (vin_of (by first | omega | ((try simp (disch := decide) only [i_add, i_sub, i_mul, i_0, i_1, i_m1, i_m2, i_m3, i_m4, i_nI, i_eq, i_lt, i_le, i_clamp, true_or, or_true, true_and, and_true, false_or, or_false, false_and, and_false]) <;> omega)) (by first | omega | ((try simp (disch := decide) only [i_add, i_sub, i_mul, i_0, i_1, i_m1, i_m2, i_m3, i_m4, i_nI, i_eq, i_lt, i_le, i_clamp, true_or, or_true, true_and, and_true, false_or, or_false, false_and, and_false]) <;> omega))) ?_
      exact ok_some trivial
set_option maxHeartbeats 1000000 in
set_option maxRecDepth 20000 in
theorem sX4_sign_ok  (f_cells : Nat → Int32) (x1 : Int32) (x2 : Int32)  : ok (sX4_sign f_cells x1 x2) (fun _ => True) := by
  unfold sX4_sign
  refine ok_vb (sX4_cell_ok  _ _ _ ) fun z1 _ => ?_
  exact ok_some trivial
set_option maxHeartbeats 1000000 in
set_option maxRecDepth 20000 in
theorem sX4_set_ok  (f_cells : Nat → Int32) (x1 : Int32) (x2 : Int32) (x3 : Int32)  : ok (sX4_set f_cells x1 x2 x3) (fun _ => True) := by
  unfold sX4_set
  refine ok_vlet fun y1 hy1 => ?_
  try simp (disch := decide) only [i_add, i_sub, i_mul, i_0, i_1, i_m1, i_m2, i_m3, i_m4, i_nI, i_eq, i_lt, i_le, i_clamp, true_or, or_true, true_and, and_true, false_or, or_false, false_and, and_false] at hy1
  refine ok_vi (fun h2 => ?_) (fun h2 => ?_)
  · try simp (disch := decide) only [i_add, i_sub, i_mul, i_0, i_1, i_m1, i_m2, i_m3, i_m4, i_nI, i_eq, i_lt, i_le, i_clamp, true_or, or_true, true_and, and_true, false_or, or_false, false_and, and_false] at h2
    exact ok_some trivial
  · try simp (disch := decide) only [i_add, i_sub, i_mul, i_0, i_1, i_m1, i_m2, i_m3, i_m4, i_nI, i_eq, i_lt, i_le, i_clamp, true_or, or_true, true_and, and_true, false_or, or_false, false_and, and_false] at h2
    refine ok_vi (fun h3 => ?_) (fun h3 => ?_)
    · try simp (disch := decide) only [i_add, i_sub, i_mul, i_0, i_1, i_m1, i_m2, i_m3, i_m4, i_nI, i_eq, i_lt, i_le, i_clamp, true_or, or_true, true_and, and_true, false_or, or_false, false_and, and_false] at h3
      exact ok_some trivial
    · try simp (disch := decide) only [i_add, i_sub, i_mul, i_0, i_1, i_m1, i_m2, i_m3, i_m4, i_nI, i_eq, i_lt, i_le, i_clamp, true_or, or_true, true_and, and_true, false_or, or_false, false_and, and_false] at h3
      refine ok_vg (vin_of (by first | omega | ((try simp (disch := decide) only [i_add, i_sub, i_mul, i_0, i_1, i_m1, i_m2, i_m3, i_m4, i_nI, i_eq, i_lt, i_le, i_clamp, true_or, or_true, true_and, and_true, false_or, or_false, false_and, and_false]) <;> omega)) (by first | omega | ((try simp (disch := decide) only [i_add, i_sub, i_mul, i_0, i_1, i_m1, i_m2, i_m3, i_m4, i_nI, i_eq, i_lt, i_le, i_clamp, true_or, or_true, true_and, and_true, false_or, or_false, false_and, and_false]) <;> omega))) ?_
      refine ok_vlet fun u5 hy4 => ?_
      subst hy4
      exact ok_some trivial
set_option maxHeartbeats 1000000 in
set_option maxRecDepth 20000 in
theorem LX4_start_3_ok  (y_1 : Int32) (y_2 : Int32) (y_3 : Int32) (y_4 : Int32)   : ∀ (n : Nat) (y_5 : Int32) (f_cells : (Nat → Int32)) (i0 : 0 ≤ y_5.toInt) (i1 : y_5.toInt ≤ 11) (im : 11 - y_5.toInt < (n : Int)), ok (LX4_start_3 y_1 y_2 y_3 y_4 n y_5 f_cells) (fun _ => True) := by
  intro n
  induction n with
  | zero =>
    intro y_5 f_cells i0 i1 im
    exfalso
    first | omega | ((try simp (disch := decide) only [i_add, i_sub, i_mul, i_0, i_1, i_m1, i_m2, i_m3, i_m4, i_nI, i_eq, i_lt, i_le, i_clamp, true_or, or_true, true_and, and_true, false_or, or_false, false_and, and_false]) <;> omega)
  | succ n ih =>
    intro y_5 f_cells i0 i1 im
    rw [LX4_start_3]
    try simp (disch := decide) only [i_add, i_sub, i_mul, i_0, i_1, i_m1, i_m2, i_m3, i_m4, i_nI, i_eq, i_lt, i_le, i_clamp, true_or, or_true, true_and, and_true, false_or, or_false, false_and, and_false] at i0
    try simp (disch := decide) only [i_add, i_sub, i_mul, i_0, i_1, i_m1, i_m2, i_m3, i_m4, i_nI, i_eq, i_lt, i_le, i_clamp, true_or, or_true, true_and, and_true, false_or, or_false, false_and, and_false] at i1
    try simp (disch := decide) only [i_add, i_sub, i_mul, i_0, i_1, i_m1, i_m2, i_m3, i_m4, i_nI, i_eq, i_lt, i_le, i_clamp, true_or, or_true, true_and, and_true, false_or, or_false, false_and, and_false] at im
    refine ok_vi (fun h1 => ?_) (fun h1 => ?_)
    · try simp (disch := decide) only [i_add, i_sub, i_mul, i_0, i_1, i_m1, i_m2, i_m3, i_m4, i_nI, i_eq, i_lt, i_le, i_clamp, true_or, or_true, true_and, and_true, false_or, or_false, false_and, and_false] at h1
      refine ok_vb (sX4_set_ok  _ _ _ _ ) fun z2 _ => ?_
      refine ok_vb (sX4_set_ok  _ _ _ _ ) fun z3 _ => ?_
      refine ok_vb (sX4_set_ok  _ _ _ _ ) fun z4 _ => ?_
      exact ok_some trivial
    · try simp (disch := decide) only [i_add, i_sub, i_mul, i_0, i_1, i_m1, i_m2, i_m3, i_m4, i_nI, i_eq, i_lt, i_le, i_clamp, true_or, or_true, true_and, and_true, false_or, or_false, false_and, and_false] at h1
      refine ok_vb (sX4_set_ok  _ _ _ _ ) fun z5 _ => ?_
      refine ok_vlet fun y6 hy2 => ?_
      try simp (disch := decide) only [i_add, i_sub, i_mul, i_0, i_1, i_m1, i_m2, i_m3, i_m4, i_nI, i_eq, i_lt, i_le, i_clamp, true_or, or_true, true_and, and_true, false_or, or_false, false_and, and_false] at hy2
      exact ih _ _ (by first | omega | ((try simp (disch := decide) only [i_add, i_sub, i_mul, i_0, i_1, i_m1, i_m2, i_m3, i_m4, i_nI, i_eq, i_lt, i_le, i_clamp, true_or, or_true, true_and, and_true, false_or, or_false, false_and, and_false]) <;> omega)) (by first | omega | ((try simp (disch := decide) only [i_add, i_sub, i_mul, i_0, i_1, i_m1, i_m2, i_m3, i_m4, i_nI, i_eq, i_lt, i_le, i_clamp, true_or, or_true, true_and, and_true, false_or, or_false, false_and, and_false]) <;> omega)) (by first | omega | ((try simp (disch := decide) only [i_add, i_sub, i_mul, i_0, i_1, i_m1, i_m2, i_m3, i_m4, i_nI, i_eq, i_lt, i_le, i_clamp, true_or, or_true, true_and, and_true, false_or, or_false, false_and, and_false]) <;> omega))
set_option maxHeartbeats 1000000 in
set_option maxRecDepth 20000 in
theorem sX4_start_ok  (f_cells : Nat → Int32) (x1 : Int32) (x2 : Int32) (x3 : Int32) (x4 : Int32)  : ok (sX4_start f_cells x1 x2 x3 x4) (fun _ => True) := by
  unfold sX4_start
  exact LX4_start_3_ok  _ _ _ _  _ _ _ (by first | omega | ((try simp (disch := decide) only [i_add, i_sub, i_mul, i_0, i_1, i_m1, i_m2, i_m3, i_m4, i_nI, i_eq, i_lt, i_le, i_clamp, true_or, or_true, true_and, and_true, false_or, or_false, false_and, and_false]) <;> omega)) (by first | omega | ((try simp (disch := decide) only [i_add, i_sub, i_mul, i_0, i_1, i_m1, i_m2, i_m3, i_m4, i_nI, i_eq, i_lt, i_le, i_clamp, true_or, or_true, true_and, and_true, false_or, or_false, false_and, and_false]) <;> omega)) (by rw [vF_int]; first | omega | ((try simp (disch := decide) only [i_add, i_sub, i_mul, i_0, i_1, i_m1, i_m2, i_m3, i_m4, i_nI, i_eq, i_lt, i_le, i_clamp, true_or, or_true, true_and, and_true, false_or, or_false, false_and, and_false]) <;> omega))
set_option maxHeartbeats 1000000 in
set_option maxRecDepth 20000 in
theorem sX4_copyFrom_ok  (f_cells : Nat → Int32) (f_p1_cells : Nat → Int32)  : ok (sX4_copyFrom f_cells f_p1_cells) (fun _ => True) := by
  unfold sX4_copyFrom
  refine ok_vlet fun u1 hy1 => ?_
  subst hy1
  exact ok_some trivial
set_option maxHeartbeats 1000000 in
set_option maxRecDepth 20000 in
theorem sX4_waits_ok  (f_cells : Nat → Int32) (x1 : Int32)  : ok (sX4_waits f_cells x1) (fun _ => True) := by
  unfold sX4_waits
  refine ok_vb (sX4_cell_ok  _ _ _ ) fun z1 _ => ?_
  refine ok_vi (fun h1 => ?_) (fun h1 => ?_)
  · try simp (disch := decide) only [i_add, i_sub, i_mul, i_0, i_1, i_m1, i_m2, i_m3, i_m4, i_nI, i_eq, i_lt, i_le, i_clamp, true_or, or_true, true_and, and_true, false_or, or_false, false_and, and_false] at h1
    exact ok_some trivial
  · try simp (disch := decide) only [i_add, i_sub, i_mul, i_0, i_1, i_m1, i_m2, i_m3, i_m4, i_nI, i_eq, i_lt, i_le, i_clamp, true_or, or_true, true_and, and_true, false_or, or_false, false_and, and_false] at h1
    exact ok_some trivial
set_option maxHeartbeats 1000000 in
set_option maxRecDepth 20000 in
theorem sX4_canShow_ok  (f_cells : Nat → Int32) (x1 : Int32)  : ok (sX4_canShow f_cells x1) (fun _ => True) := by
  unfold sX4_canShow
  refine ok_vb (sX4_waits_ok  _ _ ) fun z1 _ => ?_
  refine ok_vi (fun h1 => ?_) (fun h1 => ?_)
  · try simp (disch := decide) only [i_add, i_sub, i_mul, i_0, i_1, i_m1, i_m2, i_m3, i_m4, i_nI, i_eq, i_lt, i_le, i_clamp, true_or, or_true, true_and, and_true, false_or, or_false, false_and, and_false] at h1
    exact ok_some trivial
  · try simp (disch := decide) only [i_add, i_sub, i_mul, i_0, i_1, i_m1, i_m2, i_m3, i_m4, i_nI, i_eq, i_lt, i_le, i_clamp, true_or, or_true, true_and, and_true, false_or, or_false, false_and, and_false] at h1
    refine ok_vb (sX4_cell_ok  _ _ _ ) fun z3 _ => ?_
    refine ok_vi (fun h2 => ?_) (fun h2 => ?_)
    · try simp (disch := decide) only [i_add, i_sub, i_mul, i_0, i_1, i_m1, i_m2, i_m3, i_m4, i_nI, i_eq, i_lt, i_le, i_clamp, true_or, or_true, true_and, and_true, false_or, or_false, false_and, and_false] at h2
      exact ok_some trivial
    · try simp (disch := decide) only [i_add, i_sub, i_mul, i_0, i_1, i_m1, i_m2, i_m3, i_m4, i_nI, i_eq, i_lt, i_le, i_clamp, true_or, or_true, true_and, and_true, false_or, or_false, false_and, and_false] at h2
      exact ok_some trivial
set_option maxHeartbeats 1000000 in
set_option maxRecDepth 20000 in
theorem sX4_isFresh_ok  (f_cells : Nat → Int32) (x1 : Int32)  : ok (sX4_isFresh f_cells x1) (fun _ => True) := by
  unfold sX4_isFresh
  refine ok_vb (sX4_waits_ok  _ _ ) fun z1 _ => ?_
  refine ok_vi (fun h1 => ?_) (fun h1 => ?_)
  · try simp (disch := decide) only [i_add, i_sub, i_mul, i_0, i_1, i_m1, i_m2, i_m3, i_m4, i_nI, i_eq, i_lt, i_le, i_clamp, true_or, or_true, true_and, and_true, false_or, or_false, false_and, and_false] at h1
    exact ok_some trivial
  · try simp (disch := decide) only [i_add, i_sub, i_mul, i_0, i_1, i_m1, i_m2, i_m3, i_m4, i_nI, i_eq, i_lt, i_le, i_clamp, true_or, or_true, true_and, and_true, false_or, or_false, false_and, and_false] at h1
    refine ok_vb (sX4_cell_ok  _ _ _ ) fun z3 _ => ?_
    refine ok_vi (fun h2 => ?_) (fun h2 => ?_)
    · try simp (disch := decide) only [i_add, i_sub, i_mul, i_0, i_1, i_m1, i_m2, i_m3, i_m4, i_nI, i_eq, i_lt, i_le, i_clamp, true_or, or_true, true_and, and_true, false_or, or_false, false_and, and_false] at h2
      exact ok_some trivial
    · try simp (disch := decide) only [i_add, i_sub, i_mul, i_0, i_1, i_m1, i_m2, i_m3, i_m4, i_nI, i_eq, i_lt, i_le, i_clamp, true_or, or_true, true_and, and_true, false_or, or_false, false_and, and_false] at h2
      exact ok_some trivial
set_option maxHeartbeats 1000000 in
set_option maxRecDepth 20000 in
theorem sX4_canPay_ok  (f_cells : Nat → Int32) (x1 : Int32) (x2 : Int32) (x3 : Int32)  : ok (sX4_canPay f_cells x1 x2 x3) (fun _ => True) := by
  unfold sX4_canPay
  refine ok_vb (sX4_cell_ok  _ _ _ ) fun z1 _ => ?_
  refine ok_vb (sX4_cell_ok  _ _ _ ) fun z2 _ => ?_
  refine ok_vi (fun h1 => ?_) (fun h1 => ?_)
  · try simp (disch := decide) only [i_add, i_sub, i_mul, i_0, i_1, i_m1, i_m2, i_m3, i_m4, i_nI, i_eq, i_lt, i_le, i_clamp, true_or, or_true, true_and, and_true, false_or, or_false, false_and, and_false] at h1
    exact ok_some trivial
  · try simp (disch := decide) only [i_add, i_sub, i_mul, i_0, i_1, i_m1, i_m2, i_m3, i_m4, i_nI, i_eq, i_lt, i_le, i_clamp, true_or, or_true, true_and, and_true, false_or, or_false, false_and, and_false] at h1
    exact ok_some trivial
set_option maxHeartbeats 1000000 in
set_option maxRecDepth 20000 in
theorem sX4_payAndPass_ok  (f_cells : Nat → Int32) (x1 : Int32) (x2 : Int32)  : ok (sX4_payAndPass f_cells x1 x2) (fun _ => True) := by
  unfold sX4_payAndPass
  refine ok_vb (sX4_cell_ok  _ _ _ ) fun z1 _ => ?_
  refine ok_vb (sX4_cell_ok  _ _ _ ) fun z2 _ => ?_
  refine ok_vb (sX4_set_ok  _ _ _ _ ) fun z3 _ => ?_
  refine ok_vb (sX4_set_ok  _ _ _ _ ) fun z4 _ => ?_
  exact ok_some trivial
set_option maxHeartbeats 1000000 in
set_option maxRecDepth 20000 in
theorem sX4_addSign_ok  (f_cells : Nat → Int32) (x1 : Int32) (x2 : Int32)  : ok (sX4_addSign f_cells x1 x2) (fun _ => True) := by
  unfold sX4_addSign
  refine ok_vb (sX4_cell_ok  _ _ _ ) fun z1 _ => ?_
  refine ok_vi (fun h1 => ?_) (fun h1 => ?_)
  · try simp (disch := decide) only [i_add, i_sub, i_mul, i_0, i_1, i_m1, i_m2, i_m3, i_m4, i_nI, i_eq, i_lt, i_le, i_clamp, true_or, or_true, true_and, and_true, false_or, or_false, false_and, and_false] at h1
    exact ok_some trivial
  · try simp (disch := decide) only [i_add, i_sub, i_mul, i_0, i_1, i_m1, i_m2, i_m3, i_m4, i_nI, i_eq, i_lt, i_le, i_clamp, true_or, or_true, true_and, and_true, false_or, or_false, false_and, and_false] at h1
    refine ok_vb (sX4_set_ok  _ _ _ _ ) fun z3 _ => ?_
    refine ok_vb (sX4_set_ok  _ _ _ _ ) fun z4 _ => ?_
    exact ok_some trivial
set_option maxHeartbeats 1000000 in
set_option maxRecDepth 20000 in
theorem sX0_clear_ok  (f_wordCount : Int32) (f_likenessCount : Int32) (f_actorCount : Int32) (f_forbiddenBits : Int32) (f_habitTold : Int32) (f_priceTold : Int32)  : ok (sX0_clear f_wordCount f_likenessCount f_actorCount f_forbiddenBits f_habitTold f_priceTold) (fun z => z.1.toInt = 0 ∧ z.2.1.toInt = 0 ∧ z.2.2.1.toInt = 0) := by
  unfold sX0_clear
  refine ok_some ?_
  refine ⟨?_, ?_, ?_⟩
  · first | omega | ((try simp (disch := decide) only [i_add, i_sub, i_mul, i_0, i_1, i_m1, i_m2, i_m3, i_m4, i_nI, i_eq, i_lt, i_le, i_clamp, true_or, or_true, true_and, and_true, false_or, or_false, false_and, and_false]) <;> omega)
  · first | omega | ((try simp (disch := decide) only [i_add, i_sub, i_mul, i_0, i_1, i_m1, i_m2, i_m3, i_m4, i_nI, i_eq, i_lt, i_le, i_clamp, true_or, or_true, true_and, and_true, false_or, or_false, false_and, and_false]) <;> omega)
  · first | omega | ((try simp (disch := decide) only [i_add, i_sub, i_mul, i_0, i_1, i_m1, i_m2, i_m3, i_m4, i_nI, i_eq, i_lt, i_le, i_clamp, true_or, or_true, true_and, and_true, false_or, or_false, false_and, and_false]) <;> omega)
set_option maxHeartbeats 1000000 in
set_option maxRecDepth 20000 in
theorem sX0_addWord_ok  (f_commons : Nat → Int32) (f_lengths : Nat → Int32) (f_parts : Nat → Int32) (f_wordCount : Int32) (x1 : Int32) (x2 : Int32) (x3 : Int32) (g0 : 0 ≤ f_wordCount.toInt) (g1 : f_wordCount.toInt ≤ 8) : ok (sX0_addWord f_commons f_lengths f_parts f_wordCount x1 x2 x3) (fun z => 0 ≤ z.2.2.2.2.toInt ∧ z.2.2.2.2.toInt ≤ 8 ∧ (z.1.toInt = 0 ∨ z.1.toInt = 1)) := by
  unfold sX0_addWord
  try simp (disch := decide) only [i_add, i_sub, i_mul, i_0, i_1, i_m1, i_m2, i_m3, i_m4, i_nI, i_eq, i_lt, i_le, i_clamp, true_or, or_true, true_and, and_true, false_or, or_false, false_and, and_false] at g0
  try simp (disch := decide) only [i_add, i_sub, i_mul, i_0, i_1, i_m1, i_m2, i_m3, i_m4, i_nI, i_eq, i_lt, i_le, i_clamp, true_or, or_true, true_and, and_true, false_or, or_false, false_and, and_false] at g1
  refine ok_vi (fun h1 => ?_) (fun h1 => ?_)
  · try simp (disch := decide) only [i_add, i_sub, i_mul, i_0, i_1, i_m1, i_m2, i_m3, i_m4, i_nI, i_eq, i_lt, i_le, i_clamp, true_or, or_true, true_and, and_true, false_or, or_false, false_and, and_false] at h1
    refine ok_some ?_
    refine ⟨?_, ?_, ?_⟩
    · first | omega | ((try simp (disch := decide) only [i_add, i_sub, i_mul, i_0, i_1, i_m1, i_m2, i_m3, i_m4, i_nI, i_eq, i_lt, i_le, i_clamp, true_or, or_true, true_and, and_true, false_or, or_false, false_and, and_false]) <;> omega)
    · first | omega | ((try simp (disch := decide) only [i_add, i_sub, i_mul, i_0, i_1, i_m1, i_m2, i_m3, i_m4, i_nI, i_eq, i_lt, i_le, i_clamp, true_or, or_true, true_and, and_true, false_or, or_false, false_and, and_false]) <;> omega)
    · first | omega | ((try simp (disch := decide) only [i_add, i_sub, i_mul, i_0, i_1, i_m1, i_m2, i_m3, i_m4, i_nI, i_eq, i_lt, i_le, i_clamp, true_or, or_true, true_and, and_true, false_or, or_false, false_and, and_false]) <;> omega)
  · try simp (disch := decide) only [i_add, i_sub, i_mul, i_0, i_1, i_m1, i_m2, i_m3, i_m4, i_nI, i_eq, i_lt, i_le, i_clamp, true_or, or_true, true_and, and_true, false_or, or_false, false_and, and_false] at h1
    refine ok_vi (fun h2 => ?_) (fun h2 => ?_)
    · try simp (disch := decide) only [i_add, i_sub, i_mul, i_0, i_1, i_m1, i_m2, i_m3, i_m4, i_nI, i_eq, i_lt, i_le, i_clamp, true_or, or_true, true_and, and_true, false_or, or_false, false_and, and_false] at h2
      refine ok_vg (vin_of (by first | omega | ((try simp (disch := decide) only [i_add, i_sub, i_mul, i_0, i_1, i_m1, i_m2, i_m3, i_m4, i_nI, i_eq, i_lt, i_le, i_clamp, true_or, or_true, true_and, and_true, false_or, or_false, false_and, and_false]) <;> omega)) (by first | omega | ((try simp (disch := decide) only [i_add, i_sub, i_mul, i_0, i_1, i_m1, i_m2, i_m3, i_m4, i_nI, i_eq, i_lt, i_le, i_clamp, true_or, or_true, true_and, and_true, false_or, or_false, false_and, and_false]) <;> omega))) ?_
      refine ok_vlet fun u4 hy3 => ?_
      subst hy3
      refine ok_vg (vin_of (by first | omega | ((try simp (disch := decide) only [i_add, i_sub, i_mul, i_0, i_1, i_m1, i_m2, i_m3, i_m4, i_nI, i_eq, i_lt, i_le, i_clamp, true_or, or_true, true_and, and_true, false_or, or_false, false_and, and_false]) <;> omega)) (by first | omega | ((try simp (disch := decide) only [i_add, i_sub, i_mul, i_0, i_1, i_m1, i_m2, i_m3, i_m4, i_nI, i_eq, i_lt, i_le, i_clamp, true_or, or_true, true_and, and_true, false_or, or_false, false_and, and_false]) <;> omega))) ?_
      refine ok_vlet fun u6 hy4 => ?_
      subst hy4
      refine ok_vg (vin_of (by first | omega | ((try simp (disch := decide) only [i_add, i_sub, i_mul, i_0, i_1, i_m1, i_m2, i_m3, i_m4, i_nI, i_eq, i_lt, i_le, i_clamp, true_or, or_true, true_and, and_true, false_or, or_false, false_and, and_false]) <;> omega)) (by first | omega | ((try simp (disch := decide) only [i_add, i_sub, i_mul, i_0, i_1, i_m1, i_m2, i_m3, i_m4, i_nI, i_eq, i_lt, i_le, i_clamp, true_or, or_true, true_and, and_true, false_or, or_false, false_and, and_false]) <;> omega))) ?_
      refine ok_vlet fun u8 hy5 => ?_
      subst hy5
      refine ok_vlet fun y9 hy6 => ?_
      try simp (disch := decide) only [i_add, i_sub, i_mul, i_0, i_1, i_m1, i_m2, i_m3, i_m4, i_nI, i_eq, i_lt, i_le, i_clamp, true_or, or_true, true_and, and_true, false_or, or_false, false_and, and_false] at hy6
      refine ok_some ?_
      refine ⟨?_, ?_, ?_⟩
      · first | omega | ((try simp (disch := decide) only [i_add, i_sub, i_mul, i_0, i_1, i_m1, i_m2, i_m3, i_m4, i_nI, i_eq, i_lt, i_le, i_clamp, true_or, or_true, true_and, and_true, false_or, or_false, false_and, and_false]) <;> omega)
      · first | omega | ((try simp (disch := decide) only [i_add, i_sub, i_mul, i_0, i_1, i_m1, i_m2, i_m3, i_m4, i_nI, i_eq, i_lt, i_le, i_clamp, true_or, or_true, true_and, and_true, false_or, or_false, false_and, and_false]) <;> omega)
      · first | omega | ((try simp (disch := decide) only [i_add, i_sub, i_mul, i_0, i_1, i_m1, i_m2, i_m3, i_m4, i_nI, i_eq, i_lt, i_le, i_clamp, true_or, or_true, true_and, and_true, false_or, or_false, false_and, and_false]) <;> omega)
    · try simp (disch := decide) only [i_add, i_sub, i_mul, i_0, i_1, i_m1, i_m2, i_m3, i_m4, i_nI, i_eq, i_lt, i_le, i_clamp, true_or, or_true, true_and, and_true, false_or, or_false, false_and, and_false] at h2
      refine ok_some ?_
      refine ⟨?_, ?_, ?_⟩
      · first | omega | ((try simp (disch := decide) only [i_add, i_sub, i_mul, i_0, i_1, i_m1, i_m2, i_m3, i_m4, i_nI, i_eq, i_lt, i_le, i_clamp, true_or, or_true, true_and, and_true, false_or, or_false, false_and, and_false]) <;> omega)
      · first | omega | ((try simp (disch := decide) only [i_add, i_sub, i_mul, i_0, i_1, i_m1, i_m2, i_m3, i_m4, i_nI, i_eq, i_lt, i_le, i_clamp, true_or, or_true, true_and, and_true, false_or, or_false, false_and, and_false]) <;> omega)
      · first | omega | ((try simp (disch := decide) only [i_add, i_sub, i_mul, i_0, i_1, i_m1, i_m2, i_m3, i_m4, i_nI, i_eq, i_lt, i_le, i_clamp, true_or, or_true, true_and, and_true, false_or, or_false, false_and, and_false]) <;> omega)
set_option maxHeartbeats 1000000 in
set_option maxRecDepth 20000 in
theorem sX0_addLikeness_ok  (f_likenesses : Nat → Int32) (f_likenessCount : Int32) (x1 : Int32) (g0 : 0 ≤ f_likenessCount.toInt) (g1 : f_likenessCount.toInt ≤ 6) : ok (sX0_addLikeness f_likenesses f_likenessCount x1) (fun z => 0 ≤ z.2.2.toInt ∧ z.2.2.toInt ≤ 6 ∧ (z.1.toInt = 0 ∨ z.1.toInt = 1)) := by
  unfold sX0_addLikeness
  try simp (disch := decide) only [i_add, i_sub, i_mul, i_0, i_1, i_m1, i_m2, i_m3, i_m4, i_nI, i_eq, i_lt, i_le, i_clamp, true_or, or_true, true_and, and_true, false_or, or_false, false_and, and_false] at g0
  try simp (disch := decide) only [i_add, i_sub, i_mul, i_0, i_1, i_m1, i_m2, i_m3, i_m4, i_nI, i_eq, i_lt, i_le, i_clamp, true_or, or_true, true_and, and_true, false_or, or_false, false_and, and_false] at g1
  refine ok_vi (fun h1 => ?_) (fun h1 => ?_)
  · try simp (disch := decide) only [i_add, i_sub, i_mul, i_0, i_1, i_m1, i_m2, i_m3, i_m4, i_nI, i_eq, i_lt, i_le, i_clamp, true_or, or_true, true_and, and_true, false_or, or_false, false_and, and_false] at h1
    refine ok_some ?_
    refine ⟨?_, ?_, ?_⟩
    · first | omega | ((try simp (disch := decide) only [i_add, i_sub, i_mul, i_0, i_1, i_m1, i_m2, i_m3, i_m4, i_nI, i_eq, i_lt, i_le, i_clamp, true_or, or_true, true_and, and_true, false_or, or_false, false_and, and_false]) <;> omega)
    · first | omega | ((try simp (disch := decide) only [i_add, i_sub, i_mul, i_0, i_1, i_m1, i_m2, i_m3, i_m4, i_nI, i_eq, i_lt, i_le, i_clamp, true_or, or_true, true_and, and_true, false_or, or_false, false_and, and_false]) <;> omega)
    · first | omega | ((try simp (disch := decide) only [i_add, i_sub, i_mul, i_0, i_1, i_m1, i_m2, i_m3, i_m4, i_nI, i_eq, i_lt, i_le, i_clamp, true_or, or_true, true_and, and_true, false_or, or_false, false_and, and_false]) <;> omega)
  · try simp (disch := decide) only [i_add, i_sub, i_mul, i_0, i_1, i_m1, i_m2, i_m3, i_m4, i_nI, i_eq, i_lt, i_le, i_clamp, true_or, or_true, true_and, and_true, false_or, or_false, false_and, and_false] at h1
    refine ok_vi (fun h2 => ?_) (fun h2 => ?_)
    · try simp (disch := decide) only [i_add, i_sub, i_mul, i_0, i_1, i_m1, i_m2, i_m3, i_m4, i_nI, i_eq, i_lt, i_le, i_clamp, true_or, or_true, true_and, and_true, false_or, or_false, false_and, and_false] at h2
      refine ok_vg (vin_of (by first | omega | ((try simp (disch := decide) only [i_add, i_sub, i_mul, i_0, i_1, i_m1, i_m2, i_m3, i_m4, i_nI, i_eq, i_lt, i_le, i_clamp, true_or, or_true, true_and, and_true, false_or, or_false, false_and, and_false]) <;> omega)) (by first | omega | ((try simp (disch := decide) only [i_add, i_sub, i_mul, i_0, i_1, i_m1, i_m2, i_m3, i_m4, i_nI, i_eq, i_lt, i_le, i_clamp, true_or, or_true, true_and, and_true, false_or, or_false, false_and, and_false]) <;> omega))) ?_
      refine ok_vlet fun u4 hy3 => ?_
      subst hy3
      refine ok_vlet fun y5 hy4 => ?_
      try simp (disch := decide) only [i_add, i_sub, i_mul, i_0, i_1, i_m1, i_m2, i_m3, i_m4, i_nI, i_eq, i_lt, i_le, i_clamp, true_or, or_true, true_and, and_true, false_or, or_false, false_and, and_false] at hy4
      refine ok_some ?_
      refine ⟨?_, ?_, ?_⟩
      · first | omega | ((try simp (disch := decide) only [i_add, i_sub, i_mul, i_0, i_1, i_m1, i_m2, i_m3, i_m4, i_nI, i_eq, i_lt, i_le, i_clamp, true_or, or_true, true_and, and_true, false_or, or_false, false_and, and_false]) <;> omega)
      · first | omega | ((try simp (disch := decide) only [i_add, i_sub, i_mul, i_0, i_1, i_m1, i_m2, i_m3, i_m4, i_nI, i_eq, i_lt, i_le, i_clamp, true_or, or_true, true_and, and_true, false_or, or_false, false_and, and_false]) <;> omega)
      · first | omega | ((try simp (disch := decide) only [i_add, i_sub, i_mul, i_0, i_1, i_m1, i_m2, i_m3, i_m4, i_nI, i_eq, i_lt, i_le, i_clamp, true_or, or_true, true_and, and_true, false_or, or_false, false_and, and_false]) <;> omega)
    · try simp (disch := decide) only [i_add, i_sub, i_mul, i_0, i_1, i_m1, i_m2, i_m3, i_m4, i_nI, i_eq, i_lt, i_le, i_clamp, true_or, or_true, true_and, and_true, false_or, or_false, false_and, and_false] at h2
      refine ok_some ?_
      refine ⟨?_, ?_, ?_⟩
      · first | omega | ((try simp (disch := decide) only [i_add, i_sub, i_mul, i_0, i_1, i_m1, i_m2, i_m3, i_m4, i_nI, i_eq, i_lt, i_le, i_clamp, true_or, or_true, true_and, and_true, false_or, or_false, false_and, and_false]) <;> omega)
      · first | omega | ((try simp (disch := decide) only [i_add, i_sub, i_mul, i_0, i_1, i_m1, i_m2, i_m3, i_m4, i_nI, i_eq, i_lt, i_le, i_clamp, true_or, or_true, true_and, and_true, false_or, or_false, false_and, and_false]) <;> omega)
      · first | omega | ((try simp (disch := decide) only [i_add, i_sub, i_mul, i_0, i_1, i_m1, i_m2, i_m3, i_m4, i_nI, i_eq, i_lt, i_le, i_clamp, true_or, or_true, true_and, and_true, false_or, or_false, false_and, and_false]) <;> omega)
set_option maxHeartbeats 1000000 in
set_option maxRecDepth 20000 in
theorem sX0_addActor_ok  (f_actorCount : Int32) (g0 : 0 ≤ f_actorCount.toInt) (g1 : f_actorCount.toInt ≤ 5) : ok (sX0_addActor f_actorCount) (fun z => 0 ≤ z.2.toInt ∧ z.2.toInt ≤ 5 ∧ (z.1.toInt = 0 ∨ z.1.toInt = 1 ∧ 1 ≤ z.2.toInt)) := by
  unfold sX0_addActor
  try simp (disch := decide) only [i_add, i_sub, i_mul, i_0, i_1, i_m1, i_m2, i_m3, i_m4, i_nI, i_eq, i_lt, i_le, i_clamp, true_or, or_true, true_and, and_true, false_or, or_false, false_and, and_false] at g0
  try simp (disch := decide) only [i_add, i_sub, i_mul, i_0, i_1, i_m1, i_m2, i_m3, i_m4, i_nI, i_eq, i_lt, i_le, i_clamp, true_or, or_true, true_and, and_true, false_or, or_false, false_and, and_false] at g1
  refine ok_vi (fun h1 => ?_) (fun h1 => ?_)
  · try simp (disch := decide) only [i_add, i_sub, i_mul, i_0, i_1, i_m1, i_m2, i_m3, i_m4, i_nI, i_eq, i_lt, i_le, i_clamp, true_or, or_true, true_and, and_true, false_or, or_false, false_and, and_false] at h1
    refine ok_vlet fun y2 hy2 => ?_
    try simp (disch := decide) only [i_add, i_sub, i_mul, i_0, i_1, i_m1, i_m2, i_m3, i_m4, i_nI, i_eq, i_lt, i_le, i_clamp, true_or, or_true, true_and, and_true, false_or, or_false, false_and, and_false] at hy2
    refine ok_some ?_
    refine ⟨?_, ?_, ?_⟩
    · first | omega | ((try simp (disch := decide) only [i_add, i_sub, i_mul, i_0, i_1, i_m1, i_m2, i_m3, i_m4, i_nI, i_eq, i_lt, i_le, i_clamp, true_or, or_true, true_and, and_true, false_or, or_false, false_and, and_false]) <;> omega)
    · first | omega | ((try simp (disch := decide) only [i_add, i_sub, i_mul, i_0, i_1, i_m1, i_m2, i_m3, i_m4, i_nI, i_eq, i_lt, i_le, i_clamp, true_or, or_true, true_and, and_true, false_or, or_false, false_and, and_false]) <;> omega)
    · first | omega | ((try simp (disch := decide) only [i_add, i_sub, i_mul, i_0, i_1, i_m1, i_m2, i_m3, i_m4, i_nI, i_eq, i_lt, i_le, i_clamp, true_or, or_true, true_and, and_true, false_or, or_false, false_and, and_false]) <;> omega)
  · try simp (disch := decide) only [i_add, i_sub, i_mul, i_0, i_1, i_m1, i_m2, i_m3, i_m4, i_nI, i_eq, i_lt, i_le, i_clamp, true_or, or_true, true_and, and_true, false_or, or_false, false_and, and_false] at h1
    refine ok_some ?_
    refine ⟨?_, ?_, ?_⟩
    · first | omega | ((try simp (disch := decide) only [i_add, i_sub, i_mul, i_0, i_1, i_m1, i_m2, i_m3, i_m4, i_nI, i_eq, i_lt, i_le, i_clamp, true_or, or_true, true_and, and_true, false_or, or_false, false_and, and_false]) <;> omega)
    · first | omega | ((try simp (disch := decide) only [i_add, i_sub, i_mul, i_0, i_1, i_m1, i_m2, i_m3, i_m4, i_nI, i_eq, i_lt, i_le, i_clamp, true_or, or_true, true_and, and_true, false_or, or_false, false_and, and_false]) <;> omega)
    · first | omega | ((try simp (disch := decide) only [i_add, i_sub, i_mul, i_0, i_1, i_m1, i_m2, i_m3, i_m4, i_nI, i_eq, i_lt, i_le, i_clamp, true_or, or_true, true_and, and_true, false_or, or_false, false_and, and_false]) <;> omega)
set_option maxHeartbeats 1000000 in
set_option maxRecDepth 20000 in
theorem sX0_forbid_ok  (f_forbiddenBits : Int32) (x1 : Int32)  : ok (sX0_forbid f_forbiddenBits x1) (fun _ => True) := by
  unfold sX0_forbid
  refine ok_vlet fun y1 hy1 => ?_
  try simp (disch := decide) only [i_add, i_sub, i_mul, i_0, i_1, i_m1, i_m2, i_m3, i_m4, i_nI, i_eq, i_lt, i_le, i_clamp, true_or, or_true, true_and, and_true, false_or, or_false, false_and, and_false] at hy1
  exact ok_some trivial
set_option maxHeartbeats 1000000 in
set_option maxRecDepth 20000 in
theorem sX0_setHabit_ok  (f_habitTold : Int32) (x1 : Int32)  : ok (sX0_setHabit f_habitTold x1) (fun _ => True) := by
  unfold sX0_setHabit
  exact ok_some trivial
set_option maxHeartbeats 1000000 in
set_option maxRecDepth 20000 in
theorem sX0_setPrice_ok  (f_priceTold : Int32) (x1 : Int32)  : ok (sX0_setPrice f_priceTold x1) (fun _ => True) := by
  unfold sX0_setPrice
  exact ok_some trivial
set_option maxHeartbeats 1000000 in
set_option maxRecDepth 20000 in
theorem sX0_words_ok  (f_wordCount : Int32)  : ok (sX0_words f_wordCount) (fun z => z.toInt = f_wordCount.toInt) := by
  unfold sX0_words
  refine ok_some ?_
  · first | omega | ((try simp (disch := decide) only [i_add, i_sub, i_mul, i_0, i_1, i_m1, i_m2, i_m3, i_m4, i_nI, i_eq, i_lt, i_le, i_clamp, true_or, or_true, true_and, and_true, false_or, or_false, false_and, and_false]) <;> omega)
set_option maxHeartbeats 1000000 in
set_option maxRecDepth 20000 in
theorem sX0_signs_ok  (f_likenessCount : Int32)  : ok (sX0_signs f_likenessCount) (fun z => z.toInt = (9 + f_likenessCount.toInt + 2147483648) % 4294967296 - 2147483648) := by
  unfold sX0_signs
  refine ok_some ?_
  · first | omega | ((try simp (disch := decide) only [i_add, i_sub, i_mul, i_0, i_1, i_m1, i_m2, i_m3, i_m4, i_nI, i_eq, i_lt, i_le, i_clamp, true_or, or_true, true_and, and_true, false_or, or_false, false_and, and_false]) <;> omega)
set_option maxHeartbeats 1000000 in
set_option maxRecDepth 20000 in
theorem sX0_actors_ok  (f_actorCount : Int32)  : ok (sX0_actors f_actorCount) (fun z => z.toInt = f_actorCount.toInt) := by
  unfold sX0_actors
  refine ok_some ?_
  · first | omega | ((try simp (disch := decide) only [i_add, i_sub, i_mul, i_0, i_1, i_m1, i_m2, i_m3, i_m4, i_nI, i_eq, i_lt, i_le, i_clamp, true_or, or_true, true_and, and_true, false_or, or_false, false_and, and_false]) <;> omega)
set_option maxHeartbeats 1000000 in
set_option maxRecDepth 20000 in
theorem sX0_habit_ok  (f_habitTold : Int32)  : ok (sX0_habit f_habitTold) (fun _ => True) := by
  unfold sX0_habit
  exact ok_some trivial
set_option maxHeartbeats 1000000 in
set_option maxRecDepth 20000 in
theorem sX0_price_ok  (f_priceTold : Int32)  : ok (sX0_price f_priceTold) (fun _ => True) := by
  unfold sX0_price
  exact ok_some trivial
set_option maxHeartbeats 1000000 in
set_option maxRecDepth 20000 in
theorem sX0_isForbidden_ok  (f_forbiddenBits : Int32) (x1 : Int32)  : ok (sX0_isForbidden f_forbiddenBits x1) (fun _ => True) := by
  unfold sX0_isForbidden
  refine ok_vi (fun h1 => ?_) (fun h1 => ?_)
  · try simp (disch := decide) only [i_add, i_sub, i_mul, i_0, i_1, i_m1, i_m2, i_m3, i_m4, i_nI, i_eq, i_lt, i_le, i_clamp, true_or, or_true, true_and, and_true, false_or, or_false, false_and, and_false] at h1
    exact ok_some trivial
  · try simp (disch := decide) only [i_add, i_sub, i_mul, i_0, i_1, i_m1, i_m2, i_m3, i_m4, i_nI, i_eq, i_lt, i_le, i_clamp, true_or, or_true, true_and, and_true, false_or, or_false, false_and, and_false] at h1
    exact ok_some trivial
set_option maxHeartbeats 1000000 in
set_option maxRecDepth 20000 in
theorem sX0_commonOf_ok  (f_commons : Nat → Int32) (x1 : Int32)  : ok (sX0_commonOf f_commons x1) (fun _ => True) := by
  unfold sX0_commonOf
  refine ok_vi (fun h1 => ?_) (fun h1 => ?_)
  · try simp (disch := decide) only [i_add, i_sub, i_mul, i_0, i_1, i_m1, i_m2, i_m3, i_m4, i_nI, i_eq, i_lt, i_le, i_clamp, true_or, or_true, true_and, and_true, false_or, or_false, false_and, and_false] at h1
    exact ok_some trivial
  · try simp (disch := decide) only [i_add, i_sub, i_mul, i_0, i_1, i_m1, i_m2, i_m3, i_m4, i_nI, i_eq, i_lt, i_le, i_clamp, true_or, or_true, true_and, and_true, false_or, or_false, false_and, and_false] at h1
    refine ok_vi (fun h2 => ?_) (fun h2 => ?_)
    · try simp (disch := decide) only [i_add, i_sub, i_mul, i_0, i_1, i_m1, i_m2, i_m3, i_m4, i_nI, i_eq, i_lt, i_le, i_clamp, true_or, or_true, true_and, and_true, false_or, or_false, false_and, and_false] at h2
      exact ok_some trivial
    · try simp (disch := decide) only [i_add, i_sub, i_mul, i_0, i_1, i_m1, i_m2, i_m3, i_m4, i_nI, i_eq, i_lt, i_le, i_clamp, true_or, or_true, true_and, and_true, false_or, or_false, false_and, and_false] at h2
      refine ok_vg (vin_of (by first | omega | ((try simp (disch := decide) only [i_add, i_sub, i_mul, i_0, i_1, i_m1, i_m2, i_m3, i_m4, i_nI, i_eq, i_lt, i_le, i_clamp, true_or, or_true, true_and, and_true, false_or, or_false, false_and, and_false]) <;> omega)) (by first | omega | ((try simp (disch := decide) only [i_add, i_sub, i_mul, i_0, i_1, i_m1, i_m2, i_m3, i_m4, i_nI, i_eq, i_lt, i_le, i_clamp, true_or, or_true, true_and, and_true, false_or, or_false, false_and, and_false]) <;> omega))) ?_
      exact ok_some trivial
set_option maxHeartbeats 1000000 in
set_option maxRecDepth 20000 in
theorem sX0_lengthOf_ok  (f_lengths : Nat → Int32) (x1 : Int32)  : ok (sX0_lengthOf f_lengths x1) (fun _ => True) := by
  unfold sX0_lengthOf
  refine ok_vi (fun h1 => ?_) (fun h1 => ?_)
  · try simp (disch := decide) only [i_add, i_sub, i_mul, i_0, i_1, i_m1, i_m2, i_m3, i_m4, i_nI, i_eq, i_lt, i_le, i_clamp, true_or, or_true, true_and, and_true, false_or, or_false, false_and, and_false] at h1
    exact ok_some trivial
  · try simp (disch := decide) only [i_add, i_sub, i_mul, i_0, i_1, i_m1, i_m2, i_m3, i_m4, i_nI, i_eq, i_lt, i_le, i_clamp, true_or, or_true, true_and, and_true, false_or, or_false, false_and, and_false] at h1
    refine ok_vi (fun h2 => ?_) (fun h2 => ?_)
    · try simp (disch := decide) only [i_add, i_sub, i_mul, i_0, i_1, i_m1, i_m2, i_m3, i_m4, i_nI, i_eq, i_lt, i_le, i_clamp, true_or, or_true, true_and, and_true, false_or, or_false, false_and, and_false] at h2
      exact ok_some trivial
    · try simp (disch := decide) only [i_add, i_sub, i_mul, i_0, i_1, i_m1, i_m2, i_m3, i_m4, i_nI, i_eq, i_lt, i_le, i_clamp, true_or, or_true, true_and, and_true, false_or, or_false, false_and, and_false] at h2
      refine ok_vg (vin_of (by first | omega | ((try simp (disch := decide) only [i_add, i_sub, i_mul, i_0, i_1, i_m1, i_m2, i_m3, i_m4, i_nI, i_eq, i_lt, i_le, i_clamp, true_or, or_true, true_and, and_true, false_or, or_false, false_and, and_false]) <;> omega)) (by first | omega | ((try simp (disch := decide) only [i_add, i_sub, i_mul, i_0, i_1, i_m1, i_m2, i_m3, i_m4, i_nI, i_eq, i_lt, i_le, i_clamp, true_or, or_true, true_and, and_true, false_or, or_false, false_and, and_false]) <;> omega))) ?_
      exact ok_some trivial
set_option maxHeartbeats 1000000 in
set_option maxRecDepth 20000 in
theorem sX0_partsOf_ok  (f_parts : Nat → Int32) (x1 : Int32)  : ok (sX0_partsOf f_parts x1) (fun _ => True) := by
  unfold sX0_partsOf
  refine ok_vi (fun h1 => ?_) (fun h1 => ?_)
  · try simp (disch := decide) only [i_add, i_sub, i_mul, i_0, i_1, i_m1, i_m2, i_m3, i_m4, i_nI, i_eq, i_lt, i_le, i_clamp, true_or, or_true, true_and, and_true, false_or, or_false, false_and, and_false] at h1
    exact ok_some trivial
  · try simp (disch := decide) only [i_add, i_sub, i_mul, i_0, i_1, i_m1, i_m2, i_m3, i_m4, i_nI, i_eq, i_lt, i_le, i_clamp, true_or, or_true, true_and, and_true, false_or, or_false, false_and, and_false] at h1
    refine ok_vi (fun h2 => ?_) (fun h2 => ?_)
    · try simp (disch := decide) only [i_add, i_sub, i_mul, i_0, i_1, i_m1, i_m2, i_m3, i_m4, i_nI, i_eq, i_lt, i_le, i_clamp, true_or, or_true, true_and, and_true, false_or, or_false, false_and, and_false] at h2
      exact ok_some trivial
    · try simp (disch := decide) only [i_add, i_sub, i_mul, i_0, i_1, i_m1, i_m2, i_m3, i_m4, i_nI, i_eq, i_lt, i_le, i_clamp, true_or, or_true, true_and, and_true, false_or, or_false, false_and, and_false] at h2
      refine ok_vg (vin_of (by first | omega | ((try simp (disch := decide) only [i_add, i_sub, i_mul, i_0, i_1, i_m1, i_m2, i_m3, i_m4, i_nI, i_eq, i_lt, i_le, i_clamp, true_or, or_true, true_and, and_true, false_or, or_false, false_and, and_false]) <;> omega)) (by first | omega | ((try simp (disch := decide) only [i_add, i_sub, i_mul, i_0, i_1, i_m1, i_m2, i_m3, i_m4, i_nI, i_eq, i_lt, i_le, i_clamp, true_or, or_true, true_and, and_true, false_or, or_false, false_and, and_false]) <;> omega))) ?_
      exact ok_some trivial
set_option maxHeartbeats 1000000 in
set_option maxRecDepth 20000 in
theorem sX0_isIn_ok  (f_likenesses : Nat → Int32) (x1 : Int32) (x2 : Int32)  : ok (sX0_isIn f_likenesses x1 x2) (fun _ => True) := by
  unfold sX0_isIn
  refine ok_vi (fun h1 => ?_) (fun h1 => ?_)
  · try simp (disch := decide) only [i_add, i_sub, i_mul, i_0, i_1, i_m1, i_m2, i_m3, i_m4, i_nI, i_eq, i_lt, i_le, i_clamp, true_or, or_true, true_and, and_true, false_or, or_false, false_and, and_false] at h1
    exact ok_some trivial
  · try simp (disch := decide) only [i_add, i_sub, i_mul, i_0, i_1, i_m1, i_m2, i_m3, i_m4, i_nI, i_eq, i_lt, i_le, i_clamp, true_or, or_true, true_and, and_true, false_or, or_false, false_and, and_false] at h1
    refine ok_vi (fun h2 => ?_) (fun h2 => ?_)
    · try simp (disch := decide) only [i_add, i_sub, i_mul, i_0, i_1, i_m1, i_m2, i_m3, i_m4, i_nI, i_eq, i_lt, i_le, i_clamp, true_or, or_true, true_and, and_true, false_or, or_false, false_and, and_false] at h2
      exact ok_some trivial
    · try simp (disch := decide) only [i_add, i_sub, i_mul, i_0, i_1, i_m1, i_m2, i_m3, i_m4, i_nI, i_eq, i_lt, i_le, i_clamp, true_or, or_true, true_and, and_true, false_or, or_false, false_and, and_false] at h2
      refine ok_vg (vin_of (by first | omega | ((try simp (disch := decide) only [i_add, i_sub, i_mul, i_0, i_1, i_m1, i_m2, i_m3, i_m4, i_nI, i_eq, i_lt, i_le, i_clamp, true_or, or_true, true_and, and_true, false_or, or_false, false_and, and_false]) <;> omega)) (by first | omega | ((try simp (disch := decide) only [i_add, i_sub, i_mul, i_0, i_1, i_m1, i_m2, i_m3, i_m4, i_nI, i_eq, i_lt, i_le, i_clamp, true_or, or_true, true_and, and_true, false_or, or_false, false_and, and_false]) <;> omega))) ?_
      refine ok_vi (fun h3 => ?_) (fun h3 => ?_)
      · try simp (disch := decide) only [i_add, i_sub, i_mul, i_0, i_1, i_m1, i_m2, i_m3, i_m4, i_nI, i_eq, i_lt, i_le, i_clamp, true_or, or_true, true_and, and_true, false_or, or_false, false_and, and_false] at h3
        exact ok_some trivial
      · try simp (disch := decide) only [i_add, i_sub, i_mul, i_0, i_1, i_m1, i_m2, i_m3, i_m4, i_nI, i_eq, i_lt, i_le, i_clamp, true_or, or_true, true_and, and_true, false_or, or_false, false_and, and_false] at h3
        exact ok_some trivial
set_option maxHeartbeats 1000000 in
set_option maxRecDepth 20000 in
theorem LX0_likenessesOf_4_ok  (y_1 : Int32) (f_likenesses : Nat → Int32) (f_likenessCount : Int32) (g0 : f_likenessCount.toInt ≤ 6)  : ∀ (n : Nat) (y_2 : Int32) (y_3 : Int32) (i0 : 0 ≤ y_3.toInt) (i1 : y_3.toInt ≤ 6) (im : 6 - y_3.toInt < (n : Int)), ok (LX0_likenessesOf_4 y_1 f_likenesses f_likenessCount n y_2 y_3) (fun _ => True) := by
  try simp (disch := decide) only [i_add, i_sub, i_mul, i_0, i_1, i_m1, i_m2, i_m3, i_m4, i_nI, i_eq, i_lt, i_le, i_clamp, true_or, or_true, true_and, and_true, false_or, or_false, false_and, and_false] at g0
  intro n
  induction n with
  | zero =>
    intro y_2 y_3 i0 i1 im
    exfalso
    first | omega | ((try simp (disch := decide) only [i_add, i_sub, i_mul, i_0, i_1, i_m1, i_m2, i_m3, i_m4, i_nI, i_eq, i_lt, i_le, i_clamp, true_or, or_true, true_and, and_true, false_or, or_false, false_and, and_false]) <;> omega)
  | succ n ih =>
    intro y_2 y_3 i0 i1 im
    rw [LX0_likenessesOf_4]
    try simp (disch := decide) only [i_add, i_sub, i_mul, i_0, i_1, i_m1, i_m2, i_m3, i_m4, i_nI, i_eq, i_lt, i_le, i_clamp, true_or, or_true, true_and, and_true, false_or, or_false, false_and, and_false] at i0
    try simp (disch := decide) only [i_add, i_sub, i_mul, i_0, i_1, i_m1, i_m2, i_m3, i_m4, i_nI, i_eq, i_lt, i_le, i_clamp, true_or, or_true, true_and, and_true, false_or, or_false, false_and, and_false] at i1
    try simp (disch := decide) only [i_add, i_sub, i_mul, i_0, i_1, i_m1, i_m2, i_m3, i_m4, i_nI, i_eq, i_lt, i_le, i_clamp, true_or, or_true, true_and, and_true, false_or, or_false, false_and, and_false] at im
    refine ok_vi (fun h1 => ?_) (fun h1 => ?_)
    · try simp (disch := decide) only [i_add, i_sub, i_mul, i_0, i_1, i_m1, i_m2, i_m3, i_m4, i_nI, i_eq, i_lt, i_le, i_clamp, true_or, or_true, true_and, and_true, false_or, or_false, false_and, and_false] at h1
      exact ok_some trivial
    · try simp (disch := decide) only [i_add, i_sub, i_mul, i_0, i_1, i_m1, i_m2, i_m3, i_m4, i_nI, i_eq, i_lt, i_le, i_clamp, true_or, or_true, true_and, and_true, false_or, or_false, false_and, and_false] at h1
      refine ok_vb (sX0_isIn_ok  _ _ _ ) fun z2 _ => ?_
      refine ok_vi (fun h2 => ?_) (fun h2 => ?_)
      · try simp (disch := decide) only [i_add, i_sub, i_mul, i_0, i_1, i_m1, i_m2, i_m3, i_m4, i_nI, i_eq, i_lt, i_le, i_clamp, true_or, or_true, true_and, and_true, false_or, or_false, false_and, and_false] at h2
        refine ok_vlet fun y4 hy3 => ?_
        try simp (disch := decide) only [i_add, i_sub, i_mul, i_0, i_1, i_m1, i_m2, i_m3, i_m4, i_nI, i_eq, i_lt, i_le, i_clamp, true_or, or_true, true_and, and_true, false_or, or_false, false_and, and_false] at hy3
        exact ih _ _ (by first | omega | ((try simp (disch := decide) only [i_add, i_sub, i_mul, i_0, i_1, i_m1, i_m2, i_m3, i_m4, i_nI, i_eq, i_lt, i_le, i_clamp, true_or, or_true, true_and, and_true, false_or, or_false, false_and, and_false]) <;> omega)) (by first | omega | ((try simp (disch := decide) only [i_add, i_sub, i_mul, i_0, i_1, i_m1, i_m2, i_m3, i_m4, i_nI, i_eq, i_lt, i_le, i_clamp, true_or, or_true, true_and, and_true, false_or, or_false, false_and, and_false]) <;> omega)) (by first | omega | ((try simp (disch := decide) only [i_add, i_sub, i_mul, i_0, i_1, i_m1, i_m2, i_m3, i_m4, i_nI, i_eq, i_lt, i_le, i_clamp, true_or, or_true, true_and, and_true, false_or, or_false, false_and, and_false]) <;> omega))
      · try simp (disch := decide) only [i_add, i_sub, i_mul, i_0, i_1, i_m1, i_m2, i_m3, i_m4, i_nI, i_eq, i_lt, i_le, i_clamp, true_or, or_true, true_and, and_true, false_or, or_false, false_and, and_false] at h2
        refine ok_vlet fun y5 hy4 => ?_
        try simp (disch := decide) only [i_add, i_sub, i_mul, i_0, i_1, i_m1, i_m2, i_m3, i_m4, i_nI, i_eq, i_lt, i_le, i_clamp, true_or, or_true, true_and, and_true, false_or, or_false, false_and, and_false] at hy4
        refine ok_vlet fun y6 hy5 => ?_
        try simp (disch := decide) only [i_add, i_sub, i_mul, i_0, i_1, i_m1, i_m2, i_m3, i_m4, i_nI, i_eq, i_lt, i_le, i_clamp, true_or, or_true, true_and, and_true, false_or, or_false, false_and, and_false] at hy5
        exact ih _ _ (by first | omega | ((try simp (disch := decide) only [i_add, i_sub, i_mul, i_0, i_1, i_m1, i_m2, i_m3, i_m4, i_nI, i_eq, i_lt, i_le, i_clamp, true_or, or_true, true_and, and_true, false_or, or_false, false_and, and_false]) <;> omega)) (by first | omega | ((try simp (disch := decide) only [i_add, i_sub, i_mul, i_0, i_1, i_m1, i_m2, i_m3, i_m4, i_nI, i_eq, i_lt, i_le, i_clamp, true_or, or_true, true_and, and_true, false_or, or_false, false_and, and_false]) <;> omega)) (by first | omega | ((try simp (disch := decide) only [i_add, i_sub, i_mul, i_0, i_1, i_m1, i_m2, i_m3, i_m4, i_nI, i_eq, i_lt, i_le, i_clamp, true_or, or_true, true_and, and_true, false_or, or_false, false_and, and_false]) <;> omega))
set_option maxHeartbeats 1000000 in
set_option maxRecDepth 20000 in
theorem sX0_likenessesOf_ok  (f_likenesses : Nat → Int32) (f_likenessCount : Int32) (x1 : Int32) (g0 : f_likenessCount.toInt ≤ 6) : ok (sX0_likenessesOf f_likenesses f_likenessCount x1) (fun _ => True) := by
  unfold sX0_likenessesOf
  try simp (disch := decide) only [i_add, i_sub, i_mul, i_0, i_1, i_m1, i_m2, i_m3, i_m4, i_nI, i_eq, i_lt, i_le, i_clamp, true_or, or_true, true_and, and_true, false_or, or_false, false_and, and_false] at g0
  exact LX0_likenessesOf_4_ok  _ _ _ (by first | omega | ((try simp (disch := decide) only [i_add, i_sub, i_mul, i_0, i_1, i_m1, i_m2, i_m3, i_m4, i_nI, i_eq, i_lt, i_le, i_clamp, true_or, or_true, true_and, and_true, false_or, or_false, false_and, and_false]) <;> omega)) _ _ _ (by first | omega | ((try simp (disch := decide) only [i_add, i_sub, i_mul, i_0, i_1, i_m1, i_m2, i_m3, i_m4, i_nI, i_eq, i_lt, i_le, i_clamp, true_or, or_true, true_and, and_true, false_or, or_false, false_and, and_false]) <;> omega)) (by first | omega | ((try simp (disch := decide) only [i_add, i_sub, i_mul, i_0, i_1, i_m1, i_m2, i_m3, i_m4, i_nI, i_eq, i_lt, i_le, i_clamp, true_or, or_true, true_and, and_true, false_or, or_false, false_and, and_false]) <;> omega)) (by rw [vF_int]; first | omega | ((try simp (disch := decide) only [i_add, i_sub, i_mul, i_0, i_1, i_m1, i_m2, i_m3, i_m4, i_nI, i_eq, i_lt, i_le, i_clamp, true_or, or_true, true_and, and_true, false_or, or_false, false_and, and_false]) <;> omega))
set_option maxHeartbeats 1000000 in
set_option maxRecDepth 20000 in
theorem sX0_byKind_ok  (x1 : Int32) (x2 : Int32)  : ok (sX0_byKind x1 x2) (fun _ => True) := by
  unfold sX0_byKind
  refine ok_vi (fun h1 => ?_) (fun h1 => ?_)
  · try simp (disch := decide) only [i_add, i_sub, i_mul, i_0, i_1, i_m1, i_m2, i_m3, i_m4, i_nI, i_eq, i_lt, i_le, i_clamp, true_or, or_true, true_and, and_true, false_or, or_false, false_and, and_false] at h1
    exact ok_some trivial
  · try simp (disch := decide) only [i_add, i_sub, i_mul, i_0, i_1, i_m1, i_m2, i_m3, i_m4, i_nI, i_eq, i_lt, i_le, i_clamp, true_or, or_true, true_and, and_true, false_or, or_false, false_and, and_false] at h1
    exact ok_some trivial
set_option maxHeartbeats 1000000 in
set_option maxRecDepth 20000 in
theorem sX0_factor_ok  (f_lengths : Nat → Int32) (f_parts : Nat → Int32) (f_likenesses : Nat → Int32) (x1 : Int32) (x2 : Int32) (x3 : Int32) (x4 : Int32)  : ok (sX0_factor f_lengths f_parts f_likenesses x1 x2 x3 x4) (fun _ => True) := by
  unfold sX0_factor
  refine ok_vi (fun h1 => ?_) (fun h1 => ?_)
  · try simp (disch := decide) only [i_add, i_sub, i_mul, i_0, i_1, i_m1, i_m2, i_m3, i_m4, i_nI, i_eq, i_lt, i_le, i_clamp, true_or, or_true, true_and, and_true, false_or, or_false, false_and, and_false] at h1
    refine ok_vi (fun h2 => ?_) (fun h2 => ?_)
    · try simp (disch := decide) only [i_add, i_sub, i_mul, i_0, i_1, i_m1, i_m2, i_m3, i_m4, i_nI, i_eq, i_lt, i_le, i_clamp, true_or, or_true, true_and, and_true, false_or, or_false, false_and, and_false] at h2
      refine ok_vb (sX0_isIn_ok  _ _ _ ) fun z3 _ => ?_
      refine ok_vi (fun h3 => ?_) (fun h3 => ?_)
      · try simp (disch := decide) only [i_add, i_sub, i_mul, i_0, i_1, i_m1, i_m2, i_m3, i_m4, i_nI, i_eq, i_lt, i_le, i_clamp, true_or, or_true, true_and, and_true, false_or, or_false, false_and, and_false] at h3
        exact ok_some trivial
      · try simp (disch := decide) only [i_add, i_sub, i_mul, i_0, i_1, i_m1, i_m2, i_m3, i_m4, i_nI, i_eq, i_lt, i_le, i_clamp, true_or, or_true, true_and, and_true, false_or, or_false, false_and, and_false] at h3
        refine ok_vlet fun y5 hy4 => ?_
        try simp (disch := decide) only [i_add, i_sub, i_mul, i_0, i_1, i_m1, i_m2, i_m3, i_m4, i_nI, i_eq, i_lt, i_le, i_clamp, true_or, or_true, true_and, and_true, false_or, or_false, false_and, and_false] at hy4
        refine ok_vi (fun h5 => ?_) (fun h5 => ?_)
        · try simp (disch := decide) only [i_add, i_sub, i_mul, i_0, i_1, i_m1, i_m2, i_m3, i_m4, i_nI, i_eq, i_lt, i_le, i_clamp, true_or, or_true, true_and, and_true, false_or, or_false, false_and, and_false] at h5
          exact ok_some trivial
        · try simp (disch := decide) only [i_add, i_sub, i_mul, i_0, i_1, i_m1, i_m2, i_m3, i_m4, i_nI, i_eq, i_lt, i_le, i_clamp, true_or, or_true, true_and, and_true, false_or, or_false, false_and, and_false] at h5
          refine ok_vb (sX0_byKind_ok  _ _ ) fun z7 _ => ?_
          exact ok_some trivial
    · try simp (disch := decide) only [i_add, i_sub, i_mul, i_0, i_1, i_m1, i_m2, i_m3, i_m4, i_nI, i_eq, i_lt, i_le, i_clamp, true_or, or_true, true_and, and_true, false_or, or_false, false_and, and_false] at h2
      refine ok_vb (sX0_lengthOf_ok  _ _ ) fun z8 _ => ?_
      refine ok_vi (fun h6 => ?_) (fun h6 => ?_)
      · try simp (disch := decide) only [i_add, i_sub, i_mul, i_0, i_1, i_m1, i_m2, i_m3, i_m4, i_nI, i_eq, i_lt, i_le, i_clamp, true_or, or_true, true_and, and_true, false_or, or_false, false_and, and_false] at h6
        exact ok_some trivial
      · try simp (disch := decide) only [i_add, i_sub, i_mul, i_0, i_1, i_m1, i_m2, i_m3, i_m4, i_nI, i_eq, i_lt, i_le, i_clamp, true_or, or_true, true_and, and_true, false_or, or_false, false_and, and_false] at h6
        exact ok_some trivial
  · try simp (disch := decide) only [i_add, i_sub, i_mul, i_0, i_1, i_m1, i_m2, i_m3, i_m4, i_nI, i_eq, i_lt, i_le, i_clamp, true_or, or_true, true_and, and_true, false_or, or_false, false_and, and_false] at h1
    refine ok_vi (fun h7 => ?_) (fun h7 => ?_)
    · try simp (disch := decide) only [i_add, i_sub, i_mul, i_0, i_1, i_m1, i_m2, i_m3, i_m4, i_nI, i_eq, i_lt, i_le, i_clamp, true_or, or_true, true_and, and_true, false_or, or_false, false_and, and_false] at h7
      refine ok_vlet fun y14 hy8 => ?_
      try simp (disch := decide) only [i_add, i_sub, i_mul, i_0, i_1, i_m1, i_m2, i_m3, i_m4, i_nI, i_eq, i_lt, i_le, i_clamp, true_or, or_true, true_and, and_true, false_or, or_false, false_and, and_false] at hy8
      refine ok_vb (sX0_partsOf_ok  _ _ ) fun z15 _ => ?_
      refine ok_vi (fun h9 => ?_) (fun h9 => ?_)
      · try simp (disch := decide) only [i_add, i_sub, i_mul, i_0, i_1, i_m1, i_m2, i_m3, i_m4, i_nI, i_eq, i_lt, i_le, i_clamp, true_or, or_true, true_and, and_true, false_or, or_false, false_and, and_false] at h9
        refine ok_vb (sX0_byKind_ok  _ _ ) fun z17 _ => ?_
        exact ok_some trivial
      · try simp (disch := decide) only [i_add, i_sub, i_mul, i_0, i_1, i_m1, i_m2, i_m3, i_m4, i_nI, i_eq, i_lt, i_le, i_clamp, true_or, or_true, true_and, and_true, false_or, or_false, false_and, and_false] at h9
        exact ok_some trivial
    · try simp (disch := decide) only [i_add, i_sub, i_mul, i_0, i_1, i_m1, i_m2, i_m3, i_m4, i_nI, i_eq, i_lt, i_le, i_clamp, true_or, or_true, true_and, and_true, false_or, or_false, false_and, and_false] at h7
      refine ok_vb (sX0_partsOf_ok  _ _ ) fun z11 _ => ?_
      refine ok_vi (fun h10 => ?_) (fun h10 => ?_)
      · try simp (disch := decide) only [i_add, i_sub, i_mul, i_0, i_1, i_m1, i_m2, i_m3, i_m4, i_nI, i_eq, i_lt, i_le, i_clamp, true_or, or_true, true_and, and_true, false_or, or_false, false_and, and_false] at h10
        refine ok_vb (sX0_byKind_ok  _ _ ) fun z13 _ => ?_
        exact ok_some trivial
      · try simp (disch := decide) only [i_add, i_sub, i_mul, i_0, i_1, i_m1, i_m2, i_m3, i_m4, i_nI, i_eq, i_lt, i_le, i_clamp, true_or, or_true, true_and, and_true, false_or, or_false, false_and, and_false] at h10
        exact ok_some trivial
set_option maxHeartbeats 1000000 in
set_option maxRecDepth 20000 in
theorem LX0_weightOf_26_ok  (y_2 : Int32) (y_3 : Int32) (y_4 : Int32) (y_5 : Int32) (f_lengths : Nat → Int32) (f_parts : Nat → Int32) (f_likenesses : Nat → Int32) (f_p1_cells : Nat → Int32)   : ∀ (n : Nat) (y_6 : Int32) (y_7 : Int32) (i0 : 0 ≤ y_7.toInt) (i1 : y_7.toInt ≤ 5) (im : 5 - y_7.toInt < (n : Int)), ok (LX0_weightOf_26 y_2 y_3 y_4 y_5 f_lengths f_parts f_likenesses f_p1_cells n y_6 y_7) (fun _ => True) := by
  intro n
  induction n with
  | zero =>
    intro y_6 y_7 i0 i1 im
    exfalso
    first | omega | ((try simp (disch := decide) only [i_add, i_sub, i_mul, i_0, i_1, i_m1, i_m2, i_m3, i_m4, i_nI, i_eq, i_lt, i_le, i_clamp, true_or, or_true, true_and, and_true, false_or, or_false, false_and, and_false]) <;> omega)
  | succ n ih =>
    intro y_6 y_7 i0 i1 im
    rw [LX0_weightOf_26]
    try simp (disch := decide) only [i_add, i_sub, i_mul, i_0, i_1, i_m1, i_m2, i_m3, i_m4, i_nI, i_eq, i_lt, i_le, i_clamp, true_or, or_true, true_and, and_true, false_or, or_false, false_and, and_false] at i0
    try simp (disch := decide) only [i_add, i_sub, i_mul, i_0, i_1, i_m1, i_m2, i_m3, i_m4, i_nI, i_eq, i_lt, i_le, i_clamp, true_or, or_true, true_and, and_true, false_or, or_false, false_and, and_false] at i1
    try simp (disch := decide) only [i_add, i_sub, i_mul, i_0, i_1, i_m1, i_m2, i_m3, i_m4, i_nI, i_eq, i_lt, i_le, i_clamp, true_or, or_true, true_and, and_true, false_or, or_false, false_and, and_false] at im
    refine ok_vb (sX4_cell_ok  _ _ _ ) fun z1 _ => ?_
    refine ok_vi (fun h1 => ?_) (fun h1 => ?_)
    · try simp (disch := decide) only [i_add, i_sub, i_mul, i_0, i_1, i_m1, i_m2, i_m3, i_m4, i_nI, i_eq, i_lt, i_le, i_clamp, true_or, or_true, true_and, and_true, false_or, or_false, false_and, and_false] at h1
      exact ok_some trivial
    · try simp (disch := decide) only [i_add, i_sub, i_mul, i_0, i_1, i_m1, i_m2, i_m3, i_m4, i_nI, i_eq, i_lt, i_le, i_clamp, true_or, or_true, true_and, and_true, false_or, or_false, false_and, and_false] at h1
      refine ok_vi (fun h2 => ?_) (fun h2 => ?_)
      · try simp (disch := decide) only [i_add, i_sub, i_mul, i_0, i_1, i_m1, i_m2, i_m3, i_m4, i_nI, i_eq, i_lt, i_le, i_clamp, true_or, or_true, true_and, and_true, false_or, or_false, false_and, and_false] at h2
        exact ok_some trivial
      · try simp (disch := decide) only [i_add, i_sub, i_mul, i_0, i_1, i_m1, i_m2, i_m3, i_m4, i_nI, i_eq, i_lt, i_le, i_clamp, true_or, or_true, true_and, and_true, false_or, or_false, false_and, and_false] at h2
        refine ok_vi (fun h3 => ?_) (fun h3 => ?_)
        · try simp (disch := decide) only [i_add, i_sub, i_mul, i_0, i_1, i_m1, i_m2, i_m3, i_m4, i_nI, i_eq, i_lt, i_le, i_clamp, true_or, or_true, true_and, and_true, false_or, or_false, false_and, and_false] at h3
          refine ok_vb (sX4_cell_ok  _ _ _ ) fun z6 _ => ?_
          refine ok_vb (sX4_sign_ok  _ _ _ ) fun z7 _ => ?_
          refine ok_vb (sX0_factor_ok  _ _ _ _ _ _ _ ) fun z8 _ => ?_
          refine ok_vlet fun y9 hy4 => ?_
          try simp (disch := decide) only [i_add, i_sub, i_mul, i_0, i_1, i_m1, i_m2, i_m3, i_m4, i_nI, i_eq, i_lt, i_le, i_clamp, true_or, or_true, true_and, and_true, false_or, or_false, false_and, and_false] at hy4
          refine ok_vlet fun y10 hy5 => ?_
          try simp (disch := decide) only [i_add, i_sub, i_mul, i_0, i_1, i_m1, i_m2, i_m3, i_m4, i_nI, i_eq, i_lt, i_le, i_clamp, true_or, or_true, true_and, and_true, false_or, or_false, false_and, and_false] at hy5
          exact ih _ _ (by first | omega | ((try simp (disch := decide) only [i_add, i_sub, i_mul, i_0, i_1, i_m1, i_m2, i_m3, i_m4, i_nI, i_eq, i_lt, i_le, i_clamp, true_or, or_true, true_and, and_true, false_or, or_false, false_and, and_false]) <;> omega)) (by first | omega | ((try simp (disch := decide) only [i_add, i_sub, i_mul, i_0, i_1, i_m1, i_m2, i_m3, i_m4, i_nI, i_eq, i_lt, i_le, i_clamp, true_or, or_true, true_and, and_true, false_or, or_false, false_and, and_false]) <;> omega)) (by first | omega | ((try simp (disch := decide) only [i_add, i_sub, i_mul, i_0, i_1, i_m1, i_m2, i_m3, i_m4, i_nI, i_eq, i_lt, i_le, i_clamp, true_or, or_true, true_and, and_true, false_or, or_false, false_and, and_false]) <;> omega))
        · try simp (disch := decide) only [i_add, i_sub, i_mul, i_0, i_1, i_m1, i_m2, i_m3, i_m4, i_nI, i_eq, i_lt, i_le, i_clamp, true_or, or_true, true_and, and_true, false_or, or_false, false_and, and_false] at h3
          refine ok_vlet fun y5 hy6 => ?_
          try simp (disch := decide) only [i_add, i_sub, i_mul, i_0, i_1, i_m1, i_m2, i_m3, i_m4, i_nI, i_eq, i_lt, i_le, i_clamp, true_or, or_true, true_and, and_true, false_or, or_false, false_and, and_false] at hy6
          exact ih _ _ (by first | omega | ((try simp (disch := decide) only [i_add, i_sub, i_mul, i_0, i_1, i_m1, i_m2, i_m3, i_m4, i_nI, i_eq, i_lt, i_le, i_clamp, true_or, or_true, true_and, and_true, false_or, or_false, false_and, and_false]) <;> omega)) (by first | omega | ((try simp (disch := decide) only [i_add, i_sub, i_mul, i_0, i_1, i_m1, i_m2, i_m3, i_m4, i_nI, i_eq, i_lt, i_le, i_clamp, true_or, or_true, true_and, and_true, false_or, or_false, false_and, and_false]) <;> omega)) (by first | omega | ((try simp (disch := decide) only [i_add, i_sub, i_mul, i_0, i_1, i_m1, i_m2, i_m3, i_m4, i_nI, i_eq, i_lt, i_le, i_clamp, true_or, or_true, true_and, and_true, false_or, or_false, false_and, and_false]) <;> omega))
set_option maxHeartbeats 1000000 in
set_option maxRecDepth 20000 in
theorem sX0_weightOf_ok  (f_commons : Nat → Int32) (f_lengths : Nat → Int32) (f_parts : Nat → Int32) (f_likenesses : Nat → Int32) (f_p1_cells : Nat → Int32) (x2 : Int32) (x3 : Int32) (x4 : Int32) (x5 : Int32)  : ok (sX0_weightOf f_commons f_lengths f_parts f_likenesses f_p1_cells x2 x3 x4 x5) (fun _ => True) := by
  unfold sX0_weightOf
  refine ok_vb (sX4_cell_ok  _ _ _ ) fun z11 _ => ?_
  refine ok_vi (fun h1 => ?_) (fun h1 => ?_)
  · try simp (disch := decide) only [i_add, i_sub, i_mul, i_0, i_1, i_m1, i_m2, i_m3, i_m4, i_nI, i_eq, i_lt, i_le, i_clamp, true_or, or_true, true_and, and_true, false_or, or_false, false_and, and_false] at h1
    exact ok_some trivial
  · try simp (disch := decide) only [i_add, i_sub, i_mul, i_0, i_1, i_m1, i_m2, i_m3, i_m4, i_nI, i_eq, i_lt, i_le, i_clamp, true_or, or_true, true_and, and_true, false_or, or_false, false_and, and_false] at h1
    refine ok_vb (sX0_commonOf_ok  _ _ ) fun z13 _ => ?_
    exact LX0_weightOf_26_ok  _ _ _ _ _ _ _ _  _ _ _ (by first | omega | ((try simp (disch := decide) only [i_add, i_sub, i_mul, i_0, i_1, i_m1, i_m2, i_m3, i_m4, i_nI, i_eq, i_lt, i_le, i_clamp, true_or, or_true, true_and, and_true, false_or, or_false, false_and, and_false]) <;> omega)) (by first | omega | ((try simp (disch := decide) only [i_add, i_sub, i_mul, i_0, i_1, i_m1, i_m2, i_m3, i_m4, i_nI, i_eq, i_lt, i_le, i_clamp, true_or, or_true, true_and, and_true, false_or, or_false, false_and, and_false]) <;> omega)) (by rw [vF_int]; first | omega | ((try simp (disch := decide) only [i_add, i_sub, i_mul, i_0, i_1, i_m1, i_m2, i_m3, i_m4, i_nI, i_eq, i_lt, i_le, i_clamp, true_or, or_true, true_and, and_true, false_or, or_false, false_and, and_false]) <;> omega))
set_option maxHeartbeats 1000000 in
set_option maxRecDepth 20000 in
theorem LX0_heaviest_10_ok  (y_2 : Int32) (y_3 : Int32) (y_4 : Int32) (f_commons : Nat → Int32) (f_lengths : Nat → Int32) (f_parts : Nat → Int32) (f_likenesses : Nat → Int32) (f_wordCount : Int32) (f_p1_cells : Nat → Int32) (g0 : f_wordCount.toInt ≤ 8)  : ∀ (n : Nat) (y_5 : Int32) (y_6 : Int32) (y_7 : Int32) (i0 : 0 ≤ y_7.toInt) (i1 : y_7.toInt ≤ 8) (i2 : y_5.toInt = -4 ∨ 0 ≤ y_5.toInt ∧ y_5.toInt < 8) (im : 8 - y_7.toInt < (n : Int)), ok (LX0_heaviest_10 y_2 y_3 y_4 f_commons f_lengths f_parts f_likenesses f_wordCount f_p1_cells n y_5 y_6 y_7) (fun z => z.toInt = -4 ∨ 0 ≤ z.toInt ∧ z.toInt < 8) := by
  try simp (disch := decide) only [i_add, i_sub, i_mul, i_0, i_1, i_m1, i_m2, i_m3, i_m4, i_nI, i_eq, i_lt, i_le, i_clamp, true_or, or_true, true_and, and_true, false_or, or_false, false_and, and_false] at g0
  intro n
  induction n with
  | zero =>
    intro y_5 y_6 y_7 i0 i1 i2 im
    exfalso
    first | omega | ((try simp (disch := decide) only [i_add, i_sub, i_mul, i_0, i_1, i_m1, i_m2, i_m3, i_m4, i_nI, i_eq, i_lt, i_le, i_clamp, true_or, or_true, true_and, and_true, false_or, or_false, false_and, and_false]) <;> omega)
  | succ n ih =>
    intro y_5 y_6 y_7 i0 i1 i2 im
    rw [LX0_heaviest_10]
    try simp (disch := decide) only [i_add, i_sub, i_mul, i_0, i_1, i_m1, i_m2, i_m3, i_m4, i_nI, i_eq, i_lt, i_le, i_clamp, true_or, or_true, true_and, and_true, false_or, or_false, false_and, and_false] at i0
    try simp (disch := decide) only [i_add, i_sub, i_mul, i_0, i_1, i_m1, i_m2, i_m3, i_m4, i_nI, i_eq, i_lt, i_le, i_clamp, true_or, or_true, true_and, and_true, false_or, or_false, false_and, and_false] at i1
    try simp (disch := decide) only [i_add, i_sub, i_mul, i_0, i_1, i_m1, i_m2, i_m3, i_m4, i_nI, i_eq, i_lt, i_le, i_clamp, true_or, or_true, true_and, and_true, false_or, or_false, false_and, and_false] at i2
    try simp (disch := decide) only [i_add, i_sub, i_mul, i_0, i_1, i_m1, i_m2, i_m3, i_m4, i_nI, i_eq, i_lt, i_le, i_clamp, true_or, or_true, true_and, and_true, false_or, or_false, false_and, and_false] at im
    refine ok_vi (fun h1 => ?_) (fun h1 => ?_)
    · try simp (disch := decide) only [i_add, i_sub, i_mul, i_0, i_1, i_m1, i_m2, i_m3, i_m4, i_nI, i_eq, i_lt, i_le, i_clamp, true_or, or_true, true_and, and_true, false_or, or_false, false_and, and_false] at h1
      refine ok_some ?_
      · first | omega | ((try simp (disch := decide) only [i_add, i_sub, i_mul, i_0, i_1, i_m1, i_m2, i_m3, i_m4, i_nI, i_eq, i_lt, i_le, i_clamp, true_or, or_true, true_and, and_true, false_or, or_false, false_and, and_false]) <;> omega)
    · try simp (disch := decide) only [i_add, i_sub, i_mul, i_0, i_1, i_m1, i_m2, i_m3, i_m4, i_nI, i_eq, i_lt, i_le, i_clamp, true_or, or_true, true_and, and_true, false_or, or_false, false_and, and_false] at h1
      refine ok_vb (sX0_weightOf_ok  _ _ _ _ _ _ _ _ _ ) fun z2 _ => ?_
      refine ok_vi (fun h2 => ?_) (fun h2 => ?_)
      · try simp (disch := decide) only [i_add, i_sub, i_mul, i_0, i_1, i_m1, i_m2, i_m3, i_m4, i_nI, i_eq, i_lt, i_le, i_clamp, true_or, or_true, true_and, and_true, false_or, or_false, false_and, and_false] at h2
        refine ok_vlet fun y4 hy3 => ?_
        try simp (disch := decide) only [i_add, i_sub, i_mul, i_0, i_1, i_m1, i_m2, i_m3, i_m4, i_nI, i_eq, i_lt, i_le, i_clamp, true_or, or_true, true_and, and_true, false_or, or_false, false_and, and_false] at hy3
        exact ih _ _ _ (by first | omega | ((try simp (disch := decide) only [i_add, i_sub, i_mul, i_0, i_1, i_m1, i_m2, i_m3, i_m4, i_nI, i_eq, i_lt, i_le, i_clamp, true_or, or_true, true_and, and_true, false_or, or_false, false_and, and_false]) <;> omega)) (by first | omega | ((try simp (disch := decide) only [i_add, i_sub, i_mul, i_0, i_1, i_m1, i_m2, i_m3, i_m4, i_nI, i_eq, i_lt, i_le, i_clamp, true_or, or_true, true_and, and_true, false_or, or_false, false_and, and_false]) <;> omega)) (by first | omega | ((try simp (disch := decide) only [i_add, i_sub, i_mul, i_0, i_1, i_m1, i_m2, i_m3, i_m4, i_nI, i_eq, i_lt, i_le, i_clamp, true_or, or_true, true_and, and_true, false_or, or_false, false_and, and_false]) <;> omega)) (by first | omega | ((try simp (disch := decide) only [i_add, i_sub, i_mul, i_0, i_1, i_m1, i_m2, i_m3, i_m4, i_nI, i_eq, i_lt, i_le, i_clamp, true_or, or_true, true_and, and_true, false_or, or_false, false_and, and_false]) <;> omega))
      · try simp (disch := decide) only [i_add, i_sub, i_mul, i_0, i_1, i_m1, i_m2, i_m3, i_m4, i_nI, i_eq, i_lt, i_le, i_clamp, true_or, or_true, true_and, and_true, false_or, or_false, false_and, and_false] at h2
        refine ok_vlet fun y5 hy4 => ?_
        try simp (disch := decide) only [i_add, i_sub, i_mul, i_0, i_1, i_m1, i_m2, i_m3, i_m4, i_nI, i_eq, i_lt, i_le, i_clamp, true_or, or_true, true_and, and_true, false_or, or_false, false_and, and_false] at hy4
        exact ih _ _ _ (by first | omega | ((try simp (disch := decide) only [i_add, i_sub, i_mul, i_0, i_1, i_m1, i_m2, i_m3, i_m4, i_nI, i_eq, i_lt, i_le, i_clamp, true_or, or_true, true_and, and_true, false_or, or_false, false_and, and_false]) <;> omega)) (by first | omega | ((try simp (disch := decide) only [i_add, i_sub, i_mul, i_0, i_1, i_m1, i_m2, i_m3, i_m4, i_nI, i_eq, i_lt, i_le, i_clamp, true_or, or_true, true_and, and_true, false_or, or_false, false_and, and_false]) <;> omega)) (by first | omega | ((try simp (disch := decide) only [i_add, i_sub, i_mul, i_0, i_1, i_m1, i_m2, i_m3, i_m4, i_nI, i_eq, i_lt, i_le, i_clamp, true_or, or_true, true_and, and_true, false_or, or_false, false_and, and_false]) <;> omega)) (by first | omega | ((try simp (disch := decide) only [i_add, i_sub, i_mul, i_0, i_1, i_m1, i_m2, i_m3, i_m4, i_nI, i_eq, i_lt, i_le, i_clamp, true_or, or_true, true_and, and_true, false_or, or_false, false_and, and_false]) <;> omega))
set_option maxHeartbeats 1000000 in
set_option maxRecDepth 20000 in
theorem sX0_heaviest_ok  (f_commons : Nat → Int32) (f_lengths : Nat → Int32) (f_parts : Nat → Int32) (f_likenesses : Nat → Int32) (f_wordCount : Int32) (f_p1_cells : Nat → Int32) (x2 : Int32) (x3 : Int32) (x4 : Int32) (g0 : f_wordCount.toInt ≤ 8) : ok (sX0_heaviest f_commons f_lengths f_parts f_likenesses f_wordCount f_p1_cells x2 x3 x4) (fun z => z.toInt = -4 ∨ 0 ≤ z.toInt ∧ z.toInt < 8) := by
  unfold sX0_heaviest
  try simp (disch := decide) only [i_add, i_sub, i_mul, i_0, i_1, i_m1, i_m2, i_m3, i_m4, i_nI, i_eq, i_lt, i_le, i_clamp, true_or, or_true, true_and, and_true, false_or, or_false, false_and, and_false] at g0
  exact LX0_heaviest_10_ok  _ _ _ _ _ _ _ _ _ (by first | omega | ((try simp (disch := decide) only [i_add, i_sub, i_mul, i_0, i_1, i_m1, i_m2, i_m3, i_m4, i_nI, i_eq, i_lt, i_le, i_clamp, true_or, or_true, true_and, and_true, false_or, or_false, false_and, and_false]) <;> omega)) _ _ _ _ (by first | omega | ((try simp (disch := decide) only [i_add, i_sub, i_mul, i_0, i_1, i_m1, i_m2, i_m3, i_m4, i_nI, i_eq, i_lt, i_le, i_clamp, true_or, or_true, true_and, and_true, false_or, or_false, false_and, and_false]) <;> omega)) (by first | omega | ((try simp (disch := decide) only [i_add, i_sub, i_mul, i_0, i_1, i_m1, i_m2, i_m3, i_m4, i_nI, i_eq, i_lt, i_le, i_clamp, true_or, or_true, true_and, and_true, false_or, or_false, false_and, and_false]) <;> omega)) (by first | omega | ((try simp (disch := decide) only [i_add, i_sub, i_mul, i_0, i_1, i_m1, i_m2, i_m3, i_m4, i_nI, i_eq, i_lt, i_le, i_clamp, true_or, or_true, true_and, and_true, false_or, or_false, false_and, and_false]) <;> omega)) (by rw [vF_int]; first | omega | ((try simp (disch := decide) only [i_add, i_sub, i_mul, i_0, i_1, i_m1, i_m2, i_m3, i_m4, i_nI, i_eq, i_lt, i_le, i_clamp, true_or, or_true, true_and, and_true, false_or, or_false, false_and, and_false]) <;> omega))

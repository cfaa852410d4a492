/-! the reference plays: nothing out of its row, and what it keeps -/
/-- one row copied into another -/
def cpOKs (C : Nat → Int → Prop) (f : Nat → Int32) (a b n : Int) : Prop := ∀ k : Int, 0 ≤ k → k < n → C (b + k).toNat (f (a + k).toNat).toInt
theorem LX9_copies_3_ok (C : Nat → Int → Prop) (y_1 : Int32) (y_3 : Int32) (y_4 : Int32) (f_p1 : Nat → Int32) (n_p1 : Nat) (n_p3 : Nat) (g0 : 0 ≤ y_1.toInt) (g1 : 0 ≤ y_3.toInt) (g2 : y_1.toInt + y_4.toInt ≤ (n_p1 : Int)) (g3 : y_3.toInt + y_4.toInt ≤ (n_p3 : Int)) (g4 : y_1.toInt ≤ 1000) (g5 : y_3.toInt ≤ 1000) (g6 : y_4.toInt ≤ 400) (g7 : cpOKs C f_p1 y_1.toInt y_3.toInt y_4.toInt) : ∀ (n : Nat) (y_5 : Int32) (f_p3 : Nat → Int32) (i0 : 0 ≤ y_5.toInt) (i1 : y_5.toInt ≤ 400) (i2 : arrOK C f_p3) (im : 400 - y_5.toInt < (n : Int)), ok (LX9_copies_3 y_1 y_3 y_4 f_p1 n_p1 n_p3 n y_5 f_p3) (fun z => arrOK C z) := by
  intro n
  induction n with
  | zero =>
    intro y_5 f_p3 i0 i1 i2 im
    omega
  | succ n ih =>
    intro y_5 f_p3 i0 i1 i2 im
    rw [LX9_copies_3]
    refine ok_vi (fun h => ok_some i2) (fun h => ?_)
    rw [i_le] at h
    have e1 : (y_1 + y_5).toInt = y_1.toInt + y_5.toInt := by rw [i_add]; omega
    have e2 : (y_3 + y_5).toInt = y_3.toInt + y_5.toInt := by rw [i_add]; omega
    refine ok_vg (vin_of (by omega) (by omega)) ?_
    refine ok_vlet fun y3 h3 => ?_
    refine ok_vg (vin_of (by omega) (by omega)) ?_
    refine ok_vlet fun u5 h5 => ?_
    refine ok_vlet fun y6 h6 => ?_
    have e6 : y6.toInt = y_5.toInt + 1 := by rw [h6, i_add, i_nI _ (by decide)]; omega
    refine ih y6 u5 (by omega) (by omega) ?_ (by omega)
    rw [h5]
    refine arrOK_upd i2 ?_
    have hc := g7 y_5.toInt (by omega) (by omega)
    rw [e2, h3, i_clamp, e1]
    exact hc
set_option maxHeartbeats 1000000 in
set_option maxRecDepth 20000 in
theorem sX9_copies_ok (C : Nat → Int → Prop) (n_p1 : Nat) (n_p3 : Nat) (f_p1 : Nat → Int32) (f_p3 : Nat → Int32) (x2 : Int32) (x4 : Int32) (x5 : Int32) (g0 : 0 ≤ x2.toInt) (g1 : 0 ≤ x4.toInt) (g2 : x2.toInt + x5.toInt ≤ (n_p1 : Int)) (g3 : x4.toInt + x5.toInt ≤ (n_p3 : Int)) (g4 : x2.toInt ≤ 1000) (g5 : x4.toInt ≤ 1000) (g6 : x5.toInt ≤ 400) (g7 : cpOKs C f_p1 x2.toInt x4.toInt x5.toInt) (g8 : arrOK C f_p3) : ok (sX9_copies n_p1 n_p3 f_p1 f_p3 x2 x4 x5) (fun z => arrOK C z) := by
  unfold sX9_copies
  try simp (disch := decide) only [i_add, i_sub, i_mul, i_0, i_1, i_m1, i_m2, i_m3, i_m4, i_nI, i_eq, i_lt, i_le, i_clamp, true_or, or_true, true_and, and_true, false_or, or_false, false_and, and_false, i_l64, i_lN, l_eq, l_lt, l_le] at g0
  try simp (disch := decide) only [i_add, i_sub, i_mul, i_0, i_1, i_m1, i_m2, i_m3, i_m4, i_nI, i_eq, i_lt, i_le, i_clamp, true_or, or_true, true_and, and_true, false_or, or_false, false_and, and_false, i_l64, i_lN, l_eq, l_lt, l_le] at g1
  try simp (disch := decide) only [i_add, i_sub, i_mul, i_0, i_1, i_m1, i_m2, i_m3, i_m4, i_nI, i_eq, i_lt, i_le, i_clamp, true_or, or_true, true_and, and_true, false_or, or_false, false_and, and_false, i_l64, i_lN, l_eq, l_lt, l_le] at g2
  try simp (disch := decide) only [i_add, i_sub, i_mul, i_0, i_1, i_m1, i_m2, i_m3, i_m4, i_nI, i_eq, i_lt, i_le, i_clamp, true_or, or_true, true_and, and_true, false_or, or_false, false_and, and_false, i_l64, i_lN, l_eq, l_lt, l_le] at g3
  try simp (disch := decide) only [i_add, i_sub, i_mul, i_0, i_1, i_m1, i_m2, i_m3, i_m4, i_nI, i_eq, i_lt, i_le, i_clamp, true_or, or_true, true_and, and_true, false_or, or_false, false_and, and_false, i_l64, i_lN, l_eq, l_lt, l_le] at g4
  try simp (disch := decide) only [i_add, i_sub, i_mul, i_0, i_1, i_m1, i_m2, i_m3, i_m4, i_nI, i_eq, i_lt, i_le, i_clamp, true_or, or_true, true_and, and_true, false_or, or_false, false_and, and_false, i_l64, i_lN, l_eq, l_lt, l_le] at g5
  try simp (disch := decide) only [i_add, i_sub, i_mul, i_0, i_1, i_m1, i_m2, i_m3, i_m4, i_nI, i_eq, i_lt, i_le, i_clamp, true_or, or_true, true_and, and_true, false_or, or_false, false_and, and_false, i_l64, i_lN, l_eq, l_lt, l_le] at g6
  exact LX9_copies_3_ok C _ _ _ _ _ _ (by first | omega | ((try simp (disch := decide) only [i_add, i_sub, i_mul, i_0, i_1, i_m1, i_m2, i_m3, i_m4, i_nI, i_eq, i_lt, i_le, i_clamp, true_or, or_true, true_and, and_true, false_or, or_false, false_and, and_false, i_l64, i_lN, l_eq, l_lt, l_le]) <;> omega)) (by first | omega | ((try simp (disch := decide) only [i_add, i_sub, i_mul, i_0, i_1, i_m1, i_m2, i_m3, i_m4, i_nI, i_eq, i_lt, i_le, i_clamp, true_or, or_true, true_and, and_true, false_or, or_false, false_and, and_false, i_l64, i_lN, l_eq, l_lt, l_le]) <;> omega)) (by first | omega | ((try simp (disch := decide) only [i_add, i_sub, i_mul, i_0, i_1, i_m1, i_m2, i_m3, i_m4, i_nI, i_eq, i_lt, i_le, i_clamp, true_or, or_true, true_and, and_true, false_or, or_false, false_and, and_false, i_l64, i_lN, l_eq, l_lt, l_le]) <;> omega)) (by first | omega | ((try simp (disch := decide) only [i_add, i_sub, i_mul, i_0, i_1, i_m1, i_m2, i_m3, i_m4, i_nI, i_eq, i_lt, i_le, i_clamp, true_or, or_true, true_and, and_true, false_or, or_false, false_and, and_false, i_l64, i_lN, l_eq, l_lt, l_le]) <;> omega)) (by first | omega | ((try simp (disch := decide) only [i_add, i_sub, i_mul, i_0, i_1, i_m1, i_m2, i_m3, i_m4, i_nI, i_eq, i_lt, i_le, i_clamp, true_or, or_true, true_and, and_true, false_or, or_false, false_and, and_false, i_l64, i_lN, l_eq, l_lt, l_le]) <;> omega)) (by first | omega | ((try simp (disch := decide) only [i_add, i_sub, i_mul, i_0, i_1, i_m1, i_m2, i_m3, i_m4, i_nI, i_eq, i_lt, i_le, i_clamp, true_or, or_true, true_and, and_true, false_or, or_false, false_and, and_false, i_l64, i_lN, l_eq, l_lt, l_le]) <;> omega)) (by first | omega | ((try simp (disch := decide) only [i_add, i_sub, i_mul, i_0, i_1, i_m1, i_m2, i_m3, i_m4, i_nI, i_eq, i_lt, i_le, i_clamp, true_or, or_true, true_and, and_true, false_or, or_false, false_and, and_false, i_l64, i_lN, l_eq, l_lt, l_le]) <;> omega)) (by first | assumption) _ _ _ (by first | omega | ((try simp (disch := decide) only [i_add, i_sub, i_mul, i_0, i_1, i_m1, i_m2, i_m3, i_m4, i_nI, i_eq, i_lt, i_le, i_clamp, true_or, or_true, true_and, and_true, false_or, or_false, false_and, and_false, i_l64, i_lN, l_eq, l_lt, l_le]) <;> omega)) (by first | omega | ((try simp (disch := decide) only [i_add, i_sub, i_mul, i_0, i_1, i_m1, i_m2, i_m3, i_m4, i_nI, i_eq, i_lt, i_le, i_clamp, true_or, or_true, true_and, and_true, false_or, or_false, false_and, and_false, i_l64, i_lN, l_eq, l_lt, l_le]) <;> omega)) (by first | assumption) (by rw [vF_int]; first | omega | ((try simp (disch := decide) only [i_add, i_sub, i_mul, i_0, i_1, i_m1, i_m2, i_m3, i_m4, i_nI, i_eq, i_lt, i_le, i_clamp, true_or, or_true, true_and, and_true, false_or, or_false, false_and, and_false, i_l64, i_lN, l_eq, l_lt, l_le]) <;> omega))
set_option maxHeartbeats 1000000 in
set_option maxRecDepth 20000 in
theorem LX9_begins_23_ok  (f_post : Nat → Int32) (g0 : arrOK pstC f_post)  : ∀ (n : Nat) (y_1 : Int32) (f_now : (Nat → Int32)) (i0 : 0 ≤ y_1.toInt) (i1 : y_1.toInt ≤ 5) (i2 : arrOK nowC f_now) (im : 5 - y_1.toInt < (n : Int)), ok (LX9_begins_23 f_post n y_1 f_now) (fun z => arrOK nowC z.1 ∧ z.2.1.toInt = 0 ∧ z.2.2.1.toInt = 0 ∧ z.2.2.2.toInt = 0) := by
  intro n
  induction n with
  | zero =>
    intro y_1 f_now i0 i1 i2 im
    exfalso
    first | omega | ((try simp (disch := decide) only [i_add, i_sub, i_mul, i_0, i_1, i_m1, i_m2, i_m3, i_m4, i_nI, i_eq, i_lt, i_le, i_clamp, true_or, or_true, true_and, and_true, false_or, or_false, false_and, and_false, i_l64, i_lN, l_eq, l_lt, l_le]) <;> omega)
  | succ n ih =>
    intro y_1 f_now i0 i1 i2 im
    rw [LX9_begins_23]
    try simp (disch := decide) only [i_add, i_sub, i_mul, i_0, i_1, i_m1, i_m2, i_m3, i_m4, i_nI, i_eq, i_lt, i_le, i_clamp, true_or, or_true, true_and, and_true, false_or, or_false, false_and, and_false, i_l64, i_lN, l_eq, l_lt, l_le] at i0
    try simp (disch := decide) only [i_add, i_sub, i_mul, i_0, i_1, i_m1, i_m2, i_m3, i_m4, i_nI, i_eq, i_lt, i_le, i_clamp, true_or, or_true, true_and, and_true, false_or, or_false, false_and, and_false, i_l64, i_lN, l_eq, l_lt, l_le] at i1
    try simp (disch := decide) only [i_add, i_sub, i_mul, i_0, i_1, i_m1, i_m2, i_m3, i_m4, i_nI, i_eq, i_lt, i_le, i_clamp, true_or, or_true, true_and, and_true, false_or, or_false, false_and, and_false, i_l64, i_lN, l_eq, l_lt, l_le] at im
    have p1 := read_0 (post_read (show arrOK pstC f_post by assumption))
    try simp (disch := decide) only [i_add, i_sub, i_mul, i_0, i_1, i_m1, i_m2, i_m3, i_m4, i_nI, i_eq, i_lt, i_le, i_clamp, true_or, or_true, true_and, and_true, false_or, or_false, false_and, and_false, i_l64, i_lN, l_eq, l_lt, l_le] at p1
    have p2 := read_1 (post_read (show arrOK pstC f_post by assumption))
    try simp (disch := decide) only [i_add, i_sub, i_mul, i_0, i_1, i_m1, i_m2, i_m3, i_m4, i_nI, i_eq, i_lt, i_le, i_clamp, true_or, or_true, true_and, and_true, false_or, or_false, false_and, and_false, i_l64, i_lN, l_eq, l_lt, l_le] at p2
    have p3 := post_2 (show arrOK pstC f_post by assumption)
    try simp (disch := decide) only [i_add, i_sub, i_mul, i_0, i_1, i_m1, i_m2, i_m3, i_m4, i_nI, i_eq, i_lt, i_le, i_clamp, true_or, or_true, true_and, and_true, false_or, or_false, false_and, and_false, i_l64, i_lN, l_eq, l_lt, l_le] at p3
    refine ok_vi (fun h4 => ?_) (fun h4 => ?_)
    · try simp (disch := decide) only [i_add, i_sub, i_mul, i_0, i_1, i_m1, i_m2, i_m3, i_m4, i_nI, i_eq, i_lt, i_le, i_clamp, true_or, or_true, true_and, and_true, false_or, or_false, false_and, and_false, i_l64, i_lN, l_eq, l_lt, l_le] at h4
      refine ok_some ?_
      try dsimp only
      refine ⟨?_, ?_, ?_, ?_⟩
      · first | assumption
      · first | omega | ((try simp (disch := decide) only [i_add, i_sub, i_mul, i_0, i_1, i_m1, i_m2, i_m3, i_m4, i_nI, i_eq, i_lt, i_le, i_clamp, true_or, or_true, true_and, and_true, false_or, or_false, false_and, and_false, i_l64, i_lN, l_eq, l_lt, l_le]) <;> omega)
      · first | omega | ((try simp (disch := decide) only [i_add, i_sub, i_mul, i_0, i_1, i_m1, i_m2, i_m3, i_m4, i_nI, i_eq, i_lt, i_le, i_clamp, true_or, or_true, true_and, and_true, false_or, or_false, false_and, and_false, i_l64, i_lN, l_eq, l_lt, l_le]) <;> omega)
      · first | omega | ((try simp (disch := decide) only [i_add, i_sub, i_mul, i_0, i_1, i_m1, i_m2, i_m3, i_m4, i_nI, i_eq, i_lt, i_le, i_clamp, true_or, or_true, true_and, and_true, false_or, or_false, false_and, and_false, i_l64, i_lN, l_eq, l_lt, l_le]) <;> omega)
    · try simp (disch := decide) only [i_add, i_sub, i_mul, i_0, i_1, i_m1, i_m2, i_m3, i_m4, i_nI, i_eq, i_lt, i_le, i_clamp, true_or, or_true, true_and, and_true, false_or, or_false, false_and, and_false, i_l64, i_lN, l_eq, l_lt, l_le] at h4
      refine ok_vg (vin_of (by first | omega | ((try simp (disch := decide) only [i_add, i_sub, i_mul, i_0, i_1, i_m1, i_m2, i_m3, i_m4, i_nI, i_eq, i_lt, i_le, i_clamp, true_or, or_true, true_and, and_true, false_or, or_false, false_and, and_false, i_l64, i_lN, l_eq, l_lt, l_le]) <;> omega)) (by first | omega | ((try simp (disch := decide) only [i_add, i_sub, i_mul, i_0, i_1, i_m1, i_m2, i_m3, i_m4, i_nI, i_eq, i_lt, i_le, i_clamp, true_or, or_true, true_and, and_true, false_or, or_false, false_and, and_false, i_l64, i_lN, l_eq, l_lt, l_le]) <;> omega))) ?_
      try (have q5 := read_W (post_read (show arrOK pstC f_post by assumption)) y_1 (by first | omega | ((try simp (disch := decide) only [i_add, i_sub, i_mul, i_0, i_1, i_m1, i_m2, i_m3, i_m4, i_nI, i_eq, i_lt, i_le, i_clamp, true_or, or_true, true_and, and_true, false_or, or_false, false_and, and_false, i_l64, i_lN, l_eq, l_lt, l_le]) <;> omega)) (by first | omega | ((try simp (disch := decide) only [i_add, i_sub, i_mul, i_0, i_1, i_m1, i_m2, i_m3, i_m4, i_nI, i_eq, i_lt, i_le, i_clamp, true_or, or_true, true_and, and_true, false_or, or_false, false_and, and_false, i_l64, i_lN, l_eq, l_lt, l_le]) <;> omega)))
      try simp (disch := decide) only [i_add, i_sub, i_mul, i_0, i_1, i_m1, i_m2, i_m3, i_m4, i_nI, i_eq, i_lt, i_le, i_clamp, true_or, or_true, true_and, and_true, false_or, or_false, false_and, and_false, i_l64, i_lN, l_eq, l_lt, l_le] at q5
      refine ok_vlet fun y3 hy6 => ?_
      try simp (disch := decide) only [i_add, i_sub, i_mul, i_0, i_1, i_m1, i_m2, i_m3, i_m4, i_nI, i_eq, i_lt, i_le, i_clamp, true_or, or_true, true_and, and_true, false_or, or_false, false_and, and_false, i_l64, i_lN, l_eq, l_lt, l_le] at hy6
      refine ok_vg (vin_of (by first | omega | ((try simp (disch := decide) only [i_add, i_sub, i_mul, i_0, i_1, i_m1, i_m2, i_m3, i_m4, i_nI, i_eq, i_lt, i_le, i_clamp, true_or, or_true, true_and, and_true, false_or, or_false, false_and, and_false, i_l64, i_lN, l_eq, l_lt, l_le]) <;> omega)) (by first | omega | ((try simp (disch := decide) only [i_add, i_sub, i_mul, i_0, i_1, i_m1, i_m2, i_m3, i_m4, i_nI, i_eq, i_lt, i_le, i_clamp, true_or, or_true, true_and, and_true, false_or, or_false, false_and, and_false, i_l64, i_lN, l_eq, l_lt, l_le]) <;> omega))) ?_
      try (have q7 := now_W (show arrOK nowC f_now by assumption) y_1 (by first | omega | ((try simp (disch := decide) only [i_add, i_sub, i_mul, i_0, i_1, i_m1, i_m2, i_m3, i_m4, i_nI, i_eq, i_lt, i_le, i_clamp, true_or, or_true, true_and, and_true, false_or, or_false, false_and, and_false, i_l64, i_lN, l_eq, l_lt, l_le]) <;> omega)) (by first | omega | ((try simp (disch := decide) only [i_add, i_sub, i_mul, i_0, i_1, i_m1, i_m2, i_m3, i_m4, i_nI, i_eq, i_lt, i_le, i_clamp, true_or, or_true, true_and, and_true, false_or, or_false, false_and, and_false, i_l64, i_lN, l_eq, l_lt, l_le]) <;> omega)))
      try simp (disch := decide) only [i_add, i_sub, i_mul, i_0, i_1, i_m1, i_m2, i_m3, i_m4, i_nI, i_eq, i_lt, i_le, i_clamp, true_or, or_true, true_and, and_true, false_or, or_false, false_and, and_false, i_l64, i_lN, l_eq, l_lt, l_le] at q7
      refine ok_vlet fun u5 hy8 => ?_
      have a_u5 : arrOK nowC u5 := by rw [hy8]; first | exact now_uW (show arrOK nowC _ by assumption) (by first | omega | ((try simp (disch := decide) only [i_add, i_sub, i_mul, i_0, i_1, i_m1, i_m2, i_m3, i_m4, i_nI, i_eq, i_lt, i_le, i_clamp, true_or, or_true, true_and, and_true, false_or, or_false, false_and, and_false, i_l64, i_lN, l_eq, l_lt, l_le]) <;> omega)) (by first | omega | ((try simp (disch := decide) only [i_add, i_sub, i_mul, i_0, i_1, i_m1, i_m2, i_m3, i_m4, i_nI, i_eq, i_lt, i_le, i_clamp, true_or, or_true, true_and, and_true, false_or, or_false, false_and, and_false, i_l64, i_lN, l_eq, l_lt, l_le]) <;> omega)) (by first | omega | ((try simp (disch := decide) only [i_add, i_sub, i_mul, i_0, i_1, i_m1, i_m2, i_m3, i_m4, i_nI, i_eq, i_lt, i_le, i_clamp, true_or, or_true, true_and, and_true, false_or, or_false, false_and, and_false, i_l64, i_lN, l_eq, l_lt, l_le]) <;> omega)) (by first | omega | ((try simp (disch := decide) only [i_add, i_sub, i_mul, i_0, i_1, i_m1, i_m2, i_m3, i_m4, i_nI, i_eq, i_lt, i_le, i_clamp, true_or, or_true, true_and, and_true, false_or, or_false, false_and, and_false, i_l64, i_lN, l_eq, l_lt, l_le]) <;> omega)) | exact now_u0 (show arrOK nowC _ by assumption)
      refine ok_vg (vin_of (by first | omega | ((try simp (disch := decide) only [i_add, i_sub, i_mul, i_0, i_1, i_m1, i_m2, i_m3, i_m4, i_nI, i_eq, i_lt, i_le, i_clamp, true_or, or_true, true_and, and_true, false_or, or_false, false_and, and_false, i_l64, i_lN, l_eq, l_lt, l_le]) <;> omega)) (by first | omega | ((try simp (disch := decide) only [i_add, i_sub, i_mul, i_0, i_1, i_m1, i_m2, i_m3, i_m4, i_nI, i_eq, i_lt, i_le, i_clamp, true_or, or_true, true_and, and_true, false_or, or_false, false_and, and_false, i_l64, i_lN, l_eq, l_lt, l_le]) <;> omega))) ?_
      refine ok_vlet fun y7 hy9 => ?_
      try simp (disch := decide) only [i_add, i_sub, i_mul, i_0, i_1, i_m1, i_m2, i_m3, i_m4, i_nI, i_eq, i_lt, i_le, i_clamp, true_or, or_true, true_and, and_true, false_or, or_false, false_and, and_false, i_l64, i_lN, l_eq, l_lt, l_le] at hy9
      refine ok_vg (vin_of (by first | omega | ((try simp (disch := decide) only [i_add, i_sub, i_mul, i_0, i_1, i_m1, i_m2, i_m3, i_m4, i_nI, i_eq, i_lt, i_le, i_clamp, true_or, or_true, true_and, and_true, false_or, or_false, false_and, and_false, i_l64, i_lN, l_eq, l_lt, l_le]) <;> omega)) (by first | omega | ((try simp (disch := decide) only [i_add, i_sub, i_mul, i_0, i_1, i_m1, i_m2, i_m3, i_m4, i_nI, i_eq, i_lt, i_le, i_clamp, true_or, or_true, true_and, and_true, false_or, or_false, false_and, and_false, i_l64, i_lN, l_eq, l_lt, l_le]) <;> omega))) ?_
      refine ok_vlet fun u9 hy10 => ?_
      have a_u9 : arrOK nowC u9 := by rw [hy10]; first | exact now_uM (show arrOK nowC _ by assumption) (by first | omega | ((try simp (disch := decide) only [i_add, i_sub, i_mul, i_0, i_1, i_m1, i_m2, i_m3, i_m4, i_nI, i_eq, i_lt, i_le, i_clamp, true_or, or_true, true_and, and_true, false_or, or_false, false_and, and_false, i_l64, i_lN, l_eq, l_lt, l_le]) <;> omega)) (by first | omega | ((try simp (disch := decide) only [i_add, i_sub, i_mul, i_0, i_1, i_m1, i_m2, i_m3, i_m4, i_nI, i_eq, i_lt, i_le, i_clamp, true_or, or_true, true_and, and_true, false_or, or_false, false_and, and_false, i_l64, i_lN, l_eq, l_lt, l_le]) <;> omega)) | exact now_u0 (show arrOK nowC _ by assumption)
      refine ok_vlet fun y10 hy11 => ?_
      try simp (disch := decide) only [i_add, i_sub, i_mul, i_0, i_1, i_m1, i_m2, i_m3, i_m4, i_nI, i_eq, i_lt, i_le, i_clamp, true_or, or_true, true_and, and_true, false_or, or_false, false_and, and_false, i_l64, i_lN, l_eq, l_lt, l_le] at hy11
      exact ih _ _ (by first | omega | ((try simp (disch := decide) only [i_add, i_sub, i_mul, i_0, i_1, i_m1, i_m2, i_m3, i_m4, i_nI, i_eq, i_lt, i_le, i_clamp, true_or, or_true, true_and, and_true, false_or, or_false, false_and, and_false, i_l64, i_lN, l_eq, l_lt, l_le]) <;> omega)) (by first | omega | ((try simp (disch := decide) only [i_add, i_sub, i_mul, i_0, i_1, i_m1, i_m2, i_m3, i_m4, i_nI, i_eq, i_lt, i_le, i_clamp, true_or, or_true, true_and, and_true, false_or, or_false, false_and, and_false, i_l64, i_lN, l_eq, l_lt, l_le]) <;> omega)) (by first | assumption) (by first | omega | ((try simp (disch := decide) only [i_add, i_sub, i_mul, i_0, i_1, i_m1, i_m2, i_m3, i_m4, i_nI, i_eq, i_lt, i_le, i_clamp, true_or, or_true, true_and, and_true, false_or, or_false, false_and, and_false, i_l64, i_lN, l_eq, l_lt, l_le]) <;> omega))
set_option maxHeartbeats 1000000 in
set_option maxRecDepth 20000 in
theorem LX9_begins_2_ok  (f_post : Nat → Int32) (g0 : arrOK pstC f_post)  : ∀ (n : Nat) (y_1 : Int32) (f_now : (Nat → Int32)) (i0 : 0 ≤ y_1.toInt) (i1 : y_1.toInt ≤ 50) (i2 : arrOK nowC f_now) (im : 50 - y_1.toInt < (n : Int)), ok (LX9_begins_2 f_post n y_1 f_now) (fun z => arrOK nowC z.1 ∧ z.2.1.toInt = 0 ∧ z.2.2.1.toInt = 0 ∧ z.2.2.2.toInt = 0) := by
  intro n
  induction n with
  | zero =>
    intro y_1 f_now i0 i1 i2 im
    exfalso
    first | omega | ((try simp (disch := decide) only [i_add, i_sub, i_mul, i_0, i_1, i_m1, i_m2, i_m3, i_m4, i_nI, i_eq, i_lt, i_le, i_clamp, true_or, or_true, true_and, and_true, false_or, or_false, false_and, and_false, i_l64, i_lN, l_eq, l_lt, l_le]) <;> omega)
  | succ n ih =>
    intro y_1 f_now i0 i1 i2 im
    rw [LX9_begins_2]
    try simp (disch := decide) only [i_add, i_sub, i_mul, i_0, i_1, i_m1, i_m2, i_m3, i_m4, i_nI, i_eq, i_lt, i_le, i_clamp, true_or, or_true, true_and, and_true, false_or, or_false, false_and, and_false, i_l64, i_lN, l_eq, l_lt, l_le] at i0
    try simp (disch := decide) only [i_add, i_sub, i_mul, i_0, i_1, i_m1, i_m2, i_m3, i_m4, i_nI, i_eq, i_lt, i_le, i_clamp, true_or, or_true, true_and, and_true, false_or, or_false, false_and, and_false, i_l64, i_lN, l_eq, l_lt, l_le] at i1
    try simp (disch := decide) only [i_add, i_sub, i_mul, i_0, i_1, i_m1, i_m2, i_m3, i_m4, i_nI, i_eq, i_lt, i_le, i_clamp, true_or, or_true, true_and, and_true, false_or, or_false, false_and, and_false, i_l64, i_lN, l_eq, l_lt, l_le] at im
    have p1 := read_0 (post_read (show arrOK pstC f_post by assumption))
    try simp (disch := decide) only [i_add, i_sub, i_mul, i_0, i_1, i_m1, i_m2, i_m3, i_m4, i_nI, i_eq, i_lt, i_le, i_clamp, true_or, or_true, true_and, and_true, false_or, or_false, false_and, and_false, i_l64, i_lN, l_eq, l_lt, l_le] at p1
    have p2 := read_1 (post_read (show arrOK pstC f_post by assumption))
    try simp (disch := decide) only [i_add, i_sub, i_mul, i_0, i_1, i_m1, i_m2, i_m3, i_m4, i_nI, i_eq, i_lt, i_le, i_clamp, true_or, or_true, true_and, and_true, false_or, or_false, false_and, and_false, i_l64, i_lN, l_eq, l_lt, l_le] at p2
    have p3 := post_2 (show arrOK pstC f_post by assumption)
    try simp (disch := decide) only [i_add, i_sub, i_mul, i_0, i_1, i_m1, i_m2, i_m3, i_m4, i_nI, i_eq, i_lt, i_le, i_clamp, true_or, or_true, true_and, and_true, false_or, or_false, false_and, and_false, i_l64, i_lN, l_eq, l_lt, l_le] at p3
    refine ok_vi (fun h4 => ?_) (fun h4 => ?_)
    · try simp (disch := decide) only [i_add, i_sub, i_mul, i_0, i_1, i_m1, i_m2, i_m3, i_m4, i_nI, i_eq, i_lt, i_le, i_clamp, true_or, or_true, true_and, and_true, false_or, or_false, false_and, and_false, i_l64, i_lN, l_eq, l_lt, l_le] at h4
      exact LX9_begins_23_ok  _ (by first | assumption) _ _ _ (by first | omega | ((try simp (disch := decide) only [i_add, i_sub, i_mul, i_0, i_1, i_m1, i_m2, i_m3, i_m4, i_nI, i_eq, i_lt, i_le, i_clamp, true_or, or_true, true_and, and_true, false_or, or_false, false_and, and_false, i_l64, i_lN, l_eq, l_lt, l_le]) <;> omega)) (by first | omega | ((try simp (disch := decide) only [i_add, i_sub, i_mul, i_0, i_1, i_m1, i_m2, i_m3, i_m4, i_nI, i_eq, i_lt, i_le, i_clamp, true_or, or_true, true_and, and_true, false_or, or_false, false_and, and_false, i_l64, i_lN, l_eq, l_lt, l_le]) <;> omega)) (by first | assumption) (by rw [vF_int]; first | omega | ((try simp (disch := decide) only [i_add, i_sub, i_mul, i_0, i_1, i_m1, i_m2, i_m3, i_m4, i_nI, i_eq, i_lt, i_le, i_clamp, true_or, or_true, true_and, and_true, false_or, or_false, false_and, and_false, i_l64, i_lN, l_eq, l_lt, l_le]) <;> omega))
    · try simp (disch := decide) only [i_add, i_sub, i_mul, i_0, i_1, i_m1, i_m2, i_m3, i_m4, i_nI, i_eq, i_lt, i_le, i_clamp, true_or, or_true, true_and, and_true, false_or, or_false, false_and, and_false, i_l64, i_lN, l_eq, l_lt, l_le] at h4
      refine ok_vg (vin_of (by first | omega | ((try simp (disch := decide) only [i_add, i_sub, i_mul, i_0, i_1, i_m1, i_m2, i_m3, i_m4, i_nI, i_eq, i_lt, i_le, i_clamp, true_or, or_true, true_and, and_true, false_or, or_false, false_and, and_false, i_l64, i_lN, l_eq, l_lt, l_le]) <;> omega)) (by first | omega | ((try simp (disch := decide) only [i_add, i_sub, i_mul, i_0, i_1, i_m1, i_m2, i_m3, i_m4, i_nI, i_eq, i_lt, i_le, i_clamp, true_or, or_true, true_and, and_true, false_or, or_false, false_and, and_false, i_l64, i_lN, l_eq, l_lt, l_le]) <;> omega))) ?_
      refine ok_vlet fun u13 hy5 => ?_
      have a_u13 : arrOK nowC u13 := by rw [hy5]; first | exact now_u0 (show arrOK nowC _ by assumption)
      refine ok_vlet fun y14 hy6 => ?_
      try simp (disch := decide) only [i_add, i_sub, i_mul, i_0, i_1, i_m1, i_m2, i_m3, i_m4, i_nI, i_eq, i_lt, i_le, i_clamp, true_or, or_true, true_and, and_true, false_or, or_false, false_and, and_false, i_l64, i_lN, l_eq, l_lt, l_le] at hy6
      exact ih _ _ (by first | omega | ((try simp (disch := decide) only [i_add, i_sub, i_mul, i_0, i_1, i_m1, i_m2, i_m3, i_m4, i_nI, i_eq, i_lt, i_le, i_clamp, true_or, or_true, true_and, and_true, false_or, or_false, false_and, and_false, i_l64, i_lN, l_eq, l_lt, l_le]) <;> omega)) (by first | omega | ((try simp (disch := decide) only [i_add, i_sub, i_mul, i_0, i_1, i_m1, i_m2, i_m3, i_m4, i_nI, i_eq, i_lt, i_le, i_clamp, true_or, or_true, true_and, and_true, false_or, or_false, false_and, and_false, i_l64, i_lN, l_eq, l_lt, l_le]) <;> omega)) (by first | assumption) (by first | omega | ((try simp (disch := decide) only [i_add, i_sub, i_mul, i_0, i_1, i_m1, i_m2, i_m3, i_m4, i_nI, i_eq, i_lt, i_le, i_clamp, true_or, or_true, true_and, and_true, false_or, or_false, false_and, and_false, i_l64, i_lN, l_eq, l_lt, l_le]) <;> omega))
set_option maxHeartbeats 1000000 in
set_option maxRecDepth 20000 in
theorem sX9_begins_ok  (f_post : Nat → Int32) (f_now : Nat → Int32) (f_undos : Int32) (f_keptMany : Int32) (f_sightMany : Int32) (g0 : arrOK pstC f_post) (g1 : arrOK nowC f_now) : ok (sX9_begins f_post f_now f_undos f_keptMany f_sightMany) (fun z => arrOK nowC z.1 ∧ z.2.1.toInt = 0 ∧ z.2.2.1.toInt = 0 ∧ z.2.2.2.toInt = 0) := by
  unfold sX9_begins
  have p1 := read_0 (post_read (show arrOK pstC f_post by assumption))
  try simp (disch := decide) only [i_add, i_sub, i_mul, i_0, i_1, i_m1, i_m2, i_m3, i_m4, i_nI, i_eq, i_lt, i_le, i_clamp, true_or, or_true, true_and, and_true, false_or, or_false, false_and, and_false, i_l64, i_lN, l_eq, l_lt, l_le] at p1
  have p2 := read_1 (post_read (show arrOK pstC f_post by assumption))
  try simp (disch := decide) only [i_add, i_sub, i_mul, i_0, i_1, i_m1, i_m2, i_m3, i_m4, i_nI, i_eq, i_lt, i_le, i_clamp, true_or, or_true, true_and, and_true, false_or, or_false, false_and, and_false, i_l64, i_lN, l_eq, l_lt, l_le] at p2
  have p3 := post_2 (show arrOK pstC f_post by assumption)
  try simp (disch := decide) only [i_add, i_sub, i_mul, i_0, i_1, i_m1, i_m2, i_m3, i_m4, i_nI, i_eq, i_lt, i_le, i_clamp, true_or, or_true, true_and, and_true, false_or, or_false, false_and, and_false, i_l64, i_lN, l_eq, l_lt, l_le] at p3
  exact LX9_begins_2_ok  _ (by first | assumption) _ _ _ (by first | omega | ((try simp (disch := decide) only [i_add, i_sub, i_mul, i_0, i_1, i_m1, i_m2, i_m3, i_m4, i_nI, i_eq, i_lt, i_le, i_clamp, true_or, or_true, true_and, and_true, false_or, or_false, false_and, and_false, i_l64, i_lN, l_eq, l_lt, l_le]) <;> omega)) (by first | omega | ((try simp (disch := decide) only [i_add, i_sub, i_mul, i_0, i_1, i_m1, i_m2, i_m3, i_m4, i_nI, i_eq, i_lt, i_le, i_clamp, true_or, or_true, true_and, and_true, false_or, or_false, false_and, and_false, i_l64, i_lN, l_eq, l_lt, l_le]) <;> omega)) (by first | assumption) (by rw [vF_int]; first | omega | ((try simp (disch := decide) only [i_add, i_sub, i_mul, i_0, i_1, i_m1, i_m2, i_m3, i_m4, i_nI, i_eq, i_lt, i_le, i_clamp, true_or, or_true, true_and, and_true, false_or, or_false, false_and, and_false, i_l64, i_lN, l_eq, l_lt, l_le]) <;> omega))
set_option maxHeartbeats 1000000 in
set_option maxRecDepth 20000 in
theorem sX9_write_ok  (f_text : Nat → Int32) (f_size : Int32) (x1 : Int32) (g0 : 0 ≤ f_size.toInt) (g1 : f_size.toInt ≤ 200) : ok (sX9_write f_text f_size x1) (fun z => 0 ≤ z.2.2.toInt ∧ z.2.2.toInt ≤ 200) := by
  unfold sX9_write
  try simp (disch := decide) only [i_add, i_sub, i_mul, i_0, i_1, i_m1, i_m2, i_m3, i_m4, i_nI, i_eq, i_lt, i_le, i_clamp, true_or, or_true, true_and, and_true, false_or, or_false, false_and, and_false, i_l64, i_lN, l_eq, l_lt, l_le] at g0
  try simp (disch := decide) only [i_add, i_sub, i_mul, i_0, i_1, i_m1, i_m2, i_m3, i_m4, i_nI, i_eq, i_lt, i_le, i_clamp, true_or, or_true, true_and, and_true, false_or, or_false, false_and, and_false, i_l64, i_lN, l_eq, l_lt, l_le] at g1
  refine ok_vb (sX9_in_ok  _ _ _ ) fun z1 hz1 => ?_
  try simp (disch := decide) only [i_add, i_sub, i_mul, i_0, i_1, i_m1, i_m2, i_m3, i_m4, i_nI, i_eq, i_lt, i_le, i_clamp, true_or, or_true, true_and, and_true, false_or, or_false, false_and, and_false, i_l64, i_lN, l_eq, l_lt, l_le] at hz1
  refine ok_vi (fun h2 => ?_) (fun h2 => ?_)
  · try simp (disch := decide) only [i_add, i_sub, i_mul, i_0, i_1, i_m1, i_m2, i_m3, i_m4, i_nI, i_eq, i_lt, i_le, i_clamp, true_or, or_true, true_and, and_true, false_or, or_false, false_and, and_false, i_l64, i_lN, l_eq, l_lt, l_le] at h2
    refine ok_some ?_
    refine ⟨?_, ?_⟩
    · first | omega | ((try simp (disch := decide) only [i_add, i_sub, i_mul, i_0, i_1, i_m1, i_m2, i_m3, i_m4, i_nI, i_eq, i_lt, i_le, i_clamp, true_or, or_true, true_and, and_true, false_or, or_false, false_and, and_false, i_l64, i_lN, l_eq, l_lt, l_le]) <;> omega)
    · first | omega | ((try simp (disch := decide) only [i_add, i_sub, i_mul, i_0, i_1, i_m1, i_m2, i_m3, i_m4, i_nI, i_eq, i_lt, i_le, i_clamp, true_or, or_true, true_and, and_true, false_or, or_false, false_and, and_false, i_l64, i_lN, l_eq, l_lt, l_le]) <;> omega)
  · try simp (disch := decide) only [i_add, i_sub, i_mul, i_0, i_1, i_m1, i_m2, i_m3, i_m4, i_nI, i_eq, i_lt, i_le, i_clamp, true_or, or_true, true_and, and_true, false_or, or_false, false_and, and_false, i_l64, i_lN, l_eq, l_lt, l_le] at h2
    refine ok_vi (fun h3 => ?_) (fun h3 => ?_)
    · try simp (disch := decide) only [i_add, i_sub, i_mul, i_0, i_1, i_m1, i_m2, i_m3, i_m4, i_nI, i_eq, i_lt, i_le, i_clamp, true_or, or_true, true_and, and_true, false_or, or_false, false_and, and_false, i_l64, i_lN, l_eq, l_lt, l_le] at h3
      refine ok_some ?_
      refine ⟨?_, ?_⟩
      · first | omega | ((try simp (disch := decide) only [i_add, i_sub, i_mul, i_0, i_1, i_m1, i_m2, i_m3, i_m4, i_nI, i_eq, i_lt, i_le, i_clamp, true_or, or_true, true_and, and_true, false_or, or_false, false_and, and_false, i_l64, i_lN, l_eq, l_lt, l_le]) <;> omega)
      · first | omega | ((try simp (disch := decide) only [i_add, i_sub, i_mul, i_0, i_1, i_m1, i_m2, i_m3, i_m4, i_nI, i_eq, i_lt, i_le, i_clamp, true_or, or_true, true_and, and_true, false_or, or_false, false_and, and_false, i_l64, i_lN, l_eq, l_lt, l_le]) <;> omega)
    · try simp (disch := decide) only [i_add, i_sub, i_mul, i_0, i_1, i_m1, i_m2, i_m3, i_m4, i_nI, i_eq, i_lt, i_le, i_clamp, true_or, or_true, true_and, and_true, false_or, or_false, false_and, and_false, i_l64, i_lN, l_eq, l_lt, l_le] at h3
      refine ok_vg (vin_of (by first | omega | ((try simp (disch := decide) only [i_add, i_sub, i_mul, i_0, i_1, i_m1, i_m2, i_m3, i_m4, i_nI, i_eq, i_lt, i_le, i_clamp, true_or, or_true, true_and, and_true, false_or, or_false, false_and, and_false, i_l64, i_lN, l_eq, l_lt, l_le]) <;> omega)) (by first | omega | ((try simp (disch := decide) only [i_add, i_sub, i_mul, i_0, i_1, i_m1, i_m2, i_m3, i_m4, i_nI, i_eq, i_lt, i_le, i_clamp, true_or, or_true, true_and, and_true, false_or, or_false, false_and, and_false, i_l64, i_lN, l_eq, l_lt, l_le]) <;> omega))) ?_
      refine ok_vlet fun u5 hy4 => ?_
      subst hy4
      refine ok_vlet fun y6 hy5 => ?_
      try simp (disch := decide) only [i_add, i_sub, i_mul, i_0, i_1, i_m1, i_m2, i_m3, i_m4, i_nI, i_eq, i_lt, i_le, i_clamp, true_or, or_true, true_and, and_true, false_or, or_false, false_and, and_false, i_l64, i_lN, l_eq, l_lt, l_le] at hy5
      refine ok_some ?_
      refine ⟨?_, ?_⟩
      · first | omega | ((try simp (disch := decide) only [i_add, i_sub, i_mul, i_0, i_1, i_m1, i_m2, i_m3, i_m4, i_nI, i_eq, i_lt, i_le, i_clamp, true_or, or_true, true_and, and_true, false_or, or_false, false_and, and_false, i_l64, i_lN, l_eq, l_lt, l_le]) <;> omega)
      · first | omega | ((try simp (disch := decide) only [i_add, i_sub, i_mul, i_0, i_1, i_m1, i_m2, i_m3, i_m4, i_nI, i_eq, i_lt, i_le, i_clamp, true_or, or_true, true_and, and_true, false_or, or_false, false_and, and_false, i_l64, i_lN, l_eq, l_lt, l_le]) <;> omega)
set_option maxHeartbeats 1000000 in
set_option maxRecDepth 20000 in
theorem sX9_wipe_ok  (f_size : Int32)  : ok (sX9_wipe f_size) (fun z => z.2.toInt = 0) := by
  unfold sX9_wipe
  refine ok_some ?_
  · first | omega | ((try simp (disch := decide) only [i_add, i_sub, i_mul, i_0, i_1, i_m1, i_m2, i_m3, i_m4, i_nI, i_eq, i_lt, i_le, i_clamp, true_or, or_true, true_and, and_true, false_or, or_false, false_and, and_false, i_l64, i_lN, l_eq, l_lt, l_le]) <;> omega)
set_option maxHeartbeats 1000000 in
set_option maxRecDepth 20000 in
theorem sX9_signs_ok  (f_post : Nat → Int32) (g0 : arrOK pstC f_post) : ok (sX9_signs f_post) (fun z => 9 ≤ z.toInt ∧ z.toInt ≤ 15 ∧ z.toInt = 9 + (f_post (Int32.toNatClampNeg (nI 1))).toInt) := by
  unfold sX9_signs
  have p1 := read_0 (post_read (show arrOK pstC f_post by assumption))
  try simp (disch := decide) only [i_add, i_sub, i_mul, i_0, i_1, i_m1, i_m2, i_m3, i_m4, i_nI, i_eq, i_lt, i_le, i_clamp, true_or, or_true, true_and, and_true, false_or, or_false, false_and, and_false, i_l64, i_lN, l_eq, l_lt, l_le] at p1
  have p2 := read_1 (post_read (show arrOK pstC f_post by assumption))
  try simp (disch := decide) only [i_add, i_sub, i_mul, i_0, i_1, i_m1, i_m2, i_m3, i_m4, i_nI, i_eq, i_lt, i_le, i_clamp, true_or, or_true, true_and, and_true, false_or, or_false, false_and, and_false, i_l64, i_lN, l_eq, l_lt, l_le] at p2
  have p3 := post_2 (show arrOK pstC f_post by assumption)
  try simp (disch := decide) only [i_add, i_sub, i_mul, i_0, i_1, i_m1, i_m2, i_m3, i_m4, i_nI, i_eq, i_lt, i_le, i_clamp, true_or, or_true, true_and, and_true, false_or, or_false, false_and, and_false, i_l64, i_lN, l_eq, l_lt, l_le] at p3
  refine ok_some ?_
  refine ⟨?_, ?_, ?_⟩
  · first | omega | ((try simp (disch := decide) only [i_add, i_sub, i_mul, i_0, i_1, i_m1, i_m2, i_m3, i_m4, i_nI, i_eq, i_lt, i_le, i_clamp, true_or, or_true, true_and, and_true, false_or, or_false, false_and, and_false, i_l64, i_lN, l_eq, l_lt, l_le]) <;> omega)
  · first | omega | ((try simp (disch := decide) only [i_add, i_sub, i_mul, i_0, i_1, i_m1, i_m2, i_m3, i_m4, i_nI, i_eq, i_lt, i_le, i_clamp, true_or, or_true, true_and, and_true, false_or, or_false, false_and, and_false, i_l64, i_lN, l_eq, l_lt, l_le]) <;> omega)
  · first | omega | ((try simp (disch := decide) only [i_add, i_sub, i_mul, i_0, i_1, i_m1, i_m2, i_m3, i_m4, i_nI, i_eq, i_lt, i_le, i_clamp, true_or, or_true, true_and, and_true, false_or, or_false, false_and, and_false, i_l64, i_lN, l_eq, l_lt, l_le]) <;> omega)
set_option maxHeartbeats 1000000 in
set_option maxRecDepth 20000 in
theorem sX9_isWord_ok  (f_post : Nat → Int32) (x1 : Int32) (g0 : arrOK pstC f_post) : ok (sX9_isWord f_post x1) (fun z => z.toInt = 1 ∧ 0 ≤ x1.toInt ∧ x1.toInt < (f_post (Int32.toNatClampNeg (nI 0))).toInt ∨ z.toInt = 0 ∧ (x1.toInt < 0 ∨ (f_post (Int32.toNatClampNeg (nI 0))).toInt ≤ x1.toInt)) := by
  unfold sX9_isWord
  have p1 := read_0 (post_read (show arrOK pstC f_post by assumption))
  try simp (disch := decide) only [i_add, i_sub, i_mul, i_0, i_1, i_m1, i_m2, i_m3, i_m4, i_nI, i_eq, i_lt, i_le, i_clamp, true_or, or_true, true_and, and_true, false_or, or_false, false_and, and_false, i_l64, i_lN, l_eq, l_lt, l_le] at p1
  have p2 := read_1 (post_read (show arrOK pstC f_post by assumption))
  try simp (disch := decide) only [i_add, i_sub, i_mul, i_0, i_1, i_m1, i_m2, i_m3, i_m4, i_nI, i_eq, i_lt, i_le, i_clamp, true_or, or_true, true_and, and_true, false_or, or_false, false_and, and_false, i_l64, i_lN, l_eq, l_lt, l_le] at p2
  have p3 := post_2 (show arrOK pstC f_post by assumption)
  try simp (disch := decide) only [i_add, i_sub, i_mul, i_0, i_1, i_m1, i_m2, i_m3, i_m4, i_nI, i_eq, i_lt, i_le, i_clamp, true_or, or_true, true_and, and_true, false_or, or_false, false_and, and_false, i_l64, i_lN, l_eq, l_lt, l_le] at p3
  refine ok_vb (sX9_in_ok  _ _ _ ) fun z1 hz4 => ?_
  try simp (disch := decide) only [i_add, i_sub, i_mul, i_0, i_1, i_m1, i_m2, i_m3, i_m4, i_nI, i_eq, i_lt, i_le, i_clamp, true_or, or_true, true_and, and_true, false_or, or_false, false_and, and_false, i_l64, i_lN, l_eq, l_lt, l_le] at hz4
  refine ok_vg (vz_of (by first | omega | ((try simp (disch := decide) only [i_add, i_sub, i_mul, i_0, i_1, i_m1, i_m2, i_m3, i_m4, i_nI, i_eq, i_lt, i_le, i_clamp, true_or, or_true, true_and, and_true, false_or, or_false, false_and, and_false, i_l64, i_lN, l_eq, l_lt, l_le]) <;> omega))) ?_
  refine ok_some ?_
  · first | omega | ((try simp (disch := decide) only [i_add, i_sub, i_mul, i_0, i_1, i_m1, i_m2, i_m3, i_m4, i_nI, i_eq, i_lt, i_le, i_clamp, true_or, or_true, true_and, and_true, false_or, or_false, false_and, and_false, i_l64, i_lN, l_eq, l_lt, l_le]) <;> omega)
set_option maxHeartbeats 1000000 in
set_option maxRecDepth 20000 in
theorem sX9_isSign_ok  (f_post : Nat → Int32) (x1 : Int32) (g0 : arrOK pstC f_post) : ok (sX9_isSign f_post x1) (fun z => z.toInt = 1 ∧ 0 ≤ x1.toInt ∧ x1.toInt ≤ 14 ∨ z.toInt = 0) := by
  unfold sX9_isSign
  have p1 := read_0 (post_read (show arrOK pstC f_post by assumption))
  try simp (disch := decide) only [i_add, i_sub, i_mul, i_0, i_1, i_m1, i_m2, i_m3, i_m4, i_nI, i_eq, i_lt, i_le, i_clamp, true_or, or_true, true_and, and_true, false_or, or_false, false_and, and_false, i_l64, i_lN, l_eq, l_lt, l_le] at p1
  have p2 := read_1 (post_read (show arrOK pstC f_post by assumption))
  try simp (disch := decide) only [i_add, i_sub, i_mul, i_0, i_1, i_m1, i_m2, i_m3, i_m4, i_nI, i_eq, i_lt, i_le, i_clamp, true_or, or_true, true_and, and_true, false_or, or_false, false_and, and_false, i_l64, i_lN, l_eq, l_lt, l_le] at p2
  have p3 := post_2 (show arrOK pstC f_post by assumption)
  try simp (disch := decide) only [i_add, i_sub, i_mul, i_0, i_1, i_m1, i_m2, i_m3, i_m4, i_nI, i_eq, i_lt, i_le, i_clamp, true_or, or_true, true_and, and_true, false_or, or_false, false_and, and_false, i_l64, i_lN, l_eq, l_lt, l_le] at p3
  refine ok_vb (sX9_signs_ok  _ (by first | assumption)) fun z1 hz4 => ?_
  try simp (disch := decide) only [i_add, i_sub, i_mul, i_0, i_1, i_m1, i_m2, i_m3, i_m4, i_nI, i_eq, i_lt, i_le, i_clamp, true_or, or_true, true_and, and_true, false_or, or_false, false_and, and_false, i_l64, i_lN, l_eq, l_lt, l_le] at hz4
  obtain ⟨hz4_0, hz4_1, hz4_2⟩ := hz4
  refine ok_vb (sX9_in_ok  _ _ _ ) fun z2 hz5 => ?_
  try simp (disch := decide) only [i_add, i_sub, i_mul, i_0, i_1, i_m1, i_m2, i_m3, i_m4, i_nI, i_eq, i_lt, i_le, i_clamp, true_or, or_true, true_and, and_true, false_or, or_false, false_and, and_false, i_l64, i_lN, l_eq, l_lt, l_le] at hz5
  refine ok_vg (vz_of (by first | omega | ((try simp (disch := decide) only [i_add, i_sub, i_mul, i_0, i_1, i_m1, i_m2, i_m3, i_m4, i_nI, i_eq, i_lt, i_le, i_clamp, true_or, or_true, true_and, and_true, false_or, or_false, false_and, and_false, i_l64, i_lN, l_eq, l_lt, l_le]) <;> omega))) ?_
  refine ok_some ?_
  · first | omega | ((try simp (disch := decide) only [i_add, i_sub, i_mul, i_0, i_1, i_m1, i_m2, i_m3, i_m4, i_nI, i_eq, i_lt, i_le, i_clamp, true_or, or_true, true_and, and_true, false_or, or_false, false_and, and_false, i_l64, i_lN, l_eq, l_lt, l_le]) <;> omega)
set_option maxHeartbeats 1000000 in
set_option maxRecDepth 20000 in
theorem sX9_isActor_ok  (f_post : Nat → Int32) (x1 : Int32) (g0 : arrOK pstC f_post) : ok (sX9_isActor f_post x1) (fun z => z.toInt = 1 ∧ 0 ≤ x1.toInt ∧ x1.toInt < (f_post (Int32.toNatClampNeg (nI 2))).toInt ∨ z.toInt = 0 ∧ (x1.toInt < 0 ∨ (f_post (Int32.toNatClampNeg (nI 2))).toInt ≤ x1.toInt)) := by
  unfold sX9_isActor
  have p1 := read_0 (post_read (show arrOK pstC f_post by assumption))
  try simp (disch := decide) only [i_add, i_sub, i_mul, i_0, i_1, i_m1, i_m2, i_m3, i_m4, i_nI, i_eq, i_lt, i_le, i_clamp, true_or, or_true, true_and, and_true, false_or, or_false, false_and, and_false, i_l64, i_lN, l_eq, l_lt, l_le] at p1
  have p2 := read_1 (post_read (show arrOK pstC f_post by assumption))
  try simp (disch := decide) only [i_add, i_sub, i_mul, i_0, i_1, i_m1, i_m2, i_m3, i_m4, i_nI, i_eq, i_lt, i_le, i_clamp, true_or, or_true, true_and, and_true, false_or, or_false, false_and, and_false, i_l64, i_lN, l_eq, l_lt, l_le] at p2
  have p3 := post_2 (show arrOK pstC f_post by assumption)
  try simp (disch := decide) only [i_add, i_sub, i_mul, i_0, i_1, i_m1, i_m2, i_m3, i_m4, i_nI, i_eq, i_lt, i_le, i_clamp, true_or, or_true, true_and, and_true, false_or, or_false, false_and, and_false, i_l64, i_lN, l_eq, l_lt, l_le] at p3
  refine ok_vb (sX9_in_ok  _ _ _ ) fun z1 hz4 => ?_
  try simp (disch := decide) only [i_add, i_sub, i_mul, i_0, i_1, i_m1, i_m2, i_m3, i_m4, i_nI, i_eq, i_lt, i_le, i_clamp, true_or, or_true, true_and, and_true, false_or, or_false, false_and, and_false, i_l64, i_lN, l_eq, l_lt, l_le] at hz4
  refine ok_vg (vz_of (by first | omega | ((try simp (disch := decide) only [i_add, i_sub, i_mul, i_0, i_1, i_m1, i_m2, i_m3, i_m4, i_nI, i_eq, i_lt, i_le, i_clamp, true_or, or_true, true_and, and_true, false_or, or_false, false_and, and_false, i_l64, i_lN, l_eq, l_lt, l_le]) <;> omega))) ?_
  refine ok_some ?_
  · first | omega | ((try simp (disch := decide) only [i_add, i_sub, i_mul, i_0, i_1, i_m1, i_m2, i_m3, i_m4, i_nI, i_eq, i_lt, i_le, i_clamp, true_or, or_true, true_and, and_true, false_or, or_false, false_and, and_false, i_l64, i_lN, l_eq, l_lt, l_le]) <;> omega)
set_option maxHeartbeats 1000000 in
set_option maxRecDepth 20000 in
theorem LX9_likesOf_4_ok  (y_1 : Int32) (f_post : Nat → Int32) (g0 : arrOK pstC f_post)  : ∀ (n : Nat) (y_2 : Int32) (y_3 : Int32) (i0 : 0 ≤ y_3.toInt) (i1 : y_3.toInt ≤ 6) (im : 6 - y_3.toInt < (n : Int)), ok (LX9_likesOf_4 y_1 f_post n y_2 y_3) (fun _ => True) := by
  intro n
  induction n with
  | zero =>
    intro y_2 y_3 i0 i1 im
    exfalso
    first | omega | ((try simp (disch := decide) only [i_add, i_sub, i_mul, i_0, i_1, i_m1, i_m2, i_m3, i_m4, i_nI, i_eq, i_lt, i_le, i_clamp, true_or, or_true, true_and, and_true, false_or, or_false, false_and, and_false, i_l64, i_lN, l_eq, l_lt, l_le]) <;> omega)
  | succ n ih =>
    intro y_2 y_3 i0 i1 im
    rw [LX9_likesOf_4]
    try simp (disch := decide) only [i_add, i_sub, i_mul, i_0, i_1, i_m1, i_m2, i_m3, i_m4, i_nI, i_eq, i_lt, i_le, i_clamp, true_or, or_true, true_and, and_true, false_or, or_false, false_and, and_false, i_l64, i_lN, l_eq, l_lt, l_le] at i0
    try simp (disch := decide) only [i_add, i_sub, i_mul, i_0, i_1, i_m1, i_m2, i_m3, i_m4, i_nI, i_eq, i_lt, i_le, i_clamp, true_or, or_true, true_and, and_true, false_or, or_false, false_and, and_false, i_l64, i_lN, l_eq, l_lt, l_le] at i1
    try simp (disch := decide) only [i_add, i_sub, i_mul, i_0, i_1, i_m1, i_m2, i_m3, i_m4, i_nI, i_eq, i_lt, i_le, i_clamp, true_or, or_true, true_and, and_true, false_or, or_false, false_and, and_false, i_l64, i_lN, l_eq, l_lt, l_le] at im
    have p1 := read_0 (post_read (show arrOK pstC f_post by assumption))
    try simp (disch := decide) only [i_add, i_sub, i_mul, i_0, i_1, i_m1, i_m2, i_m3, i_m4, i_nI, i_eq, i_lt, i_le, i_clamp, true_or, or_true, true_and, and_true, false_or, or_false, false_and, and_false, i_l64, i_lN, l_eq, l_lt, l_le] at p1
    have p2 := read_1 (post_read (show arrOK pstC f_post by assumption))
    try simp (disch := decide) only [i_add, i_sub, i_mul, i_0, i_1, i_m1, i_m2, i_m3, i_m4, i_nI, i_eq, i_lt, i_le, i_clamp, true_or, or_true, true_and, and_true, false_or, or_false, false_and, and_false, i_l64, i_lN, l_eq, l_lt, l_le] at p2
    have p3 := post_2 (show arrOK pstC f_post by assumption)
    try simp (disch := decide) only [i_add, i_sub, i_mul, i_0, i_1, i_m1, i_m2, i_m3, i_m4, i_nI, i_eq, i_lt, i_le, i_clamp, true_or, or_true, true_and, and_true, false_or, or_false, false_and, and_false, i_l64, i_lN, l_eq, l_lt, l_le] at p3
    refine ok_vi (fun h4 => ?_) (fun h4 => ?_)
    · try simp (disch := decide) only [i_add, i_sub, i_mul, i_0, i_1, i_m1, i_m2, i_m3, i_m4, i_nI, i_eq, i_lt, i_le, i_clamp, true_or, or_true, true_and, and_true, false_or, or_false, false_and, and_false, i_l64, i_lN, l_eq, l_lt, l_le] at h4
      exact ok_some trivial
    · try simp (disch := decide) only [i_add, i_sub, i_mul, i_0, i_1, i_m1, i_m2, i_m3, i_m4, i_nI, i_eq, i_lt, i_le, i_clamp, true_or, or_true, true_and, and_true, false_or, or_false, false_and, and_false, i_l64, i_lN, l_eq, l_lt, l_le] at h4
      refine ok_vg (vin_of (by first | omega | ((try simp (disch := decide) only [i_add, i_sub, i_mul, i_0, i_1, i_m1, i_m2, i_m3, i_m4, i_nI, i_eq, i_lt, i_le, i_clamp, true_or, or_true, true_and, and_true, false_or, or_false, false_and, and_false, i_l64, i_lN, l_eq, l_lt, l_le]) <;> omega)) (by first | omega | ((try simp (disch := decide) only [i_add, i_sub, i_mul, i_0, i_1, i_m1, i_m2, i_m3, i_m4, i_nI, i_eq, i_lt, i_le, i_clamp, true_or, or_true, true_and, and_true, false_or, or_false, false_and, and_false, i_l64, i_lN, l_eq, l_lt, l_le]) <;> omega))) ?_
      refine ok_vb (sX9_has_ok  _ _ ) fun z3 hz5 => ?_
      try simp (disch := decide) only [i_add, i_sub, i_mul, i_0, i_1, i_m1, i_m2, i_m3, i_m4, i_nI, i_eq, i_lt, i_le, i_clamp, true_or, or_true, true_and, and_true, false_or, or_false, false_and, and_false, i_l64, i_lN, l_eq, l_lt, l_le] at hz5
      refine ok_vi (fun h6 => ?_) (fun h6 => ?_)
      · try simp (disch := decide) only [i_add, i_sub, i_mul, i_0, i_1, i_m1, i_m2, i_m3, i_m4, i_nI, i_eq, i_lt, i_le, i_clamp, true_or, or_true, true_and, and_true, false_or, or_false, false_and, and_false, i_l64, i_lN, l_eq, l_lt, l_le] at h6
        refine ok_vlet fun y5 hy7 => ?_
        try simp (disch := decide) only [i_add, i_sub, i_mul, i_0, i_1, i_m1, i_m2, i_m3, i_m4, i_nI, i_eq, i_lt, i_le, i_clamp, true_or, or_true, true_and, and_true, false_or, or_false, false_and, and_false, i_l64, i_lN, l_eq, l_lt, l_le] at hy7
        refine ok_vlet fun y6 hy8 => ?_
        try simp (disch := decide) only [i_add, i_sub, i_mul, i_0, i_1, i_m1, i_m2, i_m3, i_m4, i_nI, i_eq, i_lt, i_le, i_clamp, true_or, or_true, true_and, and_true, false_or, or_false, false_and, and_false, i_l64, i_lN, l_eq, l_lt, l_le] at hy8
        exact ih _ _ (by first | omega | ((try simp (disch := decide) only [i_add, i_sub, i_mul, i_0, i_1, i_m1, i_m2, i_m3, i_m4, i_nI, i_eq, i_lt, i_le, i_clamp, true_or, or_true, true_and, and_true, false_or, or_false, false_and, and_false, i_l64, i_lN, l_eq, l_lt, l_le]) <;> omega)) (by first | omega | ((try simp (disch := decide) only [i_add, i_sub, i_mul, i_0, i_1, i_m1, i_m2, i_m3, i_m4, i_nI, i_eq, i_lt, i_le, i_clamp, true_or, or_true, true_and, and_true, false_or, or_false, false_and, and_false, i_l64, i_lN, l_eq, l_lt, l_le]) <;> omega)) (by first | omega | ((try simp (disch := decide) only [i_add, i_sub, i_mul, i_0, i_1, i_m1, i_m2, i_m3, i_m4, i_nI, i_eq, i_lt, i_le, i_clamp, true_or, or_true, true_and, and_true, false_or, or_false, false_and, and_false, i_l64, i_lN, l_eq, l_lt, l_le]) <;> omega))
      · try simp (disch := decide) only [i_add, i_sub, i_mul, i_0, i_1, i_m1, i_m2, i_m3, i_m4, i_nI, i_eq, i_lt, i_le, i_clamp, true_or, or_true, true_and, and_true, false_or, or_false, false_and, and_false, i_l64, i_lN, l_eq, l_lt, l_le] at h6
        refine ok_vlet fun y7 hy9 => ?_
        try simp (disch := decide) only [i_add, i_sub, i_mul, i_0, i_1, i_m1, i_m2, i_m3, i_m4, i_nI, i_eq, i_lt, i_le, i_clamp, true_or, or_true, true_and, and_true, false_or, or_false, false_and, and_false, i_l64, i_lN, l_eq, l_lt, l_le] at hy9
        refine ok_vlet fun y8 hy10 => ?_
        try simp (disch := decide) only [i_add, i_sub, i_mul, i_0, i_1, i_m1, i_m2, i_m3, i_m4, i_nI, i_eq, i_lt, i_le, i_clamp, true_or, or_true, true_and, and_true, false_or, or_false, false_and, and_false, i_l64, i_lN, l_eq, l_lt, l_le] at hy10
        exact ih _ _ (by first | omega | ((try simp (disch := decide) only [i_add, i_sub, i_mul, i_0, i_1, i_m1, i_m2, i_m3, i_m4, i_nI, i_eq, i_lt, i_le, i_clamp, true_or, or_true, true_and, and_true, false_or, or_false, false_and, and_false, i_l64, i_lN, l_eq, l_lt, l_le]) <;> omega)) (by first | omega | ((try simp (disch := decide) only [i_add, i_sub, i_mul, i_0, i_1, i_m1, i_m2, i_m3, i_m4, i_nI, i_eq, i_lt, i_le, i_clamp, true_or, or_true, true_and, and_true, false_or, or_false, false_and, and_false, i_l64, i_lN, l_eq, l_lt, l_le]) <;> omega)) (by first | omega | ((try simp (disch := decide) only [i_add, i_sub, i_mul, i_0, i_1, i_m1, i_m2, i_m3, i_m4, i_nI, i_eq, i_lt, i_le, i_clamp, true_or, or_true, true_and, and_true, false_or, or_false, false_and, and_false, i_l64, i_lN, l_eq, l_lt, l_le]) <;> omega))
set_option maxHeartbeats 1000000 in
set_option maxRecDepth 20000 in
theorem sX9_likesOf_ok  (f_post : Nat → Int32) (x1 : Int32) (g0 : arrOK pstC f_post) : ok (sX9_likesOf f_post x1) (fun _ => True) := by
  unfold sX9_likesOf
  have p1 := read_0 (post_read (show arrOK pstC f_post by assumption))
  try simp (disch := decide) only [i_add, i_sub, i_mul, i_0, i_1, i_m1, i_m2, i_m3, i_m4, i_nI, i_eq, i_lt, i_le, i_clamp, true_or, or_true, true_and, and_true, false_or, or_false, false_and, and_false, i_l64, i_lN, l_eq, l_lt, l_le] at p1
  have p2 := read_1 (post_read (show arrOK pstC f_post by assumption))
  try simp (disch := decide) only [i_add, i_sub, i_mul, i_0, i_1, i_m1, i_m2, i_m3, i_m4, i_nI, i_eq, i_lt, i_le, i_clamp, true_or, or_true, true_and, and_true, false_or, or_false, false_and, and_false, i_l64, i_lN, l_eq, l_lt, l_le] at p2
  have p3 := post_2 (show arrOK pstC f_post by assumption)
  try simp (disch := decide) only [i_add, i_sub, i_mul, i_0, i_1, i_m1, i_m2, i_m3, i_m4, i_nI, i_eq, i_lt, i_le, i_clamp, true_or, or_true, true_and, and_true, false_or, or_false, false_and, and_false, i_l64, i_lN, l_eq, l_lt, l_le] at p3
  exact LX9_likesOf_4_ok  _ _ (by first | assumption) _ _ _ (by first | omega | ((try simp (disch := decide) only [i_add, i_sub, i_mul, i_0, i_1, i_m1, i_m2, i_m3, i_m4, i_nI, i_eq, i_lt, i_le, i_clamp, true_or, or_true, true_and, and_true, false_or, or_false, false_and, and_false, i_l64, i_lN, l_eq, l_lt, l_le]) <;> omega)) (by first | omega | ((try simp (disch := decide) only [i_add, i_sub, i_mul, i_0, i_1, i_m1, i_m2, i_m3, i_m4, i_nI, i_eq, i_lt, i_le, i_clamp, true_or, or_true, true_and, and_true, false_or, or_false, false_and, and_false, i_l64, i_lN, l_eq, l_lt, l_le]) <;> omega)) (by rw [vF_int]; first | omega | ((try simp (disch := decide) only [i_add, i_sub, i_mul, i_0, i_1, i_m1, i_m2, i_m3, i_m4, i_nI, i_eq, i_lt, i_le, i_clamp, true_or, or_true, true_and, and_true, false_or, or_false, false_and, and_false, i_l64, i_lN, l_eq, l_lt, l_le]) <;> omega))
set_option maxHeartbeats 1000000 in
set_option maxRecDepth 20000 in
theorem sX9_word__ok  (f_post : Nat → Int32) (x1 : Int32) (x2 : Int32) (g0 : arrOK pstC f_post) : ok (sX9_word_ f_post x1 x2) (fun _ => True) := by
  unfold sX9_word_
  have p1 := read_0 (post_read (show arrOK pstC f_post by assumption))
  try simp (disch := decide) only [i_add, i_sub, i_mul, i_0, i_1, i_m1, i_m2, i_m3, i_m4, i_nI, i_eq, i_lt, i_le, i_clamp, true_or, or_true, true_and, and_true, false_or, or_false, false_and, and_false, i_l64, i_lN, l_eq, l_lt, l_le] at p1
  have p2 := read_1 (post_read (show arrOK pstC f_post by assumption))
  try simp (disch := decide) only [i_add, i_sub, i_mul, i_0, i_1, i_m1, i_m2, i_m3, i_m4, i_nI, i_eq, i_lt, i_le, i_clamp, true_or, or_true, true_and, and_true, false_or, or_false, false_and, and_false, i_l64, i_lN, l_eq, l_lt, l_le] at p2
  have p3 := post_2 (show arrOK pstC f_post by assumption)
  try simp (disch := decide) only [i_add, i_sub, i_mul, i_0, i_1, i_m1, i_m2, i_m3, i_m4, i_nI, i_eq, i_lt, i_le, i_clamp, true_or, or_true, true_and, and_true, false_or, or_false, false_and, and_false, i_l64, i_lN, l_eq, l_lt, l_le] at p3
  refine ok_vb (sX9_isWord_ok  _ _ (by first | assumption)) fun z1 hz4 => ?_
  try simp (disch := decide) only [i_add, i_sub, i_mul, i_0, i_1, i_m1, i_m2, i_m3, i_m4, i_nI, i_eq, i_lt, i_le, i_clamp, true_or, or_true, true_and, and_true, false_or, or_false, false_and, and_false, i_l64, i_lN, l_eq, l_lt, l_le] at hz4
  refine ok_vi (fun h5 => ?_) (fun h5 => ?_)
  · try simp (disch := decide) only [i_add, i_sub, i_mul, i_0, i_1, i_m1, i_m2, i_m3, i_m4, i_nI, i_eq, i_lt, i_le, i_clamp, true_or, or_true, true_and, and_true, false_or, or_false, false_and, and_false, i_l64, i_lN, l_eq, l_lt, l_le] at h5
    exact ok_some trivial
  · try simp (disch := decide) only [i_add, i_sub, i_mul, i_0, i_1, i_m1, i_m2, i_m3, i_m4, i_nI, i_eq, i_lt, i_le, i_clamp, true_or, or_true, true_and, and_true, false_or, or_false, false_and, and_false, i_l64, i_lN, l_eq, l_lt, l_le] at h5
    refine ok_vb (sX9_in_ok  _ _ _ ) fun z3 hz6 => ?_
    try simp (disch := decide) only [i_add, i_sub, i_mul, i_0, i_1, i_m1, i_m2, i_m3, i_m4, i_nI, i_eq, i_lt, i_le, i_clamp, true_or, or_true, true_and, and_true, false_or, or_false, false_and, and_false, i_l64, i_lN, l_eq, l_lt, l_le] at hz6
    refine ok_vi (fun h7 => ?_) (fun h7 => ?_)
    · try simp (disch := decide) only [i_add, i_sub, i_mul, i_0, i_1, i_m1, i_m2, i_m3, i_m4, i_nI, i_eq, i_lt, i_le, i_clamp, true_or, or_true, true_and, and_true, false_or, or_false, false_and, and_false, i_l64, i_lN, l_eq, l_lt, l_le] at h7
      exact ok_some trivial
    · try simp (disch := decide) only [i_add, i_sub, i_mul, i_0, i_1, i_m1, i_m2, i_m3, i_m4, i_nI, i_eq, i_lt, i_le, i_clamp, true_or, or_true, true_and, and_true, false_or, or_false, false_and, and_false, i_l64, i_lN, l_eq, l_lt, l_le] at h7
      refine ok_vi (fun h8 => ?_) (fun h8 => ?_)
      · try simp (disch := decide) only [i_add, i_sub, i_mul, i_0, i_1, i_m1, i_m2, i_m3, i_m4, i_nI, i_eq, i_lt, i_le, i_clamp, true_or, or_true, true_and, and_true, false_or, or_false, false_and, and_false, i_l64, i_lN, l_eq, l_lt, l_le] at h8
        refine ok_vb (sX9_likesOf_ok  _ _ (by first | assumption)) fun z6 _ => ?_
        exact ok_some trivial
      · try simp (disch := decide) only [i_add, i_sub, i_mul, i_0, i_1, i_m1, i_m2, i_m3, i_m4, i_nI, i_eq, i_lt, i_le, i_clamp, true_or, or_true, true_and, and_true, false_or, or_false, false_and, and_false, i_l64, i_lN, l_eq, l_lt, l_le] at h8
        try (have hw1 : ((nI 8) * x2).toInt = 8 * x2.toInt := by first | omega | ((try simp (disch := decide) only [i_add, i_sub, i_mul, i_0, i_1, i_m1, i_m2, i_m3, i_m4, i_nI, i_eq, i_lt, i_le, i_clamp, true_or, or_true, true_and, and_true, false_or, or_false, false_and, and_false, i_l64, i_lN, l_eq, l_lt, l_le]) <;> omega))
        try simp (disch := decide) only [i_add, i_sub, i_mul, i_0, i_1, i_m1, i_m2, i_m3, i_m4, i_nI, i_eq, i_lt, i_le, i_clamp, true_or, or_true, true_and, and_true, false_or, or_false, false_and, and_false, i_l64, i_lN, l_eq, l_lt, l_le] at hw1
        try (have hw2 : ((nI 7) + ((nI 8) * x2)).toInt = 7 + 8 * x2.toInt := by first | omega | ((try simp (disch := decide) only [i_add, i_sub, i_mul, i_0, i_1, i_m1, i_m2, i_m3, i_m4, i_nI, i_eq, i_lt, i_le, i_clamp, true_or, or_true, true_and, and_true, false_or, or_false, false_and, and_false, i_l64, i_lN, l_eq, l_lt, l_le]) <;> omega))
        try simp (disch := decide) only [i_add, i_sub, i_mul, i_0, i_1, i_m1, i_m2, i_m3, i_m4, i_nI, i_eq, i_lt, i_le, i_clamp, true_or, or_true, true_and, and_true, false_or, or_false, false_and, and_false, i_l64, i_lN, l_eq, l_lt, l_le] at hw2
        try (have hw3 : (((nI 7) + ((nI 8) * x2)) + x1).toInt = 7 + 8 * x2.toInt + x1.toInt := by first | omega | ((try simp (disch := decide) only [i_add, i_sub, i_mul, i_0, i_1, i_m1, i_m2, i_m3, i_m4, i_nI, i_eq, i_lt, i_le, i_clamp, true_or, or_true, true_and, and_true, false_or, or_false, false_and, and_false, i_l64, i_lN, l_eq, l_lt, l_le]) <;> omega))
        try simp (disch := decide) only [i_add, i_sub, i_mul, i_0, i_1, i_m1, i_m2, i_m3, i_m4, i_nI, i_eq, i_lt, i_le, i_clamp, true_or, or_true, true_and, and_true, false_or, or_false, false_and, and_false, i_l64, i_lN, l_eq, l_lt, l_le] at hw3
        refine ok_vg (vin_of (by first | omega | ((try simp (disch := decide) only [i_add, i_sub, i_mul, i_0, i_1, i_m1, i_m2, i_m3, i_m4, i_nI, i_eq, i_lt, i_le, i_clamp, true_or, or_true, true_and, and_true, false_or, or_false, false_and, and_false, i_l64, i_lN, l_eq, l_lt, l_le]) <;> omega)) (by first | omega | ((try simp (disch := decide) only [i_add, i_sub, i_mul, i_0, i_1, i_m1, i_m2, i_m3, i_m4, i_nI, i_eq, i_lt, i_le, i_clamp, true_or, or_true, true_and, and_true, false_or, or_false, false_and, and_false, i_l64, i_lN, l_eq, l_lt, l_le]) <;> omega))) ?_
        exact ok_some trivial
set_option maxHeartbeats 1000000 in
set_option maxRecDepth 20000 in
theorem sX9_forbidden_ok  (f_post : Nat → Int32) (x1 : Int32) (g0 : arrOK pstC f_post) : ok (sX9_forbidden f_post x1) (fun _ => True) := by
  unfold sX9_forbidden
  have p1 := read_0 (post_read (show arrOK pstC f_post by assumption))
  try simp (disch := decide) only [i_add, i_sub, i_mul, i_0, i_1, i_m1, i_m2, i_m3, i_m4, i_nI, i_eq, i_lt, i_le, i_clamp, true_or, or_true, true_and, and_true, false_or, or_false, false_and, and_false, i_l64, i_lN, l_eq, l_lt, l_le] at p1
  have p2 := read_1 (post_read (show arrOK pstC f_post by assumption))
  try simp (disch := decide) only [i_add, i_sub, i_mul, i_0, i_1, i_m1, i_m2, i_m3, i_m4, i_nI, i_eq, i_lt, i_le, i_clamp, true_or, or_true, true_and, and_true, false_or, or_false, false_and, and_false, i_l64, i_lN, l_eq, l_lt, l_le] at p2
  have p3 := post_2 (show arrOK pstC f_post by assumption)
  try simp (disch := decide) only [i_add, i_sub, i_mul, i_0, i_1, i_m1, i_m2, i_m3, i_m4, i_nI, i_eq, i_lt, i_le, i_clamp, true_or, or_true, true_and, and_true, false_or, or_false, false_and, and_false, i_l64, i_lN, l_eq, l_lt, l_le] at p3
  refine ok_vb (sX9_isSign_ok  _ _ (by first | assumption)) fun z1 hz4 => ?_
  try simp (disch := decide) only [i_add, i_sub, i_mul, i_0, i_1, i_m1, i_m2, i_m3, i_m4, i_nI, i_eq, i_lt, i_le, i_clamp, true_or, or_true, true_and, and_true, false_or, or_false, false_and, and_false, i_l64, i_lN, l_eq, l_lt, l_le] at hz4
  refine ok_vi (fun h5 => ?_) (fun h5 => ?_)
  · try simp (disch := decide) only [i_add, i_sub, i_mul, i_0, i_1, i_m1, i_m2, i_m3, i_m4, i_nI, i_eq, i_lt, i_le, i_clamp, true_or, or_true, true_and, and_true, false_or, or_false, false_and, and_false, i_l64, i_lN, l_eq, l_lt, l_le] at h5
    exact ok_some trivial
  · try simp (disch := decide) only [i_add, i_sub, i_mul, i_0, i_1, i_m1, i_m2, i_m3, i_m4, i_nI, i_eq, i_lt, i_le, i_clamp, true_or, or_true, true_and, and_true, false_or, or_false, false_and, and_false, i_l64, i_lN, l_eq, l_lt, l_le] at h5
    exact ok_some trivial
set_option maxHeartbeats 1000000 in
set_option maxRecDepth 20000 in
theorem sX9_actor__ok  (f_post : Nat → Int32) (f_now : Nat → Int32) (x1 : Int32) (x2 : Int32) (g0 : arrOK pstC f_post) (g1 : arrOK nowC f_now) : ok (sX9_actor_ f_post f_now x1 x2) (fun _ => True) := by
  unfold sX9_actor_
  have p1 := read_0 (post_read (show arrOK pstC f_post by assumption))
  try simp (disch := decide) only [i_add, i_sub, i_mul, i_0, i_1, i_m1, i_m2, i_m3, i_m4, i_nI, i_eq, i_lt, i_le, i_clamp, true_or, or_true, true_and, and_true, false_or, or_false, false_and, and_false, i_l64, i_lN, l_eq, l_lt, l_le] at p1
  have p2 := read_1 (post_read (show arrOK pstC f_post by assumption))
  try simp (disch := decide) only [i_add, i_sub, i_mul, i_0, i_1, i_m1, i_m2, i_m3, i_m4, i_nI, i_eq, i_lt, i_le, i_clamp, true_or, or_true, true_and, and_true, false_or, or_false, false_and, and_false, i_l64, i_lN, l_eq, l_lt, l_le] at p2
  have p3 := post_2 (show arrOK pstC f_post by assumption)
  try simp (disch := decide) only [i_add, i_sub, i_mul, i_0, i_1, i_m1, i_m2, i_m3, i_m4, i_nI, i_eq, i_lt, i_le, i_clamp, true_or, or_true, true_and, and_true, false_or, or_false, false_and, and_false, i_l64, i_lN, l_eq, l_lt, l_le] at p3
  refine ok_vb (sX9_isActor_ok  _ _ (by first | assumption)) fun z1 hz4 => ?_
  try simp (disch := decide) only [i_add, i_sub, i_mul, i_0, i_1, i_m1, i_m2, i_m3, i_m4, i_nI, i_eq, i_lt, i_le, i_clamp, true_or, or_true, true_and, and_true, false_or, or_false, false_and, and_false, i_l64, i_lN, l_eq, l_lt, l_le] at hz4
  refine ok_vi (fun h5 => ?_) (fun h5 => ?_)
  · try simp (disch := decide) only [i_add, i_sub, i_mul, i_0, i_1, i_m1, i_m2, i_m3, i_m4, i_nI, i_eq, i_lt, i_le, i_clamp, true_or, or_true, true_and, and_true, false_or, or_false, false_and, and_false, i_l64, i_lN, l_eq, l_lt, l_le] at h5
    exact ok_some trivial
  · try simp (disch := decide) only [i_add, i_sub, i_mul, i_0, i_1, i_m1, i_m2, i_m3, i_m4, i_nI, i_eq, i_lt, i_le, i_clamp, true_or, or_true, true_and, and_true, false_or, or_false, false_and, and_false, i_l64, i_lN, l_eq, l_lt, l_le] at h5
    refine ok_vi (fun h6 => ?_) (fun h6 => ?_)
    · try simp (disch := decide) only [i_add, i_sub, i_mul, i_0, i_1, i_m1, i_m2, i_m3, i_m4, i_nI, i_eq, i_lt, i_le, i_clamp, true_or, or_true, true_and, and_true, false_or, or_false, false_and, and_false, i_l64, i_lN, l_eq, l_lt, l_le] at h6
      refine ok_vg (vin_of (by first | omega | ((try simp (disch := decide) only [i_add, i_sub, i_mul, i_0, i_1, i_m1, i_m2, i_m3, i_m4, i_nI, i_eq, i_lt, i_le, i_clamp, true_or, or_true, true_and, and_true, false_or, or_false, false_and, and_false, i_l64, i_lN, l_eq, l_lt, l_le]) <;> omega)) (by first | omega | ((try simp (disch := decide) only [i_add, i_sub, i_mul, i_0, i_1, i_m1, i_m2, i_m3, i_m4, i_nI, i_eq, i_lt, i_le, i_clamp, true_or, or_true, true_and, and_true, false_or, or_false, false_and, and_false, i_l64, i_lN, l_eq, l_lt, l_le]) <;> omega))) ?_
      exact ok_some trivial
    · try simp (disch := decide) only [i_add, i_sub, i_mul, i_0, i_1, i_m1, i_m2, i_m3, i_m4, i_nI, i_eq, i_lt, i_le, i_clamp, true_or, or_true, true_and, and_true, false_or, or_false, false_and, and_false, i_l64, i_lN, l_eq, l_lt, l_le] at h6
      refine ok_vi (fun h7 => ?_) (fun h7 => ?_)
      · try simp (disch := decide) only [i_add, i_sub, i_mul, i_0, i_1, i_m1, i_m2, i_m3, i_m4, i_nI, i_eq, i_lt, i_le, i_clamp, true_or, or_true, true_and, and_true, false_or, or_false, false_and, and_false, i_l64, i_lN, l_eq, l_lt, l_le] at h7
        refine ok_vg (vin_of (by first | omega | ((try simp (disch := decide) only [i_add, i_sub, i_mul, i_0, i_1, i_m1, i_m2, i_m3, i_m4, i_nI, i_eq, i_lt, i_le, i_clamp, true_or, or_true, true_and, and_true, false_or, or_false, false_and, and_false, i_l64, i_lN, l_eq, l_lt, l_le]) <;> omega)) (by first | omega | ((try simp (disch := decide) only [i_add, i_sub, i_mul, i_0, i_1, i_m1, i_m2, i_m3, i_m4, i_nI, i_eq, i_lt, i_le, i_clamp, true_or, or_true, true_and, and_true, false_or, or_false, false_and, and_false, i_l64, i_lN, l_eq, l_lt, l_le]) <;> omega))) ?_
        exact ok_some trivial
      · try simp (disch := decide) only [i_add, i_sub, i_mul, i_0, i_1, i_m1, i_m2, i_m3, i_m4, i_nI, i_eq, i_lt, i_le, i_clamp, true_or, or_true, true_and, and_true, false_or, or_false, false_and, and_false, i_l64, i_lN, l_eq, l_lt, l_le] at h7
        refine ok_vi (fun h8 => ?_) (fun h8 => ?_)
        · try simp (disch := decide) only [i_add, i_sub, i_mul, i_0, i_1, i_m1, i_m2, i_m3, i_m4, i_nI, i_eq, i_lt, i_le, i_clamp, true_or, or_true, true_and, and_true, false_or, or_false, false_and, and_false, i_l64, i_lN, l_eq, l_lt, l_le] at h8
          refine ok_vg (vin_of (by first | omega | ((try simp (disch := decide) only [i_add, i_sub, i_mul, i_0, i_1, i_m1, i_m2, i_m3, i_m4, i_nI, i_eq, i_lt, i_le, i_clamp, true_or, or_true, true_and, and_true, false_or, or_false, false_and, and_false, i_l64, i_lN, l_eq, l_lt, l_le]) <;> omega)) (by first | omega | ((try simp (disch := decide) only [i_add, i_sub, i_mul, i_0, i_1, i_m1, i_m2, i_m3, i_m4, i_nI, i_eq, i_lt, i_le, i_clamp, true_or, or_true, true_and, and_true, false_or, or_false, false_and, and_false, i_l64, i_lN, l_eq, l_lt, l_le]) <;> omega))) ?_
          exact ok_some trivial
        · try simp (disch := decide) only [i_add, i_sub, i_mul, i_0, i_1, i_m1, i_m2, i_m3, i_m4, i_nI, i_eq, i_lt, i_le, i_clamp, true_or, or_true, true_and, and_true, false_or, or_false, false_and, and_false, i_l64, i_lN, l_eq, l_lt, l_le] at h8
          refine ok_vi (fun h9 => ?_) (fun h9 => ?_)
          · try simp (disch := decide) only [i_add, i_sub, i_mul, i_0, i_1, i_m1, i_m2, i_m3, i_m4, i_nI, i_eq, i_lt, i_le, i_clamp, true_or, or_true, true_and, and_true, false_or, or_false, false_and, and_false, i_l64, i_lN, l_eq, l_lt, l_le] at h9
            refine ok_vg (vin_of (by first | omega | ((try simp (disch := decide) only [i_add, i_sub, i_mul, i_0, i_1, i_m1, i_m2, i_m3, i_m4, i_nI, i_eq, i_lt, i_le, i_clamp, true_or, or_true, true_and, and_true, false_or, or_false, false_and, and_false, i_l64, i_lN, l_eq, l_lt, l_le]) <;> omega)) (by first | omega | ((try simp (disch := decide) only [i_add, i_sub, i_mul, i_0, i_1, i_m1, i_m2, i_m3, i_m4, i_nI, i_eq, i_lt, i_le, i_clamp, true_or, or_true, true_and, and_true, false_or, or_false, false_and, and_false, i_l64, i_lN, l_eq, l_lt, l_le]) <;> omega))) ?_
            exact ok_some trivial
          · try simp (disch := decide) only [i_add, i_sub, i_mul, i_0, i_1, i_m1, i_m2, i_m3, i_m4, i_nI, i_eq, i_lt, i_le, i_clamp, true_or, or_true, true_and, and_true, false_or, or_false, false_and, and_false, i_l64, i_lN, l_eq, l_lt, l_le] at h9
            refine ok_vi (fun h10 => ?_) (fun h10 => ?_)
            · try simp (disch := decide) only [i_add, i_sub, i_mul, i_0, i_1, i_m1, i_m2, i_m3, i_m4, i_nI, i_eq, i_lt, i_le, i_clamp, true_or, or_true, true_and, and_true, false_or, or_false, false_and, and_false, i_l64, i_lN, l_eq, l_lt, l_le] at h10
              refine ok_vg (vin_of (by first | omega | ((try simp (disch := decide) only [i_add, i_sub, i_mul, i_0, i_1, i_m1, i_m2, i_m3, i_m4, i_nI, i_eq, i_lt, i_le, i_clamp, true_or, or_true, true_and, and_true, false_or, or_false, false_and, and_false, i_l64, i_lN, l_eq, l_lt, l_le]) <;> omega)) (by first | omega | ((try simp (disch := decide) only [i_add, i_sub, i_mul, i_0, i_1, i_m1, i_m2, i_m3, i_m4, i_nI, i_eq, i_lt, i_le, i_clamp, true_or, or_true, true_and, and_true, false_or, or_false, false_and, and_false, i_l64, i_lN, l_eq, l_lt, l_le]) <;> omega))) ?_
              exact ok_some trivial
            · try simp (disch := decide) only [i_add, i_sub, i_mul, i_0, i_1, i_m1, i_m2, i_m3, i_m4, i_nI, i_eq, i_lt, i_le, i_clamp, true_or, or_true, true_and, and_true, false_or, or_false, false_and, and_false, i_l64, i_lN, l_eq, l_lt, l_le] at h10
              refine ok_vi (fun h11 => ?_) (fun h11 => ?_)
              · try simp (disch := decide) only [i_add, i_sub, i_mul, i_0, i_1, i_m1, i_m2, i_m3, i_m4, i_nI, i_eq, i_lt, i_le, i_clamp, true_or, or_true, true_and, and_true, false_or, or_false, false_and, and_false, i_l64, i_lN, l_eq, l_lt, l_le] at h11
                refine ok_vg (vin_of (by first | omega | ((try simp (disch := decide) only [i_add, i_sub, i_mul, i_0, i_1, i_m1, i_m2, i_m3, i_m4, i_nI, i_eq, i_lt, i_le, i_clamp, true_or, or_true, true_and, and_true, false_or, or_false, false_and, and_false, i_l64, i_lN, l_eq, l_lt, l_le]) <;> omega)) (by first | omega | ((try simp (disch := decide) only [i_add, i_sub, i_mul, i_0, i_1, i_m1, i_m2, i_m3, i_m4, i_nI, i_eq, i_lt, i_le, i_clamp, true_or, or_true, true_and, and_true, false_or, or_false, false_and, and_false, i_l64, i_lN, l_eq, l_lt, l_le]) <;> omega))) ?_
                exact ok_some trivial
              · try simp (disch := decide) only [i_add, i_sub, i_mul, i_0, i_1, i_m1, i_m2, i_m3, i_m4, i_nI, i_eq, i_lt, i_le, i_clamp, true_or, or_true, true_and, and_true, false_or, or_false, false_and, and_false, i_l64, i_lN, l_eq, l_lt, l_le] at h11
                exact ok_some trivial
set_option maxHeartbeats 1000000 in
set_option maxRecDepth 20000 in
theorem sX9_shown_ok  (f_post : Nat → Int32) (f_now : Nat → Int32) (x1 : Int32) (x2 : Int32) (g0 : arrOK pstC f_post) (g1 : arrOK nowC f_now) : ok (sX9_shown f_post f_now x1 x2) (fun _ => True) := by
  unfold sX9_shown
  have p1 := read_0 (post_read (show arrOK pstC f_post by assumption))
  try simp (disch := decide) only [i_add, i_sub, i_mul, i_0, i_1, i_m1, i_m2, i_m3, i_m4, i_nI, i_eq, i_lt, i_le, i_clamp, true_or, or_true, true_and, and_true, false_or, or_false, false_and, and_false, i_l64, i_lN, l_eq, l_lt, l_le] at p1
  have p2 := read_1 (post_read (show arrOK pstC f_post by assumption))
  try simp (disch := decide) only [i_add, i_sub, i_mul, i_0, i_1, i_m1, i_m2, i_m3, i_m4, i_nI, i_eq, i_lt, i_le, i_clamp, true_or, or_true, true_and, and_true, false_or, or_false, false_and, and_false, i_l64, i_lN, l_eq, l_lt, l_le] at p2
  have p3 := post_2 (show arrOK pstC f_post by assumption)
  try simp (disch := decide) only [i_add, i_sub, i_mul, i_0, i_1, i_m1, i_m2, i_m3, i_m4, i_nI, i_eq, i_lt, i_le, i_clamp, true_or, or_true, true_and, and_true, false_or, or_false, false_and, and_false, i_l64, i_lN, l_eq, l_lt, l_le] at p3
  refine ok_vb (sX9_isActor_ok  _ _ (by first | assumption)) fun z1 hz4 => ?_
  try simp (disch := decide) only [i_add, i_sub, i_mul, i_0, i_1, i_m1, i_m2, i_m3, i_m4, i_nI, i_eq, i_lt, i_le, i_clamp, true_or, or_true, true_and, and_true, false_or, or_false, false_and, and_false, i_l64, i_lN, l_eq, l_lt, l_le] at hz4
  refine ok_vi (fun h5 => ?_) (fun h5 => ?_)
  · try simp (disch := decide) only [i_add, i_sub, i_mul, i_0, i_1, i_m1, i_m2, i_m3, i_m4, i_nI, i_eq, i_lt, i_le, i_clamp, true_or, or_true, true_and, and_true, false_or, or_false, false_and, and_false, i_l64, i_lN, l_eq, l_lt, l_le] at h5
    exact ok_some trivial
  · try simp (disch := decide) only [i_add, i_sub, i_mul, i_0, i_1, i_m1, i_m2, i_m3, i_m4, i_nI, i_eq, i_lt, i_le, i_clamp, true_or, or_true, true_and, and_true, false_or, or_false, false_and, and_false, i_l64, i_lN, l_eq, l_lt, l_le] at h5
    refine ok_vi (fun h6 => ?_) (fun h6 => ?_)
    · try simp (disch := decide) only [i_add, i_sub, i_mul, i_0, i_1, i_m1, i_m2, i_m3, i_m4, i_nI, i_eq, i_lt, i_le, i_clamp, true_or, or_true, true_and, and_true, false_or, or_false, false_and, and_false, i_l64, i_lN, l_eq, l_lt, l_le] at h6
      try (have hw := ixT x1 x2 (by omega) (by omega) (by omega) (by omega))
      try simp (disch := decide) only [i_add, i_sub, i_mul, i_0, i_1, i_m1, i_m2, i_m3, i_m4, i_nI, i_eq, i_lt, i_le, i_clamp, true_or, or_true, true_and, and_true, false_or, or_false, false_and, and_false, i_l64, i_lN, l_eq, l_lt, l_le] at hw
      refine ok_vg (vin_of (by first | omega | ((try simp (disch := decide) only [i_add, i_sub, i_mul, i_0, i_1, i_m1, i_m2, i_m3, i_m4, i_nI, i_eq, i_lt, i_le, i_clamp, true_or, or_true, true_and, and_true, false_or, or_false, false_and, and_false, i_l64, i_lN, l_eq, l_lt, l_le]) <;> omega)) (by first | omega | ((try simp (disch := decide) only [i_add, i_sub, i_mul, i_0, i_1, i_m1, i_m2, i_m3, i_m4, i_nI, i_eq, i_lt, i_le, i_clamp, true_or, or_true, true_and, and_true, false_or, or_false, false_and, and_false, i_l64, i_lN, l_eq, l_lt, l_le]) <;> omega))) ?_
      try (have q7 := now_S (show arrOK nowC f_now by assumption) x1 (by first | omega | ((try simp (disch := decide) only [i_add, i_sub, i_mul, i_0, i_1, i_m1, i_m2, i_m3, i_m4, i_nI, i_eq, i_lt, i_le, i_clamp, true_or, or_true, true_and, and_true, false_or, or_false, false_and, and_false, i_l64, i_lN, l_eq, l_lt, l_le]) <;> omega)) (by first | omega | ((try simp (disch := decide) only [i_add, i_sub, i_mul, i_0, i_1, i_m1, i_m2, i_m3, i_m4, i_nI, i_eq, i_lt, i_le, i_clamp, true_or, or_true, true_and, and_true, false_or, or_false, false_and, and_false, i_l64, i_lN, l_eq, l_lt, l_le]) <;> omega)))
      try simp (disch := decide) only [i_add, i_sub, i_mul, i_0, i_1, i_m1, i_m2, i_m3, i_m4, i_nI, i_eq, i_lt, i_le, i_clamp, true_or, or_true, true_and, and_true, false_or, or_false, false_and, and_false, i_l64, i_lN, l_eq, l_lt, l_le] at q7
      refine ok_vi (fun h8 => ?_) (fun h8 => ?_)
      · try simp (disch := decide) only [i_add, i_sub, i_mul, i_0, i_1, i_m1, i_m2, i_m3, i_m4, i_nI, i_eq, i_lt, i_le, i_clamp, true_or, or_true, true_and, and_true, false_or, or_false, false_and, and_false, i_l64, i_lN, l_eq, l_lt, l_le] at h8
        exact ok_some trivial
      · try simp (disch := decide) only [i_add, i_sub, i_mul, i_0, i_1, i_m1, i_m2, i_m3, i_m4, i_nI, i_eq, i_lt, i_le, i_clamp, true_or, or_true, true_and, and_true, false_or, or_false, false_and, and_false, i_l64, i_lN, l_eq, l_lt, l_le] at h8
        try (have hw := ixT x1 x2 (by omega) (by omega) (by omega) (by omega))
        try simp (disch := decide) only [i_add, i_sub, i_mul, i_0, i_1, i_m1, i_m2, i_m3, i_m4, i_nI, i_eq, i_lt, i_le, i_clamp, true_or, or_true, true_and, and_true, false_or, or_false, false_and, and_false, i_l64, i_lN, l_eq, l_lt, l_le] at hw
        refine ok_vg (vin_of (by first | omega | ((try simp (disch := decide) only [i_add, i_sub, i_mul, i_0, i_1, i_m1, i_m2, i_m3, i_m4, i_nI, i_eq, i_lt, i_le, i_clamp, true_or, or_true, true_and, and_true, false_or, or_false, false_and, and_false, i_l64, i_lN, l_eq, l_lt, l_le]) <;> omega)) (by first | omega | ((try simp (disch := decide) only [i_add, i_sub, i_mul, i_0, i_1, i_m1, i_m2, i_m3, i_m4, i_nI, i_eq, i_lt, i_le, i_clamp, true_or, or_true, true_and, and_true, false_or, or_false, false_and, and_false, i_l64, i_lN, l_eq, l_lt, l_le]) <;> omega))) ?_
        try (have q9 := now_T (show arrOK nowC f_now by assumption) x1 x2 (by first | omega | ((try simp (disch := decide) only [i_add, i_sub, i_mul, i_0, i_1, i_m1, i_m2, i_m3, i_m4, i_nI, i_eq, i_lt, i_le, i_clamp, true_or, or_true, true_and, and_true, false_or, or_false, false_and, and_false, i_l64, i_lN, l_eq, l_lt, l_le]) <;> omega)) (by first | omega | ((try simp (disch := decide) only [i_add, i_sub, i_mul, i_0, i_1, i_m1, i_m2, i_m3, i_m4, i_nI, i_eq, i_lt, i_le, i_clamp, true_or, or_true, true_and, and_true, false_or, or_false, false_and, and_false, i_l64, i_lN, l_eq, l_lt, l_le]) <;> omega)) (by first | omega | ((try simp (disch := decide) only [i_add, i_sub, i_mul, i_0, i_1, i_m1, i_m2, i_m3, i_m4, i_nI, i_eq, i_lt, i_le, i_clamp, true_or, or_true, true_and, and_true, false_or, or_false, false_and, and_false, i_l64, i_lN, l_eq, l_lt, l_le]) <;> omega)) (by first | omega | ((try simp (disch := decide) only [i_add, i_sub, i_mul, i_0, i_1, i_m1, i_m2, i_m3, i_m4, i_nI, i_eq, i_lt, i_le, i_clamp, true_or, or_true, true_and, and_true, false_or, or_false, false_and, and_false, i_l64, i_lN, l_eq, l_lt, l_le]) <;> omega)))
        try simp (disch := decide) only [i_add, i_sub, i_mul, i_0, i_1, i_m1, i_m2, i_m3, i_m4, i_nI, i_eq, i_lt, i_le, i_clamp, true_or, or_true, true_and, and_true, false_or, or_false, false_and, and_false, i_l64, i_lN, l_eq, l_lt, l_le] at q9
        exact ok_some trivial
    · try simp (disch := decide) only [i_add, i_sub, i_mul, i_0, i_1, i_m1, i_m2, i_m3, i_m4, i_nI, i_eq, i_lt, i_le, i_clamp, true_or, or_true, true_and, and_true, false_or, or_false, false_and, and_false, i_l64, i_lN, l_eq, l_lt, l_le] at h6
      exact ok_some trivial
set_option maxHeartbeats 1000000 in
set_option maxRecDepth 20000 in
theorem sX9_byPart_ok  (f_post : Nat → Int32) (x1 : Int32) (x2 : Int32) (x3 : Int32) (x4 : Int32) (g0 : 0 ≤ x2.toInt) (g1 : x2.toInt ≤ 7) : ok (sX9_byPart f_post x1 x2 x3 x4) (fun _ => True) := by
  unfold sX9_byPart
  try simp (disch := decide) only [i_add, i_sub, i_mul, i_0, i_1, i_m1, i_m2, i_m3, i_m4, i_nI, i_eq, i_lt, i_le, i_clamp, true_or, or_true, true_and, and_true, false_or, or_false, false_and, and_false, i_l64, i_lN, l_eq, l_lt, l_le] at g0
  try simp (disch := decide) only [i_add, i_sub, i_mul, i_0, i_1, i_m1, i_m2, i_m3, i_m4, i_nI, i_eq, i_lt, i_le, i_clamp, true_or, or_true, true_and, and_true, false_or, or_false, false_and, and_false, i_l64, i_lN, l_eq, l_lt, l_le] at g1
  refine ok_vi (fun h1 => ?_) (fun h1 => ?_)
  · try simp (disch := decide) only [i_add, i_sub, i_mul, i_0, i_1, i_m1, i_m2, i_m3, i_m4, i_nI, i_eq, i_lt, i_le, i_clamp, true_or, or_true, true_and, and_true, false_or, or_false, false_and, and_false, i_l64, i_lN, l_eq, l_lt, l_le] at h1
    refine ok_vlet fun y6 hy2 => ?_
    try simp (disch := decide) only [i_add, i_sub, i_mul, i_0, i_1, i_m1, i_m2, i_m3, i_m4, i_nI, i_eq, i_lt, i_le, i_clamp, true_or, or_true, true_and, and_true, false_or, or_false, false_and, and_false, i_l64, i_lN, l_eq, l_lt, l_le] at hy2
    refine ok_vg (vin_of (by first | omega | ((try simp (disch := decide) only [i_add, i_sub, i_mul, i_0, i_1, i_m1, i_m2, i_m3, i_m4, i_nI, i_eq, i_lt, i_le, i_clamp, true_or, or_true, true_and, and_true, false_or, or_false, false_and, and_false, i_l64, i_lN, l_eq, l_lt, l_le]) <;> omega)) (by first | omega | ((try simp (disch := decide) only [i_add, i_sub, i_mul, i_0, i_1, i_m1, i_m2, i_m3, i_m4, i_nI, i_eq, i_lt, i_le, i_clamp, true_or, or_true, true_and, and_true, false_or, or_false, false_and, and_false, i_l64, i_lN, l_eq, l_lt, l_le]) <;> omega))) ?_
    refine ok_vb (sX9_has_ok  _ _ ) fun z8 hz3 => ?_
    try simp (disch := decide) only [i_add, i_sub, i_mul, i_0, i_1, i_m1, i_m2, i_m3, i_m4, i_nI, i_eq, i_lt, i_le, i_clamp, true_or, or_true, true_and, and_true, false_or, or_false, false_and, and_false, i_l64, i_lN, l_eq, l_lt, l_le] at hz3
    refine ok_vi (fun h4 => ?_) (fun h4 => ?_)
    · try simp (disch := decide) only [i_add, i_sub, i_mul, i_0, i_1, i_m1, i_m2, i_m3, i_m4, i_nI, i_eq, i_lt, i_le, i_clamp, true_or, or_true, true_and, and_true, false_or, or_false, false_and, and_false, i_l64, i_lN, l_eq, l_lt, l_le] at h4
      exact ok_some trivial
    · try simp (disch := decide) only [i_add, i_sub, i_mul, i_0, i_1, i_m1, i_m2, i_m3, i_m4, i_nI, i_eq, i_lt, i_le, i_clamp, true_or, or_true, true_and, and_true, false_or, or_false, false_and, and_false, i_l64, i_lN, l_eq, l_lt, l_le] at h4
      refine ok_vi (fun h5 => ?_) (fun h5 => ?_)
      · try simp (disch := decide) only [i_add, i_sub, i_mul, i_0, i_1, i_m1, i_m2, i_m3, i_m4, i_nI, i_eq, i_lt, i_le, i_clamp, true_or, or_true, true_and, and_true, false_or, or_false, false_and, and_false, i_l64, i_lN, l_eq, l_lt, l_le] at h5
        exact ok_some trivial
      · try simp (disch := decide) only [i_add, i_sub, i_mul, i_0, i_1, i_m1, i_m2, i_m3, i_m4, i_nI, i_eq, i_lt, i_le, i_clamp, true_or, or_true, true_and, and_true, false_or, or_false, false_and, and_false, i_l64, i_lN, l_eq, l_lt, l_le] at h5
        exact ok_some trivial
  · try simp (disch := decide) only [i_add, i_sub, i_mul, i_0, i_1, i_m1, i_m2, i_m3, i_m4, i_nI, i_eq, i_lt, i_le, i_clamp, true_or, or_true, true_and, and_true, false_or, or_false, false_and, and_false, i_l64, i_lN, l_eq, l_lt, l_le] at h1
    refine ok_vg (vin_of (by first | omega | ((try simp (disch := decide) only [i_add, i_sub, i_mul, i_0, i_1, i_m1, i_m2, i_m3, i_m4, i_nI, i_eq, i_lt, i_le, i_clamp, true_or, or_true, true_and, and_true, false_or, or_false, false_and, and_false, i_l64, i_lN, l_eq, l_lt, l_le]) <;> omega)) (by first | omega | ((try simp (disch := decide) only [i_add, i_sub, i_mul, i_0, i_1, i_m1, i_m2, i_m3, i_m4, i_nI, i_eq, i_lt, i_le, i_clamp, true_or, or_true, true_and, and_true, false_or, or_false, false_and, and_false, i_l64, i_lN, l_eq, l_lt, l_le]) <;> omega))) ?_
    refine ok_vb (sX9_has_ok  _ _ ) fun z3 hz6 => ?_
    try simp (disch := decide) only [i_add, i_sub, i_mul, i_0, i_1, i_m1, i_m2, i_m3, i_m4, i_nI, i_eq, i_lt, i_le, i_clamp, true_or, or_true, true_and, and_true, false_or, or_false, false_and, and_false, i_l64, i_lN, l_eq, l_lt, l_le] at hz6
    refine ok_vi (fun h7 => ?_) (fun h7 => ?_)
    · try simp (disch := decide) only [i_add, i_sub, i_mul, i_0, i_1, i_m1, i_m2, i_m3, i_m4, i_nI, i_eq, i_lt, i_le, i_clamp, true_or, or_true, true_and, and_true, false_or, or_false, false_and, and_false, i_l64, i_lN, l_eq, l_lt, l_le] at h7
      exact ok_some trivial
    · try simp (disch := decide) only [i_add, i_sub, i_mul, i_0, i_1, i_m1, i_m2, i_m3, i_m4, i_nI, i_eq, i_lt, i_le, i_clamp, true_or, or_true, true_and, and_true, false_or, or_false, false_and, and_false, i_l64, i_lN, l_eq, l_lt, l_le] at h7
      refine ok_vi (fun h8 => ?_) (fun h8 => ?_)
      · try simp (disch := decide) only [i_add, i_sub, i_mul, i_0, i_1, i_m1, i_m2, i_m3, i_m4, i_nI, i_eq, i_lt, i_le, i_clamp, true_or, or_true, true_and, and_true, false_or, or_false, false_and, and_false, i_l64, i_lN, l_eq, l_lt, l_le] at h8
        exact ok_some trivial
      · try simp (disch := decide) only [i_add, i_sub, i_mul, i_0, i_1, i_m1, i_m2, i_m3, i_m4, i_nI, i_eq, i_lt, i_le, i_clamp, true_or, or_true, true_and, and_true, false_or, or_false, false_and, and_false, i_l64, i_lN, l_eq, l_lt, l_le] at h8
        exact ok_some trivial
set_option maxHeartbeats 1000000 in
set_option maxRecDepth 20000 in
theorem sX9_byLikeness_ok  (f_post : Nat → Int32) (x1 : Int32) (x2 : Int32) (x3 : Int32) (x4 : Int32) (g0 : 0 ≤ x3.toInt) (g1 : x3.toInt ≤ 5) : ok (sX9_byLikeness f_post x1 x2 x3 x4) (fun _ => True) := by
  unfold sX9_byLikeness
  try simp (disch := decide) only [i_add, i_sub, i_mul, i_0, i_1, i_m1, i_m2, i_m3, i_m4, i_nI, i_eq, i_lt, i_le, i_clamp, true_or, or_true, true_and, and_true, false_or, or_false, false_and, and_false, i_l64, i_lN, l_eq, l_lt, l_le] at g0
  try simp (disch := decide) only [i_add, i_sub, i_mul, i_0, i_1, i_m1, i_m2, i_m3, i_m4, i_nI, i_eq, i_lt, i_le, i_clamp, true_or, or_true, true_and, and_true, false_or, or_false, false_and, and_false, i_l64, i_lN, l_eq, l_lt, l_le] at g1
  refine ok_vg (vin_of (by first | omega | ((try simp (disch := decide) only [i_add, i_sub, i_mul, i_0, i_1, i_m1, i_m2, i_m3, i_m4, i_nI, i_eq, i_lt, i_le, i_clamp, true_or, or_true, true_and, and_true, false_or, or_false, false_and, and_false, i_l64, i_lN, l_eq, l_lt, l_le]) <;> omega)) (by first | omega | ((try simp (disch := decide) only [i_add, i_sub, i_mul, i_0, i_1, i_m1, i_m2, i_m3, i_m4, i_nI, i_eq, i_lt, i_le, i_clamp, true_or, or_true, true_and, and_true, false_or, or_false, false_and, and_false, i_l64, i_lN, l_eq, l_lt, l_le]) <;> omega))) ?_
  refine ok_vb (sX9_has_ok  _ _ ) fun z2 hz1 => ?_
  try simp (disch := decide) only [i_add, i_sub, i_mul, i_0, i_1, i_m1, i_m2, i_m3, i_m4, i_nI, i_eq, i_lt, i_le, i_clamp, true_or, or_true, true_and, and_true, false_or, or_false, false_and, and_false, i_l64, i_lN, l_eq, l_lt, l_le] at hz1
  refine ok_vi (fun h2 => ?_) (fun h2 => ?_)
  · try simp (disch := decide) only [i_add, i_sub, i_mul, i_0, i_1, i_m1, i_m2, i_m3, i_m4, i_nI, i_eq, i_lt, i_le, i_clamp, true_or, or_true, true_and, and_true, false_or, or_false, false_and, and_false, i_l64, i_lN, l_eq, l_lt, l_le] at h2
    exact ok_some trivial
  · try simp (disch := decide) only [i_add, i_sub, i_mul, i_0, i_1, i_m1, i_m2, i_m3, i_m4, i_nI, i_eq, i_lt, i_le, i_clamp, true_or, or_true, true_and, and_true, false_or, or_false, false_and, and_false, i_l64, i_lN, l_eq, l_lt, l_le] at h2
    refine ok_vi (fun h3 => ?_) (fun h3 => ?_)
    · try simp (disch := decide) only [i_add, i_sub, i_mul, i_0, i_1, i_m1, i_m2, i_m3, i_m4, i_nI, i_eq, i_lt, i_le, i_clamp, true_or, or_true, true_and, and_true, false_or, or_false, false_and, and_false, i_l64, i_lN, l_eq, l_lt, l_le] at h3
      exact ok_some trivial
    · try simp (disch := decide) only [i_add, i_sub, i_mul, i_0, i_1, i_m1, i_m2, i_m3, i_m4, i_nI, i_eq, i_lt, i_le, i_clamp, true_or, or_true, true_and, and_true, false_or, or_false, false_and, and_false, i_l64, i_lN, l_eq, l_lt, l_le] at h3
      refine ok_vi (fun h4 => ?_) (fun h4 => ?_)
      · try simp (disch := decide) only [i_add, i_sub, i_mul, i_0, i_1, i_m1, i_m2, i_m3, i_m4, i_nI, i_eq, i_lt, i_le, i_clamp, true_or, or_true, true_and, and_true, false_or, or_false, false_and, and_false, i_l64, i_lN, l_eq, l_lt, l_le] at h4
        exact ok_some trivial
      · try simp (disch := decide) only [i_add, i_sub, i_mul, i_0, i_1, i_m1, i_m2, i_m3, i_m4, i_nI, i_eq, i_lt, i_le, i_clamp, true_or, or_true, true_and, and_true, false_or, or_false, false_and, and_false, i_l64, i_lN, l_eq, l_lt, l_le] at h4
        exact ok_some trivial
set_option maxHeartbeats 1000000 in
set_option maxRecDepth 20000 in
theorem sX9_times_ok  (f_post : Nat → Int32) (x1 : Int32) (x2 : Int32) (x3 : Int32) (x4 : Int32) (x5 : Int32) (g0 : 0 ≤ x2.toInt) (g1 : x2.toInt ≤ 7) (g2 : 0 ≤ x3.toInt) (g3 : x3.toInt ≤ 14) : ok (sX9_times f_post x1 x2 x3 x4 x5) (fun _ => True) := by
  unfold sX9_times
  try simp (disch := decide) only [i_add, i_sub, i_mul, i_0, i_1, i_m1, i_m2, i_m3, i_m4, i_nI, i_eq, i_lt, i_le, i_clamp, true_or, or_true, true_and, and_true, false_or, or_false, false_and, and_false, i_l64, i_lN, l_eq, l_lt, l_le] at g0
  try simp (disch := decide) only [i_add, i_sub, i_mul, i_0, i_1, i_m1, i_m2, i_m3, i_m4, i_nI, i_eq, i_lt, i_le, i_clamp, true_or, or_true, true_and, and_true, false_or, or_false, false_and, and_false, i_l64, i_lN, l_eq, l_lt, l_le] at g1
  try simp (disch := decide) only [i_add, i_sub, i_mul, i_0, i_1, i_m1, i_m2, i_m3, i_m4, i_nI, i_eq, i_lt, i_le, i_clamp, true_or, or_true, true_and, and_true, false_or, or_false, false_and, and_false, i_l64, i_lN, l_eq, l_lt, l_le] at g2
  try simp (disch := decide) only [i_add, i_sub, i_mul, i_0, i_1, i_m1, i_m2, i_m3, i_m4, i_nI, i_eq, i_lt, i_le, i_clamp, true_or, or_true, true_and, and_true, false_or, or_false, false_and, and_false, i_l64, i_lN, l_eq, l_lt, l_le] at g3
  refine ok_vi (fun h1 => ?_) (fun h1 => ?_)
  · try simp (disch := decide) only [i_add, i_sub, i_mul, i_0, i_1, i_m1, i_m2, i_m3, i_m4, i_nI, i_eq, i_lt, i_le, i_clamp, true_or, or_true, true_and, and_true, false_or, or_false, false_and, and_false, i_l64, i_lN, l_eq, l_lt, l_le] at h1
    refine ok_vi (fun h2 => ?_) (fun h2 => ?_)
    · try simp (disch := decide) only [i_add, i_sub, i_mul, i_0, i_1, i_m1, i_m2, i_m3, i_m4, i_nI, i_eq, i_lt, i_le, i_clamp, true_or, or_true, true_and, and_true, false_or, or_false, false_and, and_false, i_l64, i_lN, l_eq, l_lt, l_le] at h2
      refine ok_vb (sX9_byLikeness_ok  _ _ _ _ _ (by first | omega | ((try simp (disch := decide) only [i_add, i_sub, i_mul, i_0, i_1, i_m1, i_m2, i_m3, i_m4, i_nI, i_eq, i_lt, i_le, i_clamp, true_or, or_true, true_and, and_true, false_or, or_false, false_and, and_false, i_l64, i_lN, l_eq, l_lt, l_le]) <;> omega)) (by first | omega | ((try simp (disch := decide) only [i_add, i_sub, i_mul, i_0, i_1, i_m1, i_m2, i_m3, i_m4, i_nI, i_eq, i_lt, i_le, i_clamp, true_or, or_true, true_and, and_true, false_or, or_false, false_and, and_false, i_l64, i_lN, l_eq, l_lt, l_le]) <;> omega))) fun z3 _ => ?_
      exact ok_some trivial
    · try simp (disch := decide) only [i_add, i_sub, i_mul, i_0, i_1, i_m1, i_m2, i_m3, i_m4, i_nI, i_eq, i_lt, i_le, i_clamp, true_or, or_true, true_and, and_true, false_or, or_false, false_and, and_false, i_l64, i_lN, l_eq, l_lt, l_le] at h2
      refine ok_vg (vin_of (by first | omega | ((try simp (disch := decide) only [i_add, i_sub, i_mul, i_0, i_1, i_m1, i_m2, i_m3, i_m4, i_nI, i_eq, i_lt, i_le, i_clamp, true_or, or_true, true_and, and_true, false_or, or_false, false_and, and_false, i_l64, i_lN, l_eq, l_lt, l_le]) <;> omega)) (by first | omega | ((try simp (disch := decide) only [i_add, i_sub, i_mul, i_0, i_1, i_m1, i_m2, i_m3, i_m4, i_nI, i_eq, i_lt, i_le, i_clamp, true_or, or_true, true_and, and_true, false_or, or_false, false_and, and_false, i_l64, i_lN, l_eq, l_lt, l_le]) <;> omega))) ?_
      refine ok_vi (fun h3 => ?_) (fun h3 => ?_)
      · try simp (disch := decide) only [i_add, i_sub, i_mul, i_0, i_1, i_m1, i_m2, i_m3, i_m4, i_nI, i_eq, i_lt, i_le, i_clamp, true_or, or_true, true_and, and_true, false_or, or_false, false_and, and_false, i_l64, i_lN, l_eq, l_lt, l_le] at h3
        exact ok_some trivial
      · try simp (disch := decide) only [i_add, i_sub, i_mul, i_0, i_1, i_m1, i_m2, i_m3, i_m4, i_nI, i_eq, i_lt, i_le, i_clamp, true_or, or_true, true_and, and_true, false_or, or_false, false_and, and_false, i_l64, i_lN, l_eq, l_lt, l_le] at h3
        exact ok_some trivial
  · try simp (disch := decide) only [i_add, i_sub, i_mul, i_0, i_1, i_m1, i_m2, i_m3, i_m4, i_nI, i_eq, i_lt, i_le, i_clamp, true_or, or_true, true_and, and_true, false_or, or_false, false_and, and_false, i_l64, i_lN, l_eq, l_lt, l_le] at h1
    refine ok_vb (sX9_byPart_ok  _ _ _ _ _ (by first | omega | ((try simp (disch := decide) only [i_add, i_sub, i_mul, i_0, i_1, i_m1, i_m2, i_m3, i_m4, i_nI, i_eq, i_lt, i_le, i_clamp, true_or, or_true, true_and, and_true, false_or, or_false, false_and, and_false, i_l64, i_lN, l_eq, l_lt, l_le]) <;> omega)) (by first | omega | ((try simp (disch := decide) only [i_add, i_sub, i_mul, i_0, i_1, i_m1, i_m2, i_m3, i_m4, i_nI, i_eq, i_lt, i_le, i_clamp, true_or, or_true, true_and, and_true, false_or, or_false, false_and, and_false, i_l64, i_lN, l_eq, l_lt, l_le]) <;> omega))) fun z6 _ => ?_
    exact ok_some trivial

/-! season begins on a copy of the now -/
def prfOK (C : Nat → Int → Prop) (f : Nat → Int32) (k : Int) : Prop := ∀ i : Nat, (i : Int) < k → C i (f i).toInt
theorem prf_upd {C : Nat → Int → Prop} {f : Nat → Int32} {y v : Int32} {k k' : Int} (h : prfOK C f k) (hv : C y.toInt.toNat v.toInt) (hk : k' ≤ k + 1) (hy : k = y.toInt) (h0 : 0 ≤ y.toInt) : prfOK C (upd f (Int32.toNatClampNeg y) v) k' := by
  intro i hi
  unfold upd
  split
  · rename_i e
    rw [e]
    exact hv
  · rename_i e
    rw [i_clamp] at e
    exact h i (by omega)
theorem copies_q (C : Nat → Int → Prop) (y_1 y_3 y_4 : Int32) (f_p1 : Nat → Int32) (n_p1 n_p3 : Nat) (g0 : y_1.toInt = 0) (g1 : y_3.toInt = 0) (g2 : y_4.toInt ≤ (n_p1 : Int)) (g3 : y_4.toInt ≤ (n_p3 : Int)) (g6 : 0 ≤ y_4.toInt ∧ y_4.toInt ≤ 400) (g7 : arrOK C f_p1) : ∀ (n : Nat) (y_5 : Int32) (f_p3 : Nat → Int32) (i0 : 0 ≤ y_5.toInt) (i1 : y_5.toInt ≤ y_4.toInt) (i2 : prfOK C f_p3 y_5.toInt) (im : 400 - y_5.toInt < (n : Int)), ok (LX9_copies_3 y_1 y_3 y_4 f_p1 n_p1 n_p3 n y_5 f_p3) (fun z => prfOK C z y_4.toInt) := by
  intro n
  induction n with
  | zero =>
    intro y_5 f_p3 i0 i1 i2 im
    omega
  | succ n ih =>
    intro y_5 f_p3 i0 i1 i2 im
    rw [LX9_copies_3]
    refine ok_vi (fun h => ?_) (fun h => ?_)
    · rw [i_le] at h
      exact ok_some (fun i hi => i2 i (by omega))
    rw [i_le] at h
    have e1 : (y_1 + y_5).toInt = y_5.toInt := by rw [i_add]; omega
    have e2 : (y_3 + y_5).toInt = y_5.toInt := by rw [i_add]; omega
    refine ok_vg (vin_of (by omega) (by omega)) ?_
    refine ok_vlet fun y3 h3 => ?_
    refine ok_vg (vin_of (by omega) (by omega)) ?_
    refine ok_vlet fun u5 h5 => ?_
    refine ok_vlet fun y6 h6 => ?_
    have e6 : y6.toInt = y_5.toInt + 1 := by rw [h6, i_add, i_nI _ (by decide)]; omega
    refine ih y6 u5 (by omega) (by omega) ?_ (by omega)
    rw [h5]
    refine prf_upd i2 ?_ (by omega) (by omega) (by omega)
    have hc := g7 y_5.toInt.toNat
    rw [e2, h3, i_clamp, e1]
    exact hc
theorem prf_now {f : Nat → Int32} (h : prfOK nowC f (nI 50).toInt) : arrOK nowC f := fun i => by
  by_cases hi : i < 50
  · exact h i (by rw [i_nI _ (by decide)]; omega)
  · refine ⟨fun _ => ?_, fun _ _ => ?_, fun _ _ => ?_, fun _ _ => ?_⟩ <;> omega
set_option maxHeartbeats 1000000 in
set_option maxRecDepth 20000 in
theorem sX9_copies_q_ok  (n_p1 : Nat) (n_p3 : Nat) (f_p1 : Nat → Int32) (f_p3 : Nat → Int32) (x2 : Int32) (x4 : Int32) (x5 : Int32) (g0 : x2 = nI 0) (g1 : x4 = nI 0) (g2 : x5 = nI 50) (g3 : n_p1 = 50) (g4 : n_p3 = 50) (g5 : arrOK nowC f_p1) : ok (sX9_copies n_p1 n_p3 f_p1 f_p3 x2 x4 x5) (fun z => arrOK nowC z) := by
  subst g0 g1 g2 g3 g4
  refine ok_mono (copies_q nowC (nI 0) (nI 0) (nI 50) f_p1 50 50 (by decide) (by decide) (by decide) (by decide) (by decide) g5 vF (nI 0) f_p3 (by decide) (by decide) (fun i hi => absurd hi (by rw [i_nI _ (by decide)]; omega)) (by decide)) fun z hz => prf_now hz
set_option maxHeartbeats 1000000 in
set_option maxRecDepth 20000 in
theorem sX9_season_q_ok  (f_post : Nat → Int32) (f_now : Nat → Int32) (f_aside : Nat → Int32) (f_weights : Nat → Int32) (f_paid : Int32) (x1 : Int32) (x2 : Int32) (x3 : Int32) (g0 : arrOK pstC f_post) (g1 : arrOK nowC f_now) : ok (sX9_season f_post f_now f_aside f_weights f_paid x1 x2 x3) (fun _ => True) := by
  unfold sX9_season
  have p1 := read_0 (post_read (show arrOK pstC f_post by assumption))
  try simp (disch := decide) only [i_add, i_sub, i_mul, i_0, i_1, i_m1, i_m2, i_m3, i_m4, i_nI, i_eq, i_lt, i_le, i_clamp, true_or, or_true, true_and, and_true, false_or, or_false, false_and, and_false, i_l64, i_lN, l_eq, l_lt, l_le] at p1
  have p2 := read_1 (post_read (show arrOK pstC f_post by assumption))
  try simp (disch := decide) only [i_add, i_sub, i_mul, i_0, i_1, i_m1, i_m2, i_m3, i_m4, i_nI, i_eq, i_lt, i_le, i_clamp, true_or, or_true, true_and, and_true, false_or, or_false, false_and, and_false, i_l64, i_lN, l_eq, l_lt, l_le] at p2
  have p3 := post_2 (show arrOK pstC f_post by assumption)
  try simp (disch := decide) only [i_add, i_sub, i_mul, i_0, i_1, i_m1, i_m2, i_m3, i_m4, i_nI, i_eq, i_lt, i_le, i_clamp, true_or, or_true, true_and, and_true, false_or, or_false, false_and, and_false, i_l64, i_lN, l_eq, l_lt, l_le] at p3
  refine ok_vb (sX9_in_ok  _ _ _ ) fun z22 hz4 => ?_
  try simp (disch := decide) only [i_add, i_sub, i_mul, i_0, i_1, i_m1, i_m2, i_m3, i_m4, i_nI, i_eq, i_lt, i_le, i_clamp, true_or, or_true, true_and, and_true, false_or, or_false, false_and, and_false, i_l64, i_lN, l_eq, l_lt, l_le] at hz4
  refine ok_vi (fun h5 => ?_) (fun h5 => ?_)
  · try simp (disch := decide) only [i_add, i_sub, i_mul, i_0, i_1, i_m1, i_m2, i_m3, i_m4, i_nI, i_eq, i_lt, i_le, i_clamp, true_or, or_true, true_and, and_true, false_or, or_false, false_and, and_false, i_l64, i_lN, l_eq, l_lt, l_le] at h5
    exact ok_some trivial
  · try simp (disch := decide) only [i_add, i_sub, i_mul, i_0, i_1, i_m1, i_m2, i_m3, i_m4, i_nI, i_eq, i_lt, i_le, i_clamp, true_or, or_true, true_and, and_true, false_or, or_false, false_and, and_false, i_l64, i_lN, l_eq, l_lt, l_le] at h5
    refine ok_vb (sX9_in_ok  _ _ _ ) fun z24 hz6 => ?_
    try simp (disch := decide) only [i_add, i_sub, i_mul, i_0, i_1, i_m1, i_m2, i_m3, i_m4, i_nI, i_eq, i_lt, i_le, i_clamp, true_or, or_true, true_and, and_true, false_or, or_false, false_and, and_false, i_l64, i_lN, l_eq, l_lt, l_le] at hz6
    refine ok_vi (fun h7 => ?_) (fun h7 => ?_)
    · try simp (disch := decide) only [i_add, i_sub, i_mul, i_0, i_1, i_m1, i_m2, i_m3, i_m4, i_nI, i_eq, i_lt, i_le, i_clamp, true_or, or_true, true_and, and_true, false_or, or_false, false_and, and_false, i_l64, i_lN, l_eq, l_lt, l_le] at h7
      exact ok_some trivial
    · try simp (disch := decide) only [i_add, i_sub, i_mul, i_0, i_1, i_m1, i_m2, i_m3, i_m4, i_nI, i_eq, i_lt, i_le, i_clamp, true_or, or_true, true_and, and_true, false_or, or_false, false_and, and_false, i_l64, i_lN, l_eq, l_lt, l_le] at h7
      refine ok_vb (sX9_in_ok  _ _ _ ) fun z26 hz8 => ?_
      try simp (disch := decide) only [i_add, i_sub, i_mul, i_0, i_1, i_m1, i_m2, i_m3, i_m4, i_nI, i_eq, i_lt, i_le, i_clamp, true_or, or_true, true_and, and_true, false_or, or_false, false_and, and_false, i_l64, i_lN, l_eq, l_lt, l_le] at hz8
      refine ok_vi (fun h9 => ?_) (fun h9 => ?_)
      · try simp (disch := decide) only [i_add, i_sub, i_mul, i_0, i_1, i_m1, i_m2, i_m3, i_m4, i_nI, i_eq, i_lt, i_le, i_clamp, true_or, or_true, true_and, and_true, false_or, or_false, false_and, and_false, i_l64, i_lN, l_eq, l_lt, l_le] at h9
        exact ok_some trivial
      · try simp (disch := decide) only [i_add, i_sub, i_mul, i_0, i_1, i_m1, i_m2, i_m3, i_m4, i_nI, i_eq, i_lt, i_le, i_clamp, true_or, or_true, true_and, and_true, false_or, or_false, false_and, and_false, i_l64, i_lN, l_eq, l_lt, l_le] at h9
        refine ok_vb (sX9_copies_q_ok  _ _ _ _ _ _ _ (by first | omega | ((try simp (disch := decide) only [i_add, i_sub, i_mul, i_0, i_1, i_m1, i_m2, i_m3, i_m4, i_nI, i_eq, i_lt, i_le, i_clamp, true_or, or_true, true_and, and_true, false_or, or_false, false_and, and_false, i_l64, i_lN, l_eq, l_lt, l_le]) <;> omega)) (by first | omega | ((try simp (disch := decide) only [i_add, i_sub, i_mul, i_0, i_1, i_m1, i_m2, i_m3, i_m4, i_nI, i_eq, i_lt, i_le, i_clamp, true_or, or_true, true_and, and_true, false_or, or_false, false_and, and_false, i_l64, i_lN, l_eq, l_lt, l_le]) <;> omega)) (by first | omega | ((try simp (disch := decide) only [i_add, i_sub, i_mul, i_0, i_1, i_m1, i_m2, i_m3, i_m4, i_nI, i_eq, i_lt, i_le, i_clamp, true_or, or_true, true_and, and_true, false_or, or_false, false_and, and_false, i_l64, i_lN, l_eq, l_lt, l_le]) <;> omega)) (by first | omega | ((try simp (disch := decide) only [i_add, i_sub, i_mul, i_0, i_1, i_m1, i_m2, i_m3, i_m4, i_nI, i_eq, i_lt, i_le, i_clamp, true_or, or_true, true_and, and_true, false_or, or_false, false_and, and_false, i_l64, i_lN, l_eq, l_lt, l_le]) <;> omega)) (by first | omega | ((try simp (disch := decide) only [i_add, i_sub, i_mul, i_0, i_1, i_m1, i_m2, i_m3, i_m4, i_nI, i_eq, i_lt, i_le, i_clamp, true_or, or_true, true_and, and_true, false_or, or_false, false_and, and_false, i_l64, i_lN, l_eq, l_lt, l_le]) <;> omega)) (by first | assumption | rfl)) fun z28 hz10 => ?_
        try simp (disch := decide) only [i_add, i_sub, i_mul, i_0, i_1, i_m1, i_m2, i_m3, i_m4, i_nI, i_eq, i_lt, i_le, i_clamp, true_or, or_true, true_and, and_true, false_or, or_false, false_and, and_false, i_l64, i_lN, l_eq, l_lt, l_le] at hz10
        exact LX9_season_57_ok  _ _ _ _ (by first | assumption | rfl) (by first | omega | ((try simp (disch := decide) only [i_add, i_sub, i_mul, i_0, i_1, i_m1, i_m2, i_m3, i_m4, i_nI, i_eq, i_lt, i_le, i_clamp, true_or, or_true, true_and, and_true, false_or, or_false, false_and, and_false, i_l64, i_lN, l_eq, l_lt, l_le]) <;> omega)) (by first | omega | ((try simp (disch := decide) only [i_add, i_sub, i_mul, i_0, i_1, i_m1, i_m2, i_m3, i_m4, i_nI, i_eq, i_lt, i_le, i_clamp, true_or, or_true, true_and, and_true, false_or, or_false, false_and, and_false, i_l64, i_lN, l_eq, l_lt, l_le]) <;> omega)) (by first | omega | ((try simp (disch := decide) only [i_add, i_sub, i_mul, i_0, i_1, i_m1, i_m2, i_m3, i_m4, i_nI, i_eq, i_lt, i_le, i_clamp, true_or, or_true, true_and, and_true, false_or, or_false, false_and, and_false, i_l64, i_lN, l_eq, l_lt, l_le]) <;> omega)) _ _ _ _ _ _ (by first | omega | ((try simp (disch := decide) only [i_add, i_sub, i_mul, i_0, i_1, i_m1, i_m2, i_m3, i_m4, i_nI, i_eq, i_lt, i_le, i_clamp, true_or, or_true, true_and, and_true, false_or, or_false, false_and, and_false, i_l64, i_lN, l_eq, l_lt, l_le]) <;> omega)) (by first | omega | ((try simp (disch := decide) only [i_add, i_sub, i_mul, i_0, i_1, i_m1, i_m2, i_m3, i_m4, i_nI, i_eq, i_lt, i_le, i_clamp, true_or, or_true, true_and, and_true, false_or, or_false, false_and, and_false, i_l64, i_lN, l_eq, l_lt, l_le]) <;> omega)) (by first | assumption | rfl) (by rw [vF_int]; first | omega | ((try simp (disch := decide) only [i_add, i_sub, i_mul, i_0, i_1, i_m1, i_m2, i_m3, i_m4, i_nI, i_eq, i_lt, i_le, i_clamp, true_or, or_true, true_and, and_true, false_or, or_false, false_and, and_false, i_l64, i_lN, l_eq, l_lt, l_le]) <;> omega))

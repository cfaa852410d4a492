/-! the reference weighs -/
def sgOK (f : Nat → Int32) (a n : Int) : Prop := ∀ k : Int, 0 ≤ k → k < n → 0 ≤ (f (a + k).toNat).toInt ∧ (f (a + k).toNat).toInt ≤ 14
theorem sg_at {f : Nat → Int32} {a : Int32} {n : Int} (h : sgOK f a.toInt n) (y : Int32) (h0 : 0 ≤ y.toInt) (h1 : y.toInt < n) (ha : 0 ≤ a.toInt) (hb : a.toInt ≤ 1000) (hn : n ≤ 1000) : 0 ≤ (f (Int32.toNatClampNeg (a + y))).toInt ∧ (f (Int32.toNatClampNeg (a + y))).toInt ≤ 14 := by
  have e : (a + y).toInt = a.toInt + y.toInt := by rw [i_add]; omega
  have := h y.toInt h0 h1
  rw [i_clamp, e]
  exact this
theorem sg_mono {f : Nat → Int32} {a n m : Int} (h : sgOK f a n) (hm : m ≤ n) : sgOK f a m := fun k h0 h1 => h k h0 (by omega)
theorem ixR (x : Int32) (h0 : 0 ≤ x.toInt) (h1 : x.toInt ≤ 4) : ((nI 25) + ((nI 5) * x)).toInt = 25 + 5 * x.toInt := by
  have e1 : (nI 5 * x).toInt = 5 * x.toInt := by rw [i_mul, i_nI _ (by decide)]; omega
  rw [i_add, e1, i_nI _ (by decide)]; omega
theorem sg_now {f : Nat → Int32} (h : arrOK nowC f) (x : Int32) (h0 : 0 ≤ x.toInt) (h1 : x.toInt ≤ 4) : sgOK f ((nI 25) + ((nI 5) * x)).toInt 5 := fun k k0 k1 =>
  (h _).2.2.2 (by rw [ixR x h0 h1]; omega) (by rw [ixR x h0 h1]; omega)
theorem sg_rng {f : Nat → Int32} {n : Int} (h : rngOK f n 0 14) : sgOK f (nI 0).toInt n := fun k k0 k1 => by
  rw [i_nI _ (by decide)]
  exact h (((0 : Nat) : Int) + k).toNat (by omega)
theorem l_rem (a b : Int64) (hb : ¬ b.toInt = 0) : (a - a / b * b).toInt = a.toInt.tmod b.toInt := by
  rw [Int64.toInt_sub, Int64.toInt_mul, Int64.toInt_div, Int.bmod_mul_bmod, Int.sub_bmod_bmod]
  have e : a.toInt - a.toInt.tdiv b.toInt * b.toInt = a.toInt.tmod b.toInt := by rw [Int.tmod_def, Int.mul_comm]
  rw [e]
  have h1 := Int.natAbs_tmod a.toInt b.toInt
  have h2 : a.toInt.natAbs % b.toInt.natAbs < b.toInt.natAbs := Nat.mod_lt _ (by omega)
  have h3 := Int64.toInt_lt b
  have h4 := Int64.le_toInt b
  refine Int.bmod_eq_of_le ?_ ?_ <;> omega
theorem i_rem (a b : Int32) (h0 : 0 ≤ a.toInt) (hb : 0 < b.toInt) : 0 ≤ (a - a / b * b).toInt ∧ (a - a / b * b).toInt < b.toInt := by
  rw [Int32.toInt_sub, Int32.toInt_mul, Int32.toInt_div, Int.bmod_mul_bmod, Int.sub_bmod_bmod]
  have e : a.toInt - a.toInt.tdiv b.toInt * b.toInt = a.toInt.tmod b.toInt := by rw [Int.tmod_def, Int.mul_comm]
  rw [e]
  have h1 := Int.tmod_nonneg b.toInt h0
  have h2 := Int.tmod_lt_of_pos a.toInt hb
  have h3 := i_hi b
  rw [Int.bmod_eq_of_le (by omega) (by omega)]
  exact ⟨h1, h2⟩
theorem low6 (y1 y3 : Int64) : ∀ (k n : Nat) (y5 y7 : Int64), y7.toInt.natAbs < 2 ^ k → 2 * k + 2 ≤ n → (¬ y5.toInt = 0 ∨ ¬ y7.toInt = 0) → ok (LX9_lowest_6 y1 y3 n y5 y7) (fun _ => True) := by
  have fin : ∀ (n : Nat) (y5 y7 : Int64), y7.toInt = 0 → ¬ y5.toInt = 0 → ok (LX9_lowest_6 y1 y3 (n + 1) y5 y7) (fun _ => True) := by
    intro n y5 y7 h7 h5
    rw [LX9_lowest_6]
    refine ok_vi (fun _ => ?_) (fun h => ?_)
    · refine ok_vg (decide_eq_true (by rw [l_eq]; exact h5)) ?_
      refine ok_vlet fun _ _ => ?_
      refine ok_vg (decide_eq_true (by rw [l_eq]; exact h5)) ?_
      exact ok_vlet fun _ _ => ok_some trivial
    · rw [lg_cmp_eq, l_eq, i_lN _ (by decide)] at h
      exact absurd h7 h
  have stp : ∀ (n : Nat) (y5 y7 : Int64), ¬ y7.toInt = 0 → (∀ y, y.toInt.natAbs = y5.toInt.natAbs % y7.toInt.natAbs → ok (LX9_lowest_6 y1 y3 n y7 y) (fun _ => True)) → ok (LX9_lowest_6 y1 y3 (n + 1) y5 y7) (fun _ => True) := by
    intro n y5 y7 h7 hk
    rw [LX9_lowest_6]
    refine ok_vi (fun h => ?_) (fun _ => ?_)
    · rw [lg_cmp_eq, l_eq, i_lN _ (by decide)] at h
      exact absurd h h7
    · refine ok_vg (decide_eq_true (by rw [l_eq]; exact h7)) ?_
      refine ok_vlet fun y hy => ?_
      refine hk y ?_
      rw [hy, l_rem _ _ h7, Int.natAbs_tmod]
  intro k
  induction k with
  | zero =>
    intro n y5 y7 hb hn hz
    obtain ⟨m, rfl⟩ : ∃ m, n = m + 1 := ⟨n - 1, by omega⟩
    exact fin m y5 y7 (by omega) (by omega)
  | succ k ih =>
    intro n y5 y7 hb hn hz
    obtain ⟨m, rfl⟩ : ∃ m, n = m + 1 + 1 := ⟨n - 2, by omega⟩
    by_cases h7 : y7.toInt = 0
    · exact fin _ y5 y7 h7 (by omega)
    · refine stp _ y5 y7 h7 (fun r1 hr1 => ?_)
      by_cases hr : r1.toInt = 0
      · exact fin _ y7 r1 hr h7
      · refine stp _ y7 r1 hr (fun r2 hr2 => ?_)
        refine ih _ r1 r2 ?_ (by omega) (Or.inl hr)
        have a1 : r1.toInt.natAbs < y7.toInt.natAbs := by rw [hr1]; exact Nat.mod_lt _ (by omega)
        have a2 : r2.toInt.natAbs < r1.toInt.natAbs := by rw [hr2]; exact Nat.mod_lt _ (by omega)
        have a3 := Nat.mod_add_div y7.toInt.natAbs r1.toInt.natAbs
        have a4 : r1.toInt.natAbs * 1 ≤ r1.toInt.natAbs * (y7.toInt.natAbs / r1.toInt.natAbs) := Nat.mul_le_mul_left _ (Nat.div_pos (by omega) (by omega))
        rw [← hr2] at a3
        have a5 : 2 ^ (k + 1) = 2 * 2 ^ k := by rw [Nat.pow_succ]; omega
        omega
set_option maxHeartbeats 1000000 in
set_option maxRecDepth 20000 in
theorem LX9_weigh_43_ok  (y_1 : Int32) (y_3 : Int32) (y_4 : Int32) (y_6 : Int32) (y_7 : Int32) (y_8 : Int32) (f_post : Nat → Int32) (f_p2 : Nat → Int32) (n_p2 : Nat) (K78 : Int32 → Option ((Nat → Int32))) (g0 : arrOK pstC f_post) (g1 : 0 ≤ y_8.toInt) (g2 : y_8.toInt ≤ 7) (g3 : 0 ≤ y_3.toInt) (g4 : y_3.toInt ≤ 1000) (g5 : y_4.toInt ≤ 5) (g6 : y_3.toInt + y_4.toInt ≤ (n_p2 : Int)) (g7 : sgOK f_p2 y_3.toInt y_4.toInt) (hK : ∀ (v0 : Int32), ok (K78 v0) (fun _ => True)) : ∀ (n : Nat) (y_9 : Int32) (y_10 : Int32) (i0 : 0 ≤ y_10.toInt) (i1 : y_10.toInt ≤ 5) (im : 5 - y_10.toInt < (n : Int)), ok (LX9_weigh_43 y_1 y_3 y_4 y_6 y_7 y_8 f_post f_p2 n_p2 K78 n y_9 y_10) (fun _ => True) := by
  try simp (disch := decide) only [i_add, i_sub, i_mul, i_0, i_1, i_m1, i_m2, i_m3, i_m4, i_nI, i_eq, i_lt, i_le, i_clamp, true_or, or_true, true_and, and_true, false_or, or_false, false_and, and_false, i_l64, i_lN, l_eq, l_lt, l_le] at g1
  try simp (disch := decide) only [i_add, i_sub, i_mul, i_0, i_1, i_m1, i_m2, i_m3, i_m4, i_nI, i_eq, i_lt, i_le, i_clamp, true_or, or_true, true_and, and_true, false_or, or_false, false_and, and_false, i_l64, i_lN, l_eq, l_lt, l_le] at g2
  try simp (disch := decide) only [i_add, i_sub, i_mul, i_0, i_1, i_m1, i_m2, i_m3, i_m4, i_nI, i_eq, i_lt, i_le, i_clamp, true_or, or_true, true_and, and_true, false_or, or_false, false_and, and_false, i_l64, i_lN, l_eq, l_lt, l_le] at g3
  try simp (disch := decide) only [i_add, i_sub, i_mul, i_0, i_1, i_m1, i_m2, i_m3, i_m4, i_nI, i_eq, i_lt, i_le, i_clamp, true_or, or_true, true_and, and_true, false_or, or_false, false_and, and_false, i_l64, i_lN, l_eq, l_lt, l_le] at g4
  try simp (disch := decide) only [i_add, i_sub, i_mul, i_0, i_1, i_m1, i_m2, i_m3, i_m4, i_nI, i_eq, i_lt, i_le, i_clamp, true_or, or_true, true_and, and_true, false_or, or_false, false_and, and_false, i_l64, i_lN, l_eq, l_lt, l_le] at g5
  try simp (disch := decide) only [i_add, i_sub, i_mul, i_0, i_1, i_m1, i_m2, i_m3, i_m4, i_nI, i_eq, i_lt, i_le, i_clamp, true_or, or_true, true_and, and_true, false_or, or_false, false_and, and_false, i_l64, i_lN, l_eq, l_lt, l_le] at g6
  intro n
  induction n with
  | zero =>
    intro y_9 y_10 i0 i1 im
    exfalso
    first | omega | ((try simp (disch := decide) only [i_add, i_sub, i_mul, i_0, i_1, i_m1, i_m2, i_m3, i_m4, i_nI, i_eq, i_lt, i_le, i_clamp, true_or, or_true, true_and, and_true, false_or, or_false, false_and, and_false, i_l64, i_lN, l_eq, l_lt, l_le]) <;> omega)
  | succ n ih =>
    intro y_9 y_10 i0 i1 im
    rw [LX9_weigh_43]
    try simp (disch := decide) only [i_add, i_sub, i_mul, i_0, i_1, i_m1, i_m2, i_m3, i_m4, i_nI, i_eq, i_lt, i_le, i_clamp, true_or, or_true, true_and, and_true, false_or, or_false, false_and, and_false, i_l64, i_lN, l_eq, l_lt, l_le] at i0
    try simp (disch := decide) only [i_add, i_sub, i_mul, i_0, i_1, i_m1, i_m2, i_m3, i_m4, i_nI, i_eq, i_lt, i_le, i_clamp, true_or, or_true, true_and, and_true, false_or, or_false, false_and, and_false, i_l64, i_lN, l_eq, l_lt, l_le] at i1
    try simp (disch := decide) only [i_add, i_sub, i_mul, i_0, i_1, i_m1, i_m2, i_m3, i_m4, i_nI, i_eq, i_lt, i_le, i_clamp, true_or, or_true, true_and, and_true, false_or, or_false, false_and, and_false, i_l64, i_lN, l_eq, l_lt, l_le] at im
    have p1 := read_0 (post_read (show arrOK pstC f_post by assumption))
    try simp (disch := decide) only [i_add, i_sub, i_mul, i_0, i_1, i_m1, i_m2, i_m3, i_m4, i_nI, i_eq, i_lt, i_le, i_clamp, true_or, or_true, true_and, and_true, false_or, or_false, false_and, and_false, i_l64, i_lN, l_eq, l_lt, l_le] at p1
    have p2 := read_1 (post_read (show arrOK pstC f_post by assumption))
    try simp (disch := decide) only [i_add, i_sub, i_mul, i_0, i_1, i_m1, i_m2, i_m3, i_m4, i_nI, i_eq, i_lt, i_le, i_clamp, true_or, or_true, true_and, and_true, false_or, or_false, false_and, and_false, i_l64, i_lN, l_eq, l_lt, l_le] at p2
    have p3 := post_2 (show arrOK pstC f_post by assumption)
    try simp (disch := decide) only [i_add, i_sub, i_mul, i_0, i_1, i_m1, i_m2, i_m3, i_m4, i_nI, i_eq, i_lt, i_le, i_clamp, true_or, or_true, true_and, and_true, false_or, or_false, false_and, and_false, i_l64, i_lN, l_eq, l_lt, l_le] at p3
    refine ok_vi (fun h4 => ?_) (fun h4 => ?_)
    · try simp (disch := decide) only [i_add, i_sub, i_mul, i_0, i_1, i_m1, i_m2, i_m3, i_m4, i_nI, i_eq, i_lt, i_le, i_clamp, true_or, or_true, true_and, and_true, false_or, or_false, false_and, and_false, i_l64, i_lN, l_eq, l_lt, l_le] at h4
      exact hK _ 
    · try simp (disch := decide) only [i_add, i_sub, i_mul, i_0, i_1, i_m1, i_m2, i_m3, i_m4, i_nI, i_eq, i_lt, i_le, i_clamp, true_or, or_true, true_and, and_true, false_or, or_false, false_and, and_false, i_l64, i_lN, l_eq, l_lt, l_le] at h4
      refine ok_vg (vin_of (by first | omega | ((try simp (disch := decide) only [i_add, i_sub, i_mul, i_0, i_1, i_m1, i_m2, i_m3, i_m4, i_nI, i_eq, i_lt, i_le, i_clamp, true_or, or_true, true_and, and_true, false_or, or_false, false_and, and_false, i_l64, i_lN, l_eq, l_lt, l_le]) <;> omega)) (by first | omega | ((try simp (disch := decide) only [i_add, i_sub, i_mul, i_0, i_1, i_m1, i_m2, i_m3, i_m4, i_nI, i_eq, i_lt, i_le, i_clamp, true_or, or_true, true_and, and_true, false_or, or_false, false_and, and_false, i_l64, i_lN, l_eq, l_lt, l_le]) <;> omega))) ?_
      have hs := sg_at (show sgOK f_p2 y_3.toInt y_4.toInt by assumption) y_10 (by omega) (by omega) (by omega) (by omega) (by omega)
      try simp (disch := decide) only [i_add, i_sub, i_mul, i_0, i_1, i_m1, i_m2, i_m3, i_m4, i_nI, i_eq, i_lt, i_le, i_clamp, true_or, or_true, true_and, and_true, false_or, or_false, false_and, and_false, i_l64, i_lN, l_eq, l_lt, l_le] at hs
      refine ok_vb (sX9_times_ok  _ _ _ _ _ _ (by first | omega | ((try simp (disch := decide) only [i_add, i_sub, i_mul, i_0, i_1, i_m1, i_m2, i_m3, i_m4, i_nI, i_eq, i_lt, i_le, i_clamp, true_or, or_true, true_and, and_true, false_or, or_false, false_and, and_false, i_l64, i_lN, l_eq, l_lt, l_le]) <;> omega)) (by first | omega | ((try simp (disch := decide) only [i_add, i_sub, i_mul, i_0, i_1, i_m1, i_m2, i_m3, i_m4, i_nI, i_eq, i_lt, i_le, i_clamp, true_or, or_true, true_and, and_true, false_or, or_false, false_and, and_false, i_l64, i_lN, l_eq, l_lt, l_le]) <;> omega)) (by first | omega | ((try simp (disch := decide) only [i_add, i_sub, i_mul, i_0, i_1, i_m1, i_m2, i_m3, i_m4, i_nI, i_eq, i_lt, i_le, i_clamp, true_or, or_true, true_and, and_true, false_or, or_false, false_and, and_false, i_l64, i_lN, l_eq, l_lt, l_le]) <;> omega)) (by first | omega | ((try simp (disch := decide) only [i_add, i_sub, i_mul, i_0, i_1, i_m1, i_m2, i_m3, i_m4, i_nI, i_eq, i_lt, i_le, i_clamp, true_or, or_true, true_and, and_true, false_or, or_false, false_and, and_false, i_l64, i_lN, l_eq, l_lt, l_le]) <;> omega))) fun z3 _ => ?_
      refine ok_vlet fun y4 hy5 => ?_
      try simp (disch := decide) only [i_add, i_sub, i_mul, i_0, i_1, i_m1, i_m2, i_m3, i_m4, i_nI, i_eq, i_lt, i_le, i_clamp, true_or, or_true, true_and, and_true, false_or, or_false, false_and, and_false, i_l64, i_lN, l_eq, l_lt, l_le] at hy5
      refine ok_vlet fun y5 hy6 => ?_
      try simp (disch := decide) only [i_add, i_sub, i_mul, i_0, i_1, i_m1, i_m2, i_m3, i_m4, i_nI, i_eq, i_lt, i_le, i_clamp, true_or, or_true, true_and, and_true, false_or, or_false, false_and, and_false, i_l64, i_lN, l_eq, l_lt, l_le] at hy6
      exact ih _ _ (by first | omega | ((try simp (disch := decide) only [i_add, i_sub, i_mul, i_0, i_1, i_m1, i_m2, i_m3, i_m4, i_nI, i_eq, i_lt, i_le, i_clamp, true_or, or_true, true_and, and_true, false_or, or_false, false_and, and_false, i_l64, i_lN, l_eq, l_lt, l_le]) <;> omega)) (by first | omega | ((try simp (disch := decide) only [i_add, i_sub, i_mul, i_0, i_1, i_m1, i_m2, i_m3, i_m4, i_nI, i_eq, i_lt, i_le, i_clamp, true_or, or_true, true_and, and_true, false_or, or_false, false_and, and_false, i_l64, i_lN, l_eq, l_lt, l_le]) <;> omega)) (by first | omega | ((try simp (disch := decide) only [i_add, i_sub, i_mul, i_0, i_1, i_m1, i_m2, i_m3, i_m4, i_nI, i_eq, i_lt, i_le, i_clamp, true_or, or_true, true_and, and_true, false_or, or_false, false_and, and_false, i_l64, i_lN, l_eq, l_lt, l_le]) <;> omega))
set_option maxHeartbeats 1000000 in
set_option maxRecDepth 20000 in
theorem LX9_weigh_3_ok  (y_1 : Int32) (y_3 : Int32) (y_4 : Int32) (y_5 : Int32) (y_6 : Int32) (y_7 : Int32) (f_post : Nat → Int32) (f_p2 : Nat → Int32) (n_p2 : Nat) (g0 : arrOK pstC f_post) (g1 : 0 ≤ y_3.toInt) (g2 : y_3.toInt ≤ 1000) (g3 : y_4.toInt ≤ 5) (g4 : y_3.toInt + y_4.toInt ≤ (n_p2 : Int)) (g5 : sgOK f_p2 y_3.toInt y_4.toInt)  : ∀ (n : Nat) (y_8 : Int32) (f_weights : (Nat → Int32)) (i0 : 0 ≤ y_8.toInt) (i1 : y_8.toInt ≤ 8) (im : 8 - y_8.toInt < (n : Int)), ok (LX9_weigh_3 y_1 y_3 y_4 y_5 y_6 y_7 f_post f_p2 n_p2 n y_8 f_weights) (fun _ => True) := by
  try simp (disch := decide) only [i_add, i_sub, i_mul, i_0, i_1, i_m1, i_m2, i_m3, i_m4, i_nI, i_eq, i_lt, i_le, i_clamp, true_or, or_true, true_and, and_true, false_or, or_false, false_and, and_false, i_l64, i_lN, l_eq, l_lt, l_le] at g1
  try simp (disch := decide) only [i_add, i_sub, i_mul, i_0, i_1, i_m1, i_m2, i_m3, i_m4, i_nI, i_eq, i_lt, i_le, i_clamp, true_or, or_true, true_and, and_true, false_or, or_false, false_and, and_false, i_l64, i_lN, l_eq, l_lt, l_le] at g2
  try simp (disch := decide) only [i_add, i_sub, i_mul, i_0, i_1, i_m1, i_m2, i_m3, i_m4, i_nI, i_eq, i_lt, i_le, i_clamp, true_or, or_true, true_and, and_true, false_or, or_false, false_and, and_false, i_l64, i_lN, l_eq, l_lt, l_le] at g3
  try simp (disch := decide) only [i_add, i_sub, i_mul, i_0, i_1, i_m1, i_m2, i_m3, i_m4, i_nI, i_eq, i_lt, i_le, i_clamp, true_or, or_true, true_and, and_true, false_or, or_false, false_and, and_false, i_l64, i_lN, l_eq, l_lt, l_le] at g4
  intro n
  induction n with
  | zero =>
    intro y_8 f_weights i0 i1 im
    exfalso
    first | omega | ((try simp (disch := decide) only [i_add, i_sub, i_mul, i_0, i_1, i_m1, i_m2, i_m3, i_m4, i_nI, i_eq, i_lt, i_le, i_clamp, true_or, or_true, true_and, and_true, false_or, or_false, false_and, and_false, i_l64, i_lN, l_eq, l_lt, l_le]) <;> omega)
  | succ n ih =>
    intro y_8 f_weights i0 i1 im
    rw [LX9_weigh_3]
    try simp (disch := decide) only [i_add, i_sub, i_mul, i_0, i_1, i_m1, i_m2, i_m3, i_m4, i_nI, i_eq, i_lt, i_le, i_clamp, true_or, or_true, true_and, and_true, false_or, or_false, false_and, and_false, i_l64, i_lN, l_eq, l_lt, l_le] at i0
    try simp (disch := decide) only [i_add, i_sub, i_mul, i_0, i_1, i_m1, i_m2, i_m3, i_m4, i_nI, i_eq, i_lt, i_le, i_clamp, true_or, or_true, true_and, and_true, false_or, or_false, false_and, and_false, i_l64, i_lN, l_eq, l_lt, l_le] at i1
    try simp (disch := decide) only [i_add, i_sub, i_mul, i_0, i_1, i_m1, i_m2, i_m3, i_m4, i_nI, i_eq, i_lt, i_le, i_clamp, true_or, or_true, true_and, and_true, false_or, or_false, false_and, and_false, i_l64, i_lN, l_eq, l_lt, l_le] at im
    have p1 := read_0 (post_read (show arrOK pstC f_post by assumption))
    try simp (disch := decide) only [i_add, i_sub, i_mul, i_0, i_1, i_m1, i_m2, i_m3, i_m4, i_nI, i_eq, i_lt, i_le, i_clamp, true_or, or_true, true_and, and_true, false_or, or_false, false_and, and_false, i_l64, i_lN, l_eq, l_lt, l_le] at p1
    have p2 := read_1 (post_read (show arrOK pstC f_post by assumption))
    try simp (disch := decide) only [i_add, i_sub, i_mul, i_0, i_1, i_m1, i_m2, i_m3, i_m4, i_nI, i_eq, i_lt, i_le, i_clamp, true_or, or_true, true_and, and_true, false_or, or_false, false_and, and_false, i_l64, i_lN, l_eq, l_lt, l_le] at p2
    have p3 := post_2 (show arrOK pstC f_post by assumption)
    try simp (disch := decide) only [i_add, i_sub, i_mul, i_0, i_1, i_m1, i_m2, i_m3, i_m4, i_nI, i_eq, i_lt, i_le, i_clamp, true_or, or_true, true_and, and_true, false_or, or_false, false_and, and_false, i_l64, i_lN, l_eq, l_lt, l_le] at p3
    refine ok_vi (fun h4 => ?_) (fun h4 => ?_)
    · try simp (disch := decide) only [i_add, i_sub, i_mul, i_0, i_1, i_m1, i_m2, i_m3, i_m4, i_nI, i_eq, i_lt, i_le, i_clamp, true_or, or_true, true_and, and_true, false_or, or_false, false_and, and_false, i_l64, i_lN, l_eq, l_lt, l_le] at h4
      exact ok_some trivial
    · try simp (disch := decide) only [i_add, i_sub, i_mul, i_0, i_1, i_m1, i_m2, i_m3, i_m4, i_nI, i_eq, i_lt, i_le, i_clamp, true_or, or_true, true_and, and_true, false_or, or_false, false_and, and_false, i_l64, i_lN, l_eq, l_lt, l_le] at h4
      refine ok_vb (sX9_has_ok  _ _ ) fun z7 hz5 => ?_
      try simp (disch := decide) only [i_add, i_sub, i_mul, i_0, i_1, i_m1, i_m2, i_m3, i_m4, i_nI, i_eq, i_lt, i_le, i_clamp, true_or, or_true, true_and, and_true, false_or, or_false, false_and, and_false, i_l64, i_lN, l_eq, l_lt, l_le] at hz5
      refine ok_vi (fun h6 => ?_) (fun h6 => ?_)
      · try simp (disch := decide) only [i_add, i_sub, i_mul, i_0, i_1, i_m1, i_m2, i_m3, i_m4, i_nI, i_eq, i_lt, i_le, i_clamp, true_or, or_true, true_and, and_true, false_or, or_false, false_and, and_false, i_l64, i_lN, l_eq, l_lt, l_le] at h6
        refine ok_vg (vin_of (by first | omega | ((try simp (disch := decide) only [i_add, i_sub, i_mul, i_0, i_1, i_m1, i_m2, i_m3, i_m4, i_nI, i_eq, i_lt, i_le, i_clamp, true_or, or_true, true_and, and_true, false_or, or_false, false_and, and_false, i_l64, i_lN, l_eq, l_lt, l_le]) <;> omega)) (by first | omega | ((try simp (disch := decide) only [i_add, i_sub, i_mul, i_0, i_1, i_m1, i_m2, i_m3, i_m4, i_nI, i_eq, i_lt, i_le, i_clamp, true_or, or_true, true_and, and_true, false_or, or_false, false_and, and_false, i_l64, i_lN, l_eq, l_lt, l_le]) <;> omega))) ?_
        refine ok_vlet fun y10 hy7 => ?_
        try simp (disch := decide) only [i_add, i_sub, i_mul, i_0, i_1, i_m1, i_m2, i_m3, i_m4, i_nI, i_eq, i_lt, i_le, i_clamp, true_or, or_true, true_and, and_true, false_or, or_false, false_and, and_false, i_l64, i_lN, l_eq, l_lt, l_le] at hy7
        refine LX9_weigh_43_ok  _ _ _ _ _ _ _ _ _ _ (by first | assumption) (by first | omega | ((try simp (disch := decide) only [i_add, i_sub, i_mul, i_0, i_1, i_m1, i_m2, i_m3, i_m4, i_nI, i_eq, i_lt, i_le, i_clamp, true_or, or_true, true_and, and_true, false_or, or_false, false_and, and_false, i_l64, i_lN, l_eq, l_lt, l_le]) <;> omega)) (by first | omega | ((try simp (disch := decide) only [i_add, i_sub, i_mul, i_0, i_1, i_m1, i_m2, i_m3, i_m4, i_nI, i_eq, i_lt, i_le, i_clamp, true_or, or_true, true_and, and_true, false_or, or_false, false_and, and_false, i_l64, i_lN, l_eq, l_lt, l_le]) <;> omega)) (by first | omega | ((try simp (disch := decide) only [i_add, i_sub, i_mul, i_0, i_1, i_m1, i_m2, i_m3, i_m4, i_nI, i_eq, i_lt, i_le, i_clamp, true_or, or_true, true_and, and_true, false_or, or_false, false_and, and_false, i_l64, i_lN, l_eq, l_lt, l_le]) <;> omega)) (by first | omega | ((try simp (disch := decide) only [i_add, i_sub, i_mul, i_0, i_1, i_m1, i_m2, i_m3, i_m4, i_nI, i_eq, i_lt, i_le, i_clamp, true_or, or_true, true_and, and_true, false_or, or_false, false_and, and_false, i_l64, i_lN, l_eq, l_lt, l_le]) <;> omega)) (by first | omega | ((try simp (disch := decide) only [i_add, i_sub, i_mul, i_0, i_1, i_m1, i_m2, i_m3, i_m4, i_nI, i_eq, i_lt, i_le, i_clamp, true_or, or_true, true_and, and_true, false_or, or_false, false_and, and_false, i_l64, i_lN, l_eq, l_lt, l_le]) <;> omega)) (by first | omega | ((try simp (disch := decide) only [i_add, i_sub, i_mul, i_0, i_1, i_m1, i_m2, i_m3, i_m4, i_nI, i_eq, i_lt, i_le, i_clamp, true_or, or_true, true_and, and_true, false_or, or_false, false_and, and_false, i_l64, i_lN, l_eq, l_lt, l_le]) <;> omega)) (by first | assumption) ?_ _ _ _ (by first | omega | ((try simp (disch := decide) only [i_add, i_sub, i_mul, i_0, i_1, i_m1, i_m2, i_m3, i_m4, i_nI, i_eq, i_lt, i_le, i_clamp, true_or, or_true, true_and, and_true, false_or, or_false, false_and, and_false, i_l64, i_lN, l_eq, l_lt, l_le]) <;> omega)) (by first | omega | ((try simp (disch := decide) only [i_add, i_sub, i_mul, i_0, i_1, i_m1, i_m2, i_m3, i_m4, i_nI, i_eq, i_lt, i_le, i_clamp, true_or, or_true, true_and, and_true, false_or, or_false, false_and, and_false, i_l64, i_lN, l_eq, l_lt, l_le]) <;> omega)) (by rw [vF_int]; first | omega | ((try simp (disch := decide) only [i_add, i_sub, i_mul, i_0, i_1, i_m1, i_m2, i_m3, i_m4, i_nI, i_eq, i_lt, i_le, i_clamp, true_or, or_true, true_and, and_true, false_or, or_false, false_and, and_false, i_l64, i_lN, l_eq, l_lt, l_le]) <;> omega))
        intro v11 
        refine ok_vg (vin_of (by first | omega | ((try simp (disch := decide) only [i_add, i_sub, i_mul, i_0, i_1, i_m1, i_m2, i_m3, i_m4, i_nI, i_eq, i_lt, i_le, i_clamp, true_or, or_true, true_and, and_true, false_or, or_false, false_and, and_false, i_l64, i_lN, l_eq, l_lt, l_le]) <;> omega)) (by first | omega | ((try simp (disch := decide) only [i_add, i_sub, i_mul, i_0, i_1, i_m1, i_m2, i_m3, i_m4, i_nI, i_eq, i_lt, i_le, i_clamp, true_or, or_true, true_and, and_true, false_or, or_false, false_and, and_false, i_l64, i_lN, l_eq, l_lt, l_le]) <;> omega))) ?_
        refine ok_vlet fun u13 hy8 => ?_
        subst hy8
        refine ok_vlet fun y14 hy9 => ?_
        try simp (disch := decide) only [i_add, i_sub, i_mul, i_0, i_1, i_m1, i_m2, i_m3, i_m4, i_nI, i_eq, i_lt, i_le, i_clamp, true_or, or_true, true_and, and_true, false_or, or_false, false_and, and_false, i_l64, i_lN, l_eq, l_lt, l_le] at hy9
        exact ih _ _ (by first | omega | ((try simp (disch := decide) only [i_add, i_sub, i_mul, i_0, i_1, i_m1, i_m2, i_m3, i_m4, i_nI, i_eq, i_lt, i_le, i_clamp, true_or, or_true, true_and, and_true, false_or, or_false, false_and, and_false, i_l64, i_lN, l_eq, l_lt, l_le]) <;> omega)) (by first | omega | ((try simp (disch := decide) only [i_add, i_sub, i_mul, i_0, i_1, i_m1, i_m2, i_m3, i_m4, i_nI, i_eq, i_lt, i_le, i_clamp, true_or, or_true, true_and, and_true, false_or, or_false, false_and, and_false, i_l64, i_lN, l_eq, l_lt, l_le]) <;> omega)) (by first | omega | ((try simp (disch := decide) only [i_add, i_sub, i_mul, i_0, i_1, i_m1, i_m2, i_m3, i_m4, i_nI, i_eq, i_lt, i_le, i_clamp, true_or, or_true, true_and, and_true, false_or, or_false, false_and, and_false, i_l64, i_lN, l_eq, l_lt, l_le]) <;> omega))
      · try simp (disch := decide) only [i_add, i_sub, i_mul, i_0, i_1, i_m1, i_m2, i_m3, i_m4, i_nI, i_eq, i_lt, i_le, i_clamp, true_or, or_true, true_and, and_true, false_or, or_false, false_and, and_false, i_l64, i_lN, l_eq, l_lt, l_le] at h6
        refine LX9_weigh_43_ok  _ _ _ _ _ _ _ _ _ _ (by first | assumption) (by first | omega | ((try simp (disch := decide) only [i_add, i_sub, i_mul, i_0, i_1, i_m1, i_m2, i_m3, i_m4, i_nI, i_eq, i_lt, i_le, i_clamp, true_or, or_true, true_and, and_true, false_or, or_false, false_and, and_false, i_l64, i_lN, l_eq, l_lt, l_le]) <;> omega)) (by first | omega | ((try simp (disch := decide) only [i_add, i_sub, i_mul, i_0, i_1, i_m1, i_m2, i_m3, i_m4, i_nI, i_eq, i_lt, i_le, i_clamp, true_or, or_true, true_and, and_true, false_or, or_false, false_and, and_false, i_l64, i_lN, l_eq, l_lt, l_le]) <;> omega)) (by first | omega | ((try simp (disch := decide) only [i_add, i_sub, i_mul, i_0, i_1, i_m1, i_m2, i_m3, i_m4, i_nI, i_eq, i_lt, i_le, i_clamp, true_or, or_true, true_and, and_true, false_or, or_false, false_and, and_false, i_l64, i_lN, l_eq, l_lt, l_le]) <;> omega)) (by first | omega | ((try simp (disch := decide) only [i_add, i_sub, i_mul, i_0, i_1, i_m1, i_m2, i_m3, i_m4, i_nI, i_eq, i_lt, i_le, i_clamp, true_or, or_true, true_and, and_true, false_or, or_false, false_and, and_false, i_l64, i_lN, l_eq, l_lt, l_le]) <;> omega)) (by first | omega | ((try simp (disch := decide) only [i_add, i_sub, i_mul, i_0, i_1, i_m1, i_m2, i_m3, i_m4, i_nI, i_eq, i_lt, i_le, i_clamp, true_or, or_true, true_and, and_true, false_or, or_false, false_and, and_false, i_l64, i_lN, l_eq, l_lt, l_le]) <;> omega)) (by first | omega | ((try simp (disch := decide) only [i_add, i_sub, i_mul, i_0, i_1, i_m1, i_m2, i_m3, i_m4, i_nI, i_eq, i_lt, i_le, i_clamp, true_or, or_true, true_and, and_true, false_or, or_false, false_and, and_false, i_l64, i_lN, l_eq, l_lt, l_le]) <;> omega)) (by first | assumption) ?_ _ _ _ (by first | omega | ((try simp (disch := decide) only [i_add, i_sub, i_mul, i_0, i_1, i_m1, i_m2, i_m3, i_m4, i_nI, i_eq, i_lt, i_le, i_clamp, true_or, or_true, true_and, and_true, false_or, or_false, false_and, and_false, i_l64, i_lN, l_eq, l_lt, l_le]) <;> omega)) (by first | omega | ((try simp (disch := decide) only [i_add, i_sub, i_mul, i_0, i_1, i_m1, i_m2, i_m3, i_m4, i_nI, i_eq, i_lt, i_le, i_clamp, true_or, or_true, true_and, and_true, false_or, or_false, false_and, and_false, i_l64, i_lN, l_eq, l_lt, l_le]) <;> omega)) (by rw [vF_int]; first | omega | ((try simp (disch := decide) only [i_add, i_sub, i_mul, i_0, i_1, i_m1, i_m2, i_m3, i_m4, i_nI, i_eq, i_lt, i_le, i_clamp, true_or, or_true, true_and, and_true, false_or, or_false, false_and, and_false, i_l64, i_lN, l_eq, l_lt, l_le]) <;> omega))
        intro v15 
        refine ok_vg (vin_of (by first | omega | ((try simp (disch := decide) only [i_add, i_sub, i_mul, i_0, i_1, i_m1, i_m2, i_m3, i_m4, i_nI, i_eq, i_lt, i_le, i_clamp, true_or, or_true, true_and, and_true, false_or, or_false, false_and, and_false, i_l64, i_lN, l_eq, l_lt, l_le]) <;> omega)) (by first | omega | ((try simp (disch := decide) only [i_add, i_sub, i_mul, i_0, i_1, i_m1, i_m2, i_m3, i_m4, i_nI, i_eq, i_lt, i_le, i_clamp, true_or, or_true, true_and, and_true, false_or, or_false, false_and, and_false, i_l64, i_lN, l_eq, l_lt, l_le]) <;> omega))) ?_
        refine ok_vlet fun u17 hy10 => ?_
        subst hy10
        refine ok_vlet fun y18 hy11 => ?_
        try simp (disch := decide) only [i_add, i_sub, i_mul, i_0, i_1, i_m1, i_m2, i_m3, i_m4, i_nI, i_eq, i_lt, i_le, i_clamp, true_or, or_true, true_and, and_true, false_or, or_false, false_and, and_false, i_l64, i_lN, l_eq, l_lt, l_le] at hy11
        exact ih _ _ (by first | omega | ((try simp (disch := decide) only [i_add, i_sub, i_mul, i_0, i_1, i_m1, i_m2, i_m3, i_m4, i_nI, i_eq, i_lt, i_le, i_clamp, true_or, or_true, true_and, and_true, false_or, or_false, false_and, and_false, i_l64, i_lN, l_eq, l_lt, l_le]) <;> omega)) (by first | omega | ((try simp (disch := decide) only [i_add, i_sub, i_mul, i_0, i_1, i_m1, i_m2, i_m3, i_m4, i_nI, i_eq, i_lt, i_le, i_clamp, true_or, or_true, true_and, and_true, false_or, or_false, false_and, and_false, i_l64, i_lN, l_eq, l_lt, l_le]) <;> omega)) (by first | omega | ((try simp (disch := decide) only [i_add, i_sub, i_mul, i_0, i_1, i_m1, i_m2, i_m3, i_m4, i_nI, i_eq, i_lt, i_le, i_clamp, true_or, or_true, true_and, and_true, false_or, or_false, false_and, and_false, i_l64, i_lN, l_eq, l_lt, l_le]) <;> omega))
set_option maxHeartbeats 1000000 in
set_option maxRecDepth 20000 in
theorem sX9_weigh_ok  (n_p2 : Nat) (f_post : Nat → Int32) (f_weights : Nat → Int32) (f_p2 : Nat → Int32) (x1 : Int32) (x3 : Int32) (x4 : Int32) (x5 : Int32) (x6 : Int32) (x7 : Int32) (g0 : arrOK pstC f_post) (g1 : 0 ≤ x3.toInt) (g2 : x3.toInt ≤ 1000) (g3 : x4.toInt ≤ 5) (g4 : x3.toInt + x4.toInt ≤ (n_p2 : Int)) (g5 : sgOK f_p2 x3.toInt x4.toInt) : ok (sX9_weigh n_p2 f_post f_weights f_p2 x1 x3 x4 x5 x6 x7) (fun _ => True) := by
  unfold sX9_weigh
  try simp (disch := decide) only [i_add, i_sub, i_mul, i_0, i_1, i_m1, i_m2, i_m3, i_m4, i_nI, i_eq, i_lt, i_le, i_clamp, true_or, or_true, true_and, and_true, false_or, or_false, false_and, and_false, i_l64, i_lN, l_eq, l_lt, l_le] at g1
  try simp (disch := decide) only [i_add, i_sub, i_mul, i_0, i_1, i_m1, i_m2, i_m3, i_m4, i_nI, i_eq, i_lt, i_le, i_clamp, true_or, or_true, true_and, and_true, false_or, or_false, false_and, and_false, i_l64, i_lN, l_eq, l_lt, l_le] at g2
  try simp (disch := decide) only [i_add, i_sub, i_mul, i_0, i_1, i_m1, i_m2, i_m3, i_m4, i_nI, i_eq, i_lt, i_le, i_clamp, true_or, or_true, true_and, and_true, false_or, or_false, false_and, and_false, i_l64, i_lN, l_eq, l_lt, l_le] at g3
  try simp (disch := decide) only [i_add, i_sub, i_mul, i_0, i_1, i_m1, i_m2, i_m3, i_m4, i_nI, i_eq, i_lt, i_le, i_clamp, true_or, or_true, true_and, and_true, false_or, or_false, false_and, and_false, i_l64, i_lN, l_eq, l_lt, l_le] at g4
  have p1 := read_0 (post_read (show arrOK pstC f_post by assumption))
  try simp (disch := decide) only [i_add, i_sub, i_mul, i_0, i_1, i_m1, i_m2, i_m3, i_m4, i_nI, i_eq, i_lt, i_le, i_clamp, true_or, or_true, true_and, and_true, false_or, or_false, false_and, and_false, i_l64, i_lN, l_eq, l_lt, l_le] at p1
  have p2 := read_1 (post_read (show arrOK pstC f_post by assumption))
  try simp (disch := decide) only [i_add, i_sub, i_mul, i_0, i_1, i_m1, i_m2, i_m3, i_m4, i_nI, i_eq, i_lt, i_le, i_clamp, true_or, or_true, true_and, and_true, false_or, or_false, false_and, and_false, i_l64, i_lN, l_eq, l_lt, l_le] at p2
  have p3 := post_2 (show arrOK pstC f_post by assumption)
  try simp (disch := decide) only [i_add, i_sub, i_mul, i_0, i_1, i_m1, i_m2, i_m3, i_m4, i_nI, i_eq, i_lt, i_le, i_clamp, true_or, or_true, true_and, and_true, false_or, or_false, false_and, and_false, i_l64, i_lN, l_eq, l_lt, l_le] at p3
  exact LX9_weigh_3_ok  _ _ _ _ _ _ _ _ _ (by first | assumption) (by first | omega | ((try simp (disch := decide) only [i_add, i_sub, i_mul, i_0, i_1, i_m1, i_m2, i_m3, i_m4, i_nI, i_eq, i_lt, i_le, i_clamp, true_or, or_true, true_and, and_true, false_or, or_false, false_and, and_false, i_l64, i_lN, l_eq, l_lt, l_le]) <;> omega)) (by first | omega | ((try simp (disch := decide) only [i_add, i_sub, i_mul, i_0, i_1, i_m1, i_m2, i_m3, i_m4, i_nI, i_eq, i_lt, i_le, i_clamp, true_or, or_true, true_and, and_true, false_or, or_false, false_and, and_false, i_l64, i_lN, l_eq, l_lt, l_le]) <;> omega)) (by first | omega | ((try simp (disch := decide) only [i_add, i_sub, i_mul, i_0, i_1, i_m1, i_m2, i_m3, i_m4, i_nI, i_eq, i_lt, i_le, i_clamp, true_or, or_true, true_and, and_true, false_or, or_false, false_and, and_false, i_l64, i_lN, l_eq, l_lt, l_le]) <;> omega)) (by first | omega | ((try simp (disch := decide) only [i_add, i_sub, i_mul, i_0, i_1, i_m1, i_m2, i_m3, i_m4, i_nI, i_eq, i_lt, i_le, i_clamp, true_or, or_true, true_and, and_true, false_or, or_false, false_and, and_false, i_l64, i_lN, l_eq, l_lt, l_le]) <;> omega)) (by first | assumption) _ _ _ (by first | omega | ((try simp (disch := decide) only [i_add, i_sub, i_mul, i_0, i_1, i_m1, i_m2, i_m3, i_m4, i_nI, i_eq, i_lt, i_le, i_clamp, true_or, or_true, true_and, and_true, false_or, or_false, false_and, and_false, i_l64, i_lN, l_eq, l_lt, l_le]) <;> omega)) (by first | omega | ((try simp (disch := decide) only [i_add, i_sub, i_mul, i_0, i_1, i_m1, i_m2, i_m3, i_m4, i_nI, i_eq, i_lt, i_le, i_clamp, true_or, or_true, true_and, and_true, false_or, or_false, false_and, and_false, i_l64, i_lN, l_eq, l_lt, l_le]) <;> omega)) (by rw [vF_int]; first | omega | ((try simp (disch := decide) only [i_add, i_sub, i_mul, i_0, i_1, i_m1, i_m2, i_m3, i_m4, i_nI, i_eq, i_lt, i_le, i_clamp, true_or, or_true, true_and, and_true, false_or, or_false, false_and, and_false, i_l64, i_lN, l_eq, l_lt, l_le]) <;> omega))
set_option maxHeartbeats 1000000 in
set_option maxRecDepth 20000 in
theorem sX9_weighActor_ok  (f_post : Nat → Int32) (f_weights : Nat → Int32) (f_p1 : Nat → Int32) (x2 : Int32) (g0 : arrOK pstC f_post) (g1 : arrOK nowC f_p1) (g2 : 0 ≤ x2.toInt) (g3 : x2.toInt ≤ 4) : ok (sX9_weighActor f_post f_weights f_p1 x2) (fun _ => True) := by
  unfold sX9_weighActor
  try simp (disch := decide) only [i_add, i_sub, i_mul, i_0, i_1, i_m1, i_m2, i_m3, i_m4, i_nI, i_eq, i_lt, i_le, i_clamp, true_or, or_true, true_and, and_true, false_or, or_false, false_and, and_false, i_l64, i_lN, l_eq, l_lt, l_le] at g2
  try simp (disch := decide) only [i_add, i_sub, i_mul, i_0, i_1, i_m1, i_m2, i_m3, i_m4, i_nI, i_eq, i_lt, i_le, i_clamp, true_or, or_true, true_and, and_true, false_or, or_false, false_and, and_false, i_l64, i_lN, l_eq, l_lt, l_le] at g3
  have p1 := read_0 (post_read (show arrOK pstC f_post by assumption))
  try simp (disch := decide) only [i_add, i_sub, i_mul, i_0, i_1, i_m1, i_m2, i_m3, i_m4, i_nI, i_eq, i_lt, i_le, i_clamp, true_or, or_true, true_and, and_true, false_or, or_false, false_and, and_false, i_l64, i_lN, l_eq, l_lt, l_le] at p1
  have p2 := read_1 (post_read (show arrOK pstC f_post by assumption))
  try simp (disch := decide) only [i_add, i_sub, i_mul, i_0, i_1, i_m1, i_m2, i_m3, i_m4, i_nI, i_eq, i_lt, i_le, i_clamp, true_or, or_true, true_and, and_true, false_or, or_false, false_and, and_false, i_l64, i_lN, l_eq, l_lt, l_le] at p2
  have p3 := post_2 (show arrOK pstC f_post by assumption)
  try simp (disch := decide) only [i_add, i_sub, i_mul, i_0, i_1, i_m1, i_m2, i_m3, i_m4, i_nI, i_eq, i_lt, i_le, i_clamp, true_or, or_true, true_and, and_true, false_or, or_false, false_and, and_false, i_l64, i_lN, l_eq, l_lt, l_le] at p3
  have hr := ixR x2 g2 g3
  have hr2 := hr
  try simp (disch := decide) only [i_add, i_sub, i_mul, i_0, i_1, i_m1, i_m2, i_m3, i_m4, i_nI, i_eq, i_lt, i_le, i_clamp, true_or, or_true, true_and, and_true, false_or, or_false, false_and, and_false, i_l64, i_lN, l_eq, l_lt, l_le] at hr2
  refine ok_vg (vin_of (by first | omega | ((try simp (disch := decide) only [i_add, i_sub, i_mul, i_0, i_1, i_m1, i_m2, i_m3, i_m4, i_nI, i_eq, i_lt, i_le, i_clamp, true_or, or_true, true_and, and_true, false_or, or_false, false_and, and_false, i_l64, i_lN, l_eq, l_lt, l_le]) <;> omega)) (by first | omega | ((try simp (disch := decide) only [i_add, i_sub, i_mul, i_0, i_1, i_m1, i_m2, i_m3, i_m4, i_nI, i_eq, i_lt, i_le, i_clamp, true_or, or_true, true_and, and_true, false_or, or_false, false_and, and_false, i_l64, i_lN, l_eq, l_lt, l_le]) <;> omega))) ?_
  refine ok_vg (vin_of (by first | omega | ((try simp (disch := decide) only [i_add, i_sub, i_mul, i_0, i_1, i_m1, i_m2, i_m3, i_m4, i_nI, i_eq, i_lt, i_le, i_clamp, true_or, or_true, true_and, and_true, false_or, or_false, false_and, and_false, i_l64, i_lN, l_eq, l_lt, l_le]) <;> omega)) (by first | omega | ((try simp (disch := decide) only [i_add, i_sub, i_mul, i_0, i_1, i_m1, i_m2, i_m3, i_m4, i_nI, i_eq, i_lt, i_le, i_clamp, true_or, or_true, true_and, and_true, false_or, or_false, false_and, and_false, i_l64, i_lN, l_eq, l_lt, l_le]) <;> omega))) ?_
  refine ok_vg (vin_of (by first | omega | ((try simp (disch := decide) only [i_add, i_sub, i_mul, i_0, i_1, i_m1, i_m2, i_m3, i_m4, i_nI, i_eq, i_lt, i_le, i_clamp, true_or, or_true, true_and, and_true, false_or, or_false, false_and, and_false, i_l64, i_lN, l_eq, l_lt, l_le]) <;> omega)) (by first | omega | ((try simp (disch := decide) only [i_add, i_sub, i_mul, i_0, i_1, i_m1, i_m2, i_m3, i_m4, i_nI, i_eq, i_lt, i_le, i_clamp, true_or, or_true, true_and, and_true, false_or, or_false, false_and, and_false, i_l64, i_lN, l_eq, l_lt, l_le]) <;> omega))) ?_
  try (have q4 := now_S (show arrOK nowC f_p1 by assumption) x2 (by first | omega | ((try simp (disch := decide) only [i_add, i_sub, i_mul, i_0, i_1, i_m1, i_m2, i_m3, i_m4, i_nI, i_eq, i_lt, i_le, i_clamp, true_or, or_true, true_and, and_true, false_or, or_false, false_and, and_false, i_l64, i_lN, l_eq, l_lt, l_le]) <;> omega)) (by first | omega | ((try simp (disch := decide) only [i_add, i_sub, i_mul, i_0, i_1, i_m1, i_m2, i_m3, i_m4, i_nI, i_eq, i_lt, i_le, i_clamp, true_or, or_true, true_and, and_true, false_or, or_false, false_and, and_false, i_l64, i_lN, l_eq, l_lt, l_le]) <;> omega)))
  try simp (disch := decide) only [i_add, i_sub, i_mul, i_0, i_1, i_m1, i_m2, i_m3, i_m4, i_nI, i_eq, i_lt, i_le, i_clamp, true_or, or_true, true_and, and_true, false_or, or_false, false_and, and_false, i_l64, i_lN, l_eq, l_lt, l_le] at q4
  try (have q5 := now_G (show arrOK nowC f_p1 by assumption) x2 (by first | omega | ((try simp (disch := decide) only [i_add, i_sub, i_mul, i_0, i_1, i_m1, i_m2, i_m3, i_m4, i_nI, i_eq, i_lt, i_le, i_clamp, true_or, or_true, true_and, and_true, false_or, or_false, false_and, and_false, i_l64, i_lN, l_eq, l_lt, l_le]) <;> omega)) (by first | omega | ((try simp (disch := decide) only [i_add, i_sub, i_mul, i_0, i_1, i_m1, i_m2, i_m3, i_m4, i_nI, i_eq, i_lt, i_le, i_clamp, true_or, or_true, true_and, and_true, false_or, or_false, false_and, and_false, i_l64, i_lN, l_eq, l_lt, l_le]) <;> omega)))
  try simp (disch := decide) only [i_add, i_sub, i_mul, i_0, i_1, i_m1, i_m2, i_m3, i_m4, i_nI, i_eq, i_lt, i_le, i_clamp, true_or, or_true, true_and, and_true, false_or, or_false, false_and, and_false, i_l64, i_lN, l_eq, l_lt, l_le] at q5
  refine ok_vb (sX9_weigh_ok  _ _ _ _ _ _ _ _ _ _ (by first | exact sg_mono (sg_now (by assumption) x2 (by omega) (by omega)) (by first | omega | ((try simp (disch := decide) only [i_add, i_sub, i_mul, i_0, i_1, i_m1, i_m2, i_m3, i_m4, i_nI, i_eq, i_lt, i_le, i_clamp, true_or, or_true, true_and, and_true, false_or, or_false, false_and, and_false, i_l64, i_lN, l_eq, l_lt, l_le]) <;> omega)) | assumption) (by first | omega | ((try simp (disch := decide) only [i_add, i_sub, i_mul, i_0, i_1, i_m1, i_m2, i_m3, i_m4, i_nI, i_eq, i_lt, i_le, i_clamp, true_or, or_true, true_and, and_true, false_or, or_false, false_and, and_false, i_l64, i_lN, l_eq, l_lt, l_le]) <;> omega)) (by first | omega | ((try simp (disch := decide) only [i_add, i_sub, i_mul, i_0, i_1, i_m1, i_m2, i_m3, i_m4, i_nI, i_eq, i_lt, i_le, i_clamp, true_or, or_true, true_and, and_true, false_or, or_false, false_and, and_false, i_l64, i_lN, l_eq, l_lt, l_le]) <;> omega)) (by first | omega | ((try simp (disch := decide) only [i_add, i_sub, i_mul, i_0, i_1, i_m1, i_m2, i_m3, i_m4, i_nI, i_eq, i_lt, i_le, i_clamp, true_or, or_true, true_and, and_true, false_or, or_false, false_and, and_false, i_l64, i_lN, l_eq, l_lt, l_le]) <;> omega)) (by first | omega | ((try simp (disch := decide) only [i_add, i_sub, i_mul, i_0, i_1, i_m1, i_m2, i_m3, i_m4, i_nI, i_eq, i_lt, i_le, i_clamp, true_or, or_true, true_and, and_true, false_or, or_false, false_and, and_false, i_l64, i_lN, l_eq, l_lt, l_le]) <;> omega)) (by first | exact sg_mono (sg_now (by assumption) x2 (by omega) (by omega)) (by first | omega | ((try simp (disch := decide) only [i_add, i_sub, i_mul, i_0, i_1, i_m1, i_m2, i_m3, i_m4, i_nI, i_eq, i_lt, i_le, i_clamp, true_or, or_true, true_and, and_true, false_or, or_false, false_and, and_false, i_l64, i_lN, l_eq, l_lt, l_le]) <;> omega)) | assumption)) fun z4 _ => ?_
  exact ok_some trivial
set_option maxHeartbeats 1000000 in
set_option maxRecDepth 20000 in
theorem LX9_greatest_5_ok  (f_post : Nat → Int32) (f_p1 : Nat → Int32) (g0 : arrOK pstC f_post)  : ∀ (n : Nat) (y_2 : Int32) (y_3 : Int32) (i0 : 0 ≤ y_3.toInt) (i1 : y_3.toInt ≤ 8) (i2 : y_2.toInt = -4 ∨ 0 ≤ y_2.toInt ∧ y_2.toInt ≤ 7) (im : 8 - y_3.toInt < (n : Int)), ok (LX9_greatest_5 f_post f_p1 n y_2 y_3) (fun z => z.toInt = -4 ∨ 0 ≤ z.toInt ∧ z.toInt ≤ 7) := by
  intro n
  induction n with
  | zero =>
    intro y_2 y_3 i0 i1 i2 im
    exfalso
    first | omega | ((try simp (disch := decide) only [i_add, i_sub, i_mul, i_0, i_1, i_m1, i_m2, i_m3, i_m4, i_nI, i_eq, i_lt, i_le, i_clamp, true_or, or_true, true_and, and_true, false_or, or_false, false_and, and_false, i_l64, i_lN, l_eq, l_lt, l_le]) <;> omega)
  | succ n ih =>
    intro y_2 y_3 i0 i1 i2 im
    rw [LX9_greatest_5]
    try simp (disch := decide) only [i_add, i_sub, i_mul, i_0, i_1, i_m1, i_m2, i_m3, i_m4, i_nI, i_eq, i_lt, i_le, i_clamp, true_or, or_true, true_and, and_true, false_or, or_false, false_and, and_false, i_l64, i_lN, l_eq, l_lt, l_le] at i0
    try simp (disch := decide) only [i_add, i_sub, i_mul, i_0, i_1, i_m1, i_m2, i_m3, i_m4, i_nI, i_eq, i_lt, i_le, i_clamp, true_or, or_true, true_and, and_true, false_or, or_false, false_and, and_false, i_l64, i_lN, l_eq, l_lt, l_le] at i1
    try simp (disch := decide) only [i_add, i_sub, i_mul, i_0, i_1, i_m1, i_m2, i_m3, i_m4, i_nI, i_eq, i_lt, i_le, i_clamp, true_or, or_true, true_and, and_true, false_or, or_false, false_and, and_false, i_l64, i_lN, l_eq, l_lt, l_le] at i2
    try simp (disch := decide) only [i_add, i_sub, i_mul, i_0, i_1, i_m1, i_m2, i_m3, i_m4, i_nI, i_eq, i_lt, i_le, i_clamp, true_or, or_true, true_and, and_true, false_or, or_false, false_and, and_false, i_l64, i_lN, l_eq, l_lt, l_le] at im
    have p1 := read_0 (post_read (show arrOK pstC f_post by assumption))
    try simp (disch := decide) only [i_add, i_sub, i_mul, i_0, i_1, i_m1, i_m2, i_m3, i_m4, i_nI, i_eq, i_lt, i_le, i_clamp, true_or, or_true, true_and, and_true, false_or, or_false, false_and, and_false, i_l64, i_lN, l_eq, l_lt, l_le] at p1
    have p2 := read_1 (post_read (show arrOK pstC f_post by assumption))
    try simp (disch := decide) only [i_add, i_sub, i_mul, i_0, i_1, i_m1, i_m2, i_m3, i_m4, i_nI, i_eq, i_lt, i_le, i_clamp, true_or, or_true, true_and, and_true, false_or, or_false, false_and, and_false, i_l64, i_lN, l_eq, l_lt, l_le] at p2
    have p3 := post_2 (show arrOK pstC f_post by assumption)
    try simp (disch := decide) only [i_add, i_sub, i_mul, i_0, i_1, i_m1, i_m2, i_m3, i_m4, i_nI, i_eq, i_lt, i_le, i_clamp, true_or, or_true, true_and, and_true, false_or, or_false, false_and, and_false, i_l64, i_lN, l_eq, l_lt, l_le] at p3
    refine ok_vi (fun h4 => ?_) (fun h4 => ?_)
    · try simp (disch := decide) only [i_add, i_sub, i_mul, i_0, i_1, i_m1, i_m2, i_m3, i_m4, i_nI, i_eq, i_lt, i_le, i_clamp, true_or, or_true, true_and, and_true, false_or, or_false, false_and, and_false, i_l64, i_lN, l_eq, l_lt, l_le] at h4
      refine ok_some ?_
      · first | omega | ((try simp (disch := decide) only [i_add, i_sub, i_mul, i_0, i_1, i_m1, i_m2, i_m3, i_m4, i_nI, i_eq, i_lt, i_le, i_clamp, true_or, or_true, true_and, and_true, false_or, or_false, false_and, and_false, i_l64, i_lN, l_eq, l_lt, l_le]) <;> omega)
    · try simp (disch := decide) only [i_add, i_sub, i_mul, i_0, i_1, i_m1, i_m2, i_m3, i_m4, i_nI, i_eq, i_lt, i_le, i_clamp, true_or, or_true, true_and, and_true, false_or, or_false, false_and, and_false, i_l64, i_lN, l_eq, l_lt, l_le] at h4
      refine ok_vg (vin_of (by first | omega | ((try simp (disch := decide) only [i_add, i_sub, i_mul, i_0, i_1, i_m1, i_m2, i_m3, i_m4, i_nI, i_eq, i_lt, i_le, i_clamp, true_or, or_true, true_and, and_true, false_or, or_false, false_and, and_false, i_l64, i_lN, l_eq, l_lt, l_le]) <;> omega)) (by first | omega | ((try simp (disch := decide) only [i_add, i_sub, i_mul, i_0, i_1, i_m1, i_m2, i_m3, i_m4, i_nI, i_eq, i_lt, i_le, i_clamp, true_or, or_true, true_and, and_true, false_or, or_false, false_and, and_false, i_l64, i_lN, l_eq, l_lt, l_le]) <;> omega))) ?_
      refine ok_vi (fun h5 => ?_) (fun h5 => ?_)
      · try simp (disch := decide) only [i_add, i_sub, i_mul, i_0, i_1, i_m1, i_m2, i_m3, i_m4, i_nI, i_eq, i_lt, i_le, i_clamp, true_or, or_true, true_and, and_true, false_or, or_false, false_and, and_false, i_l64, i_lN, l_eq, l_lt, l_le] at h5
        refine ok_vlet fun y4 hy6 => ?_
        try simp (disch := decide) only [i_add, i_sub, i_mul, i_0, i_1, i_m1, i_m2, i_m3, i_m4, i_nI, i_eq, i_lt, i_le, i_clamp, true_or, or_true, true_and, and_true, false_or, or_false, false_and, and_false, i_l64, i_lN, l_eq, l_lt, l_le] at hy6
        exact ih _ _ (by first | omega | ((try simp (disch := decide) only [i_add, i_sub, i_mul, i_0, i_1, i_m1, i_m2, i_m3, i_m4, i_nI, i_eq, i_lt, i_le, i_clamp, true_or, or_true, true_and, and_true, false_or, or_false, false_and, and_false, i_l64, i_lN, l_eq, l_lt, l_le]) <;> omega)) (by first | omega | ((try simp (disch := decide) only [i_add, i_sub, i_mul, i_0, i_1, i_m1, i_m2, i_m3, i_m4, i_nI, i_eq, i_lt, i_le, i_clamp, true_or, or_true, true_and, and_true, false_or, or_false, false_and, and_false, i_l64, i_lN, l_eq, l_lt, l_le]) <;> omega)) (by first | omega | ((try simp (disch := decide) only [i_add, i_sub, i_mul, i_0, i_1, i_m1, i_m2, i_m3, i_m4, i_nI, i_eq, i_lt, i_le, i_clamp, true_or, or_true, true_and, and_true, false_or, or_false, false_and, and_false, i_l64, i_lN, l_eq, l_lt, l_le]) <;> omega)) (by first | omega | ((try simp (disch := decide) only [i_add, i_sub, i_mul, i_0, i_1, i_m1, i_m2, i_m3, i_m4, i_nI, i_eq, i_lt, i_le, i_clamp, true_or, or_true, true_and, and_true, false_or, or_false, false_and, and_false, i_l64, i_lN, l_eq, l_lt, l_le]) <;> omega))
      · try simp (disch := decide) only [i_add, i_sub, i_mul, i_0, i_1, i_m1, i_m2, i_m3, i_m4, i_nI, i_eq, i_lt, i_le, i_clamp, true_or, or_true, true_and, and_true, false_or, or_false, false_and, and_false, i_l64, i_lN, l_eq, l_lt, l_le] at h5
        refine ok_vi (fun h7 => ?_) (fun h7 => ?_)
        · try simp (disch := decide) only [i_add, i_sub, i_mul, i_0, i_1, i_m1, i_m2, i_m3, i_m4, i_nI, i_eq, i_lt, i_le, i_clamp, true_or, or_true, true_and, and_true, false_or, or_false, false_and, and_false, i_l64, i_lN, l_eq, l_lt, l_le] at h7
          refine ok_vlet fun y6 hy8 => ?_
          try simp (disch := decide) only [i_add, i_sub, i_mul, i_0, i_1, i_m1, i_m2, i_m3, i_m4, i_nI, i_eq, i_lt, i_le, i_clamp, true_or, or_true, true_and, and_true, false_or, or_false, false_and, and_false, i_l64, i_lN, l_eq, l_lt, l_le] at hy8
          exact ih _ _ (by first | omega | ((try simp (disch := decide) only [i_add, i_sub, i_mul, i_0, i_1, i_m1, i_m2, i_m3, i_m4, i_nI, i_eq, i_lt, i_le, i_clamp, true_or, or_true, true_and, and_true, false_or, or_false, false_and, and_false, i_l64, i_lN, l_eq, l_lt, l_le]) <;> omega)) (by first | omega | ((try simp (disch := decide) only [i_add, i_sub, i_mul, i_0, i_1, i_m1, i_m2, i_m3, i_m4, i_nI, i_eq, i_lt, i_le, i_clamp, true_or, or_true, true_and, and_true, false_or, or_false, false_and, and_false, i_l64, i_lN, l_eq, l_lt, l_le]) <;> omega)) (by first | omega | ((try simp (disch := decide) only [i_add, i_sub, i_mul, i_0, i_1, i_m1, i_m2, i_m3, i_m4, i_nI, i_eq, i_lt, i_le, i_clamp, true_or, or_true, true_and, and_true, false_or, or_false, false_and, and_false, i_l64, i_lN, l_eq, l_lt, l_le]) <;> omega)) (by first | omega | ((try simp (disch := decide) only [i_add, i_sub, i_mul, i_0, i_1, i_m1, i_m2, i_m3, i_m4, i_nI, i_eq, i_lt, i_le, i_clamp, true_or, or_true, true_and, and_true, false_or, or_false, false_and, and_false, i_l64, i_lN, l_eq, l_lt, l_le]) <;> omega))
        · try simp (disch := decide) only [i_add, i_sub, i_mul, i_0, i_1, i_m1, i_m2, i_m3, i_m4, i_nI, i_eq, i_lt, i_le, i_clamp, true_or, or_true, true_and, and_true, false_or, or_false, false_and, and_false, i_l64, i_lN, l_eq, l_lt, l_le] at h7
          refine ok_vg (vin_of (by first | omega | ((try simp (disch := decide) only [i_add, i_sub, i_mul, i_0, i_1, i_m1, i_m2, i_m3, i_m4, i_nI, i_eq, i_lt, i_le, i_clamp, true_or, or_true, true_and, and_true, false_or, or_false, false_and, and_false, i_l64, i_lN, l_eq, l_lt, l_le]) <;> omega)) (by first | omega | ((try simp (disch := decide) only [i_add, i_sub, i_mul, i_0, i_1, i_m1, i_m2, i_m3, i_m4, i_nI, i_eq, i_lt, i_le, i_clamp, true_or, or_true, true_and, and_true, false_or, or_false, false_and, and_false, i_l64, i_lN, l_eq, l_lt, l_le]) <;> omega))) ?_
          refine ok_vg (vin_of (by first | omega | ((try simp (disch := decide) only [i_add, i_sub, i_mul, i_0, i_1, i_m1, i_m2, i_m3, i_m4, i_nI, i_eq, i_lt, i_le, i_clamp, true_or, or_true, true_and, and_true, false_or, or_false, false_and, and_false, i_l64, i_lN, l_eq, l_lt, l_le]) <;> omega)) (by first | omega | ((try simp (disch := decide) only [i_add, i_sub, i_mul, i_0, i_1, i_m1, i_m2, i_m3, i_m4, i_nI, i_eq, i_lt, i_le, i_clamp, true_or, or_true, true_and, and_true, false_or, or_false, false_and, and_false, i_l64, i_lN, l_eq, l_lt, l_le]) <;> omega))) ?_
          refine ok_vi (fun h9 => ?_) (fun h9 => ?_)
          · try simp (disch := decide) only [i_add, i_sub, i_mul, i_0, i_1, i_m1, i_m2, i_m3, i_m4, i_nI, i_eq, i_lt, i_le, i_clamp, true_or, or_true, true_and, and_true, false_or, or_false, false_and, and_false, i_l64, i_lN, l_eq, l_lt, l_le] at h9
            refine ok_vlet fun y10 hy10 => ?_
            try simp (disch := decide) only [i_add, i_sub, i_mul, i_0, i_1, i_m1, i_m2, i_m3, i_m4, i_nI, i_eq, i_lt, i_le, i_clamp, true_or, or_true, true_and, and_true, false_or, or_false, false_and, and_false, i_l64, i_lN, l_eq, l_lt, l_le] at hy10
            exact ih _ _ (by first | omega | ((try simp (disch := decide) only [i_add, i_sub, i_mul, i_0, i_1, i_m1, i_m2, i_m3, i_m4, i_nI, i_eq, i_lt, i_le, i_clamp, true_or, or_true, true_and, and_true, false_or, or_false, false_and, and_false, i_l64, i_lN, l_eq, l_lt, l_le]) <;> omega)) (by first | omega | ((try simp (disch := decide) only [i_add, i_sub, i_mul, i_0, i_1, i_m1, i_m2, i_m3, i_m4, i_nI, i_eq, i_lt, i_le, i_clamp, true_or, or_true, true_and, and_true, false_or, or_false, false_and, and_false, i_l64, i_lN, l_eq, l_lt, l_le]) <;> omega)) (by first | omega | ((try simp (disch := decide) only [i_add, i_sub, i_mul, i_0, i_1, i_m1, i_m2, i_m3, i_m4, i_nI, i_eq, i_lt, i_le, i_clamp, true_or, or_true, true_and, and_true, false_or, or_false, false_and, and_false, i_l64, i_lN, l_eq, l_lt, l_le]) <;> omega)) (by first | omega | ((try simp (disch := decide) only [i_add, i_sub, i_mul, i_0, i_1, i_m1, i_m2, i_m3, i_m4, i_nI, i_eq, i_lt, i_le, i_clamp, true_or, or_true, true_and, and_true, false_or, or_false, false_and, and_false, i_l64, i_lN, l_eq, l_lt, l_le]) <;> omega))
          · try simp (disch := decide) only [i_add, i_sub, i_mul, i_0, i_1, i_m1, i_m2, i_m3, i_m4, i_nI, i_eq, i_lt, i_le, i_clamp, true_or, or_true, true_and, and_true, false_or, or_false, false_and, and_false, i_l64, i_lN, l_eq, l_lt, l_le] at h9
            refine ok_vlet fun y11 hy11 => ?_
            try simp (disch := decide) only [i_add, i_sub, i_mul, i_0, i_1, i_m1, i_m2, i_m3, i_m4, i_nI, i_eq, i_lt, i_le, i_clamp, true_or, or_true, true_and, and_true, false_or, or_false, false_and, and_false, i_l64, i_lN, l_eq, l_lt, l_le] at hy11
            exact ih _ _ (by first | omega | ((try simp (disch := decide) only [i_add, i_sub, i_mul, i_0, i_1, i_m1, i_m2, i_m3, i_m4, i_nI, i_eq, i_lt, i_le, i_clamp, true_or, or_true, true_and, and_true, false_or, or_false, false_and, and_false, i_l64, i_lN, l_eq, l_lt, l_le]) <;> omega)) (by first | omega | ((try simp (disch := decide) only [i_add, i_sub, i_mul, i_0, i_1, i_m1, i_m2, i_m3, i_m4, i_nI, i_eq, i_lt, i_le, i_clamp, true_or, or_true, true_and, and_true, false_or, or_false, false_and, and_false, i_l64, i_lN, l_eq, l_lt, l_le]) <;> omega)) (by first | omega | ((try simp (disch := decide) only [i_add, i_sub, i_mul, i_0, i_1, i_m1, i_m2, i_m3, i_m4, i_nI, i_eq, i_lt, i_le, i_clamp, true_or, or_true, true_and, and_true, false_or, or_false, false_and, and_false, i_l64, i_lN, l_eq, l_lt, l_le]) <;> omega)) (by first | omega | ((try simp (disch := decide) only [i_add, i_sub, i_mul, i_0, i_1, i_m1, i_m2, i_m3, i_m4, i_nI, i_eq, i_lt, i_le, i_clamp, true_or, or_true, true_and, and_true, false_or, or_false, false_and, and_false, i_l64, i_lN, l_eq, l_lt, l_le]) <;> omega))
set_option maxHeartbeats 1000000 in
set_option maxRecDepth 20000 in
theorem sX9_greatest_ok  (f_post : Nat → Int32) (f_p1 : Nat → Int32) (g0 : arrOK pstC f_post) : ok (sX9_greatest f_post f_p1) (fun z => z.toInt = -4 ∨ 0 ≤ z.toInt ∧ z.toInt ≤ 7) := by
  unfold sX9_greatest
  have p1 := read_0 (post_read (show arrOK pstC f_post by assumption))
  try simp (disch := decide) only [i_add, i_sub, i_mul, i_0, i_1, i_m1, i_m2, i_m3, i_m4, i_nI, i_eq, i_lt, i_le, i_clamp, true_or, or_true, true_and, and_true, false_or, or_false, false_and, and_false, i_l64, i_lN, l_eq, l_lt, l_le] at p1
  have p2 := read_1 (post_read (show arrOK pstC f_post by assumption))
  try simp (disch := decide) only [i_add, i_sub, i_mul, i_0, i_1, i_m1, i_m2, i_m3, i_m4, i_nI, i_eq, i_lt, i_le, i_clamp, true_or, or_true, true_and, and_true, false_or, or_false, false_and, and_false, i_l64, i_lN, l_eq, l_lt, l_le] at p2
  have p3 := post_2 (show arrOK pstC f_post by assumption)
  try simp (disch := decide) only [i_add, i_sub, i_mul, i_0, i_1, i_m1, i_m2, i_m3, i_m4, i_nI, i_eq, i_lt, i_le, i_clamp, true_or, or_true, true_and, and_true, false_or, or_false, false_and, and_false, i_l64, i_lN, l_eq, l_lt, l_le] at p3
  exact LX9_greatest_5_ok  _ _ (by first | assumption) _ _ _ (by first | omega | ((try simp (disch := decide) only [i_add, i_sub, i_mul, i_0, i_1, i_m1, i_m2, i_m3, i_m4, i_nI, i_eq, i_lt, i_le, i_clamp, true_or, or_true, true_and, and_true, false_or, or_false, false_and, and_false, i_l64, i_lN, l_eq, l_lt, l_le]) <;> omega)) (by first | omega | ((try simp (disch := decide) only [i_add, i_sub, i_mul, i_0, i_1, i_m1, i_m2, i_m3, i_m4, i_nI, i_eq, i_lt, i_le, i_clamp, true_or, or_true, true_and, and_true, false_or, or_false, false_and, and_false, i_l64, i_lN, l_eq, l_lt, l_le]) <;> omega)) (by first | omega | ((try simp (disch := decide) only [i_add, i_sub, i_mul, i_0, i_1, i_m1, i_m2, i_m3, i_m4, i_nI, i_eq, i_lt, i_le, i_clamp, true_or, or_true, true_and, and_true, false_or, or_false, false_and, and_false, i_l64, i_lN, l_eq, l_lt, l_le]) <;> omega)) (by rw [vF_int]; first | omega | ((try simp (disch := decide) only [i_add, i_sub, i_mul, i_0, i_1, i_m1, i_m2, i_m3, i_m4, i_nI, i_eq, i_lt, i_le, i_clamp, true_or, or_true, true_and, and_true, false_or, or_false, false_and, and_false, i_l64, i_lN, l_eq, l_lt, l_le]) <;> omega))
set_option maxHeartbeats 1000000 in
set_option maxRecDepth 20000 in
theorem sX9_nextAt_ok  (f_post : Nat → Int32) (f_weights : Nat → Int32) (f_p1 : Nat → Int32) (x2 : Int32) (g0 : arrOK pstC f_post) (g1 : arrOK nowC f_p1) (g2 : 0 ≤ x2.toInt) (g3 : x2.toInt ≤ 4) : ok (sX9_nextAt f_post f_weights f_p1 x2) (fun z => z.1.toInt = -4 ∨ 0 ≤ z.1.toInt ∧ z.1.toInt ≤ 7) := by
  unfold sX9_nextAt
  try simp (disch := decide) only [i_add, i_sub, i_mul, i_0, i_1, i_m1, i_m2, i_m3, i_m4, i_nI, i_eq, i_lt, i_le, i_clamp, true_or, or_true, true_and, and_true, false_or, or_false, false_and, and_false, i_l64, i_lN, l_eq, l_lt, l_le] at g2
  try simp (disch := decide) only [i_add, i_sub, i_mul, i_0, i_1, i_m1, i_m2, i_m3, i_m4, i_nI, i_eq, i_lt, i_le, i_clamp, true_or, or_true, true_and, and_true, false_or, or_false, false_and, and_false, i_l64, i_lN, l_eq, l_lt, l_le] at g3
  have p1 := read_0 (post_read (show arrOK pstC f_post by assumption))
  try simp (disch := decide) only [i_add, i_sub, i_mul, i_0, i_1, i_m1, i_m2, i_m3, i_m4, i_nI, i_eq, i_lt, i_le, i_clamp, true_or, or_true, true_and, and_true, false_or, or_false, false_and, and_false, i_l64, i_lN, l_eq, l_lt, l_le] at p1
  have p2 := read_1 (post_read (show arrOK pstC f_post by assumption))
  try simp (disch := decide) only [i_add, i_sub, i_mul, i_0, i_1, i_m1, i_m2, i_m3, i_m4, i_nI, i_eq, i_lt, i_le, i_clamp, true_or, or_true, true_and, and_true, false_or, or_false, false_and, and_false, i_l64, i_lN, l_eq, l_lt, l_le] at p2
  have p3 := post_2 (show arrOK pstC f_post by assumption)
  try simp (disch := decide) only [i_add, i_sub, i_mul, i_0, i_1, i_m1, i_m2, i_m3, i_m4, i_nI, i_eq, i_lt, i_le, i_clamp, true_or, or_true, true_and, and_true, false_or, or_false, false_and, and_false, i_l64, i_lN, l_eq, l_lt, l_le] at p3
  refine ok_vb (sX9_weighActor_ok  _ _ _ _ (by first | assumption) (by first | assumption) (by first | omega | ((try simp (disch := decide) only [i_add, i_sub, i_mul, i_0, i_1, i_m1, i_m2, i_m3, i_m4, i_nI, i_eq, i_lt, i_le, i_clamp, true_or, or_true, true_and, and_true, false_or, or_false, false_and, and_false, i_l64, i_lN, l_eq, l_lt, l_le]) <;> omega)) (by first | omega | ((try simp (disch := decide) only [i_add, i_sub, i_mul, i_0, i_1, i_m1, i_m2, i_m3, i_m4, i_nI, i_eq, i_lt, i_le, i_clamp, true_or, or_true, true_and, and_true, false_or, or_false, false_and, and_false, i_l64, i_lN, l_eq, l_lt, l_le]) <;> omega))) fun z1 _ => ?_
  refine ok_vb (sX9_greatest_ok  _ _ (by first | assumption)) fun z2 hz4 => ?_
  try simp (disch := decide) only [i_add, i_sub, i_mul, i_0, i_1, i_m1, i_m2, i_m3, i_m4, i_nI, i_eq, i_lt, i_le, i_clamp, true_or, or_true, true_and, and_true, false_or, or_false, false_and, and_false, i_l64, i_lN, l_eq, l_lt, l_le] at hz4
  refine ok_some ?_
  · first | omega | ((try simp (disch := decide) only [i_add, i_sub, i_mul, i_0, i_1, i_m1, i_m2, i_m3, i_m4, i_nI, i_eq, i_lt, i_le, i_clamp, true_or, or_true, true_and, and_true, false_or, or_false, false_and, and_false, i_l64, i_lN, l_eq, l_lt, l_le]) <;> omega)
set_option maxHeartbeats 1000000 in
set_option maxRecDepth 20000 in
theorem sX9_waits_ok  (f_now : Nat → Int32) (x1 : Int32) (g0 : 0 ≤ x1.toInt) (g1 : x1.toInt ≤ 4) : ok (sX9_waits f_now x1) (fun _ => True) := by
  unfold sX9_waits
  try simp (disch := decide) only [i_add, i_sub, i_mul, i_0, i_1, i_m1, i_m2, i_m3, i_m4, i_nI, i_eq, i_lt, i_le, i_clamp, true_or, or_true, true_and, and_true, false_or, or_false, false_and, and_false, i_l64, i_lN, l_eq, l_lt, l_le] at g0
  try simp (disch := decide) only [i_add, i_sub, i_mul, i_0, i_1, i_m1, i_m2, i_m3, i_m4, i_nI, i_eq, i_lt, i_le, i_clamp, true_or, or_true, true_and, and_true, false_or, or_false, false_and, and_false, i_l64, i_lN, l_eq, l_lt, l_le] at g1
  refine ok_vg (vin_of (by first | omega | ((try simp (disch := decide) only [i_add, i_sub, i_mul, i_0, i_1, i_m1, i_m2, i_m3, i_m4, i_nI, i_eq, i_lt, i_le, i_clamp, true_or, or_true, true_and, and_true, false_or, or_false, false_and, and_false, i_l64, i_lN, l_eq, l_lt, l_le]) <;> omega)) (by first | omega | ((try simp (disch := decide) only [i_add, i_sub, i_mul, i_0, i_1, i_m1, i_m2, i_m3, i_m4, i_nI, i_eq, i_lt, i_le, i_clamp, true_or, or_true, true_and, and_true, false_or, or_false, false_and, and_false, i_l64, i_lN, l_eq, l_lt, l_le]) <;> omega))) ?_
  refine ok_vi (fun h1 => ?_) (fun h1 => ?_)
  · try simp (disch := decide) only [i_add, i_sub, i_mul, i_0, i_1, i_m1, i_m2, i_m3, i_m4, i_nI, i_eq, i_lt, i_le, i_clamp, true_or, or_true, true_and, and_true, false_or, or_false, false_and, and_false, i_l64, i_lN, l_eq, l_lt, l_le] at h1
    exact ok_some trivial
  · try simp (disch := decide) only [i_add, i_sub, i_mul, i_0, i_1, i_m1, i_m2, i_m3, i_m4, i_nI, i_eq, i_lt, i_le, i_clamp, true_or, or_true, true_and, and_true, false_or, or_false, false_and, and_false, i_l64, i_lN, l_eq, l_lt, l_le] at h1
    exact ok_some trivial
set_option maxHeartbeats 1000000 in
set_option maxRecDepth 20000 in
theorem sX9_weight_ok  (f_post : Nat → Int32) (f_now : Nat → Int32) (f_weights : Nat → Int32) (x1 : Int32) (x2 : Int32) (g0 : arrOK pstC f_post) (g1 : arrOK nowC f_now) : ok (sX9_weight f_post f_now f_weights x1 x2) (fun _ => True) := by
  unfold sX9_weight
  have p1 := read_0 (post_read (show arrOK pstC f_post by assumption))
  try simp (disch := decide) only [i_add, i_sub, i_mul, i_0, i_1, i_m1, i_m2, i_m3, i_m4, i_nI, i_eq, i_lt, i_le, i_clamp, true_or, or_true, true_and, and_true, false_or, or_false, false_and, and_false, i_l64, i_lN, l_eq, l_lt, l_le] at p1
  have p2 := read_1 (post_read (show arrOK pstC f_post by assumption))
  try simp (disch := decide) only [i_add, i_sub, i_mul, i_0, i_1, i_m1, i_m2, i_m3, i_m4, i_nI, i_eq, i_lt, i_le, i_clamp, true_or, or_true, true_and, and_true, false_or, or_false, false_and, and_false, i_l64, i_lN, l_eq, l_lt, l_le] at p2
  have p3 := post_2 (show arrOK pstC f_post by assumption)
  try simp (disch := decide) only [i_add, i_sub, i_mul, i_0, i_1, i_m1, i_m2, i_m3, i_m4, i_nI, i_eq, i_lt, i_le, i_clamp, true_or, or_true, true_and, and_true, false_or, or_false, false_and, and_false, i_l64, i_lN, l_eq, l_lt, l_le] at p3
  refine ok_vb (sX9_isActor_ok  _ _ (by first | assumption)) fun z1 hz4 => ?_
  try simp (disch := decide) only [i_add, i_sub, i_mul, i_0, i_1, i_m1, i_m2, i_m3, i_m4, i_nI, i_eq, i_lt, i_le, i_clamp, true_or, or_true, true_and, and_true, false_or, or_false, false_and, and_false, i_l64, i_lN, l_eq, l_lt, l_le] at hz4
  refine ok_vi (fun h5 => ?_) (fun h5 => ?_)
  · try simp (disch := decide) only [i_add, i_sub, i_mul, i_0, i_1, i_m1, i_m2, i_m3, i_m4, i_nI, i_eq, i_lt, i_le, i_clamp, true_or, or_true, true_and, and_true, false_or, or_false, false_and, and_false, i_l64, i_lN, l_eq, l_lt, l_le] at h5
    exact ok_some trivial
  · try simp (disch := decide) only [i_add, i_sub, i_mul, i_0, i_1, i_m1, i_m2, i_m3, i_m4, i_nI, i_eq, i_lt, i_le, i_clamp, true_or, or_true, true_and, and_true, false_or, or_false, false_and, and_false, i_l64, i_lN, l_eq, l_lt, l_le] at h5
    refine ok_vb (sX9_isWord_ok  _ _ (by first | assumption)) fun z3 hz6 => ?_
    try simp (disch := decide) only [i_add, i_sub, i_mul, i_0, i_1, i_m1, i_m2, i_m3, i_m4, i_nI, i_eq, i_lt, i_le, i_clamp, true_or, or_true, true_and, and_true, false_or, or_false, false_and, and_false, i_l64, i_lN, l_eq, l_lt, l_le] at hz6
    refine ok_vi (fun h7 => ?_) (fun h7 => ?_)
    · try simp (disch := decide) only [i_add, i_sub, i_mul, i_0, i_1, i_m1, i_m2, i_m3, i_m4, i_nI, i_eq, i_lt, i_le, i_clamp, true_or, or_true, true_and, and_true, false_or, or_false, false_and, and_false, i_l64, i_lN, l_eq, l_lt, l_le] at h7
      exact ok_some trivial
    · try simp (disch := decide) only [i_add, i_sub, i_mul, i_0, i_1, i_m1, i_m2, i_m3, i_m4, i_nI, i_eq, i_lt, i_le, i_clamp, true_or, or_true, true_and, and_true, false_or, or_false, false_and, and_false, i_l64, i_lN, l_eq, l_lt, l_le] at h7
      refine ok_vb (sX9_weighActor_ok  _ _ _ _ (by first | assumption) (by first | assumption) (by first | omega | ((try simp (disch := decide) only [i_add, i_sub, i_mul, i_0, i_1, i_m1, i_m2, i_m3, i_m4, i_nI, i_eq, i_lt, i_le, i_clamp, true_or, or_true, true_and, and_true, false_or, or_false, false_and, and_false, i_l64, i_lN, l_eq, l_lt, l_le]) <;> omega)) (by first | omega | ((try simp (disch := decide) only [i_add, i_sub, i_mul, i_0, i_1, i_m1, i_m2, i_m3, i_m4, i_nI, i_eq, i_lt, i_le, i_clamp, true_or, or_true, true_and, and_true, false_or, or_false, false_and, and_false, i_l64, i_lN, l_eq, l_lt, l_le]) <;> omega))) fun z5 _ => ?_
      refine ok_vg (vin_of (by first | omega | ((try simp (disch := decide) only [i_add, i_sub, i_mul, i_0, i_1, i_m1, i_m2, i_m3, i_m4, i_nI, i_eq, i_lt, i_le, i_clamp, true_or, or_true, true_and, and_true, false_or, or_false, false_and, and_false, i_l64, i_lN, l_eq, l_lt, l_le]) <;> omega)) (by first | omega | ((try simp (disch := decide) only [i_add, i_sub, i_mul, i_0, i_1, i_m1, i_m2, i_m3, i_m4, i_nI, i_eq, i_lt, i_le, i_clamp, true_or, or_true, true_and, and_true, false_or, or_false, false_and, and_false, i_l64, i_lN, l_eq, l_lt, l_le]) <;> omega))) ?_
      exact ok_some trivial
set_option maxHeartbeats 1000000 in
set_option maxRecDepth 20000 in
theorem sX9_lowest_ok  (f_above : Int64) (f_below : Int64) (x1 : Int64) (x2 : Int64) (g0 : ¬ x1.toInt = 0 ∨ ¬ x2.toInt = 0) : ok (sX9_lowest f_above f_below x1 x2) (fun _ => True) := by
  unfold sX9_lowest
  have h1 := Int64.toInt_lt x2
  have h2 := Int64.le_toInt x2
  exact low6 x1 x2 64 vF x1 x2 (by omega) (by show _ ≤ 20000; omega) g0
set_option maxHeartbeats 1000000 in
set_option maxRecDepth 20000 in
theorem LX9_sumOf_5_ok  (f_post : Nat → Int32) (f_p1 : Nat → Int32) (g0 : arrOK pstC f_post)  : ∀ (n : Nat) (y_2 : Int64) (y_4 : Int32) (i0 : 0 ≤ y_4.toInt) (i1 : y_4.toInt ≤ 8) (im : 8 - y_4.toInt < (n : Int)), ok (LX9_sumOf_5 f_post f_p1 n y_2 y_4) (fun _ => True) := by
  intro n
  induction n with
  | zero =>
    intro y_2 y_4 i0 i1 im
    exfalso
    first | omega | ((try simp (disch := decide) only [i_add, i_sub, i_mul, i_0, i_1, i_m1, i_m2, i_m3, i_m4, i_nI, i_eq, i_lt, i_le, i_clamp, true_or, or_true, true_and, and_true, false_or, or_false, false_and, and_false, i_l64, i_lN, l_eq, l_lt, l_le]) <;> omega)
  | succ n ih =>
    intro y_2 y_4 i0 i1 im
    rw [LX9_sumOf_5]
    try simp (disch := decide) only [i_add, i_sub, i_mul, i_0, i_1, i_m1, i_m2, i_m3, i_m4, i_nI, i_eq, i_lt, i_le, i_clamp, true_or, or_true, true_and, and_true, false_or, or_false, false_and, and_false, i_l64, i_lN, l_eq, l_lt, l_le] at i0
    try simp (disch := decide) only [i_add, i_sub, i_mul, i_0, i_1, i_m1, i_m2, i_m3, i_m4, i_nI, i_eq, i_lt, i_le, i_clamp, true_or, or_true, true_and, and_true, false_or, or_false, false_and, and_false, i_l64, i_lN, l_eq, l_lt, l_le] at i1
    try simp (disch := decide) only [i_add, i_sub, i_mul, i_0, i_1, i_m1, i_m2, i_m3, i_m4, i_nI, i_eq, i_lt, i_le, i_clamp, true_or, or_true, true_and, and_true, false_or, or_false, false_and, and_false, i_l64, i_lN, l_eq, l_lt, l_le] at im
    have p1 := read_0 (post_read (show arrOK pstC f_post by assumption))
    try simp (disch := decide) only [i_add, i_sub, i_mul, i_0, i_1, i_m1, i_m2, i_m3, i_m4, i_nI, i_eq, i_lt, i_le, i_clamp, true_or, or_true, true_and, and_true, false_or, or_false, false_and, and_false, i_l64, i_lN, l_eq, l_lt, l_le] at p1
    have p2 := read_1 (post_read (show arrOK pstC f_post by assumption))
    try simp (disch := decide) only [i_add, i_sub, i_mul, i_0, i_1, i_m1, i_m2, i_m3, i_m4, i_nI, i_eq, i_lt, i_le, i_clamp, true_or, or_true, true_and, and_true, false_or, or_false, false_and, and_false, i_l64, i_lN, l_eq, l_lt, l_le] at p2
    have p3 := post_2 (show arrOK pstC f_post by assumption)
    try simp (disch := decide) only [i_add, i_sub, i_mul, i_0, i_1, i_m1, i_m2, i_m3, i_m4, i_nI, i_eq, i_lt, i_le, i_clamp, true_or, or_true, true_and, and_true, false_or, or_false, false_and, and_false, i_l64, i_lN, l_eq, l_lt, l_le] at p3
    refine ok_vi (fun h4 => ?_) (fun h4 => ?_)
    · try simp (disch := decide) only [i_add, i_sub, i_mul, i_0, i_1, i_m1, i_m2, i_m3, i_m4, i_nI, i_eq, i_lt, i_le, i_clamp, true_or, or_true, true_and, and_true, false_or, or_false, false_and, and_false, i_l64, i_lN, l_eq, l_lt, l_le] at h4
      exact ok_some trivial
    · try simp (disch := decide) only [i_add, i_sub, i_mul, i_0, i_1, i_m1, i_m2, i_m3, i_m4, i_nI, i_eq, i_lt, i_le, i_clamp, true_or, or_true, true_and, and_true, false_or, or_false, false_and, and_false, i_l64, i_lN, l_eq, l_lt, l_le] at h4
      refine ok_vg (vin_of (by first | omega | ((try simp (disch := decide) only [i_add, i_sub, i_mul, i_0, i_1, i_m1, i_m2, i_m3, i_m4, i_nI, i_eq, i_lt, i_le, i_clamp, true_or, or_true, true_and, and_true, false_or, or_false, false_and, and_false, i_l64, i_lN, l_eq, l_lt, l_le]) <;> omega)) (by first | omega | ((try simp (disch := decide) only [i_add, i_sub, i_mul, i_0, i_1, i_m1, i_m2, i_m3, i_m4, i_nI, i_eq, i_lt, i_le, i_clamp, true_or, or_true, true_and, and_true, false_or, or_false, false_and, and_false, i_l64, i_lN, l_eq, l_lt, l_le]) <;> omega))) ?_
      refine ok_vlet fun y3 hy5 => ?_
      try simp (disch := decide) only [i_add, i_sub, i_mul, i_0, i_1, i_m1, i_m2, i_m3, i_m4, i_nI, i_eq, i_lt, i_le, i_clamp, true_or, or_true, true_and, and_true, false_or, or_false, false_and, and_false, i_l64, i_lN, l_eq, l_lt, l_le] at hy5
      refine ok_vlet fun y4 hy6 => ?_
      try simp (disch := decide) only [i_add, i_sub, i_mul, i_0, i_1, i_m1, i_m2, i_m3, i_m4, i_nI, i_eq, i_lt, i_le, i_clamp, true_or, or_true, true_and, and_true, false_or, or_false, false_and, and_false, i_l64, i_lN, l_eq, l_lt, l_le] at hy6
      exact ih _ _ (by first | omega | ((try simp (disch := decide) only [i_add, i_sub, i_mul, i_0, i_1, i_m1, i_m2, i_m3, i_m4, i_nI, i_eq, i_lt, i_le, i_clamp, true_or, or_true, true_and, and_true, false_or, or_false, false_and, and_false, i_l64, i_lN, l_eq, l_lt, l_le]) <;> omega)) (by first | omega | ((try simp (disch := decide) only [i_add, i_sub, i_mul, i_0, i_1, i_m1, i_m2, i_m3, i_m4, i_nI, i_eq, i_lt, i_le, i_clamp, true_or, or_true, true_and, and_true, false_or, or_false, false_and, and_false, i_l64, i_lN, l_eq, l_lt, l_le]) <;> omega)) (by first | omega | ((try simp (disch := decide) only [i_add, i_sub, i_mul, i_0, i_1, i_m1, i_m2, i_m3, i_m4, i_nI, i_eq, i_lt, i_le, i_clamp, true_or, or_true, true_and, and_true, false_or, or_false, false_and, and_false, i_l64, i_lN, l_eq, l_lt, l_le]) <;> omega))
set_option maxHeartbeats 1000000 in
set_option maxRecDepth 20000 in
theorem sX9_sumOf_ok  (f_post : Nat → Int32) (f_p1 : Nat → Int32) (g0 : arrOK pstC f_post) : ok (sX9_sumOf f_post f_p1) (fun _ => True) := by
  unfold sX9_sumOf
  have p1 := read_0 (post_read (show arrOK pstC f_post by assumption))
  try simp (disch := decide) only [i_add, i_sub, i_mul, i_0, i_1, i_m1, i_m2, i_m3, i_m4, i_nI, i_eq, i_lt, i_le, i_clamp, true_or, or_true, true_and, and_true, false_or, or_false, false_and, and_false, i_l64, i_lN, l_eq, l_lt, l_le] at p1
  have p2 := read_1 (post_read (show arrOK pstC f_post by assumption))
  try simp (disch := decide) only [i_add, i_sub, i_mul, i_0, i_1, i_m1, i_m2, i_m3, i_m4, i_nI, i_eq, i_lt, i_le, i_clamp, true_or, or_true, true_and, and_true, false_or, or_false, false_and, and_false, i_l64, i_lN, l_eq, l_lt, l_le] at p2
  have p3 := post_2 (show arrOK pstC f_post by assumption)
  try simp (disch := decide) only [i_add, i_sub, i_mul, i_0, i_1, i_m1, i_m2, i_m3, i_m4, i_nI, i_eq, i_lt, i_le, i_clamp, true_or, or_true, true_and, and_true, false_or, or_false, false_and, and_false, i_l64, i_lN, l_eq, l_lt, l_le] at p3
  exact LX9_sumOf_5_ok  _ _ (by first | assumption) _ _ _ (by first | omega | ((try simp (disch := decide) only [i_add, i_sub, i_mul, i_0, i_1, i_m1, i_m2, i_m3, i_m4, i_nI, i_eq, i_lt, i_le, i_clamp, true_or, or_true, true_and, and_true, false_or, or_false, false_and, and_false, i_l64, i_lN, l_eq, l_lt, l_le]) <;> omega)) (by first | omega | ((try simp (disch := decide) only [i_add, i_sub, i_mul, i_0, i_1, i_m1, i_m2, i_m3, i_m4, i_nI, i_eq, i_lt, i_le, i_clamp, true_or, or_true, true_and, and_true, false_or, or_false, false_and, and_false, i_l64, i_lN, l_eq, l_lt, l_le]) <;> omega)) (by rw [vF_int]; first | omega | ((try simp (disch := decide) only [i_add, i_sub, i_mul, i_0, i_1, i_m1, i_m2, i_m3, i_m4, i_nI, i_eq, i_lt, i_le, i_clamp, true_or, or_true, true_and, and_true, false_or, or_false, false_and, and_false, i_l64, i_lN, l_eq, l_lt, l_le]) <;> omega))
set_option maxHeartbeats 1000000 in
set_option maxRecDepth 20000 in
theorem sX9_likely_ok  (f_post : Nat → Int32) (f_now : Nat → Int32) (f_weights : Nat → Int32) (f_above : Int64) (f_below : Int64) (x1 : Int32) (x2 : Int32) (x3 : Int32) (g0 : arrOK pstC f_post) (g1 : arrOK nowC f_now) : ok (sX9_likely f_post f_now f_weights f_above f_below x1 x2 x3) (fun _ => True) := by
  unfold sX9_likely
  have p1 := read_0 (post_read (show arrOK pstC f_post by assumption))
  try simp (disch := decide) only [i_add, i_sub, i_mul, i_0, i_1, i_m1, i_m2, i_m3, i_m4, i_nI, i_eq, i_lt, i_le, i_clamp, true_or, or_true, true_and, and_true, false_or, or_false, false_and, and_false, i_l64, i_lN, l_eq, l_lt, l_le] at p1
  have p2 := read_1 (post_read (show arrOK pstC f_post by assumption))
  try simp (disch := decide) only [i_add, i_sub, i_mul, i_0, i_1, i_m1, i_m2, i_m3, i_m4, i_nI, i_eq, i_lt, i_le, i_clamp, true_or, or_true, true_and, and_true, false_or, or_false, false_and, and_false, i_l64, i_lN, l_eq, l_lt, l_le] at p2
  have p3 := post_2 (show arrOK pstC f_post by assumption)
  try simp (disch := decide) only [i_add, i_sub, i_mul, i_0, i_1, i_m1, i_m2, i_m3, i_m4, i_nI, i_eq, i_lt, i_le, i_clamp, true_or, or_true, true_and, and_true, false_or, or_false, false_and, and_false, i_l64, i_lN, l_eq, l_lt, l_le] at p3
  refine ok_vb (sX9_isActor_ok  _ _ (by first | assumption)) fun z1 hz4 => ?_
  try simp (disch := decide) only [i_add, i_sub, i_mul, i_0, i_1, i_m1, i_m2, i_m3, i_m4, i_nI, i_eq, i_lt, i_le, i_clamp, true_or, or_true, true_and, and_true, false_or, or_false, false_and, and_false, i_l64, i_lN, l_eq, l_lt, l_le] at hz4
  refine ok_vi (fun h5 => ?_) (fun h5 => ?_)
  · try simp (disch := decide) only [i_add, i_sub, i_mul, i_0, i_1, i_m1, i_m2, i_m3, i_m4, i_nI, i_eq, i_lt, i_le, i_clamp, true_or, or_true, true_and, and_true, false_or, or_false, false_and, and_false, i_l64, i_lN, l_eq, l_lt, l_le] at h5
    exact ok_some trivial
  · try simp (disch := decide) only [i_add, i_sub, i_mul, i_0, i_1, i_m1, i_m2, i_m3, i_m4, i_nI, i_eq, i_lt, i_le, i_clamp, true_or, or_true, true_and, and_true, false_or, or_false, false_and, and_false, i_l64, i_lN, l_eq, l_lt, l_le] at h5
    refine ok_vb (sX9_isWord_ok  _ _ (by first | assumption)) fun z3 hz6 => ?_
    try simp (disch := decide) only [i_add, i_sub, i_mul, i_0, i_1, i_m1, i_m2, i_m3, i_m4, i_nI, i_eq, i_lt, i_le, i_clamp, true_or, or_true, true_and, and_true, false_or, or_false, false_and, and_false, i_l64, i_lN, l_eq, l_lt, l_le] at hz6
    refine ok_vi (fun h7 => ?_) (fun h7 => ?_)
    · try simp (disch := decide) only [i_add, i_sub, i_mul, i_0, i_1, i_m1, i_m2, i_m3, i_m4, i_nI, i_eq, i_lt, i_le, i_clamp, true_or, or_true, true_and, and_true, false_or, or_false, false_and, and_false, i_l64, i_lN, l_eq, l_lt, l_le] at h7
      exact ok_some trivial
    · try simp (disch := decide) only [i_add, i_sub, i_mul, i_0, i_1, i_m1, i_m2, i_m3, i_m4, i_nI, i_eq, i_lt, i_le, i_clamp, true_or, or_true, true_and, and_true, false_or, or_false, false_and, and_false, i_l64, i_lN, l_eq, l_lt, l_le] at h7
      refine ok_vb (sX9_in_ok  _ _ _ ) fun z5 hz8 => ?_
      try simp (disch := decide) only [i_add, i_sub, i_mul, i_0, i_1, i_m1, i_m2, i_m3, i_m4, i_nI, i_eq, i_lt, i_le, i_clamp, true_or, or_true, true_and, and_true, false_or, or_false, false_and, and_false, i_l64, i_lN, l_eq, l_lt, l_le] at hz8
      refine ok_vi (fun h9 => ?_) (fun h9 => ?_)
      · try simp (disch := decide) only [i_add, i_sub, i_mul, i_0, i_1, i_m1, i_m2, i_m3, i_m4, i_nI, i_eq, i_lt, i_le, i_clamp, true_or, or_true, true_and, and_true, false_or, or_false, false_and, and_false, i_l64, i_lN, l_eq, l_lt, l_le] at h9
        exact ok_some trivial
      · try simp (disch := decide) only [i_add, i_sub, i_mul, i_0, i_1, i_m1, i_m2, i_m3, i_m4, i_nI, i_eq, i_lt, i_le, i_clamp, true_or, or_true, true_and, and_true, false_or, or_false, false_and, and_false, i_l64, i_lN, l_eq, l_lt, l_le] at h9
        refine ok_vb (sX9_weighActor_ok  _ _ _ _ (by first | assumption) (by first | assumption) (by first | omega | ((try simp (disch := decide) only [i_add, i_sub, i_mul, i_0, i_1, i_m1, i_m2, i_m3, i_m4, i_nI, i_eq, i_lt, i_le, i_clamp, true_or, or_true, true_and, and_true, false_or, or_false, false_and, and_false, i_l64, i_lN, l_eq, l_lt, l_le]) <;> omega)) (by first | omega | ((try simp (disch := decide) only [i_add, i_sub, i_mul, i_0, i_1, i_m1, i_m2, i_m3, i_m4, i_nI, i_eq, i_lt, i_le, i_clamp, true_or, or_true, true_and, and_true, false_or, or_false, false_and, and_false, i_l64, i_lN, l_eq, l_lt, l_le]) <;> omega))) fun z7 _ => ?_
        refine ok_vb (sX9_sumOf_ok  _ _ (by first | assumption)) fun z8 _ => ?_
        refine ok_vg (vin_of (by first | omega | ((try simp (disch := decide) only [i_add, i_sub, i_mul, i_0, i_1, i_m1, i_m2, i_m3, i_m4, i_nI, i_eq, i_lt, i_le, i_clamp, true_or, or_true, true_and, and_true, false_or, or_false, false_and, and_false, i_l64, i_lN, l_eq, l_lt, l_le]) <;> omega)) (by first | omega | ((try simp (disch := decide) only [i_add, i_sub, i_mul, i_0, i_1, i_m1, i_m2, i_m3, i_m4, i_nI, i_eq, i_lt, i_le, i_clamp, true_or, or_true, true_and, and_true, false_or, or_false, false_and, and_false, i_l64, i_lN, l_eq, l_lt, l_le]) <;> omega))) ?_
        refine ok_vi (fun h10 => ?_) (fun h10 => ?_)
        · rw [lg_cmp_eq] at h10
          try simp (disch := decide) only [i_add, i_sub, i_mul, i_0, i_1, i_m1, i_m2, i_m3, i_m4, i_nI, i_eq, i_lt, i_le, i_clamp, true_or, or_true, true_and, and_true, false_or, or_false, false_and, and_false, i_l64, i_lN, l_eq, l_lt, l_le] at h10
          refine ok_vb (sX9_lowest_ok  _ _ _ _ (by first | omega | ((try simp (disch := decide) only [i_add, i_sub, i_mul, i_0, i_1, i_m1, i_m2, i_m3, i_m4, i_nI, i_eq, i_lt, i_le, i_clamp, true_or, or_true, true_and, and_true, false_or, or_false, false_and, and_false, i_l64, i_lN, l_eq, l_lt, l_le]) <;> omega))) fun z13 _ => ?_
          refine ok_vi (fun h11 => ?_) (fun h11 => ?_)
          · try simp (disch := decide) only [i_add, i_sub, i_mul, i_0, i_1, i_m1, i_m2, i_m3, i_m4, i_nI, i_eq, i_lt, i_le, i_clamp, true_or, or_true, true_and, and_true, false_or, or_false, false_and, and_false, i_l64, i_lN, l_eq, l_lt, l_le] at h11
            exact ok_some trivial
          · try simp (disch := decide) only [i_add, i_sub, i_mul, i_0, i_1, i_m1, i_m2, i_m3, i_m4, i_nI, i_eq, i_lt, i_le, i_clamp, true_or, or_true, true_and, and_true, false_or, or_false, false_and, and_false, i_l64, i_lN, l_eq, l_lt, l_le] at h11
            exact ok_some trivial
        · rw [lg_cmp_eq] at h10
          try simp (disch := decide) only [i_add, i_sub, i_mul, i_0, i_1, i_m1, i_m2, i_m3, i_m4, i_nI, i_eq, i_lt, i_le, i_clamp, true_or, or_true, true_and, and_true, false_or, or_false, false_and, and_false, i_l64, i_lN, l_eq, l_lt, l_le] at h10
          refine ok_vb (sX9_lowest_ok  _ _ _ _ (by first | omega | ((try simp (disch := decide) only [i_add, i_sub, i_mul, i_0, i_1, i_m1, i_m2, i_m3, i_m4, i_nI, i_eq, i_lt, i_le, i_clamp, true_or, or_true, true_and, and_true, false_or, or_false, false_and, and_false, i_l64, i_lN, l_eq, l_lt, l_le]) <;> omega))) fun z11 _ => ?_
          refine ok_vi (fun h12 => ?_) (fun h12 => ?_)
          · try simp (disch := decide) only [i_add, i_sub, i_mul, i_0, i_1, i_m1, i_m2, i_m3, i_m4, i_nI, i_eq, i_lt, i_le, i_clamp, true_or, or_true, true_and, and_true, false_or, or_false, false_and, and_false, i_l64, i_lN, l_eq, l_lt, l_le] at h12
            exact ok_some trivial
          · try simp (disch := decide) only [i_add, i_sub, i_mul, i_0, i_1, i_m1, i_m2, i_m3, i_m4, i_nI, i_eq, i_lt, i_le, i_clamp, true_or, or_true, true_and, and_true, false_or, or_false, false_and, and_false, i_l64, i_lN, l_eq, l_lt, l_le] at h12
            exact ok_some trivial
set_option maxHeartbeats 1000000 in
set_option maxRecDepth 20000 in
theorem sX9_next_ok  (f_post : Nat → Int32) (f_now : Nat → Int32) (f_weights : Nat → Int32) (x1 : Int32) (g0 : arrOK pstC f_post) (g1 : arrOK nowC f_now) : ok (sX9_next f_post f_now f_weights x1) (fun _ => True) := by
  unfold sX9_next
  have p1 := read_0 (post_read (show arrOK pstC f_post by assumption))
  try simp (disch := decide) only [i_add, i_sub, i_mul, i_0, i_1, i_m1, i_m2, i_m3, i_m4, i_nI, i_eq, i_lt, i_le, i_clamp, true_or, or_true, true_and, and_true, false_or, or_false, false_and, and_false, i_l64, i_lN, l_eq, l_lt, l_le] at p1
  have p2 := read_1 (post_read (show arrOK pstC f_post by assumption))
  try simp (disch := decide) only [i_add, i_sub, i_mul, i_0, i_1, i_m1, i_m2, i_m3, i_m4, i_nI, i_eq, i_lt, i_le, i_clamp, true_or, or_true, true_and, and_true, false_or, or_false, false_and, and_false, i_l64, i_lN, l_eq, l_lt, l_le] at p2
  have p3 := post_2 (show arrOK pstC f_post by assumption)
  try simp (disch := decide) only [i_add, i_sub, i_mul, i_0, i_1, i_m1, i_m2, i_m3, i_m4, i_nI, i_eq, i_lt, i_le, i_clamp, true_or, or_true, true_and, and_true, false_or, or_false, false_and, and_false, i_l64, i_lN, l_eq, l_lt, l_le] at p3
  refine ok_vb (sX9_isActor_ok  _ _ (by first | assumption)) fun z1 hz4 => ?_
  try simp (disch := decide) only [i_add, i_sub, i_mul, i_0, i_1, i_m1, i_m2, i_m3, i_m4, i_nI, i_eq, i_lt, i_le, i_clamp, true_or, or_true, true_and, and_true, false_or, or_false, false_and, and_false, i_l64, i_lN, l_eq, l_lt, l_le] at hz4
  refine ok_vi (fun h5 => ?_) (fun h5 => ?_)
  · try simp (disch := decide) only [i_add, i_sub, i_mul, i_0, i_1, i_m1, i_m2, i_m3, i_m4, i_nI, i_eq, i_lt, i_le, i_clamp, true_or, or_true, true_and, and_true, false_or, or_false, false_and, and_false, i_l64, i_lN, l_eq, l_lt, l_le] at h5
    exact ok_some trivial
  · try simp (disch := decide) only [i_add, i_sub, i_mul, i_0, i_1, i_m1, i_m2, i_m3, i_m4, i_nI, i_eq, i_lt, i_le, i_clamp, true_or, or_true, true_and, and_true, false_or, or_false, false_and, and_false, i_l64, i_lN, l_eq, l_lt, l_le] at h5
    refine ok_vb (sX9_waits_ok  _ _ (by first | omega | ((try simp (disch := decide) only [i_add, i_sub, i_mul, i_0, i_1, i_m1, i_m2, i_m3, i_m4, i_nI, i_eq, i_lt, i_le, i_clamp, true_or, or_true, true_and, and_true, false_or, or_false, false_and, and_false, i_l64, i_lN, l_eq, l_lt, l_le]) <;> omega)) (by first | omega | ((try simp (disch := decide) only [i_add, i_sub, i_mul, i_0, i_1, i_m1, i_m2, i_m3, i_m4, i_nI, i_eq, i_lt, i_le, i_clamp, true_or, or_true, true_and, and_true, false_or, or_false, false_and, and_false, i_l64, i_lN, l_eq, l_lt, l_le]) <;> omega))) fun z3 _ => ?_
    refine ok_vi (fun h6 => ?_) (fun h6 => ?_)
    · try simp (disch := decide) only [i_add, i_sub, i_mul, i_0, i_1, i_m1, i_m2, i_m3, i_m4, i_nI, i_eq, i_lt, i_le, i_clamp, true_or, or_true, true_and, and_true, false_or, or_false, false_and, and_false, i_l64, i_lN, l_eq, l_lt, l_le] at h6
      exact ok_some trivial
    · try simp (disch := decide) only [i_add, i_sub, i_mul, i_0, i_1, i_m1, i_m2, i_m3, i_m4, i_nI, i_eq, i_lt, i_le, i_clamp, true_or, or_true, true_and, and_true, false_or, or_false, false_and, and_false, i_l64, i_lN, l_eq, l_lt, l_le] at h6
      refine ok_vb (sX9_nextAt_ok  _ _ _ _ (by first | assumption) (by first | assumption) (by first | omega | ((try simp (disch := decide) only [i_add, i_sub, i_mul, i_0, i_1, i_m1, i_m2, i_m3, i_m4, i_nI, i_eq, i_lt, i_le, i_clamp, true_or, or_true, true_and, and_true, false_or, or_false, false_and, and_false, i_l64, i_lN, l_eq, l_lt, l_le]) <;> omega)) (by first | omega | ((try simp (disch := decide) only [i_add, i_sub, i_mul, i_0, i_1, i_m1, i_m2, i_m3, i_m4, i_nI, i_eq, i_lt, i_le, i_clamp, true_or, or_true, true_and, and_true, false_or, or_false, false_and, and_false, i_l64, i_lN, l_eq, l_lt, l_le]) <;> omega))) fun z5 hz7 => ?_
      try simp (disch := decide) only [i_add, i_sub, i_mul, i_0, i_1, i_m1, i_m2, i_m3, i_m4, i_nI, i_eq, i_lt, i_le, i_clamp, true_or, or_true, true_and, and_true, false_or, or_false, false_and, and_false, i_l64, i_lN, l_eq, l_lt, l_le] at hz7
      exact ok_some trivial

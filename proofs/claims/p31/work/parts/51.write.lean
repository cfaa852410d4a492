/-! what write answers, on both sides -/
def layOK (ab ad : Nat) (sc : Nat → Int32) (pu ku su : Int32) (z : (Int32 × Nat × Nat × (Nat → Int32) × (Nat → Int32) × (Nat → Int32) × (Nat → Int32) × Int32 × Int32 × Int32 × Int32 × Int32 × Int32 × (Nat → Int32) × (Nat → Int32) × Int32 × Int32 × Int32 × Int32 × Int32)) : Prop := (z.2.1 = ab ∧ z.2.2.1 = ad ∧ z.2.2.2.2.2.2.2.2.2.2.2.2.2.1 = sc ∧ z.2.2.2.2.2.2.2.2.2.2.2.2.2.2.2.1 = pu ∧ z.2.2.2.2.2.2.2.2.2.2.2.2.2.2.2.2.1 = ku ∧ z.2.2.2.2.2.2.2.2.2.2.2.2.2.2.2.2.2.1 = su) ∨ (z.2.1 = ad ∧ z.2.2.1 = ab ∧ (0 ≤ z.2.2.2.2.2.2.2.1.toInt ∧ z.2.2.2.2.2.2.2.1.toInt ≤ 8 ∧ 0 ≤ z.2.2.2.2.2.2.2.2.1.toInt ∧ z.2.2.2.2.2.2.2.2.1.toInt ≤ 6 ∧ 0 ≤ z.2.2.2.2.2.2.2.2.2.1.toInt ∧ z.2.2.2.2.2.2.2.2.2.1.toInt ≤ 5) ∧ cellOK z.2.2.2.2.2.2.2.2.2.2.2.2.2.1 (11 * z.2.2.2.2.2.2.2.2.2.1.toInt) ∧ z.2.2.2.2.2.2.2.2.2.2.2.2.2.2.2.1.toInt = 0 ∧ z.2.2.2.2.2.2.2.2.2.2.2.2.2.2.2.2.1.toInt = 0 ∧ z.2.2.2.2.2.2.2.2.2.2.2.2.2.2.2.2.2.1.toInt = 0)
set_option maxHeartbeats 1000000 in
set_option maxRecDepth 20000 in
theorem sX8_write_v_ok  (f_letters : Nat → Int32) (f_length : Int32) (x1 : Int32) (g0 : 0 ≤ f_length.toInt) (g1 : f_length.toInt ≤ 200) : ok (sX8_write f_letters f_length x1) (fun z => z.1.toInt = -1 ∧ z.2.2.toInt = f_length.toInt ∧ (x1.toInt < 32 ∨ 126 < x1.toInt) ∨ z.1.toInt = -3 ∧ z.2.2.toInt = f_length.toInt ∧ 32 ≤ x1.toInt ∧ x1.toInt ≤ 126 ∧ f_length.toInt = 200 ∨ z.1.toInt = f_length.toInt + 1 ∧ z.2.2.toInt = f_length.toInt + 1 ∧ 32 ≤ x1.toInt ∧ x1.toInt ≤ 126 ∧ f_length.toInt < 200) := by
  unfold sX8_write
  try simp (disch := decide) only [i_add, i_sub, i_mul, i_0, i_1, i_m1, i_m2, i_m3, i_m4, i_nI, i_eq, i_lt, i_le, i_clamp, true_or, or_true, true_and, and_true, false_or, or_false, false_and, and_false, i_l64, i_lN, l_eq, l_lt, l_le] at g0
  try simp (disch := decide) only [i_add, i_sub, i_mul, i_0, i_1, i_m1, i_m2, i_m3, i_m4, i_nI, i_eq, i_lt, i_le, i_clamp, true_or, or_true, true_and, and_true, false_or, or_false, false_and, and_false, i_l64, i_lN, l_eq, l_lt, l_le] at g1
  refine ok_vi (fun h1 => ?_) (fun h1 => ?_)
  · try simp (disch := decide) only [i_add, i_sub, i_mul, i_0, i_1, i_m1, i_m2, i_m3, i_m4, i_nI, i_eq, i_lt, i_le, i_clamp, true_or, or_true, true_and, and_true, false_or, or_false, false_and, and_false, i_l64, i_lN, l_eq, l_lt, l_le] at h1
    refine ok_some ?_
    · first | omega | ((try simp (disch := decide) only [i_add, i_sub, i_mul, i_0, i_1, i_m1, i_m2, i_m3, i_m4, i_nI, i_eq, i_lt, i_le, i_clamp, true_or, or_true, true_and, and_true, false_or, or_false, false_and, and_false, i_l64, i_lN, l_eq, l_lt, l_le]) <;> omega)
  · try simp (disch := decide) only [i_add, i_sub, i_mul, i_0, i_1, i_m1, i_m2, i_m3, i_m4, i_nI, i_eq, i_lt, i_le, i_clamp, true_or, or_true, true_and, and_true, false_or, or_false, false_and, and_false, i_l64, i_lN, l_eq, l_lt, l_le] at h1
    refine ok_vi (fun h2 => ?_) (fun h2 => ?_)
    · try simp (disch := decide) only [i_add, i_sub, i_mul, i_0, i_1, i_m1, i_m2, i_m3, i_m4, i_nI, i_eq, i_lt, i_le, i_clamp, true_or, or_true, true_and, and_true, false_or, or_false, false_and, and_false, i_l64, i_lN, l_eq, l_lt, l_le] at h2
      refine ok_vi (fun h3 => ?_) (fun h3 => ?_)
      · try simp (disch := decide) only [i_add, i_sub, i_mul, i_0, i_1, i_m1, i_m2, i_m3, i_m4, i_nI, i_eq, i_lt, i_le, i_clamp, true_or, or_true, true_and, and_true, false_or, or_false, false_and, and_false, i_l64, i_lN, l_eq, l_lt, l_le] at h3
        refine ok_some ?_
        · first | omega | ((try simp (disch := decide) only [i_add, i_sub, i_mul, i_0, i_1, i_m1, i_m2, i_m3, i_m4, i_nI, i_eq, i_lt, i_le, i_clamp, true_or, or_true, true_and, and_true, false_or, or_false, false_and, and_false, i_l64, i_lN, l_eq, l_lt, l_le]) <;> omega)
      · try simp (disch := decide) only [i_add, i_sub, i_mul, i_0, i_1, i_m1, i_m2, i_m3, i_m4, i_nI, i_eq, i_lt, i_le, i_clamp, true_or, or_true, true_and, and_true, false_or, or_false, false_and, and_false, i_l64, i_lN, l_eq, l_lt, l_le] at h3
        refine ok_vi (fun h4 => ?_) (fun h4 => ?_)
        · try simp (disch := decide) only [i_add, i_sub, i_mul, i_0, i_1, i_m1, i_m2, i_m3, i_m4, i_nI, i_eq, i_lt, i_le, i_clamp, true_or, or_true, true_and, and_true, false_or, or_false, false_and, and_false, i_l64, i_lN, l_eq, l_lt, l_le] at h4
          refine ok_vg (vin_of (by first | omega | ((try simp (disch := decide) only [i_add, i_sub, i_mul, i_0, i_1, i_m1, i_m2, i_m3, i_m4, i_nI, i_eq, i_lt, i_le, i_clamp, true_or, or_true, true_and, and_true, false_or, or_false, false_and, and_false, i_l64, i_lN, l_eq, l_lt, l_le]) <;> omega)) (by first | omega | ((try simp (disch := decide) only [i_add, i_sub, i_mul, i_0, i_1, i_m1, i_m2, i_m3, i_m4, i_nI, i_eq, i_lt, i_le, i_clamp, true_or, or_true, true_and, and_true, false_or, or_false, false_and, and_false, i_l64, i_lN, l_eq, l_lt, l_le]) <;> omega))) ?_
          refine ok_vlet fun u6 hy5 => ?_
          subst hy5
          refine ok_vlet fun y7 hy6 => ?_
          try simp (disch := decide) only [i_add, i_sub, i_mul, i_0, i_1, i_m1, i_m2, i_m3, i_m4, i_nI, i_eq, i_lt, i_le, i_clamp, true_or, or_true, true_and, and_true, false_or, or_false, false_and, and_false, i_l64, i_lN, l_eq, l_lt, l_le] at hy6
          refine ok_some ?_
          · first | omega | ((try simp (disch := decide) only [i_add, i_sub, i_mul, i_0, i_1, i_m1, i_m2, i_m3, i_m4, i_nI, i_eq, i_lt, i_le, i_clamp, true_or, or_true, true_and, and_true, false_or, or_false, false_and, and_false, i_l64, i_lN, l_eq, l_lt, l_le]) <;> omega)
        · try simp (disch := decide) only [i_add, i_sub, i_mul, i_0, i_1, i_m1, i_m2, i_m3, i_m4, i_nI, i_eq, i_lt, i_le, i_clamp, true_or, or_true, true_and, and_true, false_or, or_false, false_and, and_false, i_l64, i_lN, l_eq, l_lt, l_le] at h4
          refine ok_some ?_
          · first | omega | ((try simp (disch := decide) only [i_add, i_sub, i_mul, i_0, i_1, i_m1, i_m2, i_m3, i_m4, i_nI, i_eq, i_lt, i_le, i_clamp, true_or, or_true, true_and, and_true, false_or, or_false, false_and, and_false, i_l64, i_lN, l_eq, l_lt, l_le]) <;> omega)
    · try simp (disch := decide) only [i_add, i_sub, i_mul, i_0, i_1, i_m1, i_m2, i_m3, i_m4, i_nI, i_eq, i_lt, i_le, i_clamp, true_or, or_true, true_and, and_true, false_or, or_false, false_and, and_false, i_l64, i_lN, l_eq, l_lt, l_le] at h2
      refine ok_some ?_
      · first | omega | ((try simp (disch := decide) only [i_add, i_sub, i_mul, i_0, i_1, i_m1, i_m2, i_m3, i_m4, i_nI, i_eq, i_lt, i_le, i_clamp, true_or, or_true, true_and, and_true, false_or, or_false, false_and, and_false, i_l64, i_lN, l_eq, l_lt, l_le]) <;> omega)
set_option maxHeartbeats 1000000 in
set_option maxRecDepth 20000 in
theorem sX9_write_v_ok  (f_text : Nat → Int32) (f_size : Int32) (x1 : Int32) (g0 : 0 ≤ f_size.toInt) (g1 : f_size.toInt ≤ 200) : ok (sX9_write f_text f_size x1) (fun z => z.1.toInt = -1 ∧ z.2.2.toInt = f_size.toInt ∧ (x1.toInt < 32 ∨ 126 < x1.toInt) ∨ z.1.toInt = -3 ∧ z.2.2.toInt = f_size.toInt ∧ 32 ≤ x1.toInt ∧ x1.toInt ≤ 126 ∧ f_size.toInt = 200 ∨ z.1.toInt = f_size.toInt + 1 ∧ z.2.2.toInt = f_size.toInt + 1 ∧ 32 ≤ x1.toInt ∧ x1.toInt ≤ 126 ∧ f_size.toInt < 200) := by
  unfold sX9_write
  try simp (disch := decide) only [i_add, i_sub, i_mul, i_0, i_1, i_m1, i_m2, i_m3, i_m4, i_nI, i_eq, i_lt, i_le, i_clamp, true_or, or_true, true_and, and_true, false_or, or_false, false_and, and_false, i_l64, i_lN, l_eq, l_lt, l_le] at g0
  try simp (disch := decide) only [i_add, i_sub, i_mul, i_0, i_1, i_m1, i_m2, i_m3, i_m4, i_nI, i_eq, i_lt, i_le, i_clamp, true_or, or_true, true_and, and_true, false_or, or_false, false_and, and_false, i_l64, i_lN, l_eq, l_lt, l_le] at g1
  refine ok_vb (sX9_in_ok  _ _ _ ) fun z1 hz1 => ?_
  try simp (disch := decide) only [i_add, i_sub, i_mul, i_0, i_1, i_m1, i_m2, i_m3, i_m4, i_nI, i_eq, i_lt, i_le, i_clamp, true_or, or_true, true_and, and_true, false_or, or_false, false_and, and_false, i_l64, i_lN, l_eq, l_lt, l_le] at hz1
  refine ok_vi (fun h2 => ?_) (fun h2 => ?_)
  · try simp (disch := decide) only [i_add, i_sub, i_mul, i_0, i_1, i_m1, i_m2, i_m3, i_m4, i_nI, i_eq, i_lt, i_le, i_clamp, true_or, or_true, true_and, and_true, false_or, or_false, false_and, and_false, i_l64, i_lN, l_eq, l_lt, l_le] at h2
    refine ok_some ?_
    · first | omega | ((try simp (disch := decide) only [i_add, i_sub, i_mul, i_0, i_1, i_m1, i_m2, i_m3, i_m4, i_nI, i_eq, i_lt, i_le, i_clamp, true_or, or_true, true_and, and_true, false_or, or_false, false_and, and_false, i_l64, i_lN, l_eq, l_lt, l_le]) <;> omega)
  · try simp (disch := decide) only [i_add, i_sub, i_mul, i_0, i_1, i_m1, i_m2, i_m3, i_m4, i_nI, i_eq, i_lt, i_le, i_clamp, true_or, or_true, true_and, and_true, false_or, or_false, false_and, and_false, i_l64, i_lN, l_eq, l_lt, l_le] at h2
    refine ok_vi (fun h3 => ?_) (fun h3 => ?_)
    · try simp (disch := decide) only [i_add, i_sub, i_mul, i_0, i_1, i_m1, i_m2, i_m3, i_m4, i_nI, i_eq, i_lt, i_le, i_clamp, true_or, or_true, true_and, and_true, false_or, or_false, false_and, and_false, i_l64, i_lN, l_eq, l_lt, l_le] at h3
      refine ok_some ?_
      · first | omega | ((try simp (disch := decide) only [i_add, i_sub, i_mul, i_0, i_1, i_m1, i_m2, i_m3, i_m4, i_nI, i_eq, i_lt, i_le, i_clamp, true_or, or_true, true_and, and_true, false_or, or_false, false_and, and_false, i_l64, i_lN, l_eq, l_lt, l_le]) <;> omega)
    · try simp (disch := decide) only [i_add, i_sub, i_mul, i_0, i_1, i_m1, i_m2, i_m3, i_m4, i_nI, i_eq, i_lt, i_le, i_clamp, true_or, or_true, true_and, and_true, false_or, or_false, false_and, and_false, i_l64, i_lN, l_eq, l_lt, l_le] at h3
      refine ok_vg (vin_of (by first | omega | ((try simp (disch := decide) only [i_add, i_sub, i_mul, i_0, i_1, i_m1, i_m2, i_m3, i_m4, i_nI, i_eq, i_lt, i_le, i_clamp, true_or, or_true, true_and, and_true, false_or, or_false, false_and, and_false, i_l64, i_lN, l_eq, l_lt, l_le]) <;> omega)) (by first | omega | ((try simp (disch := decide) only [i_add, i_sub, i_mul, i_0, i_1, i_m1, i_m2, i_m3, i_m4, i_nI, i_eq, i_lt, i_le, i_clamp, true_or, or_true, true_and, and_true, false_or, or_false, false_and, and_false, i_l64, i_lN, l_eq, l_lt, l_le]) <;> omega))) ?_
      refine ok_vlet fun u5 hy4 => ?_
      subst hy4
      refine ok_vlet fun y6 hy5 => ?_
      try simp (disch := decide) only [i_add, i_sub, i_mul, i_0, i_1, i_m1, i_m2, i_m3, i_m4, i_nI, i_eq, i_lt, i_le, i_clamp, true_or, or_true, true_and, and_true, false_or, or_false, false_and, and_false, i_l64, i_lN, l_eq, l_lt, l_le] at hy5
      refine ok_some ?_
      · first | omega | ((try simp (disch := decide) only [i_add, i_sub, i_mul, i_0, i_1, i_m1, i_m2, i_m3, i_m4, i_nI, i_eq, i_lt, i_le, i_clamp, true_or, or_true, true_and, and_true, false_or, or_false, false_and, and_false, i_l64, i_lN, l_eq, l_lt, l_le]) <;> omega)
set_option maxHeartbeats 1000000 in
set_option maxRecDepth 20000 in
theorem sX8_lay_ok  (a_board : Nat) (a_draft : Nat) (f_letters : Nat → Int32) (f_length : Int32) (f_draft_commons : Nat → Int32) (f_draft_lengths : Nat → Int32) (f_draft_parts : Nat → Int32) (f_draft_likenesses : Nat → Int32) (f_draft_wordCount : Int32) (f_draft_likenessCount : Int32) (f_draft_actorCount : Int32) (f_draft_forbiddenBits : Int32) (f_draft_habitTold : Int32) (f_draft_priceTold : Int32) (f_scene_cells : Nat → Int32) (f_trial_cells : Nat → Int32) (f_past_used : Int32) (f_kept_used : Int32) (f_seen_used : Int32) (f_reader_end : Int32) (f_reader_at : Int32)  : ok (sX8_lay a_board a_draft f_letters f_length f_draft_commons f_draft_lengths f_draft_parts f_draft_likenesses f_draft_wordCount f_draft_likenessCount f_draft_actorCount f_draft_forbiddenBits f_draft_habitTold f_draft_priceTold f_scene_cells f_trial_cells f_past_used f_kept_used f_seen_used f_reader_end f_reader_at) (fun z => layOK a_board a_draft f_scene_cells f_past_used f_kept_used f_seen_used z) := by
  unfold sX8_lay
  refine ok_vb (sX3_firstFault_sh_ok  _ _ _ _ _ _ _ _ _ _ _ _ _ _ _ _ (by first | omega | ((try simp (disch := decide) only [i_add, i_sub, i_mul, i_0, i_1, i_m1, i_m2, i_m3, i_m4, i_nI, i_eq, i_lt, i_le, i_clamp, true_or, or_true, true_and, and_true, false_or, or_false, false_and, and_false, i_l64, i_lN, l_eq, l_lt, l_le]) <;> omega))) fun z1 hz1 => ?_
  try simp (disch := decide) only [i_add, i_sub, i_mul, i_0, i_1, i_m1, i_m2, i_m3, i_m4, i_nI, i_eq, i_lt, i_le, i_clamp, true_or, or_true, true_and, and_true, false_or, or_false, false_and, and_false, i_l64, i_lN, l_eq, l_lt, l_le] at hz1
  obtain ⟨hz1_0, hz1_1, hz1_2, hz1_3, hz1_4, hz1_5, hz1_6⟩ := hz1
  refine ok_vi (fun h2 => ?_) (fun h2 => ?_)
  · try simp (disch := decide) only [i_add, i_sub, i_mul, i_0, i_1, i_m1, i_m2, i_m3, i_m4, i_nI, i_eq, i_lt, i_le, i_clamp, true_or, or_true, true_and, and_true, false_or, or_false, false_and, and_false, i_l64, i_lN, l_eq, l_lt, l_le] at h2
    refine ok_vb (sX0_words_ok  _ ) fun z3 hz3 => ?_
    try simp (disch := decide) only [i_add, i_sub, i_mul, i_0, i_1, i_m1, i_m2, i_m3, i_m4, i_nI, i_eq, i_lt, i_le, i_clamp, true_or, or_true, true_and, and_true, false_or, or_false, false_and, and_false, i_l64, i_lN, l_eq, l_lt, l_le] at hz3
    refine ok_vi (fun h4 => ?_) (fun h4 => ?_)
    · try simp (disch := decide) only [i_add, i_sub, i_mul, i_0, i_1, i_m1, i_m2, i_m3, i_m4, i_nI, i_eq, i_lt, i_le, i_clamp, true_or, or_true, true_and, and_true, false_or, or_false, false_and, and_false, i_l64, i_lN, l_eq, l_lt, l_le] at h4
      refine ok_some ?_
      try dsimp only
      · first | assumption | exact Or.inl ⟨rfl, rfl, rfl, rfl, rfl, rfl⟩ | exact Or.inr ⟨rfl, rfl, by (refine ⟨?_, ?_, ?_, ?_, ?_, ?_⟩ <;> assumption), by assumption, by assumption, by assumption, by assumption⟩
    · try simp (disch := decide) only [i_add, i_sub, i_mul, i_0, i_1, i_m1, i_m2, i_m3, i_m4, i_nI, i_eq, i_lt, i_le, i_clamp, true_or, or_true, true_and, and_true, false_or, or_false, false_and, and_false, i_l64, i_lN, l_eq, l_lt, l_le] at h4
      refine ok_vb (sX0_actors_ok  _ ) fun z5 hz5 => ?_
      try simp (disch := decide) only [i_add, i_sub, i_mul, i_0, i_1, i_m1, i_m2, i_m3, i_m4, i_nI, i_eq, i_lt, i_le, i_clamp, true_or, or_true, true_and, and_true, false_or, or_false, false_and, and_false, i_l64, i_lN, l_eq, l_lt, l_le] at hz5
      refine ok_vi (fun h6 => ?_) (fun h6 => ?_)
      · try simp (disch := decide) only [i_add, i_sub, i_mul, i_0, i_1, i_m1, i_m2, i_m3, i_m4, i_nI, i_eq, i_lt, i_le, i_clamp, true_or, or_true, true_and, and_true, false_or, or_false, false_and, and_false, i_l64, i_lN, l_eq, l_lt, l_le] at h6
        refine ok_vb (sX4_copyFrom_sh_ok (11 * z1.2.2.2.2.2.2.2.2.2.1.toInt) _ _ (by first | assumption | exact Or.inl ⟨rfl, rfl, rfl, rfl, rfl, rfl⟩ | exact Or.inr ⟨rfl, rfl, by (refine ⟨?_, ?_, ?_, ?_, ?_, ?_⟩ <;> assumption), by assumption, by assumption, by assumption, by assumption⟩) (by first | omega | ((try simp (disch := decide) only [i_add, i_sub, i_mul, i_0, i_1, i_m1, i_m2, i_m3, i_m4, i_nI, i_eq, i_lt, i_le, i_clamp, true_or, or_true, true_and, and_true, false_or, or_false, false_and, and_false, i_l64, i_lN, l_eq, l_lt, l_le]) <;> omega))) fun z7 hz7 => ?_
        try simp (disch := decide) only [i_add, i_sub, i_mul, i_0, i_1, i_m1, i_m2, i_m3, i_m4, i_nI, i_eq, i_lt, i_le, i_clamp, true_or, or_true, true_and, and_true, false_or, or_false, false_and, and_false, i_l64, i_lN, l_eq, l_lt, l_le] at hz7
        refine ok_vb (sX7_clear_ok  _ ) fun z8 hz8 => ?_
        try simp (disch := decide) only [i_add, i_sub, i_mul, i_0, i_1, i_m1, i_m2, i_m3, i_m4, i_nI, i_eq, i_lt, i_le, i_clamp, true_or, or_true, true_and, and_true, false_or, or_false, false_and, and_false, i_l64, i_lN, l_eq, l_lt, l_le] at hz8
        refine ok_vb (sX7_clear_ok  _ ) fun z9 hz9 => ?_
        try simp (disch := decide) only [i_add, i_sub, i_mul, i_0, i_1, i_m1, i_m2, i_m3, i_m4, i_nI, i_eq, i_lt, i_le, i_clamp, true_or, or_true, true_and, and_true, false_or, or_false, false_and, and_false, i_l64, i_lN, l_eq, l_lt, l_le] at hz9
        refine ok_vb (sX6_clear_ok  _ ) fun z10 hz10 => ?_
        try simp (disch := decide) only [i_add, i_sub, i_mul, i_0, i_1, i_m1, i_m2, i_m3, i_m4, i_nI, i_eq, i_lt, i_le, i_clamp, true_or, or_true, true_and, and_true, false_or, or_false, false_and, and_false, i_l64, i_lN, l_eq, l_lt, l_le] at hz10
        refine ok_vb (sX0_actors_ok  _ ) fun z11 hz11 => ?_
        try simp (disch := decide) only [i_add, i_sub, i_mul, i_0, i_1, i_m1, i_m2, i_m3, i_m4, i_nI, i_eq, i_lt, i_le, i_clamp, true_or, or_true, true_and, and_true, false_or, or_false, false_and, and_false, i_l64, i_lN, l_eq, l_lt, l_le] at hz11
        refine ok_some ?_
        try dsimp only
        · first | assumption | exact Or.inl ⟨rfl, rfl, rfl, rfl, rfl, rfl⟩ | exact Or.inr ⟨rfl, rfl, by (refine ⟨?_, ?_, ?_, ?_, ?_, ?_⟩ <;> assumption), by assumption, by assumption, by assumption, by assumption⟩
      · try simp (disch := decide) only [i_add, i_sub, i_mul, i_0, i_1, i_m1, i_m2, i_m3, i_m4, i_nI, i_eq, i_lt, i_le, i_clamp, true_or, or_true, true_and, and_true, false_or, or_false, false_and, and_false, i_l64, i_lN, l_eq, l_lt, l_le] at h6
        refine ok_some ?_
        try dsimp only
        · first | assumption | exact Or.inl ⟨rfl, rfl, rfl, rfl, rfl, rfl⟩ | exact Or.inr ⟨rfl, rfl, by (refine ⟨?_, ?_, ?_, ?_, ?_, ?_⟩ <;> assumption), by assumption, by assumption, by assumption, by assumption⟩
  · try simp (disch := decide) only [i_add, i_sub, i_mul, i_0, i_1, i_m1, i_m2, i_m3, i_m4, i_nI, i_eq, i_lt, i_le, i_clamp, true_or, or_true, true_and, and_true, false_or, or_false, false_and, and_false, i_l64, i_lN, l_eq, l_lt, l_le] at h2
    refine ok_some ?_
    try dsimp only
    · first | assumption | exact Or.inl ⟨rfl, rfl, rfl, rfl, rfl, rfl⟩ | exact Or.inr ⟨rfl, rfl, by (refine ⟨?_, ?_, ?_, ?_, ?_, ?_⟩ <;> assumption), by assumption, by assumption, by assumption, by assumption⟩
set_option maxHeartbeats 1000000 in
set_option maxRecDepth 20000 in
theorem sX8_fault_ok  (f_letters : Nat → Int32) (f_length : Int32) (f_draft_commons : Nat → Int32) (f_draft_lengths : Nat → Int32) (f_draft_parts : Nat → Int32) (f_draft_likenesses : Nat → Int32) (f_draft_wordCount : Int32) (f_draft_likenessCount : Int32) (f_draft_actorCount : Int32) (f_draft_forbiddenBits : Int32) (f_draft_habitTold : Int32) (f_draft_priceTold : Int32) (f_trial_cells : Nat → Int32) (f_reader_end : Int32) (f_reader_at : Int32)  : ok (sX8_fault f_letters f_length f_draft_commons f_draft_lengths f_draft_parts f_draft_likenesses f_draft_wordCount f_draft_likenessCount f_draft_actorCount f_draft_forbiddenBits f_draft_habitTold f_draft_priceTold f_trial_cells f_reader_end f_reader_at) (fun _ => True) := by
  unfold sX8_fault
  refine ok_vb (sX3_firstFault_ok  _ _ _ _ _ _ _ _ _ _ _ _ _ _ _ _ (by first | omega | ((try simp (disch := decide) only [i_add, i_sub, i_mul, i_0, i_1, i_m1, i_m2, i_m3, i_m4, i_nI, i_eq, i_lt, i_le, i_clamp, true_or, or_true, true_and, and_true, false_or, or_false, false_and, and_false, i_l64, i_lN, l_eq, l_lt, l_le]) <;> omega))) fun z1 hz1 => ?_
  try simp (disch := decide) only [i_add, i_sub, i_mul, i_0, i_1, i_m1, i_m2, i_m3, i_m4, i_nI, i_eq, i_lt, i_le, i_clamp, true_or, or_true, true_and, and_true, false_or, or_false, false_and, and_false, i_l64, i_lN, l_eq, l_lt, l_le] at hz1
  obtain ⟨hz1_0, hz1_1, hz1_2, hz1_3, hz1_4, hz1_5⟩ := hz1
  exact ok_some trivial
set_option maxHeartbeats 1000000 in
set_option maxRecDepth 20000 in
theorem sX8_wipe_v_ok  (f_length : Int32)  : ok (sX8_wipe f_length) (fun z => z.2.toInt = 0 ∧ z.1.toInt = f_length.toInt) := by
  unfold sX8_wipe
  refine ok_some ?_
  refine ⟨?_, ?_⟩
  · first | omega | ((try simp (disch := decide) only [i_add, i_sub, i_mul, i_0, i_1, i_m1, i_m2, i_m3, i_m4, i_nI, i_eq, i_lt, i_le, i_clamp, true_or, or_true, true_and, and_true, false_or, or_false, false_and, and_false, i_l64, i_lN, l_eq, l_lt, l_le]) <;> omega)
  · first | omega | ((try simp (disch := decide) only [i_add, i_sub, i_mul, i_0, i_1, i_m1, i_m2, i_m3, i_m4, i_nI, i_eq, i_lt, i_le, i_clamp, true_or, or_true, true_and, and_true, false_or, or_false, false_and, and_false, i_l64, i_lN, l_eq, l_lt, l_le]) <;> omega)
set_option maxHeartbeats 1000000 in
set_option maxRecDepth 20000 in
theorem sX9_wipe_v_ok  (f_size : Int32)  : ok (sX9_wipe f_size) (fun z => z.2.toInt = 0 ∧ z.1.toInt = f_size.toInt) := by
  unfold sX9_wipe
  refine ok_some ?_
  refine ⟨?_, ?_⟩
  · first | omega | ((try simp (disch := decide) only [i_add, i_sub, i_mul, i_0, i_1, i_m1, i_m2, i_m3, i_m4, i_nI, i_eq, i_lt, i_le, i_clamp, true_or, or_true, true_and, and_true, false_or, or_false, false_and, and_false, i_l64, i_lN, l_eq, l_lt, l_le]) <;> omega)
  · first | omega | ((try simp (disch := decide) only [i_add, i_sub, i_mul, i_0, i_1, i_m1, i_m2, i_m3, i_m4, i_nI, i_eq, i_lt, i_le, i_clamp, true_or, or_true, true_and, and_true, false_or, or_false, false_and, and_false, i_l64, i_lN, l_eq, l_lt, l_le]) <;> omega)

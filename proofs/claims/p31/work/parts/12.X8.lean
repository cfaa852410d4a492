def sX8_lay (a_board : Nat) (a_draft : Nat) (f_letters : Nat → Int32) (f_length : Int32) (f_draft_commons : Nat → Int32) (f_draft_lengths : Nat → Int32) (f_draft_parts : Nat → Int32) (f_draft_likenesses : Nat → Int32) (f_draft_wordCount : Int32) (f_draft_likenessCount : Int32) (f_draft_actorCount : Int32) (f_draft_forbiddenBits : Int32) (f_draft_habitTold : Int32) (f_draft_priceTold : Int32) (f_scene_cells : Nat → Int32) (f_trial_cells : Nat → Int32) (f_past_used : Int32) (f_kept_used : Int32) (f_seen_used : Int32) (f_reader_end : Int32) (f_reader_at : Int32) : Option (Int32 × Nat × Nat × (Nat → Int32) × (Nat → Int32) × (Nat → Int32) × (Nat → Int32) × Int32 × Int32 × Int32 × Int32 × Int32 × Int32 × (Nat → Int32) × (Nat → Int32) × Int32 × Int32 × Int32 × Int32 × Int32) :=
  vb (sX3_firstFault 200 f_reader_end f_reader_at f_letters f_draft_commons f_draft_lengths f_draft_parts f_draft_likenesses f_draft_wordCount f_draft_likenessCount f_draft_actorCount f_draft_forbiddenBits f_draft_habitTold f_draft_priceTold f_trial_cells f_length) fun z1 =>
  vi (z1.1 = (-4)) inferInstance (
    vb (sX0_words z1.2.2.2.2.2.2.2.1) fun z3 =>
    vi (z3 < (nI 1)) inferInstance (
      some ((-2), a_board, a_draft, z1.2.2.2.1, z1.2.2.2.2.1, z1.2.2.2.2.2.1, z1.2.2.2.2.2.2.1, z1.2.2.2.2.2.2.2.1, z1.2.2.2.2.2.2.2.2.1, z1.2.2.2.2.2.2.2.2.2.1, z1.2.2.2.2.2.2.2.2.2.2.1, z1.2.2.2.2.2.2.2.2.2.2.2.1, z1.2.2.2.2.2.2.2.2.2.2.2.2.1, f_scene_cells, z1.2.2.2.2.2.2.2.2.2.2.2.2.2, f_past_used, f_kept_used, f_seen_used, z1.2.1, z1.2.2.1)) (
      vb (sX0_actors z1.2.2.2.2.2.2.2.2.2.1) fun z5 =>
      vi ((nI 1) ≤ z5) inferInstance (
        vb (sX4_copyFrom f_scene_cells z1.2.2.2.2.2.2.2.2.2.2.2.2.2) fun z7 =>
        vb (sX7_clear f_past_used) fun z8 =>
        vb (sX7_clear f_kept_used) fun z9 =>
        vb (sX6_clear f_seen_used) fun z10 =>
        vb (sX0_actors z1.2.2.2.2.2.2.2.2.2.1) fun z11 =>
        some (z11, a_draft, a_board, z1.2.2.2.1, z1.2.2.2.2.1, z1.2.2.2.2.2.1, z1.2.2.2.2.2.2.1, z1.2.2.2.2.2.2.2.1, z1.2.2.2.2.2.2.2.2.1, z1.2.2.2.2.2.2.2.2.2.1, z1.2.2.2.2.2.2.2.2.2.2.1, z1.2.2.2.2.2.2.2.2.2.2.2.1, z1.2.2.2.2.2.2.2.2.2.2.2.2.1, z7, z1.2.2.2.2.2.2.2.2.2.2.2.2.2, z8, z9, z10.2, z1.2.1, z1.2.2.1)) (
        some ((-2), a_board, a_draft, z1.2.2.2.1, z1.2.2.2.2.1, z1.2.2.2.2.2.1, z1.2.2.2.2.2.2.1, z1.2.2.2.2.2.2.2.1, z1.2.2.2.2.2.2.2.2.1, z1.2.2.2.2.2.2.2.2.2.1, z1.2.2.2.2.2.2.2.2.2.2.1, z1.2.2.2.2.2.2.2.2.2.2.2.1, z1.2.2.2.2.2.2.2.2.2.2.2.2.1, f_scene_cells, z1.2.2.2.2.2.2.2.2.2.2.2.2.2, f_past_used, f_kept_used, f_seen_used, z1.2.1, z1.2.2.1)))) (
    some ((-2), a_board, a_draft, z1.2.2.2.1, z1.2.2.2.2.1, z1.2.2.2.2.2.1, z1.2.2.2.2.2.2.1, z1.2.2.2.2.2.2.2.1, z1.2.2.2.2.2.2.2.2.1, z1.2.2.2.2.2.2.2.2.2.1, z1.2.2.2.2.2.2.2.2.2.2.1, z1.2.2.2.2.2.2.2.2.2.2.2.1, z1.2.2.2.2.2.2.2.2.2.2.2.2.1, f_scene_cells, z1.2.2.2.2.2.2.2.2.2.2.2.2.2, f_past_used, f_kept_used, f_seen_used, z1.2.1, z1.2.2.1))
abbrev rmX8_lay : Room := { frames := 5, cells := 0, slots := 0, locals := 123 }
set_option maxHeartbeats 4000000 in
set_option maxRecDepth 100000 in
theorem cX8_lay_ct (l : Launch) (D : va_G) (cI : ClassId) (h : Nat) (a_letters : Nat) (a_board : Nat) (a_draft : Nat) (a_scene : Nat) (a_trial : Nat) (a_past : Nat) (a_kept : Nat) (a_seen : Nat) (a_reader : Nat) (a_search : Nat) (a_deal : Nat) (a_line : Nat) (a_draft_commons : Nat) (a_draft_lengths : Nat) (a_draft_parts : Nat) (a_draft_likenesses : Nat) (a_scene_cells : Nat) (a_trial_cells : Nat) (a_past_rows : Nat) (a_kept_rows : Nat) (a_seen_actors : Nat) (a_seen_words : Nat) (a_reader_text : Nat) (f_length : Int32) (f_letters : Nat → Int32) (f_draft_wordCount : Int32) (f_draft_likenessCount : Int32) (f_draft_actorCount : Int32) (f_draft_forbiddenBits : Int32) (f_draft_habitTold : Int32) (f_draft_priceTold : Int32) (f_draft_commons : Nat → Int32) (f_draft_lengths : Nat → Int32) (f_draft_parts : Nat → Int32) (f_draft_likenesses : Nat → Int32) (f_scene_cells : Nat → Int32) (f_trial_cells : Nat → Int32) (f_past_most : Int32) (f_past_used : Int32) (f_kept_most : Int32) (f_kept_used : Int32) (f_seen_used : Int32) (f_reader_end : Int32) (f_reader_at : Int32) {z : Int32 × Nat × Nat × (Nat → Int32) × (Nat → Int32) × (Nat → Int32) × (Nat → Int32) × Int32 × Int32 × Int32 × Int32 × Int32 × Int32 × (Nat → Int32) × (Nat → Int32) × Int32 × Int32 × Int32 × Int32 × Int32} (hs : sX8_lay a_board a_draft f_letters f_length f_draft_commons f_draft_lengths f_draft_parts f_draft_likenesses f_draft_wordCount f_draft_likenessCount f_draft_actorCount f_draft_forbiddenBits f_draft_habitTold f_draft_priceTold f_scene_cells f_trial_cells f_past_used f_kept_used f_seen_used f_reader_end f_reader_at = some z) : ct l yX8_lay (.code yX8_lay cX8_lay 3 (some .int) :: gtb) rmX8_lay D cI [.ref h] [oX8 h a_letters f_length a_board a_draft a_scene a_trial a_past a_kept a_seen a_reader a_search a_deal a_line, aI cI a_letters 200 f_letters, oX0 a_draft a_draft_commons a_draft_lengths a_draft_parts a_draft_likenesses f_draft_wordCount f_draft_likenessCount f_draft_actorCount f_draft_forbiddenBits f_draft_habitTold f_draft_priceTold, aI cI a_draft_commons 8 f_draft_commons, aI cI a_draft_lengths 8 f_draft_lengths, aI cI a_draft_parts 8 f_draft_parts, aI cI a_draft_likenesses 6 f_draft_likenesses, oX4 a_scene a_scene_cells, aI cI a_scene_cells 55 f_scene_cells, oX4 a_trial a_trial_cells, aI cI a_trial_cells 55 f_trial_cells, oX7 a_past a_past_rows f_past_most f_past_used, oX7 a_kept a_kept_rows f_kept_most f_kept_used, oX6 a_seen a_seen_actors a_seen_words f_seen_used, oX3 a_reader a_reader_text f_reader_end f_reader_at] (some (.int z.1)) [oX8 h a_letters f_length z.2.1 z.2.2.1 a_scene a_trial a_past a_kept a_seen a_reader a_search a_deal a_line, aI cI a_letters 200 f_letters, oX0 a_draft a_draft_commons a_draft_lengths a_draft_parts a_draft_likenesses z.2.2.2.2.2.2.2.1 z.2.2.2.2.2.2.2.2.1 z.2.2.2.2.2.2.2.2.2.1 z.2.2.2.2.2.2.2.2.2.2.1 z.2.2.2.2.2.2.2.2.2.2.2.1 z.2.2.2.2.2.2.2.2.2.2.2.2.1, aI cI a_draft_commons 8 z.2.2.2.1, aI cI a_draft_lengths 8 z.2.2.2.2.1, aI cI a_draft_parts 8 z.2.2.2.2.2.1, aI cI a_draft_likenesses 6 z.2.2.2.2.2.2.1, oX4 a_scene a_scene_cells, aI cI a_scene_cells 55 z.2.2.2.2.2.2.2.2.2.2.2.2.2.1, oX4 a_trial a_trial_cells, aI cI a_trial_cells 55 z.2.2.2.2.2.2.2.2.2.2.2.2.2.2.1, oX7 a_past a_past_rows f_past_most z.2.2.2.2.2.2.2.2.2.2.2.2.2.2.2.1, oX7 a_kept a_kept_rows f_kept_most z.2.2.2.2.2.2.2.2.2.2.2.2.2.2.2.2.1, oX6 a_seen a_seen_actors a_seen_words z.2.2.2.2.2.2.2.2.2.2.2.2.2.2.2.2.2.1, oX3 a_reader a_letters z.2.2.2.2.2.2.2.2.2.2.2.2.2.2.2.2.2.2.1 z.2.2.2.2.2.2.2.2.2.2.2.2.2.2.2.2.2.2.2] := by
  refine ct_ofI (own := RX8) (by decide +kernel) rfl (Nat.le_of_ble_eq_true rfl) (fun X C hD hR => ?_)
  unfold sX8_lay at hs
  show gg cI X 3 0 0 [oX8 h a_letters f_length a_board a_draft a_scene a_trial a_past a_kept a_seen a_reader a_search a_deal a_line, aI cI a_letters 200 f_letters, oX0 a_draft a_draft_commons a_draft_lengths a_draft_parts a_draft_likenesses f_draft_wordCount f_draft_likenessCount f_draft_actorCount f_draft_forbiddenBits f_draft_habitTold f_draft_priceTold, aI cI a_draft_commons 8 f_draft_commons, aI cI a_draft_lengths 8 f_draft_lengths, aI cI a_draft_parts 8 f_draft_parts, aI cI a_draft_likenesses 6 f_draft_likenesses, oX4 a_scene a_scene_cells, aI cI a_scene_cells 55 f_scene_cells, oX4 a_trial a_trial_cells, aI cI a_trial_cells 55 f_trial_cells, oX7 a_past a_past_rows f_past_most f_past_used, oX7 a_kept a_kept_rows f_kept_most f_kept_used, oX6 a_seen a_seen_actors a_seen_words f_seen_used, oX3 a_reader a_reader_text f_reader_end f_reader_at] [(0, .ref h)] 0 []
  refine g_aload_n (pl := 0) C dX8_lay_0 rfl rfl ?_
  refine g_get C fX8_55 0 rfl rfl dX8_lay_1 ?_
  refine g_aload_n (pl := 0) C dX8_lay_4 rfl rfl ?_
  refine g_get C fX8_9 0 rfl rfl dX8_lay_5 ?_
  refine g_aload_n (pl := 0) C dX8_lay_8 rfl rfl ?_
  refine g_get C fX8_98 0 rfl rfl dX8_lay_9 ?_
  refine g_aload_n (pl := 0) C dX8_lay_12 rfl rfl ?_
  refine g_get C fX8_20 0 rfl rfl dX8_lay_13 ?_
  refine g_aload_n (pl := 0) C dX8_lay_16 rfl rfl ?_
  refine g_get C fX8_30 0 rfl rfl dX8_lay_17 ?_
  obtain ⟨z1, e_z1, hs⟩ := vb_ok hs
  refine g_callV (ws' := [oX8 h a_letters f_length a_board a_draft a_scene a_trial a_past a_kept a_seen a_reader a_search a_deal a_line, aI cI a_letters 200 f_letters, oX0 a_draft a_draft_commons a_draft_lengths a_draft_parts a_draft_likenesses z1.2.2.2.2.2.2.2.1 z1.2.2.2.2.2.2.2.2.1 z1.2.2.2.2.2.2.2.2.2.1 z1.2.2.2.2.2.2.2.2.2.2.1 z1.2.2.2.2.2.2.2.2.2.2.2.1 z1.2.2.2.2.2.2.2.2.2.2.2.2.1, aI cI a_draft_commons 8 z1.2.2.2.1, aI cI a_draft_lengths 8 z1.2.2.2.2.1, aI cI a_draft_parts 8 z1.2.2.2.2.2.1, aI cI a_draft_likenesses 6 z1.2.2.2.2.2.2.1, oX4 a_scene a_scene_cells, aI cI a_scene_cells 55 f_scene_cells, oX4 a_trial a_trial_cells, aI cI a_trial_cells 55 z1.2.2.2.2.2.2.2.2.2.2.2.2.2, oX7 a_past a_past_rows f_past_most f_past_used, oX7 a_kept a_kept_rows f_kept_most f_kept_used, oX6 a_seen a_seen_actors a_seen_words f_seen_used, oX3 a_reader a_letters z1.2.1 z1.2.2.1]) (rest := []) (st' := [.int z1.1]) C mX8_104 q2_17 [.ref a_letters, .int f_length, .ref a_draft, .ref a_trial] (fun l D => cX3_firstFault_ct l D cI a_reader a_reader_text a_letters a_draft a_draft_commons a_draft_lengths a_draft_parts a_draft_likenesses a_trial a_trial_cells 200 f_reader_end f_reader_at f_letters f_draft_wordCount f_draft_likenessCount f_draft_actorCount f_draft_forbiddenBits f_draft_habitTold f_draft_priceTold f_draft_commons f_draft_lengths f_draft_parts f_draft_likenesses f_trial_cells f_length e_z1) ⟨⟨rfl, rfl⟩, Nat.le_of_ble_eq_true rfl, Nat.le_of_ble_eq_true rfl⟩ 14 rfl rfl rfl [14, 1, 2, 3, 4, 5, 6, 9, 10] rfl rfl rfl (by simp only [setM, List.set_cons_zero, List.set_cons_succ]) rfl (Nat.le_of_ble_eq_true rfl) (Nat.zero_le _) (Nat.zero_le _) rfl dX8_lay_20 ?_
  refine g_istore_n (lv' := [(1, .int z1.1), (0, .ref h)]) C dX8_lay_23 rfl (by decide) rfl ?_
  refine g_iload_n (pl := 0) C dX8_lay_24 rfl rfl ?_
  refine g_bipush (v := (-4)) C dX8_lay_25 rfl ?_
  refine g_icmp_ne (tgt := 52) C dX8_lay_27 (by decide) (fun c2 => ?_) (fun c2 => ?_)
  · replace hs := vi_f hs c2
    refine g_bipush (v := (-2)) C dX8_lay_52 rfl ?_
    cases hs
    exact hR _ _ dX8_lay_54
  · replace hs := vi_t hs c2
    refine g_aload_n (pl := 1) C dX8_lay_30 rfl rfl ?_
    refine g_get C fX8_20 0 rfl rfl dX8_lay_31 ?_
    obtain ⟨z3, e_z3, hs⟩ := vb_ok hs
    refine g_callV (ws' := [oX8 h a_letters f_length a_board a_draft a_scene a_trial a_past a_kept a_seen a_reader a_search a_deal a_line, aI cI a_letters 200 f_letters, oX0 a_draft a_draft_commons a_draft_lengths a_draft_parts a_draft_likenesses z1.2.2.2.2.2.2.2.1 z1.2.2.2.2.2.2.2.2.1 z1.2.2.2.2.2.2.2.2.2.1 z1.2.2.2.2.2.2.2.2.2.2.1 z1.2.2.2.2.2.2.2.2.2.2.2.1 z1.2.2.2.2.2.2.2.2.2.2.2.2.1, aI cI a_draft_commons 8 z1.2.2.2.1, aI cI a_draft_lengths 8 z1.2.2.2.2.1, aI cI a_draft_parts 8 z1.2.2.2.2.2.1, aI cI a_draft_likenesses 6 z1.2.2.2.2.2.2.1, oX4 a_scene a_scene_cells, aI cI a_scene_cells 55 f_scene_cells, oX4 a_trial a_trial_cells, aI cI a_trial_cells 55 z1.2.2.2.2.2.2.2.2.2.2.2.2.2, oX7 a_past a_past_rows f_past_most f_past_used, oX7 a_kept a_kept_rows f_kept_most f_kept_used, oX6 a_seen a_seen_actors a_seen_words f_seen_used, oX3 a_reader a_letters z1.2.1 z1.2.2.1]) (rest := []) (st' := [.int z3]) C mX8_108 q2_57 [] (fun l D => cX0_words_ct l D cI a_draft a_draft_commons a_draft_lengths a_draft_parts a_draft_likenesses z1.2.2.2.2.2.2.2.1 z1.2.2.2.2.2.2.2.2.1 z1.2.2.2.2.2.2.2.2.2.1 z1.2.2.2.2.2.2.2.2.2.2.1 z1.2.2.2.2.2.2.2.2.2.2.2.1 z1.2.2.2.2.2.2.2.2.2.2.2.2.1 e_z3) ⟨⟨rfl, rfl⟩, Nat.le_of_ble_eq_true rfl, Nat.le_of_ble_eq_true rfl⟩ 2 rfl rfl rfl [2] rfl rfl rfl rfl rfl (Nat.le_of_ble_eq_true rfl) (Nat.zero_le _) (Nat.zero_le _) rfl dX8_lay_34 ?_
    refine g_iconst (v := (nI 1)) C dX8_lay_37 rfl ?_
    refine g_icmp_lt (tgt := 52) C dX8_lay_38 (by decide) (fun c4 => ?_) (fun c4 => ?_)
    · replace hs := vi_t hs c4
      refine g_bipush (v := (-2)) C dX8_lay_52 rfl ?_
      cases hs
      exact hR _ _ dX8_lay_54
    · replace hs := vi_f hs c4
      refine g_aload_n (pl := 1) C dX8_lay_41 rfl rfl ?_
      refine g_get C fX8_20 0 rfl rfl dX8_lay_42 ?_
      obtain ⟨z5, e_z5, hs⟩ := vb_ok hs
      refine g_callV (ws' := [oX8 h a_letters f_length a_board a_draft a_scene a_trial a_past a_kept a_seen a_reader a_search a_deal a_line, aI cI a_letters 200 f_letters, oX0 a_draft a_draft_commons a_draft_lengths a_draft_parts a_draft_likenesses z1.2.2.2.2.2.2.2.1 z1.2.2.2.2.2.2.2.2.1 z1.2.2.2.2.2.2.2.2.2.1 z1.2.2.2.2.2.2.2.2.2.2.1 z1.2.2.2.2.2.2.2.2.2.2.2.1 z1.2.2.2.2.2.2.2.2.2.2.2.2.1, aI cI a_draft_commons 8 z1.2.2.2.1, aI cI a_draft_lengths 8 z1.2.2.2.2.1, aI cI a_draft_parts 8 z1.2.2.2.2.2.1, aI cI a_draft_likenesses 6 z1.2.2.2.2.2.2.1, oX4 a_scene a_scene_cells, aI cI a_scene_cells 55 f_scene_cells, oX4 a_trial a_trial_cells, aI cI a_trial_cells 55 z1.2.2.2.2.2.2.2.2.2.2.2.2.2, oX7 a_past a_past_rows f_past_most f_past_used, oX7 a_kept a_kept_rows f_kept_most f_kept_used, oX6 a_seen a_seen_actors a_seen_words f_seen_used, oX3 a_reader a_letters z1.2.1 z1.2.2.1]) (rest := []) (st' := [.int z5]) C mX8_111 q2_97 [] (fun l D => cX0_actors_ct l D cI a_draft a_draft_commons a_draft_lengths a_draft_parts a_draft_likenesses z1.2.2.2.2.2.2.2.1 z1.2.2.2.2.2.2.2.2.1 z1.2.2.2.2.2.2.2.2.2.1 z1.2.2.2.2.2.2.2.2.2.2.1 z1.2.2.2.2.2.2.2.2.2.2.2.1 z1.2.2.2.2.2.2.2.2.2.2.2.2.1 e_z5) ⟨⟨rfl, rfl⟩, Nat.le_of_ble_eq_true rfl, Nat.le_of_ble_eq_true rfl⟩ 2 rfl rfl rfl [2] rfl rfl rfl rfl rfl (Nat.le_of_ble_eq_true rfl) (Nat.zero_le _) (Nat.zero_le _) rfl dX8_lay_45 ?_
      refine g_iconst (v := (nI 1)) C dX8_lay_48 rfl ?_
      refine g_icmp_ge (tgt := 55) C dX8_lay_49 (by decide) (fun c6 => ?_) (fun c6 => ?_)
      · replace hs := vi_t hs c6
        refine g_aload_n (pl := 1) C dX8_lay_55 rfl rfl ?_
        refine g_get C fX8_16 0 rfl rfl dX8_lay_56 ?_
        refine g_astore_n (lv' := [(2, .ref a_board), (1, .int z1.1), (0, .ref h)]) C dX8_lay_59 rfl (by decide) rfl ?_
        refine g_aload_n (pl := 2) C dX8_lay_60 rfl rfl ?_
        refine g_aload_n (pl := 2) C dX8_lay_61 rfl rfl ?_
        refine g_get C fX8_20 0 rfl rfl dX8_lay_62 ?_
        refine g_putR (ws' := [oX8 h a_letters f_length a_draft a_draft a_scene a_trial a_past a_kept a_seen a_reader a_search a_deal a_line, aI cI a_letters 200 f_letters, oX0 a_draft a_draft_commons a_draft_lengths a_draft_parts a_draft_likenesses z1.2.2.2.2.2.2.2.1 z1.2.2.2.2.2.2.2.2.1 z1.2.2.2.2.2.2.2.2.2.1 z1.2.2.2.2.2.2.2.2.2.2.1 z1.2.2.2.2.2.2.2.2.2.2.2.1 z1.2.2.2.2.2.2.2.2.2.2.2.2.1, aI cI a_draft_commons 8 z1.2.2.2.1, aI cI a_draft_lengths 8 z1.2.2.2.2.1, aI cI a_draft_parts 8 z1.2.2.2.2.2.1, aI cI a_draft_likenesses 6 z1.2.2.2.2.2.2.1, oX4 a_scene a_scene_cells, aI cI a_scene_cells 55 f_scene_cells, oX4 a_trial a_trial_cells, aI cI a_trial_cells 55 z1.2.2.2.2.2.2.2.2.2.2.2.2.2, oX7 a_past a_past_rows f_past_most f_past_used, oX7 a_kept a_kept_rows f_kept_most f_kept_used, oX6 a_seen a_seen_actors a_seen_words f_seen_used, oX3 a_reader a_letters z1.2.1 z1.2.2.1]) C fX8_16 0 rfl (Nat.le_of_ble_eq_true rfl) rfl rfl rfl dX8_lay_65 ?_
        refine g_aload_n (pl := 2) C dX8_lay_68 rfl rfl ?_
        refine g_aload_n (pl := 0) C dX8_lay_69 rfl rfl ?_
        refine g_putR (ws' := [oX8 h a_letters f_length a_draft a_board a_scene a_trial a_past a_kept a_seen a_reader a_search a_deal a_line, aI cI a_letters 200 f_letters, oX0 a_draft a_draft_commons a_draft_lengths a_draft_parts a_draft_likenesses z1.2.2.2.2.2.2.2.1 z1.2.2.2.2.2.2.2.2.1 z1.2.2.2.2.2.2.2.2.2.1 z1.2.2.2.2.2.2.2.2.2.2.1 z1.2.2.2.2.2.2.2.2.2.2.2.1 z1.2.2.2.2.2.2.2.2.2.2.2.2.1, aI cI a_draft_commons 8 z1.2.2.2.1, aI cI a_draft_lengths 8 z1.2.2.2.2.1, aI cI a_draft_parts 8 z1.2.2.2.2.2.1, aI cI a_draft_likenesses 6 z1.2.2.2.2.2.2.1, oX4 a_scene a_scene_cells, aI cI a_scene_cells 55 f_scene_cells, oX4 a_trial a_trial_cells, aI cI a_trial_cells 55 z1.2.2.2.2.2.2.2.2.2.2.2.2.2, oX7 a_past a_past_rows f_past_most f_past_used, oX7 a_kept a_kept_rows f_kept_most f_kept_used, oX6 a_seen a_seen_actors a_seen_words f_seen_used, oX3 a_reader a_letters z1.2.1 z1.2.2.1]) C fX8_20 0 rfl (Nat.le_of_ble_eq_true rfl) rfl rfl rfl dX8_lay_70 ?_
        refine g_aload_n (pl := 2) C dX8_lay_73 rfl rfl ?_
        refine g_get C fX8_26 0 rfl rfl dX8_lay_74 ?_
        refine g_aload_n (pl := 2) C dX8_lay_77 rfl rfl ?_
        refine g_get C fX8_30 0 rfl rfl dX8_lay_78 ?_
        obtain ⟨z7, e_z7, hs⟩ := vb_ok hs
        refine g_callV (ws' := [oX8 h a_letters f_length a_draft a_board a_scene a_trial a_past a_kept a_seen a_reader a_search a_deal a_line, aI cI a_letters 200 f_letters, oX0 a_draft a_draft_commons a_draft_lengths a_draft_parts a_draft_likenesses z1.2.2.2.2.2.2.2.1 z1.2.2.2.2.2.2.2.2.1 z1.2.2.2.2.2.2.2.2.2.1 z1.2.2.2.2.2.2.2.2.2.2.1 z1.2.2.2.2.2.2.2.2.2.2.2.1 z1.2.2.2.2.2.2.2.2.2.2.2.2.1, aI cI a_draft_commons 8 z1.2.2.2.1, aI cI a_draft_lengths 8 z1.2.2.2.2.1, aI cI a_draft_parts 8 z1.2.2.2.2.2.1, aI cI a_draft_likenesses 6 z1.2.2.2.2.2.2.1, oX4 a_scene a_scene_cells, aI cI a_scene_cells 55 z7, oX4 a_trial a_trial_cells, aI cI a_trial_cells 55 z1.2.2.2.2.2.2.2.2.2.2.2.2.2, oX7 a_past a_past_rows f_past_most f_past_used, oX7 a_kept a_kept_rows f_kept_most f_kept_used, oX6 a_seen a_seen_actors a_seen_words f_seen_used, oX3 a_reader a_letters z1.2.1 z1.2.2.1]) (rest := []) (st' := []) C mX8_114 q2_111 [.ref a_trial] (fun l D => cX4_copyFrom_ct l D cI a_scene a_scene_cells a_trial a_trial_cells f_scene_cells z1.2.2.2.2.2.2.2.2.2.2.2.2.2 e_z7) ⟨⟨rfl, rfl⟩, Nat.le_of_ble_eq_true rfl, Nat.le_of_ble_eq_true rfl⟩ 7 rfl rfl rfl [7, 8, 9, 10] rfl rfl rfl rfl rfl (Nat.le_of_ble_eq_true rfl) (Nat.zero_le _) (Nat.zero_le _) rfl dX8_lay_81 ?_
        refine g_aload_n (pl := 2) C dX8_lay_84 rfl rfl ?_
        refine g_get C fX8_38 0 rfl rfl dX8_lay_85 ?_
        obtain ⟨z8, e_z8, hs⟩ := vb_ok hs
        refine g_callV (ws' := [oX8 h a_letters f_length a_draft a_board a_scene a_trial a_past a_kept a_seen a_reader a_search a_deal a_line, aI cI a_letters 200 f_letters, oX0 a_draft a_draft_commons a_draft_lengths a_draft_parts a_draft_likenesses z1.2.2.2.2.2.2.2.1 z1.2.2.2.2.2.2.2.2.1 z1.2.2.2.2.2.2.2.2.2.1 z1.2.2.2.2.2.2.2.2.2.2.1 z1.2.2.2.2.2.2.2.2.2.2.2.1 z1.2.2.2.2.2.2.2.2.2.2.2.2.1, aI cI a_draft_commons 8 z1.2.2.2.1, aI cI a_draft_lengths 8 z1.2.2.2.2.1, aI cI a_draft_parts 8 z1.2.2.2.2.2.1, aI cI a_draft_likenesses 6 z1.2.2.2.2.2.2.1, oX4 a_scene a_scene_cells, aI cI a_scene_cells 55 z7, oX4 a_trial a_trial_cells, aI cI a_trial_cells 55 z1.2.2.2.2.2.2.2.2.2.2.2.2.2, oX7 a_past a_past_rows f_past_most z8, oX7 a_kept a_kept_rows f_kept_most f_kept_used, oX6 a_seen a_seen_actors a_seen_words f_seen_used, oX3 a_reader a_letters z1.2.1 z1.2.2.1]) (rest := []) (st' := []) C mX8_118 q2_118 [] (fun l D => cX7_clear_ct l D cI a_past a_past_rows f_past_most f_past_used e_z8) ⟨⟨rfl, rfl⟩, Nat.le_of_ble_eq_true rfl, Nat.le_of_ble_eq_true rfl⟩ 11 rfl rfl rfl [11] rfl rfl rfl rfl rfl (Nat.le_of_ble_eq_true rfl) (Nat.zero_le _) (Nat.zero_le _) rfl dX8_lay_88 ?_
        refine g_aload_n (pl := 2) C dX8_lay_91 rfl rfl ?_
        refine g_get C fX8_42 0 rfl rfl dX8_lay_92 ?_
        obtain ⟨z9, e_z9, hs⟩ := vb_ok hs
        refine g_callV (ws' := [oX8 h a_letters f_length a_draft a_board a_scene a_trial a_past a_kept a_seen a_reader a_search a_deal a_line, aI cI a_letters 200 f_letters, oX0 a_draft a_draft_commons a_draft_lengths a_draft_parts a_draft_likenesses z1.2.2.2.2.2.2.2.1 z1.2.2.2.2.2.2.2.2.1 z1.2.2.2.2.2.2.2.2.2.1 z1.2.2.2.2.2.2.2.2.2.2.1 z1.2.2.2.2.2.2.2.2.2.2.2.1 z1.2.2.2.2.2.2.2.2.2.2.2.2.1, aI cI a_draft_commons 8 z1.2.2.2.1, aI cI a_draft_lengths 8 z1.2.2.2.2.1, aI cI a_draft_parts 8 z1.2.2.2.2.2.1, aI cI a_draft_likenesses 6 z1.2.2.2.2.2.2.1, oX4 a_scene a_scene_cells, aI cI a_scene_cells 55 z7, oX4 a_trial a_trial_cells, aI cI a_trial_cells 55 z1.2.2.2.2.2.2.2.2.2.2.2.2.2, oX7 a_past a_past_rows f_past_most z8, oX7 a_kept a_kept_rows f_kept_most z9, oX6 a_seen a_seen_actors a_seen_words f_seen_used, oX3 a_reader a_letters z1.2.1 z1.2.2.1]) (rest := []) (st' := []) C mX8_118 q2_118 [] (fun l D => cX7_clear_ct l D cI a_kept a_kept_rows f_kept_most f_kept_used e_z9) ⟨⟨rfl, rfl⟩, Nat.le_of_ble_eq_true rfl, Nat.le_of_ble_eq_true rfl⟩ 12 rfl rfl rfl [12] rfl rfl rfl rfl rfl (Nat.le_of_ble_eq_true rfl) (Nat.zero_le _) (Nat.zero_le _) rfl dX8_lay_95 ?_
        refine g_aload_n (pl := 2) C dX8_lay_98 rfl rfl ?_
        refine g_get C fX8_48 0 rfl rfl dX8_lay_99 ?_
        obtain ⟨z10, e_z10, hs⟩ := vb_ok hs
        refine g_callV (ws' := [oX8 h a_letters f_length a_draft a_board a_scene a_trial a_past a_kept a_seen a_reader a_search a_deal a_line, aI cI a_letters 200 f_letters, oX0 a_draft a_draft_commons a_draft_lengths a_draft_parts a_draft_likenesses z1.2.2.2.2.2.2.2.1 z1.2.2.2.2.2.2.2.2.1 z1.2.2.2.2.2.2.2.2.2.1 z1.2.2.2.2.2.2.2.2.2.2.1 z1.2.2.2.2.2.2.2.2.2.2.2.1 z1.2.2.2.2.2.2.2.2.2.2.2.2.1, aI cI a_draft_commons 8 z1.2.2.2.1, aI cI a_draft_lengths 8 z1.2.2.2.2.1, aI cI a_draft_parts 8 z1.2.2.2.2.2.1, aI cI a_draft_likenesses 6 z1.2.2.2.2.2.2.1, oX4 a_scene a_scene_cells, aI cI a_scene_cells 55 z7, oX4 a_trial a_trial_cells, aI cI a_trial_cells 55 z1.2.2.2.2.2.2.2.2.2.2.2.2.2, oX7 a_past a_past_rows f_past_most z8, oX7 a_kept a_kept_rows f_kept_most z9, oX6 a_seen a_seen_actors a_seen_words z10.2, oX3 a_reader a_letters z1.2.1 z1.2.2.1]) (rest := []) (st' := [.int z10.1]) C mX8_121 q2_122 [] (fun l D => cX6_clear_ct l D cI a_seen a_seen_actors a_seen_words f_seen_used e_z10) ⟨⟨rfl, rfl⟩, Nat.le_of_ble_eq_true rfl, Nat.le_of_ble_eq_true rfl⟩ 13 rfl rfl rfl [13] rfl rfl rfl rfl rfl (Nat.le_of_ble_eq_true rfl) (Nat.zero_le _) (Nat.zero_le _) rfl dX8_lay_102 ?_
        refine g_pop C dX8_lay_105 rfl ?_
        refine g_aload_n (pl := 2) C dX8_lay_106 rfl rfl ?_
        refine g_get C fX8_16 0 rfl rfl dX8_lay_107 ?_
        obtain ⟨z11, e_z11, hs⟩ := vb_ok hs
        refine g_callV (ws' := [oX8 h a_letters f_length a_draft a_board a_scene a_trial a_past a_kept a_seen a_reader a_search a_deal a_line, aI cI a_letters 200 f_letters, oX0 a_draft a_draft_commons a_draft_lengths a_draft_parts a_draft_likenesses z1.2.2.2.2.2.2.2.1 z1.2.2.2.2.2.2.2.2.1 z1.2.2.2.2.2.2.2.2.2.1 z1.2.2.2.2.2.2.2.2.2.2.1 z1.2.2.2.2.2.2.2.2.2.2.2.1 z1.2.2.2.2.2.2.2.2.2.2.2.2.1, aI cI a_draft_commons 8 z1.2.2.2.1, aI cI a_draft_lengths 8 z1.2.2.2.2.1, aI cI a_draft_parts 8 z1.2.2.2.2.2.1, aI cI a_draft_likenesses 6 z1.2.2.2.2.2.2.1, oX4 a_scene a_scene_cells, aI cI a_scene_cells 55 z7, oX4 a_trial a_trial_cells, aI cI a_trial_cells 55 z1.2.2.2.2.2.2.2.2.2.2.2.2.2, oX7 a_past a_past_rows f_past_most z8, oX7 a_kept a_kept_rows f_kept_most z9, oX6 a_seen a_seen_actors a_seen_words z10.2, oX3 a_reader a_letters z1.2.1 z1.2.2.1]) (rest := []) (st' := [.int z11]) C mX8_111 q2_97 [] (fun l D => cX0_actors_ct l D cI a_draft a_draft_commons a_draft_lengths a_draft_parts a_draft_likenesses z1.2.2.2.2.2.2.2.1 z1.2.2.2.2.2.2.2.2.1 z1.2.2.2.2.2.2.2.2.2.1 z1.2.2.2.2.2.2.2.2.2.2.1 z1.2.2.2.2.2.2.2.2.2.2.2.1 z1.2.2.2.2.2.2.2.2.2.2.2.2.1 e_z11) ⟨⟨rfl, rfl⟩, Nat.le_of_ble_eq_true rfl, Nat.le_of_ble_eq_true rfl⟩ 2 rfl rfl rfl [2] rfl rfl rfl rfl rfl (Nat.le_of_ble_eq_true rfl) (Nat.zero_le _) (Nat.zero_le _) rfl dX8_lay_110 ?_
        cases hs
        exact hR _ _ dX8_lay_113
      · replace hs := vi_f hs c6
        refine g_bipush (v := (-2)) C dX8_lay_52 rfl ?_
        cases hs
        exact hR _ _ dX8_lay_54
def sX8_write (f_letters : Nat → Int32) (f_length : Int32) (x1 : Int32) : Option (Int32 × (Nat → Int32) × Int32) :=
  vi (x1 < (nI 32)) inferInstance (
    some ((-1), f_letters, f_length)) (
    vi (x1 ≤ (nI 126)) inferInstance (
      vi (f_length < 0) inferInstance (
        some ((-3), f_letters, f_length)) (
        vi (f_length < (nI 200)) inferInstance (
          vg (vin f_length 200) (
          vlet (upd f_letters (Int32.toNatClampNeg f_length) x1) fun u6 =>
          vlet (f_length + (nI 1)) fun y7 =>
          some (y7, u6, y7))) (
          some ((-3), f_letters, f_length)))) (
      some ((-1), f_letters, f_length)))
abbrev rmX8_write : Room := { frames := 0, cells := 0, slots := 0, locals := 0 }
set_option maxHeartbeats 4000000 in
set_option maxRecDepth 100000 in
theorem cX8_write_ct (l : Launch) (D : va_G) (cI : ClassId) (h : Nat) (a_letters : Nat) (a_board : Nat) (a_draft : Nat) (a_scene : Nat) (a_trial : Nat) (a_past : Nat) (a_kept : Nat) (a_seen : Nat) (a_reader : Nat) (a_search : Nat) (a_deal : Nat) (a_line : Nat) (f_length : Int32) (f_letters : Nat → Int32) (x1 : Int32) {z : Int32 × (Nat → Int32) × Int32} (hs : sX8_write f_letters f_length x1 = some z) : ct l yX8_write (.code yX8_write cX8_write 2 (some .int) :: gtb) rmX8_write D cI [.ref h, .int x1] [oX8 h a_letters f_length a_board a_draft a_scene a_trial a_past a_kept a_seen a_reader a_search a_deal a_line, aI cI a_letters 200 f_letters] (some (.int z.1)) [oX8 h a_letters z.2.2 a_board a_draft a_scene a_trial a_past a_kept a_seen a_reader a_search a_deal a_line, aI cI a_letters 200 z.2.1] := by
  refine ct_ofI (own := RX8) (by decide +kernel) rfl (Nat.le_of_ble_eq_true rfl) (fun X C hD hR => ?_)
  unfold sX8_write at hs
  show gg cI X 2 0 0 [oX8 h a_letters f_length a_board a_draft a_scene a_trial a_past a_kept a_seen a_reader a_search a_deal a_line, aI cI a_letters 200 f_letters] [(0, .ref h), (1, .int x1)] 0 []
  refine g_iload_n (pl := 1) C dX8_write_0 rfl rfl ?_
  refine g_bipush (v := (nI 32)) C dX8_write_1 rfl ?_
  refine g_icmp_lt (tgt := 12) C dX8_write_3 (by decide) (fun c1 => ?_) (fun c1 => ?_)
  · replace hs := vi_t hs c1
    refine g_iconst (v := (-1)) C dX8_write_12 rfl ?_
    cases hs
    exact hR _ _ dX8_write_13
  · replace hs := vi_f hs c1
    refine g_iload_n (pl := 1) C dX8_write_6 rfl rfl ?_
    refine g_bipush (v := (nI 126)) C dX8_write_7 rfl ?_
    refine g_icmp_le (tgt := 14) C dX8_write_9 (by decide) (fun c2 => ?_) (fun c2 => ?_)
    · replace hs := vi_t hs c2
      refine g_aload_n (pl := 0) C dX8_write_14 rfl rfl ?_
      refine g_get C fX8_98 0 rfl rfl dX8_write_15 ?_
      refine g_if_lt (tgt := 31) C dX8_write_18 (by decide) (fun c3 => ?_) (fun c3 => ?_)
      · replace hs := vi_t hs c3
        refine g_bipush (v := (-3)) C dX8_write_31 rfl ?_
        cases hs
        exact hR _ _ dX8_write_33
      · replace hs := vi_f hs c3
        refine g_aload_n (pl := 0) C dX8_write_21 rfl rfl ?_
        refine g_get C fX8_98 0 rfl rfl dX8_write_22 ?_
        refine g_sipush (v := (nI 200)) C dX8_write_25 rfl ?_
        refine g_icmp_lt (tgt := 34) C dX8_write_28 (by decide) (fun c4 => ?_) (fun c4 => ?_)
        · replace hs := vi_t hs c4
          refine g_aload_n (pl := 0) C dX8_write_34 rfl rfl ?_
          refine g_get C fX8_9 0 rfl rfl dX8_write_35 ?_
          refine g_aload_n (pl := 0) C dX8_write_38 rfl rfl ?_
          refine g_get C fX8_98 0 rfl rfl dX8_write_39 ?_
          refine g_iload_n (pl := 1) C dX8_write_42 rfl rfl ?_
          obtain ⟨b5, hs⟩ := vg_ok hs
          obtain ⟨u6, e_u6, hs⟩ := vlet_ex hs
          refine g_iast (ws' := [oX8 h a_letters f_length a_board a_draft a_scene a_trial a_past a_kept a_seen a_reader a_search a_deal a_line, aI cI a_letters 200 u6]) C 1 rfl (vin_ok b5) (by rw [e_u6]; rfl) dX8_write_43 ?_
          refine g_aload_n (pl := 0) C dX8_write_44 rfl rfl ?_
          refine g_dup C dX8_write_45 rfl ?_
          refine g_get C fX8_98 0 rfl rfl dX8_write_46 ?_
          refine g_iconst (v := (nI 1)) C dX8_write_49 rfl ?_
          refine g_iadd C dX8_write_50 ?_
          obtain ⟨y7, e_y7, hs⟩ := vlet_ex hs
          refine g_topi e_y7 ?_
          refine g_putI (ws' := [oX8 h a_letters y7 a_board a_draft a_scene a_trial a_past a_kept a_seen a_reader a_search a_deal a_line, aI cI a_letters 200 u6]) C fX8_98 0 rfl (Nat.le_of_ble_eq_true rfl) rfl dX8_write_51 ?_
          refine g_aload_n (pl := 0) C dX8_write_54 rfl rfl ?_
          refine g_get C fX8_98 0 rfl rfl dX8_write_55 ?_
          cases hs
          exact hR _ _ dX8_write_58
        · replace hs := vi_f hs c4
          refine g_bipush (v := (-3)) C dX8_write_31 rfl ?_
          cases hs
          exact hR _ _ dX8_write_33
    · replace hs := vi_f hs c2
      refine g_iconst (v := (-1)) C dX8_write_12 rfl ?_
      cases hs
      exact hR _ _ dX8_write_13
def sX8_wipe (f_length : Int32) : Option (Int32 × Int32) :=
  some (f_length, (nI 0))
abbrev rmX8_wipe : Room := { frames := 0, cells := 0, slots := 0, locals := 0 }
set_option maxHeartbeats 4000000 in
set_option maxRecDepth 100000 in
theorem cX8_wipe_ct (l : Launch) (D : va_G) (cI : ClassId) (h : Nat) (a_letters : Nat) (a_board : Nat) (a_draft : Nat) (a_scene : Nat) (a_trial : Nat) (a_past : Nat) (a_kept : Nat) (a_seen : Nat) (a_reader : Nat) (a_search : Nat) (a_deal : Nat) (a_line : Nat) (f_length : Int32) {z : Int32 × Int32} (hs : sX8_wipe f_length = some z) : ct l yX8_wipe (.code yX8_wipe cX8_wipe 2 (some .int) :: gtb) rmX8_wipe D cI [.ref h] [oX8 h a_letters f_length a_board a_draft a_scene a_trial a_past a_kept a_seen a_reader a_search a_deal a_line] (some (.int z.1)) [oX8 h a_letters z.2 a_board a_draft a_scene a_trial a_past a_kept a_seen a_reader a_search a_deal a_line] := by
  refine ct_ofI (own := RX8) (by decide +kernel) rfl (Nat.le_of_ble_eq_true rfl) (fun X C hD hR => ?_)
  unfold sX8_wipe at hs
  show gg cI X 2 0 0 [oX8 h a_letters f_length a_board a_draft a_scene a_trial a_past a_kept a_seen a_reader a_search a_deal a_line] [(0, .ref h)] 0 []
  refine g_aload_n (pl := 0) C dX8_wipe_0 rfl rfl ?_
  refine g_get C fX8_98 0 rfl rfl dX8_wipe_1 ?_
  refine g_istore_n (lv' := [(1, .int f_length), (0, .ref h)]) C dX8_wipe_4 rfl (by decide) rfl ?_
  refine g_aload_n (pl := 1) C dX8_wipe_5 rfl rfl ?_
  refine g_iconst (v := (nI 0)) C dX8_wipe_6 rfl ?_
  refine g_putI (ws' := [oX8 h a_letters (nI 0) a_board a_draft a_scene a_trial a_past a_kept a_seen a_reader a_search a_deal a_line]) C fX8_98 0 rfl (Nat.le_of_ble_eq_true rfl) rfl dX8_wipe_7 ?_
  refine g_iload_n (pl := 0) C dX8_wipe_10 rfl rfl ?_
  cases hs
  exact hR _ _ dX8_wipe_11
def sX8_fault (f_letters : Nat → Int32) (f_length : Int32) (f_draft_commons : Nat → Int32) (f_draft_lengths : Nat → Int32) (f_draft_parts : Nat → Int32) (f_draft_likenesses : Nat → Int32) (f_draft_wordCount : Int32) (f_draft_likenessCount : Int32) (f_draft_actorCount : Int32) (f_draft_forbiddenBits : Int32) (f_draft_habitTold : Int32) (f_draft_priceTold : Int32) (f_trial_cells : Nat → Int32) (f_reader_end : Int32) (f_reader_at : Int32) : Option (Int32 × (Nat → Int32) × (Nat → Int32) × (Nat → Int32) × (Nat → Int32) × Int32 × Int32 × Int32 × Int32 × Int32 × Int32 × (Nat → Int32) × Int32 × Int32) :=
  vb (sX3_firstFault 200 f_reader_end f_reader_at f_letters f_draft_commons f_draft_lengths f_draft_parts f_draft_likenesses f_draft_wordCount f_draft_likenessCount f_draft_actorCount f_draft_forbiddenBits f_draft_habitTold f_draft_priceTold f_trial_cells f_length) fun z1 =>
  some (z1.1, z1.2.2.2.1, z1.2.2.2.2.1, z1.2.2.2.2.2.1, z1.2.2.2.2.2.2.1, z1.2.2.2.2.2.2.2.1, z1.2.2.2.2.2.2.2.2.1, z1.2.2.2.2.2.2.2.2.2.1, z1.2.2.2.2.2.2.2.2.2.2.1, z1.2.2.2.2.2.2.2.2.2.2.2.1, z1.2.2.2.2.2.2.2.2.2.2.2.2.1, z1.2.2.2.2.2.2.2.2.2.2.2.2.2, z1.2.1, z1.2.2.1)
abbrev rmX8_fault : Room := { frames := 5, cells := 0, slots := 0, locals := 123 }
set_option maxHeartbeats 4000000 in
set_option maxRecDepth 100000 in
theorem cX8_fault_ct (l : Launch) (D : va_G) (cI : ClassId) (h : Nat) (a_letters : Nat) (a_board : Nat) (a_draft : Nat) (a_scene : Nat) (a_trial : Nat) (a_past : Nat) (a_kept : Nat) (a_seen : Nat) (a_reader : Nat) (a_search : Nat) (a_deal : Nat) (a_line : Nat) (a_draft_commons : Nat) (a_draft_lengths : Nat) (a_draft_parts : Nat) (a_draft_likenesses : Nat) (a_trial_cells : Nat) (a_reader_text : Nat) (f_length : Int32) (f_letters : Nat → Int32) (f_draft_wordCount : Int32) (f_draft_likenessCount : Int32) (f_draft_actorCount : Int32) (f_draft_forbiddenBits : Int32) (f_draft_habitTold : Int32) (f_draft_priceTold : Int32) (f_draft_commons : Nat → Int32) (f_draft_lengths : Nat → Int32) (f_draft_parts : Nat → Int32) (f_draft_likenesses : Nat → Int32) (f_trial_cells : Nat → Int32) (f_reader_end : Int32) (f_reader_at : Int32) {z : Int32 × (Nat → Int32) × (Nat → Int32) × (Nat → Int32) × (Nat → Int32) × Int32 × Int32 × Int32 × Int32 × Int32 × Int32 × (Nat → Int32) × Int32 × Int32} (hs : sX8_fault f_letters f_length f_draft_commons f_draft_lengths f_draft_parts f_draft_likenesses f_draft_wordCount f_draft_likenessCount f_draft_actorCount f_draft_forbiddenBits f_draft_habitTold f_draft_priceTold f_trial_cells f_reader_end f_reader_at = some z) : ct l yX8_fault (.code yX8_fault cX8_fault 1 (some .int) :: gtb) rmX8_fault D cI [.ref h] [oX8 h a_letters f_length a_board a_draft a_scene a_trial a_past a_kept a_seen a_reader a_search a_deal a_line, aI cI a_letters 200 f_letters, oX0 a_draft a_draft_commons a_draft_lengths a_draft_parts a_draft_likenesses f_draft_wordCount f_draft_likenessCount f_draft_actorCount f_draft_forbiddenBits f_draft_habitTold f_draft_priceTold, aI cI a_draft_commons 8 f_draft_commons, aI cI a_draft_lengths 8 f_draft_lengths, aI cI a_draft_parts 8 f_draft_parts, aI cI a_draft_likenesses 6 f_draft_likenesses, oX4 a_trial a_trial_cells, aI cI a_trial_cells 55 f_trial_cells, oX3 a_reader a_reader_text f_reader_end f_reader_at] (some (.int z.1)) [oX8 h a_letters f_length a_board a_draft a_scene a_trial a_past a_kept a_seen a_reader a_search a_deal a_line, aI cI a_letters 200 f_letters, oX0 a_draft a_draft_commons a_draft_lengths a_draft_parts a_draft_likenesses z.2.2.2.2.2.1 z.2.2.2.2.2.2.1 z.2.2.2.2.2.2.2.1 z.2.2.2.2.2.2.2.2.1 z.2.2.2.2.2.2.2.2.2.1 z.2.2.2.2.2.2.2.2.2.2.1, aI cI a_draft_commons 8 z.2.1, aI cI a_draft_lengths 8 z.2.2.1, aI cI a_draft_parts 8 z.2.2.2.1, aI cI a_draft_likenesses 6 z.2.2.2.2.1, oX4 a_trial a_trial_cells, aI cI a_trial_cells 55 z.2.2.2.2.2.2.2.2.2.2.2.1, oX3 a_reader a_letters z.2.2.2.2.2.2.2.2.2.2.2.2.1 z.2.2.2.2.2.2.2.2.2.2.2.2.2] := by
  refine ct_ofI (own := RX8) (by decide +kernel) rfl (Nat.le_of_ble_eq_true rfl) (fun X C hD hR => ?_)
  unfold sX8_fault at hs
  show gg cI X 1 0 0 [oX8 h a_letters f_length a_board a_draft a_scene a_trial a_past a_kept a_seen a_reader a_search a_deal a_line, aI cI a_letters 200 f_letters, oX0 a_draft a_draft_commons a_draft_lengths a_draft_parts a_draft_likenesses f_draft_wordCount f_draft_likenessCount f_draft_actorCount f_draft_forbiddenBits f_draft_habitTold f_draft_priceTold, aI cI a_draft_commons 8 f_draft_commons, aI cI a_draft_lengths 8 f_draft_lengths, aI cI a_draft_parts 8 f_draft_parts, aI cI a_draft_likenesses 6 f_draft_likenesses, oX4 a_trial a_trial_cells, aI cI a_trial_cells 55 f_trial_cells, oX3 a_reader a_reader_text f_reader_end f_reader_at] [(0, .ref h)] 0 []
  refine g_aload_n (pl := 0) C dX8_fault_0 rfl rfl ?_
  refine g_get C fX8_55 0 rfl rfl dX8_fault_1 ?_
  refine g_aload_n (pl := 0) C dX8_fault_4 rfl rfl ?_
  refine g_get C fX8_9 0 rfl rfl dX8_fault_5 ?_
  refine g_aload_n (pl := 0) C dX8_fault_8 rfl rfl ?_
  refine g_get C fX8_98 0 rfl rfl dX8_fault_9 ?_
  refine g_aload_n (pl := 0) C dX8_fault_12 rfl rfl ?_
  refine g_get C fX8_20 0 rfl rfl dX8_fault_13 ?_
  refine g_aload_n (pl := 0) C dX8_fault_16 rfl rfl ?_
  refine g_get C fX8_30 0 rfl rfl dX8_fault_17 ?_
  obtain ⟨z1, e_z1, hs⟩ := vb_ok hs
  refine g_callV (ws' := [oX8 h a_letters f_length a_board a_draft a_scene a_trial a_past a_kept a_seen a_reader a_search a_deal a_line, aI cI a_letters 200 f_letters, oX0 a_draft a_draft_commons a_draft_lengths a_draft_parts a_draft_likenesses z1.2.2.2.2.2.2.2.1 z1.2.2.2.2.2.2.2.2.1 z1.2.2.2.2.2.2.2.2.2.1 z1.2.2.2.2.2.2.2.2.2.2.1 z1.2.2.2.2.2.2.2.2.2.2.2.1 z1.2.2.2.2.2.2.2.2.2.2.2.2.1, aI cI a_draft_commons 8 z1.2.2.2.1, aI cI a_draft_lengths 8 z1.2.2.2.2.1, aI cI a_draft_parts 8 z1.2.2.2.2.2.1, aI cI a_draft_likenesses 6 z1.2.2.2.2.2.2.1, oX4 a_trial a_trial_cells, aI cI a_trial_cells 55 z1.2.2.2.2.2.2.2.2.2.2.2.2.2, oX3 a_reader a_letters z1.2.1 z1.2.2.1]) (rest := []) (st' := [.int z1.1]) C mX8_104 q2_17 [.ref a_letters, .int f_length, .ref a_draft, .ref a_trial] (fun l D => cX3_firstFault_ct l D cI a_reader a_reader_text a_letters a_draft a_draft_commons a_draft_lengths a_draft_parts a_draft_likenesses a_trial a_trial_cells 200 f_reader_end f_reader_at f_letters f_draft_wordCount f_draft_likenessCount f_draft_actorCount f_draft_forbiddenBits f_draft_habitTold f_draft_priceTold f_draft_commons f_draft_lengths f_draft_parts f_draft_likenesses f_trial_cells f_length e_z1) ⟨⟨rfl, rfl⟩, Nat.le_of_ble_eq_true rfl, Nat.le_of_ble_eq_true rfl⟩ 9 rfl rfl rfl [9, 1, 2, 3, 4, 5, 6, 7, 8] rfl rfl rfl (by simp only [setM, List.set_cons_zero, List.set_cons_succ]) rfl (Nat.le_of_ble_eq_true rfl) (Nat.zero_le _) (Nat.zero_le _) rfl dX8_fault_20 ?_
  cases hs
  exact hR _ _ dX8_fault_23
def sX8_isWord (f_board_wordCount : Int32) (x1 : Int32) : Option (Int32) :=
  vi (x1 < 0) inferInstance (
    some ((nI 0))) (
    vb (sX0_words f_board_wordCount) fun z2 =>
    vi (z2 ≤ x1) inferInstance (
      some ((nI 0))) (
      some ((nI 1))))
abbrev rmX8_isWord : Room := { frames := 1, cells := 0, slots := 0, locals := 20 }
set_option maxHeartbeats 4000000 in
set_option maxRecDepth 100000 in
theorem cX8_isWord_ct (l : Launch) (D : va_G) (cI : ClassId) (h : Nat) (a_letters : Nat) (a_board : Nat) (a_draft : Nat) (a_scene : Nat) (a_trial : Nat) (a_past : Nat) (a_kept : Nat) (a_seen : Nat) (a_reader : Nat) (a_search : Nat) (a_deal : Nat) (a_line : Nat) (a_board_commons : Nat) (a_board_lengths : Nat) (a_board_parts : Nat) (a_board_likenesses : Nat) (f_length : Int32) (f_board_wordCount : Int32) (f_board_likenessCount : Int32) (f_board_actorCount : Int32) (f_board_forbiddenBits : Int32) (f_board_habitTold : Int32) (f_board_priceTold : Int32) (x1 : Int32) {z : Int32} (hs : sX8_isWord f_board_wordCount x1 = some z) : ct l yX8_isWord (.code yX8_isWord cX8_isWord 2 (some .boolean) :: gtb) rmX8_isWord D cI [.ref h, .int x1] [oX8 h a_letters f_length a_board a_draft a_scene a_trial a_past a_kept a_seen a_reader a_search a_deal a_line, oX0 a_board a_board_commons a_board_lengths a_board_parts a_board_likenesses f_board_wordCount f_board_likenessCount f_board_actorCount f_board_forbiddenBits f_board_habitTold f_board_priceTold] (some (.int z)) [oX8 h a_letters f_length a_board a_draft a_scene a_trial a_past a_kept a_seen a_reader a_search a_deal a_line, oX0 a_board a_board_commons a_board_lengths a_board_parts a_board_likenesses f_board_wordCount f_board_likenessCount f_board_actorCount f_board_forbiddenBits f_board_habitTold f_board_priceTold] := by
  refine ct_ofZ (own := RX8) (by decide +kernel) rfl (Nat.le_of_ble_eq_true rfl) (fun X C hD hR => ?_)
  unfold sX8_isWord at hs
  show gg cI X 2 0 0 [oX8 h a_letters f_length a_board a_draft a_scene a_trial a_past a_kept a_seen a_reader a_search a_deal a_line, oX0 a_board a_board_commons a_board_lengths a_board_parts a_board_likenesses f_board_wordCount f_board_likenessCount f_board_actorCount f_board_forbiddenBits f_board_habitTold f_board_priceTold] [(0, .ref h), (1, .int x1)] 0 []
  refine g_iload_n (pl := 1) C dX8_isWord_0 rfl rfl ?_
  refine g_if_lt (tgt := 19) C dX8_isWord_1 (by decide) (fun c1 => ?_) (fun c1 => ?_)
  · replace hs := vi_t hs c1
    refine g_iconst (v := (nI 0)) C dX8_isWord_19 rfl ?_
    cases hs
    exact hR _ _ (Or.inl rfl) dX8_isWord_20
  · replace hs := vi_f hs c1
    refine g_iload_n (pl := 1) C dX8_isWord_4 rfl rfl ?_
    refine g_aload_n (pl := 0) C dX8_isWord_5 rfl rfl ?_
    refine g_get C fX8_16 0 rfl rfl dX8_isWord_6 ?_
    obtain ⟨z2, e_z2, hs⟩ := vb_ok hs
    refine g_callV (ws' := [oX8 h a_letters f_length a_board a_draft a_scene a_trial a_past a_kept a_seen a_reader a_search a_deal a_line, oX0 a_board a_board_commons a_board_lengths a_board_parts a_board_likenesses f_board_wordCount f_board_likenessCount f_board_actorCount f_board_forbiddenBits f_board_habitTold f_board_priceTold]) (rest := [.int x1]) (st' := [.int z2, .int x1]) C mX8_108 q2_57 [] (fun l D => cX0_words_ct l D cI a_board a_board_commons a_board_lengths a_board_parts a_board_likenesses f_board_wordCount f_board_likenessCount f_board_actorCount f_board_forbiddenBits f_board_habitTold f_board_priceTold e_z2) ⟨⟨rfl, rfl⟩, Nat.le_of_ble_eq_true rfl, Nat.le_of_ble_eq_true rfl⟩ 1 rfl rfl rfl [1] rfl rfl rfl rfl rfl (Nat.le_of_ble_eq_true rfl) (Nat.zero_le _) (Nat.zero_le _) rfl dX8_isWord_9 ?_
    refine g_icmp_ge (tgt := 19) C dX8_isWord_12 (by decide) (fun c3 => ?_) (fun c3 => ?_)
    · replace hs := vi_t hs c3
      refine g_iconst (v := (nI 0)) C dX8_isWord_19 rfl ?_
      cases hs
      exact hR _ _ (Or.inl rfl) dX8_isWord_20
    · replace hs := vi_f hs c3
      refine g_iconst (v := (nI 1)) C dX8_isWord_15 rfl ?_
      refine g_goto (tgt := 20) C dX8_isWord_16 (by decide) ?_
      cases hs
      exact hR _ _ (Or.inr rfl) dX8_isWord_20
def sX8_word (f_board_commons : Nat → Int32) (f_board_lengths : Nat → Int32) (f_board_parts : Nat → Int32) (f_board_likenesses : Nat → Int32) (f_board_wordCount : Int32) (f_board_likenessCount : Int32) (x1 : Int32) (x2 : Int32) : Option (Int32) :=
  vb (sX8_isWord f_board_wordCount x1) fun z1 =>
  vi (z1 = 0) inferInstance (
    some ((-1))) (
    vi (x2 = (nI 0)) inferInstance (
      vb (sX0_commonOf f_board_commons x1) fun z4 =>
      some (z4)) (
      vi (x2 = (nI 1)) inferInstance (
        vb (sX0_lengthOf f_board_lengths x1) fun z6 =>
        some (z6)) (
        vi (x2 = (nI 2)) inferInstance (
          vb (sX0_partsOf f_board_parts x1) fun z8 =>
          some (z8)) (
          vi (x2 = (nI 3)) inferInstance (
            vb (sX0_likenessesOf f_board_likenesses f_board_likenessCount x1) fun z10 =>
            some (z10)) (
            some ((-1)))))))
abbrev rmX8_word : Room := { frames := 2, cells := 0, slots := 0, locals := 45 }
set_option maxHeartbeats 4000000 in
set_option maxRecDepth 100000 in
theorem cX8_word_ct (l : Launch) (D : va_G) (cI : ClassId) (h : Nat) (a_letters : Nat) (a_board : Nat) (a_draft : Nat) (a_scene : Nat) (a_trial : Nat) (a_past : Nat) (a_kept : Nat) (a_seen : Nat) (a_reader : Nat) (a_search : Nat) (a_deal : Nat) (a_line : Nat) (a_board_commons : Nat) (a_board_lengths : Nat) (a_board_parts : Nat) (a_board_likenesses : Nat) (f_length : Int32) (f_board_wordCount : Int32) (f_board_likenessCount : Int32) (f_board_actorCount : Int32) (f_board_forbiddenBits : Int32) (f_board_habitTold : Int32) (f_board_priceTold : Int32) (f_board_commons : Nat → Int32) (f_board_lengths : Nat → Int32) (f_board_parts : Nat → Int32) (f_board_likenesses : Nat → Int32) (x1 : Int32) (x2 : Int32) {z : Int32} (hs : sX8_word f_board_commons f_board_lengths f_board_parts f_board_likenesses f_board_wordCount f_board_likenessCount x1 x2 = some z) : ct l yX8_word (.code yX8_word cX8_word 3 (some .int) :: gtb) rmX8_word D cI [.ref h, .int x1, .int x2] [oX8 h a_letters f_length a_board a_draft a_scene a_trial a_past a_kept a_seen a_reader a_search a_deal a_line, oX0 a_board a_board_commons a_board_lengths a_board_parts a_board_likenesses f_board_wordCount f_board_likenessCount f_board_actorCount f_board_forbiddenBits f_board_habitTold f_board_priceTold, aI cI a_board_commons 8 f_board_commons, aI cI a_board_lengths 8 f_board_lengths, aI cI a_board_parts 8 f_board_parts, aI cI a_board_likenesses 6 f_board_likenesses] (some (.int z)) [oX8 h a_letters f_length a_board a_draft a_scene a_trial a_past a_kept a_seen a_reader a_search a_deal a_line, oX0 a_board a_board_commons a_board_lengths a_board_parts a_board_likenesses f_board_wordCount f_board_likenessCount f_board_actorCount f_board_forbiddenBits f_board_habitTold f_board_priceTold, aI cI a_board_commons 8 f_board_commons, aI cI a_board_lengths 8 f_board_lengths, aI cI a_board_parts 8 f_board_parts, aI cI a_board_likenesses 6 f_board_likenesses] := by
  refine ct_ofI (own := RX8) (by decide +kernel) rfl (Nat.le_of_ble_eq_true rfl) (fun X C hD hR => ?_)
  unfold sX8_word at hs
  show gg cI X 3 0 0 [oX8 h a_letters f_length a_board a_draft a_scene a_trial a_past a_kept a_seen a_reader a_search a_deal a_line, oX0 a_board a_board_commons a_board_lengths a_board_parts a_board_likenesses f_board_wordCount f_board_likenessCount f_board_actorCount f_board_forbiddenBits f_board_habitTold f_board_priceTold, aI cI a_board_commons 8 f_board_commons, aI cI a_board_lengths 8 f_board_lengths, aI cI a_board_parts 8 f_board_parts, aI cI a_board_likenesses 6 f_board_likenesses] [(0, .ref h), (1, .int x1), (2, .int x2)] 0 []
  refine g_aload_n (pl := 0) C dX8_word_0 rfl rfl ?_
  refine g_iload_n (pl := 1) C dX8_word_1 rfl rfl ?_
  obtain ⟨z1, e_z1, hs⟩ := vb_ok hs
  refine g_callV (ws' := [oX8 h a_letters f_length a_board a_draft a_scene a_trial a_past a_kept a_seen a_reader a_search a_deal a_line, oX0 a_board a_board_commons a_board_lengths a_board_parts a_board_likenesses f_board_wordCount f_board_likenessCount f_board_actorCount f_board_forbiddenBits f_board_habitTold f_board_priceTold, aI cI a_board_commons 8 f_board_commons, aI cI a_board_lengths 8 f_board_lengths, aI cI a_board_parts 8 f_board_parts, aI cI a_board_likenesses 6 f_board_likenesses]) (rest := []) (st' := [.int z1]) C mX8_123 q2_184 [.int x1] (fun l D => cX8_isWord_ct l D cI h a_letters a_board a_draft a_scene a_trial a_past a_kept a_seen a_reader a_search a_deal a_line a_board_commons a_board_lengths a_board_parts a_board_likenesses f_length f_board_wordCount f_board_likenessCount f_board_actorCount f_board_forbiddenBits f_board_habitTold f_board_priceTold x1 e_z1) ⟨⟨rfl, rfl⟩, Nat.le_of_ble_eq_true rfl, Nat.le_of_ble_eq_true rfl⟩ 0 rfl rfl rfl [0, 1] rfl rfl rfl rfl rfl (Nat.le_of_ble_eq_true rfl) (Nat.zero_le _) (Nat.zero_le _) rfl dX8_word_2 ?_
  refine g_if_ne (tgt := 10) C dX8_word_5 (by decide) (fun c2 => ?_) (fun c2 => ?_)
  · replace hs := vi_f hs c2
    refine g_iload_n (pl := 2) C dX8_word_10 rfl rfl ?_
    by_cases c3 : x2 = (nI 0)
    · replace hs := vi_t hs c3
      refine g_tableIn (tgt := 40) (off := 29) C dX8_word_11 (by rw [c3]; decide) (by rw [c3]; decide) (by rw [c3]; decide) (by decide) ?_
      refine g_aload_n (pl := 0) C dX8_word_40 rfl rfl ?_
      refine g_get C fX8_16 0 rfl rfl dX8_word_41 ?_
      refine g_iload_n (pl := 1) C dX8_word_44 rfl rfl ?_
      obtain ⟨z4, e_z4, hs⟩ := vb_ok hs
      refine g_callV (ws' := [oX8 h a_letters f_length a_board a_draft a_scene a_trial a_past a_kept a_seen a_reader a_search a_deal a_line, oX0 a_board a_board_commons a_board_lengths a_board_parts a_board_likenesses f_board_wordCount f_board_likenessCount f_board_actorCount f_board_forbiddenBits f_board_habitTold f_board_priceTold, aI cI a_board_commons 8 f_board_commons, aI cI a_board_lengths 8 f_board_lengths, aI cI a_board_parts 8 f_board_parts, aI cI a_board_likenesses 6 f_board_likenesses]) (rest := []) (st' := [.int z4]) C mX8_127 q2_188 [.int x1] (fun l D => cX0_commonOf_ct l D cI a_board a_board_commons a_board_lengths a_board_parts a_board_likenesses f_board_wordCount f_board_likenessCount f_board_actorCount f_board_forbiddenBits f_board_habitTold f_board_priceTold f_board_commons x1 e_z4) ⟨⟨rfl, rfl⟩, Nat.le_of_ble_eq_true rfl, Nat.le_of_ble_eq_true rfl⟩ 1 rfl rfl rfl [1, 2] rfl rfl rfl rfl rfl (Nat.le_of_ble_eq_true rfl) (Nat.zero_le _) (Nat.zero_le _) rfl dX8_word_45 ?_
      cases hs
      exact hR _ _ dX8_word_48
    · replace hs := vi_f hs c3
      by_cases c5 : x2 = (nI 1)
      · replace hs := vi_t hs c5
        refine g_tableIn (tgt := 49) (off := 38) C dX8_word_11 (by rw [c5]; decide) (by rw [c5]; decide) (by rw [c5]; decide) (by decide) ?_
        refine g_aload_n (pl := 0) C dX8_word_49 rfl rfl ?_
        refine g_get C fX8_16 0 rfl rfl dX8_word_50 ?_
        refine g_iload_n (pl := 1) C dX8_word_53 rfl rfl ?_
        obtain ⟨z6, e_z6, hs⟩ := vb_ok hs
        refine g_callV (ws' := [oX8 h a_letters f_length a_board a_draft a_scene a_trial a_past a_kept a_seen a_reader a_search a_deal a_line, oX0 a_board a_board_commons a_board_lengths a_board_parts a_board_likenesses f_board_wordCount f_board_likenessCount f_board_actorCount f_board_forbiddenBits f_board_habitTold f_board_priceTold, aI cI a_board_commons 8 f_board_commons, aI cI a_board_lengths 8 f_board_lengths, aI cI a_board_parts 8 f_board_parts, aI cI a_board_likenesses 6 f_board_likenesses]) (rest := []) (st' := [.int z6]) C mX8_131 q2_192 [.int x1] (fun l D => cX0_lengthOf_ct l D cI a_board a_board_commons a_board_lengths a_board_parts a_board_likenesses f_board_wordCount f_board_likenessCount f_board_actorCount f_board_forbiddenBits f_board_habitTold f_board_priceTold f_board_lengths x1 e_z6) ⟨⟨rfl, rfl⟩, Nat.le_of_ble_eq_true rfl, Nat.le_of_ble_eq_true rfl⟩ 1 rfl rfl rfl [1, 3] rfl rfl rfl rfl rfl (Nat.le_of_ble_eq_true rfl) (Nat.zero_le _) (Nat.zero_le _) rfl dX8_word_54 ?_
        cases hs
        exact hR _ _ dX8_word_57
      · replace hs := vi_f hs c5
        by_cases c7 : x2 = (nI 2)
        · replace hs := vi_t hs c7
          refine g_tableIn (tgt := 58) (off := 47) C dX8_word_11 (by rw [c7]; decide) (by rw [c7]; decide) (by rw [c7]; decide) (by decide) ?_
          refine g_aload_n (pl := 0) C dX8_word_58 rfl rfl ?_
          refine g_get C fX8_16 0 rfl rfl dX8_word_59 ?_
          refine g_iload_n (pl := 1) C dX8_word_62 rfl rfl ?_
          obtain ⟨z8, e_z8, hs⟩ := vb_ok hs
          refine g_callV (ws' := [oX8 h a_letters f_length a_board a_draft a_scene a_trial a_past a_kept a_seen a_reader a_search a_deal a_line, oX0 a_board a_board_commons a_board_lengths a_board_parts a_board_likenesses f_board_wordCount f_board_likenessCount f_board_actorCount f_board_forbiddenBits f_board_habitTold f_board_priceTold, aI cI a_board_commons 8 f_board_commons, aI cI a_board_lengths 8 f_board_lengths, aI cI a_board_parts 8 f_board_parts, aI cI a_board_likenesses 6 f_board_likenesses]) (rest := []) (st' := [.int z8]) C mX8_134 q2_196 [.int x1] (fun l D => cX0_partsOf_ct l D cI a_board a_board_commons a_board_lengths a_board_parts a_board_likenesses f_board_wordCount f_board_likenessCount f_board_actorCount f_board_forbiddenBits f_board_habitTold f_board_priceTold f_board_parts x1 e_z8) ⟨⟨rfl, rfl⟩, Nat.le_of_ble_eq_true rfl, Nat.le_of_ble_eq_true rfl⟩ 1 rfl rfl rfl [1, 4] rfl rfl rfl rfl rfl (Nat.le_of_ble_eq_true rfl) (Nat.zero_le _) (Nat.zero_le _) rfl dX8_word_63 ?_
          cases hs
          exact hR _ _ dX8_word_66
        · replace hs := vi_f hs c7
          by_cases c9 : x2 = (nI 3)
          · replace hs := vi_t hs c9
            refine g_tableIn (tgt := 67) (off := 56) C dX8_word_11 (by rw [c9]; decide) (by rw [c9]; decide) (by rw [c9]; decide) (by decide) ?_
            refine g_aload_n (pl := 0) C dX8_word_67 rfl rfl ?_
            refine g_get C fX8_16 0 rfl rfl dX8_word_68 ?_
            refine g_iload_n (pl := 1) C dX8_word_71 rfl rfl ?_
            obtain ⟨z10, e_z10, hs⟩ := vb_ok hs
            refine g_callV (ws' := [oX8 h a_letters f_length a_board a_draft a_scene a_trial a_past a_kept a_seen a_reader a_search a_deal a_line, oX0 a_board a_board_commons a_board_lengths a_board_parts a_board_likenesses f_board_wordCount f_board_likenessCount f_board_actorCount f_board_forbiddenBits f_board_habitTold f_board_priceTold, aI cI a_board_commons 8 f_board_commons, aI cI a_board_lengths 8 f_board_lengths, aI cI a_board_parts 8 f_board_parts, aI cI a_board_likenesses 6 f_board_likenesses]) (rest := []) (st' := [.int z10]) C mX8_137 q2_200 [.int x1] (fun l D => cX0_likenessesOf_ct l D cI a_board a_board_commons a_board_lengths a_board_parts a_board_likenesses f_board_wordCount f_board_likenessCount f_board_actorCount f_board_forbiddenBits f_board_habitTold f_board_priceTold f_board_likenesses x1 e_z10) ⟨⟨rfl, rfl⟩, Nat.le_of_ble_eq_true rfl, Nat.le_of_ble_eq_true rfl⟩ 1 rfl rfl rfl [1, 5] rfl rfl rfl rfl rfl (Nat.le_of_ble_eq_true rfl) (Nat.zero_le _) (Nat.zero_le _) rfl dX8_word_72 ?_
            cases hs
            exact hR _ _ dX8_word_75
          · replace hs := vi_f hs c9
            refine g_tableOut (tgt := 76) C dX8_word_11 (tsw_out 3 (fun k hk => match k, hk with | 0, _ => c3 | 1, _ => c5 | 2, _ => c7 | 3, _ => c9 | k + 4, h => absurd h (by omega))) (by decide) ?_
            refine g_iconst (v := (-1)) C dX8_word_76 rfl ?_
            cases hs
            exact hR _ _ dX8_word_77
  · replace hs := vi_t hs c2
    refine g_iconst (v := (-1)) C dX8_word_8 rfl ?_
    cases hs
    exact hR _ _ dX8_word_9
def sX8_isSign (f_board_likenessCount : Int32) (x1 : Int32) : Option (Int32) :=
  vi (x1 < 0) inferInstance (
    some ((nI 0))) (
    vb (sX0_signs f_board_likenessCount) fun z2 =>
    vi (z2 ≤ x1) inferInstance (
      some ((nI 0))) (
      some ((nI 1))))
abbrev rmX8_isSign : Room := { frames := 1, cells := 0, slots := 0, locals := 20 }
set_option maxHeartbeats 4000000 in
set_option maxRecDepth 100000 in
theorem cX8_isSign_ct (l : Launch) (D : va_G) (cI : ClassId) (h : Nat) (a_letters : Nat) (a_board : Nat) (a_draft : Nat) (a_scene : Nat) (a_trial : Nat) (a_past : Nat) (a_kept : Nat) (a_seen : Nat) (a_reader : Nat) (a_search : Nat) (a_deal : Nat) (a_line : Nat) (a_board_commons : Nat) (a_board_lengths : Nat) (a_board_parts : Nat) (a_board_likenesses : Nat) (f_length : Int32) (f_board_wordCount : Int32) (f_board_likenessCount : Int32) (f_board_actorCount : Int32) (f_board_forbiddenBits : Int32) (f_board_habitTold : Int32) (f_board_priceTold : Int32) (x1 : Int32) {z : Int32} (hs : sX8_isSign f_board_likenessCount x1 = some z) : ct l yX8_isSign (.code yX8_isSign cX8_isSign 2 (some .boolean) :: gtb) rmX8_isSign D cI [.ref h, .int x1] [oX8 h a_letters f_length a_board a_draft a_scene a_trial a_past a_kept a_seen a_reader a_search a_deal a_line, oX0 a_board a_board_commons a_board_lengths a_board_parts a_board_likenesses f_board_wordCount f_board_likenessCount f_board_actorCount f_board_forbiddenBits f_board_habitTold f_board_priceTold] (some (.int z)) [oX8 h a_letters f_length a_board a_draft a_scene a_trial a_past a_kept a_seen a_reader a_search a_deal a_line, oX0 a_board a_board_commons a_board_lengths a_board_parts a_board_likenesses f_board_wordCount f_board_likenessCount f_board_actorCount f_board_forbiddenBits f_board_habitTold f_board_priceTold] := by
  refine ct_ofZ (own := RX8) (by decide +kernel) rfl (Nat.le_of_ble_eq_true rfl) (fun X C hD hR => ?_)
  unfold sX8_isSign at hs
  show gg cI X 2 0 0 [oX8 h a_letters f_length a_board a_draft a_scene a_trial a_past a_kept a_seen a_reader a_search a_deal a_line, oX0 a_board a_board_commons a_board_lengths a_board_parts a_board_likenesses f_board_wordCount f_board_likenessCount f_board_actorCount f_board_forbiddenBits f_board_habitTold f_board_priceTold] [(0, .ref h), (1, .int x1)] 0 []
  refine g_iload_n (pl := 1) C dX8_isSign_0 rfl rfl ?_
  refine g_if_lt (tgt := 19) C dX8_isSign_1 (by decide) (fun c1 => ?_) (fun c1 => ?_)
  · replace hs := vi_t hs c1
    refine g_iconst (v := (nI 0)) C dX8_isSign_19 rfl ?_
    cases hs
    exact hR _ _ (Or.inl rfl) dX8_isSign_20
  · replace hs := vi_f hs c1
    refine g_iload_n (pl := 1) C dX8_isSign_4 rfl rfl ?_
    refine g_aload_n (pl := 0) C dX8_isSign_5 rfl rfl ?_
    refine g_get C fX8_16 0 rfl rfl dX8_isSign_6 ?_
    obtain ⟨z2, e_z2, hs⟩ := vb_ok hs
    refine g_callV (ws' := [oX8 h a_letters f_length a_board a_draft a_scene a_trial a_past a_kept a_seen a_reader a_search a_deal a_line, oX0 a_board a_board_commons a_board_lengths a_board_parts a_board_likenesses f_board_wordCount f_board_likenessCount f_board_actorCount f_board_forbiddenBits f_board_habitTold f_board_priceTold]) (rest := [.int x1]) (st' := [.int z2, .int x1]) C mX8_245 q2_216 [] (fun l D => cX0_signs_ct l D cI a_board a_board_commons a_board_lengths a_board_parts a_board_likenesses f_board_wordCount f_board_likenessCount f_board_actorCount f_board_forbiddenBits f_board_habitTold f_board_priceTold e_z2) ⟨⟨rfl, rfl⟩, Nat.le_of_ble_eq_true rfl, Nat.le_of_ble_eq_true rfl⟩ 1 rfl rfl rfl [1] rfl rfl rfl rfl rfl (Nat.le_of_ble_eq_true rfl) (Nat.zero_le _) (Nat.zero_le _) rfl dX8_isSign_9 ?_
    refine g_icmp_ge (tgt := 19) C dX8_isSign_12 (by decide) (fun c3 => ?_) (fun c3 => ?_)
    · replace hs := vi_t hs c3
      refine g_iconst (v := (nI 0)) C dX8_isSign_19 rfl ?_
      cases hs
      exact hR _ _ (Or.inl rfl) dX8_isSign_20
    · replace hs := vi_f hs c3
      refine g_iconst (v := (nI 1)) C dX8_isSign_15 rfl ?_
      refine g_goto (tgt := 20) C dX8_isSign_16 (by decide) ?_
      cases hs
      exact hR _ _ (Or.inr rfl) dX8_isSign_20
def sX8_forbidden (f_board_likenessCount : Int32) (f_board_forbiddenBits : Int32) (x1 : Int32) : Option (Int32) :=
  vb (sX8_isSign f_board_likenessCount x1) fun z1 =>
  vi (z1 = 0) inferInstance (
    some ((-1))) (
    vb (sX0_isForbidden f_board_forbiddenBits x1) fun z3 =>
    vi (z3 = 0) inferInstance (
      some ((nI 0))) (
      some ((nI 1))))
abbrev rmX8_forbidden : Room := { frames := 2, cells := 0, slots := 0, locals := 41 }
set_option maxHeartbeats 4000000 in
set_option maxRecDepth 100000 in
theorem cX8_forbidden_ct (l : Launch) (D : va_G) (cI : ClassId) (h : Nat) (a_letters : Nat) (a_board : Nat) (a_draft : Nat) (a_scene : Nat) (a_trial : Nat) (a_past : Nat) (a_kept : Nat) (a_seen : Nat) (a_reader : Nat) (a_search : Nat) (a_deal : Nat) (a_line : Nat) (a_board_commons : Nat) (a_board_lengths : Nat) (a_board_parts : Nat) (a_board_likenesses : Nat) (f_length : Int32) (f_board_wordCount : Int32) (f_board_likenessCount : Int32) (f_board_actorCount : Int32) (f_board_forbiddenBits : Int32) (f_board_habitTold : Int32) (f_board_priceTold : Int32) (x1 : Int32) {z : Int32} (hs : sX8_forbidden f_board_likenessCount f_board_forbiddenBits x1 = some z) : ct l yX8_forbidden (.code yX8_forbidden cX8_forbidden 2 (some .int) :: gtb) rmX8_forbidden D cI [.ref h, .int x1] [oX8 h a_letters f_length a_board a_draft a_scene a_trial a_past a_kept a_seen a_reader a_search a_deal a_line, oX0 a_board a_board_commons a_board_lengths a_board_parts a_board_likenesses f_board_wordCount f_board_likenessCount f_board_actorCount f_board_forbiddenBits f_board_habitTold f_board_priceTold] (some (.int z)) [oX8 h a_letters f_length a_board a_draft a_scene a_trial a_past a_kept a_seen a_reader a_search a_deal a_line, oX0 a_board a_board_commons a_board_lengths a_board_parts a_board_likenesses f_board_wordCount f_board_likenessCount f_board_actorCount f_board_forbiddenBits f_board_habitTold f_board_priceTold] := by
  refine ct_ofI (own := RX8) (by decide +kernel) rfl (Nat.le_of_ble_eq_true rfl) (fun X C hD hR => ?_)
  unfold sX8_forbidden at hs
  show gg cI X 2 0 0 [oX8 h a_letters f_length a_board a_draft a_scene a_trial a_past a_kept a_seen a_reader a_search a_deal a_line, oX0 a_board a_board_commons a_board_lengths a_board_parts a_board_likenesses f_board_wordCount f_board_likenessCount f_board_actorCount f_board_forbiddenBits f_board_habitTold f_board_priceTold] [(0, .ref h), (1, .int x1)] 0 []
  refine g_aload_n (pl := 0) C dX8_forbidden_0 rfl rfl ?_
  refine g_iload_n (pl := 1) C dX8_forbidden_1 rfl rfl ?_
  obtain ⟨z1, e_z1, hs⟩ := vb_ok hs
  refine g_callV (ws' := [oX8 h a_letters f_length a_board a_draft a_scene a_trial a_past a_kept a_seen a_reader a_search a_deal a_line, oX0 a_board a_board_commons a_board_lengths a_board_parts a_board_likenesses f_board_wordCount f_board_likenessCount f_board_actorCount f_board_forbiddenBits f_board_habitTold f_board_priceTold]) (rest := []) (st' := [.int z1]) C mX8_140 q2_212 [.int x1] (fun l D => cX8_isSign_ct l D cI h a_letters a_board a_draft a_scene a_trial a_past a_kept a_seen a_reader a_search a_deal a_line a_board_commons a_board_lengths a_board_parts a_board_likenesses f_length f_board_wordCount f_board_likenessCount f_board_actorCount f_board_forbiddenBits f_board_habitTold f_board_priceTold x1 e_z1) ⟨⟨rfl, rfl⟩, Nat.le_of_ble_eq_true rfl, Nat.le_of_ble_eq_true rfl⟩ 0 rfl rfl rfl [0, 1] rfl rfl rfl rfl rfl (Nat.le_of_ble_eq_true rfl) (Nat.zero_le _) (Nat.zero_le _) rfl dX8_forbidden_2 ?_
  refine g_if_ne (tgt := 10) C dX8_forbidden_5 (by decide) (fun c2 => ?_) (fun c2 => ?_)
  · replace hs := vi_f hs c2
    refine g_aload_n (pl := 0) C dX8_forbidden_10 rfl rfl ?_
    refine g_get C fX8_16 0 rfl rfl dX8_forbidden_11 ?_
    refine g_iload_n (pl := 1) C dX8_forbidden_14 rfl rfl ?_
    obtain ⟨z3, e_z3, hs⟩ := vb_ok hs
    refine g_callV (ws' := [oX8 h a_letters f_length a_board a_draft a_scene a_trial a_past a_kept a_seen a_reader a_search a_deal a_line, oX0 a_board a_board_commons a_board_lengths a_board_parts a_board_likenesses f_board_wordCount f_board_likenessCount f_board_actorCount f_board_forbiddenBits f_board_habitTold f_board_priceTold]) (rest := []) (st' := [.int z3]) C mX8_143 q2_220 [.int x1] (fun l D => cX0_isForbidden_ct l D cI a_board a_board_commons a_board_lengths a_board_parts a_board_likenesses f_board_wordCount f_board_likenessCount f_board_actorCount f_board_forbiddenBits f_board_habitTold f_board_priceTold x1 e_z3) ⟨⟨rfl, rfl⟩, Nat.le_of_ble_eq_true rfl, Nat.le_of_ble_eq_true rfl⟩ 1 rfl rfl rfl [1] rfl rfl rfl rfl rfl (Nat.le_of_ble_eq_true rfl) (Nat.zero_le _) (Nat.zero_le _) rfl dX8_forbidden_15 ?_
    refine g_if_eq (tgt := 25) C dX8_forbidden_18 (by decide) (fun c4 => ?_) (fun c4 => ?_)
    · replace hs := vi_t hs c4
      refine g_iconst (v := (nI 0)) C dX8_forbidden_25 rfl ?_
      cases hs
      exact hR _ _ dX8_forbidden_26
    · replace hs := vi_f hs c4
      refine g_iconst (v := (nI 1)) C dX8_forbidden_21 rfl ?_
      refine g_goto (tgt := 26) C dX8_forbidden_22 (by decide) ?_
      cases hs
      exact hR _ _ dX8_forbidden_26
  · replace hs := vi_t hs c2
    refine g_iconst (v := (-1)) C dX8_forbidden_8 rfl ?_
    cases hs
    exact hR _ _ dX8_forbidden_9
def sX8_isActor (f_board_actorCount : Int32) (x1 : Int32) : Option (Int32) :=
  vi (x1 < 0) inferInstance (
    some ((nI 0))) (
    vb (sX0_actors f_board_actorCount) fun z2 =>
    vi (z2 ≤ x1) inferInstance (
      some ((nI 0))) (
      some ((nI 1))))
abbrev rmX8_isActor : Room := { frames := 1, cells := 0, slots := 0, locals := 20 }
set_option maxHeartbeats 4000000 in
set_option maxRecDepth 100000 in
theorem cX8_isActor_ct (l : Launch) (D : va_G) (cI : ClassId) (h : Nat) (a_letters : Nat) (a_board : Nat) (a_draft : Nat) (a_scene : Nat) (a_trial : Nat) (a_past : Nat) (a_kept : Nat) (a_seen : Nat) (a_reader : Nat) (a_search : Nat) (a_deal : Nat) (a_line : Nat) (a_board_commons : Nat) (a_board_lengths : Nat) (a_board_parts : Nat) (a_board_likenesses : Nat) (f_length : Int32) (f_board_wordCount : Int32) (f_board_likenessCount : Int32) (f_board_actorCount : Int32) (f_board_forbiddenBits : Int32) (f_board_habitTold : Int32) (f_board_priceTold : Int32) (x1 : Int32) {z : Int32} (hs : sX8_isActor f_board_actorCount x1 = some z) : ct l yX8_isActor (.code yX8_isActor cX8_isActor 2 (some .boolean) :: gtb) rmX8_isActor D cI [.ref h, .int x1] [oX8 h a_letters f_length a_board a_draft a_scene a_trial a_past a_kept a_seen a_reader a_search a_deal a_line, oX0 a_board a_board_commons a_board_lengths a_board_parts a_board_likenesses f_board_wordCount f_board_likenessCount f_board_actorCount f_board_forbiddenBits f_board_habitTold f_board_priceTold] (some (.int z)) [oX8 h a_letters f_length a_board a_draft a_scene a_trial a_past a_kept a_seen a_reader a_search a_deal a_line, oX0 a_board a_board_commons a_board_lengths a_board_parts a_board_likenesses f_board_wordCount f_board_likenessCount f_board_actorCount f_board_forbiddenBits f_board_habitTold f_board_priceTold] := by
  refine ct_ofZ (own := RX8) (by decide +kernel) rfl (Nat.le_of_ble_eq_true rfl) (fun X C hD hR => ?_)
  unfold sX8_isActor at hs
  show gg cI X 2 0 0 [oX8 h a_letters f_length a_board a_draft a_scene a_trial a_past a_kept a_seen a_reader a_search a_deal a_line, oX0 a_board a_board_commons a_board_lengths a_board_parts a_board_likenesses f_board_wordCount f_board_likenessCount f_board_actorCount f_board_forbiddenBits f_board_habitTold f_board_priceTold] [(0, .ref h), (1, .int x1)] 0 []
  refine g_iload_n (pl := 1) C dX8_isActor_0 rfl rfl ?_
  refine g_if_lt (tgt := 19) C dX8_isActor_1 (by decide) (fun c1 => ?_) (fun c1 => ?_)
  · replace hs := vi_t hs c1
    refine g_iconst (v := (nI 0)) C dX8_isActor_19 rfl ?_
    cases hs
    exact hR _ _ (Or.inl rfl) dX8_isActor_20
  · replace hs := vi_f hs c1
    refine g_iload_n (pl := 1) C dX8_isActor_4 rfl rfl ?_
    refine g_aload_n (pl := 0) C dX8_isActor_5 rfl rfl ?_
    refine g_get C fX8_16 0 rfl rfl dX8_isActor_6 ?_
    obtain ⟨z2, e_z2, hs⟩ := vb_ok hs
    refine g_callV (ws' := [oX8 h a_letters f_length a_board a_draft a_scene a_trial a_past a_kept a_seen a_reader a_search a_deal a_line, oX0 a_board a_board_commons a_board_lengths a_board_parts a_board_likenesses f_board_wordCount f_board_likenessCount f_board_actorCount f_board_forbiddenBits f_board_habitTold f_board_priceTold]) (rest := [.int x1]) (st' := [.int z2, .int x1]) C mX8_111 q2_97 [] (fun l D => cX0_actors_ct l D cI a_board a_board_commons a_board_lengths a_board_parts a_board_likenesses f_board_wordCount f_board_likenessCount f_board_actorCount f_board_forbiddenBits f_board_habitTold f_board_priceTold e_z2) ⟨⟨rfl, rfl⟩, Nat.le_of_ble_eq_true rfl, Nat.le_of_ble_eq_true rfl⟩ 1 rfl rfl rfl [1] rfl rfl rfl rfl rfl (Nat.le_of_ble_eq_true rfl) (Nat.zero_le _) (Nat.zero_le _) rfl dX8_isActor_9 ?_
    refine g_icmp_ge (tgt := 19) C dX8_isActor_12 (by decide) (fun c3 => ?_) (fun c3 => ?_)
    · replace hs := vi_t hs c3
      refine g_iconst (v := (nI 0)) C dX8_isActor_19 rfl ?_
      cases hs
      exact hR _ _ (Or.inl rfl) dX8_isActor_20
    · replace hs := vi_f hs c3
      refine g_iconst (v := (nI 1)) C dX8_isActor_15 rfl ?_
      refine g_goto (tgt := 20) C dX8_isActor_16 (by decide) ?_
      cases hs
      exact hR _ _ (Or.inr rfl) dX8_isActor_20
def sX8_actor (f_board_actorCount : Int32) (f_scene_cells : Nat → Int32) (x1 : Int32) (x2 : Int32) : Option (Int32) :=
  vb (sX8_isActor f_board_actorCount x1) fun z1 =>
  vi (z1 = 0) inferInstance (
    some ((-1))) (
    vi (x2 < 0) inferInstance (
      some ((-1))) (
      vi ((nI 5) < x2) inferInstance (
        some ((-1))) (
        vb (sX4_cell f_scene_cells x1 x2) fun z5 =>
        some (z5))))
abbrev rmX8_actor : Room := { frames := 2, cells := 0, slots := 0, locals := 41 }
set_option maxHeartbeats 4000000 in
set_option maxRecDepth 100000 in
theorem cX8_actor_ct (l : Launch) (D : va_G) (cI : ClassId) (h : Nat) (a_letters : Nat) (a_board : Nat) (a_draft : Nat) (a_scene : Nat) (a_trial : Nat) (a_past : Nat) (a_kept : Nat) (a_seen : Nat) (a_reader : Nat) (a_search : Nat) (a_deal : Nat) (a_line : Nat) (a_board_commons : Nat) (a_board_lengths : Nat) (a_board_parts : Nat) (a_board_likenesses : Nat) (a_scene_cells : Nat) (f_length : Int32) (f_board_wordCount : Int32) (f_board_likenessCount : Int32) (f_board_actorCount : Int32) (f_board_forbiddenBits : Int32) (f_board_habitTold : Int32) (f_board_priceTold : Int32) (f_scene_cells : Nat → Int32) (x1 : Int32) (x2 : Int32) {z : Int32} (hs : sX8_actor f_board_actorCount f_scene_cells x1 x2 = some z) : ct l yX8_actor (.code yX8_actor cX8_actor 3 (some .int) :: gtb) rmX8_actor D cI [.ref h, .int x1, .int x2] [oX8 h a_letters f_length a_board a_draft a_scene a_trial a_past a_kept a_seen a_reader a_search a_deal a_line, oX0 a_board a_board_commons a_board_lengths a_board_parts a_board_likenesses f_board_wordCount f_board_likenessCount f_board_actorCount f_board_forbiddenBits f_board_habitTold f_board_priceTold, oX4 a_scene a_scene_cells, aI cI a_scene_cells 55 f_scene_cells] (some (.int z)) [oX8 h a_letters f_length a_board a_draft a_scene a_trial a_past a_kept a_seen a_reader a_search a_deal a_line, oX0 a_board a_board_commons a_board_lengths a_board_parts a_board_likenesses f_board_wordCount f_board_likenessCount f_board_actorCount f_board_forbiddenBits f_board_habitTold f_board_priceTold, oX4 a_scene a_scene_cells, aI cI a_scene_cells 55 f_scene_cells] := by
  refine ct_ofI (own := RX8) (by decide +kernel) rfl (Nat.le_of_ble_eq_true rfl) (fun X C hD hR => ?_)
  unfold sX8_actor at hs
  show gg cI X 3 0 0 [oX8 h a_letters f_length a_board a_draft a_scene a_trial a_past a_kept a_seen a_reader a_search a_deal a_line, oX0 a_board a_board_commons a_board_lengths a_board_parts a_board_likenesses f_board_wordCount f_board_likenessCount f_board_actorCount f_board_forbiddenBits f_board_habitTold f_board_priceTold, oX4 a_scene a_scene_cells, aI cI a_scene_cells 55 f_scene_cells] [(0, .ref h), (1, .int x1), (2, .int x2)] 0 []
  refine g_aload_n (pl := 0) C dX8_actor_0 rfl rfl ?_
  refine g_iload_n (pl := 1) C dX8_actor_1 rfl rfl ?_
  obtain ⟨z1, e_z1, hs⟩ := vb_ok hs
  refine g_callV (ws' := [oX8 h a_letters f_length a_board a_draft a_scene a_trial a_past a_kept a_seen a_reader a_search a_deal a_line, oX0 a_board a_board_commons a_board_lengths a_board_parts a_board_likenesses f_board_wordCount f_board_likenessCount f_board_actorCount f_board_forbiddenBits f_board_habitTold f_board_priceTold, oX4 a_scene a_scene_cells, aI cI a_scene_cells 55 f_scene_cells]) (rest := []) (st' := [.int z1]) C mX8_146 q2_228 [.int x1] (fun l D => cX8_isActor_ct l D cI h a_letters a_board a_draft a_scene a_trial a_past a_kept a_seen a_reader a_search a_deal a_line a_board_commons a_board_lengths a_board_parts a_board_likenesses f_length f_board_wordCount f_board_likenessCount f_board_actorCount f_board_forbiddenBits f_board_habitTold f_board_priceTold x1 e_z1) ⟨⟨rfl, rfl⟩, Nat.le_of_ble_eq_true rfl, Nat.le_of_ble_eq_true rfl⟩ 0 rfl rfl rfl [0, 1] rfl rfl rfl rfl rfl (Nat.le_of_ble_eq_true rfl) (Nat.zero_le _) (Nat.zero_le _) rfl dX8_actor_2 ?_
  refine g_if_eq (tgt := 29) C dX8_actor_5 (by decide) (fun c2 => ?_) (fun c2 => ?_)
  · replace hs := vi_t hs c2
    refine g_iconst (v := (-1)) C dX8_actor_29 rfl ?_
    cases hs
    exact hR _ _ dX8_actor_30
  · replace hs := vi_f hs c2
    refine g_iload_n (pl := 2) C dX8_actor_8 rfl rfl ?_
    refine g_if_lt (tgt := 29) C dX8_actor_9 (by decide) (fun c3 => ?_) (fun c3 => ?_)
    · replace hs := vi_t hs c3
      refine g_iconst (v := (-1)) C dX8_actor_29 rfl ?_
      cases hs
      exact hR _ _ dX8_actor_30
    · replace hs := vi_f hs c3
      refine g_iload_n (pl := 2) C dX8_actor_12 rfl rfl ?_
      refine g_iconst (v := (nI 5)) C dX8_actor_13 rfl ?_
      refine g_icmp_gt (tgt := 29) C dX8_actor_14 (by decide) (fun c4 => ?_) (fun c4 => ?_)
      · replace hs := vi_t hs c4
        refine g_iconst (v := (-1)) C dX8_actor_29 rfl ?_
        cases hs
        exact hR _ _ dX8_actor_30
      · replace hs := vi_f hs c4
        refine g_aload_n (pl := 0) C dX8_actor_17 rfl rfl ?_
        refine g_get C fX8_26 0 rfl rfl dX8_actor_18 ?_
        refine g_iload_n (pl := 1) C dX8_actor_21 rfl rfl ?_
        refine g_iload_n (pl := 2) C dX8_actor_22 rfl rfl ?_
        obtain ⟨z5, e_z5, hs⟩ := vb_ok hs
        refine g_callV (ws' := [oX8 h a_letters f_length a_board a_draft a_scene a_trial a_past a_kept a_seen a_reader a_search a_deal a_line, oX0 a_board a_board_commons a_board_lengths a_board_parts a_board_likenesses f_board_wordCount f_board_likenessCount f_board_actorCount f_board_forbiddenBits f_board_habitTold f_board_priceTold, oX4 a_scene a_scene_cells, aI cI a_scene_cells 55 f_scene_cells]) (rest := []) (st' := [.int z5]) C mX8_149 q2_232 [.int x1, .int x2] (fun l D => cX4_cell_ct l D cI a_scene a_scene_cells f_scene_cells x1 x2 e_z5) ⟨⟨rfl, rfl⟩, Nat.le_of_ble_eq_true rfl, Nat.le_of_ble_eq_true rfl⟩ 2 rfl rfl rfl [2, 3] rfl rfl rfl rfl rfl (Nat.le_of_ble_eq_true rfl) (Nat.zero_le _) (Nat.zero_le _) rfl dX8_actor_23 ?_
        refine g_goto (tgt := 30) C dX8_actor_26 (by decide) ?_
        cases hs
        exact hR _ _ dX8_actor_30
def sX8_shown (f_board_actorCount : Int32) (f_scene_cells : Nat → Int32) (x1 : Int32) (x2 : Int32) : Option (Int32) :=
  vb (sX8_isActor f_board_actorCount x1) fun z1 =>
  vi (z1 = 0) inferInstance (
    some ((-1))) (
    vi (0 ≤ x2) inferInstance (
      vb (sX4_cell f_scene_cells x1 (nI 3)) fun z4 =>
      vi (z4 ≤ x2) inferInstance (
        some ((-4))) (
        vb (sX4_sign f_scene_cells x1 x2) fun z6 =>
        some (z6))) (
      some ((-1))))
abbrev rmX8_shown : Room := { frames := 2, cells := 0, slots := 0, locals := 45 }
set_option maxHeartbeats 4000000 in
set_option maxRecDepth 100000 in
theorem cX8_shown_ct (l : Launch) (D : va_G) (cI : ClassId) (h : Nat) (a_letters : Nat) (a_board : Nat) (a_draft : Nat) (a_scene : Nat) (a_trial : Nat) (a_past : Nat) (a_kept : Nat) (a_seen : Nat) (a_reader : Nat) (a_search : Nat) (a_deal : Nat) (a_line : Nat) (a_board_commons : Nat) (a_board_lengths : Nat) (a_board_parts : Nat) (a_board_likenesses : Nat) (a_scene_cells : Nat) (f_length : Int32) (f_board_wordCount : Int32) (f_board_likenessCount : Int32) (f_board_actorCount : Int32) (f_board_forbiddenBits : Int32) (f_board_habitTold : Int32) (f_board_priceTold : Int32) (f_scene_cells : Nat → Int32) (x1 : Int32) (x2 : Int32) {z : Int32} (hs : sX8_shown f_board_actorCount f_scene_cells x1 x2 = some z) : ct l yX8_shown (.code yX8_shown cX8_shown 3 (some .int) :: gtb) rmX8_shown D cI [.ref h, .int x1, .int x2] [oX8 h a_letters f_length a_board a_draft a_scene a_trial a_past a_kept a_seen a_reader a_search a_deal a_line, oX0 a_board a_board_commons a_board_lengths a_board_parts a_board_likenesses f_board_wordCount f_board_likenessCount f_board_actorCount f_board_forbiddenBits f_board_habitTold f_board_priceTold, oX4 a_scene a_scene_cells, aI cI a_scene_cells 55 f_scene_cells] (some (.int z)) [oX8 h a_letters f_length a_board a_draft a_scene a_trial a_past a_kept a_seen a_reader a_search a_deal a_line, oX0 a_board a_board_commons a_board_lengths a_board_parts a_board_likenesses f_board_wordCount f_board_likenessCount f_board_actorCount f_board_forbiddenBits f_board_habitTold f_board_priceTold, oX4 a_scene a_scene_cells, aI cI a_scene_cells 55 f_scene_cells] := by
  refine ct_ofI (own := RX8) (by decide +kernel) rfl (Nat.le_of_ble_eq_true rfl) (fun X C hD hR => ?_)
  unfold sX8_shown at hs
  show gg cI X 3 0 0 [oX8 h a_letters f_length a_board a_draft a_scene a_trial a_past a_kept a_seen a_reader a_search a_deal a_line, oX0 a_board a_board_commons a_board_lengths a_board_parts a_board_likenesses f_board_wordCount f_board_likenessCount f_board_actorCount f_board_forbiddenBits f_board_habitTold f_board_priceTold, oX4 a_scene a_scene_cells, aI cI a_scene_cells 55 f_scene_cells] [(0, .ref h), (1, .int x1), (2, .int x2)] 0 []
  refine g_aload_n (pl := 0) C dX8_shown_0 rfl rfl ?_
  refine g_iload_n (pl := 1) C dX8_shown_1 rfl rfl ?_
  obtain ⟨z1, e_z1, hs⟩ := vb_ok hs
  refine g_callV (ws' := [oX8 h a_letters f_length a_board a_draft a_scene a_trial a_past a_kept a_seen a_reader a_search a_deal a_line, oX0 a_board a_board_commons a_board_lengths a_board_parts a_board_likenesses f_board_wordCount f_board_likenessCount f_board_actorCount f_board_forbiddenBits f_board_habitTold f_board_priceTold, oX4 a_scene a_scene_cells, aI cI a_scene_cells 55 f_scene_cells]) (rest := []) (st' := [.int z1]) C mX8_146 q2_228 [.int x1] (fun l D => cX8_isActor_ct l D cI h a_letters a_board a_draft a_scene a_trial a_past a_kept a_seen a_reader a_search a_deal a_line a_board_commons a_board_lengths a_board_parts a_board_likenesses f_length f_board_wordCount f_board_likenessCount f_board_actorCount f_board_forbiddenBits f_board_habitTold f_board_priceTold x1 e_z1) ⟨⟨rfl, rfl⟩, Nat.le_of_ble_eq_true rfl, Nat.le_of_ble_eq_true rfl⟩ 0 rfl rfl rfl [0, 1] rfl rfl rfl rfl rfl (Nat.le_of_ble_eq_true rfl) (Nat.zero_le _) (Nat.zero_le _) rfl dX8_shown_2 ?_
  refine g_if_eq (tgt := 12) C dX8_shown_5 (by decide) (fun c2 => ?_) (fun c2 => ?_)
  · replace hs := vi_t hs c2
    refine g_iconst (v := (-1)) C dX8_shown_12 rfl ?_
    cases hs
    exact hR _ _ dX8_shown_13
  · replace hs := vi_f hs c2
    refine g_iload_n (pl := 2) C dX8_shown_8 rfl rfl ?_
    refine g_if_ge (tgt := 14) C dX8_shown_9 (by decide) (fun c3 => ?_) (fun c3 => ?_)
    · replace hs := vi_t hs c3
      refine g_iload_n (pl := 2) C dX8_shown_14 rfl rfl ?_
      refine g_aload_n (pl := 0) C dX8_shown_15 rfl rfl ?_
      refine g_get C fX8_26 0 rfl rfl dX8_shown_16 ?_
      refine g_iload_n (pl := 1) C dX8_shown_19 rfl rfl ?_
      refine g_iconst (v := (nI 3)) C dX8_shown_20 rfl ?_
      obtain ⟨z4, e_z4, hs⟩ := vb_ok hs
      refine g_callV (ws' := [oX8 h a_letters f_length a_board a_draft a_scene a_trial a_past a_kept a_seen a_reader a_search a_deal a_line, oX0 a_board a_board_commons a_board_lengths a_board_parts a_board_likenesses f_board_wordCount f_board_likenessCount f_board_actorCount f_board_forbiddenBits f_board_habitTold f_board_priceTold, oX4 a_scene a_scene_cells, aI cI a_scene_cells 55 f_scene_cells]) (rest := [.int x2]) (st' := [.int z4, .int x2]) C mX8_149 q2_232 [.int x1, .int (nI 3)] (fun l D => cX4_cell_ct l D cI a_scene a_scene_cells f_scene_cells x1 (nI 3) e_z4) ⟨⟨rfl, rfl⟩, Nat.le_of_ble_eq_true rfl, Nat.le_of_ble_eq_true rfl⟩ 2 rfl rfl rfl [2, 3] rfl rfl rfl rfl rfl (Nat.le_of_ble_eq_true rfl) (Nat.zero_le _) (Nat.zero_le _) rfl dX8_shown_21 ?_
      refine g_icmp_ge (tgt := 39) C dX8_shown_24 (by decide) (fun c5 => ?_) (fun c5 => ?_)
      · replace hs := vi_t hs c5
        refine g_bipush (v := (-4)) C dX8_shown_39 rfl ?_
        cases hs
        exact hR _ _ dX8_shown_41
      · replace hs := vi_f hs c5
        refine g_aload_n (pl := 0) C dX8_shown_27 rfl rfl ?_
        refine g_get C fX8_26 0 rfl rfl dX8_shown_28 ?_
        refine g_iload_n (pl := 1) C dX8_shown_31 rfl rfl ?_
        refine g_iload_n (pl := 2) C dX8_shown_32 rfl rfl ?_
        obtain ⟨z6, e_z6, hs⟩ := vb_ok hs
        refine g_callV (ws' := [oX8 h a_letters f_length a_board a_draft a_scene a_trial a_past a_kept a_seen a_reader a_search a_deal a_line, oX0 a_board a_board_commons a_board_lengths a_board_parts a_board_likenesses f_board_wordCount f_board_likenessCount f_board_actorCount f_board_forbiddenBits f_board_habitTold f_board_priceTold, oX4 a_scene a_scene_cells, aI cI a_scene_cells 55 f_scene_cells]) (rest := []) (st' := [.int z6]) C mX8_152 q3_0 [.int x1, .int x2] (fun l D => cX4_sign_ct l D cI a_scene a_scene_cells f_scene_cells x1 x2 e_z6) ⟨⟨rfl, rfl⟩, Nat.le_of_ble_eq_true rfl, Nat.le_of_ble_eq_true rfl⟩ 2 rfl rfl rfl [2, 3] rfl rfl rfl rfl rfl (Nat.le_of_ble_eq_true rfl) (Nat.zero_le _) (Nat.zero_le _) rfl dX8_shown_33 ?_
        refine g_goto (tgt := 41) C dX8_shown_36 (by decide) ?_
        cases hs
        exact hR _ _ dX8_shown_41
    · replace hs := vi_f hs c3
      refine g_iconst (v := (-1)) C dX8_shown_12 rfl ?_
      cases hs
      exact hR _ _ dX8_shown_13
def sX8_showSign (f_board_forbiddenBits : Int32) (f_p1_cells : Nat → Int32) (x2 : Int32) (x3 : Int32) : Option (Int32 × (Nat → Int32)) :=
  vb (sX0_isForbidden f_board_forbiddenBits x3) fun z1 =>
  vi (z1 = 0) inferInstance (
    vb (sX4_addSign f_p1_cells x2 x3) fun z3 =>
    some ((nI 1), z3)) (
    vb (sX4_set f_p1_cells x2 (nI 5) (nI 3)) fun z4 =>
    some ((nI 0), z4))
abbrev rmX8_showSign : Room := { frames := 2, cells := 0, slots := 0, locals := 47 }
set_option maxHeartbeats 4000000 in
set_option maxRecDepth 100000 in
theorem cX8_showSign_ct (l : Launch) (D : va_G) (cI : ClassId) (h : Nat) (a_letters : Nat) (a_board : Nat) (a_draft : Nat) (a_scene : Nat) (a_trial : Nat) (a_past : Nat) (a_kept : Nat) (a_seen : Nat) (a_reader : Nat) (a_search : Nat) (a_deal : Nat) (a_line : Nat) (a_board_commons : Nat) (a_board_lengths : Nat) (a_board_parts : Nat) (a_board_likenesses : Nat) (a_p1 : Nat) (a_p1_cells : Nat) (f_length : Int32) (f_board_wordCount : Int32) (f_board_likenessCount : Int32) (f_board_actorCount : Int32) (f_board_forbiddenBits : Int32) (f_board_habitTold : Int32) (f_board_priceTold : Int32) (f_p1_cells : Nat → Int32) (x2 : Int32) (x3 : Int32) {z : Int32 × (Nat → Int32)} (hs : sX8_showSign f_board_forbiddenBits f_p1_cells x2 x3 = some z) : ct l yX8_showSign (.code yX8_showSign cX8_showSign 4 (some .int) :: gtb) rmX8_showSign D cI [.ref h, .ref a_p1, .int x2, .int x3] [oX8 h a_letters f_length a_board a_draft a_scene a_trial a_past a_kept a_seen a_reader a_search a_deal a_line, oX0 a_board a_board_commons a_board_lengths a_board_parts a_board_likenesses f_board_wordCount f_board_likenessCount f_board_actorCount f_board_forbiddenBits f_board_habitTold f_board_priceTold, oX4 a_p1 a_p1_cells, aI cI a_p1_cells 55 f_p1_cells] (some (.int z.1)) [oX8 h a_letters f_length a_board a_draft a_scene a_trial a_past a_kept a_seen a_reader a_search a_deal a_line, oX0 a_board a_board_commons a_board_lengths a_board_parts a_board_likenesses f_board_wordCount f_board_likenessCount f_board_actorCount f_board_forbiddenBits f_board_habitTold f_board_priceTold, oX4 a_p1 a_p1_cells, aI cI a_p1_cells 55 z.2] := by
  refine ct_ofI (own := RX8) (by decide +kernel) rfl (Nat.le_of_ble_eq_true rfl) (fun X C hD hR => ?_)
  unfold sX8_showSign at hs
  show gg cI X 4 0 0 [oX8 h a_letters f_length a_board a_draft a_scene a_trial a_past a_kept a_seen a_reader a_search a_deal a_line, oX0 a_board a_board_commons a_board_lengths a_board_parts a_board_likenesses f_board_wordCount f_board_likenessCount f_board_actorCount f_board_forbiddenBits f_board_habitTold f_board_priceTold, oX4 a_p1 a_p1_cells, aI cI a_p1_cells 55 f_p1_cells] [(0, .ref h), (1, .ref a_p1), (2, .int x2), (3, .int x3)] 0 []
  refine g_aload_n (pl := 0) C dX8_showSign_0 rfl rfl ?_
  refine g_get C fX8_16 0 rfl rfl dX8_showSign_1 ?_
  refine g_iload_n (pl := 3) C dX8_showSign_4 rfl rfl ?_
  obtain ⟨z1, e_z1, hs⟩ := vb_ok hs
  refine g_callV (ws' := [oX8 h a_letters f_length a_board a_draft a_scene a_trial a_past a_kept a_seen a_reader a_search a_deal a_line, oX0 a_board a_board_commons a_board_lengths a_board_parts a_board_likenesses f_board_wordCount f_board_likenessCount f_board_actorCount f_board_forbiddenBits f_board_habitTold f_board_priceTold, oX4 a_p1 a_p1_cells, aI cI a_p1_cells 55 f_p1_cells]) (rest := []) (st' := [.int z1]) C mX8_143 q2_220 [.int x3] (fun l D => cX0_isForbidden_ct l D cI a_board a_board_commons a_board_lengths a_board_parts a_board_likenesses f_board_wordCount f_board_likenessCount f_board_actorCount f_board_forbiddenBits f_board_habitTold f_board_priceTold x3 e_z1) ⟨⟨rfl, rfl⟩, Nat.le_of_ble_eq_true rfl, Nat.le_of_ble_eq_true rfl⟩ 1 rfl rfl rfl [1] rfl rfl rfl rfl rfl (Nat.le_of_ble_eq_true rfl) (Nat.zero_le _) (Nat.zero_le _) rfl dX8_showSign_5 ?_
  refine g_if_eq (tgt := 20) C dX8_showSign_8 (by decide) (fun c2 => ?_) (fun c2 => ?_)
  · replace hs := vi_t hs c2
    refine g_aload_n (pl := 1) C dX8_showSign_20 rfl rfl ?_
    refine g_iload_n (pl := 2) C dX8_showSign_21 rfl rfl ?_
    refine g_iload_n (pl := 3) C dX8_showSign_22 rfl rfl ?_
    obtain ⟨z3, e_z3, hs⟩ := vb_ok hs
    refine g_callV (ws' := [oX8 h a_letters f_length a_board a_draft a_scene a_trial a_past a_kept a_seen a_reader a_search a_deal a_line, oX0 a_board a_board_commons a_board_lengths a_board_parts a_board_likenesses f_board_wordCount f_board_likenessCount f_board_actorCount f_board_forbiddenBits f_board_habitTold f_board_priceTold, oX4 a_p1 a_p1_cells, aI cI a_p1_cells 55 z3]) (rest := []) (st' := []) C mX8_284 q3_27 [.int x2, .int x3] (fun l D => cX4_addSign_ct l D cI a_p1 a_p1_cells f_p1_cells x2 x3 e_z3) ⟨⟨rfl, rfl⟩, Nat.le_of_ble_eq_true rfl, Nat.le_of_ble_eq_true rfl⟩ 2 rfl rfl rfl [2, 3] rfl rfl rfl rfl rfl (Nat.le_of_ble_eq_true rfl) (Nat.zero_le _) (Nat.zero_le _) rfl dX8_showSign_23 ?_
    refine g_iconst (v := (nI 1)) C dX8_showSign_26 rfl ?_
    cases hs
    exact hR _ _ dX8_showSign_27
  · replace hs := vi_f hs c2
    refine g_aload_n (pl := 1) C dX8_showSign_11 rfl rfl ?_
    refine g_iload_n (pl := 2) C dX8_showSign_12 rfl rfl ?_
    refine g_iconst (v := (nI 5)) C dX8_showSign_13 rfl ?_
    refine g_iconst (v := (nI 3)) C dX8_showSign_14 rfl ?_
    obtain ⟨z4, e_z4, hs⟩ := vb_ok hs
    refine g_callV (ws' := [oX8 h a_letters f_length a_board a_draft a_scene a_trial a_past a_kept a_seen a_reader a_search a_deal a_line, oX0 a_board a_board_commons a_board_lengths a_board_parts a_board_likenesses f_board_wordCount f_board_likenessCount f_board_actorCount f_board_forbiddenBits f_board_habitTold f_board_priceTold, oX4 a_p1 a_p1_cells, aI cI a_p1_cells 55 z4]) (rest := []) (st' := []) C mX8_175 q2_105 [.int x2, .int (nI 5), .int (nI 3)] (fun l D => cX4_set_ct l D cI a_p1 a_p1_cells f_p1_cells x2 (nI 5) (nI 3) e_z4) ⟨⟨rfl, rfl⟩, Nat.le_of_ble_eq_true rfl, Nat.le_of_ble_eq_true rfl⟩ 2 rfl rfl rfl [2, 3] rfl rfl rfl rfl rfl (Nat.le_of_ble_eq_true rfl) (Nat.zero_le _) (Nat.zero_le _) rfl dX8_showSign_15 ?_
    refine g_iconst (v := (nI 0)) C dX8_showSign_18 rfl ?_
    cases hs
    exact hR _ _ dX8_showSign_19
def sX8_show (n_past_rows : Nat) (f_board_likenessCount : Int32) (f_board_actorCount : Int32) (f_board_forbiddenBits : Int32) (f_scene_cells : Nat → Int32) (f_past_rows : Nat → Int32) (f_past_most : Int32) (f_past_used : Int32) (x1 : Int32) (x2 : Int32) : Option (Int32 × (Nat → Int32) × (Nat → Int32) × Int32) :=
  vb (sX8_isActor f_board_actorCount x1) fun z1 =>
  vi (z1 = 0) inferInstance (
    some ((-1), f_scene_cells, f_past_rows, f_past_used)) (
    vb (sX8_isSign f_board_likenessCount x2) fun z3 =>
    vi (z3 = 0) inferInstance (
      some ((-1), f_scene_cells, f_past_rows, f_past_used)) (
      vb (sX4_canShow f_scene_cells x1) fun z5 =>
      vi (z5 = 0) inferInstance (
        some ((-2), f_scene_cells, f_past_rows, f_past_used)) (
        vb (sX7_put n_past_rows f_past_rows f_past_most f_past_used f_scene_cells) fun z7 =>
        vb (sX8_showSign f_board_forbiddenBits f_scene_cells x1 x2) fun z8 =>
        some (z8.1, z8.2, z7.1, z7.2))))
abbrev rmX8_show : Room := { frames := 3, cells := 0, slots := 0, locals := 70 }
set_option maxHeartbeats 4000000 in
set_option maxRecDepth 100000 in
theorem cX8_show_ct (l : Launch) (D : va_G) (cI : ClassId) (h : Nat) (a_letters : Nat) (a_board : Nat) (a_draft : Nat) (a_scene : Nat) (a_trial : Nat) (a_past : Nat) (a_kept : Nat) (a_seen : Nat) (a_reader : Nat) (a_search : Nat) (a_deal : Nat) (a_line : Nat) (a_board_commons : Nat) (a_board_lengths : Nat) (a_board_parts : Nat) (a_board_likenesses : Nat) (a_scene_cells : Nat) (a_past_rows : Nat) (n_past_rows : Nat) (f_length : Int32) (f_board_wordCount : Int32) (f_board_likenessCount : Int32) (f_board_actorCount : Int32) (f_board_forbiddenBits : Int32) (f_board_habitTold : Int32) (f_board_priceTold : Int32) (f_scene_cells : Nat → Int32) (f_past_most : Int32) (f_past_used : Int32) (f_past_rows : Nat → Int32) (x1 : Int32) (x2 : Int32) {z : Int32 × (Nat → Int32) × (Nat → Int32) × Int32} (hs : sX8_show n_past_rows f_board_likenessCount f_board_actorCount f_board_forbiddenBits f_scene_cells f_past_rows f_past_most f_past_used x1 x2 = some z) : ct l yX8_show (.code yX8_show cX8_show 3 (some .int) :: gtb) rmX8_show D cI [.ref h, .int x1, .int x2] [oX8 h a_letters f_length a_board a_draft a_scene a_trial a_past a_kept a_seen a_reader a_search a_deal a_line, oX0 a_board a_board_commons a_board_lengths a_board_parts a_board_likenesses f_board_wordCount f_board_likenessCount f_board_actorCount f_board_forbiddenBits f_board_habitTold f_board_priceTold, oX4 a_scene a_scene_cells, aI cI a_scene_cells 55 f_scene_cells, oX7 a_past a_past_rows f_past_most f_past_used, aI cI a_past_rows n_past_rows f_past_rows] (some (.int z.1)) [oX8 h a_letters f_length a_board a_draft a_scene a_trial a_past a_kept a_seen a_reader a_search a_deal a_line, oX0 a_board a_board_commons a_board_lengths a_board_parts a_board_likenesses f_board_wordCount f_board_likenessCount f_board_actorCount f_board_forbiddenBits f_board_habitTold f_board_priceTold, oX4 a_scene a_scene_cells, aI cI a_scene_cells 55 z.2.1, oX7 a_past a_past_rows f_past_most z.2.2.2, aI cI a_past_rows n_past_rows z.2.2.1] := by
  refine ct_ofI (own := RX8) (by decide +kernel) rfl (Nat.le_of_ble_eq_true rfl) (fun X C hD hR => ?_)
  unfold sX8_show at hs
  show gg cI X 3 0 0 [oX8 h a_letters f_length a_board a_draft a_scene a_trial a_past a_kept a_seen a_reader a_search a_deal a_line, oX0 a_board a_board_commons a_board_lengths a_board_parts a_board_likenesses f_board_wordCount f_board_likenessCount f_board_actorCount f_board_forbiddenBits f_board_habitTold f_board_priceTold, oX4 a_scene a_scene_cells, aI cI a_scene_cells 55 f_scene_cells, oX7 a_past a_past_rows f_past_most f_past_used, aI cI a_past_rows n_past_rows f_past_rows] [(0, .ref h), (1, .int x1), (2, .int x2)] 0 []
  refine g_aload_n (pl := 0) C dX8_show_0 rfl rfl ?_
  refine g_iload_n (pl := 1) C dX8_show_1 rfl rfl ?_
  obtain ⟨z1, e_z1, hs⟩ := vb_ok hs
  refine g_callV (ws' := [oX8 h a_letters f_length a_board a_draft a_scene a_trial a_past a_kept a_seen a_reader a_search a_deal a_line, oX0 a_board a_board_commons a_board_lengths a_board_parts a_board_likenesses f_board_wordCount f_board_likenessCount f_board_actorCount f_board_forbiddenBits f_board_habitTold f_board_priceTold, oX4 a_scene a_scene_cells, aI cI a_scene_cells 55 f_scene_cells, oX7 a_past a_past_rows f_past_most f_past_used, aI cI a_past_rows n_past_rows f_past_rows]) (rest := []) (st' := [.int z1]) C mX8_146 q2_228 [.int x1] (fun l D => cX8_isActor_ct l D cI h a_letters a_board a_draft a_scene a_trial a_past a_kept a_seen a_reader a_search a_deal a_line a_board_commons a_board_lengths a_board_parts a_board_likenesses f_length f_board_wordCount f_board_likenessCount f_board_actorCount f_board_forbiddenBits f_board_habitTold f_board_priceTold x1 e_z1) ⟨⟨rfl, rfl⟩, Nat.le_of_ble_eq_true rfl, Nat.le_of_ble_eq_true rfl⟩ 0 rfl rfl rfl [0, 1] rfl rfl rfl rfl rfl (Nat.le_of_ble_eq_true rfl) (Nat.zero_le _) (Nat.zero_le _) rfl dX8_show_2 ?_
  refine g_if_eq (tgt := 16) C dX8_show_5 (by decide) (fun c2 => ?_) (fun c2 => ?_)
  · replace hs := vi_t hs c2
    refine g_iconst (v := (-1)) C dX8_show_16 rfl ?_
    cases hs
    exact hR _ _ dX8_show_17
  · replace hs := vi_f hs c2
    refine g_aload_n (pl := 0) C dX8_show_8 rfl rfl ?_
    refine g_iload_n (pl := 2) C dX8_show_9 rfl rfl ?_
    obtain ⟨z3, e_z3, hs⟩ := vb_ok hs
    refine g_callV (ws' := [oX8 h a_letters f_length a_board a_draft a_scene a_trial a_past a_kept a_seen a_reader a_search a_deal a_line, oX0 a_board a_board_commons a_board_lengths a_board_parts a_board_likenesses f_board_wordCount f_board_likenessCount f_board_actorCount f_board_forbiddenBits f_board_habitTold f_board_priceTold, oX4 a_scene a_scene_cells, aI cI a_scene_cells 55 f_scene_cells, oX7 a_past a_past_rows f_past_most f_past_used, aI cI a_past_rows n_past_rows f_past_rows]) (rest := []) (st' := [.int z3]) C mX8_140 q2_212 [.int x2] (fun l D => cX8_isSign_ct l D cI h a_letters a_board a_draft a_scene a_trial a_past a_kept a_seen a_reader a_search a_deal a_line a_board_commons a_board_lengths a_board_parts a_board_likenesses f_length f_board_wordCount f_board_likenessCount f_board_actorCount f_board_forbiddenBits f_board_habitTold f_board_priceTold x2 e_z3) ⟨⟨rfl, rfl⟩, Nat.le_of_ble_eq_true rfl, Nat.le_of_ble_eq_true rfl⟩ 0 rfl rfl rfl [0, 1] rfl rfl rfl rfl rfl (Nat.le_of_ble_eq_true rfl) (Nat.zero_le _) (Nat.zero_le _) rfl dX8_show_10 ?_
    refine g_if_ne (tgt := 18) C dX8_show_13 (by decide) (fun c4 => ?_) (fun c4 => ?_)
    · replace hs := vi_f hs c4
      refine g_aload_n (pl := 0) C dX8_show_18 rfl rfl ?_
      refine g_get C fX8_26 0 rfl rfl dX8_show_19 ?_
      refine g_iload_n (pl := 1) C dX8_show_22 rfl rfl ?_
      obtain ⟨z5, e_z5, hs⟩ := vb_ok hs
      refine g_callV (ws' := [oX8 h a_letters f_length a_board a_draft a_scene a_trial a_past a_kept a_seen a_reader a_search a_deal a_line, oX0 a_board a_board_commons a_board_lengths a_board_parts a_board_likenesses f_board_wordCount f_board_likenessCount f_board_actorCount f_board_forbiddenBits f_board_habitTold f_board_priceTold, oX4 a_scene a_scene_cells, aI cI a_scene_cells 55 f_scene_cells, oX7 a_past a_past_rows f_past_most f_past_used, aI cI a_past_rows n_past_rows f_past_rows]) (rest := []) (st' := [.int z5]) C mX8_155 q3_9 [.int x1] (fun l D => cX4_canShow_ct l D cI a_scene a_scene_cells f_scene_cells x1 e_z5) ⟨⟨rfl, rfl⟩, Nat.le_of_ble_eq_true rfl, Nat.le_of_ble_eq_true rfl⟩ 2 rfl rfl rfl [2, 3] rfl rfl rfl rfl rfl (Nat.le_of_ble_eq_true rfl) (Nat.zero_le _) (Nat.zero_le _) rfl dX8_show_23 ?_
      refine g_if_ne (tgt := 32) C dX8_show_26 (by decide) (fun c6 => ?_) (fun c6 => ?_)
      · replace hs := vi_f hs c6
        refine g_aload_n (pl := 0) C dX8_show_32 rfl rfl ?_
        refine g_get C fX8_38 0 rfl rfl dX8_show_33 ?_
        refine g_aload_n (pl := 0) C dX8_show_36 rfl rfl ?_
        refine g_get C fX8_26 0 rfl rfl dX8_show_37 ?_
        obtain ⟨z7, e_z7, hs⟩ := vb_ok hs
        refine g_callV (ws' := [oX8 h a_letters f_length a_board a_draft a_scene a_trial a_past a_kept a_seen a_reader a_search a_deal a_line, oX0 a_board a_board_commons a_board_lengths a_board_parts a_board_likenesses f_board_wordCount f_board_likenessCount f_board_actorCount f_board_forbiddenBits f_board_habitTold f_board_priceTold, oX4 a_scene a_scene_cells, aI cI a_scene_cells 55 f_scene_cells, oX7 a_past a_past_rows f_past_most z7.2, aI cI a_past_rows n_past_rows z7.1]) (rest := []) (st' := []) C mX8_158 q3_17 [.ref a_scene] (fun l D => cX7_put_ct l D cI a_past a_past_rows a_scene a_scene_cells n_past_rows f_past_most f_past_used f_past_rows f_scene_cells e_z7) ⟨⟨rfl, rfl⟩, Nat.le_of_ble_eq_true rfl, Nat.le_of_ble_eq_true rfl⟩ 4 rfl rfl rfl [4, 5, 2, 3] rfl rfl rfl rfl rfl (Nat.le_of_ble_eq_true rfl) (Nat.zero_le _) (Nat.zero_le _) rfl dX8_show_40 ?_
        refine g_aload_n (pl := 0) C dX8_show_43 rfl rfl ?_
        refine g_aload_n (pl := 0) C dX8_show_44 rfl rfl ?_
        refine g_get C fX8_26 0 rfl rfl dX8_show_45 ?_
        refine g_iload_n (pl := 1) C dX8_show_48 rfl rfl ?_
        refine g_iload_n (pl := 2) C dX8_show_49 rfl rfl ?_
        obtain ⟨z8, e_z8, hs⟩ := vb_ok hs
        refine g_callV (ws' := [oX8 h a_letters f_length a_board a_draft a_scene a_trial a_past a_kept a_seen a_reader a_search a_deal a_line, oX0 a_board a_board_commons a_board_lengths a_board_parts a_board_likenesses f_board_wordCount f_board_likenessCount f_board_actorCount f_board_forbiddenBits f_board_habitTold f_board_priceTold, oX4 a_scene a_scene_cells, aI cI a_scene_cells 55 z8.2, oX7 a_past a_past_rows f_past_most z7.2, aI cI a_past_rows n_past_rows z7.1]) (rest := []) (st' := [.int z8.1]) C mX8_161 q3_22 [.ref a_scene, .int x1, .int x2] (fun l D => cX8_showSign_ct l D cI h a_letters a_board a_draft a_scene a_trial a_past a_kept a_seen a_reader a_search a_deal a_line a_board_commons a_board_lengths a_board_parts a_board_likenesses a_scene a_scene_cells f_length f_board_wordCount f_board_likenessCount f_board_actorCount f_board_forbiddenBits f_board_habitTold f_board_priceTold f_scene_cells x1 x2 e_z8) ⟨⟨rfl, rfl⟩, Nat.le_of_ble_eq_true rfl, Nat.le_of_ble_eq_true rfl⟩ 0 rfl rfl rfl [0, 1, 2, 3] rfl rfl rfl rfl rfl (Nat.le_of_ble_eq_true rfl) (Nat.zero_le _) (Nat.zero_le _) rfl dX8_show_50 ?_
        cases hs
        exact hR _ _ dX8_show_53
      · replace hs := vi_t hs c6
        refine g_bipush (v := (-2)) C dX8_show_29 rfl ?_
        cases hs
        exact hR _ _ dX8_show_31
    · replace hs := vi_t hs c4
      refine g_iconst (v := (-1)) C dX8_show_16 rfl ?_
      cases hs
      exact hR _ _ dX8_show_17
def sX8_guessWord (f_board_commons : Nat → Int32) (f_board_lengths : Nat → Int32) (f_board_parts : Nat → Int32) (f_board_likenesses : Nat → Int32) (f_board_wordCount : Int32) (f_board_habitTold : Int32) (f_board_priceTold : Int32) (f_p1_cells : Nat → Int32) (x2 : Int32) : Option (Int32 × (Nat → Int32)) :=
  vb (sX0_habit f_board_habitTold) fun z1 =>
  vb (sX0_heaviest f_board_commons f_board_lengths f_board_parts f_board_likenesses f_board_wordCount f_p1_cells x2 (nI 31) z1) fun z2 =>
  vi (z2 = (-4)) inferInstance (
    vb (sX4_set f_p1_cells x2 (nI 5) (nI 2)) fun z13 =>
    some (z2, z13)) (
    vb (sX4_cell f_p1_cells x2 (nI 1)) fun z4 =>
    vi (z2 = z4) inferInstance (
      vb (sX0_price f_board_priceTold) fun z6 =>
      vb (sX4_canPay f_p1_cells x2 z6 (nI 0)) fun z7 =>
      vi (z7 = 0) inferInstance (
        vb (sX4_set f_p1_cells x2 (nI 5) (nI 2)) fun z9 =>
        some (z2, z9)) (
        vb (sX0_price f_board_priceTold) fun z10 =>
        vb (sX4_payAndPass f_p1_cells x2 z10) fun z11 =>
        some (z2, z11))) (
      vb (sX4_addWrongGuess f_p1_cells x2 z2) fun z12 =>
      some (z2, z12)))
abbrev rmX8_guessWord : Room := { frames := 4, cells := 0, slots := 0, locals := 102 }
set_option maxHeartbeats 4000000 in
set_option maxRecDepth 100000 in
theorem cX8_guessWord_ct (l : Launch) (D : va_G) (cI : ClassId) (h : Nat) (a_letters : Nat) (a_board : Nat) (a_draft : Nat) (a_scene : Nat) (a_trial : Nat) (a_past : Nat) (a_kept : Nat) (a_seen : Nat) (a_reader : Nat) (a_search : Nat) (a_deal : Nat) (a_line : Nat) (a_board_commons : Nat) (a_board_lengths : Nat) (a_board_parts : Nat) (a_board_likenesses : Nat) (a_p1 : Nat) (a_p1_cells : Nat) (f_length : Int32) (f_board_wordCount : Int32) (f_board_likenessCount : Int32) (f_board_actorCount : Int32) (f_board_forbiddenBits : Int32) (f_board_habitTold : Int32) (f_board_priceTold : Int32) (f_board_commons : Nat → Int32) (f_board_lengths : Nat → Int32) (f_board_parts : Nat → Int32) (f_board_likenesses : Nat → Int32) (f_p1_cells : Nat → Int32) (x2 : Int32) {z : Int32 × (Nat → Int32)} (hs : sX8_guessWord f_board_commons f_board_lengths f_board_parts f_board_likenesses f_board_wordCount f_board_habitTold f_board_priceTold f_p1_cells x2 = some z) : ct l yX8_guessWord (.code yX8_guessWord cX8_guessWord 4 (some .int) :: gtb) rmX8_guessWord D cI [.ref h, .ref a_p1, .int x2] [oX8 h a_letters f_length a_board a_draft a_scene a_trial a_past a_kept a_seen a_reader a_search a_deal a_line, oX0 a_board a_board_commons a_board_lengths a_board_parts a_board_likenesses f_board_wordCount f_board_likenessCount f_board_actorCount f_board_forbiddenBits f_board_habitTold f_board_priceTold, aI cI a_board_commons 8 f_board_commons, aI cI a_board_lengths 8 f_board_lengths, aI cI a_board_parts 8 f_board_parts, aI cI a_board_likenesses 6 f_board_likenesses, oX4 a_p1 a_p1_cells, aI cI a_p1_cells 55 f_p1_cells] (some (.int z.1)) [oX8 h a_letters f_length a_board a_draft a_scene a_trial a_past a_kept a_seen a_reader a_search a_deal a_line, oX0 a_board a_board_commons a_board_lengths a_board_parts a_board_likenesses f_board_wordCount f_board_likenessCount f_board_actorCount f_board_forbiddenBits f_board_habitTold f_board_priceTold, aI cI a_board_commons 8 f_board_commons, aI cI a_board_lengths 8 f_board_lengths, aI cI a_board_parts 8 f_board_parts, aI cI a_board_likenesses 6 f_board_likenesses, oX4 a_p1 a_p1_cells, aI cI a_p1_cells 55 z.2] := by
  refine ct_ofI (own := RX8) (by decide +kernel) rfl (Nat.le_of_ble_eq_true rfl) (fun X C hD hR => ?_)
  unfold sX8_guessWord at hs
  show gg cI X 4 0 0 [oX8 h a_letters f_length a_board a_draft a_scene a_trial a_past a_kept a_seen a_reader a_search a_deal a_line, oX0 a_board a_board_commons a_board_lengths a_board_parts a_board_likenesses f_board_wordCount f_board_likenessCount f_board_actorCount f_board_forbiddenBits f_board_habitTold f_board_priceTold, aI cI a_board_commons 8 f_board_commons, aI cI a_board_lengths 8 f_board_lengths, aI cI a_board_parts 8 f_board_parts, aI cI a_board_likenesses 6 f_board_likenesses, oX4 a_p1 a_p1_cells, aI cI a_p1_cells 55 f_p1_cells] [(0, .ref h), (1, .ref a_p1), (2, .int x2)] 0 []
  refine g_aload_n (pl := 0) C dX8_guessWord_0 rfl rfl ?_
  refine g_get C fX8_16 0 rfl rfl dX8_guessWord_1 ?_
  refine g_aload_n (pl := 1) C dX8_guessWord_4 rfl rfl ?_
  refine g_iload_n (pl := 2) C dX8_guessWord_5 rfl rfl ?_
  refine g_bipush (v := (nI 31)) C dX8_guessWord_6 rfl ?_
  refine g_aload_n (pl := 0) C dX8_guessWord_8 rfl rfl ?_
  refine g_get C fX8_16 0 rfl rfl dX8_guessWord_9 ?_
  obtain ⟨z1, e_z1, hs⟩ := vb_ok hs
  refine g_callV (ws' := [oX8 h a_letters f_length a_board a_draft a_scene a_trial a_past a_kept a_seen a_reader a_search a_deal a_line, oX0 a_board a_board_commons a_board_lengths a_board_parts a_board_likenesses f_board_wordCount f_board_likenessCount f_board_actorCount f_board_forbiddenBits f_board_habitTold f_board_priceTold, aI cI a_board_commons 8 f_board_commons, aI cI a_board_lengths 8 f_board_lengths, aI cI a_board_parts 8 f_board_parts, aI cI a_board_likenesses 6 f_board_likenesses, oX4 a_p1 a_p1_cells, aI cI a_p1_cells 55 f_p1_cells]) (rest := [.int (nI 31), .int x2, .ref a_p1, .ref a_board]) (st' := [.int z1, .int (nI 31), .int x2, .ref a_p1, .ref a_board]) C mX8_186 q3_40 [] (fun l D => cX0_habit_ct l D cI a_board a_board_commons a_board_lengths a_board_parts a_board_likenesses f_board_wordCount f_board_likenessCount f_board_actorCount f_board_forbiddenBits f_board_habitTold f_board_priceTold e_z1) ⟨⟨rfl, rfl⟩, Nat.le_of_ble_eq_true rfl, Nat.le_of_ble_eq_true rfl⟩ 1 rfl rfl rfl [1] rfl rfl rfl rfl rfl (Nat.le_of_ble_eq_true rfl) (Nat.zero_le _) (Nat.zero_le _) rfl dX8_guessWord_12 ?_
  obtain ⟨z2, e_z2, hs⟩ := vb_ok hs
  refine g_callV (ws' := [oX8 h a_letters f_length a_board a_draft a_scene a_trial a_past a_kept a_seen a_reader a_search a_deal a_line, oX0 a_board a_board_commons a_board_lengths a_board_parts a_board_likenesses f_board_wordCount f_board_likenessCount f_board_actorCount f_board_forbiddenBits f_board_habitTold f_board_priceTold, aI cI a_board_commons 8 f_board_commons, aI cI a_board_lengths 8 f_board_lengths, aI cI a_board_parts 8 f_board_parts, aI cI a_board_likenesses 6 f_board_likenesses, oX4 a_p1 a_p1_cells, aI cI a_p1_cells 55 f_p1_cells]) (rest := []) (st' := [.int z2]) C mX8_193 q3_44 [.ref a_p1, .int x2, .int (nI 31), .int z1] (fun l D => cX0_heaviest_ct l D cI a_board a_board_commons a_board_lengths a_board_parts a_board_likenesses a_p1 a_p1_cells f_board_wordCount f_board_likenessCount f_board_actorCount f_board_forbiddenBits f_board_habitTold f_board_priceTold f_board_commons f_board_lengths f_board_parts f_board_likenesses f_p1_cells x2 (nI 31) z1 e_z2) ⟨⟨rfl, rfl⟩, Nat.le_of_ble_eq_true rfl, Nat.le_of_ble_eq_true rfl⟩ 1 rfl rfl rfl [1, 2, 3, 4, 5, 6, 7] rfl rfl rfl rfl rfl (Nat.le_of_ble_eq_true rfl) (Nat.zero_le _) (Nat.zero_le _) rfl dX8_guessWord_15 ?_
  refine g_istore_n (lv' := [(3, .int z2), (0, .ref h), (1, .ref a_p1), (2, .int x2)]) C dX8_guessWord_18 rfl (by decide) rfl ?_
  refine g_iload_n (pl := 0) C dX8_guessWord_19 rfl rfl ?_
  refine g_bipush (v := (-4)) C dX8_guessWord_20 rfl ?_
  refine g_icmp_ne (tgt := 35) C dX8_guessWord_22 (by decide) (fun c3 => ?_) (fun c3 => ?_)
  · replace hs := vi_f hs c3
    refine g_iload_n (pl := 0) C dX8_guessWord_35 rfl rfl ?_
    refine g_aload_n (pl := 2) C dX8_guessWord_36 rfl rfl ?_
    refine g_iload_n (pl := 3) C dX8_guessWord_37 rfl rfl ?_
    refine g_iconst (v := (nI 1)) C dX8_guessWord_38 rfl ?_
    obtain ⟨z4, e_z4, hs⟩ := vb_ok hs
    refine g_callV (ws' := [oX8 h a_letters f_length a_board a_draft a_scene a_trial a_past a_kept a_seen a_reader a_search a_deal a_line, oX0 a_board a_board_commons a_board_lengths a_board_parts a_board_likenesses f_board_wordCount f_board_likenessCount f_board_actorCount f_board_forbiddenBits f_board_habitTold f_board_priceTold, aI cI a_board_commons 8 f_board_commons, aI cI a_board_lengths 8 f_board_lengths, aI cI a_board_parts 8 f_board_parts, aI cI a_board_likenesses 6 f_board_likenesses, oX4 a_p1 a_p1_cells, aI cI a_p1_cells 55 f_p1_cells]) (rest := [.int z2]) (st' := [.int z4, .int z2]) C mX8_149 q2_232 [.int x2, .int (nI 1)] (fun l D => cX4_cell_ct l D cI a_p1 a_p1_cells f_p1_cells x2 (nI 1) e_z4) ⟨⟨rfl, rfl⟩, Nat.le_of_ble_eq_true rfl, Nat.le_of_ble_eq_true rfl⟩ 6 rfl rfl rfl [6, 7] rfl rfl rfl rfl rfl (Nat.le_of_ble_eq_true rfl) (Nat.zero_le _) (Nat.zero_le _) rfl dX8_guessWord_39 ?_
    refine g_icmp_eq (tgt := 54) C dX8_guessWord_42 (by decide) (fun c5 => ?_) (fun c5 => ?_)
    · replace hs := vi_t hs c5
      refine g_aload_n (pl := 2) C dX8_guessWord_54 rfl rfl ?_
      refine g_iload_n (pl := 3) C dX8_guessWord_55 rfl rfl ?_
      refine g_aload_n (pl := 1) C dX8_guessWord_56 rfl rfl ?_
      refine g_get C fX8_16 0 rfl rfl dX8_guessWord_57 ?_
      obtain ⟨z6, e_z6, hs⟩ := vb_ok hs
      refine g_callV (ws' := [oX8 h a_letters f_length a_board a_draft a_scene a_trial a_past a_kept a_seen a_reader a_search a_deal a_line, oX0 a_board a_board_commons a_board_lengths a_board_parts a_board_likenesses f_board_wordCount f_board_likenessCount f_board_actorCount f_board_forbiddenBits f_board_habitTold f_board_priceTold, aI cI a_board_commons 8 f_board_commons, aI cI a_board_lengths 8 f_board_lengths, aI cI a_board_parts 8 f_board_parts, aI cI a_board_likenesses 6 f_board_likenesses, oX4 a_p1 a_p1_cells, aI cI a_p1_cells 55 f_p1_cells]) (rest := [.int x2, .ref a_p1]) (st' := [.int z6, .int x2, .ref a_p1]) C mX8_252 q3_74 [] (fun l D => cX0_price_ct l D cI a_board a_board_commons a_board_lengths a_board_parts a_board_likenesses f_board_wordCount f_board_likenessCount f_board_actorCount f_board_forbiddenBits f_board_habitTold f_board_priceTold e_z6) ⟨⟨rfl, rfl⟩, Nat.le_of_ble_eq_true rfl, Nat.le_of_ble_eq_true rfl⟩ 1 rfl rfl rfl [1] rfl rfl rfl rfl rfl (Nat.le_of_ble_eq_true rfl) (Nat.zero_le _) (Nat.zero_le _) rfl dX8_guessWord_60 ?_
      refine g_iconst (v := (nI 0)) C dX8_guessWord_63 rfl ?_
      obtain ⟨z7, e_z7, hs⟩ := vb_ok hs
      refine g_callV (ws' := [oX8 h a_letters f_length a_board a_draft a_scene a_trial a_past a_kept a_seen a_reader a_search a_deal a_line, oX0 a_board a_board_commons a_board_lengths a_board_parts a_board_likenesses f_board_wordCount f_board_likenessCount f_board_actorCount f_board_forbiddenBits f_board_habitTold f_board_priceTold, aI cI a_board_commons 8 f_board_commons, aI cI a_board_lengths 8 f_board_lengths, aI cI a_board_parts 8 f_board_parts, aI cI a_board_likenesses 6 f_board_likenesses, oX4 a_p1 a_p1_cells, aI cI a_p1_cells 55 f_p1_cells]) (rest := []) (st' := [.int z7]) C mX8_255 q3_78 [.int x2, .int z6, .int (nI 0)] (fun l D => cX4_canPay_ct l D cI a_p1 a_p1_cells f_p1_cells x2 z6 (nI 0) e_z7) ⟨⟨rfl, rfl⟩, Nat.le_of_ble_eq_true rfl, Nat.le_of_ble_eq_true rfl⟩ 6 rfl rfl rfl [6, 7] rfl rfl rfl rfl rfl (Nat.le_of_ble_eq_true rfl) (Nat.zero_le _) (Nat.zero_le _) rfl dX8_guessWord_64 ?_
      refine g_if_eq (tgt := 85) C dX8_guessWord_67 (by decide) (fun c8 => ?_) (fun c8 => ?_)
      · replace hs := vi_t hs c8
        refine g_aload_n (pl := 2) C dX8_guessWord_85 rfl rfl ?_
        refine g_iload_n (pl := 3) C dX8_guessWord_86 rfl rfl ?_
        refine g_iconst (v := (nI 5)) C dX8_guessWord_87 rfl ?_
        refine g_iconst (v := (nI 2)) C dX8_guessWord_88 rfl ?_
        obtain ⟨z9, e_z9, hs⟩ := vb_ok hs
        refine g_callV (ws' := [oX8 h a_letters f_length a_board a_draft a_scene a_trial a_past a_kept a_seen a_reader a_search a_deal a_line, oX0 a_board a_board_commons a_board_lengths a_board_parts a_board_likenesses f_board_wordCount f_board_likenessCount f_board_actorCount f_board_forbiddenBits f_board_habitTold f_board_priceTold, aI cI a_board_commons 8 f_board_commons, aI cI a_board_lengths 8 f_board_lengths, aI cI a_board_parts 8 f_board_parts, aI cI a_board_likenesses 6 f_board_likenesses, oX4 a_p1 a_p1_cells, aI cI a_p1_cells 55 z9]) (rest := []) (st' := []) C mX8_175 q2_105 [.int x2, .int (nI 5), .int (nI 2)] (fun l D => cX4_set_ct l D cI a_p1 a_p1_cells f_p1_cells x2 (nI 5) (nI 2) e_z9) ⟨⟨rfl, rfl⟩, Nat.le_of_ble_eq_true rfl, Nat.le_of_ble_eq_true rfl⟩ 6 rfl rfl rfl [6, 7] rfl rfl rfl rfl rfl (Nat.le_of_ble_eq_true rfl) (Nat.zero_le _) (Nat.zero_le _) rfl dX8_guessWord_89 ?_
        refine g_iload_n (pl := 0) C dX8_guessWord_92 rfl rfl ?_
        cases hs
        exact hR _ _ dX8_guessWord_93
      · replace hs := vi_f hs c8
        refine g_aload_n (pl := 2) C dX8_guessWord_70 rfl rfl ?_
        refine g_iload_n (pl := 3) C dX8_guessWord_71 rfl rfl ?_
        refine g_aload_n (pl := 1) C dX8_guessWord_72 rfl rfl ?_
        refine g_get C fX8_16 0 rfl rfl dX8_guessWord_73 ?_
        obtain ⟨z10, e_z10, hs⟩ := vb_ok hs
        refine g_callV (ws' := [oX8 h a_letters f_length a_board a_draft a_scene a_trial a_past a_kept a_seen a_reader a_search a_deal a_line, oX0 a_board a_board_commons a_board_lengths a_board_parts a_board_likenesses f_board_wordCount f_board_likenessCount f_board_actorCount f_board_forbiddenBits f_board_habitTold f_board_priceTold, aI cI a_board_commons 8 f_board_commons, aI cI a_board_lengths 8 f_board_lengths, aI cI a_board_parts 8 f_board_parts, aI cI a_board_likenesses 6 f_board_likenesses, oX4 a_p1 a_p1_cells, aI cI a_p1_cells 55 f_p1_cells]) (rest := [.int x2, .ref a_p1]) (st' := [.int z10, .int x2, .ref a_p1]) C mX8_252 q3_74 [] (fun l D => cX0_price_ct l D cI a_board a_board_commons a_board_lengths a_board_parts a_board_likenesses f_board_wordCount f_board_likenessCount f_board_actorCount f_board_forbiddenBits f_board_habitTold f_board_priceTold e_z10) ⟨⟨rfl, rfl⟩, Nat.le_of_ble_eq_true rfl, Nat.le_of_ble_eq_true rfl⟩ 1 rfl rfl rfl [1] rfl rfl rfl rfl rfl (Nat.le_of_ble_eq_true rfl) (Nat.zero_le _) (Nat.zero_le _) rfl dX8_guessWord_76 ?_
        obtain ⟨z11, e_z11, hs⟩ := vb_ok hs
        refine g_callV (ws' := [oX8 h a_letters f_length a_board a_draft a_scene a_trial a_past a_kept a_seen a_reader a_search a_deal a_line, oX0 a_board a_board_commons a_board_lengths a_board_parts a_board_likenesses f_board_wordCount f_board_likenessCount f_board_actorCount f_board_forbiddenBits f_board_habitTold f_board_priceTold, aI cI a_board_commons 8 f_board_commons, aI cI a_board_lengths 8 f_board_lengths, aI cI a_board_parts 8 f_board_parts, aI cI a_board_likenesses 6 f_board_likenesses, oX4 a_p1 a_p1_cells, aI cI a_p1_cells 55 z11]) (rest := []) (st' := []) C mX8_290 q3_82 [.int x2, .int z10] (fun l D => cX4_payAndPass_ct l D cI a_p1 a_p1_cells f_p1_cells x2 z10 e_z11) ⟨⟨rfl, rfl⟩, Nat.le_of_ble_eq_true rfl, Nat.le_of_ble_eq_true rfl⟩ 6 rfl rfl rfl [6, 7] rfl rfl rfl rfl rfl (Nat.le_of_ble_eq_true rfl) (Nat.zero_le _) (Nat.zero_le _) rfl dX8_guessWord_79 ?_
        refine g_goto (tgt := 92) C dX8_guessWord_82 (by decide) ?_
        refine g_iload_n (pl := 0) C dX8_guessWord_92 rfl rfl ?_
        cases hs
        exact hR _ _ dX8_guessWord_93
    · replace hs := vi_f hs c5
      refine g_aload_n (pl := 2) C dX8_guessWord_45 rfl rfl ?_
      refine g_iload_n (pl := 3) C dX8_guessWord_46 rfl rfl ?_
      refine g_iload_n (pl := 0) C dX8_guessWord_47 rfl rfl ?_
      obtain ⟨z12, e_z12, hs⟩ := vb_ok hs
      refine g_callV (ws' := [oX8 h a_letters f_length a_board a_draft a_scene a_trial a_past a_kept a_seen a_reader a_search a_deal a_line, oX0 a_board a_board_commons a_board_lengths a_board_parts a_board_likenesses f_board_wordCount f_board_likenessCount f_board_actorCount f_board_forbiddenBits f_board_habitTold f_board_priceTold, aI cI a_board_commons 8 f_board_commons, aI cI a_board_lengths 8 f_board_lengths, aI cI a_board_parts 8 f_board_parts, aI cI a_board_likenesses 6 f_board_likenesses, oX4 a_p1 a_p1_cells, aI cI a_p1_cells 55 z12]) (rest := []) (st' := []) C mX8_287 q3_64 [.int x2, .int z2] (fun l D => cX4_addWrongGuess_ct l D cI a_p1 a_p1_cells f_p1_cells x2 z2 e_z12) ⟨⟨rfl, rfl⟩, Nat.le_of_ble_eq_true rfl, Nat.le_of_ble_eq_true rfl⟩ 6 rfl rfl rfl [6, 7] rfl rfl rfl rfl rfl (Nat.le_of_ble_eq_true rfl) (Nat.zero_le _) (Nat.zero_le _) rfl dX8_guessWord_48 ?_
      refine g_goto (tgt := 92) C dX8_guessWord_51 (by decide) ?_
      refine g_iload_n (pl := 0) C dX8_guessWord_92 rfl rfl ?_
      cases hs
      exact hR _ _ dX8_guessWord_93
  · replace hs := vi_t hs c3
    refine g_aload_n (pl := 2) C dX8_guessWord_25 rfl rfl ?_
    refine g_iload_n (pl := 3) C dX8_guessWord_26 rfl rfl ?_
    refine g_iconst (v := (nI 5)) C dX8_guessWord_27 rfl ?_
    refine g_iconst (v := (nI 2)) C dX8_guessWord_28 rfl ?_
    obtain ⟨z13, e_z13, hs⟩ := vb_ok hs
    refine g_callV (ws' := [oX8 h a_letters f_length a_board a_draft a_scene a_trial a_past a_kept a_seen a_reader a_search a_deal a_line, oX0 a_board a_board_commons a_board_lengths a_board_parts a_board_likenesses f_board_wordCount f_board_likenessCount f_board_actorCount f_board_forbiddenBits f_board_habitTold f_board_priceTold, aI cI a_board_commons 8 f_board_commons, aI cI a_board_lengths 8 f_board_lengths, aI cI a_board_parts 8 f_board_parts, aI cI a_board_likenesses 6 f_board_likenesses, oX4 a_p1 a_p1_cells, aI cI a_p1_cells 55 z13]) (rest := []) (st' := []) C mX8_175 q2_105 [.int x2, .int (nI 5), .int (nI 2)] (fun l D => cX4_set_ct l D cI a_p1 a_p1_cells f_p1_cells x2 (nI 5) (nI 2) e_z13) ⟨⟨rfl, rfl⟩, Nat.le_of_ble_eq_true rfl, Nat.le_of_ble_eq_true rfl⟩ 6 rfl rfl rfl [6, 7] rfl rfl rfl rfl rfl (Nat.le_of_ble_eq_true rfl) (Nat.zero_le _) (Nat.zero_le _) rfl dX8_guessWord_29 ?_
    refine g_goto (tgt := 92) C dX8_guessWord_32 (by decide) ?_
    refine g_iload_n (pl := 0) C dX8_guessWord_92 rfl rfl ?_
    cases hs
    exact hR _ _ dX8_guessWord_93
def sX8_guess (n_past_rows : Nat) (f_board_commons : Nat → Int32) (f_board_lengths : Nat → Int32) (f_board_parts : Nat → Int32) (f_board_likenesses : Nat → Int32) (f_board_wordCount : Int32) (f_board_actorCount : Int32) (f_board_habitTold : Int32) (f_board_priceTold : Int32) (f_scene_cells : Nat → Int32) (f_past_rows : Nat → Int32) (f_past_most : Int32) (f_past_used : Int32) (x1 : Int32) : Option (Int32 × (Nat → Int32) × (Nat → Int32) × Int32) :=
  vb (sX8_isActor f_board_actorCount x1) fun z1 =>
  vi (z1 = 0) inferInstance (
    some ((-1), f_scene_cells, f_past_rows, f_past_used)) (
    vb (sX4_waits f_scene_cells x1) fun z3 =>
    vi (z3 = 0) inferInstance (
      some ((-2), f_scene_cells, f_past_rows, f_past_used)) (
      vb (sX7_put n_past_rows f_past_rows f_past_most f_past_used f_scene_cells) fun z5 =>
      vb (sX8_guessWord f_board_commons f_board_lengths f_board_parts f_board_likenesses f_board_wordCount f_board_habitTold f_board_priceTold f_scene_cells x1) fun z6 =>
      some (z6.1, z6.2, z5.1, z5.2)))
abbrev rmX8_guess : Room := { frames := 5, cells := 0, slots := 0, locals := 125 }
set_option maxHeartbeats 4000000 in
set_option maxRecDepth 100000 in
theorem cX8_guess_ct (l : Launch) (D : va_G) (cI : ClassId) (h : Nat) (a_letters : Nat) (a_board : Nat) (a_draft : Nat) (a_scene : Nat) (a_trial : Nat) (a_past : Nat) (a_kept : Nat) (a_seen : Nat) (a_reader : Nat) (a_search : Nat) (a_deal : Nat) (a_line : Nat) (a_board_commons : Nat) (a_board_lengths : Nat) (a_board_parts : Nat) (a_board_likenesses : Nat) (a_scene_cells : Nat) (a_past_rows : Nat) (n_past_rows : Nat) (f_length : Int32) (f_board_wordCount : Int32) (f_board_likenessCount : Int32) (f_board_actorCount : Int32) (f_board_forbiddenBits : Int32) (f_board_habitTold : Int32) (f_board_priceTold : Int32) (f_board_commons : Nat → Int32) (f_board_lengths : Nat → Int32) (f_board_parts : Nat → Int32) (f_board_likenesses : Nat → Int32) (f_scene_cells : Nat → Int32) (f_past_most : Int32) (f_past_used : Int32) (f_past_rows : Nat → Int32) (x1 : Int32) {z : Int32 × (Nat → Int32) × (Nat → Int32) × Int32} (hs : sX8_guess n_past_rows f_board_commons f_board_lengths f_board_parts f_board_likenesses f_board_wordCount f_board_actorCount f_board_habitTold f_board_priceTold f_scene_cells f_past_rows f_past_most f_past_used x1 = some z) : ct l yX8_guess (.code yX8_guess cX8_guess 2 (some .int) :: gtb) rmX8_guess D cI [.ref h, .int x1] [oX8 h a_letters f_length a_board a_draft a_scene a_trial a_past a_kept a_seen a_reader a_search a_deal a_line, oX0 a_board a_board_commons a_board_lengths a_board_parts a_board_likenesses f_board_wordCount f_board_likenessCount f_board_actorCount f_board_forbiddenBits f_board_habitTold f_board_priceTold, aI cI a_board_commons 8 f_board_commons, aI cI a_board_lengths 8 f_board_lengths, aI cI a_board_parts 8 f_board_parts, aI cI a_board_likenesses 6 f_board_likenesses, oX4 a_scene a_scene_cells, aI cI a_scene_cells 55 f_scene_cells, oX7 a_past a_past_rows f_past_most f_past_used, aI cI a_past_rows n_past_rows f_past_rows] (some (.int z.1)) [oX8 h a_letters f_length a_board a_draft a_scene a_trial a_past a_kept a_seen a_reader a_search a_deal a_line, oX0 a_board a_board_commons a_board_lengths a_board_parts a_board_likenesses f_board_wordCount f_board_likenessCount f_board_actorCount f_board_forbiddenBits f_board_habitTold f_board_priceTold, aI cI a_board_commons 8 f_board_commons, aI cI a_board_lengths 8 f_board_lengths, aI cI a_board_parts 8 f_board_parts, aI cI a_board_likenesses 6 f_board_likenesses, oX4 a_scene a_scene_cells, aI cI a_scene_cells 55 z.2.1, oX7 a_past a_past_rows f_past_most z.2.2.2, aI cI a_past_rows n_past_rows z.2.2.1] := by
  refine ct_ofI (own := RX8) (by decide +kernel) rfl (Nat.le_of_ble_eq_true rfl) (fun X C hD hR => ?_)
  unfold sX8_guess at hs
  show gg cI X 2 0 0 [oX8 h a_letters f_length a_board a_draft a_scene a_trial a_past a_kept a_seen a_reader a_search a_deal a_line, oX0 a_board a_board_commons a_board_lengths a_board_parts a_board_likenesses f_board_wordCount f_board_likenessCount f_board_actorCount f_board_forbiddenBits f_board_habitTold f_board_priceTold, aI cI a_board_commons 8 f_board_commons, aI cI a_board_lengths 8 f_board_lengths, aI cI a_board_parts 8 f_board_parts, aI cI a_board_likenesses 6 f_board_likenesses, oX4 a_scene a_scene_cells, aI cI a_scene_cells 55 f_scene_cells, oX7 a_past a_past_rows f_past_most f_past_used, aI cI a_past_rows n_past_rows f_past_rows] [(0, .ref h), (1, .int x1)] 0 []
  refine g_aload_n (pl := 0) C dX8_guess_0 rfl rfl ?_
  refine g_iload_n (pl := 1) C dX8_guess_1 rfl rfl ?_
  obtain ⟨z1, e_z1, hs⟩ := vb_ok hs
  refine g_callV (ws' := [oX8 h a_letters f_length a_board a_draft a_scene a_trial a_past a_kept a_seen a_reader a_search a_deal a_line, oX0 a_board a_board_commons a_board_lengths a_board_parts a_board_likenesses f_board_wordCount f_board_likenessCount f_board_actorCount f_board_forbiddenBits f_board_habitTold f_board_priceTold, aI cI a_board_commons 8 f_board_commons, aI cI a_board_lengths 8 f_board_lengths, aI cI a_board_parts 8 f_board_parts, aI cI a_board_likenesses 6 f_board_likenesses, oX4 a_scene a_scene_cells, aI cI a_scene_cells 55 f_scene_cells, oX7 a_past a_past_rows f_past_most f_past_used, aI cI a_past_rows n_past_rows f_past_rows]) (rest := []) (st' := [.int z1]) C mX8_146 q2_228 [.int x1] (fun l D => cX8_isActor_ct l D cI h a_letters a_board a_draft a_scene a_trial a_past a_kept a_seen a_reader a_search a_deal a_line a_board_commons a_board_lengths a_board_parts a_board_likenesses f_length f_board_wordCount f_board_likenessCount f_board_actorCount f_board_forbiddenBits f_board_habitTold f_board_priceTold x1 e_z1) ⟨⟨rfl, rfl⟩, Nat.le_of_ble_eq_true rfl, Nat.le_of_ble_eq_true rfl⟩ 0 rfl rfl rfl [0, 1] rfl rfl rfl rfl rfl (Nat.le_of_ble_eq_true rfl) (Nat.zero_le _) (Nat.zero_le _) rfl dX8_guess_2 ?_
  refine g_if_ne (tgt := 10) C dX8_guess_5 (by decide) (fun c2 => ?_) (fun c2 => ?_)
  · replace hs := vi_f hs c2
    refine g_aload_n (pl := 0) C dX8_guess_10 rfl rfl ?_
    refine g_get C fX8_26 0 rfl rfl dX8_guess_11 ?_
    refine g_iload_n (pl := 1) C dX8_guess_14 rfl rfl ?_
    obtain ⟨z3, e_z3, hs⟩ := vb_ok hs
    refine g_callV (ws' := [oX8 h a_letters f_length a_board a_draft a_scene a_trial a_past a_kept a_seen a_reader a_search a_deal a_line, oX0 a_board a_board_commons a_board_lengths a_board_parts a_board_likenesses f_board_wordCount f_board_likenessCount f_board_actorCount f_board_forbiddenBits f_board_habitTold f_board_priceTold, aI cI a_board_commons 8 f_board_commons, aI cI a_board_lengths 8 f_board_lengths, aI cI a_board_parts 8 f_board_parts, aI cI a_board_likenesses 6 f_board_likenesses, oX4 a_scene a_scene_cells, aI cI a_scene_cells 55 f_scene_cells, oX7 a_past a_past_rows f_past_most f_past_used, aI cI a_past_rows n_past_rows f_past_rows]) (rest := []) (st' := [.int z3]) C mX8_165 q3_13 [.int x1] (fun l D => cX4_waits_ct l D cI a_scene a_scene_cells f_scene_cells x1 e_z3) ⟨⟨rfl, rfl⟩, Nat.le_of_ble_eq_true rfl, Nat.le_of_ble_eq_true rfl⟩ 6 rfl rfl rfl [6, 7] rfl rfl rfl rfl rfl (Nat.le_of_ble_eq_true rfl) (Nat.zero_le _) (Nat.zero_le _) rfl dX8_guess_15 ?_
    refine g_if_ne (tgt := 24) C dX8_guess_18 (by decide) (fun c4 => ?_) (fun c4 => ?_)
    · replace hs := vi_f hs c4
      refine g_aload_n (pl := 0) C dX8_guess_24 rfl rfl ?_
      refine g_get C fX8_38 0 rfl rfl dX8_guess_25 ?_
      refine g_aload_n (pl := 0) C dX8_guess_28 rfl rfl ?_
      refine g_get C fX8_26 0 rfl rfl dX8_guess_29 ?_
      obtain ⟨z5, e_z5, hs⟩ := vb_ok hs
      refine g_callV (ws' := [oX8 h a_letters f_length a_board a_draft a_scene a_trial a_past a_kept a_seen a_reader a_search a_deal a_line, oX0 a_board a_board_commons a_board_lengths a_board_parts a_board_likenesses f_board_wordCount f_board_likenessCount f_board_actorCount f_board_forbiddenBits f_board_habitTold f_board_priceTold, aI cI a_board_commons 8 f_board_commons, aI cI a_board_lengths 8 f_board_lengths, aI cI a_board_parts 8 f_board_parts, aI cI a_board_likenesses 6 f_board_likenesses, oX4 a_scene a_scene_cells, aI cI a_scene_cells 55 f_scene_cells, oX7 a_past a_past_rows f_past_most z5.2, aI cI a_past_rows n_past_rows z5.1]) (rest := []) (st' := []) C mX8_158 q3_17 [.ref a_scene] (fun l D => cX7_put_ct l D cI a_past a_past_rows a_scene a_scene_cells n_past_rows f_past_most f_past_used f_past_rows f_scene_cells e_z5) ⟨⟨rfl, rfl⟩, Nat.le_of_ble_eq_true rfl, Nat.le_of_ble_eq_true rfl⟩ 8 rfl rfl rfl [8, 9, 6, 7] rfl rfl rfl rfl rfl (Nat.le_of_ble_eq_true rfl) (Nat.zero_le _) (Nat.zero_le _) rfl dX8_guess_32 ?_
      refine g_aload_n (pl := 0) C dX8_guess_35 rfl rfl ?_
      refine g_aload_n (pl := 0) C dX8_guess_36 rfl rfl ?_
      refine g_get C fX8_26 0 rfl rfl dX8_guess_37 ?_
      refine g_iload_n (pl := 1) C dX8_guess_40 rfl rfl ?_
      obtain ⟨z6, e_z6, hs⟩ := vb_ok hs
      refine g_callV (ws' := [oX8 h a_letters f_length a_board a_draft a_scene a_trial a_past a_kept a_seen a_reader a_search a_deal a_line, oX0 a_board a_board_commons a_board_lengths a_board_parts a_board_likenesses f_board_wordCount f_board_likenessCount f_board_actorCount f_board_forbiddenBits f_board_habitTold f_board_priceTold, aI cI a_board_commons 8 f_board_commons, aI cI a_board_lengths 8 f_board_lengths, aI cI a_board_parts 8 f_board_parts, aI cI a_board_likenesses 6 f_board_likenesses, oX4 a_scene a_scene_cells, aI cI a_scene_cells 55 z6.2, oX7 a_past a_past_rows f_past_most z5.2, aI cI a_past_rows n_past_rows z5.1]) (rest := []) (st' := [.int z6.1]) C mX8_168 q3_36 [.ref a_scene, .int x1] (fun l D => cX8_guessWord_ct l D cI h a_letters a_board a_draft a_scene a_trial a_past a_kept a_seen a_reader a_search a_deal a_line a_board_commons a_board_lengths a_board_parts a_board_likenesses a_scene a_scene_cells f_length f_board_wordCount f_board_likenessCount f_board_actorCount f_board_forbiddenBits f_board_habitTold f_board_priceTold f_board_commons f_board_lengths f_board_parts f_board_likenesses f_scene_cells x1 e_z6) ⟨⟨rfl, rfl⟩, Nat.le_of_ble_eq_true rfl, Nat.le_of_ble_eq_true rfl⟩ 0 rfl rfl rfl [0, 1, 2, 3, 4, 5, 6, 7] rfl rfl rfl rfl rfl (Nat.le_of_ble_eq_true rfl) (Nat.zero_le _) (Nat.zero_le _) rfl dX8_guess_41 ?_
      cases hs
      exact hR _ _ dX8_guess_44
    · replace hs := vi_t hs c4
      refine g_bipush (v := (-2)) C dX8_guess_21 rfl ?_
      cases hs
      exact hR _ _ dX8_guess_23
  · replace hs := vi_t hs c2
    refine g_iconst (v := (-1)) C dX8_guess_8 rfl ?_
    cases hs
    exact hR _ _ dX8_guess_9
def sX8_change (n_past_rows : Nat) (f_board_actorCount : Int32) (f_scene_cells : Nat → Int32) (f_past_rows : Nat → Int32) (f_past_most : Int32) (f_past_used : Int32) (x1 : Int32) (x2 : Int32) : Option (Int32 × (Nat → Int32) × (Nat → Int32) × Int32) :=
  vb (sX8_isActor f_board_actorCount x1) fun z1 =>
  vi (z1 = 0) inferInstance (
    some ((-1), f_scene_cells, f_past_rows, f_past_used)) (
    vb (sX8_isActor f_board_actorCount x2) fun z3 =>
    vi (z3 = 0) inferInstance (
      some ((-1), f_scene_cells, f_past_rows, f_past_used)) (
      vi (x1 = x2) inferInstance (
        some ((-1), f_scene_cells, f_past_rows, f_past_used)) (
        vb (sX4_isFresh f_scene_cells x1) fun z6 =>
        vi (z6 = 0) inferInstance (
          some ((-2), f_scene_cells, f_past_rows, f_past_used)) (
          vb (sX4_isFresh f_scene_cells x2) fun z8 =>
          vi (z8 = 0) inferInstance (
            some ((-2), f_scene_cells, f_past_rows, f_past_used)) (
            vb (sX7_put n_past_rows f_past_rows f_past_most f_past_used f_scene_cells) fun z10 =>
            vb (sX4_cell f_scene_cells x1 (nI 1)) fun z11 =>
            vb (sX4_cell f_scene_cells x2 (nI 1)) fun z12 =>
            vb (sX4_set f_scene_cells x1 (nI 1) z12) fun z13 =>
            vb (sX4_set z13 x2 (nI 1) z11) fun z14 =>
            vb (sX4_cell z14 x1 (nI 1)) fun z15 =>
            some (z15, z14, z10.1, z10.2))))))
abbrev rmX8_change : Room := { frames := 3, cells := 0, slots := 0, locals := 65 }
set_option maxHeartbeats 4000000 in
set_option maxRecDepth 100000 in
theorem cX8_change_ct (l : Launch) (D : va_G) (cI : ClassId) (h : Nat) (a_letters : Nat) (a_board : Nat) (a_draft : Nat) (a_scene : Nat) (a_trial : Nat) (a_past : Nat) (a_kept : Nat) (a_seen : Nat) (a_reader : Nat) (a_search : Nat) (a_deal : Nat) (a_line : Nat) (a_board_commons : Nat) (a_board_lengths : Nat) (a_board_parts : Nat) (a_board_likenesses : Nat) (a_scene_cells : Nat) (a_past_rows : Nat) (n_past_rows : Nat) (f_length : Int32) (f_board_wordCount : Int32) (f_board_likenessCount : Int32) (f_board_actorCount : Int32) (f_board_forbiddenBits : Int32) (f_board_habitTold : Int32) (f_board_priceTold : Int32) (f_scene_cells : Nat → Int32) (f_past_most : Int32) (f_past_used : Int32) (f_past_rows : Nat → Int32) (x1 : Int32) (x2 : Int32) {z : Int32 × (Nat → Int32) × (Nat → Int32) × Int32} (hs : sX8_change n_past_rows f_board_actorCount f_scene_cells f_past_rows f_past_most f_past_used x1 x2 = some z) : ct l yX8_change (.code yX8_change cX8_change 4 (some .int) :: gtb) rmX8_change D cI [.ref h, .int x1, .int x2] [oX8 h a_letters f_length a_board a_draft a_scene a_trial a_past a_kept a_seen a_reader a_search a_deal a_line, oX0 a_board a_board_commons a_board_lengths a_board_parts a_board_likenesses f_board_wordCount f_board_likenessCount f_board_actorCount f_board_forbiddenBits f_board_habitTold f_board_priceTold, oX4 a_scene a_scene_cells, aI cI a_scene_cells 55 f_scene_cells, oX7 a_past a_past_rows f_past_most f_past_used, aI cI a_past_rows n_past_rows f_past_rows] (some (.int z.1)) [oX8 h a_letters f_length a_board a_draft a_scene a_trial a_past a_kept a_seen a_reader a_search a_deal a_line, oX0 a_board a_board_commons a_board_lengths a_board_parts a_board_likenesses f_board_wordCount f_board_likenessCount f_board_actorCount f_board_forbiddenBits f_board_habitTold f_board_priceTold, oX4 a_scene a_scene_cells, aI cI a_scene_cells 55 z.2.1, oX7 a_past a_past_rows f_past_most z.2.2.2, aI cI a_past_rows n_past_rows z.2.2.1] := by
  refine ct_ofI (own := RX8) (by decide +kernel) rfl (Nat.le_of_ble_eq_true rfl) (fun X C hD hR => ?_)
  unfold sX8_change at hs
  show gg cI X 4 0 0 [oX8 h a_letters f_length a_board a_draft a_scene a_trial a_past a_kept a_seen a_reader a_search a_deal a_line, oX0 a_board a_board_commons a_board_lengths a_board_parts a_board_likenesses f_board_wordCount f_board_likenessCount f_board_actorCount f_board_forbiddenBits f_board_habitTold f_board_priceTold, oX4 a_scene a_scene_cells, aI cI a_scene_cells 55 f_scene_cells, oX7 a_past a_past_rows f_past_most f_past_used, aI cI a_past_rows n_past_rows f_past_rows] [(0, .ref h), (1, .int x1), (2, .int x2)] 0 []
  refine g_aload_n (pl := 0) C dX8_change_0 rfl rfl ?_
  refine g_iload_n (pl := 1) C dX8_change_1 rfl rfl ?_
  obtain ⟨z1, e_z1, hs⟩ := vb_ok hs
  refine g_callV (ws' := [oX8 h a_letters f_length a_board a_draft a_scene a_trial a_past a_kept a_seen a_reader a_search a_deal a_line, oX0 a_board a_board_commons a_board_lengths a_board_parts a_board_likenesses f_board_wordCount f_board_likenessCount f_board_actorCount f_board_forbiddenBits f_board_habitTold f_board_priceTold, oX4 a_scene a_scene_cells, aI cI a_scene_cells 55 f_scene_cells, oX7 a_past a_past_rows f_past_most f_past_used, aI cI a_past_rows n_past_rows f_past_rows]) (rest := []) (st' := [.int z1]) C mX8_146 q2_228 [.int x1] (fun l D => cX8_isActor_ct l D cI h a_letters a_board a_draft a_scene a_trial a_past a_kept a_seen a_reader a_search a_deal a_line a_board_commons a_board_lengths a_board_parts a_board_likenesses f_length f_board_wordCount f_board_likenessCount f_board_actorCount f_board_forbiddenBits f_board_habitTold f_board_priceTold x1 e_z1) ⟨⟨rfl, rfl⟩, Nat.le_of_ble_eq_true rfl, Nat.le_of_ble_eq_true rfl⟩ 0 rfl rfl rfl [0, 1] rfl rfl rfl rfl rfl (Nat.le_of_ble_eq_true rfl) (Nat.zero_le _) (Nat.zero_le _) rfl dX8_change_2 ?_
  refine g_if_eq (tgt := 21) C dX8_change_5 (by decide) (fun c2 => ?_) (fun c2 => ?_)
  · replace hs := vi_t hs c2
    refine g_iconst (v := (-1)) C dX8_change_21 rfl ?_
    cases hs
    exact hR _ _ dX8_change_22
  · replace hs := vi_f hs c2
    refine g_aload_n (pl := 0) C dX8_change_8 rfl rfl ?_
    refine g_iload_n (pl := 2) C dX8_change_9 rfl rfl ?_
    obtain ⟨z3, e_z3, hs⟩ := vb_ok hs
    refine g_callV (ws' := [oX8 h a_letters f_length a_board a_draft a_scene a_trial a_past a_kept a_seen a_reader a_search a_deal a_line, oX0 a_board a_board_commons a_board_lengths a_board_parts a_board_likenesses f_board_wordCount f_board_likenessCount f_board_actorCount f_board_forbiddenBits f_board_habitTold f_board_priceTold, oX4 a_scene a_scene_cells, aI cI a_scene_cells 55 f_scene_cells, oX7 a_past a_past_rows f_past_most f_past_used, aI cI a_past_rows n_past_rows f_past_rows]) (rest := []) (st' := [.int z3]) C mX8_146 q2_228 [.int x2] (fun l D => cX8_isActor_ct l D cI h a_letters a_board a_draft a_scene a_trial a_past a_kept a_seen a_reader a_search a_deal a_line a_board_commons a_board_lengths a_board_parts a_board_likenesses f_length f_board_wordCount f_board_likenessCount f_board_actorCount f_board_forbiddenBits f_board_habitTold f_board_priceTold x2 e_z3) ⟨⟨rfl, rfl⟩, Nat.le_of_ble_eq_true rfl, Nat.le_of_ble_eq_true rfl⟩ 0 rfl rfl rfl [0, 1] rfl rfl rfl rfl rfl (Nat.le_of_ble_eq_true rfl) (Nat.zero_le _) (Nat.zero_le _) rfl dX8_change_10 ?_
    refine g_if_eq (tgt := 21) C dX8_change_13 (by decide) (fun c4 => ?_) (fun c4 => ?_)
    · replace hs := vi_t hs c4
      refine g_iconst (v := (-1)) C dX8_change_21 rfl ?_
      cases hs
      exact hR _ _ dX8_change_22
    · replace hs := vi_f hs c4
      refine g_iload_n (pl := 1) C dX8_change_16 rfl rfl ?_
      refine g_iload_n (pl := 2) C dX8_change_17 rfl rfl ?_
      refine g_icmp_ne (tgt := 23) C dX8_change_18 (by decide) (fun c5 => ?_) (fun c5 => ?_)
      · replace hs := vi_f hs c5
        refine g_aload_n (pl := 0) C dX8_change_23 rfl rfl ?_
        refine g_get C fX8_26 0 rfl rfl dX8_change_24 ?_
        refine g_iload_n (pl := 1) C dX8_change_27 rfl rfl ?_
        obtain ⟨z6, e_z6, hs⟩ := vb_ok hs
        refine g_callV (ws' := [oX8 h a_letters f_length a_board a_draft a_scene a_trial a_past a_kept a_seen a_reader a_search a_deal a_line, oX0 a_board a_board_commons a_board_lengths a_board_parts a_board_likenesses f_board_wordCount f_board_likenessCount f_board_actorCount f_board_forbiddenBits f_board_habitTold f_board_priceTold, oX4 a_scene a_scene_cells, aI cI a_scene_cells 55 f_scene_cells, oX7 a_past a_past_rows f_past_most f_past_used, aI cI a_past_rows n_past_rows f_past_rows]) (rest := []) (st' := [.int z6]) C mX8_172 q3_90 [.int x1] (fun l D => cX4_isFresh_ct l D cI a_scene a_scene_cells f_scene_cells x1 e_z6) ⟨⟨rfl, rfl⟩, Nat.le_of_ble_eq_true rfl, Nat.le_of_ble_eq_true rfl⟩ 2 rfl rfl rfl [2, 3] rfl rfl rfl rfl rfl (Nat.le_of_ble_eq_true rfl) (Nat.zero_le _) (Nat.zero_le _) rfl dX8_change_28 ?_
        refine g_if_eq (tgt := 45) C dX8_change_31 (by decide) (fun c7 => ?_) (fun c7 => ?_)
        · replace hs := vi_t hs c7
          refine g_bipush (v := (-2)) C dX8_change_45 rfl ?_
          cases hs
          exact hR _ _ dX8_change_47
        · replace hs := vi_f hs c7
          refine g_aload_n (pl := 0) C dX8_change_34 rfl rfl ?_
          refine g_get C fX8_26 0 rfl rfl dX8_change_35 ?_
          refine g_iload_n (pl := 2) C dX8_change_38 rfl rfl ?_
          obtain ⟨z8, e_z8, hs⟩ := vb_ok hs
          refine g_callV (ws' := [oX8 h a_letters f_length a_board a_draft a_scene a_trial a_past a_kept a_seen a_reader a_search a_deal a_line, oX0 a_board a_board_commons a_board_lengths a_board_parts a_board_likenesses f_board_wordCount f_board_likenessCount f_board_actorCount f_board_forbiddenBits f_board_habitTold f_board_priceTold, oX4 a_scene a_scene_cells, aI cI a_scene_cells 55 f_scene_cells, oX7 a_past a_past_rows f_past_most f_past_used, aI cI a_past_rows n_past_rows f_past_rows]) (rest := []) (st' := [.int z8]) C mX8_172 q3_90 [.int x2] (fun l D => cX4_isFresh_ct l D cI a_scene a_scene_cells f_scene_cells x2 e_z8) ⟨⟨rfl, rfl⟩, Nat.le_of_ble_eq_true rfl, Nat.le_of_ble_eq_true rfl⟩ 2 rfl rfl rfl [2, 3] rfl rfl rfl rfl rfl (Nat.le_of_ble_eq_true rfl) (Nat.zero_le _) (Nat.zero_le _) rfl dX8_change_39 ?_
          refine g_if_ne (tgt := 48) C dX8_change_42 (by decide) (fun c9 => ?_) (fun c9 => ?_)
          · replace hs := vi_f hs c9
            refine g_aload_n (pl := 0) C dX8_change_48 rfl rfl ?_
            refine g_get C fX8_38 0 rfl rfl dX8_change_49 ?_
            refine g_aload_n (pl := 0) C dX8_change_52 rfl rfl ?_
            refine g_get C fX8_26 0 rfl rfl dX8_change_53 ?_
            obtain ⟨z10, e_z10, hs⟩ := vb_ok hs
            refine g_callV (ws' := [oX8 h a_letters f_length a_board a_draft a_scene a_trial a_past a_kept a_seen a_reader a_search a_deal a_line, oX0 a_board a_board_commons a_board_lengths a_board_parts a_board_likenesses f_board_wordCount f_board_likenessCount f_board_actorCount f_board_forbiddenBits f_board_habitTold f_board_priceTold, oX4 a_scene a_scene_cells, aI cI a_scene_cells 55 f_scene_cells, oX7 a_past a_past_rows f_past_most z10.2, aI cI a_past_rows n_past_rows z10.1]) (rest := []) (st' := []) C mX8_158 q3_17 [.ref a_scene] (fun l D => cX7_put_ct l D cI a_past a_past_rows a_scene a_scene_cells n_past_rows f_past_most f_past_used f_past_rows f_scene_cells e_z10) ⟨⟨rfl, rfl⟩, Nat.le_of_ble_eq_true rfl, Nat.le_of_ble_eq_true rfl⟩ 4 rfl rfl rfl [4, 5, 2, 3] rfl rfl rfl rfl rfl (Nat.le_of_ble_eq_true rfl) (Nat.zero_le _) (Nat.zero_le _) rfl dX8_change_56 ?_
            refine g_aload_n (pl := 0) C dX8_change_59 rfl rfl ?_
            refine g_get C fX8_26 0 rfl rfl dX8_change_60 ?_
            refine g_iload_n (pl := 1) C dX8_change_63 rfl rfl ?_
            refine g_iconst (v := (nI 1)) C dX8_change_64 rfl ?_
            obtain ⟨z11, e_z11, hs⟩ := vb_ok hs
            refine g_callV (ws' := [oX8 h a_letters f_length a_board a_draft a_scene a_trial a_past a_kept a_seen a_reader a_search a_deal a_line, oX0 a_board a_board_commons a_board_lengths a_board_parts a_board_likenesses f_board_wordCount f_board_likenessCount f_board_actorCount f_board_forbiddenBits f_board_habitTold f_board_priceTold, oX4 a_scene a_scene_cells, aI cI a_scene_cells 55 f_scene_cells, oX7 a_past a_past_rows f_past_most z10.2, aI cI a_past_rows n_past_rows z10.1]) (rest := []) (st' := [.int z11]) C mX8_149 q2_232 [.int x1, .int (nI 1)] (fun l D => cX4_cell_ct l D cI a_scene a_scene_cells f_scene_cells x1 (nI 1) e_z11) ⟨⟨rfl, rfl⟩, Nat.le_of_ble_eq_true rfl, Nat.le_of_ble_eq_true rfl⟩ 2 rfl rfl rfl [2, 3] rfl rfl rfl rfl rfl (Nat.le_of_ble_eq_true rfl) (Nat.zero_le _) (Nat.zero_le _) rfl dX8_change_65 ?_
            refine g_istore_n (lv' := [(3, .int z11), (0, .ref h), (1, .int x1), (2, .int x2)]) C dX8_change_68 rfl (by decide) rfl ?_
            refine g_aload_n (pl := 1) C dX8_change_69 rfl rfl ?_
            refine g_get C fX8_26 0 rfl rfl dX8_change_70 ?_
            refine g_iload_n (pl := 2) C dX8_change_73 rfl rfl ?_
            refine g_iconst (v := (nI 1)) C dX8_change_74 rfl ?_
            refine g_aload_n (pl := 1) C dX8_change_75 rfl rfl ?_
            refine g_get C fX8_26 0 rfl rfl dX8_change_76 ?_
            refine g_iload_n (pl := 3) C dX8_change_79 rfl rfl ?_
            refine g_iconst (v := (nI 1)) C dX8_change_80 rfl ?_
            obtain ⟨z12, e_z12, hs⟩ := vb_ok hs
            refine g_callV (ws' := [oX8 h a_letters f_length a_board a_draft a_scene a_trial a_past a_kept a_seen a_reader a_search a_deal a_line, oX0 a_board a_board_commons a_board_lengths a_board_parts a_board_likenesses f_board_wordCount f_board_likenessCount f_board_actorCount f_board_forbiddenBits f_board_habitTold f_board_priceTold, oX4 a_scene a_scene_cells, aI cI a_scene_cells 55 f_scene_cells, oX7 a_past a_past_rows f_past_most z10.2, aI cI a_past_rows n_past_rows z10.1]) (rest := [.int (nI 1), .int x1, .ref a_scene]) (st' := [.int z12, .int (nI 1), .int x1, .ref a_scene]) C mX8_149 q2_232 [.int x2, .int (nI 1)] (fun l D => cX4_cell_ct l D cI a_scene a_scene_cells f_scene_cells x2 (nI 1) e_z12) ⟨⟨rfl, rfl⟩, Nat.le_of_ble_eq_true rfl, Nat.le_of_ble_eq_true rfl⟩ 2 rfl rfl rfl [2, 3] rfl rfl rfl rfl rfl (Nat.le_of_ble_eq_true rfl) (Nat.zero_le _) (Nat.zero_le _) rfl dX8_change_81 ?_
            obtain ⟨z13, e_z13, hs⟩ := vb_ok hs
            refine g_callV (ws' := [oX8 h a_letters f_length a_board a_draft a_scene a_trial a_past a_kept a_seen a_reader a_search a_deal a_line, oX0 a_board a_board_commons a_board_lengths a_board_parts a_board_likenesses f_board_wordCount f_board_likenessCount f_board_actorCount f_board_forbiddenBits f_board_habitTold f_board_priceTold, oX4 a_scene a_scene_cells, aI cI a_scene_cells 55 z13, oX7 a_past a_past_rows f_past_most z10.2, aI cI a_past_rows n_past_rows z10.1]) (rest := []) (st' := []) C mX8_175 q2_105 [.int x1, .int (nI 1), .int z12] (fun l D => cX4_set_ct l D cI a_scene a_scene_cells f_scene_cells x1 (nI 1) z12 e_z13) ⟨⟨rfl, rfl⟩, Nat.le_of_ble_eq_true rfl, Nat.le_of_ble_eq_true rfl⟩ 2 rfl rfl rfl [2, 3] rfl rfl rfl rfl rfl (Nat.le_of_ble_eq_true rfl) (Nat.zero_le _) (Nat.zero_le _) rfl dX8_change_84 ?_
            refine g_aload_n (pl := 1) C dX8_change_87 rfl rfl ?_
            refine g_get C fX8_26 0 rfl rfl dX8_change_88 ?_
            refine g_iload_n (pl := 3) C dX8_change_91 rfl rfl ?_
            refine g_iconst (v := (nI 1)) C dX8_change_92 rfl ?_
            refine g_iload_n (pl := 0) C dX8_change_93 rfl rfl ?_
            obtain ⟨z14, e_z14, hs⟩ := vb_ok hs
            refine g_callV (ws' := [oX8 h a_letters f_length a_board a_draft a_scene a_trial a_past a_kept a_seen a_reader a_search a_deal a_line, oX0 a_board a_board_commons a_board_lengths a_board_parts a_board_likenesses f_board_wordCount f_board_likenessCount f_board_actorCount f_board_forbiddenBits f_board_habitTold f_board_priceTold, oX4 a_scene a_scene_cells, aI cI a_scene_cells 55 z14, oX7 a_past a_past_rows f_past_most z10.2, aI cI a_past_rows n_past_rows z10.1]) (rest := []) (st' := []) C mX8_175 q2_105 [.int x2, .int (nI 1), .int z11] (fun l D => cX4_set_ct l D cI a_scene a_scene_cells z13 x2 (nI 1) z11 e_z14) ⟨⟨rfl, rfl⟩, Nat.le_of_ble_eq_true rfl, Nat.le_of_ble_eq_true rfl⟩ 2 rfl rfl rfl [2, 3] rfl rfl rfl rfl rfl (Nat.le_of_ble_eq_true rfl) (Nat.zero_le _) (Nat.zero_le _) rfl dX8_change_94 ?_
            refine g_aload_n (pl := 1) C dX8_change_97 rfl rfl ?_
            refine g_get C fX8_26 0 rfl rfl dX8_change_98 ?_
            refine g_iload_n (pl := 2) C dX8_change_101 rfl rfl ?_
            refine g_iconst (v := (nI 1)) C dX8_change_102 rfl ?_
            obtain ⟨z15, e_z15, hs⟩ := vb_ok hs
            refine g_callV (ws' := [oX8 h a_letters f_length a_board a_draft a_scene a_trial a_past a_kept a_seen a_reader a_search a_deal a_line, oX0 a_board a_board_commons a_board_lengths a_board_parts a_board_likenesses f_board_wordCount f_board_likenessCount f_board_actorCount f_board_forbiddenBits f_board_habitTold f_board_priceTold, oX4 a_scene a_scene_cells, aI cI a_scene_cells 55 z14, oX7 a_past a_past_rows f_past_most z10.2, aI cI a_past_rows n_past_rows z10.1]) (rest := []) (st' := [.int z15]) C mX8_149 q2_232 [.int x1, .int (nI 1)] (fun l D => cX4_cell_ct l D cI a_scene a_scene_cells z14 x1 (nI 1) e_z15) ⟨⟨rfl, rfl⟩, Nat.le_of_ble_eq_true rfl, Nat.le_of_ble_eq_true rfl⟩ 2 rfl rfl rfl [2, 3] rfl rfl rfl rfl rfl (Nat.le_of_ble_eq_true rfl) (Nat.zero_le _) (Nat.zero_le _) rfl dX8_change_103 ?_
            cases hs
            exact hR _ _ dX8_change_106
          · replace hs := vi_t hs c9
            refine g_bipush (v := (-2)) C dX8_change_45 rfl ?_
            cases hs
            exact hR _ _ dX8_change_47
      · replace hs := vi_t hs c5
        refine g_iconst (v := (-1)) C dX8_change_21 rfl ?_
        cases hs
        exact hR _ _ dX8_change_22
def sX8_undo (n_past_rows : Nat) (f_scene_cells : Nat → Int32) (f_past_rows : Nat → Int32) (f_past_most : Int32) (f_past_used : Int32) : Option (Int32 × (Nat → Int32) × Int32) :=
  vb (sX7_takeInto n_past_rows f_past_rows f_past_most f_past_used f_scene_cells) fun z1 =>
  vi (z1.1 = 0) inferInstance (
    some ((-2), z1.2.2, z1.2.1)) (
    vb (sX7_size z1.2.1) fun z3 =>
    some (z3, z1.2.2, z1.2.1))
abbrev rmX8_undo : Room := { frames := 2, cells := 0, slots := 0, locals := 47 }
set_option maxHeartbeats 4000000 in
set_option maxRecDepth 100000 in
theorem cX8_undo_ct (l : Launch) (D : va_G) (cI : ClassId) (h : Nat) (a_letters : Nat) (a_board : Nat) (a_draft : Nat) (a_scene : Nat) (a_trial : Nat) (a_past : Nat) (a_kept : Nat) (a_seen : Nat) (a_reader : Nat) (a_search : Nat) (a_deal : Nat) (a_line : Nat) (a_scene_cells : Nat) (a_past_rows : Nat) (n_past_rows : Nat) (f_length : Int32) (f_scene_cells : Nat → Int32) (f_past_most : Int32) (f_past_used : Int32) (f_past_rows : Nat → Int32) {z : Int32 × (Nat → Int32) × Int32} (hs : sX8_undo n_past_rows f_scene_cells f_past_rows f_past_most f_past_used = some z) : ct l yX8_undo (.code yX8_undo cX8_undo 1 (some .int) :: gtb) rmX8_undo D cI [.ref h] [oX8 h a_letters f_length a_board a_draft a_scene a_trial a_past a_kept a_seen a_reader a_search a_deal a_line, oX4 a_scene a_scene_cells, aI cI a_scene_cells 55 f_scene_cells, oX7 a_past a_past_rows f_past_most f_past_used, aI cI a_past_rows n_past_rows f_past_rows] (some (.int z.1)) [oX8 h a_letters f_length a_board a_draft a_scene a_trial a_past a_kept a_seen a_reader a_search a_deal a_line, oX4 a_scene a_scene_cells, aI cI a_scene_cells 55 z.2.1, oX7 a_past a_past_rows f_past_most z.2.2, aI cI a_past_rows n_past_rows f_past_rows] := by
  refine ct_ofI (own := RX8) (by decide +kernel) rfl (Nat.le_of_ble_eq_true rfl) (fun X C hD hR => ?_)
  unfold sX8_undo at hs
  show gg cI X 1 0 0 [oX8 h a_letters f_length a_board a_draft a_scene a_trial a_past a_kept a_seen a_reader a_search a_deal a_line, oX4 a_scene a_scene_cells, aI cI a_scene_cells 55 f_scene_cells, oX7 a_past a_past_rows f_past_most f_past_used, aI cI a_past_rows n_past_rows f_past_rows] [(0, .ref h)] 0 []
  refine g_aload_n (pl := 0) C dX8_undo_0 rfl rfl ?_
  refine g_get C fX8_38 0 rfl rfl dX8_undo_1 ?_
  refine g_aload_n (pl := 0) C dX8_undo_4 rfl rfl ?_
  refine g_get C fX8_26 0 rfl rfl dX8_undo_5 ?_
  obtain ⟨z1, e_z1, hs⟩ := vb_ok hs
  refine g_callV (ws' := [oX8 h a_letters f_length a_board a_draft a_scene a_trial a_past a_kept a_seen a_reader a_search a_deal a_line, oX4 a_scene a_scene_cells, aI cI a_scene_cells 55 z1.2.2, oX7 a_past a_past_rows f_past_most z1.2.1, aI cI a_past_rows n_past_rows f_past_rows]) (rest := []) (st' := [.int z1.1]) C mX8_179 q3_98 [.ref a_scene] (fun l D => cX7_takeInto_ct l D cI a_past a_past_rows a_scene a_scene_cells n_past_rows f_past_most f_past_used f_past_rows f_scene_cells e_z1) ⟨⟨rfl, rfl⟩, Nat.le_of_ble_eq_true rfl, Nat.le_of_ble_eq_true rfl⟩ 3 rfl rfl rfl [3, 4, 1, 2] rfl rfl rfl rfl rfl (Nat.le_of_ble_eq_true rfl) (Nat.zero_le _) (Nat.zero_le _) rfl dX8_undo_8 ?_
  refine g_if_eq (tgt := 24) C dX8_undo_11 (by decide) (fun c2 => ?_) (fun c2 => ?_)
  · replace hs := vi_t hs c2
    refine g_bipush (v := (-2)) C dX8_undo_24 rfl ?_
    cases hs
    exact hR _ _ dX8_undo_26
  · replace hs := vi_f hs c2
    refine g_aload_n (pl := 0) C dX8_undo_14 rfl rfl ?_
    refine g_get C fX8_38 0 rfl rfl dX8_undo_15 ?_
    obtain ⟨z3, e_z3, hs⟩ := vb_ok hs
    refine g_callV (ws' := [oX8 h a_letters f_length a_board a_draft a_scene a_trial a_past a_kept a_seen a_reader a_search a_deal a_line, oX4 a_scene a_scene_cells, aI cI a_scene_cells 55 z1.2.2, oX7 a_past a_past_rows f_past_most z1.2.1, aI cI a_past_rows n_past_rows f_past_rows]) (rest := []) (st' := [.int z3]) C mX8_183 q3_102 [] (fun l D => cX7_size_ct l D cI a_past a_past_rows f_past_most z1.2.1 e_z3) ⟨⟨rfl, rfl⟩, Nat.le_of_ble_eq_true rfl, Nat.le_of_ble_eq_true rfl⟩ 3 rfl rfl rfl [3] rfl rfl rfl rfl rfl (Nat.le_of_ble_eq_true rfl) (Nat.zero_le _) (Nat.zero_le _) rfl dX8_undo_18 ?_
    refine g_goto (tgt := 26) C dX8_undo_21 (by decide) ?_
    cases hs
    exact hR _ _ dX8_undo_26
def sX8_weight (f_board_commons : Nat → Int32) (f_board_lengths : Nat → Int32) (f_board_parts : Nat → Int32) (f_board_likenesses : Nat → Int32) (f_board_wordCount : Int32) (f_board_actorCount : Int32) (f_board_habitTold : Int32) (f_scene_cells : Nat → Int32) (x1 : Int32) (x2 : Int32) : Option (Int32) :=
  vb (sX8_isActor f_board_actorCount x1) fun z1 =>
  vi (z1 = 0) inferInstance (
    some ((-1))) (
    vb (sX8_isWord f_board_wordCount x2) fun z3 =>
    vi (z3 = 0) inferInstance (
      some ((-1))) (
      vb (sX0_habit f_board_habitTold) fun z5 =>
      vb (sX0_weightOf f_board_commons f_board_lengths f_board_parts f_board_likenesses f_scene_cells x1 x2 (nI 31) z5) fun z6 =>
      some (z6)))
abbrev rmX8_weight : Room := { frames := 3, cells := 0, slots := 0, locals := 74 }
set_option maxHeartbeats 4000000 in
set_option maxRecDepth 100000 in
theorem cX8_weight_ct (l : Launch) (D : va_G) (cI : ClassId) (h : Nat) (a_letters : Nat) (a_board : Nat) (a_draft : Nat) (a_scene : Nat) (a_trial : Nat) (a_past : Nat) (a_kept : Nat) (a_seen : Nat) (a_reader : Nat) (a_search : Nat) (a_deal : Nat) (a_line : Nat) (a_board_commons : Nat) (a_board_lengths : Nat) (a_board_parts : Nat) (a_board_likenesses : Nat) (a_scene_cells : Nat) (f_length : Int32) (f_board_wordCount : Int32) (f_board_likenessCount : Int32) (f_board_actorCount : Int32) (f_board_forbiddenBits : Int32) (f_board_habitTold : Int32) (f_board_priceTold : Int32) (f_board_commons : Nat → Int32) (f_board_lengths : Nat → Int32) (f_board_parts : Nat → Int32) (f_board_likenesses : Nat → Int32) (f_scene_cells : Nat → Int32) (x1 : Int32) (x2 : Int32) {z : Int32} (hs : sX8_weight f_board_commons f_board_lengths f_board_parts f_board_likenesses f_board_wordCount f_board_actorCount f_board_habitTold f_scene_cells x1 x2 = some z) : ct l yX8_weight (.code yX8_weight cX8_weight 3 (some .int) :: gtb) rmX8_weight D cI [.ref h, .int x1, .int x2] [oX8 h a_letters f_length a_board a_draft a_scene a_trial a_past a_kept a_seen a_reader a_search a_deal a_line, oX0 a_board a_board_commons a_board_lengths a_board_parts a_board_likenesses f_board_wordCount f_board_likenessCount f_board_actorCount f_board_forbiddenBits f_board_habitTold f_board_priceTold, aI cI a_board_commons 8 f_board_commons, aI cI a_board_lengths 8 f_board_lengths, aI cI a_board_parts 8 f_board_parts, aI cI a_board_likenesses 6 f_board_likenesses, oX4 a_scene a_scene_cells, aI cI a_scene_cells 55 f_scene_cells] (some (.int z)) [oX8 h a_letters f_length a_board a_draft a_scene a_trial a_past a_kept a_seen a_reader a_search a_deal a_line, oX0 a_board a_board_commons a_board_lengths a_board_parts a_board_likenesses f_board_wordCount f_board_likenessCount f_board_actorCount f_board_forbiddenBits f_board_habitTold f_board_priceTold, aI cI a_board_commons 8 f_board_commons, aI cI a_board_lengths 8 f_board_lengths, aI cI a_board_parts 8 f_board_parts, aI cI a_board_likenesses 6 f_board_likenesses, oX4 a_scene a_scene_cells, aI cI a_scene_cells 55 f_scene_cells] := by
  refine ct_ofI (own := RX8) (by decide +kernel) rfl (Nat.le_of_ble_eq_true rfl) (fun X C hD hR => ?_)
  unfold sX8_weight at hs
  show gg cI X 3 0 0 [oX8 h a_letters f_length a_board a_draft a_scene a_trial a_past a_kept a_seen a_reader a_search a_deal a_line, oX0 a_board a_board_commons a_board_lengths a_board_parts a_board_likenesses f_board_wordCount f_board_likenessCount f_board_actorCount f_board_forbiddenBits f_board_habitTold f_board_priceTold, aI cI a_board_commons 8 f_board_commons, aI cI a_board_lengths 8 f_board_lengths, aI cI a_board_parts 8 f_board_parts, aI cI a_board_likenesses 6 f_board_likenesses, oX4 a_scene a_scene_cells, aI cI a_scene_cells 55 f_scene_cells] [(0, .ref h), (1, .int x1), (2, .int x2)] 0 []
  refine g_aload_n (pl := 0) C dX8_weight_0 rfl rfl ?_
  refine g_iload_n (pl := 1) C dX8_weight_1 rfl rfl ?_
  obtain ⟨z1, e_z1, hs⟩ := vb_ok hs
  refine g_callV (ws' := [oX8 h a_letters f_length a_board a_draft a_scene a_trial a_past a_kept a_seen a_reader a_search a_deal a_line, oX0 a_board a_board_commons a_board_lengths a_board_parts a_board_likenesses f_board_wordCount f_board_likenessCount f_board_actorCount f_board_forbiddenBits f_board_habitTold f_board_priceTold, aI cI a_board_commons 8 f_board_commons, aI cI a_board_lengths 8 f_board_lengths, aI cI a_board_parts 8 f_board_parts, aI cI a_board_likenesses 6 f_board_likenesses, oX4 a_scene a_scene_cells, aI cI a_scene_cells 55 f_scene_cells]) (rest := []) (st' := [.int z1]) C mX8_146 q2_228 [.int x1] (fun l D => cX8_isActor_ct l D cI h a_letters a_board a_draft a_scene a_trial a_past a_kept a_seen a_reader a_search a_deal a_line a_board_commons a_board_lengths a_board_parts a_board_likenesses f_length f_board_wordCount f_board_likenessCount f_board_actorCount f_board_forbiddenBits f_board_habitTold f_board_priceTold x1 e_z1) ⟨⟨rfl, rfl⟩, Nat.le_of_ble_eq_true rfl, Nat.le_of_ble_eq_true rfl⟩ 0 rfl rfl rfl [0, 1] rfl rfl rfl rfl rfl (Nat.le_of_ble_eq_true rfl) (Nat.zero_le _) (Nat.zero_le _) rfl dX8_weight_2 ?_
  refine g_if_eq (tgt := 41) C dX8_weight_5 (by decide) (fun c2 => ?_) (fun c2 => ?_)
  · replace hs := vi_t hs c2
    refine g_iconst (v := (-1)) C dX8_weight_41 rfl ?_
    cases hs
    exact hR _ _ dX8_weight_42
  · replace hs := vi_f hs c2
    refine g_aload_n (pl := 0) C dX8_weight_8 rfl rfl ?_
    refine g_iload_n (pl := 2) C dX8_weight_9 rfl rfl ?_
    obtain ⟨z3, e_z3, hs⟩ := vb_ok hs
    refine g_callV (ws' := [oX8 h a_letters f_length a_board a_draft a_scene a_trial a_past a_kept a_seen a_reader a_search a_deal a_line, oX0 a_board a_board_commons a_board_lengths a_board_parts a_board_likenesses f_board_wordCount f_board_likenessCount f_board_actorCount f_board_forbiddenBits f_board_habitTold f_board_priceTold, aI cI a_board_commons 8 f_board_commons, aI cI a_board_lengths 8 f_board_lengths, aI cI a_board_parts 8 f_board_parts, aI cI a_board_likenesses 6 f_board_likenesses, oX4 a_scene a_scene_cells, aI cI a_scene_cells 55 f_scene_cells]) (rest := []) (st' := [.int z3]) C mX8_123 q2_184 [.int x2] (fun l D => cX8_isWord_ct l D cI h a_letters a_board a_draft a_scene a_trial a_past a_kept a_seen a_reader a_search a_deal a_line a_board_commons a_board_lengths a_board_parts a_board_likenesses f_length f_board_wordCount f_board_likenessCount f_board_actorCount f_board_forbiddenBits f_board_habitTold f_board_priceTold x2 e_z3) ⟨⟨rfl, rfl⟩, Nat.le_of_ble_eq_true rfl, Nat.le_of_ble_eq_true rfl⟩ 0 rfl rfl rfl [0, 1] rfl rfl rfl rfl rfl (Nat.le_of_ble_eq_true rfl) (Nat.zero_le _) (Nat.zero_le _) rfl dX8_weight_10 ?_
    refine g_if_eq (tgt := 41) C dX8_weight_13 (by decide) (fun c4 => ?_) (fun c4 => ?_)
    · replace hs := vi_t hs c4
      refine g_iconst (v := (-1)) C dX8_weight_41 rfl ?_
      cases hs
      exact hR _ _ dX8_weight_42
    · replace hs := vi_f hs c4
      refine g_aload_n (pl := 0) C dX8_weight_16 rfl rfl ?_
      refine g_get C fX8_16 0 rfl rfl dX8_weight_17 ?_
      refine g_aload_n (pl := 0) C dX8_weight_20 rfl rfl ?_
      refine g_get C fX8_26 0 rfl rfl dX8_weight_21 ?_
      refine g_iload_n (pl := 1) C dX8_weight_24 rfl rfl ?_
      refine g_iload_n (pl := 2) C dX8_weight_25 rfl rfl ?_
      refine g_bipush (v := (nI 31)) C dX8_weight_26 rfl ?_
      refine g_aload_n (pl := 0) C dX8_weight_28 rfl rfl ?_
      refine g_get C fX8_16 0 rfl rfl dX8_weight_29 ?_
      obtain ⟨z5, e_z5, hs⟩ := vb_ok hs
      refine g_callV (ws' := [oX8 h a_letters f_length a_board a_draft a_scene a_trial a_past a_kept a_seen a_reader a_search a_deal a_line, oX0 a_board a_board_commons a_board_lengths a_board_parts a_board_likenesses f_board_wordCount f_board_likenessCount f_board_actorCount f_board_forbiddenBits f_board_habitTold f_board_priceTold, aI cI a_board_commons 8 f_board_commons, aI cI a_board_lengths 8 f_board_lengths, aI cI a_board_parts 8 f_board_parts, aI cI a_board_likenesses 6 f_board_likenesses, oX4 a_scene a_scene_cells, aI cI a_scene_cells 55 f_scene_cells]) (rest := [.int (nI 31), .int x2, .int x1, .ref a_scene, .ref a_board]) (st' := [.int z5, .int (nI 31), .int x2, .int x1, .ref a_scene, .ref a_board]) C mX8_186 q3_40 [] (fun l D => cX0_habit_ct l D cI a_board a_board_commons a_board_lengths a_board_parts a_board_likenesses f_board_wordCount f_board_likenessCount f_board_actorCount f_board_forbiddenBits f_board_habitTold f_board_priceTold e_z5) ⟨⟨rfl, rfl⟩, Nat.le_of_ble_eq_true rfl, Nat.le_of_ble_eq_true rfl⟩ 1 rfl rfl rfl [1] rfl rfl rfl rfl rfl (Nat.le_of_ble_eq_true rfl) (Nat.zero_le _) (Nat.zero_le _) rfl dX8_weight_32 ?_
      obtain ⟨z6, e_z6, hs⟩ := vb_ok hs
      refine g_callV (ws' := [oX8 h a_letters f_length a_board a_draft a_scene a_trial a_past a_kept a_seen a_reader a_search a_deal a_line, oX0 a_board a_board_commons a_board_lengths a_board_parts a_board_likenesses f_board_wordCount f_board_likenessCount f_board_actorCount f_board_forbiddenBits f_board_habitTold f_board_priceTold, aI cI a_board_commons 8 f_board_commons, aI cI a_board_lengths 8 f_board_lengths, aI cI a_board_parts 8 f_board_parts, aI cI a_board_likenesses 6 f_board_likenesses, oX4 a_scene a_scene_cells, aI cI a_scene_cells 55 f_scene_cells]) (rest := []) (st' := [.int z6]) C mX8_189 q3_48 [.ref a_scene, .int x1, .int x2, .int (nI 31), .int z5] (fun l D => cX0_weightOf_ct l D cI a_board a_board_commons a_board_lengths a_board_parts a_board_likenesses a_scene a_scene_cells f_board_wordCount f_board_likenessCount f_board_actorCount f_board_forbiddenBits f_board_habitTold f_board_priceTold f_board_commons f_board_lengths f_board_parts f_board_likenesses f_scene_cells x1 x2 (nI 31) z5 e_z6) ⟨⟨rfl, rfl⟩, Nat.le_of_ble_eq_true rfl, Nat.le_of_ble_eq_true rfl⟩ 1 rfl rfl rfl [1, 2, 3, 4, 5, 6, 7] rfl rfl rfl rfl rfl (Nat.le_of_ble_eq_true rfl) (Nat.zero_le _) (Nat.zero_le _) rfl dX8_weight_35 ?_
      refine g_goto (tgt := 42) C dX8_weight_38 (by decide) ?_
      cases hs
      exact hR _ _ dX8_weight_42
def LX8_likely_33 (y_1 : Int32) (y_2 : Int32) (y_3 : Int32) (f_board_commons : Nat → Int32) (f_board_lengths : Nat → Int32) (f_board_parts : Nat → Int32) (f_board_likenesses : Nat → Int32) (f_board_wordCount : Int32) (f_board_habitTold : Int32) (f_scene_cells : Nat → Int32) : Nat → Int32 → Int32 → Option (Int32)
  | 0, _, _ => none
  | n + 1, y_4, y_5 =>
    vb (sX0_words f_board_wordCount) fun z1 =>
    vi (z1 ≤ y_5) inferInstance (
      vi (y_3 = 0) inferInstance (
        vb (sX0_habit f_board_habitTold) fun z5 =>
        vb (sX0_weightOf f_board_commons f_board_lengths f_board_parts f_board_likenesses f_scene_cells y_1 y_2 (nI 31) z5) fun z6 =>
        some (z6)) (
        vi (y_4 ≤ 0) inferInstance (
          some ((nI 1))) (
          some (y_4)))) (
      vb (sX0_habit f_board_habitTold) fun z7 =>
      vb (sX0_weightOf f_board_commons f_board_lengths f_board_parts f_board_likenesses f_scene_cells y_1 y_5 (nI 31) z7) fun z8 =>
      vlet (y_4 + z8) fun y9 =>
      vlet (y_5 + (nI 1)) fun y10 =>
      LX8_likely_33 y_1 y_2 y_3 f_board_commons f_board_lengths f_board_parts f_board_likenesses f_board_wordCount f_board_habitTold f_scene_cells n y9 y10)
def sX8_likely (f_board_commons : Nat → Int32) (f_board_lengths : Nat → Int32) (f_board_parts : Nat → Int32) (f_board_likenesses : Nat → Int32) (f_board_wordCount : Int32) (f_board_actorCount : Int32) (f_board_habitTold : Int32) (f_scene_cells : Nat → Int32) (x1 : Int32) (x2 : Int32) (x3 : Int32) : Option (Int32) :=
  vb (sX8_isActor f_board_actorCount x1) fun z11 =>
  vi (z11 = 0) inferInstance (
    some ((-1))) (
    vb (sX8_isWord f_board_wordCount x2) fun z13 =>
    vi (z13 = 0) inferInstance (
      some ((-1))) (
      vi (x3 < 0) inferInstance (
        some ((-1))) (
        vi (x3 ≤ (nI 1)) inferInstance (
          LX8_likely_33 x1 x2 x3 f_board_commons f_board_lengths f_board_parts f_board_likenesses f_board_wordCount f_board_habitTold f_scene_cells vF (nI 0) (nI 0)) (
          some ((-1))))))
abbrev rmX8_likely : Room := { frames := 3, cells := 0, slots := 0, locals := 74 }
set_option maxHeartbeats 4000000 in
set_option maxRecDepth 100000 in
theorem LX8_likely_33_w {cI : ClassId} {X : xT} (C : cx cI X 6 cX8_likely RX8 rmX8_likely) (h : Nat) (a_letters : Nat) (a_board : Nat) (a_draft : Nat) (a_scene : Nat) (a_trial : Nat) (a_past : Nat) (a_kept : Nat) (a_seen : Nat) (a_reader : Nat) (a_search : Nat) (a_deal : Nat) (a_line : Nat) (a_board_commons : Nat) (a_board_lengths : Nat) (a_board_parts : Nat) (a_board_likenesses : Nat) (a_scene_cells : Nat) (f_length : Int32) (f_board_wordCount : Int32) (f_board_likenessCount : Int32) (f_board_actorCount : Int32) (f_board_forbiddenBits : Int32) (f_board_habitTold : Int32) (f_board_priceTold : Int32) (f_board_commons : Nat → Int32) (f_board_lengths : Nat → Int32) (f_board_parts : Nat → Int32) (f_board_likenesses : Nat → Int32) (f_scene_cells : Nat → Int32) (y_1 : Int32) (y_2 : Int32) (y_3 : Int32) {z : Int32} (hR : ∀ (lv : List (Nat × Value)) (pc : Nat), decode cX8_likely pc = .ok (.ireturn, 1) → gg cI X 6 0 0 [oX8 h a_letters f_length a_board a_draft a_scene a_trial a_past a_kept a_seen a_reader a_search a_deal a_line, oX0 a_board a_board_commons a_board_lengths a_board_parts a_board_likenesses f_board_wordCount f_board_likenessCount f_board_actorCount f_board_forbiddenBits f_board_habitTold f_board_priceTold, aI cI a_board_commons 8 f_board_commons, aI cI a_board_lengths 8 f_board_lengths, aI cI a_board_parts 8 f_board_parts, aI cI a_board_likenesses 6 f_board_likenesses, oX4 a_scene a_scene_cells, aI cI a_scene_cells 55 f_scene_cells] lv pc [.int z]) : ∀ (n : Nat) (y_4 : Int32) (y_5 : Int32), LX8_likely_33 y_1 y_2 y_3 f_board_commons f_board_lengths f_board_parts f_board_likenesses f_board_wordCount f_board_habitTold f_scene_cells n y_4 y_5 = some z → gg cI X 6 0 0 [oX8 h a_letters f_length a_board a_draft a_scene a_trial a_past a_kept a_seen a_reader a_search a_deal a_line, oX0 a_board a_board_commons a_board_lengths a_board_parts a_board_likenesses f_board_wordCount f_board_likenessCount f_board_actorCount f_board_forbiddenBits f_board_habitTold f_board_priceTold, aI cI a_board_commons 8 f_board_commons, aI cI a_board_lengths 8 f_board_lengths, aI cI a_board_parts 8 f_board_parts, aI cI a_board_likenesses 6 f_board_likenesses, oX4 a_scene a_scene_cells, aI cI a_scene_cells 55 f_scene_cells] [(0, .ref h), (1, .int y_1), (2, .int y_2), (3, .int y_3), (4, .int y_4), (5, .int y_5)] 33 [] := by
  intro n
  induction n with
  | zero =>
    intro y_4 y_5 hs
    exact nn_ok hs
  | succ n ih =>
    intro y_4 y_5 hs
    rw [LX8_likely_33] at hs
    refine g_iload (pl := 5) C dX8_likely_33 rfl ?_
    refine g_aload_n (pl := 0) C dX8_likely_35 rfl rfl ?_
    refine g_get C fX8_16 0 rfl rfl dX8_likely_36 ?_
    obtain ⟨z1, e_z1, hs⟩ := vb_ok hs
    refine g_callV (ws' := [oX8 h a_letters f_length a_board a_draft a_scene a_trial a_past a_kept a_seen a_reader a_search a_deal a_line, oX0 a_board a_board_commons a_board_lengths a_board_parts a_board_likenesses f_board_wordCount f_board_likenessCount f_board_actorCount f_board_forbiddenBits f_board_habitTold f_board_priceTold, aI cI a_board_commons 8 f_board_commons, aI cI a_board_lengths 8 f_board_lengths, aI cI a_board_parts 8 f_board_parts, aI cI a_board_likenesses 6 f_board_likenesses, oX4 a_scene a_scene_cells, aI cI a_scene_cells 55 f_scene_cells]) (rest := [.int y_5]) (st' := [.int z1, .int y_5]) C mX8_108 q2_57 [] (fun l D => cX0_words_ct l D cI a_board a_board_commons a_board_lengths a_board_parts a_board_likenesses f_board_wordCount f_board_likenessCount f_board_actorCount f_board_forbiddenBits f_board_habitTold f_board_priceTold e_z1) ⟨⟨rfl, rfl⟩, Nat.le_of_ble_eq_true rfl, Nat.le_of_ble_eq_true rfl⟩ 1 rfl rfl rfl [1] rfl rfl rfl rfl rfl (Nat.le_of_ble_eq_true rfl) (Nat.zero_le _) (Nat.zero_le _) rfl dX8_likely_39 ?_
    refine g_icmp_ge (tgt := 79) C dX8_likely_42 (by decide) (fun c2 => ?_) (fun c2 => ?_)
    · replace hs := vi_t hs c2
      refine g_iload_n (pl := 3) C dX8_likely_79 rfl rfl ?_
      refine g_if_ne (tgt := 106) C dX8_likely_80 (by decide) (fun c3 => ?_) (fun c3 => ?_)
      · replace hs := vi_f hs c3
        refine g_iload (pl := 4) C dX8_likely_106 rfl ?_
        refine g_if_le (tgt := 116) C dX8_likely_108 (by decide) (fun c4 => ?_) (fun c4 => ?_)
        · replace hs := vi_t hs c4
          refine g_iconst (v := (nI 1)) C dX8_likely_116 rfl ?_
          cases hs
          exact hR _ _ dX8_likely_117
        · replace hs := vi_f hs c4
          refine g_iload (pl := 4) C dX8_likely_111 rfl ?_
          refine g_goto (tgt := 117) C dX8_likely_113 (by decide) ?_
          cases hs
          exact hR _ _ dX8_likely_117
      · replace hs := vi_t hs c3
        refine g_aload_n (pl := 0) C dX8_likely_83 rfl rfl ?_
        refine g_get C fX8_16 0 rfl rfl dX8_likely_84 ?_
        refine g_aload_n (pl := 0) C dX8_likely_87 rfl rfl ?_
        refine g_get C fX8_26 0 rfl rfl dX8_likely_88 ?_
        refine g_iload_n (pl := 1) C dX8_likely_91 rfl rfl ?_
        refine g_iload_n (pl := 2) C dX8_likely_92 rfl rfl ?_
        refine g_bipush (v := (nI 31)) C dX8_likely_93 rfl ?_
        refine g_aload_n (pl := 0) C dX8_likely_95 rfl rfl ?_
        refine g_get C fX8_16 0 rfl rfl dX8_likely_96 ?_
        obtain ⟨z5, e_z5, hs⟩ := vb_ok hs
        refine g_callV (ws' := [oX8 h a_letters f_length a_board a_draft a_scene a_trial a_past a_kept a_seen a_reader a_search a_deal a_line, oX0 a_board a_board_commons a_board_lengths a_board_parts a_board_likenesses f_board_wordCount f_board_likenessCount f_board_actorCount f_board_forbiddenBits f_board_habitTold f_board_priceTold, aI cI a_board_commons 8 f_board_commons, aI cI a_board_lengths 8 f_board_lengths, aI cI a_board_parts 8 f_board_parts, aI cI a_board_likenesses 6 f_board_likenesses, oX4 a_scene a_scene_cells, aI cI a_scene_cells 55 f_scene_cells]) (rest := [.int (nI 31), .int y_2, .int y_1, .ref a_scene, .ref a_board]) (st' := [.int z5, .int (nI 31), .int y_2, .int y_1, .ref a_scene, .ref a_board]) C mX8_186 q3_40 [] (fun l D => cX0_habit_ct l D cI a_board a_board_commons a_board_lengths a_board_parts a_board_likenesses f_board_wordCount f_board_likenessCount f_board_actorCount f_board_forbiddenBits f_board_habitTold f_board_priceTold e_z5) ⟨⟨rfl, rfl⟩, Nat.le_of_ble_eq_true rfl, Nat.le_of_ble_eq_true rfl⟩ 1 rfl rfl rfl [1] rfl rfl rfl rfl rfl (Nat.le_of_ble_eq_true rfl) (Nat.zero_le _) (Nat.zero_le _) rfl dX8_likely_99 ?_
        obtain ⟨z6, e_z6, hs⟩ := vb_ok hs
        refine g_callV (ws' := [oX8 h a_letters f_length a_board a_draft a_scene a_trial a_past a_kept a_seen a_reader a_search a_deal a_line, oX0 a_board a_board_commons a_board_lengths a_board_parts a_board_likenesses f_board_wordCount f_board_likenessCount f_board_actorCount f_board_forbiddenBits f_board_habitTold f_board_priceTold, aI cI a_board_commons 8 f_board_commons, aI cI a_board_lengths 8 f_board_lengths, aI cI a_board_parts 8 f_board_parts, aI cI a_board_likenesses 6 f_board_likenesses, oX4 a_scene a_scene_cells, aI cI a_scene_cells 55 f_scene_cells]) (rest := []) (st' := [.int z6]) C mX8_189 q3_48 [.ref a_scene, .int y_1, .int y_2, .int (nI 31), .int z5] (fun l D => cX0_weightOf_ct l D cI a_board a_board_commons a_board_lengths a_board_parts a_board_likenesses a_scene a_scene_cells f_board_wordCount f_board_likenessCount f_board_actorCount f_board_forbiddenBits f_board_habitTold f_board_priceTold f_board_commons f_board_lengths f_board_parts f_board_likenesses f_scene_cells y_1 y_2 (nI 31) z5 e_z6) ⟨⟨rfl, rfl⟩, Nat.le_of_ble_eq_true rfl, Nat.le_of_ble_eq_true rfl⟩ 1 rfl rfl rfl [1, 2, 3, 4, 5, 6, 7] rfl rfl rfl rfl rfl (Nat.le_of_ble_eq_true rfl) (Nat.zero_le _) (Nat.zero_le _) rfl dX8_likely_102 ?_
        cases hs
        exact hR _ _ dX8_likely_105
    · replace hs := vi_f hs c2
      refine g_iload (pl := 4) C dX8_likely_45 rfl ?_
      refine g_aload_n (pl := 0) C dX8_likely_47 rfl rfl ?_
      refine g_get C fX8_16 0 rfl rfl dX8_likely_48 ?_
      refine g_aload_n (pl := 0) C dX8_likely_51 rfl rfl ?_
      refine g_get C fX8_26 0 rfl rfl dX8_likely_52 ?_
      refine g_iload_n (pl := 1) C dX8_likely_55 rfl rfl ?_
      refine g_iload (pl := 5) C dX8_likely_56 rfl ?_
      refine g_bipush (v := (nI 31)) C dX8_likely_58 rfl ?_
      refine g_aload_n (pl := 0) C dX8_likely_60 rfl rfl ?_
      refine g_get C fX8_16 0 rfl rfl dX8_likely_61 ?_
      obtain ⟨z7, e_z7, hs⟩ := vb_ok hs
      refine g_callV (ws' := [oX8 h a_letters f_length a_board a_draft a_scene a_trial a_past a_kept a_seen a_reader a_search a_deal a_line, oX0 a_board a_board_commons a_board_lengths a_board_parts a_board_likenesses f_board_wordCount f_board_likenessCount f_board_actorCount f_board_forbiddenBits f_board_habitTold f_board_priceTold, aI cI a_board_commons 8 f_board_commons, aI cI a_board_lengths 8 f_board_lengths, aI cI a_board_parts 8 f_board_parts, aI cI a_board_likenesses 6 f_board_likenesses, oX4 a_scene a_scene_cells, aI cI a_scene_cells 55 f_scene_cells]) (rest := [.int (nI 31), .int y_5, .int y_1, .ref a_scene, .ref a_board, .int y_4]) (st' := [.int z7, .int (nI 31), .int y_5, .int y_1, .ref a_scene, .ref a_board, .int y_4]) C mX8_186 q3_40 [] (fun l D => cX0_habit_ct l D cI a_board a_board_commons a_board_lengths a_board_parts a_board_likenesses f_board_wordCount f_board_likenessCount f_board_actorCount f_board_forbiddenBits f_board_habitTold f_board_priceTold e_z7) ⟨⟨rfl, rfl⟩, Nat.le_of_ble_eq_true rfl, Nat.le_of_ble_eq_true rfl⟩ 1 rfl rfl rfl [1] rfl rfl rfl rfl rfl (Nat.le_of_ble_eq_true rfl) (Nat.zero_le _) (Nat.zero_le _) rfl dX8_likely_64 ?_
      obtain ⟨z8, e_z8, hs⟩ := vb_ok hs
      refine g_callV (ws' := [oX8 h a_letters f_length a_board a_draft a_scene a_trial a_past a_kept a_seen a_reader a_search a_deal a_line, oX0 a_board a_board_commons a_board_lengths a_board_parts a_board_likenesses f_board_wordCount f_board_likenessCount f_board_actorCount f_board_forbiddenBits f_board_habitTold f_board_priceTold, aI cI a_board_commons 8 f_board_commons, aI cI a_board_lengths 8 f_board_lengths, aI cI a_board_parts 8 f_board_parts, aI cI a_board_likenesses 6 f_board_likenesses, oX4 a_scene a_scene_cells, aI cI a_scene_cells 55 f_scene_cells]) (rest := [.int y_4]) (st' := [.int z8, .int y_4]) C mX8_189 q3_48 [.ref a_scene, .int y_1, .int y_5, .int (nI 31), .int z7] (fun l D => cX0_weightOf_ct l D cI a_board a_board_commons a_board_lengths a_board_parts a_board_likenesses a_scene a_scene_cells f_board_wordCount f_board_likenessCount f_board_actorCount f_board_forbiddenBits f_board_habitTold f_board_priceTold f_board_commons f_board_lengths f_board_parts f_board_likenesses f_scene_cells y_1 y_5 (nI 31) z7 e_z8) ⟨⟨rfl, rfl⟩, Nat.le_of_ble_eq_true rfl, Nat.le_of_ble_eq_true rfl⟩ 1 rfl rfl rfl [1, 2, 3, 4, 5, 6, 7] rfl rfl rfl rfl rfl (Nat.le_of_ble_eq_true rfl) (Nat.zero_le _) (Nat.zero_le _) rfl dX8_likely_67 ?_
      refine g_iadd C dX8_likely_70 ?_
      obtain ⟨y9, e_y9, hs⟩ := vlet_ex hs
      refine g_topi e_y9 ?_
      refine g_istore (lv' := [(4, .int y9), (0, .ref h), (1, .int y_1), (2, .int y_2), (3, .int y_3), (5, .int y_5)]) C dX8_likely_71 (by decide) rfl ?_
      obtain ⟨y10, e_y10, hs⟩ := vlet_ex hs
      refine g_iinc (pl := 5) (lv' := [(5, .int y10), (4, .int y9), (0, .ref h), (1, .int y_1), (2, .int y_2), (3, .int y_3)]) C dX8_likely_73 rfl e_y10.symm (by decide) rfl ?_
      refine g_goto (tgt := 33) C dX8_likely_76 (by decide) ?_
      refine g_sub [2, 3, 4, 5, 1, 0] rfl ?_
      exact ih y9 y10 hs
set_option maxHeartbeats 4000000 in
set_option maxRecDepth 100000 in
theorem cX8_likely_ct (l : Launch) (D : va_G) (cI : ClassId) (h : Nat) (a_letters : Nat) (a_board : Nat) (a_draft : Nat) (a_scene : Nat) (a_trial : Nat) (a_past : Nat) (a_kept : Nat) (a_seen : Nat) (a_reader : Nat) (a_search : Nat) (a_deal : Nat) (a_line : Nat) (a_board_commons : Nat) (a_board_lengths : Nat) (a_board_parts : Nat) (a_board_likenesses : Nat) (a_scene_cells : Nat) (f_length : Int32) (f_board_wordCount : Int32) (f_board_likenessCount : Int32) (f_board_actorCount : Int32) (f_board_forbiddenBits : Int32) (f_board_habitTold : Int32) (f_board_priceTold : Int32) (f_board_commons : Nat → Int32) (f_board_lengths : Nat → Int32) (f_board_parts : Nat → Int32) (f_board_likenesses : Nat → Int32) (f_scene_cells : Nat → Int32) (x1 : Int32) (x2 : Int32) (x3 : Int32) {z : Int32} (hs : sX8_likely f_board_commons f_board_lengths f_board_parts f_board_likenesses f_board_wordCount f_board_actorCount f_board_habitTold f_scene_cells x1 x2 x3 = some z) : ct l yX8_likely (.code yX8_likely cX8_likely 6 (some .int) :: gtb) rmX8_likely D cI [.ref h, .int x1, .int x2, .int x3] [oX8 h a_letters f_length a_board a_draft a_scene a_trial a_past a_kept a_seen a_reader a_search a_deal a_line, oX0 a_board a_board_commons a_board_lengths a_board_parts a_board_likenesses f_board_wordCount f_board_likenessCount f_board_actorCount f_board_forbiddenBits f_board_habitTold f_board_priceTold, aI cI a_board_commons 8 f_board_commons, aI cI a_board_lengths 8 f_board_lengths, aI cI a_board_parts 8 f_board_parts, aI cI a_board_likenesses 6 f_board_likenesses, oX4 a_scene a_scene_cells, aI cI a_scene_cells 55 f_scene_cells] (some (.int z)) [oX8 h a_letters f_length a_board a_draft a_scene a_trial a_past a_kept a_seen a_reader a_search a_deal a_line, oX0 a_board a_board_commons a_board_lengths a_board_parts a_board_likenesses f_board_wordCount f_board_likenessCount f_board_actorCount f_board_forbiddenBits f_board_habitTold f_board_priceTold, aI cI a_board_commons 8 f_board_commons, aI cI a_board_lengths 8 f_board_lengths, aI cI a_board_parts 8 f_board_parts, aI cI a_board_likenesses 6 f_board_likenesses, oX4 a_scene a_scene_cells, aI cI a_scene_cells 55 f_scene_cells] := by
  refine ct_ofI (own := RX8) (by decide +kernel) rfl (Nat.le_of_ble_eq_true rfl) (fun X C hD hR => ?_)
  unfold sX8_likely at hs
  show gg cI X 6 0 0 [oX8 h a_letters f_length a_board a_draft a_scene a_trial a_past a_kept a_seen a_reader a_search a_deal a_line, oX0 a_board a_board_commons a_board_lengths a_board_parts a_board_likenesses f_board_wordCount f_board_likenessCount f_board_actorCount f_board_forbiddenBits f_board_habitTold f_board_priceTold, aI cI a_board_commons 8 f_board_commons, aI cI a_board_lengths 8 f_board_lengths, aI cI a_board_parts 8 f_board_parts, aI cI a_board_likenesses 6 f_board_likenesses, oX4 a_scene a_scene_cells, aI cI a_scene_cells 55 f_scene_cells] [(0, .ref h), (1, .int x1), (2, .int x2), (3, .int x3)] 0 []
  refine g_aload_n (pl := 0) C dX8_likely_0 rfl rfl ?_
  refine g_iload_n (pl := 1) C dX8_likely_1 rfl rfl ?_
  obtain ⟨z11, e_z11, hs⟩ := vb_ok hs
  refine g_callV (ws' := [oX8 h a_letters f_length a_board a_draft a_scene a_trial a_past a_kept a_seen a_reader a_search a_deal a_line, oX0 a_board a_board_commons a_board_lengths a_board_parts a_board_likenesses f_board_wordCount f_board_likenessCount f_board_actorCount f_board_forbiddenBits f_board_habitTold f_board_priceTold, aI cI a_board_commons 8 f_board_commons, aI cI a_board_lengths 8 f_board_lengths, aI cI a_board_parts 8 f_board_parts, aI cI a_board_likenesses 6 f_board_likenesses, oX4 a_scene a_scene_cells, aI cI a_scene_cells 55 f_scene_cells]) (rest := []) (st' := [.int z11]) C mX8_146 q2_228 [.int x1] (fun l D => cX8_isActor_ct l D cI h a_letters a_board a_draft a_scene a_trial a_past a_kept a_seen a_reader a_search a_deal a_line a_board_commons a_board_lengths a_board_parts a_board_likenesses f_length f_board_wordCount f_board_likenessCount f_board_actorCount f_board_forbiddenBits f_board_habitTold f_board_priceTold x1 e_z11) ⟨⟨rfl, rfl⟩, Nat.le_of_ble_eq_true rfl, Nat.le_of_ble_eq_true rfl⟩ 0 rfl rfl rfl [0, 1] rfl rfl rfl rfl rfl (Nat.le_of_ble_eq_true rfl) (Nat.zero_le _) (Nat.zero_le _) rfl dX8_likely_2 ?_
  refine g_if_eq (tgt := 25) C dX8_likely_5 (by decide) (fun c12 => ?_) (fun c12 => ?_)
  · replace hs := vi_t hs c12
    refine g_iconst (v := (-1)) C dX8_likely_25 rfl ?_
    cases hs
    exact hR _ _ dX8_likely_26
  · replace hs := vi_f hs c12
    refine g_aload_n (pl := 0) C dX8_likely_8 rfl rfl ?_
    refine g_iload_n (pl := 2) C dX8_likely_9 rfl rfl ?_
    obtain ⟨z13, e_z13, hs⟩ := vb_ok hs
    refine g_callV (ws' := [oX8 h a_letters f_length a_board a_draft a_scene a_trial a_past a_kept a_seen a_reader a_search a_deal a_line, oX0 a_board a_board_commons a_board_lengths a_board_parts a_board_likenesses f_board_wordCount f_board_likenessCount f_board_actorCount f_board_forbiddenBits f_board_habitTold f_board_priceTold, aI cI a_board_commons 8 f_board_commons, aI cI a_board_lengths 8 f_board_lengths, aI cI a_board_parts 8 f_board_parts, aI cI a_board_likenesses 6 f_board_likenesses, oX4 a_scene a_scene_cells, aI cI a_scene_cells 55 f_scene_cells]) (rest := []) (st' := [.int z13]) C mX8_123 q2_184 [.int x2] (fun l D => cX8_isWord_ct l D cI h a_letters a_board a_draft a_scene a_trial a_past a_kept a_seen a_reader a_search a_deal a_line a_board_commons a_board_lengths a_board_parts a_board_likenesses f_length f_board_wordCount f_board_likenessCount f_board_actorCount f_board_forbiddenBits f_board_habitTold f_board_priceTold x2 e_z13) ⟨⟨rfl, rfl⟩, Nat.le_of_ble_eq_true rfl, Nat.le_of_ble_eq_true rfl⟩ 0 rfl rfl rfl [0, 1] rfl rfl rfl rfl rfl (Nat.le_of_ble_eq_true rfl) (Nat.zero_le _) (Nat.zero_le _) rfl dX8_likely_10 ?_
    refine g_if_eq (tgt := 25) C dX8_likely_13 (by decide) (fun c14 => ?_) (fun c14 => ?_)
    · replace hs := vi_t hs c14
      refine g_iconst (v := (-1)) C dX8_likely_25 rfl ?_
      cases hs
      exact hR _ _ dX8_likely_26
    · replace hs := vi_f hs c14
      refine g_iload_n (pl := 3) C dX8_likely_16 rfl rfl ?_
      refine g_if_lt (tgt := 25) C dX8_likely_17 (by decide) (fun c15 => ?_) (fun c15 => ?_)
      · replace hs := vi_t hs c15
        refine g_iconst (v := (-1)) C dX8_likely_25 rfl ?_
        cases hs
        exact hR _ _ dX8_likely_26
      · replace hs := vi_f hs c15
        refine g_iload_n (pl := 3) C dX8_likely_20 rfl rfl ?_
        refine g_iconst (v := (nI 1)) C dX8_likely_21 rfl ?_
        refine g_icmp_le (tgt := 27) C dX8_likely_22 (by decide) (fun c16 => ?_) (fun c16 => ?_)
        · replace hs := vi_t hs c16
          refine g_iconst (v := (nI 0)) C dX8_likely_27 rfl ?_
          refine g_istore (lv' := [(4, .int (nI 0)), (0, .ref h), (1, .int x1), (2, .int x2), (3, .int x3)]) C dX8_likely_28 (by decide) rfl ?_
          refine g_iconst (v := (nI 0)) C dX8_likely_30 rfl ?_
          refine g_istore (lv' := [(5, .int (nI 0)), (4, .int (nI 0)), (0, .ref h), (1, .int x1), (2, .int x2), (3, .int x3)]) C dX8_likely_31 (by decide) rfl ?_
          refine g_sub [2, 3, 4, 5, 1, 0] rfl ?_
          exact LX8_likely_33_w C h a_letters a_board a_draft a_scene a_trial a_past a_kept a_seen a_reader a_search a_deal a_line a_board_commons a_board_lengths a_board_parts a_board_likenesses a_scene_cells f_length f_board_wordCount f_board_likenessCount f_board_actorCount f_board_forbiddenBits f_board_habitTold f_board_priceTold f_board_commons f_board_lengths f_board_parts f_board_likenesses f_scene_cells x1 x2 x3 hR _ (nI 0) (nI 0) hs
        · replace hs := vi_f hs c16
          refine g_iconst (v := (-1)) C dX8_likely_25 rfl ?_
          cases hs
          exact hR _ _ dX8_likely_26
def sX8_next (f_board_commons : Nat → Int32) (f_board_lengths : Nat → Int32) (f_board_parts : Nat → Int32) (f_board_likenesses : Nat → Int32) (f_board_wordCount : Int32) (f_board_actorCount : Int32) (f_board_habitTold : Int32) (f_scene_cells : Nat → Int32) (x1 : Int32) : Option (Int32) :=
  vb (sX8_isActor f_board_actorCount x1) fun z1 =>
  vi (z1 = 0) inferInstance (
    some ((-1))) (
    vb (sX4_waits f_scene_cells x1) fun z3 =>
    vi (z3 = 0) inferInstance (
      some ((-2))) (
      vb (sX0_habit f_board_habitTold) fun z5 =>
      vb (sX0_heaviest f_board_commons f_board_lengths f_board_parts f_board_likenesses f_board_wordCount f_scene_cells x1 (nI 31) z5) fun z6 =>
      some (z6)))
abbrev rmX8_next : Room := { frames := 4, cells := 0, slots := 0, locals := 102 }
set_option maxHeartbeats 4000000 in
set_option maxRecDepth 100000 in
theorem cX8_next_ct (l : Launch) (D : va_G) (cI : ClassId) (h : Nat) (a_letters : Nat) (a_board : Nat) (a_draft : Nat) (a_scene : Nat) (a_trial : Nat) (a_past : Nat) (a_kept : Nat) (a_seen : Nat) (a_reader : Nat) (a_search : Nat) (a_deal : Nat) (a_line : Nat) (a_board_commons : Nat) (a_board_lengths : Nat) (a_board_parts : Nat) (a_board_likenesses : Nat) (a_scene_cells : Nat) (f_length : Int32) (f_board_wordCount : Int32) (f_board_likenessCount : Int32) (f_board_actorCount : Int32) (f_board_forbiddenBits : Int32) (f_board_habitTold : Int32) (f_board_priceTold : Int32) (f_board_commons : Nat → Int32) (f_board_lengths : Nat → Int32) (f_board_parts : Nat → Int32) (f_board_likenesses : Nat → Int32) (f_scene_cells : Nat → Int32) (x1 : Int32) {z : Int32} (hs : sX8_next f_board_commons f_board_lengths f_board_parts f_board_likenesses f_board_wordCount f_board_actorCount f_board_habitTold f_scene_cells x1 = some z) : ct l yX8_next (.code yX8_next cX8_next 2 (some .int) :: gtb) rmX8_next D cI [.ref h, .int x1] [oX8 h a_letters f_length a_board a_draft a_scene a_trial a_past a_kept a_seen a_reader a_search a_deal a_line, oX0 a_board a_board_commons a_board_lengths a_board_parts a_board_likenesses f_board_wordCount f_board_likenessCount f_board_actorCount f_board_forbiddenBits f_board_habitTold f_board_priceTold, aI cI a_board_commons 8 f_board_commons, aI cI a_board_lengths 8 f_board_lengths, aI cI a_board_parts 8 f_board_parts, aI cI a_board_likenesses 6 f_board_likenesses, oX4 a_scene a_scene_cells, aI cI a_scene_cells 55 f_scene_cells] (some (.int z)) [oX8 h a_letters f_length a_board a_draft a_scene a_trial a_past a_kept a_seen a_reader a_search a_deal a_line, oX0 a_board a_board_commons a_board_lengths a_board_parts a_board_likenesses f_board_wordCount f_board_likenessCount f_board_actorCount f_board_forbiddenBits f_board_habitTold f_board_priceTold, aI cI a_board_commons 8 f_board_commons, aI cI a_board_lengths 8 f_board_lengths, aI cI a_board_parts 8 f_board_parts, aI cI a_board_likenesses 6 f_board_likenesses, oX4 a_scene a_scene_cells, aI cI a_scene_cells 55 f_scene_cells] := by
  refine ct_ofI (own := RX8) (by decide +kernel) rfl (Nat.le_of_ble_eq_true rfl) (fun X C hD hR => ?_)
  unfold sX8_next at hs
  show gg cI X 2 0 0 [oX8 h a_letters f_length a_board a_draft a_scene a_trial a_past a_kept a_seen a_reader a_search a_deal a_line, oX0 a_board a_board_commons a_board_lengths a_board_parts a_board_likenesses f_board_wordCount f_board_likenessCount f_board_actorCount f_board_forbiddenBits f_board_habitTold f_board_priceTold, aI cI a_board_commons 8 f_board_commons, aI cI a_board_lengths 8 f_board_lengths, aI cI a_board_parts 8 f_board_parts, aI cI a_board_likenesses 6 f_board_likenesses, oX4 a_scene a_scene_cells, aI cI a_scene_cells 55 f_scene_cells] [(0, .ref h), (1, .int x1)] 0 []
  refine g_aload_n (pl := 0) C dX8_next_0 rfl rfl ?_
  refine g_iload_n (pl := 1) C dX8_next_1 rfl rfl ?_
  obtain ⟨z1, e_z1, hs⟩ := vb_ok hs
  refine g_callV (ws' := [oX8 h a_letters f_length a_board a_draft a_scene a_trial a_past a_kept a_seen a_reader a_search a_deal a_line, oX0 a_board a_board_commons a_board_lengths a_board_parts a_board_likenesses f_board_wordCount f_board_likenessCount f_board_actorCount f_board_forbiddenBits f_board_habitTold f_board_priceTold, aI cI a_board_commons 8 f_board_commons, aI cI a_board_lengths 8 f_board_lengths, aI cI a_board_parts 8 f_board_parts, aI cI a_board_likenesses 6 f_board_likenesses, oX4 a_scene a_scene_cells, aI cI a_scene_cells 55 f_scene_cells]) (rest := []) (st' := [.int z1]) C mX8_146 q2_228 [.int x1] (fun l D => cX8_isActor_ct l D cI h a_letters a_board a_draft a_scene a_trial a_past a_kept a_seen a_reader a_search a_deal a_line a_board_commons a_board_lengths a_board_parts a_board_likenesses f_length f_board_wordCount f_board_likenessCount f_board_actorCount f_board_forbiddenBits f_board_habitTold f_board_priceTold x1 e_z1) ⟨⟨rfl, rfl⟩, Nat.le_of_ble_eq_true rfl, Nat.le_of_ble_eq_true rfl⟩ 0 rfl rfl rfl [0, 1] rfl rfl rfl rfl rfl (Nat.le_of_ble_eq_true rfl) (Nat.zero_le _) (Nat.zero_le _) rfl dX8_next_2 ?_
  refine g_if_ne (tgt := 10) C dX8_next_5 (by decide) (fun c2 => ?_) (fun c2 => ?_)
  · replace hs := vi_f hs c2
    refine g_aload_n (pl := 0) C dX8_next_10 rfl rfl ?_
    refine g_get C fX8_26 0 rfl rfl dX8_next_11 ?_
    refine g_iload_n (pl := 1) C dX8_next_14 rfl rfl ?_
    obtain ⟨z3, e_z3, hs⟩ := vb_ok hs
    refine g_callV (ws' := [oX8 h a_letters f_length a_board a_draft a_scene a_trial a_past a_kept a_seen a_reader a_search a_deal a_line, oX0 a_board a_board_commons a_board_lengths a_board_parts a_board_likenesses f_board_wordCount f_board_likenessCount f_board_actorCount f_board_forbiddenBits f_board_habitTold f_board_priceTold, aI cI a_board_commons 8 f_board_commons, aI cI a_board_lengths 8 f_board_lengths, aI cI a_board_parts 8 f_board_parts, aI cI a_board_likenesses 6 f_board_likenesses, oX4 a_scene a_scene_cells, aI cI a_scene_cells 55 f_scene_cells]) (rest := []) (st' := [.int z3]) C mX8_165 q3_13 [.int x1] (fun l D => cX4_waits_ct l D cI a_scene a_scene_cells f_scene_cells x1 e_z3) ⟨⟨rfl, rfl⟩, Nat.le_of_ble_eq_true rfl, Nat.le_of_ble_eq_true rfl⟩ 6 rfl rfl rfl [6, 7] rfl rfl rfl rfl rfl (Nat.le_of_ble_eq_true rfl) (Nat.zero_le _) (Nat.zero_le _) rfl dX8_next_15 ?_
    refine g_if_eq (tgt := 45) C dX8_next_18 (by decide) (fun c4 => ?_) (fun c4 => ?_)
    · replace hs := vi_t hs c4
      refine g_bipush (v := (-2)) C dX8_next_45 rfl ?_
      cases hs
      exact hR _ _ dX8_next_47
    · replace hs := vi_f hs c4
      refine g_aload_n (pl := 0) C dX8_next_21 rfl rfl ?_
      refine g_get C fX8_16 0 rfl rfl dX8_next_22 ?_
      refine g_aload_n (pl := 0) C dX8_next_25 rfl rfl ?_
      refine g_get C fX8_26 0 rfl rfl dX8_next_26 ?_
      refine g_iload_n (pl := 1) C dX8_next_29 rfl rfl ?_
      refine g_bipush (v := (nI 31)) C dX8_next_30 rfl ?_
      refine g_aload_n (pl := 0) C dX8_next_32 rfl rfl ?_
      refine g_get C fX8_16 0 rfl rfl dX8_next_33 ?_
      obtain ⟨z5, e_z5, hs⟩ := vb_ok hs
      refine g_callV (ws' := [oX8 h a_letters f_length a_board a_draft a_scene a_trial a_past a_kept a_seen a_reader a_search a_deal a_line, oX0 a_board a_board_commons a_board_lengths a_board_parts a_board_likenesses f_board_wordCount f_board_likenessCount f_board_actorCount f_board_forbiddenBits f_board_habitTold f_board_priceTold, aI cI a_board_commons 8 f_board_commons, aI cI a_board_lengths 8 f_board_lengths, aI cI a_board_parts 8 f_board_parts, aI cI a_board_likenesses 6 f_board_likenesses, oX4 a_scene a_scene_cells, aI cI a_scene_cells 55 f_scene_cells]) (rest := [.int (nI 31), .int x1, .ref a_scene, .ref a_board]) (st' := [.int z5, .int (nI 31), .int x1, .ref a_scene, .ref a_board]) C mX8_186 q3_40 [] (fun l D => cX0_habit_ct l D cI a_board a_board_commons a_board_lengths a_board_parts a_board_likenesses f_board_wordCount f_board_likenessCount f_board_actorCount f_board_forbiddenBits f_board_habitTold f_board_priceTold e_z5) ⟨⟨rfl, rfl⟩, Nat.le_of_ble_eq_true rfl, Nat.le_of_ble_eq_true rfl⟩ 1 rfl rfl rfl [1] rfl rfl rfl rfl rfl (Nat.le_of_ble_eq_true rfl) (Nat.zero_le _) (Nat.zero_le _) rfl dX8_next_36 ?_
      obtain ⟨z6, e_z6, hs⟩ := vb_ok hs
      refine g_callV (ws' := [oX8 h a_letters f_length a_board a_draft a_scene a_trial a_past a_kept a_seen a_reader a_search a_deal a_line, oX0 a_board a_board_commons a_board_lengths a_board_parts a_board_likenesses f_board_wordCount f_board_likenessCount f_board_actorCount f_board_forbiddenBits f_board_habitTold f_board_priceTold, aI cI a_board_commons 8 f_board_commons, aI cI a_board_lengths 8 f_board_lengths, aI cI a_board_parts 8 f_board_parts, aI cI a_board_likenesses 6 f_board_likenesses, oX4 a_scene a_scene_cells, aI cI a_scene_cells 55 f_scene_cells]) (rest := []) (st' := [.int z6]) C mX8_193 q3_44 [.ref a_scene, .int x1, .int (nI 31), .int z5] (fun l D => cX0_heaviest_ct l D cI a_board a_board_commons a_board_lengths a_board_parts a_board_likenesses a_scene a_scene_cells f_board_wordCount f_board_likenessCount f_board_actorCount f_board_forbiddenBits f_board_habitTold f_board_priceTold f_board_commons f_board_lengths f_board_parts f_board_likenesses f_scene_cells x1 (nI 31) z5 e_z6) ⟨⟨rfl, rfl⟩, Nat.le_of_ble_eq_true rfl, Nat.le_of_ble_eq_true rfl⟩ 1 rfl rfl rfl [1, 2, 3, 4, 5, 6, 7] rfl rfl rfl rfl rfl (Nat.le_of_ble_eq_true rfl) (Nat.zero_le _) (Nat.zero_le _) rfl dX8_next_39 ?_
      refine g_goto (tgt := 47) C dX8_next_42 (by decide) ?_
      cases hs
      exact hR _ _ dX8_next_47
  · replace hs := vi_t hs c2
    refine g_iconst (v := (-1)) C dX8_next_8 rfl ?_
    cases hs
    exact hR _ _ dX8_next_9
def sX8_fewest (f_board_commons : Nat → Int32) (f_board_lengths : Nat → Int32) (f_board_parts : Nat → Int32) (f_board_likenesses : Nat → Int32) (f_board_wordCount : Int32) (f_board_likenessCount : Int32) (f_board_actorCount : Int32) (f_board_forbiddenBits : Int32) (f_board_habitTold : Int32) (f_scene_cells : Nat → Int32) (f_search_free : Nat → Int32) (f_search_factors : Nat → Int32) (f_search_weights : Nat → Int32) (f_search_row : Nat → Int32) (f_search_lengths : Nat → Int32) (f_search_signs : Nat → Int32) (f_search_words : Int32) (f_search_freeCount : Int32) (f_search_open : Int32) (x1 : Int32) (x2 : Int32) (x3 : Int32) : Option (Int32 × (Nat → Int32) × (Nat → Int32) × (Nat → Int32) × (Nat → Int32) × (Nat → Int32) × (Nat → Int32) × Int32 × Int32 × Int32) :=
  vb (sX8_isActor f_board_actorCount x1) fun z1 =>
  vi (z1 = 0) inferInstance (
    some ((-1), f_search_free, f_search_factors, f_search_weights, f_search_row, f_search_lengths, f_search_signs, f_search_words, f_search_freeCount, f_search_open)) (
    vb (sX8_isWord f_board_wordCount x2) fun z3 =>
    vi (z3 = 0) inferInstance (
      some ((-1), f_search_free, f_search_factors, f_search_weights, f_search_row, f_search_lengths, f_search_signs, f_search_words, f_search_freeCount, f_search_open)) (
      vi (x3 < 0) inferInstance (
        some ((-1), f_search_free, f_search_factors, f_search_weights, f_search_row, f_search_lengths, f_search_signs, f_search_words, f_search_freeCount, f_search_open)) (
        vi (x3 ≤ (nI 3)) inferInstance (
          vb (sX4_waits f_scene_cells x1) fun z7 =>
          vi (z7 = 0) inferInstance (
            some ((-2), f_search_free, f_search_factors, f_search_weights, f_search_row, f_search_lengths, f_search_signs, f_search_words, f_search_freeCount, f_search_open)) (
            vb (sX5_run f_search_free f_search_factors f_search_weights f_search_row f_search_lengths f_search_signs f_search_words f_search_freeCount f_search_open f_board_commons f_board_lengths f_board_parts f_board_likenesses f_board_wordCount f_board_likenessCount f_board_forbiddenBits f_board_habitTold f_scene_cells x1) fun z9 =>
            vi (x3 = 0) inferInstance (
              vb (sX5_howMany z9.2.2.2.2.1 z9.2.2.2.2.2.2.1 x2) fun z12 =>
              some (z12, z9.1, z9.2.1, z9.2.2.1, z9.2.2.2.1, z9.2.2.2.2.1, z9.2.2.2.2.2.1, z9.2.2.2.2.2.2.1, z9.2.2.2.2.2.2.2.1, z9.2.2.2.2.2.2.2.2)) (
              vb (sX5_signOf z9.2.2.2.2.1 z9.2.2.2.2.2.1 z9.2.2.2.2.2.2.1 x2 (x3 - (nI 1))) fun z11 =>
              some (z11, z9.1, z9.2.1, z9.2.2.1, z9.2.2.2.1, z9.2.2.2.2.1, z9.2.2.2.2.2.1, z9.2.2.2.2.2.2.1, z9.2.2.2.2.2.2.2.1, z9.2.2.2.2.2.2.2.2)))) (
          some ((-1), f_search_free, f_search_factors, f_search_weights, f_search_row, f_search_lengths, f_search_signs, f_search_words, f_search_freeCount, f_search_open)))))
abbrev rmX8_fewest : Room := { frames := 5, cells := 0, slots := 0, locals := 123 }
set_option maxHeartbeats 4000000 in
set_option maxRecDepth 100000 in
theorem cX8_fewest_ct (l : Launch) (D : va_G) (cI : ClassId) (h : Nat) (a_letters : Nat) (a_board : Nat) (a_draft : Nat) (a_scene : Nat) (a_trial : Nat) (a_past : Nat) (a_kept : Nat) (a_seen : Nat) (a_reader : Nat) (a_search : Nat) (a_deal : Nat) (a_line : Nat) (a_board_commons : Nat) (a_board_lengths : Nat) (a_board_parts : Nat) (a_board_likenesses : Nat) (a_scene_cells : Nat) (a_search_free : Nat) (a_search_factors : Nat) (a_search_weights : Nat) (a_search_row : Nat) (a_search_lengths : Nat) (a_search_signs : Nat) (f_length : Int32) (f_board_wordCount : Int32) (f_board_likenessCount : Int32) (f_board_actorCount : Int32) (f_board_forbiddenBits : Int32) (f_board_habitTold : Int32) (f_board_priceTold : Int32) (f_board_commons : Nat → Int32) (f_board_lengths : Nat → Int32) (f_board_parts : Nat → Int32) (f_board_likenesses : Nat → Int32) (f_scene_cells : Nat → Int32) (f_search_words : Int32) (f_search_freeCount : Int32) (f_search_open : Int32) (f_search_free : Nat → Int32) (f_search_factors : Nat → Int32) (f_search_weights : Nat → Int32) (f_search_row : Nat → Int32) (f_search_lengths : Nat → Int32) (f_search_signs : Nat → Int32) (x1 : Int32) (x2 : Int32) (x3 : Int32) {z : Int32 × (Nat → Int32) × (Nat → Int32) × (Nat → Int32) × (Nat → Int32) × (Nat → Int32) × (Nat → Int32) × Int32 × Int32 × Int32} (hs : sX8_fewest f_board_commons f_board_lengths f_board_parts f_board_likenesses f_board_wordCount f_board_likenessCount f_board_actorCount f_board_forbiddenBits f_board_habitTold f_scene_cells f_search_free f_search_factors f_search_weights f_search_row f_search_lengths f_search_signs f_search_words f_search_freeCount f_search_open x1 x2 x3 = some z) : ct l yX8_fewest (.code yX8_fewest cX8_fewest 4 (some .int) :: gtb) rmX8_fewest D cI [.ref h, .int x1, .int x2, .int x3] [oX8 h a_letters f_length a_board a_draft a_scene a_trial a_past a_kept a_seen a_reader a_search a_deal a_line, oX0 a_board a_board_commons a_board_lengths a_board_parts a_board_likenesses f_board_wordCount f_board_likenessCount f_board_actorCount f_board_forbiddenBits f_board_habitTold f_board_priceTold, aI cI a_board_commons 8 f_board_commons, aI cI a_board_lengths 8 f_board_lengths, aI cI a_board_parts 8 f_board_parts, aI cI a_board_likenesses 6 f_board_likenesses, oX4 a_scene a_scene_cells, aI cI a_scene_cells 55 f_scene_cells, oX5 a_search a_search_free a_search_factors a_search_weights a_search_row a_search_lengths a_search_signs f_search_words f_search_freeCount f_search_open, aI cI a_search_free 15 f_search_free, aI cI a_search_factors 120 f_search_factors, aI cI a_search_weights 32 f_search_weights, aI cI a_search_row 3 f_search_row, aI cI a_search_lengths 8 f_search_lengths, aI cI a_search_signs 24 f_search_signs] (some (.int z.1)) [oX8 h a_letters f_length a_board a_draft a_scene a_trial a_past a_kept a_seen a_reader a_search a_deal a_line, oX0 a_board a_board_commons a_board_lengths a_board_parts a_board_likenesses f_board_wordCount f_board_likenessCount f_board_actorCount f_board_forbiddenBits f_board_habitTold f_board_priceTold, aI cI a_board_commons 8 f_board_commons, aI cI a_board_lengths 8 f_board_lengths, aI cI a_board_parts 8 f_board_parts, aI cI a_board_likenesses 6 f_board_likenesses, oX4 a_scene a_scene_cells, aI cI a_scene_cells 55 f_scene_cells, oX5 a_search a_search_free a_search_factors a_search_weights a_search_row a_search_lengths a_search_signs z.2.2.2.2.2.2.2.1 z.2.2.2.2.2.2.2.2.1 z.2.2.2.2.2.2.2.2.2, aI cI a_search_free 15 z.2.1, aI cI a_search_factors 120 z.2.2.1, aI cI a_search_weights 32 z.2.2.2.1, aI cI a_search_row 3 z.2.2.2.2.1, aI cI a_search_lengths 8 z.2.2.2.2.2.1, aI cI a_search_signs 24 z.2.2.2.2.2.2.1] := by
  refine ct_ofI (own := RX8) (by decide +kernel) rfl (Nat.le_of_ble_eq_true rfl) (fun X C hD hR => ?_)
  unfold sX8_fewest at hs
  show gg cI X 4 0 0 [oX8 h a_letters f_length a_board a_draft a_scene a_trial a_past a_kept a_seen a_reader a_search a_deal a_line, oX0 a_board a_board_commons a_board_lengths a_board_parts a_board_likenesses f_board_wordCount f_board_likenessCount f_board_actorCount f_board_forbiddenBits f_board_habitTold f_board_priceTold, aI cI a_board_commons 8 f_board_commons, aI cI a_board_lengths 8 f_board_lengths, aI cI a_board_parts 8 f_board_parts, aI cI a_board_likenesses 6 f_board_likenesses, oX4 a_scene a_scene_cells, aI cI a_scene_cells 55 f_scene_cells, oX5 a_search a_search_free a_search_factors a_search_weights a_search_row a_search_lengths a_search_signs f_search_words f_search_freeCount f_search_open, aI cI a_search_free 15 f_search_free, aI cI a_search_factors 120 f_search_factors, aI cI a_search_weights 32 f_search_weights, aI cI a_search_row 3 f_search_row, aI cI a_search_lengths 8 f_search_lengths, aI cI a_search_signs 24 f_search_signs] [(0, .ref h), (1, .int x1), (2, .int x2), (3, .int x3)] 0 []
  refine g_aload_n (pl := 0) C dX8_fewest_0 rfl rfl ?_
  refine g_iload_n (pl := 1) C dX8_fewest_1 rfl rfl ?_
  obtain ⟨z1, e_z1, hs⟩ := vb_ok hs
  refine g_callV (ws' := [oX8 h a_letters f_length a_board a_draft a_scene a_trial a_past a_kept a_seen a_reader a_search a_deal a_line, oX0 a_board a_board_commons a_board_lengths a_board_parts a_board_likenesses f_board_wordCount f_board_likenessCount f_board_actorCount f_board_forbiddenBits f_board_habitTold f_board_priceTold, aI cI a_board_commons 8 f_board_commons, aI cI a_board_lengths 8 f_board_lengths, aI cI a_board_parts 8 f_board_parts, aI cI a_board_likenesses 6 f_board_likenesses, oX4 a_scene a_scene_cells, aI cI a_scene_cells 55 f_scene_cells, oX5 a_search a_search_free a_search_factors a_search_weights a_search_row a_search_lengths a_search_signs f_search_words f_search_freeCount f_search_open, aI cI a_search_free 15 f_search_free, aI cI a_search_factors 120 f_search_factors, aI cI a_search_weights 32 f_search_weights, aI cI a_search_row 3 f_search_row, aI cI a_search_lengths 8 f_search_lengths, aI cI a_search_signs 24 f_search_signs]) (rest := []) (st' := [.int z1]) C mX8_146 q2_228 [.int x1] (fun l D => cX8_isActor_ct l D cI h a_letters a_board a_draft a_scene a_trial a_past a_kept a_seen a_reader a_search a_deal a_line a_board_commons a_board_lengths a_board_parts a_board_likenesses f_length f_board_wordCount f_board_likenessCount f_board_actorCount f_board_forbiddenBits f_board_habitTold f_board_priceTold x1 e_z1) ⟨⟨rfl, rfl⟩, Nat.le_of_ble_eq_true rfl, Nat.le_of_ble_eq_true rfl⟩ 0 rfl rfl rfl [0, 1] rfl rfl rfl rfl rfl (Nat.le_of_ble_eq_true rfl) (Nat.zero_le _) (Nat.zero_le _) rfl dX8_fewest_2 ?_
  refine g_if_eq (tgt := 25) C dX8_fewest_5 (by decide) (fun c2 => ?_) (fun c2 => ?_)
  · replace hs := vi_t hs c2
    refine g_iconst (v := (-1)) C dX8_fewest_25 rfl ?_
    cases hs
    exact hR _ _ dX8_fewest_26
  · replace hs := vi_f hs c2
    refine g_aload_n (pl := 0) C dX8_fewest_8 rfl rfl ?_
    refine g_iload_n (pl := 2) C dX8_fewest_9 rfl rfl ?_
    obtain ⟨z3, e_z3, hs⟩ := vb_ok hs
    refine g_callV (ws' := [oX8 h a_letters f_length a_board a_draft a_scene a_trial a_past a_kept a_seen a_reader a_search a_deal a_line, oX0 a_board a_board_commons a_board_lengths a_board_parts a_board_likenesses f_board_wordCount f_board_likenessCount f_board_actorCount f_board_forbiddenBits f_board_habitTold f_board_priceTold, aI cI a_board_commons 8 f_board_commons, aI cI a_board_lengths 8 f_board_lengths, aI cI a_board_parts 8 f_board_parts, aI cI a_board_likenesses 6 f_board_likenesses, oX4 a_scene a_scene_cells, aI cI a_scene_cells 55 f_scene_cells, oX5 a_search a_search_free a_search_factors a_search_weights a_search_row a_search_lengths a_search_signs f_search_words f_search_freeCount f_search_open, aI cI a_search_free 15 f_search_free, aI cI a_search_factors 120 f_search_factors, aI cI a_search_weights 32 f_search_weights, aI cI a_search_row 3 f_search_row, aI cI a_search_lengths 8 f_search_lengths, aI cI a_search_signs 24 f_search_signs]) (rest := []) (st' := [.int z3]) C mX8_123 q2_184 [.int x2] (fun l D => cX8_isWord_ct l D cI h a_letters a_board a_draft a_scene a_trial a_past a_kept a_seen a_reader a_search a_deal a_line a_board_commons a_board_lengths a_board_parts a_board_likenesses f_length f_board_wordCount f_board_likenessCount f_board_actorCount f_board_forbiddenBits f_board_habitTold f_board_priceTold x2 e_z3) ⟨⟨rfl, rfl⟩, Nat.le_of_ble_eq_true rfl, Nat.le_of_ble_eq_true rfl⟩ 0 rfl rfl rfl [0, 1] rfl rfl rfl rfl rfl (Nat.le_of_ble_eq_true rfl) (Nat.zero_le _) (Nat.zero_le _) rfl dX8_fewest_10 ?_
    refine g_if_eq (tgt := 25) C dX8_fewest_13 (by decide) (fun c4 => ?_) (fun c4 => ?_)
    · replace hs := vi_t hs c4
      refine g_iconst (v := (-1)) C dX8_fewest_25 rfl ?_
      cases hs
      exact hR _ _ dX8_fewest_26
    · replace hs := vi_f hs c4
      refine g_iload_n (pl := 3) C dX8_fewest_16 rfl rfl ?_
      refine g_if_lt (tgt := 25) C dX8_fewest_17 (by decide) (fun c5 => ?_) (fun c5 => ?_)
      · replace hs := vi_t hs c5
        refine g_iconst (v := (-1)) C dX8_fewest_25 rfl ?_
        cases hs
        exact hR _ _ dX8_fewest_26
      · replace hs := vi_f hs c5
        refine g_iload_n (pl := 3) C dX8_fewest_20 rfl rfl ?_
        refine g_iconst (v := (nI 3)) C dX8_fewest_21 rfl ?_
        refine g_icmp_le (tgt := 27) C dX8_fewest_22 (by decide) (fun c6 => ?_) (fun c6 => ?_)
        · replace hs := vi_t hs c6
          refine g_aload_n (pl := 0) C dX8_fewest_27 rfl rfl ?_
          refine g_get C fX8_26 0 rfl rfl dX8_fewest_28 ?_
          refine g_iload_n (pl := 1) C dX8_fewest_31 rfl rfl ?_
          obtain ⟨z7, e_z7, hs⟩ := vb_ok hs
          refine g_callV (ws' := [oX8 h a_letters f_length a_board a_draft a_scene a_trial a_past a_kept a_seen a_reader a_search a_deal a_line, oX0 a_board a_board_commons a_board_lengths a_board_parts a_board_likenesses f_board_wordCount f_board_likenessCount f_board_actorCount f_board_forbiddenBits f_board_habitTold f_board_priceTold, aI cI a_board_commons 8 f_board_commons, aI cI a_board_lengths 8 f_board_lengths, aI cI a_board_parts 8 f_board_parts, aI cI a_board_likenesses 6 f_board_likenesses, oX4 a_scene a_scene_cells, aI cI a_scene_cells 55 f_scene_cells, oX5 a_search a_search_free a_search_factors a_search_weights a_search_row a_search_lengths a_search_signs f_search_words f_search_freeCount f_search_open, aI cI a_search_free 15 f_search_free, aI cI a_search_factors 120 f_search_factors, aI cI a_search_weights 32 f_search_weights, aI cI a_search_row 3 f_search_row, aI cI a_search_lengths 8 f_search_lengths, aI cI a_search_signs 24 f_search_signs]) (rest := []) (st' := [.int z7]) C mX8_165 q3_13 [.int x1] (fun l D => cX4_waits_ct l D cI a_scene a_scene_cells f_scene_cells x1 e_z7) ⟨⟨rfl, rfl⟩, Nat.le_of_ble_eq_true rfl, Nat.le_of_ble_eq_true rfl⟩ 6 rfl rfl rfl [6, 7] rfl rfl rfl rfl rfl (Nat.le_of_ble_eq_true rfl) (Nat.zero_le _) (Nat.zero_le _) rfl dX8_fewest_32 ?_
          refine g_if_ne (tgt := 41) C dX8_fewest_35 (by decide) (fun c8 => ?_) (fun c8 => ?_)
          · replace hs := vi_f hs c8
            refine g_aload_n (pl := 0) C dX8_fewest_41 rfl rfl ?_
            refine g_get C fX8_62 0 rfl rfl dX8_fewest_42 ?_
            refine g_aload_n (pl := 0) C dX8_fewest_45 rfl rfl ?_
            refine g_get C fX8_16 0 rfl rfl dX8_fewest_46 ?_
            refine g_aload_n (pl := 0) C dX8_fewest_49 rfl rfl ?_
            refine g_get C fX8_26 0 rfl rfl dX8_fewest_50 ?_
            refine g_iload_n (pl := 1) C dX8_fewest_53 rfl rfl ?_
            obtain ⟨z9, e_z9, hs⟩ := vb_ok hs
            refine g_callV (ws' := [oX8 h a_letters f_length a_board a_draft a_scene a_trial a_past a_kept a_seen a_reader a_search a_deal a_line, oX0 a_board a_board_commons a_board_lengths a_board_parts a_board_likenesses f_board_wordCount f_board_likenessCount f_board_actorCount f_board_forbiddenBits f_board_habitTold f_board_priceTold, aI cI a_board_commons 8 f_board_commons, aI cI a_board_lengths 8 f_board_lengths, aI cI a_board_parts 8 f_board_parts, aI cI a_board_likenesses 6 f_board_likenesses, oX4 a_scene a_scene_cells, aI cI a_scene_cells 55 f_scene_cells, oX5 a_search a_search_free a_search_factors a_search_weights a_search_row a_search_lengths a_search_signs z9.2.2.2.2.2.2.1 z9.2.2.2.2.2.2.2.1 z9.2.2.2.2.2.2.2.2, aI cI a_search_free 15 z9.1, aI cI a_search_factors 120 z9.2.1, aI cI a_search_weights 32 z9.2.2.1, aI cI a_search_row 3 z9.2.2.2.1, aI cI a_search_lengths 8 z9.2.2.2.2.1, aI cI a_search_signs 24 z9.2.2.2.2.2.1]) (rest := []) (st' := []) C mX8_197 q3_123 [.ref a_board, .ref a_scene, .int x1] (fun l D => cX5_run_ct l D cI a_search a_search_free a_search_factors a_search_weights a_search_row a_search_lengths a_search_signs a_board a_board_commons a_board_lengths a_board_parts a_board_likenesses a_scene a_scene_cells f_search_words f_search_freeCount f_search_open f_search_free f_search_factors f_search_weights f_search_row f_search_lengths f_search_signs f_board_wordCount f_board_likenessCount f_board_actorCount f_board_forbiddenBits f_board_habitTold f_board_priceTold f_board_commons f_board_lengths f_board_parts f_board_likenesses f_scene_cells x1 e_z9) ⟨⟨rfl, rfl⟩, Nat.le_of_ble_eq_true rfl, Nat.le_of_ble_eq_true rfl⟩ 8 rfl rfl rfl [8, 9, 10, 11, 12, 13, 14, 1, 2, 3, 4, 5, 6, 7] rfl rfl rfl (by simp only [setM, List.set_cons_zero, List.set_cons_succ]) rfl (Nat.le_of_ble_eq_true rfl) (Nat.zero_le _) (Nat.zero_le _) rfl dX8_fewest_54 ?_
            refine g_iload_n (pl := 3) C dX8_fewest_57 rfl rfl ?_
            refine g_if_ne (tgt := 72) C dX8_fewest_58 (by decide) (fun c10 => ?_) (fun c10 => ?_)
            · replace hs := vi_f hs c10
              refine g_aload_n (pl := 0) C dX8_fewest_72 rfl rfl ?_
              refine g_get C fX8_62 0 rfl rfl dX8_fewest_73 ?_
              refine g_iload_n (pl := 2) C dX8_fewest_76 rfl rfl ?_
              refine g_iload_n (pl := 3) C dX8_fewest_77 rfl rfl ?_
              refine g_iconst (v := (nI 1)) C dX8_fewest_78 rfl ?_
              refine g_isub C dX8_fewest_79 ?_
              obtain ⟨z11, e_z11, hs⟩ := vb_ok hs
              refine g_callV (ws' := [oX8 h a_letters f_length a_board a_draft a_scene a_trial a_past a_kept a_seen a_reader a_search a_deal a_line, oX0 a_board a_board_commons a_board_lengths a_board_parts a_board_likenesses f_board_wordCount f_board_likenessCount f_board_actorCount f_board_forbiddenBits f_board_habitTold f_board_priceTold, aI cI a_board_commons 8 f_board_commons, aI cI a_board_lengths 8 f_board_lengths, aI cI a_board_parts 8 f_board_parts, aI cI a_board_likenesses 6 f_board_likenesses, oX4 a_scene a_scene_cells, aI cI a_scene_cells 55 f_scene_cells, oX5 a_search a_search_free a_search_factors a_search_weights a_search_row a_search_lengths a_search_signs z9.2.2.2.2.2.2.1 z9.2.2.2.2.2.2.2.1 z9.2.2.2.2.2.2.2.2, aI cI a_search_free 15 z9.1, aI cI a_search_factors 120 z9.2.1, aI cI a_search_weights 32 z9.2.2.1, aI cI a_search_row 3 z9.2.2.2.1, aI cI a_search_lengths 8 z9.2.2.2.2.1, aI cI a_search_signs 24 z9.2.2.2.2.2.1]) (rest := []) (st' := [.int z11]) C mX8_204 q3_167 [.int x2, .int (x3 - (nI 1))] (fun l D => cX5_signOf_ct l D cI a_search a_search_free a_search_factors a_search_weights a_search_row a_search_lengths a_search_signs z9.2.2.2.2.2.2.1 z9.2.2.2.2.2.2.2.1 z9.2.2.2.2.2.2.2.2 z9.2.2.2.2.1 z9.2.2.2.2.2.1 x2 (x3 - (nI 1)) e_z11) ⟨⟨rfl, rfl⟩, Nat.le_of_ble_eq_true rfl, Nat.le_of_ble_eq_true rfl⟩ 8 rfl rfl rfl [8, 13, 14] rfl rfl rfl rfl rfl (Nat.le_of_ble_eq_true rfl) (Nat.zero_le _) (Nat.zero_le _) rfl dX8_fewest_80 ?_
              cases hs
              exact hR _ _ dX8_fewest_83
            · replace hs := vi_t hs c10
              refine g_aload_n (pl := 0) C dX8_fewest_61 rfl rfl ?_
              refine g_get C fX8_62 0 rfl rfl dX8_fewest_62 ?_
              refine g_iload_n (pl := 2) C dX8_fewest_65 rfl rfl ?_
              obtain ⟨z12, e_z12, hs⟩ := vb_ok hs
              refine g_callV (ws' := [oX8 h a_letters f_length a_board a_draft a_scene a_trial a_past a_kept a_seen a_reader a_search a_deal a_line, oX0 a_board a_board_commons a_board_lengths a_board_parts a_board_likenesses f_board_wordCount f_board_likenessCount f_board_actorCount f_board_forbiddenBits f_board_habitTold f_board_priceTold, aI cI a_board_commons 8 f_board_commons, aI cI a_board_lengths 8 f_board_lengths, aI cI a_board_parts 8 f_board_parts, aI cI a_board_likenesses 6 f_board_likenesses, oX4 a_scene a_scene_cells, aI cI a_scene_cells 55 f_scene_cells, oX5 a_search a_search_free a_search_factors a_search_weights a_search_row a_search_lengths a_search_signs z9.2.2.2.2.2.2.1 z9.2.2.2.2.2.2.2.1 z9.2.2.2.2.2.2.2.2, aI cI a_search_free 15 z9.1, aI cI a_search_factors 120 z9.2.1, aI cI a_search_weights 32 z9.2.2.1, aI cI a_search_row 3 z9.2.2.2.1, aI cI a_search_lengths 8 z9.2.2.2.2.1, aI cI a_search_signs 24 z9.2.2.2.2.2.1]) (rest := []) (st' := [.int z12]) C mX8_201 q3_163 [.int x2] (fun l D => cX5_howMany_ct l D cI a_search a_search_free a_search_factors a_search_weights a_search_row a_search_lengths a_search_signs z9.2.2.2.2.2.2.1 z9.2.2.2.2.2.2.2.1 z9.2.2.2.2.2.2.2.2 z9.2.2.2.2.1 x2 e_z12) ⟨⟨rfl, rfl⟩, Nat.le_of_ble_eq_true rfl, Nat.le_of_ble_eq_true rfl⟩ 8 rfl rfl rfl [8, 13] rfl rfl rfl rfl rfl (Nat.le_of_ble_eq_true rfl) (Nat.zero_le _) (Nat.zero_le _) rfl dX8_fewest_66 ?_
              refine g_goto (tgt := 83) C dX8_fewest_69 (by decide) ?_
              cases hs
              exact hR _ _ dX8_fewest_83
          · replace hs := vi_t hs c8
            refine g_bipush (v := (-2)) C dX8_fewest_38 rfl ?_
            cases hs
            exact hR _ _ dX8_fewest_40
        · replace hs := vi_f hs c6
          refine g_iconst (v := (-1)) C dX8_fewest_25 rfl ?_
          cases hs
          exact hR _ _ dX8_fewest_26
def sX8_weightBesides (f_board_commons : Nat → Int32) (f_board_lengths : Nat → Int32) (f_board_parts : Nat → Int32) (f_board_likenesses : Nat → Int32) (f_board_habitTold : Int32) (f_scene_cells : Nat → Int32) (x1 : Int32) (x2 : Int32) (x3 : Int32) : Option (Int32) :=
  vb (sX0_habit f_board_habitTold) fun z1 =>
  vb (sX0_weightOf f_board_commons f_board_lengths f_board_parts f_board_likenesses f_scene_cells x1 x2 (nI 31) z1) fun z2 =>
  vb (sX4_cell f_scene_cells x1 (nI 0)) fun z3 =>
  vb (sX0_habit f_board_habitTold) fun z4 =>
  vb (sX0_factor f_board_lengths f_board_parts f_board_likenesses z3 x3 x2 z4) fun z5 =>
  some (z2 * z5)
abbrev rmX8_weightBesides : Room := { frames := 3, cells := 0, slots := 0, locals := 74 }
set_option maxHeartbeats 4000000 in
set_option maxRecDepth 100000 in
theorem cX8_weightBesides_ct (l : Launch) (D : va_G) (cI : ClassId) (h : Nat) (a_letters : Nat) (a_board : Nat) (a_draft : Nat) (a_scene : Nat) (a_trial : Nat) (a_past : Nat) (a_kept : Nat) (a_seen : Nat) (a_reader : Nat) (a_search : Nat) (a_deal : Nat) (a_line : Nat) (a_board_commons : Nat) (a_board_lengths : Nat) (a_board_parts : Nat) (a_board_likenesses : Nat) (a_scene_cells : Nat) (f_length : Int32) (f_board_wordCount : Int32) (f_board_likenessCount : Int32) (f_board_actorCount : Int32) (f_board_forbiddenBits : Int32) (f_board_habitTold : Int32) (f_board_priceTold : Int32) (f_board_commons : Nat → Int32) (f_board_lengths : Nat → Int32) (f_board_parts : Nat → Int32) (f_board_likenesses : Nat → Int32) (f_scene_cells : Nat → Int32) (x1 : Int32) (x2 : Int32) (x3 : Int32) {z : Int32} (hs : sX8_weightBesides f_board_commons f_board_lengths f_board_parts f_board_likenesses f_board_habitTold f_scene_cells x1 x2 x3 = some z) : ct l yX8_weightBesides (.code yX8_weightBesides cX8_weightBesides 4 (some .int) :: gtb) rmX8_weightBesides D cI [.ref h, .int x1, .int x2, .int x3] [oX8 h a_letters f_length a_board a_draft a_scene a_trial a_past a_kept a_seen a_reader a_search a_deal a_line, oX0 a_board a_board_commons a_board_lengths a_board_parts a_board_likenesses f_board_wordCount f_board_likenessCount f_board_actorCount f_board_forbiddenBits f_board_habitTold f_board_priceTold, aI cI a_board_commons 8 f_board_commons, aI cI a_board_lengths 8 f_board_lengths, aI cI a_board_parts 8 f_board_parts, aI cI a_board_likenesses 6 f_board_likenesses, oX4 a_scene a_scene_cells, aI cI a_scene_cells 55 f_scene_cells] (some (.int z)) [oX8 h a_letters f_length a_board a_draft a_scene a_trial a_past a_kept a_seen a_reader a_search a_deal a_line, oX0 a_board a_board_commons a_board_lengths a_board_parts a_board_likenesses f_board_wordCount f_board_likenessCount f_board_actorCount f_board_forbiddenBits f_board_habitTold f_board_priceTold, aI cI a_board_commons 8 f_board_commons, aI cI a_board_lengths 8 f_board_lengths, aI cI a_board_parts 8 f_board_parts, aI cI a_board_likenesses 6 f_board_likenesses, oX4 a_scene a_scene_cells, aI cI a_scene_cells 55 f_scene_cells] := by
  refine ct_ofI (own := RX8) (by decide +kernel) rfl (Nat.le_of_ble_eq_true rfl) (fun X C hD hR => ?_)
  unfold sX8_weightBesides at hs
  show gg cI X 4 0 0 [oX8 h a_letters f_length a_board a_draft a_scene a_trial a_past a_kept a_seen a_reader a_search a_deal a_line, oX0 a_board a_board_commons a_board_lengths a_board_parts a_board_likenesses f_board_wordCount f_board_likenessCount f_board_actorCount f_board_forbiddenBits f_board_habitTold f_board_priceTold, aI cI a_board_commons 8 f_board_commons, aI cI a_board_lengths 8 f_board_lengths, aI cI a_board_parts 8 f_board_parts, aI cI a_board_likenesses 6 f_board_likenesses, oX4 a_scene a_scene_cells, aI cI a_scene_cells 55 f_scene_cells] [(0, .ref h), (1, .int x1), (2, .int x2), (3, .int x3)] 0 []
  refine g_aload_n (pl := 0) C dX8_weightBesides_0 rfl rfl ?_
  refine g_get C fX8_16 0 rfl rfl dX8_weightBesides_1 ?_
  refine g_aload_n (pl := 0) C dX8_weightBesides_4 rfl rfl ?_
  refine g_get C fX8_26 0 rfl rfl dX8_weightBesides_5 ?_
  refine g_iload_n (pl := 1) C dX8_weightBesides_8 rfl rfl ?_
  refine g_iload_n (pl := 2) C dX8_weightBesides_9 rfl rfl ?_
  refine g_bipush (v := (nI 31)) C dX8_weightBesides_10 rfl ?_
  refine g_aload_n (pl := 0) C dX8_weightBesides_12 rfl rfl ?_
  refine g_get C fX8_16 0 rfl rfl dX8_weightBesides_13 ?_
  obtain ⟨z1, e_z1, hs⟩ := vb_ok hs
  refine g_callV (ws' := [oX8 h a_letters f_length a_board a_draft a_scene a_trial a_past a_kept a_seen a_reader a_search a_deal a_line, oX0 a_board a_board_commons a_board_lengths a_board_parts a_board_likenesses f_board_wordCount f_board_likenessCount f_board_actorCount f_board_forbiddenBits f_board_habitTold f_board_priceTold, aI cI a_board_commons 8 f_board_commons, aI cI a_board_lengths 8 f_board_lengths, aI cI a_board_parts 8 f_board_parts, aI cI a_board_likenesses 6 f_board_likenesses, oX4 a_scene a_scene_cells, aI cI a_scene_cells 55 f_scene_cells]) (rest := [.int (nI 31), .int x2, .int x1, .ref a_scene, .ref a_board]) (st' := [.int z1, .int (nI 31), .int x2, .int x1, .ref a_scene, .ref a_board]) C mX8_186 q3_40 [] (fun l D => cX0_habit_ct l D cI a_board a_board_commons a_board_lengths a_board_parts a_board_likenesses f_board_wordCount f_board_likenessCount f_board_actorCount f_board_forbiddenBits f_board_habitTold f_board_priceTold e_z1) ⟨⟨rfl, rfl⟩, Nat.le_of_ble_eq_true rfl, Nat.le_of_ble_eq_true rfl⟩ 1 rfl rfl rfl [1] rfl rfl rfl rfl rfl (Nat.le_of_ble_eq_true rfl) (Nat.zero_le _) (Nat.zero_le _) rfl dX8_weightBesides_16 ?_
  obtain ⟨z2, e_z2, hs⟩ := vb_ok hs
  refine g_callV (ws' := [oX8 h a_letters f_length a_board a_draft a_scene a_trial a_past a_kept a_seen a_reader a_search a_deal a_line, oX0 a_board a_board_commons a_board_lengths a_board_parts a_board_likenesses f_board_wordCount f_board_likenessCount f_board_actorCount f_board_forbiddenBits f_board_habitTold f_board_priceTold, aI cI a_board_commons 8 f_board_commons, aI cI a_board_lengths 8 f_board_lengths, aI cI a_board_parts 8 f_board_parts, aI cI a_board_likenesses 6 f_board_likenesses, oX4 a_scene a_scene_cells, aI cI a_scene_cells 55 f_scene_cells]) (rest := []) (st' := [.int z2]) C mX8_189 q3_48 [.ref a_scene, .int x1, .int x2, .int (nI 31), .int z1] (fun l D => cX0_weightOf_ct l D cI a_board a_board_commons a_board_lengths a_board_parts a_board_likenesses a_scene a_scene_cells f_board_wordCount f_board_likenessCount f_board_actorCount f_board_forbiddenBits f_board_habitTold f_board_priceTold f_board_commons f_board_lengths f_board_parts f_board_likenesses f_scene_cells x1 x2 (nI 31) z1 e_z2) ⟨⟨rfl, rfl⟩, Nat.le_of_ble_eq_true rfl, Nat.le_of_ble_eq_true rfl⟩ 1 rfl rfl rfl [1, 2, 3, 4, 5, 6, 7] rfl rfl rfl rfl rfl (Nat.le_of_ble_eq_true rfl) (Nat.zero_le _) (Nat.zero_le _) rfl dX8_weightBesides_19 ?_
  refine g_aload_n (pl := 0) C dX8_weightBesides_22 rfl rfl ?_
  refine g_get C fX8_16 0 rfl rfl dX8_weightBesides_23 ?_
  refine g_aload_n (pl := 0) C dX8_weightBesides_26 rfl rfl ?_
  refine g_get C fX8_26 0 rfl rfl dX8_weightBesides_27 ?_
  refine g_iload_n (pl := 1) C dX8_weightBesides_30 rfl rfl ?_
  refine g_iconst (v := (nI 0)) C dX8_weightBesides_31 rfl ?_
  obtain ⟨z3, e_z3, hs⟩ := vb_ok hs
  refine g_callV (ws' := [oX8 h a_letters f_length a_board a_draft a_scene a_trial a_past a_kept a_seen a_reader a_search a_deal a_line, oX0 a_board a_board_commons a_board_lengths a_board_parts a_board_likenesses f_board_wordCount f_board_likenessCount f_board_actorCount f_board_forbiddenBits f_board_habitTold f_board_priceTold, aI cI a_board_commons 8 f_board_commons, aI cI a_board_lengths 8 f_board_lengths, aI cI a_board_parts 8 f_board_parts, aI cI a_board_likenesses 6 f_board_likenesses, oX4 a_scene a_scene_cells, aI cI a_scene_cells 55 f_scene_cells]) (rest := [.ref a_board, .int z2]) (st' := [.int z3, .ref a_board, .int z2]) C mX8_149 q2_232 [.int x1, .int (nI 0)] (fun l D => cX4_cell_ct l D cI a_scene a_scene_cells f_scene_cells x1 (nI 0) e_z3) ⟨⟨rfl, rfl⟩, Nat.le_of_ble_eq_true rfl, Nat.le_of_ble_eq_true rfl⟩ 6 rfl rfl rfl [6, 7] rfl rfl rfl rfl rfl (Nat.le_of_ble_eq_true rfl) (Nat.zero_le _) (Nat.zero_le _) rfl dX8_weightBesides_32 ?_
  refine g_iload_n (pl := 3) C dX8_weightBesides_35 rfl rfl ?_
  refine g_iload_n (pl := 2) C dX8_weightBesides_36 rfl rfl ?_
  refine g_aload_n (pl := 0) C dX8_weightBesides_37 rfl rfl ?_
  refine g_get C fX8_16 0 rfl rfl dX8_weightBesides_38 ?_
  obtain ⟨z4, e_z4, hs⟩ := vb_ok hs
  refine g_callV (ws' := [oX8 h a_letters f_length a_board a_draft a_scene a_trial a_past a_kept a_seen a_reader a_search a_deal a_line, oX0 a_board a_board_commons a_board_lengths a_board_parts a_board_likenesses f_board_wordCount f_board_likenessCount f_board_actorCount f_board_forbiddenBits f_board_habitTold f_board_priceTold, aI cI a_board_commons 8 f_board_commons, aI cI a_board_lengths 8 f_board_lengths, aI cI a_board_parts 8 f_board_parts, aI cI a_board_likenesses 6 f_board_likenesses, oX4 a_scene a_scene_cells, aI cI a_scene_cells 55 f_scene_cells]) (rest := [.int x2, .int x3, .int z3, .ref a_board, .int z2]) (st' := [.int z4, .int x2, .int x3, .int z3, .ref a_board, .int z2]) C mX8_186 q3_40 [] (fun l D => cX0_habit_ct l D cI a_board a_board_commons a_board_lengths a_board_parts a_board_likenesses f_board_wordCount f_board_likenessCount f_board_actorCount f_board_forbiddenBits f_board_habitTold f_board_priceTold e_z4) ⟨⟨rfl, rfl⟩, Nat.le_of_ble_eq_true rfl, Nat.le_of_ble_eq_true rfl⟩ 1 rfl rfl rfl [1] rfl rfl rfl rfl rfl (Nat.le_of_ble_eq_true rfl) (Nat.zero_le _) (Nat.zero_le _) rfl dX8_weightBesides_41 ?_
  obtain ⟨z5, e_z5, hs⟩ := vb_ok hs
  refine g_callV (ws' := [oX8 h a_letters f_length a_board a_draft a_scene a_trial a_past a_kept a_seen a_reader a_search a_deal a_line, oX0 a_board a_board_commons a_board_lengths a_board_parts a_board_likenesses f_board_wordCount f_board_likenessCount f_board_actorCount f_board_forbiddenBits f_board_habitTold f_board_priceTold, aI cI a_board_commons 8 f_board_commons, aI cI a_board_lengths 8 f_board_lengths, aI cI a_board_parts 8 f_board_parts, aI cI a_board_likenesses 6 f_board_likenesses, oX4 a_scene a_scene_cells, aI cI a_scene_cells 55 f_scene_cells]) (rest := [.int z2]) (st' := [.int z5, .int z2]) C mX8_248 q3_55 [.int z3, .int x3, .int x2, .int z4] (fun l D => cX0_factor_ct l D cI a_board a_board_commons a_board_lengths a_board_parts a_board_likenesses f_board_wordCount f_board_likenessCount f_board_actorCount f_board_forbiddenBits f_board_habitTold f_board_priceTold f_board_lengths f_board_parts f_board_likenesses z3 x3 x2 z4 e_z5) ⟨⟨rfl, rfl⟩, Nat.le_of_ble_eq_true rfl, Nat.le_of_ble_eq_true rfl⟩ 1 rfl rfl rfl [1, 3, 4, 5] rfl rfl rfl rfl rfl (Nat.le_of_ble_eq_true rfl) (Nat.zero_le _) (Nat.zero_le _) rfl dX8_weightBesides_44 ?_
  refine g_imul C dX8_weightBesides_47 ?_
  cases hs
  exact hR _ _ dX8_weightBesides_48
def LX8_mostTelling_60 (y_1 : Int32) (y_7 : Int32) (f_board_commons : Nat → Int32) (f_board_lengths : Nat → Int32) (f_board_parts : Nat → Int32) (f_board_likenesses : Nat → Int32) (f_board_wordCount : Int32) (f_board_habitTold : Int32) (f_scene_cells : Nat → Int32) (K93 : Int64 → Option (Int32)) : Nat → Int64 → Int32 → Option (Int32)
  | 0, _, _ => none
  | n + 1, y_10, y_12 =>
    vb (sX0_words f_board_wordCount) fun z1 =>
    vi (z1 ≤ y_12) inferInstance (
      K93 y_10) (
      vb (sX8_weightBesides f_board_commons f_board_lengths f_board_parts f_board_likenesses f_board_habitTold f_scene_cells y_1 y_12 y_7) fun z3 =>
      vlet (y_10 + (Int32.toInt64 z3)) fun y4 =>
      vlet (y_12 + (nI 1)) fun y5 =>
      LX8_mostTelling_60 y_1 y_7 f_board_commons f_board_lengths f_board_parts f_board_likenesses f_board_wordCount f_board_habitTold f_scene_cells K93 n y4 y5)
def LX8_mostTelling_11 (y_1 : Int32) (f_board_commons : Nat → Int32) (f_board_lengths : Nat → Int32) (f_board_parts : Nat → Int32) (f_board_likenesses : Nat → Int32) (f_board_wordCount : Int32) (f_board_likenessCount : Int32) (f_board_forbiddenBits : Int32) (f_board_habitTold : Int32) (f_scene_cells : Nat → Int32) : Nat → Int32 → Int64 → Int64 → Int32 → Option (Int32)
  | 0, _, _, _, _ => none
  | n + 1, y_2, y_3, y_5, y_7 =>
    vb (sX0_signs f_board_likenessCount) fun z6 =>
    vi (z6 ≤ y_7) inferInstance (
      some (y_2)) (
      vb (sX0_isForbidden f_board_forbiddenBits y_7) fun z8 =>
      vi (z8 = 0) inferInstance (
        vb (sX4_cell f_scene_cells y_1 (nI 1)) fun z11 =>
        vb (sX8_weightBesides f_board_commons f_board_lengths f_board_parts f_board_likenesses f_board_habitTold f_scene_cells y_1 z11 y_7) fun z12 =>
        vlet (Int32.toInt64 z12) fun y13 =>
        LX8_mostTelling_60 y_1 y_7 f_board_commons f_board_lengths f_board_parts f_board_likenesses f_board_wordCount f_board_habitTold f_scene_cells (fun (v14 : Int64) =>
            vi ((lg_cmp v14 (lN 0)) ≤ 0) inferInstance (
              vi (y_2 = (-4)) inferInstance (
                vlet (y_7 + (nI 1)) fun y17 =>
                LX8_mostTelling_11 y_1 f_board_commons f_board_lengths f_board_parts f_board_likenesses f_board_wordCount f_board_likenessCount f_board_forbiddenBits f_board_habitTold f_scene_cells n y_7 y13 (lN 1) y17) (
                vi ((lg_cmp (y13 * y_5) (y_3 * (lN 1))) ≤ 0) inferInstance (
                  vlet (y_7 + (nI 1)) fun y19 =>
                  LX8_mostTelling_11 y_1 f_board_commons f_board_lengths f_board_parts f_board_likenesses f_board_wordCount f_board_likenessCount f_board_forbiddenBits f_board_habitTold f_scene_cells n y_2 y_3 y_5 y19) (
                  vlet (y_7 + (nI 1)) fun y20 =>
                  LX8_mostTelling_11 y_1 f_board_commons f_board_lengths f_board_parts f_board_likenesses f_board_wordCount f_board_likenessCount f_board_forbiddenBits f_board_habitTold f_scene_cells n y_7 y13 (lN 1) y20))) (
              vi (y_2 = (-4)) inferInstance (
                vlet (y_7 + (nI 1)) fun y22 =>
                LX8_mostTelling_11 y_1 f_board_commons f_board_lengths f_board_parts f_board_likenesses f_board_wordCount f_board_likenessCount f_board_forbiddenBits f_board_habitTold f_scene_cells n y_7 y13 v14 y22) (
                vi ((lg_cmp (y13 * y_5) (y_3 * v14)) ≤ 0) inferInstance (
                  vlet (y_7 + (nI 1)) fun y24 =>
                  LX8_mostTelling_11 y_1 f_board_commons f_board_lengths f_board_parts f_board_likenesses f_board_wordCount f_board_likenessCount f_board_forbiddenBits f_board_habitTold f_scene_cells n y_2 y_3 y_5 y24) (
                  vlet (y_7 + (nI 1)) fun y25 =>
                  LX8_mostTelling_11 y_1 f_board_commons f_board_lengths f_board_parts f_board_likenesses f_board_wordCount f_board_likenessCount f_board_forbiddenBits f_board_habitTold f_scene_cells n y_7 y13 v14 y25)))) vF (lN 0) (nI 0)) (
        vlet (y_7 + (nI 1)) fun y10 =>
        LX8_mostTelling_11 y_1 f_board_commons f_board_lengths f_board_parts f_board_likenesses f_board_wordCount f_board_likenessCount f_board_forbiddenBits f_board_habitTold f_scene_cells n y_2 y_3 y_5 y10))
def sX8_mostTelling (f_board_commons : Nat → Int32) (f_board_lengths : Nat → Int32) (f_board_parts : Nat → Int32) (f_board_likenesses : Nat → Int32) (f_board_wordCount : Int32) (f_board_likenessCount : Int32) (f_board_forbiddenBits : Int32) (f_board_habitTold : Int32) (f_scene_cells : Nat → Int32) (x1 : Int32) : Option (Int32) :=
  LX8_mostTelling_11 x1 f_board_commons f_board_lengths f_board_parts f_board_likenesses f_board_wordCount f_board_likenessCount f_board_forbiddenBits f_board_habitTold f_scene_cells vF (-4) (lN 0) (lN 1) (nI 0)
abbrev rmX8_mostTelling : Room := { frames := 4, cells := 0, slots := 0, locals := 97 }
set_option maxHeartbeats 4000000 in
set_option maxRecDepth 100000 in
theorem LX8_mostTelling_60_w {cI : ClassId} {X : xT} (C : cx cI X 13 cX8_mostTelling RX8 rmX8_mostTelling) (h : Nat) (a_letters : Nat) (a_board : Nat) (a_draft : Nat) (a_scene : Nat) (a_trial : Nat) (a_past : Nat) (a_kept : Nat) (a_seen : Nat) (a_reader : Nat) (a_search : Nat) (a_deal : Nat) (a_line : Nat) (a_board_commons : Nat) (a_board_lengths : Nat) (a_board_parts : Nat) (a_board_likenesses : Nat) (a_scene_cells : Nat) (f_length : Int32) (f_board_wordCount : Int32) (f_board_likenessCount : Int32) (f_board_actorCount : Int32) (f_board_forbiddenBits : Int32) (f_board_habitTold : Int32) (f_board_priceTold : Int32) (f_board_commons : Nat → Int32) (f_board_lengths : Nat → Int32) (f_board_parts : Nat → Int32) (f_board_likenesses : Nat → Int32) (f_scene_cells : Nat → Int32) (y_1 : Int32) (y_2 : Int32) (y_3 : Int64) (y_5 : Int64) (y_7 : Int32) (y_8 : Int64) {z : Int32} (hR : ∀ (lv : List (Nat × Value)) (pc : Nat), decode cX8_mostTelling pc = .ok (.ireturn, 1) → gg cI X 13 0 0 [oX8 h a_letters f_length a_board a_draft a_scene a_trial a_past a_kept a_seen a_reader a_search a_deal a_line, oX0 a_board a_board_commons a_board_lengths a_board_parts a_board_likenesses f_board_wordCount f_board_likenessCount f_board_actorCount f_board_forbiddenBits f_board_habitTold f_board_priceTold, aI cI a_board_commons 8 f_board_commons, aI cI a_board_lengths 8 f_board_lengths, aI cI a_board_parts 8 f_board_parts, aI cI a_board_likenesses 6 f_board_likenesses, oX4 a_scene a_scene_cells, aI cI a_scene_cells 55 f_scene_cells] lv pc [.int z]) {K93 : Int64 → Option (Int32)} (hK93 : ∀ (k_10 : Int64), K93 k_10 = some z → gg cI X 13 0 0 [oX8 h a_letters f_length a_board a_draft a_scene a_trial a_past a_kept a_seen a_reader a_search a_deal a_line, oX0 a_board a_board_commons a_board_lengths a_board_parts a_board_likenesses f_board_wordCount f_board_likenessCount f_board_actorCount f_board_forbiddenBits f_board_habitTold f_board_priceTold, aI cI a_board_commons 8 f_board_commons, aI cI a_board_lengths 8 f_board_lengths, aI cI a_board_parts 8 f_board_parts, aI cI a_board_likenesses 6 f_board_likenesses, oX4 a_scene a_scene_cells, aI cI a_scene_cells 55 f_scene_cells] [(0, .ref h), (1, .int y_1), (2, .int y_2), (3, .long y_3), (5, .long y_5), (7, .int y_7), (8, .long y_8), (10, .long k_10)] 93 []) : ∀ (n : Nat) (y_10 : Int64) (y_12 : Int32), LX8_mostTelling_60 y_1 y_7 f_board_commons f_board_lengths f_board_parts f_board_likenesses f_board_wordCount f_board_habitTold f_scene_cells K93 n y_10 y_12 = some z → gg cI X 13 0 0 [oX8 h a_letters f_length a_board a_draft a_scene a_trial a_past a_kept a_seen a_reader a_search a_deal a_line, oX0 a_board a_board_commons a_board_lengths a_board_parts a_board_likenesses f_board_wordCount f_board_likenessCount f_board_actorCount f_board_forbiddenBits f_board_habitTold f_board_priceTold, aI cI a_board_commons 8 f_board_commons, aI cI a_board_lengths 8 f_board_lengths, aI cI a_board_parts 8 f_board_parts, aI cI a_board_likenesses 6 f_board_likenesses, oX4 a_scene a_scene_cells, aI cI a_scene_cells 55 f_scene_cells] [(0, .ref h), (1, .int y_1), (2, .int y_2), (3, .long y_3), (5, .long y_5), (7, .int y_7), (8, .long y_8), (10, .long y_10), (12, .int y_12)] 60 [] := by
  intro n
  induction n with
  | zero =>
    intro y_10 y_12 hs
    exact nn_ok hs
  | succ n ih =>
    intro y_10 y_12 hs
    rw [LX8_mostTelling_60] at hs
    refine g_iload (pl := 8) C dX8_mostTelling_60 rfl ?_
    refine g_aload_n (pl := 0) C dX8_mostTelling_62 rfl rfl ?_
    refine g_get C fX8_16 0 rfl rfl dX8_mostTelling_63 ?_
    obtain ⟨z1, e_z1, hs⟩ := vb_ok hs
    refine g_callV (ws' := [oX8 h a_letters f_length a_board a_draft a_scene a_trial a_past a_kept a_seen a_reader a_search a_deal a_line, oX0 a_board a_board_commons a_board_lengths a_board_parts a_board_likenesses f_board_wordCount f_board_likenessCount f_board_actorCount f_board_forbiddenBits f_board_habitTold f_board_priceTold, aI cI a_board_commons 8 f_board_commons, aI cI a_board_lengths 8 f_board_lengths, aI cI a_board_parts 8 f_board_parts, aI cI a_board_likenesses 6 f_board_likenesses, oX4 a_scene a_scene_cells, aI cI a_scene_cells 55 f_scene_cells]) (rest := [.int y_12]) (st' := [.int z1, .int y_12]) C mX8_108 q2_57 [] (fun l D => cX0_words_ct l D cI a_board a_board_commons a_board_lengths a_board_parts a_board_likenesses f_board_wordCount f_board_likenessCount f_board_actorCount f_board_forbiddenBits f_board_habitTold f_board_priceTold e_z1) ⟨⟨rfl, rfl⟩, Nat.le_of_ble_eq_true rfl, Nat.le_of_ble_eq_true rfl⟩ 1 rfl rfl rfl [1] rfl rfl rfl rfl rfl (Nat.le_of_ble_eq_true rfl) (Nat.zero_le _) (Nat.zero_le _) rfl dX8_mostTelling_66 ?_
    refine g_icmp_ge (tgt := 93) C dX8_mostTelling_69 (by decide) (fun c2 => ?_) (fun c2 => ?_)
    · replace hs := vi_t hs c2
      refine g_sub [0, 1, 2, 3, 4, 5, 6, 7] rfl ?_
      exact hK93 y_10 hs
    · replace hs := vi_f hs c2
      refine g_lload (pl := 7) C dX8_mostTelling_72 rfl ?_
      refine g_aload_n (pl := 0) C dX8_mostTelling_74 rfl rfl ?_
      refine g_iload_n (pl := 1) C dX8_mostTelling_75 rfl rfl ?_
      refine g_iload (pl := 8) C dX8_mostTelling_76 rfl ?_
      refine g_iload (pl := 5) C dX8_mostTelling_78 rfl ?_
      obtain ⟨z3, e_z3, hs⟩ := vb_ok hs
      refine g_callV (ws' := [oX8 h a_letters f_length a_board a_draft a_scene a_trial a_past a_kept a_seen a_reader a_search a_deal a_line, oX0 a_board a_board_commons a_board_lengths a_board_parts a_board_likenesses f_board_wordCount f_board_likenessCount f_board_actorCount f_board_forbiddenBits f_board_habitTold f_board_priceTold, aI cI a_board_commons 8 f_board_commons, aI cI a_board_lengths 8 f_board_lengths, aI cI a_board_parts 8 f_board_parts, aI cI a_board_likenesses 6 f_board_likenesses, oX4 a_scene a_scene_cells, aI cI a_scene_cells 55 f_scene_cells]) (rest := [.long y_10]) (st' := [.int z3, .long y_10]) C mX8_293 q3_180 [.int y_1, .int y_12, .int y_7] (fun l D => cX8_weightBesides_ct l D cI h a_letters a_board a_draft a_scene a_trial a_past a_kept a_seen a_reader a_search a_deal a_line a_board_commons a_board_lengths a_board_parts a_board_likenesses a_scene_cells f_length f_board_wordCount f_board_likenessCount f_board_actorCount f_board_forbiddenBits f_board_habitTold f_board_priceTold f_board_commons f_board_lengths f_board_parts f_board_likenesses f_scene_cells y_1 y_12 y_7 e_z3) ⟨⟨rfl, rfl⟩, Nat.le_of_ble_eq_true rfl, Nat.le_of_ble_eq_true rfl⟩ 0 rfl rfl rfl [0, 1, 2, 3, 4, 5, 6, 7] rfl rfl rfl rfl rfl (Nat.le_of_ble_eq_true rfl) (Nat.zero_le _) (Nat.zero_le _) rfl dX8_mostTelling_80 ?_
      refine g_i2l C dX8_mostTelling_83 ?_
      refine g_ladd C dX8_mostTelling_84 ?_
      obtain ⟨y4, e_y4, hs⟩ := vlet_ex hs
      refine g_topl e_y4 ?_
      refine g_lstore (lv' := [(10, .long y4), (0, .ref h), (1, .int y_1), (2, .int y_2), (3, .long y_3), (5, .long y_5), (7, .int y_7), (8, .long y_8), (12, .int y_12)]) C dX8_mostTelling_85 (by decide) rfl ?_
      obtain ⟨y5, e_y5, hs⟩ := vlet_ex hs
      refine g_iinc (pl := 8) (lv' := [(12, .int y5), (10, .long y4), (0, .ref h), (1, .int y_1), (2, .int y_2), (3, .long y_3), (5, .long y_5), (7, .int y_7), (8, .long y_8)]) C dX8_mostTelling_87 rfl e_y5.symm (by decide) rfl ?_
      refine g_goto (tgt := 60) C dX8_mostTelling_90 (by decide) ?_
      refine g_sub [2, 3, 4, 5, 6, 7, 8, 1, 0] rfl ?_
      exact ih y4 y5 hs
set_option maxHeartbeats 4000000 in
set_option maxRecDepth 100000 in
theorem LX8_mostTelling_11_w {cI : ClassId} {X : xT} (C : cx cI X 13 cX8_mostTelling RX8 rmX8_mostTelling) (h : Nat) (a_letters : Nat) (a_board : Nat) (a_draft : Nat) (a_scene : Nat) (a_trial : Nat) (a_past : Nat) (a_kept : Nat) (a_seen : Nat) (a_reader : Nat) (a_search : Nat) (a_deal : Nat) (a_line : Nat) (a_board_commons : Nat) (a_board_lengths : Nat) (a_board_parts : Nat) (a_board_likenesses : Nat) (a_scene_cells : Nat) (f_length : Int32) (f_board_wordCount : Int32) (f_board_likenessCount : Int32) (f_board_actorCount : Int32) (f_board_forbiddenBits : Int32) (f_board_habitTold : Int32) (f_board_priceTold : Int32) (f_board_commons : Nat → Int32) (f_board_lengths : Nat → Int32) (f_board_parts : Nat → Int32) (f_board_likenesses : Nat → Int32) (f_scene_cells : Nat → Int32) (y_1 : Int32) {z : Int32} (hR : ∀ (lv : List (Nat × Value)) (pc : Nat), decode cX8_mostTelling pc = .ok (.ireturn, 1) → gg cI X 13 0 0 [oX8 h a_letters f_length a_board a_draft a_scene a_trial a_past a_kept a_seen a_reader a_search a_deal a_line, oX0 a_board a_board_commons a_board_lengths a_board_parts a_board_likenesses f_board_wordCount f_board_likenessCount f_board_actorCount f_board_forbiddenBits f_board_habitTold f_board_priceTold, aI cI a_board_commons 8 f_board_commons, aI cI a_board_lengths 8 f_board_lengths, aI cI a_board_parts 8 f_board_parts, aI cI a_board_likenesses 6 f_board_likenesses, oX4 a_scene a_scene_cells, aI cI a_scene_cells 55 f_scene_cells] lv pc [.int z]) : ∀ (n : Nat) (y_2 : Int32) (y_3 : Int64) (y_5 : Int64) (y_7 : Int32), LX8_mostTelling_11 y_1 f_board_commons f_board_lengths f_board_parts f_board_likenesses f_board_wordCount f_board_likenessCount f_board_forbiddenBits f_board_habitTold f_scene_cells n y_2 y_3 y_5 y_7 = some z → gg cI X 13 0 0 [oX8 h a_letters f_length a_board a_draft a_scene a_trial a_past a_kept a_seen a_reader a_search a_deal a_line, oX0 a_board a_board_commons a_board_lengths a_board_parts a_board_likenesses f_board_wordCount f_board_likenessCount f_board_actorCount f_board_forbiddenBits f_board_habitTold f_board_priceTold, aI cI a_board_commons 8 f_board_commons, aI cI a_board_lengths 8 f_board_lengths, aI cI a_board_parts 8 f_board_parts, aI cI a_board_likenesses 6 f_board_likenesses, oX4 a_scene a_scene_cells, aI cI a_scene_cells 55 f_scene_cells] [(0, .ref h), (1, .int y_1), (2, .int y_2), (3, .long y_3), (5, .long y_5), (7, .int y_7)] 11 [] := by
  intro n
  induction n with
  | zero =>
    intro y_2 y_3 y_5 y_7 hs
    exact nn_ok hs
  | succ n ih =>
    intro y_2 y_3 y_5 y_7 hs
    rw [LX8_mostTelling_11] at hs
    refine g_iload (pl := 5) C dX8_mostTelling_11 rfl ?_
    refine g_aload_n (pl := 0) C dX8_mostTelling_13 rfl rfl ?_
    refine g_get C fX8_16 0 rfl rfl dX8_mostTelling_14 ?_
    obtain ⟨z6, e_z6, hs⟩ := vb_ok hs
    refine g_callV (ws' := [oX8 h a_letters f_length a_board a_draft a_scene a_trial a_past a_kept a_seen a_reader a_search a_deal a_line, oX0 a_board a_board_commons a_board_lengths a_board_parts a_board_likenesses f_board_wordCount f_board_likenessCount f_board_actorCount f_board_forbiddenBits f_board_habitTold f_board_priceTold, aI cI a_board_commons 8 f_board_commons, aI cI a_board_lengths 8 f_board_lengths, aI cI a_board_parts 8 f_board_parts, aI cI a_board_likenesses 6 f_board_likenesses, oX4 a_scene a_scene_cells, aI cI a_scene_cells 55 f_scene_cells]) (rest := [.int y_7]) (st' := [.int z6, .int y_7]) C mX8_245 q2_216 [] (fun l D => cX0_signs_ct l D cI a_board a_board_commons a_board_lengths a_board_parts a_board_likenesses f_board_wordCount f_board_likenessCount f_board_actorCount f_board_forbiddenBits f_board_habitTold f_board_priceTold e_z6) ⟨⟨rfl, rfl⟩, Nat.le_of_ble_eq_true rfl, Nat.le_of_ble_eq_true rfl⟩ 1 rfl rfl rfl [1] rfl rfl rfl rfl rfl (Nat.le_of_ble_eq_true rfl) (Nat.zero_le _) (Nat.zero_le _) rfl dX8_mostTelling_17 ?_
    refine g_icmp_ge (tgt := 143) C dX8_mostTelling_20 (by decide) (fun c7 => ?_) (fun c7 => ?_)
    · replace hs := vi_t hs c7
      refine g_iload_n (pl := 2) C dX8_mostTelling_143 rfl rfl ?_
      cases hs
      exact hR _ _ dX8_mostTelling_144
    · replace hs := vi_f hs c7
      refine g_aload_n (pl := 0) C dX8_mostTelling_23 rfl rfl ?_
      refine g_get C fX8_16 0 rfl rfl dX8_mostTelling_24 ?_
      refine g_iload (pl := 5) C dX8_mostTelling_27 rfl ?_
      obtain ⟨z8, e_z8, hs⟩ := vb_ok hs
      refine g_callV (ws' := [oX8 h a_letters f_length a_board a_draft a_scene a_trial a_past a_kept a_seen a_reader a_search a_deal a_line, oX0 a_board a_board_commons a_board_lengths a_board_parts a_board_likenesses f_board_wordCount f_board_likenessCount f_board_actorCount f_board_forbiddenBits f_board_habitTold f_board_priceTold, aI cI a_board_commons 8 f_board_commons, aI cI a_board_lengths 8 f_board_lengths, aI cI a_board_parts 8 f_board_parts, aI cI a_board_likenesses 6 f_board_likenesses, oX4 a_scene a_scene_cells, aI cI a_scene_cells 55 f_scene_cells]) (rest := []) (st' := [.int z8]) C mX8_143 q2_220 [.int y_7] (fun l D => cX0_isForbidden_ct l D cI a_board a_board_commons a_board_lengths a_board_parts a_board_likenesses f_board_wordCount f_board_likenessCount f_board_actorCount f_board_forbiddenBits f_board_habitTold f_board_priceTold y_7 e_z8) ⟨⟨rfl, rfl⟩, Nat.le_of_ble_eq_true rfl, Nat.le_of_ble_eq_true rfl⟩ 1 rfl rfl rfl [1] rfl rfl rfl rfl rfl (Nat.le_of_ble_eq_true rfl) (Nat.zero_le _) (Nat.zero_le _) rfl dX8_mostTelling_29 ?_
      refine g_if_ne (tgt := 137) C dX8_mostTelling_32 (by decide) (fun c9 => ?_) (fun c9 => ?_)
      · replace hs := vi_f hs c9
        obtain ⟨y10, e_y10, hs⟩ := vlet_ex hs
        refine g_iinc (pl := 5) (lv' := [(7, .int y10), (0, .ref h), (1, .int y_1), (2, .int y_2), (3, .long y_3), (5, .long y_5)]) C dX8_mostTelling_137 rfl e_y10.symm (by decide) rfl ?_
        refine g_goto (tgt := 11) C dX8_mostTelling_140 (by decide) ?_
        refine g_sub [1, 2, 3, 4, 5, 0] rfl ?_
        exact ih y_2 y_3 y_5 y10 hs
      · replace hs := vi_t hs c9
        refine g_aload_n (pl := 0) C dX8_mostTelling_35 rfl rfl ?_
        refine g_iload_n (pl := 1) C dX8_mostTelling_36 rfl rfl ?_
        refine g_aload_n (pl := 0) C dX8_mostTelling_37 rfl rfl ?_
        refine g_get C fX8_26 0 rfl rfl dX8_mostTelling_38 ?_
        refine g_iload_n (pl := 1) C dX8_mostTelling_41 rfl rfl ?_
        refine g_iconst (v := (nI 1)) C dX8_mostTelling_42 rfl ?_
        obtain ⟨z11, e_z11, hs⟩ := vb_ok hs
        refine g_callV (ws' := [oX8 h a_letters f_length a_board a_draft a_scene a_trial a_past a_kept a_seen a_reader a_search a_deal a_line, oX0 a_board a_board_commons a_board_lengths a_board_parts a_board_likenesses f_board_wordCount f_board_likenessCount f_board_actorCount f_board_forbiddenBits f_board_habitTold f_board_priceTold, aI cI a_board_commons 8 f_board_commons, aI cI a_board_lengths 8 f_board_lengths, aI cI a_board_parts 8 f_board_parts, aI cI a_board_likenesses 6 f_board_likenesses, oX4 a_scene a_scene_cells, aI cI a_scene_cells 55 f_scene_cells]) (rest := [.int y_1, .ref h]) (st' := [.int z11, .int y_1, .ref h]) C mX8_149 q2_232 [.int y_1, .int (nI 1)] (fun l D => cX4_cell_ct l D cI a_scene a_scene_cells f_scene_cells y_1 (nI 1) e_z11) ⟨⟨rfl, rfl⟩, Nat.le_of_ble_eq_true rfl, Nat.le_of_ble_eq_true rfl⟩ 6 rfl rfl rfl [6, 7] rfl rfl rfl rfl rfl (Nat.le_of_ble_eq_true rfl) (Nat.zero_le _) (Nat.zero_le _) rfl dX8_mostTelling_43 ?_
        refine g_iload (pl := 5) C dX8_mostTelling_46 rfl ?_
        obtain ⟨z12, e_z12, hs⟩ := vb_ok hs
        refine g_callV (ws' := [oX8 h a_letters f_length a_board a_draft a_scene a_trial a_past a_kept a_seen a_reader a_search a_deal a_line, oX0 a_board a_board_commons a_board_lengths a_board_parts a_board_likenesses f_board_wordCount f_board_likenessCount f_board_actorCount f_board_forbiddenBits f_board_habitTold f_board_priceTold, aI cI a_board_commons 8 f_board_commons, aI cI a_board_lengths 8 f_board_lengths, aI cI a_board_parts 8 f_board_parts, aI cI a_board_likenesses 6 f_board_likenesses, oX4 a_scene a_scene_cells, aI cI a_scene_cells 55 f_scene_cells]) (rest := []) (st' := [.int z12]) C mX8_293 q3_180 [.int y_1, .int z11, .int y_7] (fun l D => cX8_weightBesides_ct l D cI h a_letters a_board a_draft a_scene a_trial a_past a_kept a_seen a_reader a_search a_deal a_line a_board_commons a_board_lengths a_board_parts a_board_likenesses a_scene_cells f_length f_board_wordCount f_board_likenessCount f_board_actorCount f_board_forbiddenBits f_board_habitTold f_board_priceTold f_board_commons f_board_lengths f_board_parts f_board_likenesses f_scene_cells y_1 z11 y_7 e_z12) ⟨⟨rfl, rfl⟩, Nat.le_of_ble_eq_true rfl, Nat.le_of_ble_eq_true rfl⟩ 0 rfl rfl rfl [0, 1, 2, 3, 4, 5, 6, 7] rfl rfl rfl rfl rfl (Nat.le_of_ble_eq_true rfl) (Nat.zero_le _) (Nat.zero_le _) rfl dX8_mostTelling_48 ?_
        refine g_i2l C dX8_mostTelling_51 ?_
        obtain ⟨y13, e_y13, hs⟩ := vlet_ex hs
        refine g_topl e_y13 ?_
        refine g_lstore (lv' := [(8, .long y13), (0, .ref h), (1, .int y_1), (2, .int y_2), (3, .long y_3), (5, .long y_5), (7, .int y_7)]) C dX8_mostTelling_52 (by decide) rfl ?_
        refine g_lconst (v := (lN 0)) C dX8_mostTelling_54 rfl ?_
        refine g_lstore (lv' := [(10, .long (lN 0)), (8, .long y13), (0, .ref h), (1, .int y_1), (2, .int y_2), (3, .long y_3), (5, .long y_5), (7, .int y_7)]) C dX8_mostTelling_55 (by decide) rfl ?_
        refine g_iconst (v := (nI 0)) C dX8_mostTelling_57 rfl ?_
        refine g_istore (lv' := [(12, .int (nI 0)), (10, .long (lN 0)), (8, .long y13), (0, .ref h), (1, .int y_1), (2, .int y_2), (3, .long y_3), (5, .long y_5), (7, .int y_7)]) C dX8_mostTelling_58 (by decide) rfl ?_
        refine g_sub [3, 4, 5, 6, 7, 8, 2, 1, 0] rfl ?_
        refine LX8_mostTelling_60_w C h a_letters a_board a_draft a_scene a_trial a_past a_kept a_seen a_reader a_search a_deal a_line a_board_commons a_board_lengths a_board_parts a_board_likenesses a_scene_cells f_length f_board_wordCount f_board_likenessCount f_board_actorCount f_board_forbiddenBits f_board_habitTold f_board_priceTold f_board_commons f_board_lengths f_board_parts f_board_likenesses f_scene_cells y_1 y_2 y_3 y_5 y_7 y13 hR ?_ _ (lN 0) (nI 0) hs
        · intro v14 hs
          refine g_lload (pl := 7) C dX8_mostTelling_93 rfl ?_
          refine g_lconst (v := (lN 0)) C dX8_mostTelling_95 rfl ?_
          refine g_lcmp C dX8_mostTelling_96 ?_
          refine g_if_le (tgt := 105) C dX8_mostTelling_97 (by decide) (fun c15 => ?_) (fun c15 => ?_)
          · replace hs := vi_t hs c15
            refine g_lconst (v := (lN 1)) C dX8_mostTelling_105 rfl ?_
            refine g_lstore (lv' := [(10, .long (lN 1)), (0, .ref h), (1, .int y_1), (2, .int y_2), (3, .long y_3), (5, .long y_5), (7, .int y_7), (8, .long y13)]) C dX8_mostTelling_106 (by decide) rfl ?_
            refine g_iload_n (pl := 3) C dX8_mostTelling_108 rfl rfl ?_
            refine g_bipush (v := (-4)) C dX8_mostTelling_109 rfl ?_
            refine g_icmp_eq (tgt := 127) C dX8_mostTelling_111 (by decide) (fun c16 => ?_) (fun c16 => ?_)
            · replace hs := vi_t hs c16
              refine g_iload (pl := 6) C dX8_mostTelling_127 rfl ?_
              refine g_istore_n (lv' := [(2, .int y_7), (10, .long (lN 1)), (0, .ref h), (1, .int y_1), (3, .long y_3), (5, .long y_5), (7, .int y_7), (8, .long y13)]) C dX8_mostTelling_129 rfl (by decide) rfl ?_
              refine g_lload (pl := 7) C dX8_mostTelling_130 rfl ?_
              refine g_lstore_n (lv' := [(3, .long y13), (2, .int y_7), (10, .long (lN 1)), (0, .ref h), (1, .int y_1), (5, .long y_5), (7, .int y_7), (8, .long y13)]) C dX8_mostTelling_132 rfl (by decide) rfl ?_
              refine g_lload (pl := 2) C dX8_mostTelling_133 rfl ?_
              refine g_lstore (lv' := [(5, .long (lN 1)), (3, .long y13), (2, .int y_7), (10, .long (lN 1)), (0, .ref h), (1, .int y_1), (7, .int y_7), (8, .long y13)]) C dX8_mostTelling_135 (by decide) rfl ?_
              obtain ⟨y17, e_y17, hs⟩ := vlet_ex hs
              refine g_iinc (pl := 6) (lv' := [(7, .int y17), (5, .long (lN 1)), (3, .long y13), (2, .int y_7), (10, .long (lN 1)), (0, .ref h), (1, .int y_1), (8, .long y13)]) C dX8_mostTelling_137 rfl e_y17.symm (by decide) rfl ?_
              refine g_goto (tgt := 11) C dX8_mostTelling_140 (by decide) ?_
              refine g_sub [5, 6, 3, 2, 1, 0] rfl ?_
              exact ih y_7 y13 (lN 1) y17 hs
            · replace hs := vi_f hs c16
              refine g_lload (pl := 7) C dX8_mostTelling_114 rfl ?_
              refine g_lload (pl := 5) C dX8_mostTelling_116 rfl ?_
              refine g_lmul C dX8_mostTelling_118 ?_
              refine g_lload_n (pl := 4) C dX8_mostTelling_119 rfl rfl ?_
              refine g_lload (pl := 0) C dX8_mostTelling_120 rfl ?_
              refine g_lmul C dX8_mostTelling_122 ?_
              refine g_lcmp C dX8_mostTelling_123 ?_
              refine g_if_le (tgt := 137) C dX8_mostTelling_124 (by decide) (fun c18 => ?_) (fun c18 => ?_)
              · replace hs := vi_t hs c18
                obtain ⟨y19, e_y19, hs⟩ := vlet_ex hs
                refine g_iinc (pl := 6) (lv' := [(7, .int y19), (10, .long (lN 1)), (0, .ref h), (1, .int y_1), (2, .int y_2), (3, .long y_3), (5, .long y_5), (8, .long y13)]) C dX8_mostTelling_137 rfl e_y19.symm (by decide) rfl ?_
                refine g_goto (tgt := 11) C dX8_mostTelling_140 (by decide) ?_
                refine g_sub [2, 3, 4, 5, 6, 0] rfl ?_
                exact ih y_2 y_3 y_5 y19 hs
              · replace hs := vi_f hs c18
                refine g_iload (pl := 6) C dX8_mostTelling_127 rfl ?_
                refine g_istore_n (lv' := [(2, .int y_7), (10, .long (lN 1)), (0, .ref h), (1, .int y_1), (3, .long y_3), (5, .long y_5), (7, .int y_7), (8, .long y13)]) C dX8_mostTelling_129 rfl (by decide) rfl ?_
                refine g_lload (pl := 7) C dX8_mostTelling_130 rfl ?_
                refine g_lstore_n (lv' := [(3, .long y13), (2, .int y_7), (10, .long (lN 1)), (0, .ref h), (1, .int y_1), (5, .long y_5), (7, .int y_7), (8, .long y13)]) C dX8_mostTelling_132 rfl (by decide) rfl ?_
                refine g_lload (pl := 2) C dX8_mostTelling_133 rfl ?_
                refine g_lstore (lv' := [(5, .long (lN 1)), (3, .long y13), (2, .int y_7), (10, .long (lN 1)), (0, .ref h), (1, .int y_1), (7, .int y_7), (8, .long y13)]) C dX8_mostTelling_135 (by decide) rfl ?_
                obtain ⟨y20, e_y20, hs⟩ := vlet_ex hs
                refine g_iinc (pl := 6) (lv' := [(7, .int y20), (5, .long (lN 1)), (3, .long y13), (2, .int y_7), (10, .long (lN 1)), (0, .ref h), (1, .int y_1), (8, .long y13)]) C dX8_mostTelling_137 rfl e_y20.symm (by decide) rfl ?_
                refine g_goto (tgt := 11) C dX8_mostTelling_140 (by decide) ?_
                refine g_sub [5, 6, 3, 2, 1, 0] rfl ?_
                exact ih y_7 y13 (lN 1) y20 hs
          · replace hs := vi_f hs c15
            refine g_lload (pl := 7) C dX8_mostTelling_100 rfl ?_
            refine g_goto (tgt := 106) C dX8_mostTelling_102 (by decide) ?_
            refine g_lstore (lv' := [(10, .long v14), (0, .ref h), (1, .int y_1), (2, .int y_2), (3, .long y_3), (5, .long y_5), (7, .int y_7), (8, .long y13)]) C dX8_mostTelling_106 (by decide) rfl ?_
            refine g_iload_n (pl := 3) C dX8_mostTelling_108 rfl rfl ?_
            refine g_bipush (v := (-4)) C dX8_mostTelling_109 rfl ?_
            refine g_icmp_eq (tgt := 127) C dX8_mostTelling_111 (by decide) (fun c21 => ?_) (fun c21 => ?_)
            · replace hs := vi_t hs c21
              refine g_iload (pl := 6) C dX8_mostTelling_127 rfl ?_
              refine g_istore_n (lv' := [(2, .int y_7), (10, .long v14), (0, .ref h), (1, .int y_1), (3, .long y_3), (5, .long y_5), (7, .int y_7), (8, .long y13)]) C dX8_mostTelling_129 rfl (by decide) rfl ?_
              refine g_lload (pl := 7) C dX8_mostTelling_130 rfl ?_
              refine g_lstore_n (lv' := [(3, .long y13), (2, .int y_7), (10, .long v14), (0, .ref h), (1, .int y_1), (5, .long y_5), (7, .int y_7), (8, .long y13)]) C dX8_mostTelling_132 rfl (by decide) rfl ?_
              refine g_lload (pl := 2) C dX8_mostTelling_133 rfl ?_
              refine g_lstore (lv' := [(5, .long v14), (3, .long y13), (2, .int y_7), (10, .long v14), (0, .ref h), (1, .int y_1), (7, .int y_7), (8, .long y13)]) C dX8_mostTelling_135 (by decide) rfl ?_
              obtain ⟨y22, e_y22, hs⟩ := vlet_ex hs
              refine g_iinc (pl := 6) (lv' := [(7, .int y22), (5, .long v14), (3, .long y13), (2, .int y_7), (10, .long v14), (0, .ref h), (1, .int y_1), (8, .long y13)]) C dX8_mostTelling_137 rfl e_y22.symm (by decide) rfl ?_
              refine g_goto (tgt := 11) C dX8_mostTelling_140 (by decide) ?_
              refine g_sub [5, 6, 3, 2, 1, 0] rfl ?_
              exact ih y_7 y13 v14 y22 hs
            · replace hs := vi_f hs c21
              refine g_lload (pl := 7) C dX8_mostTelling_114 rfl ?_
              refine g_lload (pl := 5) C dX8_mostTelling_116 rfl ?_
              refine g_lmul C dX8_mostTelling_118 ?_
              refine g_lload_n (pl := 4) C dX8_mostTelling_119 rfl rfl ?_
              refine g_lload (pl := 0) C dX8_mostTelling_120 rfl ?_
              refine g_lmul C dX8_mostTelling_122 ?_
              refine g_lcmp C dX8_mostTelling_123 ?_
              refine g_if_le (tgt := 137) C dX8_mostTelling_124 (by decide) (fun c23 => ?_) (fun c23 => ?_)
              · replace hs := vi_t hs c23
                obtain ⟨y24, e_y24, hs⟩ := vlet_ex hs
                refine g_iinc (pl := 6) (lv' := [(7, .int y24), (10, .long v14), (0, .ref h), (1, .int y_1), (2, .int y_2), (3, .long y_3), (5, .long y_5), (8, .long y13)]) C dX8_mostTelling_137 rfl e_y24.symm (by decide) rfl ?_
                refine g_goto (tgt := 11) C dX8_mostTelling_140 (by decide) ?_
                refine g_sub [2, 3, 4, 5, 6, 0] rfl ?_
                exact ih y_2 y_3 y_5 y24 hs
              · replace hs := vi_f hs c23
                refine g_iload (pl := 6) C dX8_mostTelling_127 rfl ?_
                refine g_istore_n (lv' := [(2, .int y_7), (10, .long v14), (0, .ref h), (1, .int y_1), (3, .long y_3), (5, .long y_5), (7, .int y_7), (8, .long y13)]) C dX8_mostTelling_129 rfl (by decide) rfl ?_
                refine g_lload (pl := 7) C dX8_mostTelling_130 rfl ?_
                refine g_lstore_n (lv' := [(3, .long y13), (2, .int y_7), (10, .long v14), (0, .ref h), (1, .int y_1), (5, .long y_5), (7, .int y_7), (8, .long y13)]) C dX8_mostTelling_132 rfl (by decide) rfl ?_
                refine g_lload (pl := 2) C dX8_mostTelling_133 rfl ?_
                refine g_lstore (lv' := [(5, .long v14), (3, .long y13), (2, .int y_7), (10, .long v14), (0, .ref h), (1, .int y_1), (7, .int y_7), (8, .long y13)]) C dX8_mostTelling_135 (by decide) rfl ?_
                obtain ⟨y25, e_y25, hs⟩ := vlet_ex hs
                refine g_iinc (pl := 6) (lv' := [(7, .int y25), (5, .long v14), (3, .long y13), (2, .int y_7), (10, .long v14), (0, .ref h), (1, .int y_1), (8, .long y13)]) C dX8_mostTelling_137 rfl e_y25.symm (by decide) rfl ?_
                refine g_goto (tgt := 11) C dX8_mostTelling_140 (by decide) ?_
                refine g_sub [5, 6, 3, 2, 1, 0] rfl ?_
                exact ih y_7 y13 v14 y25 hs
set_option maxHeartbeats 4000000 in
set_option maxRecDepth 100000 in
theorem cX8_mostTelling_ct (l : Launch) (D : va_G) (cI : ClassId) (h : Nat) (a_letters : Nat) (a_board : Nat) (a_draft : Nat) (a_scene : Nat) (a_trial : Nat) (a_past : Nat) (a_kept : Nat) (a_seen : Nat) (a_reader : Nat) (a_search : Nat) (a_deal : Nat) (a_line : Nat) (a_board_commons : Nat) (a_board_lengths : Nat) (a_board_parts : Nat) (a_board_likenesses : Nat) (a_scene_cells : Nat) (f_length : Int32) (f_board_wordCount : Int32) (f_board_likenessCount : Int32) (f_board_actorCount : Int32) (f_board_forbiddenBits : Int32) (f_board_habitTold : Int32) (f_board_priceTold : Int32) (f_board_commons : Nat → Int32) (f_board_lengths : Nat → Int32) (f_board_parts : Nat → Int32) (f_board_likenesses : Nat → Int32) (f_scene_cells : Nat → Int32) (x1 : Int32) {z : Int32} (hs : sX8_mostTelling f_board_commons f_board_lengths f_board_parts f_board_likenesses f_board_wordCount f_board_likenessCount f_board_forbiddenBits f_board_habitTold f_scene_cells x1 = some z) : ct l yX8_mostTelling (.code yX8_mostTelling cX8_mostTelling 13 (some .int) :: gtb) rmX8_mostTelling D cI [.ref h, .int x1] [oX8 h a_letters f_length a_board a_draft a_scene a_trial a_past a_kept a_seen a_reader a_search a_deal a_line, oX0 a_board a_board_commons a_board_lengths a_board_parts a_board_likenesses f_board_wordCount f_board_likenessCount f_board_actorCount f_board_forbiddenBits f_board_habitTold f_board_priceTold, aI cI a_board_commons 8 f_board_commons, aI cI a_board_lengths 8 f_board_lengths, aI cI a_board_parts 8 f_board_parts, aI cI a_board_likenesses 6 f_board_likenesses, oX4 a_scene a_scene_cells, aI cI a_scene_cells 55 f_scene_cells] (some (.int z)) [oX8 h a_letters f_length a_board a_draft a_scene a_trial a_past a_kept a_seen a_reader a_search a_deal a_line, oX0 a_board a_board_commons a_board_lengths a_board_parts a_board_likenesses f_board_wordCount f_board_likenessCount f_board_actorCount f_board_forbiddenBits f_board_habitTold f_board_priceTold, aI cI a_board_commons 8 f_board_commons, aI cI a_board_lengths 8 f_board_lengths, aI cI a_board_parts 8 f_board_parts, aI cI a_board_likenesses 6 f_board_likenesses, oX4 a_scene a_scene_cells, aI cI a_scene_cells 55 f_scene_cells] := by
  refine ct_ofI (own := RX8) (by decide +kernel) rfl (Nat.le_of_ble_eq_true rfl) (fun X C hD hR => ?_)
  unfold sX8_mostTelling at hs
  show gg cI X 13 0 0 [oX8 h a_letters f_length a_board a_draft a_scene a_trial a_past a_kept a_seen a_reader a_search a_deal a_line, oX0 a_board a_board_commons a_board_lengths a_board_parts a_board_likenesses f_board_wordCount f_board_likenessCount f_board_actorCount f_board_forbiddenBits f_board_habitTold f_board_priceTold, aI cI a_board_commons 8 f_board_commons, aI cI a_board_lengths 8 f_board_lengths, aI cI a_board_parts 8 f_board_parts, aI cI a_board_likenesses 6 f_board_likenesses, oX4 a_scene a_scene_cells, aI cI a_scene_cells 55 f_scene_cells] [(0, .ref h), (1, .int x1)] 0 []
  refine g_bipush (v := (-4)) C dX8_mostTelling_0 rfl ?_
  refine g_istore_n (lv' := [(2, .int (-4)), (0, .ref h), (1, .int x1)]) C dX8_mostTelling_2 rfl (by decide) rfl ?_
  refine g_lconst (v := (lN 0)) C dX8_mostTelling_3 rfl ?_
  refine g_lstore_n (lv' := [(3, .long (lN 0)), (2, .int (-4)), (0, .ref h), (1, .int x1)]) C dX8_mostTelling_4 rfl (by decide) rfl ?_
  refine g_lconst (v := (lN 1)) C dX8_mostTelling_5 rfl ?_
  refine g_lstore (lv' := [(5, .long (lN 1)), (3, .long (lN 0)), (2, .int (-4)), (0, .ref h), (1, .int x1)]) C dX8_mostTelling_6 (by decide) rfl ?_
  refine g_iconst (v := (nI 0)) C dX8_mostTelling_8 rfl ?_
  refine g_istore (lv' := [(7, .int (nI 0)), (5, .long (lN 1)), (3, .long (lN 0)), (2, .int (-4)), (0, .ref h), (1, .int x1)]) C dX8_mostTelling_9 (by decide) rfl ?_
  refine g_sub [4, 5, 3, 2, 1, 0] rfl ?_
  exact LX8_mostTelling_11_w C h a_letters a_board a_draft a_scene a_trial a_past a_kept a_seen a_reader a_search a_deal a_line a_board_commons a_board_lengths a_board_parts a_board_likenesses a_scene_cells f_length f_board_wordCount f_board_likenessCount f_board_actorCount f_board_forbiddenBits f_board_habitTold f_board_priceTold f_board_commons f_board_lengths f_board_parts f_board_likenesses f_scene_cells x1 hR _ (-4) (lN 0) (lN 1) (nI 0) hs
def sX8_tells (f_board_commons : Nat → Int32) (f_board_lengths : Nat → Int32) (f_board_parts : Nat → Int32) (f_board_likenesses : Nat → Int32) (f_board_wordCount : Int32) (f_board_likenessCount : Int32) (f_board_actorCount : Int32) (f_board_forbiddenBits : Int32) (f_board_habitTold : Int32) (f_scene_cells : Nat → Int32) (x1 : Int32) : Option (Int32) :=
  vb (sX8_isActor f_board_actorCount x1) fun z1 =>
  vi (z1 = 0) inferInstance (
    some ((-1))) (
    vb (sX4_waits f_scene_cells x1) fun z3 =>
    vi (z3 = 0) inferInstance (
      some ((-2))) (
      vb (sX4_canShow f_scene_cells x1) fun z5 =>
      vi (z5 = 0) inferInstance (
        some ((-4))) (
        vb (sX8_mostTelling f_board_commons f_board_lengths f_board_parts f_board_likenesses f_board_wordCount f_board_likenessCount f_board_forbiddenBits f_board_habitTold f_scene_cells x1) fun z7 =>
        some (z7))))
abbrev rmX8_tells : Room := { frames := 5, cells := 0, slots := 0, locals := 129 }
set_option maxHeartbeats 4000000 in
set_option maxRecDepth 100000 in
theorem cX8_tells_ct (l : Launch) (D : va_G) (cI : ClassId) (h : Nat) (a_letters : Nat) (a_board : Nat) (a_draft : Nat) (a_scene : Nat) (a_trial : Nat) (a_past : Nat) (a_kept : Nat) (a_seen : Nat) (a_reader : Nat) (a_search : Nat) (a_deal : Nat) (a_line : Nat) (a_board_commons : Nat) (a_board_lengths : Nat) (a_board_parts : Nat) (a_board_likenesses : Nat) (a_scene_cells : Nat) (f_length : Int32) (f_board_wordCount : Int32) (f_board_likenessCount : Int32) (f_board_actorCount : Int32) (f_board_forbiddenBits : Int32) (f_board_habitTold : Int32) (f_board_priceTold : Int32) (f_board_commons : Nat → Int32) (f_board_lengths : Nat → Int32) (f_board_parts : Nat → Int32) (f_board_likenesses : Nat → Int32) (f_scene_cells : Nat → Int32) (x1 : Int32) {z : Int32} (hs : sX8_tells f_board_commons f_board_lengths f_board_parts f_board_likenesses f_board_wordCount f_board_likenessCount f_board_actorCount f_board_forbiddenBits f_board_habitTold f_scene_cells x1 = some z) : ct l yX8_tells (.code yX8_tells cX8_tells 2 (some .int) :: gtb) rmX8_tells D cI [.ref h, .int x1] [oX8 h a_letters f_length a_board a_draft a_scene a_trial a_past a_kept a_seen a_reader a_search a_deal a_line, oX0 a_board a_board_commons a_board_lengths a_board_parts a_board_likenesses f_board_wordCount f_board_likenessCount f_board_actorCount f_board_forbiddenBits f_board_habitTold f_board_priceTold, aI cI a_board_commons 8 f_board_commons, aI cI a_board_lengths 8 f_board_lengths, aI cI a_board_parts 8 f_board_parts, aI cI a_board_likenesses 6 f_board_likenesses, oX4 a_scene a_scene_cells, aI cI a_scene_cells 55 f_scene_cells] (some (.int z)) [oX8 h a_letters f_length a_board a_draft a_scene a_trial a_past a_kept a_seen a_reader a_search a_deal a_line, oX0 a_board a_board_commons a_board_lengths a_board_parts a_board_likenesses f_board_wordCount f_board_likenessCount f_board_actorCount f_board_forbiddenBits f_board_habitTold f_board_priceTold, aI cI a_board_commons 8 f_board_commons, aI cI a_board_lengths 8 f_board_lengths, aI cI a_board_parts 8 f_board_parts, aI cI a_board_likenesses 6 f_board_likenesses, oX4 a_scene a_scene_cells, aI cI a_scene_cells 55 f_scene_cells] := by
  refine ct_ofI (own := RX8) (by decide +kernel) rfl (Nat.le_of_ble_eq_true rfl) (fun X C hD hR => ?_)
  unfold sX8_tells at hs
  show gg cI X 2 0 0 [oX8 h a_letters f_length a_board a_draft a_scene a_trial a_past a_kept a_seen a_reader a_search a_deal a_line, oX0 a_board a_board_commons a_board_lengths a_board_parts a_board_likenesses f_board_wordCount f_board_likenessCount f_board_actorCount f_board_forbiddenBits f_board_habitTold f_board_priceTold, aI cI a_board_commons 8 f_board_commons, aI cI a_board_lengths 8 f_board_lengths, aI cI a_board_parts 8 f_board_parts, aI cI a_board_likenesses 6 f_board_likenesses, oX4 a_scene a_scene_cells, aI cI a_scene_cells 55 f_scene_cells] [(0, .ref h), (1, .int x1)] 0 []
  refine g_aload_n (pl := 0) C dX8_tells_0 rfl rfl ?_
  refine g_iload_n (pl := 1) C dX8_tells_1 rfl rfl ?_
  obtain ⟨z1, e_z1, hs⟩ := vb_ok hs
  refine g_callV (ws' := [oX8 h a_letters f_length a_board a_draft a_scene a_trial a_past a_kept a_seen a_reader a_search a_deal a_line, oX0 a_board a_board_commons a_board_lengths a_board_parts a_board_likenesses f_board_wordCount f_board_likenessCount f_board_actorCount f_board_forbiddenBits f_board_habitTold f_board_priceTold, aI cI a_board_commons 8 f_board_commons, aI cI a_board_lengths 8 f_board_lengths, aI cI a_board_parts 8 f_board_parts, aI cI a_board_likenesses 6 f_board_likenesses, oX4 a_scene a_scene_cells, aI cI a_scene_cells 55 f_scene_cells]) (rest := []) (st' := [.int z1]) C mX8_146 q2_228 [.int x1] (fun l D => cX8_isActor_ct l D cI h a_letters a_board a_draft a_scene a_trial a_past a_kept a_seen a_reader a_search a_deal a_line a_board_commons a_board_lengths a_board_parts a_board_likenesses f_length f_board_wordCount f_board_likenessCount f_board_actorCount f_board_forbiddenBits f_board_habitTold f_board_priceTold x1 e_z1) ⟨⟨rfl, rfl⟩, Nat.le_of_ble_eq_true rfl, Nat.le_of_ble_eq_true rfl⟩ 0 rfl rfl rfl [0, 1] rfl rfl rfl rfl rfl (Nat.le_of_ble_eq_true rfl) (Nat.zero_le _) (Nat.zero_le _) rfl dX8_tells_2 ?_
  refine g_if_ne (tgt := 10) C dX8_tells_5 (by decide) (fun c2 => ?_) (fun c2 => ?_)
  · replace hs := vi_f hs c2
    refine g_aload_n (pl := 0) C dX8_tells_10 rfl rfl ?_
    refine g_get C fX8_26 0 rfl rfl dX8_tells_11 ?_
    refine g_iload_n (pl := 1) C dX8_tells_14 rfl rfl ?_
    obtain ⟨z3, e_z3, hs⟩ := vb_ok hs
    refine g_callV (ws' := [oX8 h a_letters f_length a_board a_draft a_scene a_trial a_past a_kept a_seen a_reader a_search a_deal a_line, oX0 a_board a_board_commons a_board_lengths a_board_parts a_board_likenesses f_board_wordCount f_board_likenessCount f_board_actorCount f_board_forbiddenBits f_board_habitTold f_board_priceTold, aI cI a_board_commons 8 f_board_commons, aI cI a_board_lengths 8 f_board_lengths, aI cI a_board_parts 8 f_board_parts, aI cI a_board_likenesses 6 f_board_likenesses, oX4 a_scene a_scene_cells, aI cI a_scene_cells 55 f_scene_cells]) (rest := []) (st' := [.int z3]) C mX8_165 q3_13 [.int x1] (fun l D => cX4_waits_ct l D cI a_scene a_scene_cells f_scene_cells x1 e_z3) ⟨⟨rfl, rfl⟩, Nat.le_of_ble_eq_true rfl, Nat.le_of_ble_eq_true rfl⟩ 6 rfl rfl rfl [6, 7] rfl rfl rfl rfl rfl (Nat.le_of_ble_eq_true rfl) (Nat.zero_le _) (Nat.zero_le _) rfl dX8_tells_15 ?_
    refine g_if_ne (tgt := 24) C dX8_tells_18 (by decide) (fun c4 => ?_) (fun c4 => ?_)
    · replace hs := vi_f hs c4
      refine g_aload_n (pl := 0) C dX8_tells_24 rfl rfl ?_
      refine g_get C fX8_26 0 rfl rfl dX8_tells_25 ?_
      refine g_iload_n (pl := 1) C dX8_tells_28 rfl rfl ?_
      obtain ⟨z5, e_z5, hs⟩ := vb_ok hs
      refine g_callV (ws' := [oX8 h a_letters f_length a_board a_draft a_scene a_trial a_past a_kept a_seen a_reader a_search a_deal a_line, oX0 a_board a_board_commons a_board_lengths a_board_parts a_board_likenesses f_board_wordCount f_board_likenessCount f_board_actorCount f_board_forbiddenBits f_board_habitTold f_board_priceTold, aI cI a_board_commons 8 f_board_commons, aI cI a_board_lengths 8 f_board_lengths, aI cI a_board_parts 8 f_board_parts, aI cI a_board_likenesses 6 f_board_likenesses, oX4 a_scene a_scene_cells, aI cI a_scene_cells 55 f_scene_cells]) (rest := []) (st' := [.int z5]) C mX8_155 q3_9 [.int x1] (fun l D => cX4_canShow_ct l D cI a_scene a_scene_cells f_scene_cells x1 e_z5) ⟨⟨rfl, rfl⟩, Nat.le_of_ble_eq_true rfl, Nat.le_of_ble_eq_true rfl⟩ 6 rfl rfl rfl [6, 7] rfl rfl rfl rfl rfl (Nat.le_of_ble_eq_true rfl) (Nat.zero_le _) (Nat.zero_le _) rfl dX8_tells_29 ?_
      refine g_if_eq (tgt := 43) C dX8_tells_32 (by decide) (fun c6 => ?_) (fun c6 => ?_)
      · replace hs := vi_t hs c6
        refine g_bipush (v := (-4)) C dX8_tells_43 rfl ?_
        cases hs
        exact hR _ _ dX8_tells_45
      · replace hs := vi_f hs c6
        refine g_aload_n (pl := 0) C dX8_tells_35 rfl rfl ?_
        refine g_iload_n (pl := 1) C dX8_tells_36 rfl rfl ?_
        obtain ⟨z7, e_z7, hs⟩ := vb_ok hs
        refine g_callV (ws' := [oX8 h a_letters f_length a_board a_draft a_scene a_trial a_past a_kept a_seen a_reader a_search a_deal a_line, oX0 a_board a_board_commons a_board_lengths a_board_parts a_board_likenesses f_board_wordCount f_board_likenessCount f_board_actorCount f_board_forbiddenBits f_board_habitTold f_board_priceTold, aI cI a_board_commons 8 f_board_commons, aI cI a_board_lengths 8 f_board_lengths, aI cI a_board_parts 8 f_board_parts, aI cI a_board_likenesses 6 f_board_likenesses, oX4 a_scene a_scene_cells, aI cI a_scene_cells 55 f_scene_cells]) (rest := []) (st' := [.int z7]) C mX8_207 q3_176 [.int x1] (fun l D => cX8_mostTelling_ct l D cI h a_letters a_board a_draft a_scene a_trial a_past a_kept a_seen a_reader a_search a_deal a_line a_board_commons a_board_lengths a_board_parts a_board_likenesses a_scene_cells f_length f_board_wordCount f_board_likenessCount f_board_actorCount f_board_forbiddenBits f_board_habitTold f_board_priceTold f_board_commons f_board_lengths f_board_parts f_board_likenesses f_scene_cells x1 e_z7) ⟨⟨rfl, rfl⟩, Nat.le_of_ble_eq_true rfl, Nat.le_of_ble_eq_true rfl⟩ 0 rfl rfl rfl [0, 1, 2, 3, 4, 5, 6, 7] rfl rfl rfl rfl rfl (Nat.le_of_ble_eq_true rfl) (Nat.zero_le _) (Nat.zero_le _) rfl dX8_tells_37 ?_
        refine g_goto (tgt := 45) C dX8_tells_40 (by decide) ?_
        cases hs
        exact hR _ _ dX8_tells_45
    · replace hs := vi_t hs c4
      refine g_bipush (v := (-2)) C dX8_tells_21 rfl ?_
      cases hs
      exact hR _ _ dX8_tells_23
  · replace hs := vi_t hs c2
    refine g_iconst (v := (-1)) C dX8_tells_8 rfl ?_
    cases hs
    exact hR _ _ dX8_tells_9
def LX8_send_107 (y_2 : Int32) (f_search_lengths : Nat → Int32) (f_search_words : Int32) (f_deal_words : Nat → Int32) (f_deal_used : Int32) (K164 : (Nat → Int32) → Option (Int32 × (Nat → Int32) × (Nat → Int32) × (Nat → Int32) × (Nat → Int32) × (Nat → Int32) × (Nat → Int32) × Int32 × Int32 × Int32 × (Nat → Int32) × (Nat → Int32) × (Nat → Int32) × (Nat → Int32) × (Nat → Int32) × Int32)) : Nat → Int32 → (Nat → Int32) → Option (Int32 × (Nat → Int32) × (Nat → Int32) × (Nat → Int32) × (Nat → Int32) × (Nat → Int32) × (Nat → Int32) × Int32 × Int32 × Int32 × (Nat → Int32) × (Nat → Int32) × (Nat → Int32) × (Nat → Int32) × (Nat → Int32) × Int32)
  | 0, _, _ => none
  | n + 1, y_3, f_deal_costs =>
    vb (sX1_size f_deal_used) fun z1 =>
    vi (z1 ≤ y_3) inferInstance (
      K164 f_deal_costs) (
      vb (sX1_wordAt f_deal_words f_deal_used y_3) fun z3 =>
      vb (sX5_howMany f_search_lengths f_search_words z3) fun z4 =>
      vi (z4 = (-4)) inferInstance (
        vb (sX1_setCost f_deal_costs y_2 y_3 (nI 9)) fun z8 =>
        vlet (y_3 + (nI 1)) fun y9 =>
        LX8_send_107 y_2 f_search_lengths f_search_words f_deal_words f_deal_used K164 n y9 z8) (
        vb (sX1_setCost f_deal_costs y_2 y_3 z4) fun z6 =>
        vlet (y_3 + (nI 1)) fun y7 =>
        LX8_send_107 y_2 f_search_lengths f_search_words f_deal_words f_deal_used K164 n y7 z6))
def LX8_send_71 (y_1 : Int32) (f_board_commons : Nat → Int32) (f_board_lengths : Nat → Int32) (f_board_parts : Nat → Int32) (f_board_likenesses : Nat → Int32) (f_board_wordCount : Int32) (f_board_likenessCount : Int32) (f_board_forbiddenBits : Int32) (f_board_habitTold : Int32) (f_scene_cells : Nat → Int32) (f_deal_actors : Nat → Int32) (f_deal_words : Nat → Int32) (f_deal_least : Nat → Int32) (f_deal_dealt : Nat → Int32) (f_deal_used : Int32) : Nat → Int32 → (Nat → Int32) → (Nat → Int32) → (Nat → Int32) → (Nat → Int32) → (Nat → Int32) → (Nat → Int32) → Int32 → Int32 → Int32 → (Nat → Int32) → Option (Int32 × (Nat → Int32) × (Nat → Int32) × (Nat → Int32) × (Nat → Int32) × (Nat → Int32) × (Nat → Int32) × Int32 × Int32 × Int32 × (Nat → Int32) × (Nat → Int32) × (Nat → Int32) × (Nat → Int32) × (Nat → Int32) × Int32)
  | 0, _, _, _, _, _, _, _, _, _, _, _ => none
  | n + 1, y_2, f_search_free, f_search_factors, f_search_weights, f_search_row, f_search_lengths, f_search_signs, f_search_words, f_search_freeCount, f_search_open, f_deal_costs =>
    vb (sX1_size f_deal_used) fun z10 =>
    vi (z10 ≤ y_2) inferInstance (
      vb (sX1_settle f_deal_costs f_deal_least f_deal_dealt f_deal_used) fun z12 =>
      vi (y_1 = (-1)) inferInstance (
        vb (sX1_total z12.1 f_deal_used) fun z15 =>
        some (z15, f_search_free, f_search_factors, f_search_weights, f_search_row, f_search_lengths, f_search_signs, f_search_words, f_search_freeCount, f_search_open, f_deal_actors, f_deal_words, f_deal_costs, z12.1, z12.2, f_deal_used)) (
        vb (sX1_wordFor f_deal_actors f_deal_words z12.2 f_deal_used y_1) fun z14 =>
        some (z14, f_search_free, f_search_factors, f_search_weights, f_search_row, f_search_lengths, f_search_signs, f_search_words, f_search_freeCount, f_search_open, f_deal_actors, f_deal_words, f_deal_costs, z12.1, z12.2, f_deal_used))) (
      vb (sX1_actorAt f_deal_actors f_deal_used y_2) fun z16 =>
      vb (sX5_run f_search_free f_search_factors f_search_weights f_search_row f_search_lengths f_search_signs f_search_words f_search_freeCount f_search_open f_board_commons f_board_lengths f_board_parts f_board_likenesses f_board_wordCount f_board_likenessCount f_board_forbiddenBits f_board_habitTold f_scene_cells z16) fun z17 =>
      LX8_send_107 y_2 z17.2.2.2.2.1 z17.2.2.2.2.2.2.1 f_deal_words f_deal_used (fun (v18 : Nat → Int32) =>
          vlet (y_2 + (nI 1)) fun y19 =>
          LX8_send_71 y_1 f_board_commons f_board_lengths f_board_parts f_board_likenesses f_board_wordCount f_board_likenessCount f_board_forbiddenBits f_board_habitTold f_scene_cells f_deal_actors f_deal_words f_deal_least f_deal_dealt f_deal_used n y19 z17.1 z17.2.1 z17.2.2.1 z17.2.2.2.1 z17.2.2.2.2.1 z17.2.2.2.2.2.1 z17.2.2.2.2.2.2.1 z17.2.2.2.2.2.2.2.1 z17.2.2.2.2.2.2.2.2 v18) vF (nI 0) f_deal_costs)
def LX8_send_24 (y_1 : Int32) (f_board_commons : Nat → Int32) (f_board_lengths : Nat → Int32) (f_board_parts : Nat → Int32) (f_board_likenesses : Nat → Int32) (f_board_wordCount : Int32) (f_board_likenessCount : Int32) (f_board_actorCount : Int32) (f_board_forbiddenBits : Int32) (f_board_habitTold : Int32) (f_scene_cells : Nat → Int32) (f_search_free : Nat → Int32) (f_search_factors : Nat → Int32) (f_search_weights : Nat → Int32) (f_search_row : Nat → Int32) (f_search_lengths : Nat → Int32) (f_search_signs : Nat → Int32) (f_search_words : Int32) (f_search_freeCount : Int32) (f_search_open : Int32) (f_deal_costs : Nat → Int32) (f_deal_least : Nat → Int32) (f_deal_dealt : Nat → Int32) : Nat → Int32 → (Nat → Int32) → (Nat → Int32) → Int32 → Option (Int32 × (Nat → Int32) × (Nat → Int32) × (Nat → Int32) × (Nat → Int32) × (Nat → Int32) × (Nat → Int32) × Int32 × Int32 × Int32 × (Nat → Int32) × (Nat → Int32) × (Nat → Int32) × (Nat → Int32) × (Nat → Int32) × Int32)
  | 0, _, _, _, _ => none
  | n + 1, y_2, f_deal_actors, f_deal_words, f_deal_used =>
    vb (sX0_actors f_board_actorCount) fun z20 =>
    vi (z20 ≤ y_2) inferInstance (
      LX8_send_71 y_1 f_board_commons f_board_lengths f_board_parts f_board_likenesses f_board_wordCount f_board_likenessCount f_board_forbiddenBits f_board_habitTold f_scene_cells f_deal_actors f_deal_words f_deal_least f_deal_dealt f_deal_used vF (nI 0) f_search_free f_search_factors f_search_weights f_search_row f_search_lengths f_search_signs f_search_words f_search_freeCount f_search_open f_deal_costs) (
      vb (sX4_isFresh f_scene_cells y_2) fun z22 =>
      vi (z22 = 0) inferInstance (
        vlet (y_2 + (nI 1)) fun y24 =>
        LX8_send_24 y_1 f_board_commons f_board_lengths f_board_parts f_board_likenesses f_board_wordCount f_board_likenessCount f_board_actorCount f_board_forbiddenBits f_board_habitTold f_scene_cells f_search_free f_search_factors f_search_weights f_search_row f_search_lengths f_search_signs f_search_words f_search_freeCount f_search_open f_deal_costs f_deal_least f_deal_dealt n y24 f_deal_actors f_deal_words f_deal_used) (
        vb (sX4_cell f_scene_cells y_2 (nI 1)) fun z25 =>
        vb (sX1_add f_deal_actors f_deal_words f_deal_used y_2 z25) fun z26 =>
        vlet (y_2 + (nI 1)) fun y27 =>
        LX8_send_24 y_1 f_board_commons f_board_lengths f_board_parts f_board_likenesses f_board_wordCount f_board_likenessCount f_board_actorCount f_board_forbiddenBits f_board_habitTold f_scene_cells f_search_free f_search_factors f_search_weights f_search_row f_search_lengths f_search_signs f_search_words f_search_freeCount f_search_open f_deal_costs f_deal_least f_deal_dealt n y27 z26.1 z26.2.1 z26.2.2))
def sX8_send (f_board_commons : Nat → Int32) (f_board_lengths : Nat → Int32) (f_board_parts : Nat → Int32) (f_board_likenesses : Nat → Int32) (f_board_wordCount : Int32) (f_board_likenessCount : Int32) (f_board_actorCount : Int32) (f_board_forbiddenBits : Int32) (f_board_habitTold : Int32) (f_scene_cells : Nat → Int32) (f_search_free : Nat → Int32) (f_search_factors : Nat → Int32) (f_search_weights : Nat → Int32) (f_search_row : Nat → Int32) (f_search_lengths : Nat → Int32) (f_search_signs : Nat → Int32) (f_search_words : Int32) (f_search_freeCount : Int32) (f_search_open : Int32) (f_deal_actors : Nat → Int32) (f_deal_words : Nat → Int32) (f_deal_costs : Nat → Int32) (f_deal_least : Nat → Int32) (f_deal_dealt : Nat → Int32) (f_deal_used : Int32) (x1 : Int32) : Option (Int32 × (Nat → Int32) × (Nat → Int32) × (Nat → Int32) × (Nat → Int32) × (Nat → Int32) × (Nat → Int32) × Int32 × Int32 × Int32 × (Nat → Int32) × (Nat → Int32) × (Nat → Int32) × (Nat → Int32) × (Nat → Int32) × Int32) :=
  vi (x1 = (-1)) inferInstance (
    vb (sX1_start f_deal_used) fun z29 =>
    LX8_send_24 x1 f_board_commons f_board_lengths f_board_parts f_board_likenesses f_board_wordCount f_board_likenessCount f_board_actorCount f_board_forbiddenBits f_board_habitTold f_scene_cells f_search_free f_search_factors f_search_weights f_search_row f_search_lengths f_search_signs f_search_words f_search_freeCount f_search_open f_deal_costs f_deal_least f_deal_dealt vF (nI 0) f_deal_actors f_deal_words z29) (
    vb (sX8_isActor f_board_actorCount x1) fun z30 =>
    vi (z30 = 0) inferInstance (
      some ((-1), f_search_free, f_search_factors, f_search_weights, f_search_row, f_search_lengths, f_search_signs, f_search_words, f_search_freeCount, f_search_open, f_deal_actors, f_deal_words, f_deal_costs, f_deal_least, f_deal_dealt, f_deal_used)) (
      vb (sX1_start f_deal_used) fun z32 =>
      LX8_send_24 x1 f_board_commons f_board_lengths f_board_parts f_board_likenesses f_board_wordCount f_board_likenessCount f_board_actorCount f_board_forbiddenBits f_board_habitTold f_scene_cells f_search_free f_search_factors f_search_weights f_search_row f_search_lengths f_search_signs f_search_words f_search_freeCount f_search_open f_deal_costs f_deal_least f_deal_dealt vF (nI 0) f_deal_actors f_deal_words z32))
abbrev rmX8_send : Room := { frames := 5, cells := 0, slots := 0, locals := 123 }
set_option maxHeartbeats 4000000 in
set_option maxRecDepth 100000 in
theorem LX8_send_107_w {cI : ClassId} {X : xT} (C : cx cI X 5 cX8_send RX8 rmX8_send) (h : Nat) (a_letters : Nat) (a_board : Nat) (a_draft : Nat) (a_scene : Nat) (a_trial : Nat) (a_past : Nat) (a_kept : Nat) (a_seen : Nat) (a_reader : Nat) (a_search : Nat) (a_deal : Nat) (a_line : Nat) (a_board_commons : Nat) (a_board_lengths : Nat) (a_board_parts : Nat) (a_board_likenesses : Nat) (a_scene_cells : Nat) (a_search_free : Nat) (a_search_factors : Nat) (a_search_weights : Nat) (a_search_row : Nat) (a_search_lengths : Nat) (a_search_signs : Nat) (a_deal_actors : Nat) (a_deal_words : Nat) (a_deal_costs : Nat) (a_deal_least : Nat) (a_deal_dealt : Nat) (f_length : Int32) (f_board_wordCount : Int32) (f_board_likenessCount : Int32) (f_board_actorCount : Int32) (f_board_forbiddenBits : Int32) (f_board_habitTold : Int32) (f_board_priceTold : Int32) (f_board_commons : Nat → Int32) (f_board_lengths : Nat → Int32) (f_board_parts : Nat → Int32) (f_board_likenesses : Nat → Int32) (f_scene_cells : Nat → Int32) (f_search_words : Int32) (f_search_freeCount : Int32) (f_search_open : Int32) (f_search_free : Nat → Int32) (f_search_factors : Nat → Int32) (f_search_weights : Nat → Int32) (f_search_row : Nat → Int32) (f_search_lengths : Nat → Int32) (f_search_signs : Nat → Int32) (f_deal_used : Int32) (f_deal_actors : Nat → Int32) (f_deal_words : Nat → Int32) (f_deal_least : Nat → Int32) (f_deal_dealt : Nat → Int32) (y_1 : Int32) (y_2 : Int32) {z : Int32 × (Nat → Int32) × (Nat → Int32) × (Nat → Int32) × (Nat → Int32) × (Nat → Int32) × (Nat → Int32) × Int32 × Int32 × Int32 × (Nat → Int32) × (Nat → Int32) × (Nat → Int32) × (Nat → Int32) × (Nat → Int32) × Int32} (hR : ∀ (lv : List (Nat × Value)) (pc : Nat), decode cX8_send pc = .ok (.ireturn, 1) → gg cI X 5 0 0 [oX8 h a_letters f_length a_board a_draft a_scene a_trial a_past a_kept a_seen a_reader a_search a_deal a_line, oX0 a_board a_board_commons a_board_lengths a_board_parts a_board_likenesses f_board_wordCount f_board_likenessCount f_board_actorCount f_board_forbiddenBits f_board_habitTold f_board_priceTold, aI cI a_board_commons 8 f_board_commons, aI cI a_board_lengths 8 f_board_lengths, aI cI a_board_parts 8 f_board_parts, aI cI a_board_likenesses 6 f_board_likenesses, oX4 a_scene a_scene_cells, aI cI a_scene_cells 55 f_scene_cells, oX5 a_search a_search_free a_search_factors a_search_weights a_search_row a_search_lengths a_search_signs z.2.2.2.2.2.2.2.1 z.2.2.2.2.2.2.2.2.1 z.2.2.2.2.2.2.2.2.2.1, aI cI a_search_free 15 z.2.1, aI cI a_search_factors 120 z.2.2.1, aI cI a_search_weights 32 z.2.2.2.1, aI cI a_search_row 3 z.2.2.2.2.1, aI cI a_search_lengths 8 z.2.2.2.2.2.1, aI cI a_search_signs 24 z.2.2.2.2.2.2.1, oX1 a_deal a_deal_actors a_deal_words a_deal_costs a_deal_least a_deal_dealt z.2.2.2.2.2.2.2.2.2.2.2.2.2.2.2, aI cI a_deal_actors 5 z.2.2.2.2.2.2.2.2.2.2.1, aI cI a_deal_words 5 z.2.2.2.2.2.2.2.2.2.2.2.1, aI cI a_deal_costs 25 z.2.2.2.2.2.2.2.2.2.2.2.2.1, aI cI a_deal_least 32 z.2.2.2.2.2.2.2.2.2.2.2.2.2.1, aI cI a_deal_dealt 5 z.2.2.2.2.2.2.2.2.2.2.2.2.2.2.1] lv pc [.int z.1]) {K164 : (Nat → Int32) → Option (Int32 × (Nat → Int32) × (Nat → Int32) × (Nat → Int32) × (Nat → Int32) × (Nat → Int32) × (Nat → Int32) × Int32 × Int32 × Int32 × (Nat → Int32) × (Nat → Int32) × (Nat → Int32) × (Nat → Int32) × (Nat → Int32) × Int32)} (hK164 : ∀ (kf_deal_costs : Nat → Int32), K164 kf_deal_costs = some z → gg cI X 5 0 0 [oX8 h a_letters f_length a_board a_draft a_scene a_trial a_past a_kept a_seen a_reader a_search a_deal a_line, oX0 a_board a_board_commons a_board_lengths a_board_parts a_board_likenesses f_board_wordCount f_board_likenessCount f_board_actorCount f_board_forbiddenBits f_board_habitTold f_board_priceTold, aI cI a_board_commons 8 f_board_commons, aI cI a_board_lengths 8 f_board_lengths, aI cI a_board_parts 8 f_board_parts, aI cI a_board_likenesses 6 f_board_likenesses, oX4 a_scene a_scene_cells, aI cI a_scene_cells 55 f_scene_cells, oX5 a_search a_search_free a_search_factors a_search_weights a_search_row a_search_lengths a_search_signs f_search_words f_search_freeCount f_search_open, aI cI a_search_free 15 f_search_free, aI cI a_search_factors 120 f_search_factors, aI cI a_search_weights 32 f_search_weights, aI cI a_search_row 3 f_search_row, aI cI a_search_lengths 8 f_search_lengths, aI cI a_search_signs 24 f_search_signs, oX1 a_deal a_deal_actors a_deal_words a_deal_costs a_deal_least a_deal_dealt f_deal_used, aI cI a_deal_actors 5 f_deal_actors, aI cI a_deal_words 5 f_deal_words, aI cI a_deal_costs 25 kf_deal_costs, aI cI a_deal_least 32 f_deal_least, aI cI a_deal_dealt 5 f_deal_dealt] [(0, .ref h), (1, .int y_1), (2, .int y_2)] 164 []) : ∀ (n : Nat) (y_3 : Int32) (f_deal_costs : Nat → Int32), LX8_send_107 y_2 f_search_lengths f_search_words f_deal_words f_deal_used K164 n y_3 f_deal_costs = some z → gg cI X 5 0 0 [oX8 h a_letters f_length a_board a_draft a_scene a_trial a_past a_kept a_seen a_reader a_search a_deal a_line, oX0 a_board a_board_commons a_board_lengths a_board_parts a_board_likenesses f_board_wordCount f_board_likenessCount f_board_actorCount f_board_forbiddenBits f_board_habitTold f_board_priceTold, aI cI a_board_commons 8 f_board_commons, aI cI a_board_lengths 8 f_board_lengths, aI cI a_board_parts 8 f_board_parts, aI cI a_board_likenesses 6 f_board_likenesses, oX4 a_scene a_scene_cells, aI cI a_scene_cells 55 f_scene_cells, oX5 a_search a_search_free a_search_factors a_search_weights a_search_row a_search_lengths a_search_signs f_search_words f_search_freeCount f_search_open, aI cI a_search_free 15 f_search_free, aI cI a_search_factors 120 f_search_factors, aI cI a_search_weights 32 f_search_weights, aI cI a_search_row 3 f_search_row, aI cI a_search_lengths 8 f_search_lengths, aI cI a_search_signs 24 f_search_signs, oX1 a_deal a_deal_actors a_deal_words a_deal_costs a_deal_least a_deal_dealt f_deal_used, aI cI a_deal_actors 5 f_deal_actors, aI cI a_deal_words 5 f_deal_words, aI cI a_deal_costs 25 f_deal_costs, aI cI a_deal_least 32 f_deal_least, aI cI a_deal_dealt 5 f_deal_dealt] [(0, .ref h), (1, .int y_1), (2, .int y_2), (3, .int y_3)] 107 [] := by
  intro n
  induction n with
  | zero =>
    intro y_3 f_deal_costs hs
    exact nn_ok hs
  | succ n ih =>
    intro y_3 f_deal_costs hs
    rw [LX8_send_107] at hs
    refine g_iload_n (pl := 3) C dX8_send_107 rfl rfl ?_
    refine g_aload_n (pl := 0) C dX8_send_108 rfl rfl ?_
    refine g_get C fX8_69 0 rfl rfl dX8_send_109 ?_
    obtain ⟨z1, e_z1, hs⟩ := vb_ok hs
    refine g_callV (ws' := [oX8 h a_letters f_length a_board a_draft a_scene a_trial a_past a_kept a_seen a_reader a_search a_deal a_line, oX0 a_board a_board_commons a_board_lengths a_board_parts a_board_likenesses f_board_wordCount f_board_likenessCount f_board_actorCount f_board_forbiddenBits f_board_habitTold f_board_priceTold, aI cI a_board_commons 8 f_board_commons, aI cI a_board_lengths 8 f_board_lengths, aI cI a_board_parts 8 f_board_parts, aI cI a_board_likenesses 6 f_board_likenesses, oX4 a_scene a_scene_cells, aI cI a_scene_cells 55 f_scene_cells, oX5 a_search a_search_free a_search_factors a_search_weights a_search_row a_search_lengths a_search_signs f_search_words f_search_freeCount f_search_open, aI cI a_search_free 15 f_search_free, aI cI a_search_factors 120 f_search_factors, aI cI a_search_weights 32 f_search_weights, aI cI a_search_row 3 f_search_row, aI cI a_search_lengths 8 f_search_lengths, aI cI a_search_signs 24 f_search_signs, oX1 a_deal a_deal_actors a_deal_words a_deal_costs a_deal_least a_deal_dealt f_deal_used, aI cI a_deal_actors 5 f_deal_actors, aI cI a_deal_words 5 f_deal_words, aI cI a_deal_costs 25 f_deal_costs, aI cI a_deal_least 32 f_deal_least, aI cI a_deal_dealt 5 f_deal_dealt]) (rest := [.int y_3]) (st' := [.int z1, .int y_3]) C mX8_217 q3_197 [] (fun l D => cX1_size_ct l D cI a_deal a_deal_actors a_deal_words a_deal_costs a_deal_least a_deal_dealt f_deal_used e_z1) ⟨⟨rfl, rfl⟩, Nat.le_of_ble_eq_true rfl, Nat.le_of_ble_eq_true rfl⟩ 15 rfl rfl rfl [15] rfl rfl rfl rfl rfl (Nat.le_of_ble_eq_true rfl) (Nat.zero_le _) (Nat.zero_le _) rfl dX8_send_112 ?_
    refine g_icmp_ge (tgt := 164) C dX8_send_115 (by decide) (fun c2 => ?_) (fun c2 => ?_)
    · replace hs := vi_t hs c2
      refine g_sub [0, 1, 2] rfl ?_
      exact hK164 f_deal_costs hs
    · replace hs := vi_f hs c2
      refine g_aload_n (pl := 0) C dX8_send_118 rfl rfl ?_
      refine g_get C fX8_62 0 rfl rfl dX8_send_119 ?_
      refine g_aload_n (pl := 0) C dX8_send_122 rfl rfl ?_
      refine g_get C fX8_69 0 rfl rfl dX8_send_123 ?_
      refine g_iload_n (pl := 3) C dX8_send_126 rfl rfl ?_
      obtain ⟨z3, e_z3, hs⟩ := vb_ok hs
      refine g_callV (ws' := [oX8 h a_letters f_length a_board a_draft a_scene a_trial a_past a_kept a_seen a_reader a_search a_deal a_line, oX0 a_board a_board_commons a_board_lengths a_board_parts a_board_likenesses f_board_wordCount f_board_likenessCount f_board_actorCount f_board_forbiddenBits f_board_habitTold f_board_priceTold, aI cI a_board_commons 8 f_board_commons, aI cI a_board_lengths 8 f_board_lengths, aI cI a_board_parts 8 f_board_parts, aI cI a_board_likenesses 6 f_board_likenesses, oX4 a_scene a_scene_cells, aI cI a_scene_cells 55 f_scene_cells, oX5 a_search a_search_free a_search_factors a_search_weights a_search_row a_search_lengths a_search_signs f_search_words f_search_freeCount f_search_open, aI cI a_search_free 15 f_search_free, aI cI a_search_factors 120 f_search_factors, aI cI a_search_weights 32 f_search_weights, aI cI a_search_row 3 f_search_row, aI cI a_search_lengths 8 f_search_lengths, aI cI a_search_signs 24 f_search_signs, oX1 a_deal a_deal_actors a_deal_words a_deal_costs a_deal_least a_deal_dealt f_deal_used, aI cI a_deal_actors 5 f_deal_actors, aI cI a_deal_words 5 f_deal_words, aI cI a_deal_costs 25 f_deal_costs, aI cI a_deal_least 32 f_deal_least, aI cI a_deal_dealt 5 f_deal_dealt]) (rest := [.ref a_search]) (st' := [.int z3, .ref a_search]) C mX8_221 q3_205 [.int y_3] (fun l D => cX1_wordAt_ct l D cI a_deal a_deal_actors a_deal_words a_deal_costs a_deal_least a_deal_dealt f_deal_used f_deal_words y_3 e_z3) ⟨⟨rfl, rfl⟩, Nat.le_of_ble_eq_true rfl, Nat.le_of_ble_eq_true rfl⟩ 15 rfl rfl rfl [15, 17] rfl rfl rfl rfl rfl (Nat.le_of_ble_eq_true rfl) (Nat.zero_le _) (Nat.zero_le _) rfl dX8_send_127 ?_
      obtain ⟨z4, e_z4, hs⟩ := vb_ok hs
      refine g_callV (ws' := [oX8 h a_letters f_length a_board a_draft a_scene a_trial a_past a_kept a_seen a_reader a_search a_deal a_line, oX0 a_board a_board_commons a_board_lengths a_board_parts a_board_likenesses f_board_wordCount f_board_likenessCount f_board_actorCount f_board_forbiddenBits f_board_habitTold f_board_priceTold, aI cI a_board_commons 8 f_board_commons, aI cI a_board_lengths 8 f_board_lengths, aI cI a_board_parts 8 f_board_parts, aI cI a_board_likenesses 6 f_board_likenesses, oX4 a_scene a_scene_cells, aI cI a_scene_cells 55 f_scene_cells, oX5 a_search a_search_free a_search_factors a_search_weights a_search_row a_search_lengths a_search_signs f_search_words f_search_freeCount f_search_open, aI cI a_search_free 15 f_search_free, aI cI a_search_factors 120 f_search_factors, aI cI a_search_weights 32 f_search_weights, aI cI a_search_row 3 f_search_row, aI cI a_search_lengths 8 f_search_lengths, aI cI a_search_signs 24 f_search_signs, oX1 a_deal a_deal_actors a_deal_words a_deal_costs a_deal_least a_deal_dealt f_deal_used, aI cI a_deal_actors 5 f_deal_actors, aI cI a_deal_words 5 f_deal_words, aI cI a_deal_costs 25 f_deal_costs, aI cI a_deal_least 32 f_deal_least, aI cI a_deal_dealt 5 f_deal_dealt]) (rest := []) (st' := [.int z4]) C mX8_201 q3_163 [.int z3] (fun l D => cX5_howMany_ct l D cI a_search a_search_free a_search_factors a_search_weights a_search_row a_search_lengths a_search_signs f_search_words f_search_freeCount f_search_open f_search_lengths z3 e_z4) ⟨⟨rfl, rfl⟩, Nat.le_of_ble_eq_true rfl, Nat.le_of_ble_eq_true rfl⟩ 8 rfl rfl rfl [8, 13] rfl rfl rfl rfl rfl (Nat.le_of_ble_eq_true rfl) (Nat.zero_le _) (Nat.zero_le _) rfl dX8_send_130 ?_
      refine g_istore (lv' := [(4, .int z4), (0, .ref h), (1, .int y_1), (2, .int y_2), (3, .int y_3)]) C dX8_send_133 (by decide) rfl ?_
      refine g_aload_n (pl := 1) C dX8_send_135 rfl rfl ?_
      refine g_get C fX8_69 0 rfl rfl dX8_send_136 ?_
      refine g_iload_n (pl := 3) C dX8_send_139 rfl rfl ?_
      refine g_iload_n (pl := 4) C dX8_send_140 rfl rfl ?_
      refine g_iload (pl := 0) C dX8_send_141 rfl ?_
      refine g_bipush (v := (-4)) C dX8_send_143 rfl ?_
      refine g_icmp_ne (tgt := 153) C dX8_send_145 (by decide) (fun c5 => ?_) (fun c5 => ?_)
      · replace hs := vi_f hs c5
        refine g_iload (pl := 0) C dX8_send_153 rfl ?_
        obtain ⟨z6, e_z6, hs⟩ := vb_ok hs
        refine g_callV (ws' := [oX8 h a_letters f_length a_board a_draft a_scene a_trial a_past a_kept a_seen a_reader a_search a_deal a_line, oX0 a_board a_board_commons a_board_lengths a_board_parts a_board_likenesses f_board_wordCount f_board_likenessCount f_board_actorCount f_board_forbiddenBits f_board_habitTold f_board_priceTold, aI cI a_board_commons 8 f_board_commons, aI cI a_board_lengths 8 f_board_lengths, aI cI a_board_parts 8 f_board_parts, aI cI a_board_likenesses 6 f_board_likenesses, oX4 a_scene a_scene_cells, aI cI a_scene_cells 55 f_scene_cells, oX5 a_search a_search_free a_search_factors a_search_weights a_search_row a_search_lengths a_search_signs f_search_words f_search_freeCount f_search_open, aI cI a_search_free 15 f_search_free, aI cI a_search_factors 120 f_search_factors, aI cI a_search_weights 32 f_search_weights, aI cI a_search_row 3 f_search_row, aI cI a_search_lengths 8 f_search_lengths, aI cI a_search_signs 24 f_search_signs, oX1 a_deal a_deal_actors a_deal_words a_deal_costs a_deal_least a_deal_dealt f_deal_used, aI cI a_deal_actors 5 f_deal_actors, aI cI a_deal_words 5 f_deal_words, aI cI a_deal_costs 25 z6, aI cI a_deal_least 32 f_deal_least, aI cI a_deal_dealt 5 f_deal_dealt]) (rest := []) (st' := []) C mX8_224 q3_209 [.int y_2, .int y_3, .int z4] (fun l D => cX1_setCost_ct l D cI a_deal a_deal_actors a_deal_words a_deal_costs a_deal_least a_deal_dealt f_deal_used f_deal_costs y_2 y_3 z4 e_z6) ⟨⟨rfl, rfl⟩, Nat.le_of_ble_eq_true rfl, Nat.le_of_ble_eq_true rfl⟩ 15 rfl rfl rfl [15, 18] rfl rfl rfl rfl rfl (Nat.le_of_ble_eq_true rfl) (Nat.zero_le _) (Nat.zero_le _) rfl dX8_send_155 ?_
        obtain ⟨y7, e_y7, hs⟩ := vlet_ex hs
        refine g_iinc (pl := 4) (lv' := [(3, .int y7), (4, .int z4), (0, .ref h), (1, .int y_1), (2, .int y_2)]) C dX8_send_158 rfl e_y7.symm (by decide) rfl ?_
        refine g_goto (tgt := 107) C dX8_send_161 (by decide) ?_
        refine g_sub [2, 3, 4, 0] rfl ?_
        exact ih y7 z6 hs
      · replace hs := vi_t hs c5
        refine g_bipush (v := (nI 9)) C dX8_send_148 rfl ?_
        refine g_goto (tgt := 155) C dX8_send_150 (by decide) ?_
        obtain ⟨z8, e_z8, hs⟩ := vb_ok hs
        refine g_callV (ws' := [oX8 h a_letters f_length a_board a_draft a_scene a_trial a_past a_kept a_seen a_reader a_search a_deal a_line, oX0 a_board a_board_commons a_board_lengths a_board_parts a_board_likenesses f_board_wordCount f_board_likenessCount f_board_actorCount f_board_forbiddenBits f_board_habitTold f_board_priceTold, aI cI a_board_commons 8 f_board_commons, aI cI a_board_lengths 8 f_board_lengths, aI cI a_board_parts 8 f_board_parts, aI cI a_board_likenesses 6 f_board_likenesses, oX4 a_scene a_scene_cells, aI cI a_scene_cells 55 f_scene_cells, oX5 a_search a_search_free a_search_factors a_search_weights a_search_row a_search_lengths a_search_signs f_search_words f_search_freeCount f_search_open, aI cI a_search_free 15 f_search_free, aI cI a_search_factors 120 f_search_factors, aI cI a_search_weights 32 f_search_weights, aI cI a_search_row 3 f_search_row, aI cI a_search_lengths 8 f_search_lengths, aI cI a_search_signs 24 f_search_signs, oX1 a_deal a_deal_actors a_deal_words a_deal_costs a_deal_least a_deal_dealt f_deal_used, aI cI a_deal_actors 5 f_deal_actors, aI cI a_deal_words 5 f_deal_words, aI cI a_deal_costs 25 z8, aI cI a_deal_least 32 f_deal_least, aI cI a_deal_dealt 5 f_deal_dealt]) (rest := []) (st' := []) C mX8_224 q3_209 [.int y_2, .int y_3, .int (nI 9)] (fun l D => cX1_setCost_ct l D cI a_deal a_deal_actors a_deal_words a_deal_costs a_deal_least a_deal_dealt f_deal_used f_deal_costs y_2 y_3 (nI 9) e_z8) ⟨⟨rfl, rfl⟩, Nat.le_of_ble_eq_true rfl, Nat.le_of_ble_eq_true rfl⟩ 15 rfl rfl rfl [15, 18] rfl rfl rfl rfl rfl (Nat.le_of_ble_eq_true rfl) (Nat.zero_le _) (Nat.zero_le _) rfl dX8_send_155 ?_
        obtain ⟨y9, e_y9, hs⟩ := vlet_ex hs
        refine g_iinc (pl := 4) (lv' := [(3, .int y9), (4, .int z4), (0, .ref h), (1, .int y_1), (2, .int y_2)]) C dX8_send_158 rfl e_y9.symm (by decide) rfl ?_
        refine g_goto (tgt := 107) C dX8_send_161 (by decide) ?_
        refine g_sub [2, 3, 4, 0] rfl ?_
        exact ih y9 z8 hs
set_option maxHeartbeats 4000000 in
set_option maxRecDepth 100000 in
theorem LX8_send_71_w {cI : ClassId} {X : xT} (C : cx cI X 5 cX8_send RX8 rmX8_send) (h : Nat) (a_letters : Nat) (a_board : Nat) (a_draft : Nat) (a_scene : Nat) (a_trial : Nat) (a_past : Nat) (a_kept : Nat) (a_seen : Nat) (a_reader : Nat) (a_search : Nat) (a_deal : Nat) (a_line : Nat) (a_board_commons : Nat) (a_board_lengths : Nat) (a_board_parts : Nat) (a_board_likenesses : Nat) (a_scene_cells : Nat) (a_search_free : Nat) (a_search_factors : Nat) (a_search_weights : Nat) (a_search_row : Nat) (a_search_lengths : Nat) (a_search_signs : Nat) (a_deal_actors : Nat) (a_deal_words : Nat) (a_deal_costs : Nat) (a_deal_least : Nat) (a_deal_dealt : Nat) (f_length : Int32) (f_board_wordCount : Int32) (f_board_likenessCount : Int32) (f_board_actorCount : Int32) (f_board_forbiddenBits : Int32) (f_board_habitTold : Int32) (f_board_priceTold : Int32) (f_board_commons : Nat → Int32) (f_board_lengths : Nat → Int32) (f_board_parts : Nat → Int32) (f_board_likenesses : Nat → Int32) (f_scene_cells : Nat → Int32) (f_deal_used : Int32) (f_deal_actors : Nat → Int32) (f_deal_words : Nat → Int32) (f_deal_least : Nat → Int32) (f_deal_dealt : Nat → Int32) (y_1 : Int32) {z : Int32 × (Nat → Int32) × (Nat → Int32) × (Nat → Int32) × (Nat → Int32) × (Nat → Int32) × (Nat → Int32) × Int32 × Int32 × Int32 × (Nat → Int32) × (Nat → Int32) × (Nat → Int32) × (Nat → Int32) × (Nat → Int32) × Int32} (hR : ∀ (lv : List (Nat × Value)) (pc : Nat), decode cX8_send pc = .ok (.ireturn, 1) → gg cI X 5 0 0 [oX8 h a_letters f_length a_board a_draft a_scene a_trial a_past a_kept a_seen a_reader a_search a_deal a_line, oX0 a_board a_board_commons a_board_lengths a_board_parts a_board_likenesses f_board_wordCount f_board_likenessCount f_board_actorCount f_board_forbiddenBits f_board_habitTold f_board_priceTold, aI cI a_board_commons 8 f_board_commons, aI cI a_board_lengths 8 f_board_lengths, aI cI a_board_parts 8 f_board_parts, aI cI a_board_likenesses 6 f_board_likenesses, oX4 a_scene a_scene_cells, aI cI a_scene_cells 55 f_scene_cells, oX5 a_search a_search_free a_search_factors a_search_weights a_search_row a_search_lengths a_search_signs z.2.2.2.2.2.2.2.1 z.2.2.2.2.2.2.2.2.1 z.2.2.2.2.2.2.2.2.2.1, aI cI a_search_free 15 z.2.1, aI cI a_search_factors 120 z.2.2.1, aI cI a_search_weights 32 z.2.2.2.1, aI cI a_search_row 3 z.2.2.2.2.1, aI cI a_search_lengths 8 z.2.2.2.2.2.1, aI cI a_search_signs 24 z.2.2.2.2.2.2.1, oX1 a_deal a_deal_actors a_deal_words a_deal_costs a_deal_least a_deal_dealt z.2.2.2.2.2.2.2.2.2.2.2.2.2.2.2, aI cI a_deal_actors 5 z.2.2.2.2.2.2.2.2.2.2.1, aI cI a_deal_words 5 z.2.2.2.2.2.2.2.2.2.2.2.1, aI cI a_deal_costs 25 z.2.2.2.2.2.2.2.2.2.2.2.2.1, aI cI a_deal_least 32 z.2.2.2.2.2.2.2.2.2.2.2.2.2.1, aI cI a_deal_dealt 5 z.2.2.2.2.2.2.2.2.2.2.2.2.2.2.1] lv pc [.int z.1]) : ∀ (n : Nat) (y_2 : Int32) (f_search_free : Nat → Int32) (f_search_factors : Nat → Int32) (f_search_weights : Nat → Int32) (f_search_row : Nat → Int32) (f_search_lengths : Nat → Int32) (f_search_signs : Nat → Int32) (f_search_words : Int32) (f_search_freeCount : Int32) (f_search_open : Int32) (f_deal_costs : Nat → Int32), LX8_send_71 y_1 f_board_commons f_board_lengths f_board_parts f_board_likenesses f_board_wordCount f_board_likenessCount f_board_forbiddenBits f_board_habitTold f_scene_cells f_deal_actors f_deal_words f_deal_least f_deal_dealt f_deal_used n y_2 f_search_free f_search_factors f_search_weights f_search_row f_search_lengths f_search_signs f_search_words f_search_freeCount f_search_open f_deal_costs = some z → gg cI X 5 0 0 [oX8 h a_letters f_length a_board a_draft a_scene a_trial a_past a_kept a_seen a_reader a_search a_deal a_line, oX0 a_board a_board_commons a_board_lengths a_board_parts a_board_likenesses f_board_wordCount f_board_likenessCount f_board_actorCount f_board_forbiddenBits f_board_habitTold f_board_priceTold, aI cI a_board_commons 8 f_board_commons, aI cI a_board_lengths 8 f_board_lengths, aI cI a_board_parts 8 f_board_parts, aI cI a_board_likenesses 6 f_board_likenesses, oX4 a_scene a_scene_cells, aI cI a_scene_cells 55 f_scene_cells, oX5 a_search a_search_free a_search_factors a_search_weights a_search_row a_search_lengths a_search_signs f_search_words f_search_freeCount f_search_open, aI cI a_search_free 15 f_search_free, aI cI a_search_factors 120 f_search_factors, aI cI a_search_weights 32 f_search_weights, aI cI a_search_row 3 f_search_row, aI cI a_search_lengths 8 f_search_lengths, aI cI a_search_signs 24 f_search_signs, oX1 a_deal a_deal_actors a_deal_words a_deal_costs a_deal_least a_deal_dealt f_deal_used, aI cI a_deal_actors 5 f_deal_actors, aI cI a_deal_words 5 f_deal_words, aI cI a_deal_costs 25 f_deal_costs, aI cI a_deal_least 32 f_deal_least, aI cI a_deal_dealt 5 f_deal_dealt] [(0, .ref h), (1, .int y_1), (2, .int y_2)] 71 [] := by
  intro n
  induction n with
  | zero =>
    intro y_2 f_search_free f_search_factors f_search_weights f_search_row f_search_lengths f_search_signs f_search_words f_search_freeCount f_search_open f_deal_costs hs
    exact nn_ok hs
  | succ n ih =>
    intro y_2 f_search_free f_search_factors f_search_weights f_search_row f_search_lengths f_search_signs f_search_words f_search_freeCount f_search_open f_deal_costs hs
    rw [LX8_send_71] at hs
    refine g_iload_n (pl := 2) C dX8_send_71 rfl rfl ?_
    refine g_aload_n (pl := 0) C dX8_send_72 rfl rfl ?_
    refine g_get C fX8_69 0 rfl rfl dX8_send_73 ?_
    obtain ⟨z10, e_z10, hs⟩ := vb_ok hs
    refine g_callV (ws' := [oX8 h a_letters f_length a_board a_draft a_scene a_trial a_past a_kept a_seen a_reader a_search a_deal a_line, oX0 a_board a_board_commons a_board_lengths a_board_parts a_board_likenesses f_board_wordCount f_board_likenessCount f_board_actorCount f_board_forbiddenBits f_board_habitTold f_board_priceTold, aI cI a_board_commons 8 f_board_commons, aI cI a_board_lengths 8 f_board_lengths, aI cI a_board_parts 8 f_board_parts, aI cI a_board_likenesses 6 f_board_likenesses, oX4 a_scene a_scene_cells, aI cI a_scene_cells 55 f_scene_cells, oX5 a_search a_search_free a_search_factors a_search_weights a_search_row a_search_lengths a_search_signs f_search_words f_search_freeCount f_search_open, aI cI a_search_free 15 f_search_free, aI cI a_search_factors 120 f_search_factors, aI cI a_search_weights 32 f_search_weights, aI cI a_search_row 3 f_search_row, aI cI a_search_lengths 8 f_search_lengths, aI cI a_search_signs 24 f_search_signs, oX1 a_deal a_deal_actors a_deal_words a_deal_costs a_deal_least a_deal_dealt f_deal_used, aI cI a_deal_actors 5 f_deal_actors, aI cI a_deal_words 5 f_deal_words, aI cI a_deal_costs 25 f_deal_costs, aI cI a_deal_least 32 f_deal_least, aI cI a_deal_dealt 5 f_deal_dealt]) (rest := [.int y_2]) (st' := [.int z10, .int y_2]) C mX8_217 q3_197 [] (fun l D => cX1_size_ct l D cI a_deal a_deal_actors a_deal_words a_deal_costs a_deal_least a_deal_dealt f_deal_used e_z10) ⟨⟨rfl, rfl⟩, Nat.le_of_ble_eq_true rfl, Nat.le_of_ble_eq_true rfl⟩ 15 rfl rfl rfl [15] rfl rfl rfl rfl rfl (Nat.le_of_ble_eq_true rfl) (Nat.zero_le _) (Nat.zero_le _) rfl dX8_send_76 ?_
    refine g_icmp_ge (tgt := 170) C dX8_send_79 (by decide) (fun c11 => ?_) (fun c11 => ?_)
    · replace hs := vi_t hs c11
      refine g_aload_n (pl := 0) C dX8_send_170 rfl rfl ?_
      refine g_get C fX8_69 0 rfl rfl dX8_send_171 ?_
      obtain ⟨z12, e_z12, hs⟩ := vb_ok hs
      refine g_callV (ws' := [oX8 h a_letters f_length a_board a_draft a_scene a_trial a_past a_kept a_seen a_reader a_search a_deal a_line, oX0 a_board a_board_commons a_board_lengths a_board_parts a_board_likenesses f_board_wordCount f_board_likenessCount f_board_actorCount f_board_forbiddenBits f_board_habitTold f_board_priceTold, aI cI a_board_commons 8 f_board_commons, aI cI a_board_lengths 8 f_board_lengths, aI cI a_board_parts 8 f_board_parts, aI cI a_board_likenesses 6 f_board_likenesses, oX4 a_scene a_scene_cells, aI cI a_scene_cells 55 f_scene_cells, oX5 a_search a_search_free a_search_factors a_search_weights a_search_row a_search_lengths a_search_signs f_search_words f_search_freeCount f_search_open, aI cI a_search_free 15 f_search_free, aI cI a_search_factors 120 f_search_factors, aI cI a_search_weights 32 f_search_weights, aI cI a_search_row 3 f_search_row, aI cI a_search_lengths 8 f_search_lengths, aI cI a_search_signs 24 f_search_signs, oX1 a_deal a_deal_actors a_deal_words a_deal_costs a_deal_least a_deal_dealt f_deal_used, aI cI a_deal_actors 5 f_deal_actors, aI cI a_deal_words 5 f_deal_words, aI cI a_deal_costs 25 f_deal_costs, aI cI a_deal_least 32 z12.1, aI cI a_deal_dealt 5 z12.2]) (rest := []) (st' := []) C mX8_227 q3_213 [] (fun l D => cX1_settle_ct l D cI a_deal a_deal_actors a_deal_words a_deal_costs a_deal_least a_deal_dealt f_deal_used f_deal_costs f_deal_least f_deal_dealt e_z12) ⟨⟨rfl, rfl⟩, Nat.le_of_ble_eq_true rfl, Nat.le_of_ble_eq_true rfl⟩ 15 rfl rfl rfl [15, 18, 19, 20] rfl rfl rfl rfl rfl (Nat.le_of_ble_eq_true rfl) (Nat.zero_le _) (Nat.zero_le _) rfl dX8_send_174 ?_
      refine g_iload_n (pl := 1) C dX8_send_177 rfl rfl ?_
      refine g_iconst (v := (-1)) C dX8_send_178 rfl ?_
      refine g_icmp_ne (tgt := 192) C dX8_send_179 (by decide) (fun c13 => ?_) (fun c13 => ?_)
      · replace hs := vi_f hs c13
        refine g_aload_n (pl := 0) C dX8_send_192 rfl rfl ?_
        refine g_get C fX8_69 0 rfl rfl dX8_send_193 ?_
        refine g_iload_n (pl := 1) C dX8_send_196 rfl rfl ?_
        obtain ⟨z14, e_z14, hs⟩ := vb_ok hs
        refine g_callV (ws' := [oX8 h a_letters f_length a_board a_draft a_scene a_trial a_past a_kept a_seen a_reader a_search a_deal a_line, oX0 a_board a_board_commons a_board_lengths a_board_parts a_board_likenesses f_board_wordCount f_board_likenessCount f_board_actorCount f_board_forbiddenBits f_board_habitTold f_board_priceTold, aI cI a_board_commons 8 f_board_commons, aI cI a_board_lengths 8 f_board_lengths, aI cI a_board_parts 8 f_board_parts, aI cI a_board_likenesses 6 f_board_likenesses, oX4 a_scene a_scene_cells, aI cI a_scene_cells 55 f_scene_cells, oX5 a_search a_search_free a_search_factors a_search_weights a_search_row a_search_lengths a_search_signs f_search_words f_search_freeCount f_search_open, aI cI a_search_free 15 f_search_free, aI cI a_search_factors 120 f_search_factors, aI cI a_search_weights 32 f_search_weights, aI cI a_search_row 3 f_search_row, aI cI a_search_lengths 8 f_search_lengths, aI cI a_search_signs 24 f_search_signs, oX1 a_deal a_deal_actors a_deal_words a_deal_costs a_deal_least a_deal_dealt f_deal_used, aI cI a_deal_actors 5 f_deal_actors, aI cI a_deal_words 5 f_deal_words, aI cI a_deal_costs 25 f_deal_costs, aI cI a_deal_least 32 z12.1, aI cI a_deal_dealt 5 z12.2]) (rest := []) (st' := [.int z14]) C mX8_233 q3_230 [.int y_1] (fun l D => cX1_wordFor_ct l D cI a_deal a_deal_actors a_deal_words a_deal_costs a_deal_least a_deal_dealt f_deal_used f_deal_actors f_deal_words z12.2 y_1 e_z14) ⟨⟨rfl, rfl⟩, Nat.le_of_ble_eq_true rfl, Nat.le_of_ble_eq_true rfl⟩ 15 rfl rfl rfl [15, 16, 17, 20] rfl rfl rfl rfl rfl (Nat.le_of_ble_eq_true rfl) (Nat.zero_le _) (Nat.zero_le _) rfl dX8_send_197 ?_
        cases hs
        exact hR _ _ dX8_send_200
      · replace hs := vi_t hs c13
        refine g_aload_n (pl := 0) C dX8_send_182 rfl rfl ?_
        refine g_get C fX8_69 0 rfl rfl dX8_send_183 ?_
        obtain ⟨z15, e_z15, hs⟩ := vb_ok hs
        refine g_callV (ws' := [oX8 h a_letters f_length a_board a_draft a_scene a_trial a_past a_kept a_seen a_reader a_search a_deal a_line, oX0 a_board a_board_commons a_board_lengths a_board_parts a_board_likenesses f_board_wordCount f_board_likenessCount f_board_actorCount f_board_forbiddenBits f_board_habitTold f_board_priceTold, aI cI a_board_commons 8 f_board_commons, aI cI a_board_lengths 8 f_board_lengths, aI cI a_board_parts 8 f_board_parts, aI cI a_board_likenesses 6 f_board_likenesses, oX4 a_scene a_scene_cells, aI cI a_scene_cells 55 f_scene_cells, oX5 a_search a_search_free a_search_factors a_search_weights a_search_row a_search_lengths a_search_signs f_search_words f_search_freeCount f_search_open, aI cI a_search_free 15 f_search_free, aI cI a_search_factors 120 f_search_factors, aI cI a_search_weights 32 f_search_weights, aI cI a_search_row 3 f_search_row, aI cI a_search_lengths 8 f_search_lengths, aI cI a_search_signs 24 f_search_signs, oX1 a_deal a_deal_actors a_deal_words a_deal_costs a_deal_least a_deal_dealt f_deal_used, aI cI a_deal_actors 5 f_deal_actors, aI cI a_deal_words 5 f_deal_words, aI cI a_deal_costs 25 f_deal_costs, aI cI a_deal_least 32 z12.1, aI cI a_deal_dealt 5 z12.2]) (rest := []) (st' := [.int z15]) C mX8_230 q3_226 [] (fun l D => cX1_total_ct l D cI a_deal a_deal_actors a_deal_words a_deal_costs a_deal_least a_deal_dealt f_deal_used z12.1 e_z15) ⟨⟨rfl, rfl⟩, Nat.le_of_ble_eq_true rfl, Nat.le_of_ble_eq_true rfl⟩ 15 rfl rfl rfl [15, 19] rfl rfl rfl rfl rfl (Nat.le_of_ble_eq_true rfl) (Nat.zero_le _) (Nat.zero_le _) rfl dX8_send_186 ?_
        refine g_goto (tgt := 200) C dX8_send_189 (by decide) ?_
        cases hs
        exact hR _ _ dX8_send_200
    · replace hs := vi_f hs c11
      refine g_aload_n (pl := 0) C dX8_send_82 rfl rfl ?_
      refine g_get C fX8_62 0 rfl rfl dX8_send_83 ?_
      refine g_aload_n (pl := 0) C dX8_send_86 rfl rfl ?_
      refine g_get C fX8_16 0 rfl rfl dX8_send_87 ?_
      refine g_aload_n (pl := 0) C dX8_send_90 rfl rfl ?_
      refine g_get C fX8_26 0 rfl rfl dX8_send_91 ?_
      refine g_aload_n (pl := 0) C dX8_send_94 rfl rfl ?_
      refine g_get C fX8_69 0 rfl rfl dX8_send_95 ?_
      refine g_iload_n (pl := 2) C dX8_send_98 rfl rfl ?_
      obtain ⟨z16, e_z16, hs⟩ := vb_ok hs
      refine g_callV (ws' := [oX8 h a_letters f_length a_board a_draft a_scene a_trial a_past a_kept a_seen a_reader a_search a_deal a_line, oX0 a_board a_board_commons a_board_lengths a_board_parts a_board_likenesses f_board_wordCount f_board_likenessCount f_board_actorCount f_board_forbiddenBits f_board_habitTold f_board_priceTold, aI cI a_board_commons 8 f_board_commons, aI cI a_board_lengths 8 f_board_lengths, aI cI a_board_parts 8 f_board_parts, aI cI a_board_likenesses 6 f_board_likenesses, oX4 a_scene a_scene_cells, aI cI a_scene_cells 55 f_scene_cells, oX5 a_search a_search_free a_search_factors a_search_weights a_search_row a_search_lengths a_search_signs f_search_words f_search_freeCount f_search_open, aI cI a_search_free 15 f_search_free, aI cI a_search_factors 120 f_search_factors, aI cI a_search_weights 32 f_search_weights, aI cI a_search_row 3 f_search_row, aI cI a_search_lengths 8 f_search_lengths, aI cI a_search_signs 24 f_search_signs, oX1 a_deal a_deal_actors a_deal_words a_deal_costs a_deal_least a_deal_dealt f_deal_used, aI cI a_deal_actors 5 f_deal_actors, aI cI a_deal_words 5 f_deal_words, aI cI a_deal_costs 25 f_deal_costs, aI cI a_deal_least 32 f_deal_least, aI cI a_deal_dealt 5 f_deal_dealt]) (rest := [.ref a_scene, .ref a_board, .ref a_search]) (st' := [.int z16, .ref a_scene, .ref a_board, .ref a_search]) C mX8_218 q3_201 [.int y_2] (fun l D => cX1_actorAt_ct l D cI a_deal a_deal_actors a_deal_words a_deal_costs a_deal_least a_deal_dealt f_deal_used f_deal_actors y_2 e_z16) ⟨⟨rfl, rfl⟩, Nat.le_of_ble_eq_true rfl, Nat.le_of_ble_eq_true rfl⟩ 15 rfl rfl rfl [15, 16] rfl rfl rfl rfl rfl (Nat.le_of_ble_eq_true rfl) (Nat.zero_le _) (Nat.zero_le _) rfl dX8_send_99 ?_
      obtain ⟨z17, e_z17, hs⟩ := vb_ok hs
      refine g_callV (ws' := [oX8 h a_letters f_length a_board a_draft a_scene a_trial a_past a_kept a_seen a_reader a_search a_deal a_line, oX0 a_board a_board_commons a_board_lengths a_board_parts a_board_likenesses f_board_wordCount f_board_likenessCount f_board_actorCount f_board_forbiddenBits f_board_habitTold f_board_priceTold, aI cI a_board_commons 8 f_board_commons, aI cI a_board_lengths 8 f_board_lengths, aI cI a_board_parts 8 f_board_parts, aI cI a_board_likenesses 6 f_board_likenesses, oX4 a_scene a_scene_cells, aI cI a_scene_cells 55 f_scene_cells, oX5 a_search a_search_free a_search_factors a_search_weights a_search_row a_search_lengths a_search_signs z17.2.2.2.2.2.2.1 z17.2.2.2.2.2.2.2.1 z17.2.2.2.2.2.2.2.2, aI cI a_search_free 15 z17.1, aI cI a_search_factors 120 z17.2.1, aI cI a_search_weights 32 z17.2.2.1, aI cI a_search_row 3 z17.2.2.2.1, aI cI a_search_lengths 8 z17.2.2.2.2.1, aI cI a_search_signs 24 z17.2.2.2.2.2.1, oX1 a_deal a_deal_actors a_deal_words a_deal_costs a_deal_least a_deal_dealt f_deal_used, aI cI a_deal_actors 5 f_deal_actors, aI cI a_deal_words 5 f_deal_words, aI cI a_deal_costs 25 f_deal_costs, aI cI a_deal_least 32 f_deal_least, aI cI a_deal_dealt 5 f_deal_dealt]) (rest := []) (st' := []) C mX8_197 q3_123 [.ref a_board, .ref a_scene, .int z16] (fun l D => cX5_run_ct l D cI a_search a_search_free a_search_factors a_search_weights a_search_row a_search_lengths a_search_signs a_board a_board_commons a_board_lengths a_board_parts a_board_likenesses a_scene a_scene_cells f_search_words f_search_freeCount f_search_open f_search_free f_search_factors f_search_weights f_search_row f_search_lengths f_search_signs f_board_wordCount f_board_likenessCount f_board_actorCount f_board_forbiddenBits f_board_habitTold f_board_priceTold f_board_commons f_board_lengths f_board_parts f_board_likenesses f_scene_cells z16 e_z17) ⟨⟨rfl, rfl⟩, Nat.le_of_ble_eq_true rfl, Nat.le_of_ble_eq_true rfl⟩ 8 rfl rfl rfl [8, 9, 10, 11, 12, 13, 14, 1, 2, 3, 4, 5, 6, 7] rfl rfl rfl (by simp only [setM, List.set_cons_zero, List.set_cons_succ]) rfl (Nat.le_of_ble_eq_true rfl) (Nat.zero_le _) (Nat.zero_le _) rfl dX8_send_102 ?_
      refine g_iconst (v := (nI 0)) C dX8_send_105 rfl ?_
      refine g_istore_n (lv' := [(3, .int (nI 0)), (0, .ref h), (1, .int y_1), (2, .int y_2)]) C dX8_send_106 rfl (by decide) rfl ?_
      refine g_sub [1, 2, 3, 0] rfl ?_
      refine LX8_send_107_w C h a_letters a_board a_draft a_scene a_trial a_past a_kept a_seen a_reader a_search a_deal a_line a_board_commons a_board_lengths a_board_parts a_board_likenesses a_scene_cells a_search_free a_search_factors a_search_weights a_search_row a_search_lengths a_search_signs a_deal_actors a_deal_words a_deal_costs a_deal_least a_deal_dealt f_length f_board_wordCount f_board_likenessCount f_board_actorCount f_board_forbiddenBits f_board_habitTold f_board_priceTold f_board_commons f_board_lengths f_board_parts f_board_likenesses f_scene_cells z17.2.2.2.2.2.2.1 z17.2.2.2.2.2.2.2.1 z17.2.2.2.2.2.2.2.2 z17.1 z17.2.1 z17.2.2.1 z17.2.2.2.1 z17.2.2.2.2.1 z17.2.2.2.2.2.1 f_deal_used f_deal_actors f_deal_words f_deal_least f_deal_dealt y_1 y_2 hR ?_ _ (nI 0) f_deal_costs hs
      · intro v18 hs
        obtain ⟨y19, e_y19, hs⟩ := vlet_ex hs
        refine g_iinc (pl := 2) (lv' := [(2, .int y19), (0, .ref h), (1, .int y_1)]) C dX8_send_164 rfl e_y19.symm (by decide) rfl ?_
        refine g_goto (tgt := 71) C dX8_send_167 (by decide) ?_
        refine g_sub [1, 2, 0] rfl ?_
        exact ih y19 z17.1 z17.2.1 z17.2.2.1 z17.2.2.2.1 z17.2.2.2.2.1 z17.2.2.2.2.2.1 z17.2.2.2.2.2.2.1 z17.2.2.2.2.2.2.2.1 z17.2.2.2.2.2.2.2.2 v18 hs
set_option maxHeartbeats 4000000 in
set_option maxRecDepth 100000 in
theorem LX8_send_24_w {cI : ClassId} {X : xT} (C : cx cI X 5 cX8_send RX8 rmX8_send) (h : Nat) (a_letters : Nat) (a_board : Nat) (a_draft : Nat) (a_scene : Nat) (a_trial : Nat) (a_past : Nat) (a_kept : Nat) (a_seen : Nat) (a_reader : Nat) (a_search : Nat) (a_deal : Nat) (a_line : Nat) (a_board_commons : Nat) (a_board_lengths : Nat) (a_board_parts : Nat) (a_board_likenesses : Nat) (a_scene_cells : Nat) (a_search_free : Nat) (a_search_factors : Nat) (a_search_weights : Nat) (a_search_row : Nat) (a_search_lengths : Nat) (a_search_signs : Nat) (a_deal_actors : Nat) (a_deal_words : Nat) (a_deal_costs : Nat) (a_deal_least : Nat) (a_deal_dealt : Nat) (f_length : Int32) (f_board_wordCount : Int32) (f_board_likenessCount : Int32) (f_board_actorCount : Int32) (f_board_forbiddenBits : Int32) (f_board_habitTold : Int32) (f_board_priceTold : Int32) (f_board_commons : Nat → Int32) (f_board_lengths : Nat → Int32) (f_board_parts : Nat → Int32) (f_board_likenesses : Nat → Int32) (f_scene_cells : Nat → Int32) (f_search_words : Int32) (f_search_freeCount : Int32) (f_search_open : Int32) (f_search_free : Nat → Int32) (f_search_factors : Nat → Int32) (f_search_weights : Nat → Int32) (f_search_row : Nat → Int32) (f_search_lengths : Nat → Int32) (f_search_signs : Nat → Int32) (f_deal_costs : Nat → Int32) (f_deal_least : Nat → Int32) (f_deal_dealt : Nat → Int32) (y_1 : Int32) {z : Int32 × (Nat → Int32) × (Nat → Int32) × (Nat → Int32) × (Nat → Int32) × (Nat → Int32) × (Nat → Int32) × Int32 × Int32 × Int32 × (Nat → Int32) × (Nat → Int32) × (Nat → Int32) × (Nat → Int32) × (Nat → Int32) × Int32} (hR : ∀ (lv : List (Nat × Value)) (pc : Nat), decode cX8_send pc = .ok (.ireturn, 1) → gg cI X 5 0 0 [oX8 h a_letters f_length a_board a_draft a_scene a_trial a_past a_kept a_seen a_reader a_search a_deal a_line, oX0 a_board a_board_commons a_board_lengths a_board_parts a_board_likenesses f_board_wordCount f_board_likenessCount f_board_actorCount f_board_forbiddenBits f_board_habitTold f_board_priceTold, aI cI a_board_commons 8 f_board_commons, aI cI a_board_lengths 8 f_board_lengths, aI cI a_board_parts 8 f_board_parts, aI cI a_board_likenesses 6 f_board_likenesses, oX4 a_scene a_scene_cells, aI cI a_scene_cells 55 f_scene_cells, oX5 a_search a_search_free a_search_factors a_search_weights a_search_row a_search_lengths a_search_signs z.2.2.2.2.2.2.2.1 z.2.2.2.2.2.2.2.2.1 z.2.2.2.2.2.2.2.2.2.1, aI cI a_search_free 15 z.2.1, aI cI a_search_factors 120 z.2.2.1, aI cI a_search_weights 32 z.2.2.2.1, aI cI a_search_row 3 z.2.2.2.2.1, aI cI a_search_lengths 8 z.2.2.2.2.2.1, aI cI a_search_signs 24 z.2.2.2.2.2.2.1, oX1 a_deal a_deal_actors a_deal_words a_deal_costs a_deal_least a_deal_dealt z.2.2.2.2.2.2.2.2.2.2.2.2.2.2.2, aI cI a_deal_actors 5 z.2.2.2.2.2.2.2.2.2.2.1, aI cI a_deal_words 5 z.2.2.2.2.2.2.2.2.2.2.2.1, aI cI a_deal_costs 25 z.2.2.2.2.2.2.2.2.2.2.2.2.1, aI cI a_deal_least 32 z.2.2.2.2.2.2.2.2.2.2.2.2.2.1, aI cI a_deal_dealt 5 z.2.2.2.2.2.2.2.2.2.2.2.2.2.2.1] lv pc [.int z.1]) : ∀ (n : Nat) (y_2 : Int32) (f_deal_actors : Nat → Int32) (f_deal_words : Nat → Int32) (f_deal_used : Int32), LX8_send_24 y_1 f_board_commons f_board_lengths f_board_parts f_board_likenesses f_board_wordCount f_board_likenessCount f_board_actorCount f_board_forbiddenBits f_board_habitTold f_scene_cells f_search_free f_search_factors f_search_weights f_search_row f_search_lengths f_search_signs f_search_words f_search_freeCount f_search_open f_deal_costs f_deal_least f_deal_dealt n y_2 f_deal_actors f_deal_words f_deal_used = some z → gg cI X 5 0 0 [oX8 h a_letters f_length a_board a_draft a_scene a_trial a_past a_kept a_seen a_reader a_search a_deal a_line, oX0 a_board a_board_commons a_board_lengths a_board_parts a_board_likenesses f_board_wordCount f_board_likenessCount f_board_actorCount f_board_forbiddenBits f_board_habitTold f_board_priceTold, aI cI a_board_commons 8 f_board_commons, aI cI a_board_lengths 8 f_board_lengths, aI cI a_board_parts 8 f_board_parts, aI cI a_board_likenesses 6 f_board_likenesses, oX4 a_scene a_scene_cells, aI cI a_scene_cells 55 f_scene_cells, oX5 a_search a_search_free a_search_factors a_search_weights a_search_row a_search_lengths a_search_signs f_search_words f_search_freeCount f_search_open, aI cI a_search_free 15 f_search_free, aI cI a_search_factors 120 f_search_factors, aI cI a_search_weights 32 f_search_weights, aI cI a_search_row 3 f_search_row, aI cI a_search_lengths 8 f_search_lengths, aI cI a_search_signs 24 f_search_signs, oX1 a_deal a_deal_actors a_deal_words a_deal_costs a_deal_least a_deal_dealt f_deal_used, aI cI a_deal_actors 5 f_deal_actors, aI cI a_deal_words 5 f_deal_words, aI cI a_deal_costs 25 f_deal_costs, aI cI a_deal_least 32 f_deal_least, aI cI a_deal_dealt 5 f_deal_dealt] [(0, .ref h), (1, .int y_1), (2, .int y_2)] 24 [] := by
  intro n
  induction n with
  | zero =>
    intro y_2 f_deal_actors f_deal_words f_deal_used hs
    exact nn_ok hs
  | succ n ih =>
    intro y_2 f_deal_actors f_deal_words f_deal_used hs
    rw [LX8_send_24] at hs
    refine g_iload_n (pl := 2) C dX8_send_24 rfl rfl ?_
    refine g_aload_n (pl := 0) C dX8_send_25 rfl rfl ?_
    refine g_get C fX8_16 0 rfl rfl dX8_send_26 ?_
    obtain ⟨z20, e_z20, hs⟩ := vb_ok hs
    refine g_callV (ws' := [oX8 h a_letters f_length a_board a_draft a_scene a_trial a_past a_kept a_seen a_reader a_search a_deal a_line, oX0 a_board a_board_commons a_board_lengths a_board_parts a_board_likenesses f_board_wordCount f_board_likenessCount f_board_actorCount f_board_forbiddenBits f_board_habitTold f_board_priceTold, aI cI a_board_commons 8 f_board_commons, aI cI a_board_lengths 8 f_board_lengths, aI cI a_board_parts 8 f_board_parts, aI cI a_board_likenesses 6 f_board_likenesses, oX4 a_scene a_scene_cells, aI cI a_scene_cells 55 f_scene_cells, oX5 a_search a_search_free a_search_factors a_search_weights a_search_row a_search_lengths a_search_signs f_search_words f_search_freeCount f_search_open, aI cI a_search_free 15 f_search_free, aI cI a_search_factors 120 f_search_factors, aI cI a_search_weights 32 f_search_weights, aI cI a_search_row 3 f_search_row, aI cI a_search_lengths 8 f_search_lengths, aI cI a_search_signs 24 f_search_signs, oX1 a_deal a_deal_actors a_deal_words a_deal_costs a_deal_least a_deal_dealt f_deal_used, aI cI a_deal_actors 5 f_deal_actors, aI cI a_deal_words 5 f_deal_words, aI cI a_deal_costs 25 f_deal_costs, aI cI a_deal_least 32 f_deal_least, aI cI a_deal_dealt 5 f_deal_dealt]) (rest := [.int y_2]) (st' := [.int z20, .int y_2]) C mX8_111 q2_97 [] (fun l D => cX0_actors_ct l D cI a_board a_board_commons a_board_lengths a_board_parts a_board_likenesses f_board_wordCount f_board_likenessCount f_board_actorCount f_board_forbiddenBits f_board_habitTold f_board_priceTold e_z20) ⟨⟨rfl, rfl⟩, Nat.le_of_ble_eq_true rfl, Nat.le_of_ble_eq_true rfl⟩ 1 rfl rfl rfl [1] rfl rfl rfl rfl rfl (Nat.le_of_ble_eq_true rfl) (Nat.zero_le _) (Nat.zero_le _) rfl dX8_send_29 ?_
    refine g_icmp_ge (tgt := 69) C dX8_send_32 (by decide) (fun c21 => ?_) (fun c21 => ?_)
    · replace hs := vi_t hs c21
      refine g_iconst (v := (nI 0)) C dX8_send_69 rfl ?_
      refine g_istore_n (lv' := [(2, .int (nI 0)), (0, .ref h), (1, .int y_1)]) C dX8_send_70 rfl (by decide) rfl ?_
      refine g_sub [1, 2, 0] rfl ?_
      exact LX8_send_71_w C h a_letters a_board a_draft a_scene a_trial a_past a_kept a_seen a_reader a_search a_deal a_line a_board_commons a_board_lengths a_board_parts a_board_likenesses a_scene_cells a_search_free a_search_factors a_search_weights a_search_row a_search_lengths a_search_signs a_deal_actors a_deal_words a_deal_costs a_deal_least a_deal_dealt f_length f_board_wordCount f_board_likenessCount f_board_actorCount f_board_forbiddenBits f_board_habitTold f_board_priceTold f_board_commons f_board_lengths f_board_parts f_board_likenesses f_scene_cells f_deal_used f_deal_actors f_deal_words f_deal_least f_deal_dealt y_1 hR _ (nI 0) f_search_free f_search_factors f_search_weights f_search_row f_search_lengths f_search_signs f_search_words f_search_freeCount f_search_open f_deal_costs hs
    · replace hs := vi_f hs c21
      refine g_aload_n (pl := 0) C dX8_send_35 rfl rfl ?_
      refine g_get C fX8_26 0 rfl rfl dX8_send_36 ?_
      refine g_iload_n (pl := 2) C dX8_send_39 rfl rfl ?_
      obtain ⟨z22, e_z22, hs⟩ := vb_ok hs
      refine g_callV (ws' := [oX8 h a_letters f_length a_board a_draft a_scene a_trial a_past a_kept a_seen a_reader a_search a_deal a_line, oX0 a_board a_board_commons a_board_lengths a_board_parts a_board_likenesses f_board_wordCount f_board_likenessCount f_board_actorCount f_board_forbiddenBits f_board_habitTold f_board_priceTold, aI cI a_board_commons 8 f_board_commons, aI cI a_board_lengths 8 f_board_lengths, aI cI a_board_parts 8 f_board_parts, aI cI a_board_likenesses 6 f_board_likenesses, oX4 a_scene a_scene_cells, aI cI a_scene_cells 55 f_scene_cells, oX5 a_search a_search_free a_search_factors a_search_weights a_search_row a_search_lengths a_search_signs f_search_words f_search_freeCount f_search_open, aI cI a_search_free 15 f_search_free, aI cI a_search_factors 120 f_search_factors, aI cI a_search_weights 32 f_search_weights, aI cI a_search_row 3 f_search_row, aI cI a_search_lengths 8 f_search_lengths, aI cI a_search_signs 24 f_search_signs, oX1 a_deal a_deal_actors a_deal_words a_deal_costs a_deal_least a_deal_dealt f_deal_used, aI cI a_deal_actors 5 f_deal_actors, aI cI a_deal_words 5 f_deal_words, aI cI a_deal_costs 25 f_deal_costs, aI cI a_deal_least 32 f_deal_least, aI cI a_deal_dealt 5 f_deal_dealt]) (rest := []) (st' := [.int z22]) C mX8_172 q3_90 [.int y_2] (fun l D => cX4_isFresh_ct l D cI a_scene a_scene_cells f_scene_cells y_2 e_z22) ⟨⟨rfl, rfl⟩, Nat.le_of_ble_eq_true rfl, Nat.le_of_ble_eq_true rfl⟩ 6 rfl rfl rfl [6, 7] rfl rfl rfl rfl rfl (Nat.le_of_ble_eq_true rfl) (Nat.zero_le _) (Nat.zero_le _) rfl dX8_send_40 ?_
      refine g_if_eq (tgt := 63) C dX8_send_43 (by decide) (fun c23 => ?_) (fun c23 => ?_)
      · replace hs := vi_t hs c23
        obtain ⟨y24, e_y24, hs⟩ := vlet_ex hs
        refine g_iinc (pl := 2) (lv' := [(2, .int y24), (0, .ref h), (1, .int y_1)]) C dX8_send_63 rfl e_y24.symm (by decide) rfl ?_
        refine g_goto (tgt := 24) C dX8_send_66 (by decide) ?_
        refine g_sub [1, 2, 0] rfl ?_
        exact ih y24 f_deal_actors f_deal_words f_deal_used hs
      · replace hs := vi_f hs c23
        refine g_aload_n (pl := 0) C dX8_send_46 rfl rfl ?_
        refine g_get C fX8_69 0 rfl rfl dX8_send_47 ?_
        refine g_iload_n (pl := 2) C dX8_send_50 rfl rfl ?_
        refine g_aload_n (pl := 0) C dX8_send_51 rfl rfl ?_
        refine g_get C fX8_26 0 rfl rfl dX8_send_52 ?_
        refine g_iload_n (pl := 2) C dX8_send_55 rfl rfl ?_
        refine g_iconst (v := (nI 1)) C dX8_send_56 rfl ?_
        obtain ⟨z25, e_z25, hs⟩ := vb_ok hs
        refine g_callV (ws' := [oX8 h a_letters f_length a_board a_draft a_scene a_trial a_past a_kept a_seen a_reader a_search a_deal a_line, oX0 a_board a_board_commons a_board_lengths a_board_parts a_board_likenesses f_board_wordCount f_board_likenessCount f_board_actorCount f_board_forbiddenBits f_board_habitTold f_board_priceTold, aI cI a_board_commons 8 f_board_commons, aI cI a_board_lengths 8 f_board_lengths, aI cI a_board_parts 8 f_board_parts, aI cI a_board_likenesses 6 f_board_likenesses, oX4 a_scene a_scene_cells, aI cI a_scene_cells 55 f_scene_cells, oX5 a_search a_search_free a_search_factors a_search_weights a_search_row a_search_lengths a_search_signs f_search_words f_search_freeCount f_search_open, aI cI a_search_free 15 f_search_free, aI cI a_search_factors 120 f_search_factors, aI cI a_search_weights 32 f_search_weights, aI cI a_search_row 3 f_search_row, aI cI a_search_lengths 8 f_search_lengths, aI cI a_search_signs 24 f_search_signs, oX1 a_deal a_deal_actors a_deal_words a_deal_costs a_deal_least a_deal_dealt f_deal_used, aI cI a_deal_actors 5 f_deal_actors, aI cI a_deal_words 5 f_deal_words, aI cI a_deal_costs 25 f_deal_costs, aI cI a_deal_least 32 f_deal_least, aI cI a_deal_dealt 5 f_deal_dealt]) (rest := [.int y_2, .ref a_deal]) (st' := [.int z25, .int y_2, .ref a_deal]) C mX8_149 q2_232 [.int y_2, .int (nI 1)] (fun l D => cX4_cell_ct l D cI a_scene a_scene_cells f_scene_cells y_2 (nI 1) e_z25) ⟨⟨rfl, rfl⟩, Nat.le_of_ble_eq_true rfl, Nat.le_of_ble_eq_true rfl⟩ 6 rfl rfl rfl [6, 7] rfl rfl rfl rfl rfl (Nat.le_of_ble_eq_true rfl) (Nat.zero_le _) (Nat.zero_le _) rfl dX8_send_57 ?_
        obtain ⟨z26, e_z26, hs⟩ := vb_ok hs
        refine g_callV (ws' := [oX8 h a_letters f_length a_board a_draft a_scene a_trial a_past a_kept a_seen a_reader a_search a_deal a_line, oX0 a_board a_board_commons a_board_lengths a_board_parts a_board_likenesses f_board_wordCount f_board_likenessCount f_board_actorCount f_board_forbiddenBits f_board_habitTold f_board_priceTold, aI cI a_board_commons 8 f_board_commons, aI cI a_board_lengths 8 f_board_lengths, aI cI a_board_parts 8 f_board_parts, aI cI a_board_likenesses 6 f_board_likenesses, oX4 a_scene a_scene_cells, aI cI a_scene_cells 55 f_scene_cells, oX5 a_search a_search_free a_search_factors a_search_weights a_search_row a_search_lengths a_search_signs f_search_words f_search_freeCount f_search_open, aI cI a_search_free 15 f_search_free, aI cI a_search_factors 120 f_search_factors, aI cI a_search_weights 32 f_search_weights, aI cI a_search_row 3 f_search_row, aI cI a_search_lengths 8 f_search_lengths, aI cI a_search_signs 24 f_search_signs, oX1 a_deal a_deal_actors a_deal_words a_deal_costs a_deal_least a_deal_dealt z26.2.2, aI cI a_deal_actors 5 z26.1, aI cI a_deal_words 5 z26.2.1, aI cI a_deal_costs 25 f_deal_costs, aI cI a_deal_least 32 f_deal_least, aI cI a_deal_dealt 5 f_deal_dealt]) (rest := []) (st' := []) C mX8_213 q3_193 [.int y_2, .int z25] (fun l D => cX1_add_ct l D cI a_deal a_deal_actors a_deal_words a_deal_costs a_deal_least a_deal_dealt f_deal_used f_deal_actors f_deal_words y_2 z25 e_z26) ⟨⟨rfl, rfl⟩, Nat.le_of_ble_eq_true rfl, Nat.le_of_ble_eq_true rfl⟩ 15 rfl rfl rfl [15, 16, 17] rfl rfl rfl rfl rfl (Nat.le_of_ble_eq_true rfl) (Nat.zero_le _) (Nat.zero_le _) rfl dX8_send_60 ?_
        obtain ⟨y27, e_y27, hs⟩ := vlet_ex hs
        refine g_iinc (pl := 2) (lv' := [(2, .int y27), (0, .ref h), (1, .int y_1)]) C dX8_send_63 rfl e_y27.symm (by decide) rfl ?_
        refine g_goto (tgt := 24) C dX8_send_66 (by decide) ?_
        refine g_sub [1, 2, 0] rfl ?_
        exact ih y27 z26.1 z26.2.1 z26.2.2 hs
set_option maxHeartbeats 4000000 in
set_option maxRecDepth 100000 in
theorem cX8_send_ct (l : Launch) (D : va_G) (cI : ClassId) (h : Nat) (a_letters : Nat) (a_board : Nat) (a_draft : Nat) (a_scene : Nat) (a_trial : Nat) (a_past : Nat) (a_kept : Nat) (a_seen : Nat) (a_reader : Nat) (a_search : Nat) (a_deal : Nat) (a_line : Nat) (a_board_commons : Nat) (a_board_lengths : Nat) (a_board_parts : Nat) (a_board_likenesses : Nat) (a_scene_cells : Nat) (a_search_free : Nat) (a_search_factors : Nat) (a_search_weights : Nat) (a_search_row : Nat) (a_search_lengths : Nat) (a_search_signs : Nat) (a_deal_actors : Nat) (a_deal_words : Nat) (a_deal_costs : Nat) (a_deal_least : Nat) (a_deal_dealt : Nat) (f_length : Int32) (f_board_wordCount : Int32) (f_board_likenessCount : Int32) (f_board_actorCount : Int32) (f_board_forbiddenBits : Int32) (f_board_habitTold : Int32) (f_board_priceTold : Int32) (f_board_commons : Nat → Int32) (f_board_lengths : Nat → Int32) (f_board_parts : Nat → Int32) (f_board_likenesses : Nat → Int32) (f_scene_cells : Nat → Int32) (f_search_words : Int32) (f_search_freeCount : Int32) (f_search_open : Int32) (f_search_free : Nat → Int32) (f_search_factors : Nat → Int32) (f_search_weights : Nat → Int32) (f_search_row : Nat → Int32) (f_search_lengths : Nat → Int32) (f_search_signs : Nat → Int32) (f_deal_used : Int32) (f_deal_actors : Nat → Int32) (f_deal_words : Nat → Int32) (f_deal_costs : Nat → Int32) (f_deal_least : Nat → Int32) (f_deal_dealt : Nat → Int32) (x1 : Int32) {z : Int32 × (Nat → Int32) × (Nat → Int32) × (Nat → Int32) × (Nat → Int32) × (Nat → Int32) × (Nat → Int32) × Int32 × Int32 × Int32 × (Nat → Int32) × (Nat → Int32) × (Nat → Int32) × (Nat → Int32) × (Nat → Int32) × Int32} (hs : sX8_send f_board_commons f_board_lengths f_board_parts f_board_likenesses f_board_wordCount f_board_likenessCount f_board_actorCount f_board_forbiddenBits f_board_habitTold f_scene_cells f_search_free f_search_factors f_search_weights f_search_row f_search_lengths f_search_signs f_search_words f_search_freeCount f_search_open f_deal_actors f_deal_words f_deal_costs f_deal_least f_deal_dealt f_deal_used x1 = some z) : ct l yX8_send (.code yX8_send cX8_send 5 (some .int) :: gtb) rmX8_send D cI [.ref h, .int x1] [oX8 h a_letters f_length a_board a_draft a_scene a_trial a_past a_kept a_seen a_reader a_search a_deal a_line, oX0 a_board a_board_commons a_board_lengths a_board_parts a_board_likenesses f_board_wordCount f_board_likenessCount f_board_actorCount f_board_forbiddenBits f_board_habitTold f_board_priceTold, aI cI a_board_commons 8 f_board_commons, aI cI a_board_lengths 8 f_board_lengths, aI cI a_board_parts 8 f_board_parts, aI cI a_board_likenesses 6 f_board_likenesses, oX4 a_scene a_scene_cells, aI cI a_scene_cells 55 f_scene_cells, oX5 a_search a_search_free a_search_factors a_search_weights a_search_row a_search_lengths a_search_signs f_search_words f_search_freeCount f_search_open, aI cI a_search_free 15 f_search_free, aI cI a_search_factors 120 f_search_factors, aI cI a_search_weights 32 f_search_weights, aI cI a_search_row 3 f_search_row, aI cI a_search_lengths 8 f_search_lengths, aI cI a_search_signs 24 f_search_signs, oX1 a_deal a_deal_actors a_deal_words a_deal_costs a_deal_least a_deal_dealt f_deal_used, aI cI a_deal_actors 5 f_deal_actors, aI cI a_deal_words 5 f_deal_words, aI cI a_deal_costs 25 f_deal_costs, aI cI a_deal_least 32 f_deal_least, aI cI a_deal_dealt 5 f_deal_dealt] (some (.int z.1)) [oX8 h a_letters f_length a_board a_draft a_scene a_trial a_past a_kept a_seen a_reader a_search a_deal a_line, oX0 a_board a_board_commons a_board_lengths a_board_parts a_board_likenesses f_board_wordCount f_board_likenessCount f_board_actorCount f_board_forbiddenBits f_board_habitTold f_board_priceTold, aI cI a_board_commons 8 f_board_commons, aI cI a_board_lengths 8 f_board_lengths, aI cI a_board_parts 8 f_board_parts, aI cI a_board_likenesses 6 f_board_likenesses, oX4 a_scene a_scene_cells, aI cI a_scene_cells 55 f_scene_cells, oX5 a_search a_search_free a_search_factors a_search_weights a_search_row a_search_lengths a_search_signs z.2.2.2.2.2.2.2.1 z.2.2.2.2.2.2.2.2.1 z.2.2.2.2.2.2.2.2.2.1, aI cI a_search_free 15 z.2.1, aI cI a_search_factors 120 z.2.2.1, aI cI a_search_weights 32 z.2.2.2.1, aI cI a_search_row 3 z.2.2.2.2.1, aI cI a_search_lengths 8 z.2.2.2.2.2.1, aI cI a_search_signs 24 z.2.2.2.2.2.2.1, oX1 a_deal a_deal_actors a_deal_words a_deal_costs a_deal_least a_deal_dealt z.2.2.2.2.2.2.2.2.2.2.2.2.2.2.2, aI cI a_deal_actors 5 z.2.2.2.2.2.2.2.2.2.2.1, aI cI a_deal_words 5 z.2.2.2.2.2.2.2.2.2.2.2.1, aI cI a_deal_costs 25 z.2.2.2.2.2.2.2.2.2.2.2.2.1, aI cI a_deal_least 32 z.2.2.2.2.2.2.2.2.2.2.2.2.2.1, aI cI a_deal_dealt 5 z.2.2.2.2.2.2.2.2.2.2.2.2.2.2.1] := by
  refine ct_ofI (own := RX8) (by decide +kernel) rfl (Nat.le_of_ble_eq_true rfl) (fun X C hD hR => ?_)
  unfold sX8_send at hs
  show gg cI X 5 0 0 [oX8 h a_letters f_length a_board a_draft a_scene a_trial a_past a_kept a_seen a_reader a_search a_deal a_line, oX0 a_board a_board_commons a_board_lengths a_board_parts a_board_likenesses f_board_wordCount f_board_likenessCount f_board_actorCount f_board_forbiddenBits f_board_habitTold f_board_priceTold, aI cI a_board_commons 8 f_board_commons, aI cI a_board_lengths 8 f_board_lengths, aI cI a_board_parts 8 f_board_parts, aI cI a_board_likenesses 6 f_board_likenesses, oX4 a_scene a_scene_cells, aI cI a_scene_cells 55 f_scene_cells, oX5 a_search a_search_free a_search_factors a_search_weights a_search_row a_search_lengths a_search_signs f_search_words f_search_freeCount f_search_open, aI cI a_search_free 15 f_search_free, aI cI a_search_factors 120 f_search_factors, aI cI a_search_weights 32 f_search_weights, aI cI a_search_row 3 f_search_row, aI cI a_search_lengths 8 f_search_lengths, aI cI a_search_signs 24 f_search_signs, oX1 a_deal a_deal_actors a_deal_words a_deal_costs a_deal_least a_deal_dealt f_deal_used, aI cI a_deal_actors 5 f_deal_actors, aI cI a_deal_words 5 f_deal_words, aI cI a_deal_costs 25 f_deal_costs, aI cI a_deal_least 32 f_deal_least, aI cI a_deal_dealt 5 f_deal_dealt] [(0, .ref h), (1, .int x1)] 0 []
  refine g_iload_n (pl := 1) C dX8_send_0 rfl rfl ?_
  refine g_iconst (v := (-1)) C dX8_send_1 rfl ?_
  refine g_icmp_eq (tgt := 15) C dX8_send_2 (by decide) (fun c28 => ?_) (fun c28 => ?_)
  · replace hs := vi_t hs c28
    refine g_aload_n (pl := 0) C dX8_send_15 rfl rfl ?_
    refine g_get C fX8_69 0 rfl rfl dX8_send_16 ?_
    obtain ⟨z29, e_z29, hs⟩ := vb_ok hs
    refine g_callV (ws' := [oX8 h a_letters f_length a_board a_draft a_scene a_trial a_past a_kept a_seen a_reader a_search a_deal a_line, oX0 a_board a_board_commons a_board_lengths a_board_parts a_board_likenesses f_board_wordCount f_board_likenessCount f_board_actorCount f_board_forbiddenBits f_board_habitTold f_board_priceTold, aI cI a_board_commons 8 f_board_commons, aI cI a_board_lengths 8 f_board_lengths, aI cI a_board_parts 8 f_board_parts, aI cI a_board_likenesses 6 f_board_likenesses, oX4 a_scene a_scene_cells, aI cI a_scene_cells 55 f_scene_cells, oX5 a_search a_search_free a_search_factors a_search_weights a_search_row a_search_lengths a_search_signs f_search_words f_search_freeCount f_search_open, aI cI a_search_free 15 f_search_free, aI cI a_search_factors 120 f_search_factors, aI cI a_search_weights 32 f_search_weights, aI cI a_search_row 3 f_search_row, aI cI a_search_lengths 8 f_search_lengths, aI cI a_search_signs 24 f_search_signs, oX1 a_deal a_deal_actors a_deal_words a_deal_costs a_deal_least a_deal_dealt z29, aI cI a_deal_actors 5 f_deal_actors, aI cI a_deal_words 5 f_deal_words, aI cI a_deal_costs 25 f_deal_costs, aI cI a_deal_least 32 f_deal_least, aI cI a_deal_dealt 5 f_deal_dealt]) (rest := []) (st' := []) C mX8_210 q3_189 [] (fun l D => cX1_start_ct l D cI a_deal a_deal_actors a_deal_words a_deal_costs a_deal_least a_deal_dealt f_deal_used e_z29) ⟨⟨rfl, rfl⟩, Nat.le_of_ble_eq_true rfl, Nat.le_of_ble_eq_true rfl⟩ 15 rfl rfl rfl [15] rfl rfl rfl rfl rfl (Nat.le_of_ble_eq_true rfl) (Nat.zero_le _) (Nat.zero_le _) rfl dX8_send_19 ?_
    refine g_iconst (v := (nI 0)) C dX8_send_22 rfl ?_
    refine g_istore_n (lv' := [(2, .int (nI 0)), (0, .ref h), (1, .int x1)]) C dX8_send_23 rfl (by decide) rfl ?_
    refine g_sub [1, 2, 0] rfl ?_
    exact LX8_send_24_w C h a_letters a_board a_draft a_scene a_trial a_past a_kept a_seen a_reader a_search a_deal a_line a_board_commons a_board_lengths a_board_parts a_board_likenesses a_scene_cells a_search_free a_search_factors a_search_weights a_search_row a_search_lengths a_search_signs a_deal_actors a_deal_words a_deal_costs a_deal_least a_deal_dealt f_length f_board_wordCount f_board_likenessCount f_board_actorCount f_board_forbiddenBits f_board_habitTold f_board_priceTold f_board_commons f_board_lengths f_board_parts f_board_likenesses f_scene_cells f_search_words f_search_freeCount f_search_open f_search_free f_search_factors f_search_weights f_search_row f_search_lengths f_search_signs f_deal_costs f_deal_least f_deal_dealt x1 hR _ (nI 0) f_deal_actors f_deal_words z29 hs
  · replace hs := vi_f hs c28
    refine g_aload_n (pl := 0) C dX8_send_5 rfl rfl ?_
    refine g_iload_n (pl := 1) C dX8_send_6 rfl rfl ?_
    obtain ⟨z30, e_z30, hs⟩ := vb_ok hs
    refine g_callV (ws' := [oX8 h a_letters f_length a_board a_draft a_scene a_trial a_past a_kept a_seen a_reader a_search a_deal a_line, oX0 a_board a_board_commons a_board_lengths a_board_parts a_board_likenesses f_board_wordCount f_board_likenessCount f_board_actorCount f_board_forbiddenBits f_board_habitTold f_board_priceTold, aI cI a_board_commons 8 f_board_commons, aI cI a_board_lengths 8 f_board_lengths, aI cI a_board_parts 8 f_board_parts, aI cI a_board_likenesses 6 f_board_likenesses, oX4 a_scene a_scene_cells, aI cI a_scene_cells 55 f_scene_cells, oX5 a_search a_search_free a_search_factors a_search_weights a_search_row a_search_lengths a_search_signs f_search_words f_search_freeCount f_search_open, aI cI a_search_free 15 f_search_free, aI cI a_search_factors 120 f_search_factors, aI cI a_search_weights 32 f_search_weights, aI cI a_search_row 3 f_search_row, aI cI a_search_lengths 8 f_search_lengths, aI cI a_search_signs 24 f_search_signs, oX1 a_deal a_deal_actors a_deal_words a_deal_costs a_deal_least a_deal_dealt f_deal_used, aI cI a_deal_actors 5 f_deal_actors, aI cI a_deal_words 5 f_deal_words, aI cI a_deal_costs 25 f_deal_costs, aI cI a_deal_least 32 f_deal_least, aI cI a_deal_dealt 5 f_deal_dealt]) (rest := []) (st' := [.int z30]) C mX8_146 q2_228 [.int x1] (fun l D => cX8_isActor_ct l D cI h a_letters a_board a_draft a_scene a_trial a_past a_kept a_seen a_reader a_search a_deal a_line a_board_commons a_board_lengths a_board_parts a_board_likenesses f_length f_board_wordCount f_board_likenessCount f_board_actorCount f_board_forbiddenBits f_board_habitTold f_board_priceTold x1 e_z30) ⟨⟨rfl, rfl⟩, Nat.le_of_ble_eq_true rfl, Nat.le_of_ble_eq_true rfl⟩ 0 rfl rfl rfl [0, 1] rfl rfl rfl rfl rfl (Nat.le_of_ble_eq_true rfl) (Nat.zero_le _) (Nat.zero_le _) rfl dX8_send_7 ?_
    refine g_if_ne (tgt := 15) C dX8_send_10 (by decide) (fun c31 => ?_) (fun c31 => ?_)
    · replace hs := vi_f hs c31
      refine g_aload_n (pl := 0) C dX8_send_15 rfl rfl ?_
      refine g_get C fX8_69 0 rfl rfl dX8_send_16 ?_
      obtain ⟨z32, e_z32, hs⟩ := vb_ok hs
      refine g_callV (ws' := [oX8 h a_letters f_length a_board a_draft a_scene a_trial a_past a_kept a_seen a_reader a_search a_deal a_line, oX0 a_board a_board_commons a_board_lengths a_board_parts a_board_likenesses f_board_wordCount f_board_likenessCount f_board_actorCount f_board_forbiddenBits f_board_habitTold f_board_priceTold, aI cI a_board_commons 8 f_board_commons, aI cI a_board_lengths 8 f_board_lengths, aI cI a_board_parts 8 f_board_parts, aI cI a_board_likenesses 6 f_board_likenesses, oX4 a_scene a_scene_cells, aI cI a_scene_cells 55 f_scene_cells, oX5 a_search a_search_free a_search_factors a_search_weights a_search_row a_search_lengths a_search_signs f_search_words f_search_freeCount f_search_open, aI cI a_search_free 15 f_search_free, aI cI a_search_factors 120 f_search_factors, aI cI a_search_weights 32 f_search_weights, aI cI a_search_row 3 f_search_row, aI cI a_search_lengths 8 f_search_lengths, aI cI a_search_signs 24 f_search_signs, oX1 a_deal a_deal_actors a_deal_words a_deal_costs a_deal_least a_deal_dealt z32, aI cI a_deal_actors 5 f_deal_actors, aI cI a_deal_words 5 f_deal_words, aI cI a_deal_costs 25 f_deal_costs, aI cI a_deal_least 32 f_deal_least, aI cI a_deal_dealt 5 f_deal_dealt]) (rest := []) (st' := []) C mX8_210 q3_189 [] (fun l D => cX1_start_ct l D cI a_deal a_deal_actors a_deal_words a_deal_costs a_deal_least a_deal_dealt f_deal_used e_z32) ⟨⟨rfl, rfl⟩, Nat.le_of_ble_eq_true rfl, Nat.le_of_ble_eq_true rfl⟩ 15 rfl rfl rfl [15] rfl rfl rfl rfl rfl (Nat.le_of_ble_eq_true rfl) (Nat.zero_le _) (Nat.zero_le _) rfl dX8_send_19 ?_
      refine g_iconst (v := (nI 0)) C dX8_send_22 rfl ?_
      refine g_istore_n (lv' := [(2, .int (nI 0)), (0, .ref h), (1, .int x1)]) C dX8_send_23 rfl (by decide) rfl ?_
      refine g_sub [1, 2, 0] rfl ?_
      exact LX8_send_24_w C h a_letters a_board a_draft a_scene a_trial a_past a_kept a_seen a_reader a_search a_deal a_line a_board_commons a_board_lengths a_board_parts a_board_likenesses a_scene_cells a_search_free a_search_factors a_search_weights a_search_row a_search_lengths a_search_signs a_deal_actors a_deal_words a_deal_costs a_deal_least a_deal_dealt f_length f_board_wordCount f_board_likenessCount f_board_actorCount f_board_forbiddenBits f_board_habitTold f_board_priceTold f_board_commons f_board_lengths f_board_parts f_board_likenesses f_scene_cells f_search_words f_search_freeCount f_search_open f_search_free f_search_factors f_search_weights f_search_row f_search_lengths f_search_signs f_deal_costs f_deal_least f_deal_dealt x1 hR _ (nI 0) f_deal_actors f_deal_words z32 hs
    · replace hs := vi_t hs c31
      refine g_iconst (v := (-1)) C dX8_send_13 rfl ?_
      cases hs
      exact hR _ _ dX8_send_14
def sX8_fewestForWanted (f_board_commons : Nat → Int32) (f_board_lengths : Nat → Int32) (f_board_parts : Nat → Int32) (f_board_likenesses : Nat → Int32) (f_board_wordCount : Int32) (f_board_likenessCount : Int32) (f_board_forbiddenBits : Int32) (f_board_habitTold : Int32) (f_scene_cells : Nat → Int32) (f_search_free : Nat → Int32) (f_search_factors : Nat → Int32) (f_search_weights : Nat → Int32) (f_search_row : Nat → Int32) (f_search_lengths : Nat → Int32) (f_search_signs : Nat → Int32) (f_search_words : Int32) (f_search_freeCount : Int32) (f_search_open : Int32) (x1 : Int32) : Option (Int32 × (Nat → Int32) × (Nat → Int32) × (Nat → Int32) × (Nat → Int32) × (Nat → Int32) × (Nat → Int32) × Int32 × Int32 × Int32) :=
  vb (sX5_run f_search_free f_search_factors f_search_weights f_search_row f_search_lengths f_search_signs f_search_words f_search_freeCount f_search_open f_board_commons f_board_lengths f_board_parts f_board_likenesses f_board_wordCount f_board_likenessCount f_board_forbiddenBits f_board_habitTold f_scene_cells x1) fun z1 =>
  vb (sX4_cell f_scene_cells x1 (nI 1)) fun z2 =>
  vb (sX5_howMany z1.2.2.2.2.1 z1.2.2.2.2.2.2.1 z2) fun z3 =>
  some (z3, z1.1, z1.2.1, z1.2.2.1, z1.2.2.2.1, z1.2.2.2.2.1, z1.2.2.2.2.2.1, z1.2.2.2.2.2.2.1, z1.2.2.2.2.2.2.2.1, z1.2.2.2.2.2.2.2.2)
abbrev rmX8_fewestForWanted : Room := { frames := 5, cells := 0, slots := 0, locals := 123 }
set_option maxHeartbeats 4000000 in
set_option maxRecDepth 100000 in
theorem cX8_fewestForWanted_ct (l : Launch) (D : va_G) (cI : ClassId) (h : Nat) (a_letters : Nat) (a_board : Nat) (a_draft : Nat) (a_scene : Nat) (a_trial : Nat) (a_past : Nat) (a_kept : Nat) (a_seen : Nat) (a_reader : Nat) (a_search : Nat) (a_deal : Nat) (a_line : Nat) (a_board_commons : Nat) (a_board_lengths : Nat) (a_board_parts : Nat) (a_board_likenesses : Nat) (a_scene_cells : Nat) (a_search_free : Nat) (a_search_factors : Nat) (a_search_weights : Nat) (a_search_row : Nat) (a_search_lengths : Nat) (a_search_signs : Nat) (f_length : Int32) (f_board_wordCount : Int32) (f_board_likenessCount : Int32) (f_board_actorCount : Int32) (f_board_forbiddenBits : Int32) (f_board_habitTold : Int32) (f_board_priceTold : Int32) (f_board_commons : Nat → Int32) (f_board_lengths : Nat → Int32) (f_board_parts : Nat → Int32) (f_board_likenesses : Nat → Int32) (f_scene_cells : Nat → Int32) (f_search_words : Int32) (f_search_freeCount : Int32) (f_search_open : Int32) (f_search_free : Nat → Int32) (f_search_factors : Nat → Int32) (f_search_weights : Nat → Int32) (f_search_row : Nat → Int32) (f_search_lengths : Nat → Int32) (f_search_signs : Nat → Int32) (x1 : Int32) {z : Int32 × (Nat → Int32) × (Nat → Int32) × (Nat → Int32) × (Nat → Int32) × (Nat → Int32) × (Nat → Int32) × Int32 × Int32 × Int32} (hs : sX8_fewestForWanted f_board_commons f_board_lengths f_board_parts f_board_likenesses f_board_wordCount f_board_likenessCount f_board_forbiddenBits f_board_habitTold f_scene_cells f_search_free f_search_factors f_search_weights f_search_row f_search_lengths f_search_signs f_search_words f_search_freeCount f_search_open x1 = some z) : ct l yX8_fewestForWanted (.code yX8_fewestForWanted cX8_fewestForWanted 2 (some .int) :: gtb) rmX8_fewestForWanted D cI [.ref h, .int x1] [oX8 h a_letters f_length a_board a_draft a_scene a_trial a_past a_kept a_seen a_reader a_search a_deal a_line, oX0 a_board a_board_commons a_board_lengths a_board_parts a_board_likenesses f_board_wordCount f_board_likenessCount f_board_actorCount f_board_forbiddenBits f_board_habitTold f_board_priceTold, aI cI a_board_commons 8 f_board_commons, aI cI a_board_lengths 8 f_board_lengths, aI cI a_board_parts 8 f_board_parts, aI cI a_board_likenesses 6 f_board_likenesses, oX4 a_scene a_scene_cells, aI cI a_scene_cells 55 f_scene_cells, oX5 a_search a_search_free a_search_factors a_search_weights a_search_row a_search_lengths a_search_signs f_search_words f_search_freeCount f_search_open, aI cI a_search_free 15 f_search_free, aI cI a_search_factors 120 f_search_factors, aI cI a_search_weights 32 f_search_weights, aI cI a_search_row 3 f_search_row, aI cI a_search_lengths 8 f_search_lengths, aI cI a_search_signs 24 f_search_signs] (some (.int z.1)) [oX8 h a_letters f_length a_board a_draft a_scene a_trial a_past a_kept a_seen a_reader a_search a_deal a_line, oX0 a_board a_board_commons a_board_lengths a_board_parts a_board_likenesses f_board_wordCount f_board_likenessCount f_board_actorCount f_board_forbiddenBits f_board_habitTold f_board_priceTold, aI cI a_board_commons 8 f_board_commons, aI cI a_board_lengths 8 f_board_lengths, aI cI a_board_parts 8 f_board_parts, aI cI a_board_likenesses 6 f_board_likenesses, oX4 a_scene a_scene_cells, aI cI a_scene_cells 55 f_scene_cells, oX5 a_search a_search_free a_search_factors a_search_weights a_search_row a_search_lengths a_search_signs z.2.2.2.2.2.2.2.1 z.2.2.2.2.2.2.2.2.1 z.2.2.2.2.2.2.2.2.2, aI cI a_search_free 15 z.2.1, aI cI a_search_factors 120 z.2.2.1, aI cI a_search_weights 32 z.2.2.2.1, aI cI a_search_row 3 z.2.2.2.2.1, aI cI a_search_lengths 8 z.2.2.2.2.2.1, aI cI a_search_signs 24 z.2.2.2.2.2.2.1] := by
  refine ct_ofI (own := RX8) (by decide +kernel) rfl (Nat.le_of_ble_eq_true rfl) (fun X C hD hR => ?_)
  unfold sX8_fewestForWanted at hs
  show gg cI X 2 0 0 [oX8 h a_letters f_length a_board a_draft a_scene a_trial a_past a_kept a_seen a_reader a_search a_deal a_line, oX0 a_board a_board_commons a_board_lengths a_board_parts a_board_likenesses f_board_wordCount f_board_likenessCount f_board_actorCount f_board_forbiddenBits f_board_habitTold f_board_priceTold, aI cI a_board_commons 8 f_board_commons, aI cI a_board_lengths 8 f_board_lengths, aI cI a_board_parts 8 f_board_parts, aI cI a_board_likenesses 6 f_board_likenesses, oX4 a_scene a_scene_cells, aI cI a_scene_cells 55 f_scene_cells, oX5 a_search a_search_free a_search_factors a_search_weights a_search_row a_search_lengths a_search_signs f_search_words f_search_freeCount f_search_open, aI cI a_search_free 15 f_search_free, aI cI a_search_factors 120 f_search_factors, aI cI a_search_weights 32 f_search_weights, aI cI a_search_row 3 f_search_row, aI cI a_search_lengths 8 f_search_lengths, aI cI a_search_signs 24 f_search_signs] [(0, .ref h), (1, .int x1)] 0 []
  refine g_aload_n (pl := 0) C dX8_fewestForWanted_0 rfl rfl ?_
  refine g_get C fX8_62 0 rfl rfl dX8_fewestForWanted_1 ?_
  refine g_aload_n (pl := 0) C dX8_fewestForWanted_4 rfl rfl ?_
  refine g_get C fX8_16 0 rfl rfl dX8_fewestForWanted_5 ?_
  refine g_aload_n (pl := 0) C dX8_fewestForWanted_8 rfl rfl ?_
  refine g_get C fX8_26 0 rfl rfl dX8_fewestForWanted_9 ?_
  refine g_iload_n (pl := 1) C dX8_fewestForWanted_12 rfl rfl ?_
  obtain ⟨z1, e_z1, hs⟩ := vb_ok hs
  refine g_callV (ws' := [oX8 h a_letters f_length a_board a_draft a_scene a_trial a_past a_kept a_seen a_reader a_search a_deal a_line, oX0 a_board a_board_commons a_board_lengths a_board_parts a_board_likenesses f_board_wordCount f_board_likenessCount f_board_actorCount f_board_forbiddenBits f_board_habitTold f_board_priceTold, aI cI a_board_commons 8 f_board_commons, aI cI a_board_lengths 8 f_board_lengths, aI cI a_board_parts 8 f_board_parts, aI cI a_board_likenesses 6 f_board_likenesses, oX4 a_scene a_scene_cells, aI cI a_scene_cells 55 f_scene_cells, oX5 a_search a_search_free a_search_factors a_search_weights a_search_row a_search_lengths a_search_signs z1.2.2.2.2.2.2.1 z1.2.2.2.2.2.2.2.1 z1.2.2.2.2.2.2.2.2, aI cI a_search_free 15 z1.1, aI cI a_search_factors 120 z1.2.1, aI cI a_search_weights 32 z1.2.2.1, aI cI a_search_row 3 z1.2.2.2.1, aI cI a_search_lengths 8 z1.2.2.2.2.1, aI cI a_search_signs 24 z1.2.2.2.2.2.1]) (rest := []) (st' := []) C mX8_197 q3_123 [.ref a_board, .ref a_scene, .int x1] (fun l D => cX5_run_ct l D cI a_search a_search_free a_search_factors a_search_weights a_search_row a_search_lengths a_search_signs a_board a_board_commons a_board_lengths a_board_parts a_board_likenesses a_scene a_scene_cells f_search_words f_search_freeCount f_search_open f_search_free f_search_factors f_search_weights f_search_row f_search_lengths f_search_signs f_board_wordCount f_board_likenessCount f_board_actorCount f_board_forbiddenBits f_board_habitTold f_board_priceTold f_board_commons f_board_lengths f_board_parts f_board_likenesses f_scene_cells x1 e_z1) ⟨⟨rfl, rfl⟩, Nat.le_of_ble_eq_true rfl, Nat.le_of_ble_eq_true rfl⟩ 8 rfl rfl rfl [8, 9, 10, 11, 12, 13, 14, 1, 2, 3, 4, 5, 6, 7] rfl rfl rfl (by simp only [setM, List.set_cons_zero, List.set_cons_succ]) rfl (Nat.le_of_ble_eq_true rfl) (Nat.zero_le _) (Nat.zero_le _) rfl dX8_fewestForWanted_13 ?_
  refine g_aload_n (pl := 0) C dX8_fewestForWanted_16 rfl rfl ?_
  refine g_get C fX8_62 0 rfl rfl dX8_fewestForWanted_17 ?_
  refine g_aload_n (pl := 0) C dX8_fewestForWanted_20 rfl rfl ?_
  refine g_get C fX8_26 0 rfl rfl dX8_fewestForWanted_21 ?_
  refine g_iload_n (pl := 1) C dX8_fewestForWanted_24 rfl rfl ?_
  refine g_iconst (v := (nI 1)) C dX8_fewestForWanted_25 rfl ?_
  obtain ⟨z2, e_z2, hs⟩ := vb_ok hs
  refine g_callV (ws' := [oX8 h a_letters f_length a_board a_draft a_scene a_trial a_past a_kept a_seen a_reader a_search a_deal a_line, oX0 a_board a_board_commons a_board_lengths a_board_parts a_board_likenesses f_board_wordCount f_board_likenessCount f_board_actorCount f_board_forbiddenBits f_board_habitTold f_board_priceTold, aI cI a_board_commons 8 f_board_commons, aI cI a_board_lengths 8 f_board_lengths, aI cI a_board_parts 8 f_board_parts, aI cI a_board_likenesses 6 f_board_likenesses, oX4 a_scene a_scene_cells, aI cI a_scene_cells 55 f_scene_cells, oX5 a_search a_search_free a_search_factors a_search_weights a_search_row a_search_lengths a_search_signs z1.2.2.2.2.2.2.1 z1.2.2.2.2.2.2.2.1 z1.2.2.2.2.2.2.2.2, aI cI a_search_free 15 z1.1, aI cI a_search_factors 120 z1.2.1, aI cI a_search_weights 32 z1.2.2.1, aI cI a_search_row 3 z1.2.2.2.1, aI cI a_search_lengths 8 z1.2.2.2.2.1, aI cI a_search_signs 24 z1.2.2.2.2.2.1]) (rest := [.ref a_search]) (st' := [.int z2, .ref a_search]) C mX8_149 q2_232 [.int x1, .int (nI 1)] (fun l D => cX4_cell_ct l D cI a_scene a_scene_cells f_scene_cells x1 (nI 1) e_z2) ⟨⟨rfl, rfl⟩, Nat.le_of_ble_eq_true rfl, Nat.le_of_ble_eq_true rfl⟩ 6 rfl rfl rfl [6, 7] rfl rfl rfl rfl rfl (Nat.le_of_ble_eq_true rfl) (Nat.zero_le _) (Nat.zero_le _) rfl dX8_fewestForWanted_26 ?_
  obtain ⟨z3, e_z3, hs⟩ := vb_ok hs
  refine g_callV (ws' := [oX8 h a_letters f_length a_board a_draft a_scene a_trial a_past a_kept a_seen a_reader a_search a_deal a_line, oX0 a_board a_board_commons a_board_lengths a_board_parts a_board_likenesses f_board_wordCount f_board_likenessCount f_board_actorCount f_board_forbiddenBits f_board_habitTold f_board_priceTold, aI cI a_board_commons 8 f_board_commons, aI cI a_board_lengths 8 f_board_lengths, aI cI a_board_parts 8 f_board_parts, aI cI a_board_likenesses 6 f_board_likenesses, oX4 a_scene a_scene_cells, aI cI a_scene_cells 55 f_scene_cells, oX5 a_search a_search_free a_search_factors a_search_weights a_search_row a_search_lengths a_search_signs z1.2.2.2.2.2.2.1 z1.2.2.2.2.2.2.2.1 z1.2.2.2.2.2.2.2.2, aI cI a_search_free 15 z1.1, aI cI a_search_factors 120 z1.2.1, aI cI a_search_weights 32 z1.2.2.1, aI cI a_search_row 3 z1.2.2.2.1, aI cI a_search_lengths 8 z1.2.2.2.2.1, aI cI a_search_signs 24 z1.2.2.2.2.2.1]) (rest := []) (st' := [.int z3]) C mX8_201 q3_163 [.int z2] (fun l D => cX5_howMany_ct l D cI a_search a_search_free a_search_factors a_search_weights a_search_row a_search_lengths a_search_signs z1.2.2.2.2.2.2.1 z1.2.2.2.2.2.2.2.1 z1.2.2.2.2.2.2.2.2 z1.2.2.2.2.1 z2 e_z3) ⟨⟨rfl, rfl⟩, Nat.le_of_ble_eq_true rfl, Nat.le_of_ble_eq_true rfl⟩ 8 rfl rfl rfl [8, 13] rfl rfl rfl rfl rfl (Nat.le_of_ble_eq_true rfl) (Nat.zero_le _) (Nat.zero_le _) rfl dX8_fewestForWanted_29 ?_
  cases hs
  exact hR _ _ dX8_fewestForWanted_32
def LX8_queue_16 (y_1 : Int32) (f_board_commons : Nat → Int32) (f_board_lengths : Nat → Int32) (f_board_parts : Nat → Int32) (f_board_likenesses : Nat → Int32) (f_board_wordCount : Int32) (f_board_likenessCount : Int32) (f_board_actorCount : Int32) (f_board_forbiddenBits : Int32) (f_board_habitTold : Int32) (f_scene_cells : Nat → Int32) : Nat → Int32 → (Nat → Int32) → (Nat → Int32) → (Nat → Int32) → (Nat → Int32) → (Nat → Int32) → (Nat → Int32) → Int32 → Int32 → Int32 → (Nat → Int32) → (Nat → Int32) → Int32 → Option (Int32 × (Nat → Int32) × (Nat → Int32) × (Nat → Int32) × (Nat → Int32) × (Nat → Int32) × (Nat → Int32) × Int32 × Int32 × Int32 × (Nat → Int32) × (Nat → Int32) × Int32)
  | 0, _, _, _, _, _, _, _, _, _, _, _, _, _ => none
  | n + 1, y_2, f_search_free, f_search_factors, f_search_weights, f_search_row, f_search_lengths, f_search_signs, f_search_words, f_search_freeCount, f_search_open, f_line_actors, f_line_minutes, f_line_used =>
    vb (sX0_actors f_board_actorCount) fun z1 =>
    vi (z1 ≤ y_2) inferInstance (
      vi (y_1 = (-1)) inferInstance (
        vb (sX2_waited f_line_minutes f_line_used) fun z5 =>
        some (z5, f_search_free, f_search_factors, f_search_weights, f_search_row, f_search_lengths, f_search_signs, f_search_words, f_search_freeCount, f_search_open, f_line_actors, f_line_minutes, f_line_used)) (
        vb (sX2_actorAt f_line_actors f_line_used y_1) fun z4 =>
        some (z4, f_search_free, f_search_factors, f_search_weights, f_search_row, f_search_lengths, f_search_signs, f_search_words, f_search_freeCount, f_search_open, f_line_actors, f_line_minutes, f_line_used))) (
      vb (sX4_waits f_scene_cells y_2) fun z6 =>
      vi (z6 = 0) inferInstance (
        vlet (y_2 + (nI 1)) fun y8 =>
        LX8_queue_16 y_1 f_board_commons f_board_lengths f_board_parts f_board_likenesses f_board_wordCount f_board_likenessCount f_board_actorCount f_board_forbiddenBits f_board_habitTold f_scene_cells n y8 f_search_free f_search_factors f_search_weights f_search_row f_search_lengths f_search_signs f_search_words f_search_freeCount f_search_open f_line_actors f_line_minutes f_line_used) (
        vb (sX8_fewestForWanted f_board_commons f_board_lengths f_board_parts f_board_likenesses f_board_wordCount f_board_likenessCount f_board_forbiddenBits f_board_habitTold f_scene_cells f_search_free f_search_factors f_search_weights f_search_row f_search_lengths f_search_signs f_search_words f_search_freeCount f_search_open y_2) fun z9 =>
        vi (z9.1 = (-4)) inferInstance (
          vb (sX2_add f_line_actors f_line_minutes f_line_used y_2 (nI 5)) fun z13 =>
          vlet (y_2 + (nI 1)) fun y14 =>
          LX8_queue_16 y_1 f_board_commons f_board_lengths f_board_parts f_board_likenesses f_board_wordCount f_board_likenessCount f_board_actorCount f_board_forbiddenBits f_board_habitTold f_scene_cells n y14 z9.2.1 z9.2.2.1 z9.2.2.2.1 z9.2.2.2.2.1 z9.2.2.2.2.2.1 z9.2.2.2.2.2.2.1 z9.2.2.2.2.2.2.2.1 z9.2.2.2.2.2.2.2.2.1 z9.2.2.2.2.2.2.2.2.2 z13.1 z13.2.1 z13.2.2) (
          vb (sX2_add f_line_actors f_line_minutes f_line_used y_2 ((nI 1) + z9.1)) fun z11 =>
          vlet (y_2 + (nI 1)) fun y12 =>
          LX8_queue_16 y_1 f_board_commons f_board_lengths f_board_parts f_board_likenesses f_board_wordCount f_board_likenessCount f_board_actorCount f_board_forbiddenBits f_board_habitTold f_scene_cells n y12 z9.2.1 z9.2.2.1 z9.2.2.2.1 z9.2.2.2.2.1 z9.2.2.2.2.2.1 z9.2.2.2.2.2.2.1 z9.2.2.2.2.2.2.2.1 z9.2.2.2.2.2.2.2.2.1 z9.2.2.2.2.2.2.2.2.2 z11.1 z11.2.1 z11.2.2)))
def sX8_queue (f_board_commons : Nat → Int32) (f_board_lengths : Nat → Int32) (f_board_parts : Nat → Int32) (f_board_likenesses : Nat → Int32) (f_board_wordCount : Int32) (f_board_likenessCount : Int32) (f_board_actorCount : Int32) (f_board_forbiddenBits : Int32) (f_board_habitTold : Int32) (f_scene_cells : Nat → Int32) (f_search_free : Nat → Int32) (f_search_factors : Nat → Int32) (f_search_weights : Nat → Int32) (f_search_row : Nat → Int32) (f_search_lengths : Nat → Int32) (f_search_signs : Nat → Int32) (f_search_words : Int32) (f_search_freeCount : Int32) (f_search_open : Int32) (f_line_actors : Nat → Int32) (f_line_minutes : Nat → Int32) (f_line_used : Int32) (x1 : Int32) : Option (Int32 × (Nat → Int32) × (Nat → Int32) × (Nat → Int32) × (Nat → Int32) × (Nat → Int32) × (Nat → Int32) × Int32 × Int32 × Int32 × (Nat → Int32) × (Nat → Int32) × Int32) :=
  vi ((-1) ≤ x1) inferInstance (
    vb (sX2_start f_line_used) fun z16 =>
    LX8_queue_16 x1 f_board_commons f_board_lengths f_board_parts f_board_likenesses f_board_wordCount f_board_likenessCount f_board_actorCount f_board_forbiddenBits f_board_habitTold f_scene_cells vF (nI 0) f_search_free f_search_factors f_search_weights f_search_row f_search_lengths f_search_signs f_search_words f_search_freeCount f_search_open f_line_actors f_line_minutes z16) (
    some ((-1), f_search_free, f_search_factors, f_search_weights, f_search_row, f_search_lengths, f_search_signs, f_search_words, f_search_freeCount, f_search_open, f_line_actors, f_line_minutes, f_line_used))
abbrev rmX8_queue : Room := { frames := 6, cells := 0, slots := 0, locals := 144 }
set_option maxHeartbeats 4000000 in
set_option maxRecDepth 100000 in
theorem LX8_queue_16_w {cI : ClassId} {X : xT} (C : cx cI X 4 cX8_queue RX8 rmX8_queue) (h : Nat) (a_letters : Nat) (a_board : Nat) (a_draft : Nat) (a_scene : Nat) (a_trial : Nat) (a_past : Nat) (a_kept : Nat) (a_seen : Nat) (a_reader : Nat) (a_search : Nat) (a_deal : Nat) (a_line : Nat) (a_board_commons : Nat) (a_board_lengths : Nat) (a_board_parts : Nat) (a_board_likenesses : Nat) (a_scene_cells : Nat) (a_search_free : Nat) (a_search_factors : Nat) (a_search_weights : Nat) (a_search_row : Nat) (a_search_lengths : Nat) (a_search_signs : Nat) (a_line_actors : Nat) (a_line_minutes : Nat) (f_length : Int32) (f_board_wordCount : Int32) (f_board_likenessCount : Int32) (f_board_actorCount : Int32) (f_board_forbiddenBits : Int32) (f_board_habitTold : Int32) (f_board_priceTold : Int32) (f_board_commons : Nat → Int32) (f_board_lengths : Nat → Int32) (f_board_parts : Nat → Int32) (f_board_likenesses : Nat → Int32) (f_scene_cells : Nat → Int32) (y_1 : Int32) {z : Int32 × (Nat → Int32) × (Nat → Int32) × (Nat → Int32) × (Nat → Int32) × (Nat → Int32) × (Nat → Int32) × Int32 × Int32 × Int32 × (Nat → Int32) × (Nat → Int32) × Int32} (hR : ∀ (lv : List (Nat × Value)) (pc : Nat), decode cX8_queue pc = .ok (.ireturn, 1) → gg cI X 4 0 0 [oX8 h a_letters f_length a_board a_draft a_scene a_trial a_past a_kept a_seen a_reader a_search a_deal a_line, oX0 a_board a_board_commons a_board_lengths a_board_parts a_board_likenesses f_board_wordCount f_board_likenessCount f_board_actorCount f_board_forbiddenBits f_board_habitTold f_board_priceTold, aI cI a_board_commons 8 f_board_commons, aI cI a_board_lengths 8 f_board_lengths, aI cI a_board_parts 8 f_board_parts, aI cI a_board_likenesses 6 f_board_likenesses, oX4 a_scene a_scene_cells, aI cI a_scene_cells 55 f_scene_cells, oX5 a_search a_search_free a_search_factors a_search_weights a_search_row a_search_lengths a_search_signs z.2.2.2.2.2.2.2.1 z.2.2.2.2.2.2.2.2.1 z.2.2.2.2.2.2.2.2.2.1, aI cI a_search_free 15 z.2.1, aI cI a_search_factors 120 z.2.2.1, aI cI a_search_weights 32 z.2.2.2.1, aI cI a_search_row 3 z.2.2.2.2.1, aI cI a_search_lengths 8 z.2.2.2.2.2.1, aI cI a_search_signs 24 z.2.2.2.2.2.2.1, oX2 a_line a_line_actors a_line_minutes z.2.2.2.2.2.2.2.2.2.2.2.2, aI cI a_line_actors 5 z.2.2.2.2.2.2.2.2.2.2.1, aI cI a_line_minutes 5 z.2.2.2.2.2.2.2.2.2.2.2.1] lv pc [.int z.1]) : ∀ (n : Nat) (y_2 : Int32) (f_search_free : Nat → Int32) (f_search_factors : Nat → Int32) (f_search_weights : Nat → Int32) (f_search_row : Nat → Int32) (f_search_lengths : Nat → Int32) (f_search_signs : Nat → Int32) (f_search_words : Int32) (f_search_freeCount : Int32) (f_search_open : Int32) (f_line_actors : Nat → Int32) (f_line_minutes : Nat → Int32) (f_line_used : Int32), LX8_queue_16 y_1 f_board_commons f_board_lengths f_board_parts f_board_likenesses f_board_wordCount f_board_likenessCount f_board_actorCount f_board_forbiddenBits f_board_habitTold f_scene_cells n y_2 f_search_free f_search_factors f_search_weights f_search_row f_search_lengths f_search_signs f_search_words f_search_freeCount f_search_open f_line_actors f_line_minutes f_line_used = some z → gg cI X 4 0 0 [oX8 h a_letters f_length a_board a_draft a_scene a_trial a_past a_kept a_seen a_reader a_search a_deal a_line, oX0 a_board a_board_commons a_board_lengths a_board_parts a_board_likenesses f_board_wordCount f_board_likenessCount f_board_actorCount f_board_forbiddenBits f_board_habitTold f_board_priceTold, aI cI a_board_commons 8 f_board_commons, aI cI a_board_lengths 8 f_board_lengths, aI cI a_board_parts 8 f_board_parts, aI cI a_board_likenesses 6 f_board_likenesses, oX4 a_scene a_scene_cells, aI cI a_scene_cells 55 f_scene_cells, oX5 a_search a_search_free a_search_factors a_search_weights a_search_row a_search_lengths a_search_signs f_search_words f_search_freeCount f_search_open, aI cI a_search_free 15 f_search_free, aI cI a_search_factors 120 f_search_factors, aI cI a_search_weights 32 f_search_weights, aI cI a_search_row 3 f_search_row, aI cI a_search_lengths 8 f_search_lengths, aI cI a_search_signs 24 f_search_signs, oX2 a_line a_line_actors a_line_minutes f_line_used, aI cI a_line_actors 5 f_line_actors, aI cI a_line_minutes 5 f_line_minutes] [(0, .ref h), (1, .int y_1), (2, .int y_2)] 16 [] := by
  intro n
  induction n with
  | zero =>
    intro y_2 f_search_free f_search_factors f_search_weights f_search_row f_search_lengths f_search_signs f_search_words f_search_freeCount f_search_open f_line_actors f_line_minutes f_line_used hs
    exact nn_ok hs
  | succ n ih =>
    intro y_2 f_search_free f_search_factors f_search_weights f_search_row f_search_lengths f_search_signs f_search_words f_search_freeCount f_search_open f_line_actors f_line_minutes f_line_used hs
    rw [LX8_queue_16] at hs
    refine g_iload_n (pl := 2) C dX8_queue_16 rfl rfl ?_
    refine g_aload_n (pl := 0) C dX8_queue_17 rfl rfl ?_
    refine g_get C fX8_16 0 rfl rfl dX8_queue_18 ?_
    obtain ⟨z1, e_z1, hs⟩ := vb_ok hs
    refine g_callV (ws' := [oX8 h a_letters f_length a_board a_draft a_scene a_trial a_past a_kept a_seen a_reader a_search a_deal a_line, oX0 a_board a_board_commons a_board_lengths a_board_parts a_board_likenesses f_board_wordCount f_board_likenessCount f_board_actorCount f_board_forbiddenBits f_board_habitTold f_board_priceTold, aI cI a_board_commons 8 f_board_commons, aI cI a_board_lengths 8 f_board_lengths, aI cI a_board_parts 8 f_board_parts, aI cI a_board_likenesses 6 f_board_likenesses, oX4 a_scene a_scene_cells, aI cI a_scene_cells 55 f_scene_cells, oX5 a_search a_search_free a_search_factors a_search_weights a_search_row a_search_lengths a_search_signs f_search_words f_search_freeCount f_search_open, aI cI a_search_free 15 f_search_free, aI cI a_search_factors 120 f_search_factors, aI cI a_search_weights 32 f_search_weights, aI cI a_search_row 3 f_search_row, aI cI a_search_lengths 8 f_search_lengths, aI cI a_search_signs 24 f_search_signs, oX2 a_line a_line_actors a_line_minutes f_line_used, aI cI a_line_actors 5 f_line_actors, aI cI a_line_minutes 5 f_line_minutes]) (rest := [.int y_2]) (st' := [.int z1, .int y_2]) C mX8_111 q2_97 [] (fun l D => cX0_actors_ct l D cI a_board a_board_commons a_board_lengths a_board_parts a_board_likenesses f_board_wordCount f_board_likenessCount f_board_actorCount f_board_forbiddenBits f_board_habitTold f_board_priceTold e_z1) ⟨⟨rfl, rfl⟩, Nat.le_of_ble_eq_true rfl, Nat.le_of_ble_eq_true rfl⟩ 1 rfl rfl rfl [1] rfl rfl rfl rfl rfl (Nat.le_of_ble_eq_true rfl) (Nat.zero_le _) (Nat.zero_le _) rfl dX8_queue_21 ?_
    refine g_icmp_ge (tgt := 71) C dX8_queue_24 (by decide) (fun c2 => ?_) (fun c2 => ?_)
    · replace hs := vi_t hs c2
      refine g_iload_n (pl := 1) C dX8_queue_71 rfl rfl ?_
      refine g_iconst (v := (-1)) C dX8_queue_72 rfl ?_
      refine g_icmp_ne (tgt := 86) C dX8_queue_73 (by decide) (fun c3 => ?_) (fun c3 => ?_)
      · replace hs := vi_f hs c3
        refine g_aload_n (pl := 0) C dX8_queue_86 rfl rfl ?_
        refine g_get C fX8_76 0 rfl rfl dX8_queue_87 ?_
        refine g_iload_n (pl := 1) C dX8_queue_90 rfl rfl ?_
        obtain ⟨z4, e_z4, hs⟩ := vb_ok hs
        refine g_callV (ws' := [oX8 h a_letters f_length a_board a_draft a_scene a_trial a_past a_kept a_seen a_reader a_search a_deal a_line, oX0 a_board a_board_commons a_board_lengths a_board_parts a_board_likenesses f_board_wordCount f_board_likenessCount f_board_actorCount f_board_forbiddenBits f_board_habitTold f_board_priceTold, aI cI a_board_commons 8 f_board_commons, aI cI a_board_lengths 8 f_board_lengths, aI cI a_board_parts 8 f_board_parts, aI cI a_board_likenesses 6 f_board_likenesses, oX4 a_scene a_scene_cells, aI cI a_scene_cells 55 f_scene_cells, oX5 a_search a_search_free a_search_factors a_search_weights a_search_row a_search_lengths a_search_signs f_search_words f_search_freeCount f_search_open, aI cI a_search_free 15 f_search_free, aI cI a_search_factors 120 f_search_factors, aI cI a_search_weights 32 f_search_weights, aI cI a_search_row 3 f_search_row, aI cI a_search_lengths 8 f_search_lengths, aI cI a_search_signs 24 f_search_signs, oX2 a_line a_line_actors a_line_minutes f_line_used, aI cI a_line_actors 5 f_line_actors, aI cI a_line_minutes 5 f_line_minutes]) (rest := []) (st' := [.int z4]) C mX8_244 q4_15 [.int y_1] (fun l D => cX2_actorAt_ct l D cI a_line a_line_actors a_line_minutes f_line_used f_line_actors y_1 e_z4) ⟨⟨rfl, rfl⟩, Nat.le_of_ble_eq_true rfl, Nat.le_of_ble_eq_true rfl⟩ 15 rfl rfl rfl [15, 16] rfl rfl rfl rfl rfl (Nat.le_of_ble_eq_true rfl) (Nat.zero_le _) (Nat.zero_le _) rfl dX8_queue_91 ?_
        cases hs
        exact hR _ _ dX8_queue_94
      · replace hs := vi_t hs c3
        refine g_aload_n (pl := 0) C dX8_queue_76 rfl rfl ?_
        refine g_get C fX8_76 0 rfl rfl dX8_queue_77 ?_
        obtain ⟨z5, e_z5, hs⟩ := vb_ok hs
        refine g_callV (ws' := [oX8 h a_letters f_length a_board a_draft a_scene a_trial a_past a_kept a_seen a_reader a_search a_deal a_line, oX0 a_board a_board_commons a_board_lengths a_board_parts a_board_likenesses f_board_wordCount f_board_likenessCount f_board_actorCount f_board_forbiddenBits f_board_habitTold f_board_priceTold, aI cI a_board_commons 8 f_board_commons, aI cI a_board_lengths 8 f_board_lengths, aI cI a_board_parts 8 f_board_parts, aI cI a_board_likenesses 6 f_board_likenesses, oX4 a_scene a_scene_cells, aI cI a_scene_cells 55 f_scene_cells, oX5 a_search a_search_free a_search_factors a_search_weights a_search_row a_search_lengths a_search_signs f_search_words f_search_freeCount f_search_open, aI cI a_search_free 15 f_search_free, aI cI a_search_factors 120 f_search_factors, aI cI a_search_weights 32 f_search_weights, aI cI a_search_row 3 f_search_row, aI cI a_search_lengths 8 f_search_lengths, aI cI a_search_signs 24 f_search_signs, oX2 a_line a_line_actors a_line_minutes f_line_used, aI cI a_line_actors 5 f_line_actors, aI cI a_line_minutes 5 f_line_minutes]) (rest := []) (st' := [.int z5]) C mX8_241 q4_11 [] (fun l D => cX2_waited_ct l D cI a_line a_line_actors a_line_minutes f_line_used f_line_minutes e_z5) ⟨⟨rfl, rfl⟩, Nat.le_of_ble_eq_true rfl, Nat.le_of_ble_eq_true rfl⟩ 15 rfl rfl rfl [15, 17] rfl rfl rfl rfl rfl (Nat.le_of_ble_eq_true rfl) (Nat.zero_le _) (Nat.zero_le _) rfl dX8_queue_80 ?_
        refine g_goto (tgt := 94) C dX8_queue_83 (by decide) ?_
        cases hs
        exact hR _ _ dX8_queue_94
    · replace hs := vi_f hs c2
      refine g_aload_n (pl := 0) C dX8_queue_27 rfl rfl ?_
      refine g_get C fX8_26 0 rfl rfl dX8_queue_28 ?_
      refine g_iload_n (pl := 2) C dX8_queue_31 rfl rfl ?_
      obtain ⟨z6, e_z6, hs⟩ := vb_ok hs
      refine g_callV (ws' := [oX8 h a_letters f_length a_board a_draft a_scene a_trial a_past a_kept a_seen a_reader a_search a_deal a_line, oX0 a_board a_board_commons a_board_lengths a_board_parts a_board_likenesses f_board_wordCount f_board_likenessCount f_board_actorCount f_board_forbiddenBits f_board_habitTold f_board_priceTold, aI cI a_board_commons 8 f_board_commons, aI cI a_board_lengths 8 f_board_lengths, aI cI a_board_parts 8 f_board_parts, aI cI a_board_likenesses 6 f_board_likenesses, oX4 a_scene a_scene_cells, aI cI a_scene_cells 55 f_scene_cells, oX5 a_search a_search_free a_search_factors a_search_weights a_search_row a_search_lengths a_search_signs f_search_words f_search_freeCount f_search_open, aI cI a_search_free 15 f_search_free, aI cI a_search_factors 120 f_search_factors, aI cI a_search_weights 32 f_search_weights, aI cI a_search_row 3 f_search_row, aI cI a_search_lengths 8 f_search_lengths, aI cI a_search_signs 24 f_search_signs, oX2 a_line a_line_actors a_line_minutes f_line_used, aI cI a_line_actors 5 f_line_actors, aI cI a_line_minutes 5 f_line_minutes]) (rest := []) (st' := [.int z6]) C mX8_165 q3_13 [.int y_2] (fun l D => cX4_waits_ct l D cI a_scene a_scene_cells f_scene_cells y_2 e_z6) ⟨⟨rfl, rfl⟩, Nat.le_of_ble_eq_true rfl, Nat.le_of_ble_eq_true rfl⟩ 6 rfl rfl rfl [6, 7] rfl rfl rfl rfl rfl (Nat.le_of_ble_eq_true rfl) (Nat.zero_le _) (Nat.zero_le _) rfl dX8_queue_32 ?_
      refine g_if_eq (tgt := 65) C dX8_queue_35 (by decide) (fun c7 => ?_) (fun c7 => ?_)
      · replace hs := vi_t hs c7
        obtain ⟨y8, e_y8, hs⟩ := vlet_ex hs
        refine g_iinc (pl := 2) (lv' := [(2, .int y8), (0, .ref h), (1, .int y_1)]) C dX8_queue_65 rfl e_y8.symm (by decide) rfl ?_
        refine g_goto (tgt := 16) C dX8_queue_68 (by decide) ?_
        refine g_sub [1, 2, 0] rfl ?_
        exact ih y8 f_search_free f_search_factors f_search_weights f_search_row f_search_lengths f_search_signs f_search_words f_search_freeCount f_search_open f_line_actors f_line_minutes f_line_used hs
      · replace hs := vi_f hs c7
        refine g_aload_n (pl := 0) C dX8_queue_38 rfl rfl ?_
        refine g_iload_n (pl := 2) C dX8_queue_39 rfl rfl ?_
        obtain ⟨z9, e_z9, hs⟩ := vb_ok hs
        refine g_callV (ws' := [oX8 h a_letters f_length a_board a_draft a_scene a_trial a_past a_kept a_seen a_reader a_search a_deal a_line, oX0 a_board a_board_commons a_board_lengths a_board_parts a_board_likenesses f_board_wordCount f_board_likenessCount f_board_actorCount f_board_forbiddenBits f_board_habitTold f_board_priceTold, aI cI a_board_commons 8 f_board_commons, aI cI a_board_lengths 8 f_board_lengths, aI cI a_board_parts 8 f_board_parts, aI cI a_board_likenesses 6 f_board_likenesses, oX4 a_scene a_scene_cells, aI cI a_scene_cells 55 f_scene_cells, oX5 a_search a_search_free a_search_factors a_search_weights a_search_row a_search_lengths a_search_signs z9.2.2.2.2.2.2.2.1 z9.2.2.2.2.2.2.2.2.1 z9.2.2.2.2.2.2.2.2.2, aI cI a_search_free 15 z9.2.1, aI cI a_search_factors 120 z9.2.2.1, aI cI a_search_weights 32 z9.2.2.2.1, aI cI a_search_row 3 z9.2.2.2.2.1, aI cI a_search_lengths 8 z9.2.2.2.2.2.1, aI cI a_search_signs 24 z9.2.2.2.2.2.2.1, oX2 a_line a_line_actors a_line_minutes f_line_used, aI cI a_line_actors 5 f_line_actors, aI cI a_line_minutes 5 f_line_minutes]) (rest := []) (st' := [.int z9.1]) C mX8_237 q4_3 [.int y_2] (fun l D => cX8_fewestForWanted_ct l D cI h a_letters a_board a_draft a_scene a_trial a_past a_kept a_seen a_reader a_search a_deal a_line a_board_commons a_board_lengths a_board_parts a_board_likenesses a_scene_cells a_search_free a_search_factors a_search_weights a_search_row a_search_lengths a_search_signs f_length f_board_wordCount f_board_likenessCount f_board_actorCount f_board_forbiddenBits f_board_habitTold f_board_priceTold f_board_commons f_board_lengths f_board_parts f_board_likenesses f_scene_cells f_search_words f_search_freeCount f_search_open f_search_free f_search_factors f_search_weights f_search_row f_search_lengths f_search_signs y_2 e_z9) ⟨⟨rfl, rfl⟩, Nat.le_of_ble_eq_true rfl, Nat.le_of_ble_eq_true rfl⟩ 0 rfl rfl rfl [0, 1, 2, 3, 4, 5, 6, 7, 8, 9, 10, 11, 12, 13, 14] rfl rfl rfl (by simp only [setM, List.set_cons_zero, List.set_cons_succ]) rfl (Nat.le_of_ble_eq_true rfl) (Nat.zero_le _) (Nat.zero_le _) rfl dX8_queue_40 ?_
        refine g_istore_n (lv' := [(3, .int z9.1), (0, .ref h), (1, .int y_1), (2, .int y_2)]) C dX8_queue_43 rfl (by decide) rfl ?_
        refine g_aload_n (pl := 1) C dX8_queue_44 rfl rfl ?_
        refine g_get C fX8_76 0 rfl rfl dX8_queue_45 ?_
        refine g_iload_n (pl := 3) C dX8_queue_48 rfl rfl ?_
        refine g_iload_n (pl := 0) C dX8_queue_49 rfl rfl ?_
        refine g_bipush (v := (-4)) C dX8_queue_50 rfl ?_
        refine g_icmp_ne (tgt := 59) C dX8_queue_52 (by decide) (fun c10 => ?_) (fun c10 => ?_)
        · replace hs := vi_f hs c10
          refine g_iconst (v := (nI 1)) C dX8_queue_59 rfl ?_
          refine g_iload_n (pl := 0) C dX8_queue_60 rfl rfl ?_
          refine g_iadd C dX8_queue_61 ?_
          obtain ⟨z11, e_z11, hs⟩ := vb_ok hs
          refine g_callV (ws' := [oX8 h a_letters f_length a_board a_draft a_scene a_trial a_past a_kept a_seen a_reader a_search a_deal a_line, oX0 a_board a_board_commons a_board_lengths a_board_parts a_board_likenesses f_board_wordCount f_board_likenessCount f_board_actorCount f_board_forbiddenBits f_board_habitTold f_board_priceTold, aI cI a_board_commons 8 f_board_commons, aI cI a_board_lengths 8 f_board_lengths, aI cI a_board_parts 8 f_board_parts, aI cI a_board_likenesses 6 f_board_likenesses, oX4 a_scene a_scene_cells, aI cI a_scene_cells 55 f_scene_cells, oX5 a_search a_search_free a_search_factors a_search_weights a_search_row a_search_lengths a_search_signs z9.2.2.2.2.2.2.2.1 z9.2.2.2.2.2.2.2.2.1 z9.2.2.2.2.2.2.2.2.2, aI cI a_search_free 15 z9.2.1, aI cI a_search_factors 120 z9.2.2.1, aI cI a_search_weights 32 z9.2.2.2.1, aI cI a_search_row 3 z9.2.2.2.2.1, aI cI a_search_lengths 8 z9.2.2.2.2.2.1, aI cI a_search_signs 24 z9.2.2.2.2.2.2.1, oX2 a_line a_line_actors a_line_minutes z11.2.2, aI cI a_line_actors 5 z11.1, aI cI a_line_minutes 5 z11.2.1]) (rest := []) (st' := []) C mX8_240 q4_7 [.int y_2, .int ((nI 1) + z9.1)] (fun l D => cX2_add_ct l D cI a_line a_line_actors a_line_minutes f_line_used f_line_actors f_line_minutes y_2 ((nI 1) + z9.1) e_z11) ⟨⟨rfl, rfl⟩, Nat.le_of_ble_eq_true rfl, Nat.le_of_ble_eq_true rfl⟩ 15 rfl rfl rfl [15, 16, 17] rfl rfl rfl rfl rfl (Nat.le_of_ble_eq_true rfl) (Nat.zero_le _) (Nat.zero_le _) rfl dX8_queue_62 ?_
          obtain ⟨y12, e_y12, hs⟩ := vlet_ex hs
          refine g_iinc (pl := 3) (lv' := [(2, .int y12), (3, .int z9.1), (0, .ref h), (1, .int y_1)]) C dX8_queue_65 rfl e_y12.symm (by decide) rfl ?_
          refine g_goto (tgt := 16) C dX8_queue_68 (by decide) ?_
          refine g_sub [2, 3, 0] rfl ?_
          exact ih y12 z9.2.1 z9.2.2.1 z9.2.2.2.1 z9.2.2.2.2.1 z9.2.2.2.2.2.1 z9.2.2.2.2.2.2.1 z9.2.2.2.2.2.2.2.1 z9.2.2.2.2.2.2.2.2.1 z9.2.2.2.2.2.2.2.2.2 z11.1 z11.2.1 z11.2.2 hs
        · replace hs := vi_t hs c10
          refine g_iconst (v := (nI 5)) C dX8_queue_55 rfl ?_
          refine g_goto (tgt := 62) C dX8_queue_56 (by decide) ?_
          obtain ⟨z13, e_z13, hs⟩ := vb_ok hs
          refine g_callV (ws' := [oX8 h a_letters f_length a_board a_draft a_scene a_trial a_past a_kept a_seen a_reader a_search a_deal a_line, oX0 a_board a_board_commons a_board_lengths a_board_parts a_board_likenesses f_board_wordCount f_board_likenessCount f_board_actorCount f_board_forbiddenBits f_board_habitTold f_board_priceTold, aI cI a_board_commons 8 f_board_commons, aI cI a_board_lengths 8 f_board_lengths, aI cI a_board_parts 8 f_board_parts, aI cI a_board_likenesses 6 f_board_likenesses, oX4 a_scene a_scene_cells, aI cI a_scene_cells 55 f_scene_cells, oX5 a_search a_search_free a_search_factors a_search_weights a_search_row a_search_lengths a_search_signs z9.2.2.2.2.2.2.2.1 z9.2.2.2.2.2.2.2.2.1 z9.2.2.2.2.2.2.2.2.2, aI cI a_search_free 15 z9.2.1, aI cI a_search_factors 120 z9.2.2.1, aI cI a_search_weights 32 z9.2.2.2.1, aI cI a_search_row 3 z9.2.2.2.2.1, aI cI a_search_lengths 8 z9.2.2.2.2.2.1, aI cI a_search_signs 24 z9.2.2.2.2.2.2.1, oX2 a_line a_line_actors a_line_minutes z13.2.2, aI cI a_line_actors 5 z13.1, aI cI a_line_minutes 5 z13.2.1]) (rest := []) (st' := []) C mX8_240 q4_7 [.int y_2, .int (nI 5)] (fun l D => cX2_add_ct l D cI a_line a_line_actors a_line_minutes f_line_used f_line_actors f_line_minutes y_2 (nI 5) e_z13) ⟨⟨rfl, rfl⟩, Nat.le_of_ble_eq_true rfl, Nat.le_of_ble_eq_true rfl⟩ 15 rfl rfl rfl [15, 16, 17] rfl rfl rfl rfl rfl (Nat.le_of_ble_eq_true rfl) (Nat.zero_le _) (Nat.zero_le _) rfl dX8_queue_62 ?_
          obtain ⟨y14, e_y14, hs⟩ := vlet_ex hs
          refine g_iinc (pl := 3) (lv' := [(2, .int y14), (3, .int z9.1), (0, .ref h), (1, .int y_1)]) C dX8_queue_65 rfl e_y14.symm (by decide) rfl ?_
          refine g_goto (tgt := 16) C dX8_queue_68 (by decide) ?_
          refine g_sub [2, 3, 0] rfl ?_
          exact ih y14 z9.2.1 z9.2.2.1 z9.2.2.2.1 z9.2.2.2.2.1 z9.2.2.2.2.2.1 z9.2.2.2.2.2.2.1 z9.2.2.2.2.2.2.2.1 z9.2.2.2.2.2.2.2.2.1 z9.2.2.2.2.2.2.2.2.2 z13.1 z13.2.1 z13.2.2 hs
set_option maxHeartbeats 4000000 in
set_option maxRecDepth 100000 in
theorem cX8_queue_ct (l : Launch) (D : va_G) (cI : ClassId) (h : Nat) (a_letters : Nat) (a_board : Nat) (a_draft : Nat) (a_scene : Nat) (a_trial : Nat) (a_past : Nat) (a_kept : Nat) (a_seen : Nat) (a_reader : Nat) (a_search : Nat) (a_deal : Nat) (a_line : Nat) (a_board_commons : Nat) (a_board_lengths : Nat) (a_board_parts : Nat) (a_board_likenesses : Nat) (a_scene_cells : Nat) (a_search_free : Nat) (a_search_factors : Nat) (a_search_weights : Nat) (a_search_row : Nat) (a_search_lengths : Nat) (a_search_signs : Nat) (a_line_actors : Nat) (a_line_minutes : Nat) (f_length : Int32) (f_board_wordCount : Int32) (f_board_likenessCount : Int32) (f_board_actorCount : Int32) (f_board_forbiddenBits : Int32) (f_board_habitTold : Int32) (f_board_priceTold : Int32) (f_board_commons : Nat → Int32) (f_board_lengths : Nat → Int32) (f_board_parts : Nat → Int32) (f_board_likenesses : Nat → Int32) (f_scene_cells : Nat → Int32) (f_search_words : Int32) (f_search_freeCount : Int32) (f_search_open : Int32) (f_search_free : Nat → Int32) (f_search_factors : Nat → Int32) (f_search_weights : Nat → Int32) (f_search_row : Nat → Int32) (f_search_lengths : Nat → Int32) (f_search_signs : Nat → Int32) (f_line_used : Int32) (f_line_actors : Nat → Int32) (f_line_minutes : Nat → Int32) (x1 : Int32) {z : Int32 × (Nat → Int32) × (Nat → Int32) × (Nat → Int32) × (Nat → Int32) × (Nat → Int32) × (Nat → Int32) × Int32 × Int32 × Int32 × (Nat → Int32) × (Nat → Int32) × Int32} (hs : sX8_queue f_board_commons f_board_lengths f_board_parts f_board_likenesses f_board_wordCount f_board_likenessCount f_board_actorCount f_board_forbiddenBits f_board_habitTold f_scene_cells f_search_free f_search_factors f_search_weights f_search_row f_search_lengths f_search_signs f_search_words f_search_freeCount f_search_open f_line_actors f_line_minutes f_line_used x1 = some z) : ct l yX8_queue (.code yX8_queue cX8_queue 4 (some .int) :: gtb) rmX8_queue D cI [.ref h, .int x1] [oX8 h a_letters f_length a_board a_draft a_scene a_trial a_past a_kept a_seen a_reader a_search a_deal a_line, oX0 a_board a_board_commons a_board_lengths a_board_parts a_board_likenesses f_board_wordCount f_board_likenessCount f_board_actorCount f_board_forbiddenBits f_board_habitTold f_board_priceTold, aI cI a_board_commons 8 f_board_commons, aI cI a_board_lengths 8 f_board_lengths, aI cI a_board_parts 8 f_board_parts, aI cI a_board_likenesses 6 f_board_likenesses, oX4 a_scene a_scene_cells, aI cI a_scene_cells 55 f_scene_cells, oX5 a_search a_search_free a_search_factors a_search_weights a_search_row a_search_lengths a_search_signs f_search_words f_search_freeCount f_search_open, aI cI a_search_free 15 f_search_free, aI cI a_search_factors 120 f_search_factors, aI cI a_search_weights 32 f_search_weights, aI cI a_search_row 3 f_search_row, aI cI a_search_lengths 8 f_search_lengths, aI cI a_search_signs 24 f_search_signs, oX2 a_line a_line_actors a_line_minutes f_line_used, aI cI a_line_actors 5 f_line_actors, aI cI a_line_minutes 5 f_line_minutes] (some (.int z.1)) [oX8 h a_letters f_length a_board a_draft a_scene a_trial a_past a_kept a_seen a_reader a_search a_deal a_line, oX0 a_board a_board_commons a_board_lengths a_board_parts a_board_likenesses f_board_wordCount f_board_likenessCount f_board_actorCount f_board_forbiddenBits f_board_habitTold f_board_priceTold, aI cI a_board_commons 8 f_board_commons, aI cI a_board_lengths 8 f_board_lengths, aI cI a_board_parts 8 f_board_parts, aI cI a_board_likenesses 6 f_board_likenesses, oX4 a_scene a_scene_cells, aI cI a_scene_cells 55 f_scene_cells, oX5 a_search a_search_free a_search_factors a_search_weights a_search_row a_search_lengths a_search_signs z.2.2.2.2.2.2.2.1 z.2.2.2.2.2.2.2.2.1 z.2.2.2.2.2.2.2.2.2.1, aI cI a_search_free 15 z.2.1, aI cI a_search_factors 120 z.2.2.1, aI cI a_search_weights 32 z.2.2.2.1, aI cI a_search_row 3 z.2.2.2.2.1, aI cI a_search_lengths 8 z.2.2.2.2.2.1, aI cI a_search_signs 24 z.2.2.2.2.2.2.1, oX2 a_line a_line_actors a_line_minutes z.2.2.2.2.2.2.2.2.2.2.2.2, aI cI a_line_actors 5 z.2.2.2.2.2.2.2.2.2.2.1, aI cI a_line_minutes 5 z.2.2.2.2.2.2.2.2.2.2.2.1] := by
  refine ct_ofI (own := RX8) (by decide +kernel) rfl (Nat.le_of_ble_eq_true rfl) (fun X C hD hR => ?_)
  unfold sX8_queue at hs
  show gg cI X 4 0 0 [oX8 h a_letters f_length a_board a_draft a_scene a_trial a_past a_kept a_seen a_reader a_search a_deal a_line, oX0 a_board a_board_commons a_board_lengths a_board_parts a_board_likenesses f_board_wordCount f_board_likenessCount f_board_actorCount f_board_forbiddenBits f_board_habitTold f_board_priceTold, aI cI a_board_commons 8 f_board_commons, aI cI a_board_lengths 8 f_board_lengths, aI cI a_board_parts 8 f_board_parts, aI cI a_board_likenesses 6 f_board_likenesses, oX4 a_scene a_scene_cells, aI cI a_scene_cells 55 f_scene_cells, oX5 a_search a_search_free a_search_factors a_search_weights a_search_row a_search_lengths a_search_signs f_search_words f_search_freeCount f_search_open, aI cI a_search_free 15 f_search_free, aI cI a_search_factors 120 f_search_factors, aI cI a_search_weights 32 f_search_weights, aI cI a_search_row 3 f_search_row, aI cI a_search_lengths 8 f_search_lengths, aI cI a_search_signs 24 f_search_signs, oX2 a_line a_line_actors a_line_minutes f_line_used, aI cI a_line_actors 5 f_line_actors, aI cI a_line_minutes 5 f_line_minutes] [(0, .ref h), (1, .int x1)] 0 []
  refine g_iload_n (pl := 1) C dX8_queue_0 rfl rfl ?_
  refine g_iconst (v := (-1)) C dX8_queue_1 rfl ?_
  refine g_icmp_ge (tgt := 7) C dX8_queue_2 (by decide) (fun c15 => ?_) (fun c15 => ?_)
  · replace hs := vi_t hs c15
    refine g_aload_n (pl := 0) C dX8_queue_7 rfl rfl ?_
    refine g_get C fX8_76 0 rfl rfl dX8_queue_8 ?_
    obtain ⟨z16, e_z16, hs⟩ := vb_ok hs
    refine g_callV (ws' := [oX8 h a_letters f_length a_board a_draft a_scene a_trial a_past a_kept a_seen a_reader a_search a_deal a_line, oX0 a_board a_board_commons a_board_lengths a_board_parts a_board_likenesses f_board_wordCount f_board_likenessCount f_board_actorCount f_board_forbiddenBits f_board_habitTold f_board_priceTold, aI cI a_board_commons 8 f_board_commons, aI cI a_board_lengths 8 f_board_lengths, aI cI a_board_parts 8 f_board_parts, aI cI a_board_likenesses 6 f_board_likenesses, oX4 a_scene a_scene_cells, aI cI a_scene_cells 55 f_scene_cells, oX5 a_search a_search_free a_search_factors a_search_weights a_search_row a_search_lengths a_search_signs f_search_words f_search_freeCount f_search_open, aI cI a_search_free 15 f_search_free, aI cI a_search_factors 120 f_search_factors, aI cI a_search_weights 32 f_search_weights, aI cI a_search_row 3 f_search_row, aI cI a_search_lengths 8 f_search_lengths, aI cI a_search_signs 24 f_search_signs, oX2 a_line a_line_actors a_line_minutes z16, aI cI a_line_actors 5 f_line_actors, aI cI a_line_minutes 5 f_line_minutes]) (rest := []) (st' := []) C mX8_236 q3_239 [] (fun l D => cX2_start_ct l D cI a_line a_line_actors a_line_minutes f_line_used e_z16) ⟨⟨rfl, rfl⟩, Nat.le_of_ble_eq_true rfl, Nat.le_of_ble_eq_true rfl⟩ 15 rfl rfl rfl [15] rfl rfl rfl rfl rfl (Nat.le_of_ble_eq_true rfl) (Nat.zero_le _) (Nat.zero_le _) rfl dX8_queue_11 ?_
    refine g_iconst (v := (nI 0)) C dX8_queue_14 rfl ?_
    refine g_istore_n (lv' := [(2, .int (nI 0)), (0, .ref h), (1, .int x1)]) C dX8_queue_15 rfl (by decide) rfl ?_
    refine g_sub [1, 2, 0] rfl ?_
    exact LX8_queue_16_w C h a_letters a_board a_draft a_scene a_trial a_past a_kept a_seen a_reader a_search a_deal a_line a_board_commons a_board_lengths a_board_parts a_board_likenesses a_scene_cells a_search_free a_search_factors a_search_weights a_search_row a_search_lengths a_search_signs a_line_actors a_line_minutes f_length f_board_wordCount f_board_likenessCount f_board_actorCount f_board_forbiddenBits f_board_habitTold f_board_priceTold f_board_commons f_board_lengths f_board_parts f_board_likenesses f_scene_cells x1 hR _ (nI 0) f_search_free f_search_factors f_search_weights f_search_row f_search_lengths f_search_signs f_search_words f_search_freeCount f_search_open f_line_actors f_line_minutes z16 hs
  · replace hs := vi_f hs c15
    refine g_iconst (v := (-1)) C dX8_queue_5 rfl ?_
    cases hs
    exact hR _ _ dX8_queue_6
def LX8_parted_28 (y_1 : Int32) (y_2 : Int32) (f_board_lengths : Nat → Int32) (f_board_parts : Nat → Int32) (f_board_likenesses : Nat → Int32) (f_board_likenessCount : Int32) (f_board_habitTold : Int32) : Nat → Int32 → Int32 → Option (Int32)
  | 0, _, _ => none
  | n + 1, y_3, y_4 =>
    vb (sX0_signs f_board_likenessCount) fun z1 =>
    vi (z1 ≤ y_4) inferInstance (
      some (y_3)) (
      vb (sX0_habit f_board_habitTold) fun z3 =>
      vb (sX0_factor f_board_lengths f_board_parts f_board_likenesses (nI 0) y_4 y_1 z3) fun z4 =>
      vb (sX0_habit f_board_habitTold) fun z5 =>
      vb (sX0_factor f_board_lengths f_board_parts f_board_likenesses (nI 0) y_4 y_2 z5) fun z6 =>
      vi (z4 = z6) inferInstance (
        vlet (y_4 + (nI 1)) fun y8 =>
        LX8_parted_28 y_1 y_2 f_board_lengths f_board_parts f_board_likenesses f_board_likenessCount f_board_habitTold n y_3 y8) (
        vlet (y_3 ||| ((nI 1) <<< (y_4 &&& 31))) fun y9 =>
        vlet (y_4 + (nI 1)) fun y10 =>
        LX8_parted_28 y_1 y_2 f_board_lengths f_board_parts f_board_likenesses f_board_likenessCount f_board_habitTold n y9 y10))
def sX8_parted (f_board_lengths : Nat → Int32) (f_board_parts : Nat → Int32) (f_board_likenesses : Nat → Int32) (f_board_wordCount : Int32) (f_board_likenessCount : Int32) (f_board_habitTold : Int32) (x1 : Int32) (x2 : Int32) : Option (Int32) :=
  vb (sX8_isWord f_board_wordCount x1) fun z11 =>
  vi (z11 = 0) inferInstance (
    some ((-1))) (
    vb (sX8_isWord f_board_wordCount x2) fun z13 =>
    vi (z13 = 0) inferInstance (
      some ((-1))) (
      vi (x1 = x2) inferInstance (
        some ((-1))) (
        LX8_parted_28 x1 x2 f_board_lengths f_board_parts f_board_likenesses f_board_likenessCount f_board_habitTold vF (nI 0) (nI 0))))
abbrev rmX8_parted : Room := { frames := 2, cells := 0, slots := 0, locals := 47 }
set_option maxHeartbeats 4000000 in
set_option maxRecDepth 100000 in
theorem LX8_parted_28_w {cI : ClassId} {X : xT} (C : cx cI X 5 cX8_parted RX8 rmX8_parted) (h : Nat) (a_letters : Nat) (a_board : Nat) (a_draft : Nat) (a_scene : Nat) (a_trial : Nat) (a_past : Nat) (a_kept : Nat) (a_seen : Nat) (a_reader : Nat) (a_search : Nat) (a_deal : Nat) (a_line : Nat) (a_board_commons : Nat) (a_board_lengths : Nat) (a_board_parts : Nat) (a_board_likenesses : Nat) (f_length : Int32) (f_board_wordCount : Int32) (f_board_likenessCount : Int32) (f_board_actorCount : Int32) (f_board_forbiddenBits : Int32) (f_board_habitTold : Int32) (f_board_priceTold : Int32) (f_board_lengths : Nat → Int32) (f_board_parts : Nat → Int32) (f_board_likenesses : Nat → Int32) (y_1 : Int32) (y_2 : Int32) {z : Int32} (hR : ∀ (lv : List (Nat × Value)) (pc : Nat), decode cX8_parted pc = .ok (.ireturn, 1) → gg cI X 5 0 0 [oX8 h a_letters f_length a_board a_draft a_scene a_trial a_past a_kept a_seen a_reader a_search a_deal a_line, oX0 a_board a_board_commons a_board_lengths a_board_parts a_board_likenesses f_board_wordCount f_board_likenessCount f_board_actorCount f_board_forbiddenBits f_board_habitTold f_board_priceTold, aI cI a_board_lengths 8 f_board_lengths, aI cI a_board_parts 8 f_board_parts, aI cI a_board_likenesses 6 f_board_likenesses] lv pc [.int z]) : ∀ (n : Nat) (y_3 : Int32) (y_4 : Int32), LX8_parted_28 y_1 y_2 f_board_lengths f_board_parts f_board_likenesses f_board_likenessCount f_board_habitTold n y_3 y_4 = some z → gg cI X 5 0 0 [oX8 h a_letters f_length a_board a_draft a_scene a_trial a_past a_kept a_seen a_reader a_search a_deal a_line, oX0 a_board a_board_commons a_board_lengths a_board_parts a_board_likenesses f_board_wordCount f_board_likenessCount f_board_actorCount f_board_forbiddenBits f_board_habitTold f_board_priceTold, aI cI a_board_lengths 8 f_board_lengths, aI cI a_board_parts 8 f_board_parts, aI cI a_board_likenesses 6 f_board_likenesses] [(0, .ref h), (1, .int y_1), (2, .int y_2), (3, .int y_3), (4, .int y_4)] 28 [] := by
  intro n
  induction n with
  | zero =>
    intro y_3 y_4 hs
    exact nn_ok hs
  | succ n ih =>
    intro y_3 y_4 hs
    rw [LX8_parted_28] at hs
    refine g_iload (pl := 4) C dX8_parted_28 rfl ?_
    refine g_aload_n (pl := 0) C dX8_parted_30 rfl rfl ?_
    refine g_get C fX8_16 0 rfl rfl dX8_parted_31 ?_
    obtain ⟨z1, e_z1, hs⟩ := vb_ok hs
    refine g_callV (ws' := [oX8 h a_letters f_length a_board a_draft a_scene a_trial a_past a_kept a_seen a_reader a_search a_deal a_line, oX0 a_board a_board_commons a_board_lengths a_board_parts a_board_likenesses f_board_wordCount f_board_likenessCount f_board_actorCount f_board_forbiddenBits f_board_habitTold f_board_priceTold, aI cI a_board_lengths 8 f_board_lengths, aI cI a_board_parts 8 f_board_parts, aI cI a_board_likenesses 6 f_board_likenesses]) (rest := [.int y_4]) (st' := [.int z1, .int y_4]) C mX8_245 q2_216 [] (fun l D => cX0_signs_ct l D cI a_board a_board_commons a_board_lengths a_board_parts a_board_likenesses f_board_wordCount f_board_likenessCount f_board_actorCount f_board_forbiddenBits f_board_habitTold f_board_priceTold e_z1) ⟨⟨rfl, rfl⟩, Nat.le_of_ble_eq_true rfl, Nat.le_of_ble_eq_true rfl⟩ 1 rfl rfl rfl [1] rfl rfl rfl rfl rfl (Nat.le_of_ble_eq_true rfl) (Nat.zero_le _) (Nat.zero_le _) rfl dX8_parted_34 ?_
    refine g_icmp_ge (tgt := 92) C dX8_parted_37 (by decide) (fun c2 => ?_) (fun c2 => ?_)
    · replace hs := vi_t hs c2
      refine g_iload_n (pl := 3) C dX8_parted_92 rfl rfl ?_
      cases hs
      exact hR _ _ dX8_parted_93
    · replace hs := vi_f hs c2
      refine g_aload_n (pl := 0) C dX8_parted_40 rfl rfl ?_
      refine g_get C fX8_16 0 rfl rfl dX8_parted_41 ?_
      refine g_iconst (v := (nI 0)) C dX8_parted_44 rfl ?_
      refine g_iload (pl := 4) C dX8_parted_45 rfl ?_
      refine g_iload_n (pl := 1) C dX8_parted_47 rfl rfl ?_
      refine g_aload_n (pl := 0) C dX8_parted_48 rfl rfl ?_
      refine g_get C fX8_16 0 rfl rfl dX8_parted_49 ?_
      obtain ⟨z3, e_z3, hs⟩ := vb_ok hs
      refine g_callV (ws' := [oX8 h a_letters f_length a_board a_draft a_scene a_trial a_past a_kept a_seen a_reader a_search a_deal a_line, oX0 a_board a_board_commons a_board_lengths a_board_parts a_board_likenesses f_board_wordCount f_board_likenessCount f_board_actorCount f_board_forbiddenBits f_board_habitTold f_board_priceTold, aI cI a_board_lengths 8 f_board_lengths, aI cI a_board_parts 8 f_board_parts, aI cI a_board_likenesses 6 f_board_likenesses]) (rest := [.int y_1, .int y_4, .int (nI 0), .ref a_board]) (st' := [.int z3, .int y_1, .int y_4, .int (nI 0), .ref a_board]) C mX8_186 q3_40 [] (fun l D => cX0_habit_ct l D cI a_board a_board_commons a_board_lengths a_board_parts a_board_likenesses f_board_wordCount f_board_likenessCount f_board_actorCount f_board_forbiddenBits f_board_habitTold f_board_priceTold e_z3) ⟨⟨rfl, rfl⟩, Nat.le_of_ble_eq_true rfl, Nat.le_of_ble_eq_true rfl⟩ 1 rfl rfl rfl [1] rfl rfl rfl rfl rfl (Nat.le_of_ble_eq_true rfl) (Nat.zero_le _) (Nat.zero_le _) rfl dX8_parted_52 ?_
      obtain ⟨z4, e_z4, hs⟩ := vb_ok hs
      refine g_callV (ws' := [oX8 h a_letters f_length a_board a_draft a_scene a_trial a_past a_kept a_seen a_reader a_search a_deal a_line, oX0 a_board a_board_commons a_board_lengths a_board_parts a_board_likenesses f_board_wordCount f_board_likenessCount f_board_actorCount f_board_forbiddenBits f_board_habitTold f_board_priceTold, aI cI a_board_lengths 8 f_board_lengths, aI cI a_board_parts 8 f_board_parts, aI cI a_board_likenesses 6 f_board_likenesses]) (rest := []) (st' := [.int z4]) C mX8_248 q3_55 [.int (nI 0), .int y_4, .int y_1, .int z3] (fun l D => cX0_factor_ct l D cI a_board a_board_commons a_board_lengths a_board_parts a_board_likenesses f_board_wordCount f_board_likenessCount f_board_actorCount f_board_forbiddenBits f_board_habitTold f_board_priceTold f_board_lengths f_board_parts f_board_likenesses (nI 0) y_4 y_1 z3 e_z4) ⟨⟨rfl, rfl⟩, Nat.le_of_ble_eq_true rfl, Nat.le_of_ble_eq_true rfl⟩ 1 rfl rfl rfl [1, 2, 3, 4] rfl rfl rfl rfl rfl (Nat.le_of_ble_eq_true rfl) (Nat.zero_le _) (Nat.zero_le _) rfl dX8_parted_55 ?_
      refine g_aload_n (pl := 0) C dX8_parted_58 rfl rfl ?_
      refine g_get C fX8_16 0 rfl rfl dX8_parted_59 ?_
      refine g_iconst (v := (nI 0)) C dX8_parted_62 rfl ?_
      refine g_iload (pl := 4) C dX8_parted_63 rfl ?_
      refine g_iload_n (pl := 2) C dX8_parted_65 rfl rfl ?_
      refine g_aload_n (pl := 0) C dX8_parted_66 rfl rfl ?_
      refine g_get C fX8_16 0 rfl rfl dX8_parted_67 ?_
      obtain ⟨z5, e_z5, hs⟩ := vb_ok hs
      refine g_callV (ws' := [oX8 h a_letters f_length a_board a_draft a_scene a_trial a_past a_kept a_seen a_reader a_search a_deal a_line, oX0 a_board a_board_commons a_board_lengths a_board_parts a_board_likenesses f_board_wordCount f_board_likenessCount f_board_actorCount f_board_forbiddenBits f_board_habitTold f_board_priceTold, aI cI a_board_lengths 8 f_board_lengths, aI cI a_board_parts 8 f_board_parts, aI cI a_board_likenesses 6 f_board_likenesses]) (rest := [.int y_2, .int y_4, .int (nI 0), .ref a_board, .int z4]) (st' := [.int z5, .int y_2, .int y_4, .int (nI 0), .ref a_board, .int z4]) C mX8_186 q3_40 [] (fun l D => cX0_habit_ct l D cI a_board a_board_commons a_board_lengths a_board_parts a_board_likenesses f_board_wordCount f_board_likenessCount f_board_actorCount f_board_forbiddenBits f_board_habitTold f_board_priceTold e_z5) ⟨⟨rfl, rfl⟩, Nat.le_of_ble_eq_true rfl, Nat.le_of_ble_eq_true rfl⟩ 1 rfl rfl rfl [1] rfl rfl rfl rfl rfl (Nat.le_of_ble_eq_true rfl) (Nat.zero_le _) (Nat.zero_le _) rfl dX8_parted_70 ?_
      obtain ⟨z6, e_z6, hs⟩ := vb_ok hs
      refine g_callV (ws' := [oX8 h a_letters f_length a_board a_draft a_scene a_trial a_past a_kept a_seen a_reader a_search a_deal a_line, oX0 a_board a_board_commons a_board_lengths a_board_parts a_board_likenesses f_board_wordCount f_board_likenessCount f_board_actorCount f_board_forbiddenBits f_board_habitTold f_board_priceTold, aI cI a_board_lengths 8 f_board_lengths, aI cI a_board_parts 8 f_board_parts, aI cI a_board_likenesses 6 f_board_likenesses]) (rest := [.int z4]) (st' := [.int z6, .int z4]) C mX8_248 q3_55 [.int (nI 0), .int y_4, .int y_2, .int z5] (fun l D => cX0_factor_ct l D cI a_board a_board_commons a_board_lengths a_board_parts a_board_likenesses f_board_wordCount f_board_likenessCount f_board_actorCount f_board_forbiddenBits f_board_habitTold f_board_priceTold f_board_lengths f_board_parts f_board_likenesses (nI 0) y_4 y_2 z5 e_z6) ⟨⟨rfl, rfl⟩, Nat.le_of_ble_eq_true rfl, Nat.le_of_ble_eq_true rfl⟩ 1 rfl rfl rfl [1, 2, 3, 4] rfl rfl rfl rfl rfl (Nat.le_of_ble_eq_true rfl) (Nat.zero_le _) (Nat.zero_le _) rfl dX8_parted_73 ?_
      refine g_icmp_eq (tgt := 86) C dX8_parted_76 (by decide) (fun c7 => ?_) (fun c7 => ?_)
      · replace hs := vi_t hs c7
        obtain ⟨y8, e_y8, hs⟩ := vlet_ex hs
        refine g_iinc (pl := 4) (lv' := [(4, .int y8), (0, .ref h), (1, .int y_1), (2, .int y_2), (3, .int y_3)]) C dX8_parted_86 rfl e_y8.symm (by decide) rfl ?_
        refine g_goto (tgt := 28) C dX8_parted_89 (by decide) ?_
        refine g_sub [1, 2, 3, 4, 0] rfl ?_
        exact ih y_3 y8 hs
      · replace hs := vi_f hs c7
        refine g_iload_n (pl := 3) C dX8_parted_79 rfl rfl ?_
        refine g_iconst (v := (nI 1)) C dX8_parted_80 rfl ?_
        refine g_iload (pl := 4) C dX8_parted_81 rfl ?_
        refine g_ishl C dX8_parted_83 ?_
        refine g_ior C dX8_parted_84 ?_
        obtain ⟨y9, e_y9, hs⟩ := vlet_ex hs
        refine g_topi e_y9 ?_
        refine g_istore_n (lv' := [(3, .int y9), (0, .ref h), (1, .int y_1), (2, .int y_2), (4, .int y_4)]) C dX8_parted_85 rfl (by decide) rfl ?_
        obtain ⟨y10, e_y10, hs⟩ := vlet_ex hs
        refine g_iinc (pl := 4) (lv' := [(4, .int y10), (3, .int y9), (0, .ref h), (1, .int y_1), (2, .int y_2)]) C dX8_parted_86 rfl e_y10.symm (by decide) rfl ?_
        refine g_goto (tgt := 28) C dX8_parted_89 (by decide) ?_
        refine g_sub [2, 3, 4, 1, 0] rfl ?_
        exact ih y9 y10 hs
set_option maxHeartbeats 4000000 in
set_option maxRecDepth 100000 in
theorem cX8_parted_ct (l : Launch) (D : va_G) (cI : ClassId) (h : Nat) (a_letters : Nat) (a_board : Nat) (a_draft : Nat) (a_scene : Nat) (a_trial : Nat) (a_past : Nat) (a_kept : Nat) (a_seen : Nat) (a_reader : Nat) (a_search : Nat) (a_deal : Nat) (a_line : Nat) (a_board_commons : Nat) (a_board_lengths : Nat) (a_board_parts : Nat) (a_board_likenesses : Nat) (f_length : Int32) (f_board_wordCount : Int32) (f_board_likenessCount : Int32) (f_board_actorCount : Int32) (f_board_forbiddenBits : Int32) (f_board_habitTold : Int32) (f_board_priceTold : Int32) (f_board_lengths : Nat → Int32) (f_board_parts : Nat → Int32) (f_board_likenesses : Nat → Int32) (x1 : Int32) (x2 : Int32) {z : Int32} (hs : sX8_parted f_board_lengths f_board_parts f_board_likenesses f_board_wordCount f_board_likenessCount f_board_habitTold x1 x2 = some z) : ct l yX8_parted (.code yX8_parted cX8_parted 5 (some .int) :: gtb) rmX8_parted D cI [.ref h, .int x1, .int x2] [oX8 h a_letters f_length a_board a_draft a_scene a_trial a_past a_kept a_seen a_reader a_search a_deal a_line, oX0 a_board a_board_commons a_board_lengths a_board_parts a_board_likenesses f_board_wordCount f_board_likenessCount f_board_actorCount f_board_forbiddenBits f_board_habitTold f_board_priceTold, aI cI a_board_lengths 8 f_board_lengths, aI cI a_board_parts 8 f_board_parts, aI cI a_board_likenesses 6 f_board_likenesses] (some (.int z)) [oX8 h a_letters f_length a_board a_draft a_scene a_trial a_past a_kept a_seen a_reader a_search a_deal a_line, oX0 a_board a_board_commons a_board_lengths a_board_parts a_board_likenesses f_board_wordCount f_board_likenessCount f_board_actorCount f_board_forbiddenBits f_board_habitTold f_board_priceTold, aI cI a_board_lengths 8 f_board_lengths, aI cI a_board_parts 8 f_board_parts, aI cI a_board_likenesses 6 f_board_likenesses] := by
  refine ct_ofI (own := RX8) (by decide +kernel) rfl (Nat.le_of_ble_eq_true rfl) (fun X C hD hR => ?_)
  unfold sX8_parted at hs
  show gg cI X 5 0 0 [oX8 h a_letters f_length a_board a_draft a_scene a_trial a_past a_kept a_seen a_reader a_search a_deal a_line, oX0 a_board a_board_commons a_board_lengths a_board_parts a_board_likenesses f_board_wordCount f_board_likenessCount f_board_actorCount f_board_forbiddenBits f_board_habitTold f_board_priceTold, aI cI a_board_lengths 8 f_board_lengths, aI cI a_board_parts 8 f_board_parts, aI cI a_board_likenesses 6 f_board_likenesses] [(0, .ref h), (1, .int x1), (2, .int x2)] 0 []
  refine g_aload_n (pl := 0) C dX8_parted_0 rfl rfl ?_
  refine g_iload_n (pl := 1) C dX8_parted_1 rfl rfl ?_
  obtain ⟨z11, e_z11, hs⟩ := vb_ok hs
  refine g_callV (ws' := [oX8 h a_letters f_length a_board a_draft a_scene a_trial a_past a_kept a_seen a_reader a_search a_deal a_line, oX0 a_board a_board_commons a_board_lengths a_board_parts a_board_likenesses f_board_wordCount f_board_likenessCount f_board_actorCount f_board_forbiddenBits f_board_habitTold f_board_priceTold, aI cI a_board_lengths 8 f_board_lengths, aI cI a_board_parts 8 f_board_parts, aI cI a_board_likenesses 6 f_board_likenesses]) (rest := []) (st' := [.int z11]) C mX8_123 q2_184 [.int x1] (fun l D => cX8_isWord_ct l D cI h a_letters a_board a_draft a_scene a_trial a_past a_kept a_seen a_reader a_search a_deal a_line a_board_commons a_board_lengths a_board_parts a_board_likenesses f_length f_board_wordCount f_board_likenessCount f_board_actorCount f_board_forbiddenBits f_board_habitTold f_board_priceTold x1 e_z11) ⟨⟨rfl, rfl⟩, Nat.le_of_ble_eq_true rfl, Nat.le_of_ble_eq_true rfl⟩ 0 rfl rfl rfl [0, 1] rfl rfl rfl rfl rfl (Nat.le_of_ble_eq_true rfl) (Nat.zero_le _) (Nat.zero_le _) rfl dX8_parted_2 ?_
  refine g_if_eq (tgt := 21) C dX8_parted_5 (by decide) (fun c12 => ?_) (fun c12 => ?_)
  · replace hs := vi_t hs c12
    refine g_iconst (v := (-1)) C dX8_parted_21 rfl ?_
    cases hs
    exact hR _ _ dX8_parted_22
  · replace hs := vi_f hs c12
    refine g_aload_n (pl := 0) C dX8_parted_8 rfl rfl ?_
    refine g_iload_n (pl := 2) C dX8_parted_9 rfl rfl ?_
    obtain ⟨z13, e_z13, hs⟩ := vb_ok hs
    refine g_callV (ws' := [oX8 h a_letters f_length a_board a_draft a_scene a_trial a_past a_kept a_seen a_reader a_search a_deal a_line, oX0 a_board a_board_commons a_board_lengths a_board_parts a_board_likenesses f_board_wordCount f_board_likenessCount f_board_actorCount f_board_forbiddenBits f_board_habitTold f_board_priceTold, aI cI a_board_lengths 8 f_board_lengths, aI cI a_board_parts 8 f_board_parts, aI cI a_board_likenesses 6 f_board_likenesses]) (rest := []) (st' := [.int z13]) C mX8_123 q2_184 [.int x2] (fun l D => cX8_isWord_ct l D cI h a_letters a_board a_draft a_scene a_trial a_past a_kept a_seen a_reader a_search a_deal a_line a_board_commons a_board_lengths a_board_parts a_board_likenesses f_length f_board_wordCount f_board_likenessCount f_board_actorCount f_board_forbiddenBits f_board_habitTold f_board_priceTold x2 e_z13) ⟨⟨rfl, rfl⟩, Nat.le_of_ble_eq_true rfl, Nat.le_of_ble_eq_true rfl⟩ 0 rfl rfl rfl [0, 1] rfl rfl rfl rfl rfl (Nat.le_of_ble_eq_true rfl) (Nat.zero_le _) (Nat.zero_le _) rfl dX8_parted_10 ?_
    refine g_if_eq (tgt := 21) C dX8_parted_13 (by decide) (fun c14 => ?_) (fun c14 => ?_)
    · replace hs := vi_t hs c14
      refine g_iconst (v := (-1)) C dX8_parted_21 rfl ?_
      cases hs
      exact hR _ _ dX8_parted_22
    · replace hs := vi_f hs c14
      refine g_iload_n (pl := 1) C dX8_parted_16 rfl rfl ?_
      refine g_iload_n (pl := 2) C dX8_parted_17 rfl rfl ?_
      refine g_icmp_ne (tgt := 23) C dX8_parted_18 (by decide) (fun c15 => ?_) (fun c15 => ?_)
      · replace hs := vi_f hs c15
        refine g_iconst (v := (nI 0)) C dX8_parted_23 rfl ?_
        refine g_istore_n (lv' := [(3, .int (nI 0)), (0, .ref h), (1, .int x1), (2, .int x2)]) C dX8_parted_24 rfl (by decide) rfl ?_
        refine g_iconst (v := (nI 0)) C dX8_parted_25 rfl ?_
        refine g_istore (lv' := [(4, .int (nI 0)), (3, .int (nI 0)), (0, .ref h), (1, .int x1), (2, .int x2)]) C dX8_parted_26 (by decide) rfl ?_
        refine g_sub [2, 3, 4, 1, 0] rfl ?_
        exact LX8_parted_28_w C h a_letters a_board a_draft a_scene a_trial a_past a_kept a_seen a_reader a_search a_deal a_line a_board_commons a_board_lengths a_board_parts a_board_likenesses f_length f_board_wordCount f_board_likenessCount f_board_actorCount f_board_forbiddenBits f_board_habitTold f_board_priceTold f_board_lengths f_board_parts f_board_likenesses x1 x2 hR _ (nI 0) (nI 0) hs
      · replace hs := vi_t hs c15
        refine g_iconst (v := (-1)) C dX8_parted_21 rfl ?_
        cases hs
        exact hR _ _ dX8_parted_22
def LX8_most_4 (f_board_commons : Nat → Int32) (f_board_lengths : Nat → Int32) (f_board_parts : Nat → Int32) (f_board_likenesses : Nat → Int32) (f_board_wordCount : Int32) (f_board_likenessCount : Int32) (f_board_actorCount : Int32) (f_board_forbiddenBits : Int32) (f_board_habitTold : Int32) (f_board_priceTold : Int32) (f_scene_cells : Nat → Int32) : Nat → Int32 → Int32 → (Nat → Int32) → (Nat → Int32) → (Nat → Int32) → (Nat → Int32) → (Nat → Int32) → (Nat → Int32) → Int32 → Int32 → Int32 → Option (Int32 × (Nat → Int32) × (Nat → Int32) × (Nat → Int32) × (Nat → Int32) × (Nat → Int32) × (Nat → Int32) × Int32 × Int32 × Int32)
  | 0, _, _, _, _, _, _, _, _, _, _, _ => none
  | n + 1, y_1, y_2, f_search_free, f_search_factors, f_search_weights, f_search_row, f_search_lengths, f_search_signs, f_search_words, f_search_freeCount, f_search_open =>
    vb (sX0_actors f_board_actorCount) fun z1 =>
    vi (z1 ≤ y_2) inferInstance (
      some (y_1, f_search_free, f_search_factors, f_search_weights, f_search_row, f_search_lengths, f_search_signs, f_search_words, f_search_freeCount, f_search_open)) (
      vb (sX4_waits f_scene_cells y_2) fun z3 =>
      vi (z3 = 0) inferInstance (
        vlet (y_2 + (nI 1)) fun y5 =>
        LX8_most_4 f_board_commons f_board_lengths f_board_parts f_board_likenesses f_board_wordCount f_board_likenessCount f_board_actorCount f_board_forbiddenBits f_board_habitTold f_board_priceTold f_scene_cells n y_1 y5 f_search_free f_search_factors f_search_weights f_search_row f_search_lengths f_search_signs f_search_words f_search_freeCount f_search_open) (
        vb (sX8_fewestForWanted f_board_commons f_board_lengths f_board_parts f_board_likenesses f_board_wordCount f_board_likenessCount f_board_forbiddenBits f_board_habitTold f_scene_cells f_search_free f_search_factors f_search_weights f_search_row f_search_lengths f_search_signs f_search_words f_search_freeCount f_search_open y_2) fun z6 =>
        vi (z6.1 = (-4)) inferInstance (
          vlet (y_2 + (nI 1)) fun y8 =>
          LX8_most_4 f_board_commons f_board_lengths f_board_parts f_board_likenesses f_board_wordCount f_board_likenessCount f_board_actorCount f_board_forbiddenBits f_board_habitTold f_board_priceTold f_scene_cells n y_1 y8 z6.2.1 z6.2.2.1 z6.2.2.2.1 z6.2.2.2.2.1 z6.2.2.2.2.2.1 z6.2.2.2.2.2.2.1 z6.2.2.2.2.2.2.2.1 z6.2.2.2.2.2.2.2.2.1 z6.2.2.2.2.2.2.2.2.2) (
          vb (sX0_price f_board_priceTold) fun z9 =>
          vb (sX4_canPay f_scene_cells y_2 z9 z6.1) fun z10 =>
          vi (z10 = 0) inferInstance (
            vlet (y_2 + (nI 1)) fun y12 =>
            LX8_most_4 f_board_commons f_board_lengths f_board_parts f_board_likenesses f_board_wordCount f_board_likenessCount f_board_actorCount f_board_forbiddenBits f_board_habitTold f_board_priceTold f_scene_cells n y_1 y12 z6.2.1 z6.2.2.1 z6.2.2.2.1 z6.2.2.2.2.1 z6.2.2.2.2.2.1 z6.2.2.2.2.2.2.1 z6.2.2.2.2.2.2.2.1 z6.2.2.2.2.2.2.2.2.1 z6.2.2.2.2.2.2.2.2.2) (
            vlet (y_1 + (nI 1)) fun y13 =>
            vlet (y_2 + (nI 1)) fun y14 =>
            LX8_most_4 f_board_commons f_board_lengths f_board_parts f_board_likenesses f_board_wordCount f_board_likenessCount f_board_actorCount f_board_forbiddenBits f_board_habitTold f_board_priceTold f_scene_cells n y13 y14 z6.2.1 z6.2.2.1 z6.2.2.2.1 z6.2.2.2.2.1 z6.2.2.2.2.2.1 z6.2.2.2.2.2.2.1 z6.2.2.2.2.2.2.2.1 z6.2.2.2.2.2.2.2.2.1 z6.2.2.2.2.2.2.2.2.2))))
def sX8_most (f_board_commons : Nat → Int32) (f_board_lengths : Nat → Int32) (f_board_parts : Nat → Int32) (f_board_likenesses : Nat → Int32) (f_board_wordCount : Int32) (f_board_likenessCount : Int32) (f_board_actorCount : Int32) (f_board_forbiddenBits : Int32) (f_board_habitTold : Int32) (f_board_priceTold : Int32) (f_scene_cells : Nat → Int32) (f_search_free : Nat → Int32) (f_search_factors : Nat → Int32) (f_search_weights : Nat → Int32) (f_search_row : Nat → Int32) (f_search_lengths : Nat → Int32) (f_search_signs : Nat → Int32) (f_search_words : Int32) (f_search_freeCount : Int32) (f_search_open : Int32) : Option (Int32 × (Nat → Int32) × (Nat → Int32) × (Nat → Int32) × (Nat → Int32) × (Nat → Int32) × (Nat → Int32) × Int32 × Int32 × Int32) :=
  LX8_most_4 f_board_commons f_board_lengths f_board_parts f_board_likenesses f_board_wordCount f_board_likenessCount f_board_actorCount f_board_forbiddenBits f_board_habitTold f_board_priceTold f_scene_cells vF (nI 0) (nI 0) f_search_free f_search_factors f_search_weights f_search_row f_search_lengths f_search_signs f_search_words f_search_freeCount f_search_open
abbrev rmX8_most : Room := { frames := 6, cells := 0, slots := 0, locals := 144 }
set_option maxHeartbeats 4000000 in
set_option maxRecDepth 100000 in
theorem LX8_most_4_w {cI : ClassId} {X : xT} (C : cx cI X 4 cX8_most RX8 rmX8_most) (h : Nat) (a_letters : Nat) (a_board : Nat) (a_draft : Nat) (a_scene : Nat) (a_trial : Nat) (a_past : Nat) (a_kept : Nat) (a_seen : Nat) (a_reader : Nat) (a_search : Nat) (a_deal : Nat) (a_line : Nat) (a_board_commons : Nat) (a_board_lengths : Nat) (a_board_parts : Nat) (a_board_likenesses : Nat) (a_scene_cells : Nat) (a_search_free : Nat) (a_search_factors : Nat) (a_search_weights : Nat) (a_search_row : Nat) (a_search_lengths : Nat) (a_search_signs : Nat) (f_length : Int32) (f_board_wordCount : Int32) (f_board_likenessCount : Int32) (f_board_actorCount : Int32) (f_board_forbiddenBits : Int32) (f_board_habitTold : Int32) (f_board_priceTold : Int32) (f_board_commons : Nat → Int32) (f_board_lengths : Nat → Int32) (f_board_parts : Nat → Int32) (f_board_likenesses : Nat → Int32) (f_scene_cells : Nat → Int32) {z : Int32 × (Nat → Int32) × (Nat → Int32) × (Nat → Int32) × (Nat → Int32) × (Nat → Int32) × (Nat → Int32) × Int32 × Int32 × Int32} (hR : ∀ (lv : List (Nat × Value)) (pc : Nat), decode cX8_most pc = .ok (.ireturn, 1) → gg cI X 4 0 0 [oX8 h a_letters f_length a_board a_draft a_scene a_trial a_past a_kept a_seen a_reader a_search a_deal a_line, oX0 a_board a_board_commons a_board_lengths a_board_parts a_board_likenesses f_board_wordCount f_board_likenessCount f_board_actorCount f_board_forbiddenBits f_board_habitTold f_board_priceTold, aI cI a_board_commons 8 f_board_commons, aI cI a_board_lengths 8 f_board_lengths, aI cI a_board_parts 8 f_board_parts, aI cI a_board_likenesses 6 f_board_likenesses, oX4 a_scene a_scene_cells, aI cI a_scene_cells 55 f_scene_cells, oX5 a_search a_search_free a_search_factors a_search_weights a_search_row a_search_lengths a_search_signs z.2.2.2.2.2.2.2.1 z.2.2.2.2.2.2.2.2.1 z.2.2.2.2.2.2.2.2.2, aI cI a_search_free 15 z.2.1, aI cI a_search_factors 120 z.2.2.1, aI cI a_search_weights 32 z.2.2.2.1, aI cI a_search_row 3 z.2.2.2.2.1, aI cI a_search_lengths 8 z.2.2.2.2.2.1, aI cI a_search_signs 24 z.2.2.2.2.2.2.1] lv pc [.int z.1]) : ∀ (n : Nat) (y_1 : Int32) (y_2 : Int32) (f_search_free : Nat → Int32) (f_search_factors : Nat → Int32) (f_search_weights : Nat → Int32) (f_search_row : Nat → Int32) (f_search_lengths : Nat → Int32) (f_search_signs : Nat → Int32) (f_search_words : Int32) (f_search_freeCount : Int32) (f_search_open : Int32), LX8_most_4 f_board_commons f_board_lengths f_board_parts f_board_likenesses f_board_wordCount f_board_likenessCount f_board_actorCount f_board_forbiddenBits f_board_habitTold f_board_priceTold f_scene_cells n y_1 y_2 f_search_free f_search_factors f_search_weights f_search_row f_search_lengths f_search_signs f_search_words f_search_freeCount f_search_open = some z → gg cI X 4 0 0 [oX8 h a_letters f_length a_board a_draft a_scene a_trial a_past a_kept a_seen a_reader a_search a_deal a_line, oX0 a_board a_board_commons a_board_lengths a_board_parts a_board_likenesses f_board_wordCount f_board_likenessCount f_board_actorCount f_board_forbiddenBits f_board_habitTold f_board_priceTold, aI cI a_board_commons 8 f_board_commons, aI cI a_board_lengths 8 f_board_lengths, aI cI a_board_parts 8 f_board_parts, aI cI a_board_likenesses 6 f_board_likenesses, oX4 a_scene a_scene_cells, aI cI a_scene_cells 55 f_scene_cells, oX5 a_search a_search_free a_search_factors a_search_weights a_search_row a_search_lengths a_search_signs f_search_words f_search_freeCount f_search_open, aI cI a_search_free 15 f_search_free, aI cI a_search_factors 120 f_search_factors, aI cI a_search_weights 32 f_search_weights, aI cI a_search_row 3 f_search_row, aI cI a_search_lengths 8 f_search_lengths, aI cI a_search_signs 24 f_search_signs] [(0, .ref h), (1, .int y_1), (2, .int y_2)] 4 [] := by
  intro n
  induction n with
  | zero =>
    intro y_1 y_2 f_search_free f_search_factors f_search_weights f_search_row f_search_lengths f_search_signs f_search_words f_search_freeCount f_search_open hs
    exact nn_ok hs
  | succ n ih =>
    intro y_1 y_2 f_search_free f_search_factors f_search_weights f_search_row f_search_lengths f_search_signs f_search_words f_search_freeCount f_search_open hs
    rw [LX8_most_4] at hs
    refine g_iload_n (pl := 2) C dX8_most_4 rfl rfl ?_
    refine g_aload_n (pl := 0) C dX8_most_5 rfl rfl ?_
    refine g_get C fX8_16 0 rfl rfl dX8_most_6 ?_
    obtain ⟨z1, e_z1, hs⟩ := vb_ok hs
    refine g_callV (ws' := [oX8 h a_letters f_length a_board a_draft a_scene a_trial a_past a_kept a_seen a_reader a_search a_deal a_line, oX0 a_board a_board_commons a_board_lengths a_board_parts a_board_likenesses f_board_wordCount f_board_likenessCount f_board_actorCount f_board_forbiddenBits f_board_habitTold f_board_priceTold, aI cI a_board_commons 8 f_board_commons, aI cI a_board_lengths 8 f_board_lengths, aI cI a_board_parts 8 f_board_parts, aI cI a_board_likenesses 6 f_board_likenesses, oX4 a_scene a_scene_cells, aI cI a_scene_cells 55 f_scene_cells, oX5 a_search a_search_free a_search_factors a_search_weights a_search_row a_search_lengths a_search_signs f_search_words f_search_freeCount f_search_open, aI cI a_search_free 15 f_search_free, aI cI a_search_factors 120 f_search_factors, aI cI a_search_weights 32 f_search_weights, aI cI a_search_row 3 f_search_row, aI cI a_search_lengths 8 f_search_lengths, aI cI a_search_signs 24 f_search_signs]) (rest := [.int y_2]) (st' := [.int z1, .int y_2]) C mX8_111 q2_97 [] (fun l D => cX0_actors_ct l D cI a_board a_board_commons a_board_lengths a_board_parts a_board_likenesses f_board_wordCount f_board_likenessCount f_board_actorCount f_board_forbiddenBits f_board_habitTold f_board_priceTold e_z1) ⟨⟨rfl, rfl⟩, Nat.le_of_ble_eq_true rfl, Nat.le_of_ble_eq_true rfl⟩ 1 rfl rfl rfl [1] rfl rfl rfl rfl rfl (Nat.le_of_ble_eq_true rfl) (Nat.zero_le _) (Nat.zero_le _) rfl dX8_most_9 ?_
    refine g_icmp_ge (tgt := 66) C dX8_most_12 (by decide) (fun c2 => ?_) (fun c2 => ?_)
    · replace hs := vi_t hs c2
      refine g_iload_n (pl := 1) C dX8_most_66 rfl rfl ?_
      cases hs
      exact hR _ _ dX8_most_67
    · replace hs := vi_f hs c2
      refine g_aload_n (pl := 0) C dX8_most_15 rfl rfl ?_
      refine g_get C fX8_26 0 rfl rfl dX8_most_16 ?_
      refine g_iload_n (pl := 2) C dX8_most_19 rfl rfl ?_
      obtain ⟨z3, e_z3, hs⟩ := vb_ok hs
      refine g_callV (ws' := [oX8 h a_letters f_length a_board a_draft a_scene a_trial a_past a_kept a_seen a_reader a_search a_deal a_line, oX0 a_board a_board_commons a_board_lengths a_board_parts a_board_likenesses f_board_wordCount f_board_likenessCount f_board_actorCount f_board_forbiddenBits f_board_habitTold f_board_priceTold, aI cI a_board_commons 8 f_board_commons, aI cI a_board_lengths 8 f_board_lengths, aI cI a_board_parts 8 f_board_parts, aI cI a_board_likenesses 6 f_board_likenesses, oX4 a_scene a_scene_cells, aI cI a_scene_cells 55 f_scene_cells, oX5 a_search a_search_free a_search_factors a_search_weights a_search_row a_search_lengths a_search_signs f_search_words f_search_freeCount f_search_open, aI cI a_search_free 15 f_search_free, aI cI a_search_factors 120 f_search_factors, aI cI a_search_weights 32 f_search_weights, aI cI a_search_row 3 f_search_row, aI cI a_search_lengths 8 f_search_lengths, aI cI a_search_signs 24 f_search_signs]) (rest := []) (st' := [.int z3]) C mX8_165 q3_13 [.int y_2] (fun l D => cX4_waits_ct l D cI a_scene a_scene_cells f_scene_cells y_2 e_z3) ⟨⟨rfl, rfl⟩, Nat.le_of_ble_eq_true rfl, Nat.le_of_ble_eq_true rfl⟩ 6 rfl rfl rfl [6, 7] rfl rfl rfl rfl rfl (Nat.le_of_ble_eq_true rfl) (Nat.zero_le _) (Nat.zero_le _) rfl dX8_most_20 ?_
      refine g_if_eq (tgt := 60) C dX8_most_23 (by decide) (fun c4 => ?_) (fun c4 => ?_)
      · replace hs := vi_t hs c4
        obtain ⟨y5, e_y5, hs⟩ := vlet_ex hs
        refine g_iinc (pl := 2) (lv' := [(2, .int y5), (0, .ref h), (1, .int y_1)]) C dX8_most_60 rfl e_y5.symm (by decide) rfl ?_
        refine g_goto (tgt := 4) C dX8_most_63 (by decide) ?_
        refine g_sub [1, 2, 0] rfl ?_
        exact ih y_1 y5 f_search_free f_search_factors f_search_weights f_search_row f_search_lengths f_search_signs f_search_words f_search_freeCount f_search_open hs
      · replace hs := vi_f hs c4
        refine g_aload_n (pl := 0) C dX8_most_26 rfl rfl ?_
        refine g_iload_n (pl := 2) C dX8_most_27 rfl rfl ?_
        obtain ⟨z6, e_z6, hs⟩ := vb_ok hs
        refine g_callV (ws' := [oX8 h a_letters f_length a_board a_draft a_scene a_trial a_past a_kept a_seen a_reader a_search a_deal a_line, oX0 a_board a_board_commons a_board_lengths a_board_parts a_board_likenesses f_board_wordCount f_board_likenessCount f_board_actorCount f_board_forbiddenBits f_board_habitTold f_board_priceTold, aI cI a_board_commons 8 f_board_commons, aI cI a_board_lengths 8 f_board_lengths, aI cI a_board_parts 8 f_board_parts, aI cI a_board_likenesses 6 f_board_likenesses, oX4 a_scene a_scene_cells, aI cI a_scene_cells 55 f_scene_cells, oX5 a_search a_search_free a_search_factors a_search_weights a_search_row a_search_lengths a_search_signs z6.2.2.2.2.2.2.2.1 z6.2.2.2.2.2.2.2.2.1 z6.2.2.2.2.2.2.2.2.2, aI cI a_search_free 15 z6.2.1, aI cI a_search_factors 120 z6.2.2.1, aI cI a_search_weights 32 z6.2.2.2.1, aI cI a_search_row 3 z6.2.2.2.2.1, aI cI a_search_lengths 8 z6.2.2.2.2.2.1, aI cI a_search_signs 24 z6.2.2.2.2.2.2.1]) (rest := []) (st' := [.int z6.1]) C mX8_237 q4_3 [.int y_2] (fun l D => cX8_fewestForWanted_ct l D cI h a_letters a_board a_draft a_scene a_trial a_past a_kept a_seen a_reader a_search a_deal a_line a_board_commons a_board_lengths a_board_parts a_board_likenesses a_scene_cells a_search_free a_search_factors a_search_weights a_search_row a_search_lengths a_search_signs f_length f_board_wordCount f_board_likenessCount f_board_actorCount f_board_forbiddenBits f_board_habitTold f_board_priceTold f_board_commons f_board_lengths f_board_parts f_board_likenesses f_scene_cells f_search_words f_search_freeCount f_search_open f_search_free f_search_factors f_search_weights f_search_row f_search_lengths f_search_signs y_2 e_z6) ⟨⟨rfl, rfl⟩, Nat.le_of_ble_eq_true rfl, Nat.le_of_ble_eq_true rfl⟩ 0 rfl rfl rfl [0, 1, 2, 3, 4, 5, 6, 7, 8, 9, 10, 11, 12, 13, 14] rfl rfl rfl (by simp only [setM, List.set_cons_zero, List.set_cons_succ]) rfl (Nat.le_of_ble_eq_true rfl) (Nat.zero_le _) (Nat.zero_le _) rfl dX8_most_28 ?_
        refine g_istore_n (lv' := [(3, .int z6.1), (0, .ref h), (1, .int y_1), (2, .int y_2)]) C dX8_most_31 rfl (by decide) rfl ?_
        refine g_iload_n (pl := 0) C dX8_most_32 rfl rfl ?_
        refine g_bipush (v := (-4)) C dX8_most_33 rfl ?_
        refine g_icmp_eq (tgt := 60) C dX8_most_35 (by decide) (fun c7 => ?_) (fun c7 => ?_)
        · replace hs := vi_t hs c7
          obtain ⟨y8, e_y8, hs⟩ := vlet_ex hs
          refine g_iinc (pl := 3) (lv' := [(2, .int y8), (3, .int z6.1), (0, .ref h), (1, .int y_1)]) C dX8_most_60 rfl e_y8.symm (by decide) rfl ?_
          refine g_goto (tgt := 4) C dX8_most_63 (by decide) ?_
          refine g_sub [2, 3, 0] rfl ?_
          exact ih y_1 y8 z6.2.1 z6.2.2.1 z6.2.2.2.1 z6.2.2.2.2.1 z6.2.2.2.2.2.1 z6.2.2.2.2.2.2.1 z6.2.2.2.2.2.2.2.1 z6.2.2.2.2.2.2.2.2.1 z6.2.2.2.2.2.2.2.2.2 hs
        · replace hs := vi_f hs c7
          refine g_aload_n (pl := 1) C dX8_most_38 rfl rfl ?_
          refine g_get C fX8_26 0 rfl rfl dX8_most_39 ?_
          refine g_iload_n (pl := 3) C dX8_most_42 rfl rfl ?_
          refine g_aload_n (pl := 1) C dX8_most_43 rfl rfl ?_
          refine g_get C fX8_16 0 rfl rfl dX8_most_44 ?_
          obtain ⟨z9, e_z9, hs⟩ := vb_ok hs
          refine g_callV (ws' := [oX8 h a_letters f_length a_board a_draft a_scene a_trial a_past a_kept a_seen a_reader a_search a_deal a_line, oX0 a_board a_board_commons a_board_lengths a_board_parts a_board_likenesses f_board_wordCount f_board_likenessCount f_board_actorCount f_board_forbiddenBits f_board_habitTold f_board_priceTold, aI cI a_board_commons 8 f_board_commons, aI cI a_board_lengths 8 f_board_lengths, aI cI a_board_parts 8 f_board_parts, aI cI a_board_likenesses 6 f_board_likenesses, oX4 a_scene a_scene_cells, aI cI a_scene_cells 55 f_scene_cells, oX5 a_search a_search_free a_search_factors a_search_weights a_search_row a_search_lengths a_search_signs z6.2.2.2.2.2.2.2.1 z6.2.2.2.2.2.2.2.2.1 z6.2.2.2.2.2.2.2.2.2, aI cI a_search_free 15 z6.2.1, aI cI a_search_factors 120 z6.2.2.1, aI cI a_search_weights 32 z6.2.2.2.1, aI cI a_search_row 3 z6.2.2.2.2.1, aI cI a_search_lengths 8 z6.2.2.2.2.2.1, aI cI a_search_signs 24 z6.2.2.2.2.2.2.1]) (rest := [.int y_2, .ref a_scene]) (st' := [.int z9, .int y_2, .ref a_scene]) C mX8_252 q3_74 [] (fun l D => cX0_price_ct l D cI a_board a_board_commons a_board_lengths a_board_parts a_board_likenesses f_board_wordCount f_board_likenessCount f_board_actorCount f_board_forbiddenBits f_board_habitTold f_board_priceTold e_z9) ⟨⟨rfl, rfl⟩, Nat.le_of_ble_eq_true rfl, Nat.le_of_ble_eq_true rfl⟩ 1 rfl rfl rfl [1] rfl rfl rfl rfl rfl (Nat.le_of_ble_eq_true rfl) (Nat.zero_le _) (Nat.zero_le _) rfl dX8_most_47 ?_
          refine g_iload_n (pl := 0) C dX8_most_50 rfl rfl ?_
          obtain ⟨z10, e_z10, hs⟩ := vb_ok hs
          refine g_callV (ws' := [oX8 h a_letters f_length a_board a_draft a_scene a_trial a_past a_kept a_seen a_reader a_search a_deal a_line, oX0 a_board a_board_commons a_board_lengths a_board_parts a_board_likenesses f_board_wordCount f_board_likenessCount f_board_actorCount f_board_forbiddenBits f_board_habitTold f_board_priceTold, aI cI a_board_commons 8 f_board_commons, aI cI a_board_lengths 8 f_board_lengths, aI cI a_board_parts 8 f_board_parts, aI cI a_board_likenesses 6 f_board_likenesses, oX4 a_scene a_scene_cells, aI cI a_scene_cells 55 f_scene_cells, oX5 a_search a_search_free a_search_factors a_search_weights a_search_row a_search_lengths a_search_signs z6.2.2.2.2.2.2.2.1 z6.2.2.2.2.2.2.2.2.1 z6.2.2.2.2.2.2.2.2.2, aI cI a_search_free 15 z6.2.1, aI cI a_search_factors 120 z6.2.2.1, aI cI a_search_weights 32 z6.2.2.2.1, aI cI a_search_row 3 z6.2.2.2.2.1, aI cI a_search_lengths 8 z6.2.2.2.2.2.1, aI cI a_search_signs 24 z6.2.2.2.2.2.2.1]) (rest := []) (st' := [.int z10]) C mX8_255 q3_78 [.int y_2, .int z9, .int z6.1] (fun l D => cX4_canPay_ct l D cI a_scene a_scene_cells f_scene_cells y_2 z9 z6.1 e_z10) ⟨⟨rfl, rfl⟩, Nat.le_of_ble_eq_true rfl, Nat.le_of_ble_eq_true rfl⟩ 6 rfl rfl rfl [6, 7] rfl rfl rfl rfl rfl (Nat.le_of_ble_eq_true rfl) (Nat.zero_le _) (Nat.zero_le _) rfl dX8_most_51 ?_
          refine g_if_eq (tgt := 60) C dX8_most_54 (by decide) (fun c11 => ?_) (fun c11 => ?_)
          · replace hs := vi_t hs c11
            obtain ⟨y12, e_y12, hs⟩ := vlet_ex hs
            refine g_iinc (pl := 3) (lv' := [(2, .int y12), (3, .int z6.1), (0, .ref h), (1, .int y_1)]) C dX8_most_60 rfl e_y12.symm (by decide) rfl ?_
            refine g_goto (tgt := 4) C dX8_most_63 (by decide) ?_
            refine g_sub [2, 3, 0] rfl ?_
            exact ih y_1 y12 z6.2.1 z6.2.2.1 z6.2.2.2.1 z6.2.2.2.2.1 z6.2.2.2.2.2.1 z6.2.2.2.2.2.2.1 z6.2.2.2.2.2.2.2.1 z6.2.2.2.2.2.2.2.2.1 z6.2.2.2.2.2.2.2.2.2 hs
          · replace hs := vi_f hs c11
            obtain ⟨y13, e_y13, hs⟩ := vlet_ex hs
            refine g_iinc (pl := 2) (lv' := [(1, .int y13), (3, .int z6.1), (0, .ref h), (2, .int y_2)]) C dX8_most_57 rfl e_y13.symm (by decide) rfl ?_
            obtain ⟨y14, e_y14, hs⟩ := vlet_ex hs
            refine g_iinc (pl := 3) (lv' := [(2, .int y14), (1, .int y13), (3, .int z6.1), (0, .ref h)]) C dX8_most_60 rfl e_y14.symm (by decide) rfl ?_
            refine g_goto (tgt := 4) C dX8_most_63 (by decide) ?_
            refine g_sub [3, 1, 0] rfl ?_
            exact ih y13 y14 z6.2.1 z6.2.2.1 z6.2.2.2.1 z6.2.2.2.2.1 z6.2.2.2.2.2.1 z6.2.2.2.2.2.2.1 z6.2.2.2.2.2.2.2.1 z6.2.2.2.2.2.2.2.2.1 z6.2.2.2.2.2.2.2.2.2 hs
set_option maxHeartbeats 4000000 in
set_option maxRecDepth 100000 in
theorem cX8_most_ct (l : Launch) (D : va_G) (cI : ClassId) (h : Nat) (a_letters : Nat) (a_board : Nat) (a_draft : Nat) (a_scene : Nat) (a_trial : Nat) (a_past : Nat) (a_kept : Nat) (a_seen : Nat) (a_reader : Nat) (a_search : Nat) (a_deal : Nat) (a_line : Nat) (a_board_commons : Nat) (a_board_lengths : Nat) (a_board_parts : Nat) (a_board_likenesses : Nat) (a_scene_cells : Nat) (a_search_free : Nat) (a_search_factors : Nat) (a_search_weights : Nat) (a_search_row : Nat) (a_search_lengths : Nat) (a_search_signs : Nat) (f_length : Int32) (f_board_wordCount : Int32) (f_board_likenessCount : Int32) (f_board_actorCount : Int32) (f_board_forbiddenBits : Int32) (f_board_habitTold : Int32) (f_board_priceTold : Int32) (f_board_commons : Nat → Int32) (f_board_lengths : Nat → Int32) (f_board_parts : Nat → Int32) (f_board_likenesses : Nat → Int32) (f_scene_cells : Nat → Int32) (f_search_words : Int32) (f_search_freeCount : Int32) (f_search_open : Int32) (f_search_free : Nat → Int32) (f_search_factors : Nat → Int32) (f_search_weights : Nat → Int32) (f_search_row : Nat → Int32) (f_search_lengths : Nat → Int32) (f_search_signs : Nat → Int32) {z : Int32 × (Nat → Int32) × (Nat → Int32) × (Nat → Int32) × (Nat → Int32) × (Nat → Int32) × (Nat → Int32) × Int32 × Int32 × Int32} (hs : sX8_most f_board_commons f_board_lengths f_board_parts f_board_likenesses f_board_wordCount f_board_likenessCount f_board_actorCount f_board_forbiddenBits f_board_habitTold f_board_priceTold f_scene_cells f_search_free f_search_factors f_search_weights f_search_row f_search_lengths f_search_signs f_search_words f_search_freeCount f_search_open = some z) : ct l yX8_most (.code yX8_most cX8_most 4 (some .int) :: gtb) rmX8_most D cI [.ref h] [oX8 h a_letters f_length a_board a_draft a_scene a_trial a_past a_kept a_seen a_reader a_search a_deal a_line, oX0 a_board a_board_commons a_board_lengths a_board_parts a_board_likenesses f_board_wordCount f_board_likenessCount f_board_actorCount f_board_forbiddenBits f_board_habitTold f_board_priceTold, aI cI a_board_commons 8 f_board_commons, aI cI a_board_lengths 8 f_board_lengths, aI cI a_board_parts 8 f_board_parts, aI cI a_board_likenesses 6 f_board_likenesses, oX4 a_scene a_scene_cells, aI cI a_scene_cells 55 f_scene_cells, oX5 a_search a_search_free a_search_factors a_search_weights a_search_row a_search_lengths a_search_signs f_search_words f_search_freeCount f_search_open, aI cI a_search_free 15 f_search_free, aI cI a_search_factors 120 f_search_factors, aI cI a_search_weights 32 f_search_weights, aI cI a_search_row 3 f_search_row, aI cI a_search_lengths 8 f_search_lengths, aI cI a_search_signs 24 f_search_signs] (some (.int z.1)) [oX8 h a_letters f_length a_board a_draft a_scene a_trial a_past a_kept a_seen a_reader a_search a_deal a_line, oX0 a_board a_board_commons a_board_lengths a_board_parts a_board_likenesses f_board_wordCount f_board_likenessCount f_board_actorCount f_board_forbiddenBits f_board_habitTold f_board_priceTold, aI cI a_board_commons 8 f_board_commons, aI cI a_board_lengths 8 f_board_lengths, aI cI a_board_parts 8 f_board_parts, aI cI a_board_likenesses 6 f_board_likenesses, oX4 a_scene a_scene_cells, aI cI a_scene_cells 55 f_scene_cells, oX5 a_search a_search_free a_search_factors a_search_weights a_search_row a_search_lengths a_search_signs z.2.2.2.2.2.2.2.1 z.2.2.2.2.2.2.2.2.1 z.2.2.2.2.2.2.2.2.2, aI cI a_search_free 15 z.2.1, aI cI a_search_factors 120 z.2.2.1, aI cI a_search_weights 32 z.2.2.2.1, aI cI a_search_row 3 z.2.2.2.2.1, aI cI a_search_lengths 8 z.2.2.2.2.2.1, aI cI a_search_signs 24 z.2.2.2.2.2.2.1] := by
  refine ct_ofI (own := RX8) (by decide +kernel) rfl (Nat.le_of_ble_eq_true rfl) (fun X C hD hR => ?_)
  unfold sX8_most at hs
  show gg cI X 4 0 0 [oX8 h a_letters f_length a_board a_draft a_scene a_trial a_past a_kept a_seen a_reader a_search a_deal a_line, oX0 a_board a_board_commons a_board_lengths a_board_parts a_board_likenesses f_board_wordCount f_board_likenessCount f_board_actorCount f_board_forbiddenBits f_board_habitTold f_board_priceTold, aI cI a_board_commons 8 f_board_commons, aI cI a_board_lengths 8 f_board_lengths, aI cI a_board_parts 8 f_board_parts, aI cI a_board_likenesses 6 f_board_likenesses, oX4 a_scene a_scene_cells, aI cI a_scene_cells 55 f_scene_cells, oX5 a_search a_search_free a_search_factors a_search_weights a_search_row a_search_lengths a_search_signs f_search_words f_search_freeCount f_search_open, aI cI a_search_free 15 f_search_free, aI cI a_search_factors 120 f_search_factors, aI cI a_search_weights 32 f_search_weights, aI cI a_search_row 3 f_search_row, aI cI a_search_lengths 8 f_search_lengths, aI cI a_search_signs 24 f_search_signs] [(0, .ref h)] 0 []
  refine g_iconst (v := (nI 0)) C dX8_most_0 rfl ?_
  refine g_istore_n (lv' := [(1, .int (nI 0)), (0, .ref h)]) C dX8_most_1 rfl (by decide) rfl ?_
  refine g_iconst (v := (nI 0)) C dX8_most_2 rfl ?_
  refine g_istore_n (lv' := [(2, .int (nI 0)), (1, .int (nI 0)), (0, .ref h)]) C dX8_most_3 rfl (by decide) rfl ?_
  refine g_sub [2, 1, 0] rfl ?_
  exact LX8_most_4_w C h a_letters a_board a_draft a_scene a_trial a_past a_kept a_seen a_reader a_search a_deal a_line a_board_commons a_board_lengths a_board_parts a_board_likenesses a_scene_cells a_search_free a_search_factors a_search_weights a_search_row a_search_lengths a_search_signs f_length f_board_wordCount f_board_likenessCount f_board_actorCount f_board_forbiddenBits f_board_habitTold f_board_priceTold f_board_commons f_board_lengths f_board_parts f_board_likenesses f_scene_cells hR _ (nI 0) (nI 0) f_search_free f_search_factors f_search_weights f_search_row f_search_lengths f_search_signs f_search_words f_search_freeCount f_search_open hs
def sX8_see (f_board_wordCount : Int32) (f_board_actorCount : Int32) (f_seen_actors : Nat → Int32) (f_seen_words : Nat → Int32) (f_seen_used : Int32) (x1 : Int32) (x2 : Int32) : Option (Int32 × (Nat → Int32) × (Nat → Int32) × Int32) :=
  vb (sX8_isActor f_board_actorCount x1) fun z1 =>
  vi (z1 = 0) inferInstance (
    some ((-1), f_seen_actors, f_seen_words, f_seen_used)) (
    vb (sX8_isWord f_board_wordCount x2) fun z3 =>
    vi (z3 = 0) inferInstance (
      some ((-1), f_seen_actors, f_seen_words, f_seen_used)) (
      vb (sX6_add f_seen_actors f_seen_words f_seen_used x1 x2) fun z5 =>
      some (z5.1, z5.2.1, z5.2.2.1, z5.2.2.2)))
abbrev rmX8_see : Room := { frames := 2, cells := 0, slots := 0, locals := 41 }
set_option maxHeartbeats 4000000 in
set_option maxRecDepth 100000 in
theorem cX8_see_ct (l : Launch) (D : va_G) (cI : ClassId) (h : Nat) (a_letters : Nat) (a_board : Nat) (a_draft : Nat) (a_scene : Nat) (a_trial : Nat) (a_past : Nat) (a_kept : Nat) (a_seen : Nat) (a_reader : Nat) (a_search : Nat) (a_deal : Nat) (a_line : Nat) (a_board_commons : Nat) (a_board_lengths : Nat) (a_board_parts : Nat) (a_board_likenesses : Nat) (a_seen_actors : Nat) (a_seen_words : Nat) (f_length : Int32) (f_board_wordCount : Int32) (f_board_likenessCount : Int32) (f_board_actorCount : Int32) (f_board_forbiddenBits : Int32) (f_board_habitTold : Int32) (f_board_priceTold : Int32) (f_seen_used : Int32) (f_seen_actors : Nat → Int32) (f_seen_words : Nat → Int32) (x1 : Int32) (x2 : Int32) {z : Int32 × (Nat → Int32) × (Nat → Int32) × Int32} (hs : sX8_see f_board_wordCount f_board_actorCount f_seen_actors f_seen_words f_seen_used x1 x2 = some z) : ct l yX8_see (.code yX8_see cX8_see 3 (some .int) :: gtb) rmX8_see D cI [.ref h, .int x1, .int x2] [oX8 h a_letters f_length a_board a_draft a_scene a_trial a_past a_kept a_seen a_reader a_search a_deal a_line, oX0 a_board a_board_commons a_board_lengths a_board_parts a_board_likenesses f_board_wordCount f_board_likenessCount f_board_actorCount f_board_forbiddenBits f_board_habitTold f_board_priceTold, oX6 a_seen a_seen_actors a_seen_words f_seen_used, aI cI a_seen_actors 6 f_seen_actors, aI cI a_seen_words 6 f_seen_words] (some (.int z.1)) [oX8 h a_letters f_length a_board a_draft a_scene a_trial a_past a_kept a_seen a_reader a_search a_deal a_line, oX0 a_board a_board_commons a_board_lengths a_board_parts a_board_likenesses f_board_wordCount f_board_likenessCount f_board_actorCount f_board_forbiddenBits f_board_habitTold f_board_priceTold, oX6 a_seen a_seen_actors a_seen_words z.2.2.2, aI cI a_seen_actors 6 z.2.1, aI cI a_seen_words 6 z.2.2.1] := by
  refine ct_ofI (own := RX8) (by decide +kernel) rfl (Nat.le_of_ble_eq_true rfl) (fun X C hD hR => ?_)
  unfold sX8_see at hs
  show gg cI X 3 0 0 [oX8 h a_letters f_length a_board a_draft a_scene a_trial a_past a_kept a_seen a_reader a_search a_deal a_line, oX0 a_board a_board_commons a_board_lengths a_board_parts a_board_likenesses f_board_wordCount f_board_likenessCount f_board_actorCount f_board_forbiddenBits f_board_habitTold f_board_priceTold, oX6 a_seen a_seen_actors a_seen_words f_seen_used, aI cI a_seen_actors 6 f_seen_actors, aI cI a_seen_words 6 f_seen_words] [(0, .ref h), (1, .int x1), (2, .int x2)] 0 []
  refine g_aload_n (pl := 0) C dX8_see_0 rfl rfl ?_
  refine g_iload_n (pl := 1) C dX8_see_1 rfl rfl ?_
  obtain ⟨z1, e_z1, hs⟩ := vb_ok hs
  refine g_callV (ws' := [oX8 h a_letters f_length a_board a_draft a_scene a_trial a_past a_kept a_seen a_reader a_search a_deal a_line, oX0 a_board a_board_commons a_board_lengths a_board_parts a_board_likenesses f_board_wordCount f_board_likenessCount f_board_actorCount f_board_forbiddenBits f_board_habitTold f_board_priceTold, oX6 a_seen a_seen_actors a_seen_words f_seen_used, aI cI a_seen_actors 6 f_seen_actors, aI cI a_seen_words 6 f_seen_words]) (rest := []) (st' := [.int z1]) C mX8_146 q2_228 [.int x1] (fun l D => cX8_isActor_ct l D cI h a_letters a_board a_draft a_scene a_trial a_past a_kept a_seen a_reader a_search a_deal a_line a_board_commons a_board_lengths a_board_parts a_board_likenesses f_length f_board_wordCount f_board_likenessCount f_board_actorCount f_board_forbiddenBits f_board_habitTold f_board_priceTold x1 e_z1) ⟨⟨rfl, rfl⟩, Nat.le_of_ble_eq_true rfl, Nat.le_of_ble_eq_true rfl⟩ 0 rfl rfl rfl [0, 1] rfl rfl rfl rfl rfl (Nat.le_of_ble_eq_true rfl) (Nat.zero_le _) (Nat.zero_le _) rfl dX8_see_2 ?_
  refine g_if_eq (tgt := 28) C dX8_see_5 (by decide) (fun c2 => ?_) (fun c2 => ?_)
  · replace hs := vi_t hs c2
    refine g_iconst (v := (-1)) C dX8_see_28 rfl ?_
    cases hs
    exact hR _ _ dX8_see_29
  · replace hs := vi_f hs c2
    refine g_aload_n (pl := 0) C dX8_see_8 rfl rfl ?_
    refine g_iload_n (pl := 2) C dX8_see_9 rfl rfl ?_
    obtain ⟨z3, e_z3, hs⟩ := vb_ok hs
    refine g_callV (ws' := [oX8 h a_letters f_length a_board a_draft a_scene a_trial a_past a_kept a_seen a_reader a_search a_deal a_line, oX0 a_board a_board_commons a_board_lengths a_board_parts a_board_likenesses f_board_wordCount f_board_likenessCount f_board_actorCount f_board_forbiddenBits f_board_habitTold f_board_priceTold, oX6 a_seen a_seen_actors a_seen_words f_seen_used, aI cI a_seen_actors 6 f_seen_actors, aI cI a_seen_words 6 f_seen_words]) (rest := []) (st' := [.int z3]) C mX8_123 q2_184 [.int x2] (fun l D => cX8_isWord_ct l D cI h a_letters a_board a_draft a_scene a_trial a_past a_kept a_seen a_reader a_search a_deal a_line a_board_commons a_board_lengths a_board_parts a_board_likenesses f_length f_board_wordCount f_board_likenessCount f_board_actorCount f_board_forbiddenBits f_board_habitTold f_board_priceTold x2 e_z3) ⟨⟨rfl, rfl⟩, Nat.le_of_ble_eq_true rfl, Nat.le_of_ble_eq_true rfl⟩ 0 rfl rfl rfl [0, 1] rfl rfl rfl rfl rfl (Nat.le_of_ble_eq_true rfl) (Nat.zero_le _) (Nat.zero_le _) rfl dX8_see_10 ?_
    refine g_if_eq (tgt := 28) C dX8_see_13 (by decide) (fun c4 => ?_) (fun c4 => ?_)
    · replace hs := vi_t hs c4
      refine g_iconst (v := (-1)) C dX8_see_28 rfl ?_
      cases hs
      exact hR _ _ dX8_see_29
    · replace hs := vi_f hs c4
      refine g_aload_n (pl := 0) C dX8_see_16 rfl rfl ?_
      refine g_get C fX8_48 0 rfl rfl dX8_see_17 ?_
      refine g_iload_n (pl := 1) C dX8_see_20 rfl rfl ?_
      refine g_iload_n (pl := 2) C dX8_see_21 rfl rfl ?_
      obtain ⟨z5, e_z5, hs⟩ := vb_ok hs
      refine g_callV (ws' := [oX8 h a_letters f_length a_board a_draft a_scene a_trial a_past a_kept a_seen a_reader a_search a_deal a_line, oX0 a_board a_board_commons a_board_lengths a_board_parts a_board_likenesses f_board_wordCount f_board_likenessCount f_board_actorCount f_board_forbiddenBits f_board_habitTold f_board_priceTold, oX6 a_seen a_seen_actors a_seen_words z5.2.2.2, aI cI a_seen_actors 6 z5.2.1, aI cI a_seen_words 6 z5.2.2.1]) (rest := []) (st' := [.int z5.1]) C mX8_259 q4_31 [.int x1, .int x2] (fun l D => cX6_add_ct l D cI a_seen a_seen_actors a_seen_words f_seen_used f_seen_actors f_seen_words x1 x2 e_z5) ⟨⟨rfl, rfl⟩, Nat.le_of_ble_eq_true rfl, Nat.le_of_ble_eq_true rfl⟩ 2 rfl rfl rfl [2, 3, 4] rfl rfl rfl rfl rfl (Nat.le_of_ble_eq_true rfl) (Nat.zero_le _) (Nat.zero_le _) rfl dX8_see_22 ?_
      refine g_goto (tgt := 29) C dX8_see_25 (by decide) ?_
      cases hs
      exact hR _ _ dX8_see_29
def sX8_forget (f_seen_used : Int32) : Option (Int32 × Int32) :=
  vb (sX6_clear f_seen_used) fun z1 =>
  some (z1.1, z1.2)
abbrev rmX8_forget : Room := { frames := 1, cells := 0, slots := 0, locals := 21 }
set_option maxHeartbeats 4000000 in
set_option maxRecDepth 100000 in
theorem cX8_forget_ct (l : Launch) (D : va_G) (cI : ClassId) (h : Nat) (a_letters : Nat) (a_board : Nat) (a_draft : Nat) (a_scene : Nat) (a_trial : Nat) (a_past : Nat) (a_kept : Nat) (a_seen : Nat) (a_reader : Nat) (a_search : Nat) (a_deal : Nat) (a_line : Nat) (a_seen_actors : Nat) (a_seen_words : Nat) (f_length : Int32) (f_seen_used : Int32) {z : Int32 × Int32} (hs : sX8_forget f_seen_used = some z) : ct l yX8_forget (.code yX8_forget cX8_forget 1 (some .int) :: gtb) rmX8_forget D cI [.ref h] [oX8 h a_letters f_length a_board a_draft a_scene a_trial a_past a_kept a_seen a_reader a_search a_deal a_line, oX6 a_seen a_seen_actors a_seen_words f_seen_used] (some (.int z.1)) [oX8 h a_letters f_length a_board a_draft a_scene a_trial a_past a_kept a_seen a_reader a_search a_deal a_line, oX6 a_seen a_seen_actors a_seen_words z.2] := by
  refine ct_ofI (own := RX8) (by decide +kernel) rfl (Nat.le_of_ble_eq_true rfl) (fun X C hD hR => ?_)
  unfold sX8_forget at hs
  show gg cI X 1 0 0 [oX8 h a_letters f_length a_board a_draft a_scene a_trial a_past a_kept a_seen a_reader a_search a_deal a_line, oX6 a_seen a_seen_actors a_seen_words f_seen_used] [(0, .ref h)] 0 []
  refine g_aload_n (pl := 0) C dX8_forget_0 rfl rfl ?_
  refine g_get C fX8_48 0 rfl rfl dX8_forget_1 ?_
  obtain ⟨z1, e_z1, hs⟩ := vb_ok hs
  refine g_callV (ws' := [oX8 h a_letters f_length a_board a_draft a_scene a_trial a_past a_kept a_seen a_reader a_search a_deal a_line, oX6 a_seen a_seen_actors a_seen_words z1.2]) (rest := []) (st' := [.int z1.1]) C mX8_121 q2_122 [] (fun l D => cX6_clear_ct l D cI a_seen a_seen_actors a_seen_words f_seen_used e_z1) ⟨⟨rfl, rfl⟩, Nat.le_of_ble_eq_true rfl, Nat.le_of_ble_eq_true rfl⟩ 1 rfl rfl rfl [1] rfl rfl rfl rfl rfl (Nat.le_of_ble_eq_true rfl) (Nat.zero_le _) (Nat.zero_le _) rfl dX8_forget_4 ?_
  cases hs
  exact hR _ _ dX8_forget_7
def LX8_habits_28 (y_4 : Int32) (f_board_commons : Nat → Int32) (f_board_lengths : Nat → Int32) (f_board_parts : Nat → Int32) (f_board_likenesses : Nat → Int32) (f_board_wordCount : Int32) (f_scene_cells : Nat → Int32) (f_seen_actors : Nat → Int32) (f_seen_words : Nat → Int32) (f_seen_used : Int32) (K80 : Int32 → Int32 → Option (Int32)) : Nat → Int32 → Int32 → Int32 → Option (Int32)
  | 0, _, _, _ => none
  | n + 1, y_2, y_3, y_5 =>
    vi ((nI 4) < y_5) inferInstance (
      K80 y_2 y_3) (
      vlet (((nI 10) * y_4) + y_5) fun y2 =>
      vb (sX6_holdsBy f_seen_actors f_seen_words f_seen_used f_board_commons f_board_lengths f_board_parts f_board_likenesses f_board_wordCount f_scene_cells y2) fun z3 =>
      vi (z3 = 0) inferInstance (
        vlet (y_5 + (nI 1)) fun y5 =>
        LX8_habits_28 y_4 f_board_commons f_board_lengths f_board_parts f_board_likenesses f_board_wordCount f_scene_cells f_seen_actors f_seen_words f_seen_used K80 n y_2 y_3 y5) (
        vi (y_2 = 0) inferInstance (
          vlet (y_2 + (nI 1)) fun y9 =>
          vlet (y_5 + (nI 1)) fun y10 =>
          LX8_habits_28 y_4 f_board_commons f_board_lengths f_board_parts f_board_likenesses f_board_wordCount f_scene_cells f_seen_actors f_seen_words f_seen_used K80 n y9 y2 y10) (
          vlet (y_2 + (nI 1)) fun y7 =>
          vlet (y_5 + (nI 1)) fun y8 =>
          LX8_habits_28 y_4 f_board_commons f_board_lengths f_board_parts f_board_likenesses f_board_wordCount f_scene_cells f_seen_actors f_seen_words f_seen_used K80 n y7 y_3 y8)))
def LX8_habits_19 (y_1 : Int32) (f_board_commons : Nat → Int32) (f_board_lengths : Nat → Int32) (f_board_parts : Nat → Int32) (f_board_likenesses : Nat → Int32) (f_board_wordCount : Int32) (f_scene_cells : Nat → Int32) (f_seen_actors : Nat → Int32) (f_seen_words : Nat → Int32) (f_seen_used : Int32) : Nat → Int32 → Int32 → Int32 → Option (Int32)
  | 0, _, _, _ => none
  | n + 1, y_2, y_3, y_4 =>
    vi ((nI 5) < y_4) inferInstance (
      vi (y_1 = 0) inferInstance (
        some (y_2)) (
        some (y_3))) (
      LX8_habits_28 y_4 f_board_commons f_board_lengths f_board_parts f_board_likenesses f_board_wordCount f_scene_cells f_seen_actors f_seen_words f_seen_used (fun (v13 : Int32) (v14 : Int32) =>
          vlet (y_4 + (nI 1)) fun y15 =>
          LX8_habits_19 y_1 f_board_commons f_board_lengths f_board_parts f_board_likenesses f_board_wordCount f_scene_cells f_seen_actors f_seen_words f_seen_used n v13 v14 y15) vF y_2 y_3 (nI 1))
def sX8_habits (f_board_commons : Nat → Int32) (f_board_lengths : Nat → Int32) (f_board_parts : Nat → Int32) (f_board_likenesses : Nat → Int32) (f_board_wordCount : Int32) (f_scene_cells : Nat → Int32) (f_seen_actors : Nat → Int32) (f_seen_words : Nat → Int32) (f_seen_used : Int32) (x1 : Int32) : Option (Int32) :=
  vi (x1 < 0) inferInstance (
    some ((-1))) (
    vi (x1 ≤ (nI 1)) inferInstance (
      LX8_habits_19 x1 f_board_commons f_board_lengths f_board_parts f_board_likenesses f_board_wordCount f_scene_cells f_seen_actors f_seen_words f_seen_used vF (nI 0) (-4) (nI 2)) (
      some ((-1))))
abbrev rmX8_habits : Room := { frames := 5, cells := 0, slots := 0, locals := 126 }
set_option maxHeartbeats 4000000 in
set_option maxRecDepth 100000 in
theorem LX8_habits_28_w {cI : ClassId} {X : xT} (C : cx cI X 7 cX8_habits RX8 rmX8_habits) (h : Nat) (a_letters : Nat) (a_board : Nat) (a_draft : Nat) (a_scene : Nat) (a_trial : Nat) (a_past : Nat) (a_kept : Nat) (a_seen : Nat) (a_reader : Nat) (a_search : Nat) (a_deal : Nat) (a_line : Nat) (a_board_commons : Nat) (a_board_lengths : Nat) (a_board_parts : Nat) (a_board_likenesses : Nat) (a_scene_cells : Nat) (a_seen_actors : Nat) (a_seen_words : Nat) (f_length : Int32) (f_board_wordCount : Int32) (f_board_likenessCount : Int32) (f_board_actorCount : Int32) (f_board_forbiddenBits : Int32) (f_board_habitTold : Int32) (f_board_priceTold : Int32) (f_board_commons : Nat → Int32) (f_board_lengths : Nat → Int32) (f_board_parts : Nat → Int32) (f_board_likenesses : Nat → Int32) (f_scene_cells : Nat → Int32) (f_seen_used : Int32) (f_seen_actors : Nat → Int32) (f_seen_words : Nat → Int32) (y_1 : Int32) (y_4 : Int32) {z : Int32} (hR : ∀ (lv : List (Nat × Value)) (pc : Nat), decode cX8_habits pc = .ok (.ireturn, 1) → gg cI X 7 0 0 [oX8 h a_letters f_length a_board a_draft a_scene a_trial a_past a_kept a_seen a_reader a_search a_deal a_line, oX0 a_board a_board_commons a_board_lengths a_board_parts a_board_likenesses f_board_wordCount f_board_likenessCount f_board_actorCount f_board_forbiddenBits f_board_habitTold f_board_priceTold, aI cI a_board_commons 8 f_board_commons, aI cI a_board_lengths 8 f_board_lengths, aI cI a_board_parts 8 f_board_parts, aI cI a_board_likenesses 6 f_board_likenesses, oX4 a_scene a_scene_cells, aI cI a_scene_cells 55 f_scene_cells, oX6 a_seen a_seen_actors a_seen_words f_seen_used, aI cI a_seen_actors 6 f_seen_actors, aI cI a_seen_words 6 f_seen_words] lv pc [.int z]) {K80 : Int32 → Int32 → Option (Int32)} (hK80 : ∀ (k_2 : Int32) (k_3 : Int32), K80 k_2 k_3 = some z → gg cI X 7 0 0 [oX8 h a_letters f_length a_board a_draft a_scene a_trial a_past a_kept a_seen a_reader a_search a_deal a_line, oX0 a_board a_board_commons a_board_lengths a_board_parts a_board_likenesses f_board_wordCount f_board_likenessCount f_board_actorCount f_board_forbiddenBits f_board_habitTold f_board_priceTold, aI cI a_board_commons 8 f_board_commons, aI cI a_board_lengths 8 f_board_lengths, aI cI a_board_parts 8 f_board_parts, aI cI a_board_likenesses 6 f_board_likenesses, oX4 a_scene a_scene_cells, aI cI a_scene_cells 55 f_scene_cells, oX6 a_seen a_seen_actors a_seen_words f_seen_used, aI cI a_seen_actors 6 f_seen_actors, aI cI a_seen_words 6 f_seen_words] [(0, .ref h), (1, .int y_1), (2, .int k_2), (3, .int k_3), (4, .int y_4)] 80 []) : ∀ (n : Nat) (y_2 : Int32) (y_3 : Int32) (y_5 : Int32), LX8_habits_28 y_4 f_board_commons f_board_lengths f_board_parts f_board_likenesses f_board_wordCount f_scene_cells f_seen_actors f_seen_words f_seen_used K80 n y_2 y_3 y_5 = some z → gg cI X 7 0 0 [oX8 h a_letters f_length a_board a_draft a_scene a_trial a_past a_kept a_seen a_reader a_search a_deal a_line, oX0 a_board a_board_commons a_board_lengths a_board_parts a_board_likenesses f_board_wordCount f_board_likenessCount f_board_actorCount f_board_forbiddenBits f_board_habitTold f_board_priceTold, aI cI a_board_commons 8 f_board_commons, aI cI a_board_lengths 8 f_board_lengths, aI cI a_board_parts 8 f_board_parts, aI cI a_board_likenesses 6 f_board_likenesses, oX4 a_scene a_scene_cells, aI cI a_scene_cells 55 f_scene_cells, oX6 a_seen a_seen_actors a_seen_words f_seen_used, aI cI a_seen_actors 6 f_seen_actors, aI cI a_seen_words 6 f_seen_words] [(0, .ref h), (1, .int y_1), (2, .int y_2), (3, .int y_3), (4, .int y_4), (5, .int y_5)] 28 [] := by
  intro n
  induction n with
  | zero =>
    intro y_2 y_3 y_5 hs
    exact nn_ok hs
  | succ n ih =>
    intro y_2 y_3 y_5 hs
    rw [LX8_habits_28] at hs
    refine g_iload (pl := 5) C dX8_habits_28 rfl ?_
    refine g_iconst (v := (nI 4)) C dX8_habits_30 rfl ?_
    refine g_icmp_gt (tgt := 80) C dX8_habits_31 (by decide) (fun c1 => ?_) (fun c1 => ?_)
    · replace hs := vi_t hs c1
      refine g_sub [0, 1, 2, 3, 4] rfl ?_
      exact hK80 y_2 y_3 hs
    · replace hs := vi_f hs c1
      refine g_bipush (v := (nI 10)) C dX8_habits_34 rfl ?_
      refine g_iload (pl := 4) C dX8_habits_36 rfl ?_
      refine g_imul C dX8_habits_38 ?_
      refine g_iload (pl := 5) C dX8_habits_39 rfl ?_
      refine g_iadd C dX8_habits_41 ?_
      obtain ⟨y2, e_y2, hs⟩ := vlet_ex hs
      refine g_topi e_y2 ?_
      refine g_istore (lv' := [(6, .int y2), (0, .ref h), (1, .int y_1), (2, .int y_2), (3, .int y_3), (4, .int y_4), (5, .int y_5)]) C dX8_habits_42 (by decide) rfl ?_
      refine g_aload_n (pl := 1) C dX8_habits_44 rfl rfl ?_
      refine g_get C fX8_48 0 rfl rfl dX8_habits_45 ?_
      refine g_iload (pl := 0) C dX8_habits_48 rfl ?_
      refine g_aload_n (pl := 1) C dX8_habits_50 rfl rfl ?_
      refine g_get C fX8_16 0 rfl rfl dX8_habits_51 ?_
      refine g_aload_n (pl := 1) C dX8_habits_54 rfl rfl ?_
      refine g_get C fX8_26 0 rfl rfl dX8_habits_55 ?_
      obtain ⟨z3, e_z3, hs⟩ := vb_ok hs
      refine g_callV (ws' := [oX8 h a_letters f_length a_board a_draft a_scene a_trial a_past a_kept a_seen a_reader a_search a_deal a_line, oX0 a_board a_board_commons a_board_lengths a_board_parts a_board_likenesses f_board_wordCount f_board_likenessCount f_board_actorCount f_board_forbiddenBits f_board_habitTold f_board_priceTold, aI cI a_board_commons 8 f_board_commons, aI cI a_board_lengths 8 f_board_lengths, aI cI a_board_parts 8 f_board_parts, aI cI a_board_likenesses 6 f_board_likenesses, oX4 a_scene a_scene_cells, aI cI a_scene_cells 55 f_scene_cells, oX6 a_seen a_seen_actors a_seen_words f_seen_used, aI cI a_seen_actors 6 f_seen_actors, aI cI a_seen_words 6 f_seen_words]) (rest := []) (st' := [.int z3]) C mX8_261 q4_43 [.int y2, .ref a_board, .ref a_scene] (fun l D => cX6_holdsBy_ct l D cI a_seen a_seen_actors a_seen_words a_board a_board_commons a_board_lengths a_board_parts a_board_likenesses a_scene a_scene_cells f_seen_used f_seen_actors f_seen_words f_board_wordCount f_board_likenessCount f_board_actorCount f_board_forbiddenBits f_board_habitTold f_board_priceTold f_board_commons f_board_lengths f_board_parts f_board_likenesses f_scene_cells y2 e_z3) ⟨⟨rfl, rfl⟩, Nat.le_of_ble_eq_true rfl, Nat.le_of_ble_eq_true rfl⟩ 8 rfl rfl rfl [8, 9, 10, 1, 2, 3, 4, 5, 6, 7] rfl rfl rfl (by simp only [setM, List.set_cons_zero, List.set_cons_succ]) rfl (Nat.le_of_ble_eq_true rfl) (Nat.zero_le _) (Nat.zero_le _) rfl dX8_habits_58 ?_
      refine g_if_eq (tgt := 74) C dX8_habits_61 (by decide) (fun c4 => ?_) (fun c4 => ?_)
      · replace hs := vi_t hs c4
        obtain ⟨y5, e_y5, hs⟩ := vlet_ex hs
        refine g_iinc (pl := 6) (lv' := [(5, .int y5), (6, .int y2), (0, .ref h), (1, .int y_1), (2, .int y_2), (3, .int y_3), (4, .int y_4)]) C dX8_habits_74 rfl e_y5.symm (by decide) rfl ?_
        refine g_goto (tgt := 28) C dX8_habits_77 (by decide) ?_
        refine g_sub [2, 3, 4, 5, 6, 0] rfl ?_
        exact ih y_2 y_3 y5 hs
      · replace hs := vi_f hs c4
        refine g_iload_n (pl := 3) C dX8_habits_64 rfl rfl ?_
        refine g_if_ne (tgt := 71) C dX8_habits_65 (by decide) (fun c6 => ?_) (fun c6 => ?_)
        · replace hs := vi_f hs c6
          obtain ⟨y7, e_y7, hs⟩ := vlet_ex hs
          refine g_iinc (pl := 3) (lv' := [(2, .int y7), (6, .int y2), (0, .ref h), (1, .int y_1), (3, .int y_3), (4, .int y_4), (5, .int y_5)]) C dX8_habits_71 rfl e_y7.symm (by decide) rfl ?_
          obtain ⟨y8, e_y8, hs⟩ := vlet_ex hs
          refine g_iinc (pl := 6) (lv' := [(5, .int y8), (2, .int y7), (6, .int y2), (0, .ref h), (1, .int y_1), (3, .int y_3), (4, .int y_4)]) C dX8_habits_74 rfl e_y8.symm (by decide) rfl ?_
          refine g_goto (tgt := 28) C dX8_habits_77 (by decide) ?_
          refine g_sub [3, 4, 1, 5, 6, 0] rfl ?_
          exact ih y7 y_3 y8 hs
        · replace hs := vi_t hs c6
          refine g_iload (pl := 0) C dX8_habits_68 rfl ?_
          refine g_istore_n (lv' := [(3, .int y2), (6, .int y2), (0, .ref h), (1, .int y_1), (2, .int y_2), (4, .int y_4), (5, .int y_5)]) C dX8_habits_70 rfl (by decide) rfl ?_
          obtain ⟨y9, e_y9, hs⟩ := vlet_ex hs
          refine g_iinc (pl := 4) (lv' := [(2, .int y9), (3, .int y2), (6, .int y2), (0, .ref h), (1, .int y_1), (4, .int y_4), (5, .int y_5)]) C dX8_habits_71 rfl e_y9.symm (by decide) rfl ?_
          obtain ⟨y10, e_y10, hs⟩ := vlet_ex hs
          refine g_iinc (pl := 6) (lv' := [(5, .int y10), (2, .int y9), (3, .int y2), (6, .int y2), (0, .ref h), (1, .int y_1), (4, .int y_4)]) C dX8_habits_74 rfl e_y10.symm (by decide) rfl ?_
          refine g_goto (tgt := 28) C dX8_habits_77 (by decide) ?_
          refine g_sub [4, 5, 1, 2, 6, 0] rfl ?_
          exact ih y9 y2 y10 hs
set_option maxHeartbeats 4000000 in
set_option maxRecDepth 100000 in
theorem LX8_habits_19_w {cI : ClassId} {X : xT} (C : cx cI X 7 cX8_habits RX8 rmX8_habits) (h : Nat) (a_letters : Nat) (a_board : Nat) (a_draft : Nat) (a_scene : Nat) (a_trial : Nat) (a_past : Nat) (a_kept : Nat) (a_seen : Nat) (a_reader : Nat) (a_search : Nat) (a_deal : Nat) (a_line : Nat) (a_board_commons : Nat) (a_board_lengths : Nat) (a_board_parts : Nat) (a_board_likenesses : Nat) (a_scene_cells : Nat) (a_seen_actors : Nat) (a_seen_words : Nat) (f_length : Int32) (f_board_wordCount : Int32) (f_board_likenessCount : Int32) (f_board_actorCount : Int32) (f_board_forbiddenBits : Int32) (f_board_habitTold : Int32) (f_board_priceTold : Int32) (f_board_commons : Nat → Int32) (f_board_lengths : Nat → Int32) (f_board_parts : Nat → Int32) (f_board_likenesses : Nat → Int32) (f_scene_cells : Nat → Int32) (f_seen_used : Int32) (f_seen_actors : Nat → Int32) (f_seen_words : Nat → Int32) (y_1 : Int32) {z : Int32} (hR : ∀ (lv : List (Nat × Value)) (pc : Nat), decode cX8_habits pc = .ok (.ireturn, 1) → gg cI X 7 0 0 [oX8 h a_letters f_length a_board a_draft a_scene a_trial a_past a_kept a_seen a_reader a_search a_deal a_line, oX0 a_board a_board_commons a_board_lengths a_board_parts a_board_likenesses f_board_wordCount f_board_likenessCount f_board_actorCount f_board_forbiddenBits f_board_habitTold f_board_priceTold, aI cI a_board_commons 8 f_board_commons, aI cI a_board_lengths 8 f_board_lengths, aI cI a_board_parts 8 f_board_parts, aI cI a_board_likenesses 6 f_board_likenesses, oX4 a_scene a_scene_cells, aI cI a_scene_cells 55 f_scene_cells, oX6 a_seen a_seen_actors a_seen_words f_seen_used, aI cI a_seen_actors 6 f_seen_actors, aI cI a_seen_words 6 f_seen_words] lv pc [.int z]) : ∀ (n : Nat) (y_2 : Int32) (y_3 : Int32) (y_4 : Int32), LX8_habits_19 y_1 f_board_commons f_board_lengths f_board_parts f_board_likenesses f_board_wordCount f_scene_cells f_seen_actors f_seen_words f_seen_used n y_2 y_3 y_4 = some z → gg cI X 7 0 0 [oX8 h a_letters f_length a_board a_draft a_scene a_trial a_past a_kept a_seen a_reader a_search a_deal a_line, oX0 a_board a_board_commons a_board_lengths a_board_parts a_board_likenesses f_board_wordCount f_board_likenessCount f_board_actorCount f_board_forbiddenBits f_board_habitTold f_board_priceTold, aI cI a_board_commons 8 f_board_commons, aI cI a_board_lengths 8 f_board_lengths, aI cI a_board_parts 8 f_board_parts, aI cI a_board_likenesses 6 f_board_likenesses, oX4 a_scene a_scene_cells, aI cI a_scene_cells 55 f_scene_cells, oX6 a_seen a_seen_actors a_seen_words f_seen_used, aI cI a_seen_actors 6 f_seen_actors, aI cI a_seen_words 6 f_seen_words] [(0, .ref h), (1, .int y_1), (2, .int y_2), (3, .int y_3), (4, .int y_4)] 19 [] := by
  intro n
  induction n with
  | zero =>
    intro y_2 y_3 y_4 hs
    exact nn_ok hs
  | succ n ih =>
    intro y_2 y_3 y_4 hs
    rw [LX8_habits_19] at hs
    refine g_iload (pl := 4) C dX8_habits_19 rfl ?_
    refine g_iconst (v := (nI 5)) C dX8_habits_21 rfl ?_
    refine g_icmp_gt (tgt := 86) C dX8_habits_22 (by decide) (fun c11 => ?_) (fun c11 => ?_)
    · replace hs := vi_t hs c11
      refine g_iload_n (pl := 1) C dX8_habits_86 rfl rfl ?_
      refine g_if_ne (tgt := 94) C dX8_habits_87 (by decide) (fun c12 => ?_) (fun c12 => ?_)
      · replace hs := vi_f hs c12
        refine g_iload_n (pl := 3) C dX8_habits_94 rfl rfl ?_
        cases hs
        exact hR _ _ dX8_habits_95
      · replace hs := vi_t hs c12
        refine g_iload_n (pl := 2) C dX8_habits_90 rfl rfl ?_
        refine g_goto (tgt := 95) C dX8_habits_91 (by decide) ?_
        cases hs
        exact hR _ _ dX8_habits_95
    · replace hs := vi_f hs c11
      refine g_iconst (v := (nI 1)) C dX8_habits_25 rfl ?_
      refine g_istore (lv' := [(5, .int (nI 1)), (0, .ref h), (1, .int y_1), (2, .int y_2), (3, .int y_3), (4, .int y_4)]) C dX8_habits_26 (by decide) rfl ?_
      refine g_sub [1, 2, 3, 4, 5, 0] rfl ?_
      refine LX8_habits_28_w C h a_letters a_board a_draft a_scene a_trial a_past a_kept a_seen a_reader a_search a_deal a_line a_board_commons a_board_lengths a_board_parts a_board_likenesses a_scene_cells a_seen_actors a_seen_words f_length f_board_wordCount f_board_likenessCount f_board_actorCount f_board_forbiddenBits f_board_habitTold f_board_priceTold f_board_commons f_board_lengths f_board_parts f_board_likenesses f_scene_cells f_seen_used f_seen_actors f_seen_words y_1 y_4 hR ?_ _ y_2 y_3 (nI 1) hs
      · intro v13 v14 hs
        obtain ⟨y15, e_y15, hs⟩ := vlet_ex hs
        refine g_iinc (pl := 4) (lv' := [(4, .int y15), (0, .ref h), (1, .int y_1), (2, .int v13), (3, .int v14)]) C dX8_habits_80 rfl e_y15.symm (by decide) rfl ?_
        refine g_goto (tgt := 19) C dX8_habits_83 (by decide) ?_
        refine g_sub [1, 2, 3, 4, 0] rfl ?_
        exact ih v13 v14 y15 hs
set_option maxHeartbeats 4000000 in
set_option maxRecDepth 100000 in
theorem cX8_habits_ct (l : Launch) (D : va_G) (cI : ClassId) (h : Nat) (a_letters : Nat) (a_board : Nat) (a_draft : Nat) (a_scene : Nat) (a_trial : Nat) (a_past : Nat) (a_kept : Nat) (a_seen : Nat) (a_reader : Nat) (a_search : Nat) (a_deal : Nat) (a_line : Nat) (a_board_commons : Nat) (a_board_lengths : Nat) (a_board_parts : Nat) (a_board_likenesses : Nat) (a_scene_cells : Nat) (a_seen_actors : Nat) (a_seen_words : Nat) (f_length : Int32) (f_board_wordCount : Int32) (f_board_likenessCount : Int32) (f_board_actorCount : Int32) (f_board_forbiddenBits : Int32) (f_board_habitTold : Int32) (f_board_priceTold : Int32) (f_board_commons : Nat → Int32) (f_board_lengths : Nat → Int32) (f_board_parts : Nat → Int32) (f_board_likenesses : Nat → Int32) (f_scene_cells : Nat → Int32) (f_seen_used : Int32) (f_seen_actors : Nat → Int32) (f_seen_words : Nat → Int32) (x1 : Int32) {z : Int32} (hs : sX8_habits f_board_commons f_board_lengths f_board_parts f_board_likenesses f_board_wordCount f_scene_cells f_seen_actors f_seen_words f_seen_used x1 = some z) : ct l yX8_habits (.code yX8_habits cX8_habits 7 (some .int) :: gtb) rmX8_habits D cI [.ref h, .int x1] [oX8 h a_letters f_length a_board a_draft a_scene a_trial a_past a_kept a_seen a_reader a_search a_deal a_line, oX0 a_board a_board_commons a_board_lengths a_board_parts a_board_likenesses f_board_wordCount f_board_likenessCount f_board_actorCount f_board_forbiddenBits f_board_habitTold f_board_priceTold, aI cI a_board_commons 8 f_board_commons, aI cI a_board_lengths 8 f_board_lengths, aI cI a_board_parts 8 f_board_parts, aI cI a_board_likenesses 6 f_board_likenesses, oX4 a_scene a_scene_cells, aI cI a_scene_cells 55 f_scene_cells, oX6 a_seen a_seen_actors a_seen_words f_seen_used, aI cI a_seen_actors 6 f_seen_actors, aI cI a_seen_words 6 f_seen_words] (some (.int z)) [oX8 h a_letters f_length a_board a_draft a_scene a_trial a_past a_kept a_seen a_reader a_search a_deal a_line, oX0 a_board a_board_commons a_board_lengths a_board_parts a_board_likenesses f_board_wordCount f_board_likenessCount f_board_actorCount f_board_forbiddenBits f_board_habitTold f_board_priceTold, aI cI a_board_commons 8 f_board_commons, aI cI a_board_lengths 8 f_board_lengths, aI cI a_board_parts 8 f_board_parts, aI cI a_board_likenesses 6 f_board_likenesses, oX4 a_scene a_scene_cells, aI cI a_scene_cells 55 f_scene_cells, oX6 a_seen a_seen_actors a_seen_words f_seen_used, aI cI a_seen_actors 6 f_seen_actors, aI cI a_seen_words 6 f_seen_words] := by
  refine ct_ofI (own := RX8) (by decide +kernel) rfl (Nat.le_of_ble_eq_true rfl) (fun X C hD hR => ?_)
  unfold sX8_habits at hs
  show gg cI X 7 0 0 [oX8 h a_letters f_length a_board a_draft a_scene a_trial a_past a_kept a_seen a_reader a_search a_deal a_line, oX0 a_board a_board_commons a_board_lengths a_board_parts a_board_likenesses f_board_wordCount f_board_likenessCount f_board_actorCount f_board_forbiddenBits f_board_habitTold f_board_priceTold, aI cI a_board_commons 8 f_board_commons, aI cI a_board_lengths 8 f_board_lengths, aI cI a_board_parts 8 f_board_parts, aI cI a_board_likenesses 6 f_board_likenesses, oX4 a_scene a_scene_cells, aI cI a_scene_cells 55 f_scene_cells, oX6 a_seen a_seen_actors a_seen_words f_seen_used, aI cI a_seen_actors 6 f_seen_actors, aI cI a_seen_words 6 f_seen_words] [(0, .ref h), (1, .int x1)] 0 []
  refine g_iload_n (pl := 1) C dX8_habits_0 rfl rfl ?_
  refine g_if_lt (tgt := 9) C dX8_habits_1 (by decide) (fun c16 => ?_) (fun c16 => ?_)
  · replace hs := vi_t hs c16
    refine g_iconst (v := (-1)) C dX8_habits_9 rfl ?_
    cases hs
    exact hR _ _ dX8_habits_10
  · replace hs := vi_f hs c16
    refine g_iload_n (pl := 1) C dX8_habits_4 rfl rfl ?_
    refine g_iconst (v := (nI 1)) C dX8_habits_5 rfl ?_
    refine g_icmp_le (tgt := 11) C dX8_habits_6 (by decide) (fun c17 => ?_) (fun c17 => ?_)
    · replace hs := vi_t hs c17
      refine g_iconst (v := (nI 0)) C dX8_habits_11 rfl ?_
      refine g_istore_n (lv' := [(2, .int (nI 0)), (0, .ref h), (1, .int x1)]) C dX8_habits_12 rfl (by decide) rfl ?_
      refine g_bipush (v := (-4)) C dX8_habits_13 rfl ?_
      refine g_istore_n (lv' := [(3, .int (-4)), (2, .int (nI 0)), (0, .ref h), (1, .int x1)]) C dX8_habits_15 rfl (by decide) rfl ?_
      refine g_iconst (v := (nI 2)) C dX8_habits_16 rfl ?_
      refine g_istore (lv' := [(4, .int (nI 2)), (3, .int (-4)), (2, .int (nI 0)), (0, .ref h), (1, .int x1)]) C dX8_habits_17 (by decide) rfl ?_
      refine g_sub [3, 4, 2, 1, 0] rfl ?_
      exact LX8_habits_19_w C h a_letters a_board a_draft a_scene a_trial a_past a_kept a_seen a_reader a_search a_deal a_line a_board_commons a_board_lengths a_board_parts a_board_likenesses a_scene_cells a_seen_actors a_seen_words f_length f_board_wordCount f_board_likenessCount f_board_actorCount f_board_forbiddenBits f_board_habitTold f_board_priceTold f_board_commons f_board_lengths f_board_parts f_board_likenesses f_scene_cells f_seen_used f_seen_actors f_seen_words x1 hR _ (nI 0) (-4) (nI 2) hs
    · replace hs := vi_f hs c17
      refine g_iconst (v := (-1)) C dX8_habits_9 rfl ?_
      cases hs
      exact hR _ _ dX8_habits_10
def LX8_wants_44 (f_board_wordCount : Int32) (f_search_free : Nat → Int32) (f_search_factors : Nat → Int32) (f_search_weights : Nat → Int32) (f_search_row : Nat → Int32) (f_search_lengths : Nat → Int32) (f_search_signs : Nat → Int32) (f_search_words : Int32) (f_search_freeCount : Int32) (f_search_open : Int32) : Nat → Int32 → Int32 → Option (Int32 × (Nat → Int32) × (Nat → Int32) × (Nat → Int32) × (Nat → Int32) × (Nat → Int32) × (Nat → Int32) × Int32 × Int32 × Int32)
  | 0, _, _ => none
  | n + 1, y_2, y_3 =>
    vb (sX0_words f_board_wordCount) fun z1 =>
    vi (z1 ≤ y_3) inferInstance (
      some (y_2, f_search_free, f_search_factors, f_search_weights, f_search_row, f_search_lengths, f_search_signs, f_search_words, f_search_freeCount, f_search_open)) (
      vb (sX5_howMany f_search_lengths f_search_words y_3) fun z3 =>
      vi (z3 = (-4)) inferInstance (
        vlet (y_3 + (nI 1)) fun y5 =>
        LX8_wants_44 f_board_wordCount f_search_free f_search_factors f_search_weights f_search_row f_search_lengths f_search_signs f_search_words f_search_freeCount f_search_open n y_2 y5) (
        vlet (y_2 ||| ((nI 1) <<< (y_3 &&& 31))) fun y6 =>
        vlet (y_3 + (nI 1)) fun y7 =>
        LX8_wants_44 f_board_wordCount f_search_free f_search_factors f_search_weights f_search_row f_search_lengths f_search_signs f_search_words f_search_freeCount f_search_open n y6 y7))
def sX8_wants (f_board_commons : Nat → Int32) (f_board_lengths : Nat → Int32) (f_board_parts : Nat → Int32) (f_board_likenesses : Nat → Int32) (f_board_wordCount : Int32) (f_board_likenessCount : Int32) (f_board_actorCount : Int32) (f_board_forbiddenBits : Int32) (f_board_habitTold : Int32) (f_scene_cells : Nat → Int32) (f_search_free : Nat → Int32) (f_search_factors : Nat → Int32) (f_search_weights : Nat → Int32) (f_search_row : Nat → Int32) (f_search_lengths : Nat → Int32) (f_search_signs : Nat → Int32) (f_search_words : Int32) (f_search_freeCount : Int32) (f_search_open : Int32) (x1 : Int32) : Option (Int32 × (Nat → Int32) × (Nat → Int32) × (Nat → Int32) × (Nat → Int32) × (Nat → Int32) × (Nat → Int32) × Int32 × Int32 × Int32) :=
  vb (sX8_isActor f_board_actorCount x1) fun z8 =>
  vi (z8 = 0) inferInstance (
    some ((-1), f_search_free, f_search_factors, f_search_weights, f_search_row, f_search_lengths, f_search_signs, f_search_words, f_search_freeCount, f_search_open)) (
    vb (sX4_waits f_scene_cells x1) fun z10 =>
    vi (z10 = 0) inferInstance (
      some ((-2), f_search_free, f_search_factors, f_search_weights, f_search_row, f_search_lengths, f_search_signs, f_search_words, f_search_freeCount, f_search_open)) (
      vb (sX5_run f_search_free f_search_factors f_search_weights f_search_row f_search_lengths f_search_signs f_search_words f_search_freeCount f_search_open f_board_commons f_board_lengths f_board_parts f_board_likenesses f_board_wordCount f_board_likenessCount f_board_forbiddenBits f_board_habitTold f_scene_cells x1) fun z12 =>
      LX8_wants_44 f_board_wordCount z12.1 z12.2.1 z12.2.2.1 z12.2.2.2.1 z12.2.2.2.2.1 z12.2.2.2.2.2.1 z12.2.2.2.2.2.2.1 z12.2.2.2.2.2.2.2.1 z12.2.2.2.2.2.2.2.2 vF (nI 0) (nI 0)))
abbrev rmX8_wants : Room := { frames := 5, cells := 0, slots := 0, locals := 123 }
set_option maxHeartbeats 4000000 in
set_option maxRecDepth 100000 in
theorem LX8_wants_44_w {cI : ClassId} {X : xT} (C : cx cI X 4 cX8_wants RX8 rmX8_wants) (h : Nat) (a_letters : Nat) (a_board : Nat) (a_draft : Nat) (a_scene : Nat) (a_trial : Nat) (a_past : Nat) (a_kept : Nat) (a_seen : Nat) (a_reader : Nat) (a_search : Nat) (a_deal : Nat) (a_line : Nat) (a_board_commons : Nat) (a_board_lengths : Nat) (a_board_parts : Nat) (a_board_likenesses : Nat) (a_scene_cells : Nat) (a_search_free : Nat) (a_search_factors : Nat) (a_search_weights : Nat) (a_search_row : Nat) (a_search_lengths : Nat) (a_search_signs : Nat) (f_length : Int32) (f_board_wordCount : Int32) (f_board_likenessCount : Int32) (f_board_actorCount : Int32) (f_board_forbiddenBits : Int32) (f_board_habitTold : Int32) (f_board_priceTold : Int32) (f_board_commons : Nat → Int32) (f_board_lengths : Nat → Int32) (f_board_parts : Nat → Int32) (f_board_likenesses : Nat → Int32) (f_scene_cells : Nat → Int32) (f_search_words : Int32) (f_search_freeCount : Int32) (f_search_open : Int32) (f_search_free : Nat → Int32) (f_search_factors : Nat → Int32) (f_search_weights : Nat → Int32) (f_search_row : Nat → Int32) (f_search_lengths : Nat → Int32) (f_search_signs : Nat → Int32) {z : Int32 × (Nat → Int32) × (Nat → Int32) × (Nat → Int32) × (Nat → Int32) × (Nat → Int32) × (Nat → Int32) × Int32 × Int32 × Int32} (hR : ∀ (lv : List (Nat × Value)) (pc : Nat), decode cX8_wants pc = .ok (.ireturn, 1) → gg cI X 4 0 0 [oX8 h a_letters f_length a_board a_draft a_scene a_trial a_past a_kept a_seen a_reader a_search a_deal a_line, oX0 a_board a_board_commons a_board_lengths a_board_parts a_board_likenesses f_board_wordCount f_board_likenessCount f_board_actorCount f_board_forbiddenBits f_board_habitTold f_board_priceTold, aI cI a_board_commons 8 f_board_commons, aI cI a_board_lengths 8 f_board_lengths, aI cI a_board_parts 8 f_board_parts, aI cI a_board_likenesses 6 f_board_likenesses, oX4 a_scene a_scene_cells, aI cI a_scene_cells 55 f_scene_cells, oX5 a_search a_search_free a_search_factors a_search_weights a_search_row a_search_lengths a_search_signs z.2.2.2.2.2.2.2.1 z.2.2.2.2.2.2.2.2.1 z.2.2.2.2.2.2.2.2.2, aI cI a_search_free 15 z.2.1, aI cI a_search_factors 120 z.2.2.1, aI cI a_search_weights 32 z.2.2.2.1, aI cI a_search_row 3 z.2.2.2.2.1, aI cI a_search_lengths 8 z.2.2.2.2.2.1, aI cI a_search_signs 24 z.2.2.2.2.2.2.1] lv pc [.int z.1]) : ∀ (n : Nat) (y_2 : Int32) (y_3 : Int32), LX8_wants_44 f_board_wordCount f_search_free f_search_factors f_search_weights f_search_row f_search_lengths f_search_signs f_search_words f_search_freeCount f_search_open n y_2 y_3 = some z → gg cI X 4 0 0 [oX8 h a_letters f_length a_board a_draft a_scene a_trial a_past a_kept a_seen a_reader a_search a_deal a_line, oX0 a_board a_board_commons a_board_lengths a_board_parts a_board_likenesses f_board_wordCount f_board_likenessCount f_board_actorCount f_board_forbiddenBits f_board_habitTold f_board_priceTold, aI cI a_board_commons 8 f_board_commons, aI cI a_board_lengths 8 f_board_lengths, aI cI a_board_parts 8 f_board_parts, aI cI a_board_likenesses 6 f_board_likenesses, oX4 a_scene a_scene_cells, aI cI a_scene_cells 55 f_scene_cells, oX5 a_search a_search_free a_search_factors a_search_weights a_search_row a_search_lengths a_search_signs f_search_words f_search_freeCount f_search_open, aI cI a_search_free 15 f_search_free, aI cI a_search_factors 120 f_search_factors, aI cI a_search_weights 32 f_search_weights, aI cI a_search_row 3 f_search_row, aI cI a_search_lengths 8 f_search_lengths, aI cI a_search_signs 24 f_search_signs] [(0, .ref h), (2, .int y_2), (3, .int y_3)] 44 [] := by
  intro n
  induction n with
  | zero =>
    intro y_2 y_3 hs
    exact nn_ok hs
  | succ n ih =>
    intro y_2 y_3 hs
    rw [LX8_wants_44] at hs
    refine g_iload_n (pl := 2) C dX8_wants_44 rfl rfl ?_
    refine g_aload_n (pl := 0) C dX8_wants_45 rfl rfl ?_
    refine g_get C fX8_16 0 rfl rfl dX8_wants_46 ?_
    obtain ⟨z1, e_z1, hs⟩ := vb_ok hs
    refine g_callV (ws' := [oX8 h a_letters f_length a_board a_draft a_scene a_trial a_past a_kept a_seen a_reader a_search a_deal a_line, oX0 a_board a_board_commons a_board_lengths a_board_parts a_board_likenesses f_board_wordCount f_board_likenessCount f_board_actorCount f_board_forbiddenBits f_board_habitTold f_board_priceTold, aI cI a_board_commons 8 f_board_commons, aI cI a_board_lengths 8 f_board_lengths, aI cI a_board_parts 8 f_board_parts, aI cI a_board_likenesses 6 f_board_likenesses, oX4 a_scene a_scene_cells, aI cI a_scene_cells 55 f_scene_cells, oX5 a_search a_search_free a_search_factors a_search_weights a_search_row a_search_lengths a_search_signs f_search_words f_search_freeCount f_search_open, aI cI a_search_free 15 f_search_free, aI cI a_search_factors 120 f_search_factors, aI cI a_search_weights 32 f_search_weights, aI cI a_search_row 3 f_search_row, aI cI a_search_lengths 8 f_search_lengths, aI cI a_search_signs 24 f_search_signs]) (rest := [.int y_3]) (st' := [.int z1, .int y_3]) C mX8_108 q2_57 [] (fun l D => cX0_words_ct l D cI a_board a_board_commons a_board_lengths a_board_parts a_board_likenesses f_board_wordCount f_board_likenessCount f_board_actorCount f_board_forbiddenBits f_board_habitTold f_board_priceTold e_z1) ⟨⟨rfl, rfl⟩, Nat.le_of_ble_eq_true rfl, Nat.le_of_ble_eq_true rfl⟩ 1 rfl rfl rfl [1] rfl rfl rfl rfl rfl (Nat.le_of_ble_eq_true rfl) (Nat.zero_le _) (Nat.zero_le _) rfl dX8_wants_49 ?_
    refine g_icmp_ge (tgt := 80) C dX8_wants_52 (by decide) (fun c2 => ?_) (fun c2 => ?_)
    · replace hs := vi_t hs c2
      refine g_iload_n (pl := 1) C dX8_wants_80 rfl rfl ?_
      cases hs
      exact hR _ _ dX8_wants_81
    · replace hs := vi_f hs c2
      refine g_aload_n (pl := 0) C dX8_wants_55 rfl rfl ?_
      refine g_get C fX8_62 0 rfl rfl dX8_wants_56 ?_
      refine g_iload_n (pl := 2) C dX8_wants_59 rfl rfl ?_
      obtain ⟨z3, e_z3, hs⟩ := vb_ok hs
      refine g_callV (ws' := [oX8 h a_letters f_length a_board a_draft a_scene a_trial a_past a_kept a_seen a_reader a_search a_deal a_line, oX0 a_board a_board_commons a_board_lengths a_board_parts a_board_likenesses f_board_wordCount f_board_likenessCount f_board_actorCount f_board_forbiddenBits f_board_habitTold f_board_priceTold, aI cI a_board_commons 8 f_board_commons, aI cI a_board_lengths 8 f_board_lengths, aI cI a_board_parts 8 f_board_parts, aI cI a_board_likenesses 6 f_board_likenesses, oX4 a_scene a_scene_cells, aI cI a_scene_cells 55 f_scene_cells, oX5 a_search a_search_free a_search_factors a_search_weights a_search_row a_search_lengths a_search_signs f_search_words f_search_freeCount f_search_open, aI cI a_search_free 15 f_search_free, aI cI a_search_factors 120 f_search_factors, aI cI a_search_weights 32 f_search_weights, aI cI a_search_row 3 f_search_row, aI cI a_search_lengths 8 f_search_lengths, aI cI a_search_signs 24 f_search_signs]) (rest := []) (st' := [.int z3]) C mX8_201 q3_163 [.int y_3] (fun l D => cX5_howMany_ct l D cI a_search a_search_free a_search_factors a_search_weights a_search_row a_search_lengths a_search_signs f_search_words f_search_freeCount f_search_open f_search_lengths y_3 e_z3) ⟨⟨rfl, rfl⟩, Nat.le_of_ble_eq_true rfl, Nat.le_of_ble_eq_true rfl⟩ 8 rfl rfl rfl [8, 13] rfl rfl rfl rfl rfl (Nat.le_of_ble_eq_true rfl) (Nat.zero_le _) (Nat.zero_le _) rfl dX8_wants_60 ?_
      refine g_bipush (v := (-4)) C dX8_wants_63 rfl ?_
      refine g_icmp_eq (tgt := 74) C dX8_wants_65 (by decide) (fun c4 => ?_) (fun c4 => ?_)
      · replace hs := vi_t hs c4
        obtain ⟨y5, e_y5, hs⟩ := vlet_ex hs
        refine g_iinc (pl := 2) (lv' := [(3, .int y5), (0, .ref h), (2, .int y_2)]) C dX8_wants_74 rfl e_y5.symm (by decide) rfl ?_
        refine g_goto (tgt := 44) C dX8_wants_77 (by decide) ?_
        refine g_sub [1, 2, 0] rfl ?_
        exact ih y_2 y5 hs
      · replace hs := vi_f hs c4
        refine g_iload_n (pl := 1) C dX8_wants_68 rfl rfl ?_
        refine g_iconst (v := (nI 1)) C dX8_wants_69 rfl ?_
        refine g_iload_n (pl := 2) C dX8_wants_70 rfl rfl ?_
        refine g_ishl C dX8_wants_71 ?_
        refine g_ior C dX8_wants_72 ?_
        obtain ⟨y6, e_y6, hs⟩ := vlet_ex hs
        refine g_topi e_y6 ?_
        refine g_istore_n (lv' := [(2, .int y6), (0, .ref h), (3, .int y_3)]) C dX8_wants_73 rfl (by decide) rfl ?_
        obtain ⟨y7, e_y7, hs⟩ := vlet_ex hs
        refine g_iinc (pl := 2) (lv' := [(3, .int y7), (2, .int y6), (0, .ref h)]) C dX8_wants_74 rfl e_y7.symm (by decide) rfl ?_
        refine g_goto (tgt := 44) C dX8_wants_77 (by decide) ?_
        refine g_sub [2, 1, 0] rfl ?_
        exact ih y6 y7 hs
set_option maxHeartbeats 4000000 in
set_option maxRecDepth 100000 in
theorem cX8_wants_ct (l : Launch) (D : va_G) (cI : ClassId) (h : Nat) (a_letters : Nat) (a_board : Nat) (a_draft : Nat) (a_scene : Nat) (a_trial : Nat) (a_past : Nat) (a_kept : Nat) (a_seen : Nat) (a_reader : Nat) (a_search : Nat) (a_deal : Nat) (a_line : Nat) (a_board_commons : Nat) (a_board_lengths : Nat) (a_board_parts : Nat) (a_board_likenesses : Nat) (a_scene_cells : Nat) (a_search_free : Nat) (a_search_factors : Nat) (a_search_weights : Nat) (a_search_row : Nat) (a_search_lengths : Nat) (a_search_signs : Nat) (f_length : Int32) (f_board_wordCount : Int32) (f_board_likenessCount : Int32) (f_board_actorCount : Int32) (f_board_forbiddenBits : Int32) (f_board_habitTold : Int32) (f_board_priceTold : Int32) (f_board_commons : Nat → Int32) (f_board_lengths : Nat → Int32) (f_board_parts : Nat → Int32) (f_board_likenesses : Nat → Int32) (f_scene_cells : Nat → Int32) (f_search_words : Int32) (f_search_freeCount : Int32) (f_search_open : Int32) (f_search_free : Nat → Int32) (f_search_factors : Nat → Int32) (f_search_weights : Nat → Int32) (f_search_row : Nat → Int32) (f_search_lengths : Nat → Int32) (f_search_signs : Nat → Int32) (x1 : Int32) {z : Int32 × (Nat → Int32) × (Nat → Int32) × (Nat → Int32) × (Nat → Int32) × (Nat → Int32) × (Nat → Int32) × Int32 × Int32 × Int32} (hs : sX8_wants f_board_commons f_board_lengths f_board_parts f_board_likenesses f_board_wordCount f_board_likenessCount f_board_actorCount f_board_forbiddenBits f_board_habitTold f_scene_cells f_search_free f_search_factors f_search_weights f_search_row f_search_lengths f_search_signs f_search_words f_search_freeCount f_search_open x1 = some z) : ct l yX8_wants (.code yX8_wants cX8_wants 4 (some .int) :: gtb) rmX8_wants D cI [.ref h, .int x1] [oX8 h a_letters f_length a_board a_draft a_scene a_trial a_past a_kept a_seen a_reader a_search a_deal a_line, oX0 a_board a_board_commons a_board_lengths a_board_parts a_board_likenesses f_board_wordCount f_board_likenessCount f_board_actorCount f_board_forbiddenBits f_board_habitTold f_board_priceTold, aI cI a_board_commons 8 f_board_commons, aI cI a_board_lengths 8 f_board_lengths, aI cI a_board_parts 8 f_board_parts, aI cI a_board_likenesses 6 f_board_likenesses, oX4 a_scene a_scene_cells, aI cI a_scene_cells 55 f_scene_cells, oX5 a_search a_search_free a_search_factors a_search_weights a_search_row a_search_lengths a_search_signs f_search_words f_search_freeCount f_search_open, aI cI a_search_free 15 f_search_free, aI cI a_search_factors 120 f_search_factors, aI cI a_search_weights 32 f_search_weights, aI cI a_search_row 3 f_search_row, aI cI a_search_lengths 8 f_search_lengths, aI cI a_search_signs 24 f_search_signs] (some (.int z.1)) [oX8 h a_letters f_length a_board a_draft a_scene a_trial a_past a_kept a_seen a_reader a_search a_deal a_line, oX0 a_board a_board_commons a_board_lengths a_board_parts a_board_likenesses f_board_wordCount f_board_likenessCount f_board_actorCount f_board_forbiddenBits f_board_habitTold f_board_priceTold, aI cI a_board_commons 8 f_board_commons, aI cI a_board_lengths 8 f_board_lengths, aI cI a_board_parts 8 f_board_parts, aI cI a_board_likenesses 6 f_board_likenesses, oX4 a_scene a_scene_cells, aI cI a_scene_cells 55 f_scene_cells, oX5 a_search a_search_free a_search_factors a_search_weights a_search_row a_search_lengths a_search_signs z.2.2.2.2.2.2.2.1 z.2.2.2.2.2.2.2.2.1 z.2.2.2.2.2.2.2.2.2, aI cI a_search_free 15 z.2.1, aI cI a_search_factors 120 z.2.2.1, aI cI a_search_weights 32 z.2.2.2.1, aI cI a_search_row 3 z.2.2.2.2.1, aI cI a_search_lengths 8 z.2.2.2.2.2.1, aI cI a_search_signs 24 z.2.2.2.2.2.2.1] := by
  refine ct_ofI (own := RX8) (by decide +kernel) rfl (Nat.le_of_ble_eq_true rfl) (fun X C hD hR => ?_)
  unfold sX8_wants at hs
  show gg cI X 4 0 0 [oX8 h a_letters f_length a_board a_draft a_scene a_trial a_past a_kept a_seen a_reader a_search a_deal a_line, oX0 a_board a_board_commons a_board_lengths a_board_parts a_board_likenesses f_board_wordCount f_board_likenessCount f_board_actorCount f_board_forbiddenBits f_board_habitTold f_board_priceTold, aI cI a_board_commons 8 f_board_commons, aI cI a_board_lengths 8 f_board_lengths, aI cI a_board_parts 8 f_board_parts, aI cI a_board_likenesses 6 f_board_likenesses, oX4 a_scene a_scene_cells, aI cI a_scene_cells 55 f_scene_cells, oX5 a_search a_search_free a_search_factors a_search_weights a_search_row a_search_lengths a_search_signs f_search_words f_search_freeCount f_search_open, aI cI a_search_free 15 f_search_free, aI cI a_search_factors 120 f_search_factors, aI cI a_search_weights 32 f_search_weights, aI cI a_search_row 3 f_search_row, aI cI a_search_lengths 8 f_search_lengths, aI cI a_search_signs 24 f_search_signs] [(0, .ref h), (1, .int x1)] 0 []
  refine g_aload_n (pl := 0) C dX8_wants_0 rfl rfl ?_
  refine g_iload_n (pl := 1) C dX8_wants_1 rfl rfl ?_
  obtain ⟨z8, e_z8, hs⟩ := vb_ok hs
  refine g_callV (ws' := [oX8 h a_letters f_length a_board a_draft a_scene a_trial a_past a_kept a_seen a_reader a_search a_deal a_line, oX0 a_board a_board_commons a_board_lengths a_board_parts a_board_likenesses f_board_wordCount f_board_likenessCount f_board_actorCount f_board_forbiddenBits f_board_habitTold f_board_priceTold, aI cI a_board_commons 8 f_board_commons, aI cI a_board_lengths 8 f_board_lengths, aI cI a_board_parts 8 f_board_parts, aI cI a_board_likenesses 6 f_board_likenesses, oX4 a_scene a_scene_cells, aI cI a_scene_cells 55 f_scene_cells, oX5 a_search a_search_free a_search_factors a_search_weights a_search_row a_search_lengths a_search_signs f_search_words f_search_freeCount f_search_open, aI cI a_search_free 15 f_search_free, aI cI a_search_factors 120 f_search_factors, aI cI a_search_weights 32 f_search_weights, aI cI a_search_row 3 f_search_row, aI cI a_search_lengths 8 f_search_lengths, aI cI a_search_signs 24 f_search_signs]) (rest := []) (st' := [.int z8]) C mX8_146 q2_228 [.int x1] (fun l D => cX8_isActor_ct l D cI h a_letters a_board a_draft a_scene a_trial a_past a_kept a_seen a_reader a_search a_deal a_line a_board_commons a_board_lengths a_board_parts a_board_likenesses f_length f_board_wordCount f_board_likenessCount f_board_actorCount f_board_forbiddenBits f_board_habitTold f_board_priceTold x1 e_z8) ⟨⟨rfl, rfl⟩, Nat.le_of_ble_eq_true rfl, Nat.le_of_ble_eq_true rfl⟩ 0 rfl rfl rfl [0, 1] rfl rfl rfl rfl rfl (Nat.le_of_ble_eq_true rfl) (Nat.zero_le _) (Nat.zero_le _) rfl dX8_wants_2 ?_
  refine g_if_ne (tgt := 10) C dX8_wants_5 (by decide) (fun c9 => ?_) (fun c9 => ?_)
  · replace hs := vi_f hs c9
    refine g_aload_n (pl := 0) C dX8_wants_10 rfl rfl ?_
    refine g_get C fX8_26 0 rfl rfl dX8_wants_11 ?_
    refine g_iload_n (pl := 1) C dX8_wants_14 rfl rfl ?_
    obtain ⟨z10, e_z10, hs⟩ := vb_ok hs
    refine g_callV (ws' := [oX8 h a_letters f_length a_board a_draft a_scene a_trial a_past a_kept a_seen a_reader a_search a_deal a_line, oX0 a_board a_board_commons a_board_lengths a_board_parts a_board_likenesses f_board_wordCount f_board_likenessCount f_board_actorCount f_board_forbiddenBits f_board_habitTold f_board_priceTold, aI cI a_board_commons 8 f_board_commons, aI cI a_board_lengths 8 f_board_lengths, aI cI a_board_parts 8 f_board_parts, aI cI a_board_likenesses 6 f_board_likenesses, oX4 a_scene a_scene_cells, aI cI a_scene_cells 55 f_scene_cells, oX5 a_search a_search_free a_search_factors a_search_weights a_search_row a_search_lengths a_search_signs f_search_words f_search_freeCount f_search_open, aI cI a_search_free 15 f_search_free, aI cI a_search_factors 120 f_search_factors, aI cI a_search_weights 32 f_search_weights, aI cI a_search_row 3 f_search_row, aI cI a_search_lengths 8 f_search_lengths, aI cI a_search_signs 24 f_search_signs]) (rest := []) (st' := [.int z10]) C mX8_165 q3_13 [.int x1] (fun l D => cX4_waits_ct l D cI a_scene a_scene_cells f_scene_cells x1 e_z10) ⟨⟨rfl, rfl⟩, Nat.le_of_ble_eq_true rfl, Nat.le_of_ble_eq_true rfl⟩ 6 rfl rfl rfl [6, 7] rfl rfl rfl rfl rfl (Nat.le_of_ble_eq_true rfl) (Nat.zero_le _) (Nat.zero_le _) rfl dX8_wants_15 ?_
    refine g_if_ne (tgt := 24) C dX8_wants_18 (by decide) (fun c11 => ?_) (fun c11 => ?_)
    · replace hs := vi_f hs c11
      refine g_aload_n (pl := 0) C dX8_wants_24 rfl rfl ?_
      refine g_get C fX8_62 0 rfl rfl dX8_wants_25 ?_
      refine g_aload_n (pl := 0) C dX8_wants_28 rfl rfl ?_
      refine g_get C fX8_16 0 rfl rfl dX8_wants_29 ?_
      refine g_aload_n (pl := 0) C dX8_wants_32 rfl rfl ?_
      refine g_get C fX8_26 0 rfl rfl dX8_wants_33 ?_
      refine g_iload_n (pl := 1) C dX8_wants_36 rfl rfl ?_
      obtain ⟨z12, e_z12, hs⟩ := vb_ok hs
      refine g_callV (ws' := [oX8 h a_letters f_length a_board a_draft a_scene a_trial a_past a_kept a_seen a_reader a_search a_deal a_line, oX0 a_board a_board_commons a_board_lengths a_board_parts a_board_likenesses f_board_wordCount f_board_likenessCount f_board_actorCount f_board_forbiddenBits f_board_habitTold f_board_priceTold, aI cI a_board_commons 8 f_board_commons, aI cI a_board_lengths 8 f_board_lengths, aI cI a_board_parts 8 f_board_parts, aI cI a_board_likenesses 6 f_board_likenesses, oX4 a_scene a_scene_cells, aI cI a_scene_cells 55 f_scene_cells, oX5 a_search a_search_free a_search_factors a_search_weights a_search_row a_search_lengths a_search_signs z12.2.2.2.2.2.2.1 z12.2.2.2.2.2.2.2.1 z12.2.2.2.2.2.2.2.2, aI cI a_search_free 15 z12.1, aI cI a_search_factors 120 z12.2.1, aI cI a_search_weights 32 z12.2.2.1, aI cI a_search_row 3 z12.2.2.2.1, aI cI a_search_lengths 8 z12.2.2.2.2.1, aI cI a_search_signs 24 z12.2.2.2.2.2.1]) (rest := []) (st' := []) C mX8_197 q3_123 [.ref a_board, .ref a_scene, .int x1] (fun l D => cX5_run_ct l D cI a_search a_search_free a_search_factors a_search_weights a_search_row a_search_lengths a_search_signs a_board a_board_commons a_board_lengths a_board_parts a_board_likenesses a_scene a_scene_cells f_search_words f_search_freeCount f_search_open f_search_free f_search_factors f_search_weights f_search_row f_search_lengths f_search_signs f_board_wordCount f_board_likenessCount f_board_actorCount f_board_forbiddenBits f_board_habitTold f_board_priceTold f_board_commons f_board_lengths f_board_parts f_board_likenesses f_scene_cells x1 e_z12) ⟨⟨rfl, rfl⟩, Nat.le_of_ble_eq_true rfl, Nat.le_of_ble_eq_true rfl⟩ 8 rfl rfl rfl [8, 9, 10, 11, 12, 13, 14, 1, 2, 3, 4, 5, 6, 7] rfl rfl rfl (by simp only [setM, List.set_cons_zero, List.set_cons_succ]) rfl (Nat.le_of_ble_eq_true rfl) (Nat.zero_le _) (Nat.zero_le _) rfl dX8_wants_37 ?_
      refine g_iconst (v := (nI 0)) C dX8_wants_40 rfl ?_
      refine g_istore_n (lv' := [(2, .int (nI 0)), (0, .ref h), (1, .int x1)]) C dX8_wants_41 rfl (by decide) rfl ?_
      refine g_iconst (v := (nI 0)) C dX8_wants_42 rfl ?_
      refine g_istore_n (lv' := [(3, .int (nI 0)), (2, .int (nI 0)), (0, .ref h), (1, .int x1)]) C dX8_wants_43 rfl (by decide) rfl ?_
      refine g_sub [2, 1, 0] rfl ?_
      exact LX8_wants_44_w C h a_letters a_board a_draft a_scene a_trial a_past a_kept a_seen a_reader a_search a_deal a_line a_board_commons a_board_lengths a_board_parts a_board_likenesses a_scene_cells a_search_free a_search_factors a_search_weights a_search_row a_search_lengths a_search_signs f_length f_board_wordCount f_board_likenessCount f_board_actorCount f_board_forbiddenBits f_board_habitTold f_board_priceTold f_board_commons f_board_lengths f_board_parts f_board_likenesses f_scene_cells z12.2.2.2.2.2.2.1 z12.2.2.2.2.2.2.2.1 z12.2.2.2.2.2.2.2.2 z12.1 z12.2.1 z12.2.2.1 z12.2.2.2.1 z12.2.2.2.2.1 z12.2.2.2.2.2.1 hR _ (nI 0) (nI 0) hs
    · replace hs := vi_t hs c11
      refine g_bipush (v := (-2)) C dX8_wants_21 rfl ?_
      cases hs
      exact hR _ _ dX8_wants_23
  · replace hs := vi_t hs c9
    refine g_iconst (v := (-1)) C dX8_wants_8 rfl ?_
    cases hs
    exact hR _ _ dX8_wants_9
def LX8_chanceOf_5 (y_0 : Int32) (y_1 : Int32) (y_2 : Int32) : Nat → Int32 → Int32 → Option (Int32)
  | 0, _, _ => none
  | n + 1, y_3, y_4 =>
    vi (y_1 ≤ y_4) inferInstance (
      some (y_3)) (
      vi (((y_0 >>> (y_4 &&& 31)) &&& (nI 1)) = (nI 1)) inferInstance (
        vlet (y_3 * ((nI 10) - y_2)) fun y5 =>
        vlet (y_4 + (nI 1)) fun y6 =>
        LX8_chanceOf_5 y_0 y_1 y_2 n y5 y6) (
        vlet (y_3 * y_2) fun y3 =>
        vlet (y_4 + (nI 1)) fun y4 =>
        LX8_chanceOf_5 y_0 y_1 y_2 n y3 y4))
def sX8_chanceOf (x1 : Int32) (x2 : Int32) (x3 : Int32) : Option (Int32) :=
  LX8_chanceOf_5 x1 x2 x3 vF (nI 1) (nI 0)
abbrev rmX8_chanceOf : Room := { frames := 0, cells := 0, slots := 0, locals := 0 }
set_option maxHeartbeats 4000000 in
set_option maxRecDepth 100000 in
theorem LX8_chanceOf_5_w {cI : ClassId} {X : xT} (C : cx cI X 5 cX8_chanceOf RX8 rmX8_chanceOf) (y_0 : Int32) (y_1 : Int32) (y_2 : Int32) {z : Int32} (hR : ∀ (lv : List (Nat × Value)) (pc : Nat), decode cX8_chanceOf pc = .ok (.ireturn, 1) → gg cI X 5 0 0 [] lv pc [.int z]) : ∀ (n : Nat) (y_3 : Int32) (y_4 : Int32), LX8_chanceOf_5 y_0 y_1 y_2 n y_3 y_4 = some z → gg cI X 5 0 0 [] [(0, .int y_0), (1, .int y_1), (2, .int y_2), (3, .int y_3), (4, .int y_4)] 5 [] := by
  intro n
  induction n with
  | zero =>
    intro y_3 y_4 hs
    exact nn_ok hs
  | succ n ih =>
    intro y_3 y_4 hs
    rw [LX8_chanceOf_5] at hs
    refine g_iload (pl := 4) C dX8_chanceOf_5 rfl ?_
    refine g_iload_n (pl := 1) C dX8_chanceOf_7 rfl rfl ?_
    refine g_icmp_ge (tgt := 38) C dX8_chanceOf_8 (by decide) (fun c1 => ?_) (fun c1 => ?_)
    · replace hs := vi_t hs c1
      refine g_iload_n (pl := 3) C dX8_chanceOf_38 rfl rfl ?_
      cases hs
      exact hR _ _ dX8_chanceOf_39
    · replace hs := vi_f hs c1
      refine g_iload_n (pl := 3) C dX8_chanceOf_11 rfl rfl ?_
      refine g_iload_n (pl := 0) C dX8_chanceOf_12 rfl rfl ?_
      refine g_iload (pl := 4) C dX8_chanceOf_13 rfl ?_
      refine g_ishr C dX8_chanceOf_15 ?_
      refine g_iconst (v := (nI 1)) C dX8_chanceOf_16 rfl ?_
      refine g_iand C dX8_chanceOf_17 ?_
      refine g_iconst (v := (nI 1)) C dX8_chanceOf_18 rfl ?_
      refine g_icmp_ne (tgt := 29) C dX8_chanceOf_19 (by decide) (fun c2 => ?_) (fun c2 => ?_)
      · replace hs := vi_f hs c2
        refine g_iload_n (pl := 2) C dX8_chanceOf_29 rfl rfl ?_
        refine g_imul C dX8_chanceOf_30 ?_
        obtain ⟨y3, e_y3, hs⟩ := vlet_ex hs
        refine g_topi e_y3 ?_
        refine g_istore_n (lv' := [(3, .int y3), (0, .int y_0), (1, .int y_1), (2, .int y_2), (4, .int y_4)]) C dX8_chanceOf_31 rfl (by decide) rfl ?_
        obtain ⟨y4, e_y4, hs⟩ := vlet_ex hs
        refine g_iinc (pl := 4) (lv' := [(4, .int y4), (3, .int y3), (0, .int y_0), (1, .int y_1), (2, .int y_2)]) C dX8_chanceOf_32 rfl e_y4.symm (by decide) rfl ?_
        refine g_goto (tgt := 5) C dX8_chanceOf_35 (by decide) ?_
        refine g_sub [2, 3, 4, 1, 0] rfl ?_
        exact ih y3 y4 hs
      · replace hs := vi_t hs c2
        refine g_bipush (v := (nI 10)) C dX8_chanceOf_22 rfl ?_
        refine g_iload_n (pl := 2) C dX8_chanceOf_24 rfl rfl ?_
        refine g_isub C dX8_chanceOf_25 ?_
        refine g_goto (tgt := 30) C dX8_chanceOf_26 (by decide) ?_
        refine g_imul C dX8_chanceOf_30 ?_
        obtain ⟨y5, e_y5, hs⟩ := vlet_ex hs
        refine g_topi e_y5 ?_
        refine g_istore_n (lv' := [(3, .int y5), (0, .int y_0), (1, .int y_1), (2, .int y_2), (4, .int y_4)]) C dX8_chanceOf_31 rfl (by decide) rfl ?_
        obtain ⟨y6, e_y6, hs⟩ := vlet_ex hs
        refine g_iinc (pl := 4) (lv' := [(4, .int y6), (3, .int y5), (0, .int y_0), (1, .int y_1), (2, .int y_2)]) C dX8_chanceOf_32 rfl e_y6.symm (by decide) rfl ?_
        refine g_goto (tgt := 5) C dX8_chanceOf_35 (by decide) ?_
        refine g_sub [2, 3, 4, 1, 0] rfl ?_
        exact ih y5 y6 hs
set_option maxHeartbeats 4000000 in
set_option maxRecDepth 100000 in
theorem cX8_chanceOf_ct (l : Launch) (D : va_G) (cI : ClassId) (x1 : Int32) (x2 : Int32) (x3 : Int32) {z : Int32} (hs : sX8_chanceOf x1 x2 x3 = some z) : ct l yX8_chanceOf (.code yX8_chanceOf cX8_chanceOf 5 (some .int) :: gtb) rmX8_chanceOf D cI [.int x1, .int x2, .int x3] [] (some (.int z)) [] := by
  refine ct_ofI (own := RX8) (by decide +kernel) rfl (Nat.le_of_ble_eq_true rfl) (fun X C hD hR => ?_)
  unfold sX8_chanceOf at hs
  show gg cI X 5 0 0 [] [(0, .int x1), (1, .int x2), (2, .int x3)] 0 []
  refine g_iconst (v := (nI 1)) C dX8_chanceOf_0 rfl ?_
  refine g_istore_n (lv' := [(3, .int (nI 1)), (0, .int x1), (1, .int x2), (2, .int x3)]) C dX8_chanceOf_1 rfl (by decide) rfl ?_
  refine g_iconst (v := (nI 0)) C dX8_chanceOf_2 rfl ?_
  refine g_istore (lv' := [(4, .int (nI 0)), (3, .int (nI 1)), (0, .int x1), (1, .int x2), (2, .int x3)]) C dX8_chanceOf_3 (by decide) rfl ?_
  refine g_sub [2, 3, 4, 1, 0] rfl ?_
  exact LX8_chanceOf_5_w C x1 x2 x3 hR _ (nI 1) (nI 0) hs
def LX8_commonDivisor_7 : Nat → Int32 → Int32 → Int32 → Option (Int32)
  | 0, _, _, _ => none
  | n + 1, y_2, y_3, y_4 =>
    vi ((nI 64) ≤ y_4) inferInstance (
      some (y_2)) (
      vi (y_3 = 0) inferInstance (
        some (y_2)) (
        vg (decide (¬ y_3 = 0)) (
        vlet (y_2 - y_2 / y_3 * y_3) fun y4 =>
        vlet (y_4 + (nI 1)) fun y5 =>
        LX8_commonDivisor_7 n y_3 y4 y5)))
def sX8_commonDivisor (x1 : Int32) (x2 : Int32) : Option (Int32) :=
  LX8_commonDivisor_7 vF x1 x2 (nI 0)
abbrev rmX8_commonDivisor : Room := { frames := 0, cells := 0, slots := 0, locals := 0 }
set_option maxHeartbeats 4000000 in
set_option maxRecDepth 100000 in
theorem LX8_commonDivisor_7_w {cI : ClassId} {X : xT} (C : cx cI X 6 cX8_commonDivisor RX8 rmX8_commonDivisor)  {z : Int32} (hR : ∀ (lv : List (Nat × Value)) (pc : Nat), decode cX8_commonDivisor pc = .ok (.ireturn, 1) → gg cI X 6 0 0 [] lv pc [.int z]) : ∀ (n : Nat) (y_2 : Int32) (y_3 : Int32) (y_4 : Int32), LX8_commonDivisor_7 n y_2 y_3 y_4 = some z → gg cI X 6 0 0 [] [(2, .int y_2), (3, .int y_3), (4, .int y_4)] 7 [] := by
  intro n
  induction n with
  | zero =>
    intro y_2 y_3 y_4 hs
    exact nn_ok hs
  | succ n ih =>
    intro y_2 y_3 y_4 hs
    rw [LX8_commonDivisor_7] at hs
    refine g_iload (pl := 2) C dX8_commonDivisor_7 rfl ?_
    refine g_bipush (v := (nI 64)) C dX8_commonDivisor_9 rfl ?_
    refine g_icmp_ge (tgt := 34) C dX8_commonDivisor_11 (by decide) (fun c1 => ?_) (fun c1 => ?_)
    · replace hs := vi_t hs c1
      refine g_iload_n (pl := 0) C dX8_commonDivisor_34 rfl rfl ?_
      cases hs
      exact hR _ _ dX8_commonDivisor_35
    · replace hs := vi_f hs c1
      refine g_iload_n (pl := 1) C dX8_commonDivisor_14 rfl rfl ?_
      refine g_if_eq (tgt := 34) C dX8_commonDivisor_15 (by decide) (fun c2 => ?_) (fun c2 => ?_)
      · replace hs := vi_t hs c2
        refine g_iload_n (pl := 0) C dX8_commonDivisor_34 rfl rfl ?_
        cases hs
        exact hR _ _ dX8_commonDivisor_35
      · replace hs := vi_f hs c2
        refine g_iload_n (pl := 0) C dX8_commonDivisor_18 rfl rfl ?_
        refine g_iload_n (pl := 1) C dX8_commonDivisor_19 rfl rfl ?_
        obtain ⟨b3, hs⟩ := vg_ok hs
        refine g_irem C dX8_commonDivisor_20 (of_decide_eq_true b3) ?_
        obtain ⟨y4, e_y4, hs⟩ := vlet_ex hs
        refine g_topi e_y4 ?_
        refine g_istore (lv' := [(5, .int y4), (2, .int y_2), (3, .int y_3), (4, .int y_4)]) C dX8_commonDivisor_21 (by decide) rfl ?_
        refine g_iload_n (pl := 2) C dX8_commonDivisor_23 rfl rfl ?_
        refine g_istore_n (lv' := [(2, .int y_3), (5, .int y4), (3, .int y_3), (4, .int y_4)]) C dX8_commonDivisor_24 rfl (by decide) rfl ?_
        refine g_iload (pl := 1) C dX8_commonDivisor_25 rfl ?_
        refine g_istore_n (lv' := [(3, .int y4), (2, .int y_3), (5, .int y4), (4, .int y_4)]) C dX8_commonDivisor_27 rfl (by decide) rfl ?_
        obtain ⟨y5, e_y5, hs⟩ := vlet_ex hs
        refine g_iinc (pl := 3) (lv' := [(4, .int y5), (3, .int y4), (2, .int y_3), (5, .int y4)]) C dX8_commonDivisor_28 rfl e_y5.symm (by decide) rfl ?_
        refine g_goto (tgt := 7) C dX8_commonDivisor_31 (by decide) ?_
        refine g_sub [2, 1, 0] rfl ?_
        exact ih y_3 y4 y5 hs
set_option maxHeartbeats 4000000 in
set_option maxRecDepth 100000 in
theorem cX8_commonDivisor_ct (l : Launch) (D : va_G) (cI : ClassId) (x1 : Int32) (x2 : Int32) {z : Int32} (hs : sX8_commonDivisor x1 x2 = some z) : ct l yX8_commonDivisor (.code yX8_commonDivisor cX8_commonDivisor 6 (some .int) :: gtb) rmX8_commonDivisor D cI [.int x1, .int x2] [] (some (.int z)) [] := by
  refine ct_ofI (own := RX8) (by decide +kernel) rfl (Nat.le_of_ble_eq_true rfl) (fun X C hD hR => ?_)
  unfold sX8_commonDivisor at hs
  show gg cI X 6 0 0 [] [(0, .int x1), (1, .int x2)] 0 []
  refine g_iload_n (pl := 0) C dX8_commonDivisor_0 rfl rfl ?_
  refine g_istore_n (lv' := [(2, .int x1), (0, .int x1), (1, .int x2)]) C dX8_commonDivisor_1 rfl (by decide) rfl ?_
  refine g_iload_n (pl := 2) C dX8_commonDivisor_2 rfl rfl ?_
  refine g_istore_n (lv' := [(3, .int x2), (2, .int x1), (0, .int x1), (1, .int x2)]) C dX8_commonDivisor_3 rfl (by decide) rfl ?_
  refine g_iconst (v := (nI 0)) C dX8_commonDivisor_4 rfl ?_
  refine g_istore (lv' := [(4, .int (nI 0)), (3, .int x2), (2, .int x1), (0, .int x1), (1, .int x2)]) C dX8_commonDivisor_5 (by decide) rfl ?_
  refine g_sub [2, 1, 0] rfl ?_
  exact LX8_commonDivisor_7_w C hR _ x1 x2 (nI 0) hs
def LX8_missed_86 (y_1 : Int32) (y_2 : Int32) (y_3 : Int32) (y_4 : Int32) (y_6 : Int32) (f_board_commons : Nat → Int32) (f_board_lengths : Nat → Int32) (f_board_parts : Nat → Int32) (f_board_likenesses : Nat → Int32) (f_board_wordCount : Int32) (f_board_habitTold : Int32) (f_scene_cells : Nat → Int32) : Nat → Int32 → Int32 → Option (Int32)
  | 0, _, _ => none
  | n + 1, y_5, y_7 =>
    vi (((nI 1) <<< (y_4 &&& 31)) ≤ y_7) inferInstance (
      vb (sX8_commonDivisor y_6 y_5) fun z2 =>
      vi ((nI 1) ≤ z2) inferInstance (
        vi (y_3 = 0) inferInstance (
          vg (decide (¬ z2 = 0)) (
          some (y_5 / z2))) (
          vg (decide (¬ z2 = 0)) (
          some (y_6 / z2)))) (
        some ((-4)))) (
      vb (sX0_habit f_board_habitTold) fun z7 =>
      vb (sX0_heaviest f_board_commons f_board_lengths f_board_parts f_board_likenesses f_board_wordCount f_scene_cells y_1 y_7 z7) fun z8 =>
      vb (sX4_cell f_scene_cells y_1 (nI 1)) fun z9 =>
      vi (z8 = z9) inferInstance (
        vb (sX8_chanceOf y_7 y_4 y_2) fun z12 =>
        vlet (y_5 + z12) fun y13 =>
        vlet (y_7 + (nI 1)) fun y14 =>
        LX8_missed_86 y_1 y_2 y_3 y_4 y_6 f_board_commons f_board_lengths f_board_parts f_board_likenesses f_board_wordCount f_board_habitTold f_scene_cells n y13 y14) (
        vlet (y_7 + (nI 1)) fun y11 =>
        LX8_missed_86 y_1 y_2 y_3 y_4 y_6 f_board_commons f_board_lengths f_board_parts f_board_likenesses f_board_wordCount f_board_habitTold f_scene_cells n y_5 y11))
def LX8_missed_63 (y_1 : Int32) (y_2 : Int32) (y_3 : Int32) (y_4 : Int32) (y_5 : Int32) (f_board_commons : Nat → Int32) (f_board_lengths : Nat → Int32) (f_board_parts : Nat → Int32) (f_board_likenesses : Nat → Int32) (f_board_wordCount : Int32) (f_board_habitTold : Int32) (f_scene_cells : Nat → Int32) : Nat → Int32 → Int32 → Option (Int32)
  | 0, _, _ => none
  | n + 1, y_6, y_7 =>
    vi (y_4 ≤ y_7) inferInstance (
      LX8_missed_86 y_1 y_2 y_3 y_4 y_6 f_board_commons f_board_lengths f_board_parts f_board_likenesses f_board_wordCount f_board_habitTold f_scene_cells vF y_5 (nI 0)) (
      vlet (y_6 * (nI 10)) fun y16 =>
      vlet (y_7 + (nI 1)) fun y17 =>
      LX8_missed_63 y_1 y_2 y_3 y_4 y_5 f_board_commons f_board_lengths f_board_parts f_board_likenesses f_board_wordCount f_board_habitTold f_scene_cells n y16 y17)
def sX8_missed (f_board_commons : Nat → Int32) (f_board_lengths : Nat → Int32) (f_board_parts : Nat → Int32) (f_board_likenesses : Nat → Int32) (f_board_wordCount : Int32) (f_board_actorCount : Int32) (f_board_habitTold : Int32) (f_scene_cells : Nat → Int32) (x1 : Int32) (x2 : Int32) (x3 : Int32) : Option (Int32) :=
  vb (sX8_isActor f_board_actorCount x1) fun z18 =>
  vi (z18 = 0) inferInstance (
    some ((-1))) (
    vi (x2 < 0) inferInstance (
      some ((-1))) (
      vi ((nI 10) < x2) inferInstance (
        some ((-1))) (
        vi (x3 < 0) inferInstance (
          some ((-1))) (
          vi (x3 ≤ (nI 1)) inferInstance (
            vb (sX4_waits f_scene_cells x1) fun z24 =>
            vi (z24 = 0) inferInstance (
              some ((-2))) (
              vb (sX4_cell f_scene_cells x1 (nI 3)) fun z26 =>
              LX8_missed_63 x1 x2 x3 z26 (nI 0) f_board_commons f_board_lengths f_board_parts f_board_likenesses f_board_wordCount f_board_habitTold f_scene_cells vF (nI 1) (nI 0))) (
            some ((-1)))))))
abbrev rmX8_missed : Room := { frames := 4, cells := 0, slots := 0, locals := 102 }
set_option maxHeartbeats 4000000 in
set_option maxRecDepth 100000 in
theorem LX8_missed_86_w {cI : ClassId} {X : xT} (C : cx cI X 8 cX8_missed RX8 rmX8_missed) (h : Nat) (a_letters : Nat) (a_board : Nat) (a_draft : Nat) (a_scene : Nat) (a_trial : Nat) (a_past : Nat) (a_kept : Nat) (a_seen : Nat) (a_reader : Nat) (a_search : Nat) (a_deal : Nat) (a_line : Nat) (a_board_commons : Nat) (a_board_lengths : Nat) (a_board_parts : Nat) (a_board_likenesses : Nat) (a_scene_cells : Nat) (f_length : Int32) (f_board_wordCount : Int32) (f_board_likenessCount : Int32) (f_board_actorCount : Int32) (f_board_forbiddenBits : Int32) (f_board_habitTold : Int32) (f_board_priceTold : Int32) (f_board_commons : Nat → Int32) (f_board_lengths : Nat → Int32) (f_board_parts : Nat → Int32) (f_board_likenesses : Nat → Int32) (f_scene_cells : Nat → Int32) (y_1 : Int32) (y_2 : Int32) (y_3 : Int32) (y_4 : Int32) (y_6 : Int32) {z : Int32} (hR : ∀ (lv : List (Nat × Value)) (pc : Nat), decode cX8_missed pc = .ok (.ireturn, 1) → gg cI X 8 0 0 [oX8 h a_letters f_length a_board a_draft a_scene a_trial a_past a_kept a_seen a_reader a_search a_deal a_line, oX0 a_board a_board_commons a_board_lengths a_board_parts a_board_likenesses f_board_wordCount f_board_likenessCount f_board_actorCount f_board_forbiddenBits f_board_habitTold f_board_priceTold, aI cI a_board_commons 8 f_board_commons, aI cI a_board_lengths 8 f_board_lengths, aI cI a_board_parts 8 f_board_parts, aI cI a_board_likenesses 6 f_board_likenesses, oX4 a_scene a_scene_cells, aI cI a_scene_cells 55 f_scene_cells] lv pc [.int z]) : ∀ (n : Nat) (y_5 : Int32) (y_7 : Int32), LX8_missed_86 y_1 y_2 y_3 y_4 y_6 f_board_commons f_board_lengths f_board_parts f_board_likenesses f_board_wordCount f_board_habitTold f_scene_cells n y_5 y_7 = some z → gg cI X 8 0 0 [oX8 h a_letters f_length a_board a_draft a_scene a_trial a_past a_kept a_seen a_reader a_search a_deal a_line, oX0 a_board a_board_commons a_board_lengths a_board_parts a_board_likenesses f_board_wordCount f_board_likenessCount f_board_actorCount f_board_forbiddenBits f_board_habitTold f_board_priceTold, aI cI a_board_commons 8 f_board_commons, aI cI a_board_lengths 8 f_board_lengths, aI cI a_board_parts 8 f_board_parts, aI cI a_board_likenesses 6 f_board_likenesses, oX4 a_scene a_scene_cells, aI cI a_scene_cells 55 f_scene_cells] [(0, .ref h), (1, .int y_1), (2, .int y_2), (3, .int y_3), (4, .int y_4), (5, .int y_5), (6, .int y_6), (7, .int y_7)] 86 [] := by
  intro n
  induction n with
  | zero =>
    intro y_5 y_7 hs
    exact nn_ok hs
  | succ n ih =>
    intro y_5 y_7 hs
    rw [LX8_missed_86] at hs
    refine g_iload (pl := 7) C dX8_missed_86 rfl ?_
    refine g_iconst (v := (nI 1)) C dX8_missed_88 rfl ?_
    refine g_iload (pl := 4) C dX8_missed_89 rfl ?_
    refine g_ishl C dX8_missed_91 ?_
    refine g_icmp_ge (tgt := 147) C dX8_missed_92 (by decide) (fun c1 => ?_) (fun c1 => ?_)
    · replace hs := vi_t hs c1
      refine g_iload (pl := 6) C dX8_missed_147 rfl ?_
      refine g_iload (pl := 5) C dX8_missed_149 rfl ?_
      obtain ⟨z2, e_z2, hs⟩ := vb_ok hs
      refine g_callS (ws' := [oX8 h a_letters f_length a_board a_draft a_scene a_trial a_past a_kept a_seen a_reader a_search a_deal a_line, oX0 a_board a_board_commons a_board_lengths a_board_parts a_board_likenesses f_board_wordCount f_board_likenessCount f_board_actorCount f_board_forbiddenBits f_board_habitTold f_board_priceTold, aI cI a_board_commons 8 f_board_commons, aI cI a_board_lengths 8 f_board_lengths, aI cI a_board_parts 8 f_board_parts, aI cI a_board_likenesses 6 f_board_likenesses, oX4 a_scene a_scene_cells, aI cI a_scene_cells 55 f_scene_cells]) (rest := []) (st' := [.int z2]) C mX8_269 q4_59 [.int y_6, .int y_5] (fun l D => cX8_commonDivisor_ct l D cI y_6 y_5 e_z2) ⟨⟨rfl, rfl⟩, Nat.le_of_ble_eq_true rfl, Nat.le_of_ble_eq_true rfl⟩ rfl [] rfl rfl rfl rfl rfl (Nat.le_of_ble_eq_true rfl) (Nat.zero_le _) (Nat.zero_le _) rfl dX8_missed_151 ?_
      refine g_istore (lv' := [(7, .int z2), (0, .ref h), (1, .int y_1), (2, .int y_2), (3, .int y_3), (4, .int y_4), (5, .int y_5), (6, .int y_6)]) C dX8_missed_154 (by decide) rfl ?_
      refine g_iload (pl := 0) C dX8_missed_156 rfl ?_
      refine g_iconst (v := (nI 1)) C dX8_missed_158 rfl ?_
      refine g_icmp_ge (tgt := 165) C dX8_missed_159 (by decide) (fun c3 => ?_) (fun c3 => ?_)
      · replace hs := vi_t hs c3
        refine g_iload_n (pl := 4) C dX8_missed_165 rfl rfl ?_
        refine g_if_ne (tgt := 177) C dX8_missed_166 (by decide) (fun c4 => ?_) (fun c4 => ?_)
        · replace hs := vi_f hs c4
          refine g_iload (pl := 7) C dX8_missed_177 rfl ?_
          refine g_iload (pl := 0) C dX8_missed_179 rfl ?_
          obtain ⟨b5, hs⟩ := vg_ok hs
          refine g_idiv C dX8_missed_181 (of_decide_eq_true b5) ?_
          cases hs
          exact hR _ _ dX8_missed_182
        · replace hs := vi_t hs c4
          refine g_iload (pl := 6) C dX8_missed_169 rfl ?_
          refine g_iload (pl := 0) C dX8_missed_171 rfl ?_
          obtain ⟨b6, hs⟩ := vg_ok hs
          refine g_idiv C dX8_missed_173 (of_decide_eq_true b6) ?_
          refine g_goto (tgt := 182) C dX8_missed_174 (by decide) ?_
          cases hs
          exact hR _ _ dX8_missed_182
      · replace hs := vi_f hs c3
        refine g_bipush (v := (-4)) C dX8_missed_162 rfl ?_
        cases hs
        exact hR _ _ dX8_missed_164
    · replace hs := vi_f hs c1
      refine g_aload_n (pl := 0) C dX8_missed_95 rfl rfl ?_
      refine g_get C fX8_16 0 rfl rfl dX8_missed_96 ?_
      refine g_aload_n (pl := 0) C dX8_missed_99 rfl rfl ?_
      refine g_get C fX8_26 0 rfl rfl dX8_missed_100 ?_
      refine g_iload_n (pl := 1) C dX8_missed_103 rfl rfl ?_
      refine g_iload (pl := 7) C dX8_missed_104 rfl ?_
      refine g_aload_n (pl := 0) C dX8_missed_106 rfl rfl ?_
      refine g_get C fX8_16 0 rfl rfl dX8_missed_107 ?_
      obtain ⟨z7, e_z7, hs⟩ := vb_ok hs
      refine g_callV (ws' := [oX8 h a_letters f_length a_board a_draft a_scene a_trial a_past a_kept a_seen a_reader a_search a_deal a_line, oX0 a_board a_board_commons a_board_lengths a_board_parts a_board_likenesses f_board_wordCount f_board_likenessCount f_board_actorCount f_board_forbiddenBits f_board_habitTold f_board_priceTold, aI cI a_board_commons 8 f_board_commons, aI cI a_board_lengths 8 f_board_lengths, aI cI a_board_parts 8 f_board_parts, aI cI a_board_likenesses 6 f_board_likenesses, oX4 a_scene a_scene_cells, aI cI a_scene_cells 55 f_scene_cells]) (rest := [.int y_7, .int y_1, .ref a_scene, .ref a_board]) (st' := [.int z7, .int y_7, .int y_1, .ref a_scene, .ref a_board]) C mX8_186 q3_40 [] (fun l D => cX0_habit_ct l D cI a_board a_board_commons a_board_lengths a_board_parts a_board_likenesses f_board_wordCount f_board_likenessCount f_board_actorCount f_board_forbiddenBits f_board_habitTold f_board_priceTold e_z7) ⟨⟨rfl, rfl⟩, Nat.le_of_ble_eq_true rfl, Nat.le_of_ble_eq_true rfl⟩ 1 rfl rfl rfl [1] rfl rfl rfl rfl rfl (Nat.le_of_ble_eq_true rfl) (Nat.zero_le _) (Nat.zero_le _) rfl dX8_missed_110 ?_
      obtain ⟨z8, e_z8, hs⟩ := vb_ok hs
      refine g_callV (ws' := [oX8 h a_letters f_length a_board a_draft a_scene a_trial a_past a_kept a_seen a_reader a_search a_deal a_line, oX0 a_board a_board_commons a_board_lengths a_board_parts a_board_likenesses f_board_wordCount f_board_likenessCount f_board_actorCount f_board_forbiddenBits f_board_habitTold f_board_priceTold, aI cI a_board_commons 8 f_board_commons, aI cI a_board_lengths 8 f_board_lengths, aI cI a_board_parts 8 f_board_parts, aI cI a_board_likenesses 6 f_board_likenesses, oX4 a_scene a_scene_cells, aI cI a_scene_cells 55 f_scene_cells]) (rest := []) (st' := [.int z8]) C mX8_193 q3_44 [.ref a_scene, .int y_1, .int y_7, .int z7] (fun l D => cX0_heaviest_ct l D cI a_board a_board_commons a_board_lengths a_board_parts a_board_likenesses a_scene a_scene_cells f_board_wordCount f_board_likenessCount f_board_actorCount f_board_forbiddenBits f_board_habitTold f_board_priceTold f_board_commons f_board_lengths f_board_parts f_board_likenesses f_scene_cells y_1 y_7 z7 e_z8) ⟨⟨rfl, rfl⟩, Nat.le_of_ble_eq_true rfl, Nat.le_of_ble_eq_true rfl⟩ 1 rfl rfl rfl [1, 2, 3, 4, 5, 6, 7] rfl rfl rfl rfl rfl (Nat.le_of_ble_eq_true rfl) (Nat.zero_le _) (Nat.zero_le _) rfl dX8_missed_113 ?_
      refine g_aload_n (pl := 0) C dX8_missed_116 rfl rfl ?_
      refine g_get C fX8_26 0 rfl rfl dX8_missed_117 ?_
      refine g_iload_n (pl := 1) C dX8_missed_120 rfl rfl ?_
      refine g_iconst (v := (nI 1)) C dX8_missed_121 rfl ?_
      obtain ⟨z9, e_z9, hs⟩ := vb_ok hs
      refine g_callV (ws' := [oX8 h a_letters f_length a_board a_draft a_scene a_trial a_past a_kept a_seen a_reader a_search a_deal a_line, oX0 a_board a_board_commons a_board_lengths a_board_parts a_board_likenesses f_board_wordCount f_board_likenessCount f_board_actorCount f_board_forbiddenBits f_board_habitTold f_board_priceTold, aI cI a_board_commons 8 f_board_commons, aI cI a_board_lengths 8 f_board_lengths, aI cI a_board_parts 8 f_board_parts, aI cI a_board_likenesses 6 f_board_likenesses, oX4 a_scene a_scene_cells, aI cI a_scene_cells 55 f_scene_cells]) (rest := [.int z8]) (st' := [.int z9, .int z8]) C mX8_149 q2_232 [.int y_1, .int (nI 1)] (fun l D => cX4_cell_ct l D cI a_scene a_scene_cells f_scene_cells y_1 (nI 1) e_z9) ⟨⟨rfl, rfl⟩, Nat.le_of_ble_eq_true rfl, Nat.le_of_ble_eq_true rfl⟩ 6 rfl rfl rfl [6, 7] rfl rfl rfl rfl rfl (Nat.le_of_ble_eq_true rfl) (Nat.zero_le _) (Nat.zero_le _) rfl dX8_missed_122 ?_
      refine g_icmp_ne (tgt := 141) C dX8_missed_125 (by decide) (fun c10 => ?_) (fun c10 => ?_)
      · replace hs := vi_f hs c10
        obtain ⟨y11, e_y11, hs⟩ := vlet_ex hs
        refine g_iinc (pl := 7) (lv' := [(7, .int y11), (0, .ref h), (1, .int y_1), (2, .int y_2), (3, .int y_3), (4, .int y_4), (5, .int y_5), (6, .int y_6)]) C dX8_missed_141 rfl e_y11.symm (by decide) rfl ?_
        refine g_goto (tgt := 86) C dX8_missed_144 (by decide) ?_
        refine g_sub [1, 2, 3, 4, 5, 6, 7, 0] rfl ?_
        exact ih y_5 y11 hs
      · replace hs := vi_t hs c10
        refine g_iload (pl := 5) C dX8_missed_128 rfl ?_
        refine g_iload (pl := 7) C dX8_missed_130 rfl ?_
        refine g_iload (pl := 4) C dX8_missed_132 rfl ?_
        refine g_iload_n (pl := 2) C dX8_missed_134 rfl rfl ?_
        obtain ⟨z12, e_z12, hs⟩ := vb_ok hs
        refine g_callS (ws' := [oX8 h a_letters f_length a_board a_draft a_scene a_trial a_past a_kept a_seen a_reader a_search a_deal a_line, oX0 a_board a_board_commons a_board_lengths a_board_parts a_board_likenesses f_board_wordCount f_board_likenessCount f_board_actorCount f_board_forbiddenBits f_board_habitTold f_board_priceTold, aI cI a_board_commons 8 f_board_commons, aI cI a_board_lengths 8 f_board_lengths, aI cI a_board_parts 8 f_board_parts, aI cI a_board_likenesses 6 f_board_likenesses, oX4 a_scene a_scene_cells, aI cI a_scene_cells 55 f_scene_cells]) (rest := [.int y_5]) (st' := [.int z12, .int y_5]) C mX8_265 q4_56 [.int y_7, .int y_4, .int y_2] (fun l D => cX8_chanceOf_ct l D cI y_7 y_4 y_2 e_z12) ⟨⟨rfl, rfl⟩, Nat.le_of_ble_eq_true rfl, Nat.le_of_ble_eq_true rfl⟩ rfl [] rfl rfl rfl rfl rfl (Nat.le_of_ble_eq_true rfl) (Nat.zero_le _) (Nat.zero_le _) rfl dX8_missed_135 ?_
        refine g_iadd C dX8_missed_138 ?_
        obtain ⟨y13, e_y13, hs⟩ := vlet_ex hs
        refine g_topi e_y13 ?_
        refine g_istore (lv' := [(5, .int y13), (0, .ref h), (1, .int y_1), (2, .int y_2), (3, .int y_3), (4, .int y_4), (6, .int y_6), (7, .int y_7)]) C dX8_missed_139 (by decide) rfl ?_
        obtain ⟨y14, e_y14, hs⟩ := vlet_ex hs
        refine g_iinc (pl := 7) (lv' := [(7, .int y14), (5, .int y13), (0, .ref h), (1, .int y_1), (2, .int y_2), (3, .int y_3), (4, .int y_4), (6, .int y_6)]) C dX8_missed_141 rfl e_y14.symm (by decide) rfl ?_
        refine g_goto (tgt := 86) C dX8_missed_144 (by decide) ?_
        refine g_sub [2, 3, 4, 5, 6, 1, 7, 0] rfl ?_
        exact ih y13 y14 hs
set_option maxHeartbeats 4000000 in
set_option maxRecDepth 100000 in
theorem LX8_missed_63_w {cI : ClassId} {X : xT} (C : cx cI X 8 cX8_missed RX8 rmX8_missed) (h : Nat) (a_letters : Nat) (a_board : Nat) (a_draft : Nat) (a_scene : Nat) (a_trial : Nat) (a_past : Nat) (a_kept : Nat) (a_seen : Nat) (a_reader : Nat) (a_search : Nat) (a_deal : Nat) (a_line : Nat) (a_board_commons : Nat) (a_board_lengths : Nat) (a_board_parts : Nat) (a_board_likenesses : Nat) (a_scene_cells : Nat) (f_length : Int32) (f_board_wordCount : Int32) (f_board_likenessCount : Int32) (f_board_actorCount : Int32) (f_board_forbiddenBits : Int32) (f_board_habitTold : Int32) (f_board_priceTold : Int32) (f_board_commons : Nat → Int32) (f_board_lengths : Nat → Int32) (f_board_parts : Nat → Int32) (f_board_likenesses : Nat → Int32) (f_scene_cells : Nat → Int32) (y_1 : Int32) (y_2 : Int32) (y_3 : Int32) (y_4 : Int32) (y_5 : Int32) {z : Int32} (hR : ∀ (lv : List (Nat × Value)) (pc : Nat), decode cX8_missed pc = .ok (.ireturn, 1) → gg cI X 8 0 0 [oX8 h a_letters f_length a_board a_draft a_scene a_trial a_past a_kept a_seen a_reader a_search a_deal a_line, oX0 a_board a_board_commons a_board_lengths a_board_parts a_board_likenesses f_board_wordCount f_board_likenessCount f_board_actorCount f_board_forbiddenBits f_board_habitTold f_board_priceTold, aI cI a_board_commons 8 f_board_commons, aI cI a_board_lengths 8 f_board_lengths, aI cI a_board_parts 8 f_board_parts, aI cI a_board_likenesses 6 f_board_likenesses, oX4 a_scene a_scene_cells, aI cI a_scene_cells 55 f_scene_cells] lv pc [.int z]) : ∀ (n : Nat) (y_6 : Int32) (y_7 : Int32), LX8_missed_63 y_1 y_2 y_3 y_4 y_5 f_board_commons f_board_lengths f_board_parts f_board_likenesses f_board_wordCount f_board_habitTold f_scene_cells n y_6 y_7 = some z → gg cI X 8 0 0 [oX8 h a_letters f_length a_board a_draft a_scene a_trial a_past a_kept a_seen a_reader a_search a_deal a_line, oX0 a_board a_board_commons a_board_lengths a_board_parts a_board_likenesses f_board_wordCount f_board_likenessCount f_board_actorCount f_board_forbiddenBits f_board_habitTold f_board_priceTold, aI cI a_board_commons 8 f_board_commons, aI cI a_board_lengths 8 f_board_lengths, aI cI a_board_parts 8 f_board_parts, aI cI a_board_likenesses 6 f_board_likenesses, oX4 a_scene a_scene_cells, aI cI a_scene_cells 55 f_scene_cells] [(0, .ref h), (1, .int y_1), (2, .int y_2), (3, .int y_3), (4, .int y_4), (5, .int y_5), (6, .int y_6), (7, .int y_7)] 63 [] := by
  intro n
  induction n with
  | zero =>
    intro y_6 y_7 hs
    exact nn_ok hs
  | succ n ih =>
    intro y_6 y_7 hs
    rw [LX8_missed_63] at hs
    refine g_iload (pl := 7) C dX8_missed_63 rfl ?_
    refine g_iload (pl := 4) C dX8_missed_65 rfl ?_
    refine g_icmp_ge (tgt := 83) C dX8_missed_67 (by decide) (fun c15 => ?_) (fun c15 => ?_)
    · replace hs := vi_t hs c15
      refine g_iconst (v := (nI 0)) C dX8_missed_83 rfl ?_
      refine g_istore (lv' := [(7, .int (nI 0)), (0, .ref h), (1, .int y_1), (2, .int y_2), (3, .int y_3), (4, .int y_4), (5, .int y_5), (6, .int y_6)]) C dX8_missed_84 (by decide) rfl ?_
      refine g_sub [1, 2, 3, 4, 5, 6, 7, 0] rfl ?_
      exact LX8_missed_86_w C h a_letters a_board a_draft a_scene a_trial a_past a_kept a_seen a_reader a_search a_deal a_line a_board_commons a_board_lengths a_board_parts a_board_likenesses a_scene_cells f_length f_board_wordCount f_board_likenessCount f_board_actorCount f_board_forbiddenBits f_board_habitTold f_board_priceTold f_board_commons f_board_lengths f_board_parts f_board_likenesses f_scene_cells y_1 y_2 y_3 y_4 y_6 hR _ y_5 (nI 0) hs
    · replace hs := vi_f hs c15
      refine g_iload (pl := 6) C dX8_missed_70 rfl ?_
      refine g_bipush (v := (nI 10)) C dX8_missed_72 rfl ?_
      refine g_imul C dX8_missed_74 ?_
      obtain ⟨y16, e_y16, hs⟩ := vlet_ex hs
      refine g_topi e_y16 ?_
      refine g_istore (lv' := [(6, .int y16), (0, .ref h), (1, .int y_1), (2, .int y_2), (3, .int y_3), (4, .int y_4), (5, .int y_5), (7, .int y_7)]) C dX8_missed_75 (by decide) rfl ?_
      obtain ⟨y17, e_y17, hs⟩ := vlet_ex hs
      refine g_iinc (pl := 7) (lv' := [(7, .int y17), (6, .int y16), (0, .ref h), (1, .int y_1), (2, .int y_2), (3, .int y_3), (4, .int y_4), (5, .int y_5)]) C dX8_missed_77 rfl e_y17.symm (by decide) rfl ?_
      refine g_goto (tgt := 63) C dX8_missed_80 (by decide) ?_
      refine g_sub [2, 3, 4, 5, 6, 7, 1, 0] rfl ?_
      exact ih y16 y17 hs
set_option maxHeartbeats 4000000 in
set_option maxRecDepth 100000 in
theorem cX8_missed_ct (l : Launch) (D : va_G) (cI : ClassId) (h : Nat) (a_letters : Nat) (a_board : Nat) (a_draft : Nat) (a_scene : Nat) (a_trial : Nat) (a_past : Nat) (a_kept : Nat) (a_seen : Nat) (a_reader : Nat) (a_search : Nat) (a_deal : Nat) (a_line : Nat) (a_board_commons : Nat) (a_board_lengths : Nat) (a_board_parts : Nat) (a_board_likenesses : Nat) (a_scene_cells : Nat) (f_length : Int32) (f_board_wordCount : Int32) (f_board_likenessCount : Int32) (f_board_actorCount : Int32) (f_board_forbiddenBits : Int32) (f_board_habitTold : Int32) (f_board_priceTold : Int32) (f_board_commons : Nat → Int32) (f_board_lengths : Nat → Int32) (f_board_parts : Nat → Int32) (f_board_likenesses : Nat → Int32) (f_scene_cells : Nat → Int32) (x1 : Int32) (x2 : Int32) (x3 : Int32) {z : Int32} (hs : sX8_missed f_board_commons f_board_lengths f_board_parts f_board_likenesses f_board_wordCount f_board_actorCount f_board_habitTold f_scene_cells x1 x2 x3 = some z) : ct l yX8_missed (.code yX8_missed cX8_missed 8 (some .int) :: gtb) rmX8_missed D cI [.ref h, .int x1, .int x2, .int x3] [oX8 h a_letters f_length a_board a_draft a_scene a_trial a_past a_kept a_seen a_reader a_search a_deal a_line, oX0 a_board a_board_commons a_board_lengths a_board_parts a_board_likenesses f_board_wordCount f_board_likenessCount f_board_actorCount f_board_forbiddenBits f_board_habitTold f_board_priceTold, aI cI a_board_commons 8 f_board_commons, aI cI a_board_lengths 8 f_board_lengths, aI cI a_board_parts 8 f_board_parts, aI cI a_board_likenesses 6 f_board_likenesses, oX4 a_scene a_scene_cells, aI cI a_scene_cells 55 f_scene_cells] (some (.int z)) [oX8 h a_letters f_length a_board a_draft a_scene a_trial a_past a_kept a_seen a_reader a_search a_deal a_line, oX0 a_board a_board_commons a_board_lengths a_board_parts a_board_likenesses f_board_wordCount f_board_likenessCount f_board_actorCount f_board_forbiddenBits f_board_habitTold f_board_priceTold, aI cI a_board_commons 8 f_board_commons, aI cI a_board_lengths 8 f_board_lengths, aI cI a_board_parts 8 f_board_parts, aI cI a_board_likenesses 6 f_board_likenesses, oX4 a_scene a_scene_cells, aI cI a_scene_cells 55 f_scene_cells] := by
  refine ct_ofI (own := RX8) (by decide +kernel) rfl (Nat.le_of_ble_eq_true rfl) (fun X C hD hR => ?_)
  unfold sX8_missed at hs
  show gg cI X 8 0 0 [oX8 h a_letters f_length a_board a_draft a_scene a_trial a_past a_kept a_seen a_reader a_search a_deal a_line, oX0 a_board a_board_commons a_board_lengths a_board_parts a_board_likenesses f_board_wordCount f_board_likenessCount f_board_actorCount f_board_forbiddenBits f_board_habitTold f_board_priceTold, aI cI a_board_commons 8 f_board_commons, aI cI a_board_lengths 8 f_board_lengths, aI cI a_board_parts 8 f_board_parts, aI cI a_board_likenesses 6 f_board_likenesses, oX4 a_scene a_scene_cells, aI cI a_scene_cells 55 f_scene_cells] [(0, .ref h), (1, .int x1), (2, .int x2), (3, .int x3)] 0 []
  refine g_aload_n (pl := 0) C dX8_missed_0 rfl rfl ?_
  refine g_iload_n (pl := 1) C dX8_missed_1 rfl rfl ?_
  obtain ⟨z18, e_z18, hs⟩ := vb_ok hs
  refine g_callV (ws' := [oX8 h a_letters f_length a_board a_draft a_scene a_trial a_past a_kept a_seen a_reader a_search a_deal a_line, oX0 a_board a_board_commons a_board_lengths a_board_parts a_board_likenesses f_board_wordCount f_board_likenessCount f_board_actorCount f_board_forbiddenBits f_board_habitTold f_board_priceTold, aI cI a_board_commons 8 f_board_commons, aI cI a_board_lengths 8 f_board_lengths, aI cI a_board_parts 8 f_board_parts, aI cI a_board_likenesses 6 f_board_likenesses, oX4 a_scene a_scene_cells, aI cI a_scene_cells 55 f_scene_cells]) (rest := []) (st' := [.int z18]) C mX8_146 q2_228 [.int x1] (fun l D => cX8_isActor_ct l D cI h a_letters a_board a_draft a_scene a_trial a_past a_kept a_seen a_reader a_search a_deal a_line a_board_commons a_board_lengths a_board_parts a_board_likenesses f_length f_board_wordCount f_board_likenessCount f_board_actorCount f_board_forbiddenBits f_board_habitTold f_board_priceTold x1 e_z18) ⟨⟨rfl, rfl⟩, Nat.le_of_ble_eq_true rfl, Nat.le_of_ble_eq_true rfl⟩ 0 rfl rfl rfl [0, 1] rfl rfl rfl rfl rfl (Nat.le_of_ble_eq_true rfl) (Nat.zero_le _) (Nat.zero_le _) rfl dX8_missed_2 ?_
  refine g_if_eq (tgt := 27) C dX8_missed_5 (by decide) (fun c19 => ?_) (fun c19 => ?_)
  · replace hs := vi_t hs c19
    refine g_iconst (v := (-1)) C dX8_missed_27 rfl ?_
    cases hs
    exact hR _ _ dX8_missed_28
  · replace hs := vi_f hs c19
    refine g_iload_n (pl := 2) C dX8_missed_8 rfl rfl ?_
    refine g_if_lt (tgt := 27) C dX8_missed_9 (by decide) (fun c20 => ?_) (fun c20 => ?_)
    · replace hs := vi_t hs c20
      refine g_iconst (v := (-1)) C dX8_missed_27 rfl ?_
      cases hs
      exact hR _ _ dX8_missed_28
    · replace hs := vi_f hs c20
      refine g_iload_n (pl := 2) C dX8_missed_12 rfl rfl ?_
      refine g_bipush (v := (nI 10)) C dX8_missed_13 rfl ?_
      refine g_icmp_gt (tgt := 27) C dX8_missed_15 (by decide) (fun c21 => ?_) (fun c21 => ?_)
      · replace hs := vi_t hs c21
        refine g_iconst (v := (-1)) C dX8_missed_27 rfl ?_
        cases hs
        exact hR _ _ dX8_missed_28
      · replace hs := vi_f hs c21
        refine g_iload_n (pl := 3) C dX8_missed_18 rfl rfl ?_
        refine g_if_lt (tgt := 27) C dX8_missed_19 (by decide) (fun c22 => ?_) (fun c22 => ?_)
        · replace hs := vi_t hs c22
          refine g_iconst (v := (-1)) C dX8_missed_27 rfl ?_
          cases hs
          exact hR _ _ dX8_missed_28
        · replace hs := vi_f hs c22
          refine g_iload_n (pl := 3) C dX8_missed_22 rfl rfl ?_
          refine g_iconst (v := (nI 1)) C dX8_missed_23 rfl ?_
          refine g_icmp_le (tgt := 29) C dX8_missed_24 (by decide) (fun c23 => ?_) (fun c23 => ?_)
          · replace hs := vi_t hs c23
            refine g_aload_n (pl := 0) C dX8_missed_29 rfl rfl ?_
            refine g_get C fX8_26 0 rfl rfl dX8_missed_30 ?_
            refine g_iload_n (pl := 1) C dX8_missed_33 rfl rfl ?_
            obtain ⟨z24, e_z24, hs⟩ := vb_ok hs
            refine g_callV (ws' := [oX8 h a_letters f_length a_board a_draft a_scene a_trial a_past a_kept a_seen a_reader a_search a_deal a_line, oX0 a_board a_board_commons a_board_lengths a_board_parts a_board_likenesses f_board_wordCount f_board_likenessCount f_board_actorCount f_board_forbiddenBits f_board_habitTold f_board_priceTold, aI cI a_board_commons 8 f_board_commons, aI cI a_board_lengths 8 f_board_lengths, aI cI a_board_parts 8 f_board_parts, aI cI a_board_likenesses 6 f_board_likenesses, oX4 a_scene a_scene_cells, aI cI a_scene_cells 55 f_scene_cells]) (rest := []) (st' := [.int z24]) C mX8_165 q3_13 [.int x1] (fun l D => cX4_waits_ct l D cI a_scene a_scene_cells f_scene_cells x1 e_z24) ⟨⟨rfl, rfl⟩, Nat.le_of_ble_eq_true rfl, Nat.le_of_ble_eq_true rfl⟩ 6 rfl rfl rfl [6, 7] rfl rfl rfl rfl rfl (Nat.le_of_ble_eq_true rfl) (Nat.zero_le _) (Nat.zero_le _) rfl dX8_missed_34 ?_
            refine g_if_ne (tgt := 43) C dX8_missed_37 (by decide) (fun c25 => ?_) (fun c25 => ?_)
            · replace hs := vi_f hs c25
              refine g_aload_n (pl := 0) C dX8_missed_43 rfl rfl ?_
              refine g_get C fX8_26 0 rfl rfl dX8_missed_44 ?_
              refine g_iload_n (pl := 1) C dX8_missed_47 rfl rfl ?_
              refine g_iconst (v := (nI 3)) C dX8_missed_48 rfl ?_
              obtain ⟨z26, e_z26, hs⟩ := vb_ok hs
              refine g_callV (ws' := [oX8 h a_letters f_length a_board a_draft a_scene a_trial a_past a_kept a_seen a_reader a_search a_deal a_line, oX0 a_board a_board_commons a_board_lengths a_board_parts a_board_likenesses f_board_wordCount f_board_likenessCount f_board_actorCount f_board_forbiddenBits f_board_habitTold f_board_priceTold, aI cI a_board_commons 8 f_board_commons, aI cI a_board_lengths 8 f_board_lengths, aI cI a_board_parts 8 f_board_parts, aI cI a_board_likenesses 6 f_board_likenesses, oX4 a_scene a_scene_cells, aI cI a_scene_cells 55 f_scene_cells]) (rest := []) (st' := [.int z26]) C mX8_149 q2_232 [.int x1, .int (nI 3)] (fun l D => cX4_cell_ct l D cI a_scene a_scene_cells f_scene_cells x1 (nI 3) e_z26) ⟨⟨rfl, rfl⟩, Nat.le_of_ble_eq_true rfl, Nat.le_of_ble_eq_true rfl⟩ 6 rfl rfl rfl [6, 7] rfl rfl rfl rfl rfl (Nat.le_of_ble_eq_true rfl) (Nat.zero_le _) (Nat.zero_le _) rfl dX8_missed_49 ?_
              refine g_istore (lv' := [(4, .int z26), (0, .ref h), (1, .int x1), (2, .int x2), (3, .int x3)]) C dX8_missed_52 (by decide) rfl ?_
              refine g_iconst (v := (nI 0)) C dX8_missed_54 rfl ?_
              refine g_istore (lv' := [(5, .int (nI 0)), (4, .int z26), (0, .ref h), (1, .int x1), (2, .int x2), (3, .int x3)]) C dX8_missed_55 (by decide) rfl ?_
              refine g_iconst (v := (nI 1)) C dX8_missed_57 rfl ?_
              refine g_istore (lv' := [(6, .int (nI 1)), (5, .int (nI 0)), (4, .int z26), (0, .ref h), (1, .int x1), (2, .int x2), (3, .int x3)]) C dX8_missed_58 (by decide) rfl ?_
              refine g_iconst (v := (nI 0)) C dX8_missed_60 rfl ?_
              refine g_istore (lv' := [(7, .int (nI 0)), (6, .int (nI 1)), (5, .int (nI 0)), (4, .int z26), (0, .ref h), (1, .int x1), (2, .int x2), (3, .int x3)]) C dX8_missed_61 (by decide) rfl ?_
              refine g_sub [4, 5, 6, 7, 3, 2, 1, 0] rfl ?_
              exact LX8_missed_63_w C h a_letters a_board a_draft a_scene a_trial a_past a_kept a_seen a_reader a_search a_deal a_line a_board_commons a_board_lengths a_board_parts a_board_likenesses a_scene_cells f_length f_board_wordCount f_board_likenessCount f_board_actorCount f_board_forbiddenBits f_board_habitTold f_board_priceTold f_board_commons f_board_lengths f_board_parts f_board_likenesses f_scene_cells x1 x2 x3 z26 (nI 0) hR _ (nI 1) (nI 0) hs
            · replace hs := vi_t hs c25
              refine g_bipush (v := (-2)) C dX8_missed_40 rfl ?_
              cases hs
              exact hR _ _ dX8_missed_42
          · replace hs := vi_f hs c23
            refine g_iconst (v := (-1)) C dX8_missed_27 rfl ?_
            cases hs
            exact hR _ _ dX8_missed_28
def sX8_draw (x1 : Int32) (x2 : Int32) : Option (Int32) :=
  vlet ((((lN 7919) * (Int32.toInt64 x1)) + ((lN 6151) * (Int32.toInt64 x2))) + (lN 1)) fun y1 =>
  some (Int64.toInt32 (((y1 * y1) - (y1 * y1) / (lN 65521) * (lN 65521)) / (lN 2)))
abbrev rmX8_draw : Room := { frames := 0, cells := 0, slots := 0, locals := 0 }
set_option maxHeartbeats 4000000 in
set_option maxRecDepth 100000 in
theorem cX8_draw_ct (l : Launch) (D : va_G) (cI : ClassId) (x1 : Int32) (x2 : Int32) {z : Int32} (hs : sX8_draw x1 x2 = some z) : ct l yX8_draw (.code yX8_draw cX8_draw 4 (some .int) :: gtb) rmX8_draw D cI [.int x1, .int x2] [] (some (.int z)) [] := by
  refine ct_ofI (own := RX8) (by decide +kernel) rfl (Nat.le_of_ble_eq_true rfl) (fun X C hD hR => ?_)
  unfold sX8_draw at hs
  show gg cI X 4 0 0 [] [(0, .int x1), (1, .int x2)] 0 []
  refine g_ldc2 (v := (lN 7919)) C q4_67 dX8_draw_0 ?_
  refine g_iload_n (pl := 0) C dX8_draw_3 rfl rfl ?_
  refine g_i2l C dX8_draw_4 ?_
  refine g_lmul C dX8_draw_5 ?_
  refine g_ldc2 (v := (lN 6151)) C q4_68 dX8_draw_6 ?_
  refine g_iload_n (pl := 1) C dX8_draw_9 rfl rfl ?_
  refine g_i2l C dX8_draw_10 ?_
  refine g_lmul C dX8_draw_11 ?_
  refine g_ladd C dX8_draw_12 ?_
  refine g_lconst (v := (lN 1)) C dX8_draw_13 rfl ?_
  refine g_ladd C dX8_draw_14 ?_
  obtain ⟨y1, e_y1, hs⟩ := vlet_ex hs
  refine g_topl e_y1 ?_
  refine g_lstore_n (lv' := [(2, .long y1), (0, .int x1), (1, .int x2)]) C dX8_draw_15 rfl (by decide) rfl ?_
  refine g_lload_n (pl := 0) C dX8_draw_16 rfl rfl ?_
  refine g_lload_n (pl := 0) C dX8_draw_17 rfl rfl ?_
  refine g_lmul C dX8_draw_18 ?_
  refine g_ldc2 (v := (lN 65521)) C q4_69 dX8_draw_19 ?_
  refine g_lrem C dX8_draw_22 (by decide) ?_
  refine g_ldc2 (v := (lN 2)) C q4_70 dX8_draw_23 ?_
  refine g_ldiv C dX8_draw_26 (by decide) ?_
  refine g_l2i C dX8_draw_27 ?_
  cases hs
  exact hR _ _ dX8_draw_28
def sX8_playDraw (f_board_commons : Nat → Int32) (f_board_lengths : Nat → Int32) (f_board_parts : Nat → Int32) (f_board_likenesses : Nat → Int32) (f_board_wordCount : Int32) (f_board_likenessCount : Int32) (f_board_actorCount : Int32) (f_board_forbiddenBits : Int32) (f_board_habitTold : Int32) (f_board_priceTold : Int32) (f_trial_cells : Nat → Int32) (x1 : Int32) : Option ((Nat → Int32)) :=
  vb (sX0_actors f_board_actorCount) fun z1 =>
  vb (sX0_signs f_board_likenessCount) fun z2 =>
  vi (z1 < (nI 1)) inferInstance (
    some (f_trial_cells)) (
    vi ((nI 1) ≤ z2) inferInstance (
      vg (decide (¬ z1 = 0)) (
      vlet (x1 - x1 / z1 * z1) fun y6 =>
      vi (((x1 / (nI 256)) - (x1 / (nI 256)) / (nI 3) * (nI 3)) = 0) inferInstance (
        vb (sX4_waits f_trial_cells y6) fun z12 =>
        vi (z12 = 0) inferInstance (
          some (f_trial_cells)) (
          vb (sX8_guessWord f_board_commons f_board_lengths f_board_parts f_board_likenesses f_board_wordCount f_board_habitTold f_board_priceTold f_trial_cells y6) fun z14 =>
          some (z14.2))) (
        vb (sX4_canShow f_trial_cells y6) fun z8 =>
        vi (z8 = 0) inferInstance (
          some (f_trial_cells)) (
          vg (decide (¬ z2 = 0)) (
          vb (sX8_showSign f_board_forbiddenBits f_trial_cells y6 ((x1 / (nI 8)) - (x1 / (nI 8)) / z2 * z2)) fun z11 =>
          some (z11.2)))))) (
      some (f_trial_cells)))
abbrev rmX8_playDraw : Room := { frames := 5, cells := 0, slots := 0, locals := 125 }
set_option maxHeartbeats 4000000 in
set_option maxRecDepth 100000 in
theorem cX8_playDraw_ct (l : Launch) (D : va_G) (cI : ClassId) (h : Nat) (a_letters : Nat) (a_board : Nat) (a_draft : Nat) (a_scene : Nat) (a_trial : Nat) (a_past : Nat) (a_kept : Nat) (a_seen : Nat) (a_reader : Nat) (a_search : Nat) (a_deal : Nat) (a_line : Nat) (a_board_commons : Nat) (a_board_lengths : Nat) (a_board_parts : Nat) (a_board_likenesses : Nat) (a_trial_cells : Nat) (f_length : Int32) (f_board_wordCount : Int32) (f_board_likenessCount : Int32) (f_board_actorCount : Int32) (f_board_forbiddenBits : Int32) (f_board_habitTold : Int32) (f_board_priceTold : Int32) (f_board_commons : Nat → Int32) (f_board_lengths : Nat → Int32) (f_board_parts : Nat → Int32) (f_board_likenesses : Nat → Int32) (f_trial_cells : Nat → Int32) (x1 : Int32) {z : (Nat → Int32)} (hs : sX8_playDraw f_board_commons f_board_lengths f_board_parts f_board_likenesses f_board_wordCount f_board_likenessCount f_board_actorCount f_board_forbiddenBits f_board_habitTold f_board_priceTold f_trial_cells x1 = some z) : ct l yX8_playDraw (.code yX8_playDraw cX8_playDraw 5 none :: gtb) rmX8_playDraw D cI [.ref h, .int x1] [oX8 h a_letters f_length a_board a_draft a_scene a_trial a_past a_kept a_seen a_reader a_search a_deal a_line, oX0 a_board a_board_commons a_board_lengths a_board_parts a_board_likenesses f_board_wordCount f_board_likenessCount f_board_actorCount f_board_forbiddenBits f_board_habitTold f_board_priceTold, aI cI a_board_commons 8 f_board_commons, aI cI a_board_lengths 8 f_board_lengths, aI cI a_board_parts 8 f_board_parts, aI cI a_board_likenesses 6 f_board_likenesses, oX4 a_trial a_trial_cells, aI cI a_trial_cells 55 f_trial_cells] none [oX8 h a_letters f_length a_board a_draft a_scene a_trial a_past a_kept a_seen a_reader a_search a_deal a_line, oX0 a_board a_board_commons a_board_lengths a_board_parts a_board_likenesses f_board_wordCount f_board_likenessCount f_board_actorCount f_board_forbiddenBits f_board_habitTold f_board_priceTold, aI cI a_board_commons 8 f_board_commons, aI cI a_board_lengths 8 f_board_lengths, aI cI a_board_parts 8 f_board_parts, aI cI a_board_likenesses 6 f_board_likenesses, oX4 a_trial a_trial_cells, aI cI a_trial_cells 55 z] := by
  refine ct_ofV (own := RX8) (by decide +kernel) rfl (Nat.le_of_ble_eq_true rfl) (fun X C hD hR => ?_)
  unfold sX8_playDraw at hs
  show gg cI X 5 0 0 [oX8 h a_letters f_length a_board a_draft a_scene a_trial a_past a_kept a_seen a_reader a_search a_deal a_line, oX0 a_board a_board_commons a_board_lengths a_board_parts a_board_likenesses f_board_wordCount f_board_likenessCount f_board_actorCount f_board_forbiddenBits f_board_habitTold f_board_priceTold, aI cI a_board_commons 8 f_board_commons, aI cI a_board_lengths 8 f_board_lengths, aI cI a_board_parts 8 f_board_parts, aI cI a_board_likenesses 6 f_board_likenesses, oX4 a_trial a_trial_cells, aI cI a_trial_cells 55 f_trial_cells] [(0, .ref h), (1, .int x1)] 0 []
  refine g_aload_n (pl := 0) C dX8_playDraw_0 rfl rfl ?_
  refine g_get C fX8_16 0 rfl rfl dX8_playDraw_1 ?_
  obtain ⟨z1, e_z1, hs⟩ := vb_ok hs
  refine g_callV (ws' := [oX8 h a_letters f_length a_board a_draft a_scene a_trial a_past a_kept a_seen a_reader a_search a_deal a_line, oX0 a_board a_board_commons a_board_lengths a_board_parts a_board_likenesses f_board_wordCount f_board_likenessCount f_board_actorCount f_board_forbiddenBits f_board_habitTold f_board_priceTold, aI cI a_board_commons 8 f_board_commons, aI cI a_board_lengths 8 f_board_lengths, aI cI a_board_parts 8 f_board_parts, aI cI a_board_likenesses 6 f_board_likenesses, oX4 a_trial a_trial_cells, aI cI a_trial_cells 55 f_trial_cells]) (rest := []) (st' := [.int z1]) C mX8_111 q2_97 [] (fun l D => cX0_actors_ct l D cI a_board a_board_commons a_board_lengths a_board_parts a_board_likenesses f_board_wordCount f_board_likenessCount f_board_actorCount f_board_forbiddenBits f_board_habitTold f_board_priceTold e_z1) ⟨⟨rfl, rfl⟩, Nat.le_of_ble_eq_true rfl, Nat.le_of_ble_eq_true rfl⟩ 1 rfl rfl rfl [1] rfl rfl rfl rfl rfl (Nat.le_of_ble_eq_true rfl) (Nat.zero_le _) (Nat.zero_le _) rfl dX8_playDraw_4 ?_
  refine g_istore_n (lv' := [(2, .int z1), (0, .ref h), (1, .int x1)]) C dX8_playDraw_7 rfl (by decide) rfl ?_
  refine g_aload_n (pl := 1) C dX8_playDraw_8 rfl rfl ?_
  refine g_get C fX8_16 0 rfl rfl dX8_playDraw_9 ?_
  obtain ⟨z2, e_z2, hs⟩ := vb_ok hs
  refine g_callV (ws' := [oX8 h a_letters f_length a_board a_draft a_scene a_trial a_past a_kept a_seen a_reader a_search a_deal a_line, oX0 a_board a_board_commons a_board_lengths a_board_parts a_board_likenesses f_board_wordCount f_board_likenessCount f_board_actorCount f_board_forbiddenBits f_board_habitTold f_board_priceTold, aI cI a_board_commons 8 f_board_commons, aI cI a_board_lengths 8 f_board_lengths, aI cI a_board_parts 8 f_board_parts, aI cI a_board_likenesses 6 f_board_likenesses, oX4 a_trial a_trial_cells, aI cI a_trial_cells 55 f_trial_cells]) (rest := []) (st' := [.int z2]) C mX8_245 q2_216 [] (fun l D => cX0_signs_ct l D cI a_board a_board_commons a_board_lengths a_board_parts a_board_likenesses f_board_wordCount f_board_likenessCount f_board_actorCount f_board_forbiddenBits f_board_habitTold f_board_priceTold e_z2) ⟨⟨rfl, rfl⟩, Nat.le_of_ble_eq_true rfl, Nat.le_of_ble_eq_true rfl⟩ 1 rfl rfl rfl [1] rfl rfl rfl rfl rfl (Nat.le_of_ble_eq_true rfl) (Nat.zero_le _) (Nat.zero_le _) rfl dX8_playDraw_12 ?_
  refine g_istore_n (lv' := [(3, .int z2), (2, .int z1), (0, .ref h), (1, .int x1)]) C dX8_playDraw_15 rfl (by decide) rfl ?_
  refine g_iload_n (pl := 1) C dX8_playDraw_16 rfl rfl ?_
  refine g_iconst (v := (nI 1)) C dX8_playDraw_17 rfl ?_
  refine g_icmp_lt (tgt := 26) C dX8_playDraw_18 (by decide) (fun c3 => ?_) (fun c3 => ?_)
  · replace hs := vi_t hs c3
    cases hs
    exact hR _ _ dX8_playDraw_26
  · replace hs := vi_f hs c3
    refine g_iload_n (pl := 0) C dX8_playDraw_21 rfl rfl ?_
    refine g_iconst (v := (nI 1)) C dX8_playDraw_22 rfl ?_
    refine g_icmp_ge (tgt := 27) C dX8_playDraw_23 (by decide) (fun c4 => ?_) (fun c4 => ?_)
    · replace hs := vi_t hs c4
      refine g_iload_n (pl := 3) C dX8_playDraw_27 rfl rfl ?_
      refine g_iload_n (pl := 1) C dX8_playDraw_28 rfl rfl ?_
      obtain ⟨b5, hs⟩ := vg_ok hs
      refine g_irem C dX8_playDraw_29 (of_decide_eq_true b5) ?_
      obtain ⟨y6, e_y6, hs⟩ := vlet_ex hs
      refine g_topi e_y6 ?_
      refine g_istore (lv' := [(4, .int y6), (3, .int z2), (2, .int z1), (0, .ref h), (1, .int x1)]) C dX8_playDraw_30 (by decide) rfl ?_
      refine g_iload_n (pl := 4) C dX8_playDraw_32 rfl rfl ?_
      refine g_sipush (v := (nI 256)) C dX8_playDraw_33 rfl ?_
      refine g_idiv C dX8_playDraw_36 (by decide) ?_
      refine g_iconst (v := (nI 3)) C dX8_playDraw_37 rfl ?_
      refine g_irem C dX8_playDraw_38 (by decide) ?_
      refine g_if_ne (tgt := 68) C dX8_playDraw_39 (by decide) (fun c7 => ?_) (fun c7 => ?_)
      · replace hs := vi_f hs c7
        refine g_aload_n (pl := 3) C dX8_playDraw_68 rfl rfl ?_
        refine g_get C fX8_30 0 rfl rfl dX8_playDraw_69 ?_
        refine g_iload (pl := 0) C dX8_playDraw_72 rfl ?_
        obtain ⟨z8, e_z8, hs⟩ := vb_ok hs
        refine g_callV (ws' := [oX8 h a_letters f_length a_board a_draft a_scene a_trial a_past a_kept a_seen a_reader a_search a_deal a_line, oX0 a_board a_board_commons a_board_lengths a_board_parts a_board_likenesses f_board_wordCount f_board_likenessCount f_board_actorCount f_board_forbiddenBits f_board_habitTold f_board_priceTold, aI cI a_board_commons 8 f_board_commons, aI cI a_board_lengths 8 f_board_lengths, aI cI a_board_parts 8 f_board_parts, aI cI a_board_likenesses 6 f_board_likenesses, oX4 a_trial a_trial_cells, aI cI a_trial_cells 55 f_trial_cells]) (rest := []) (st' := [.int z8]) C mX8_155 q3_9 [.int y6] (fun l D => cX4_canShow_ct l D cI a_trial a_trial_cells f_trial_cells y6 e_z8) ⟨⟨rfl, rfl⟩, Nat.le_of_ble_eq_true rfl, Nat.le_of_ble_eq_true rfl⟩ 6 rfl rfl rfl [6, 7] rfl rfl rfl rfl rfl (Nat.le_of_ble_eq_true rfl) (Nat.zero_le _) (Nat.zero_le _) rfl dX8_playDraw_74 ?_
        refine g_if_eq (tgt := 97) C dX8_playDraw_77 (by decide) (fun c9 => ?_) (fun c9 => ?_)
        · replace hs := vi_t hs c9
          cases hs
          exact hR _ _ dX8_playDraw_97
        · replace hs := vi_f hs c9
          refine g_aload_n (pl := 3) C dX8_playDraw_80 rfl rfl ?_
          refine g_aload_n (pl := 3) C dX8_playDraw_81 rfl rfl ?_
          refine g_get C fX8_30 0 rfl rfl dX8_playDraw_82 ?_
          refine g_iload (pl := 0) C dX8_playDraw_85 rfl ?_
          refine g_iload_n (pl := 4) C dX8_playDraw_87 rfl rfl ?_
          refine g_bipush (v := (nI 8)) C dX8_playDraw_88 rfl ?_
          refine g_idiv C dX8_playDraw_90 (by decide) ?_
          refine g_iload_n (pl := 1) C dX8_playDraw_91 rfl rfl ?_
          obtain ⟨b10, hs⟩ := vg_ok hs
          refine g_irem C dX8_playDraw_92 (of_decide_eq_true b10) ?_
          obtain ⟨z11, e_z11, hs⟩ := vb_ok hs
          refine g_callV (ws' := [oX8 h a_letters f_length a_board a_draft a_scene a_trial a_past a_kept a_seen a_reader a_search a_deal a_line, oX0 a_board a_board_commons a_board_lengths a_board_parts a_board_likenesses f_board_wordCount f_board_likenessCount f_board_actorCount f_board_forbiddenBits f_board_habitTold f_board_priceTold, aI cI a_board_commons 8 f_board_commons, aI cI a_board_lengths 8 f_board_lengths, aI cI a_board_parts 8 f_board_parts, aI cI a_board_likenesses 6 f_board_likenesses, oX4 a_trial a_trial_cells, aI cI a_trial_cells 55 z11.2]) (rest := []) (st' := [.int z11.1]) C mX8_161 q3_22 [.ref a_trial, .int y6, .int ((x1 / (nI 8)) - (x1 / (nI 8)) / z2 * z2)] (fun l D => cX8_showSign_ct l D cI h a_letters a_board a_draft a_scene a_trial a_past a_kept a_seen a_reader a_search a_deal a_line a_board_commons a_board_lengths a_board_parts a_board_likenesses a_trial a_trial_cells f_length f_board_wordCount f_board_likenessCount f_board_actorCount f_board_forbiddenBits f_board_habitTold f_board_priceTold f_trial_cells y6 ((x1 / (nI 8)) - (x1 / (nI 8)) / z2 * z2) e_z11) ⟨⟨rfl, rfl⟩, Nat.le_of_ble_eq_true rfl, Nat.le_of_ble_eq_true rfl⟩ 0 rfl rfl rfl [0, 1, 6, 7] rfl rfl rfl rfl rfl (Nat.le_of_ble_eq_true rfl) (Nat.zero_le _) (Nat.zero_le _) rfl dX8_playDraw_93 ?_
          refine g_pop C dX8_playDraw_96 rfl ?_
          cases hs
          exact hR _ _ dX8_playDraw_97
      · replace hs := vi_t hs c7
        refine g_aload_n (pl := 3) C dX8_playDraw_42 rfl rfl ?_
        refine g_get C fX8_30 0 rfl rfl dX8_playDraw_43 ?_
        refine g_iload (pl := 0) C dX8_playDraw_46 rfl ?_
        obtain ⟨z12, e_z12, hs⟩ := vb_ok hs
        refine g_callV (ws' := [oX8 h a_letters f_length a_board a_draft a_scene a_trial a_past a_kept a_seen a_reader a_search a_deal a_line, oX0 a_board a_board_commons a_board_lengths a_board_parts a_board_likenesses f_board_wordCount f_board_likenessCount f_board_actorCount f_board_forbiddenBits f_board_habitTold f_board_priceTold, aI cI a_board_commons 8 f_board_commons, aI cI a_board_lengths 8 f_board_lengths, aI cI a_board_parts 8 f_board_parts, aI cI a_board_likenesses 6 f_board_likenesses, oX4 a_trial a_trial_cells, aI cI a_trial_cells 55 f_trial_cells]) (rest := []) (st' := [.int z12]) C mX8_165 q3_13 [.int y6] (fun l D => cX4_waits_ct l D cI a_trial a_trial_cells f_trial_cells y6 e_z12) ⟨⟨rfl, rfl⟩, Nat.le_of_ble_eq_true rfl, Nat.le_of_ble_eq_true rfl⟩ 6 rfl rfl rfl [6, 7] rfl rfl rfl rfl rfl (Nat.le_of_ble_eq_true rfl) (Nat.zero_le _) (Nat.zero_le _) rfl dX8_playDraw_48 ?_
        refine g_if_eq (tgt := 97) C dX8_playDraw_51 (by decide) (fun c13 => ?_) (fun c13 => ?_)
        · replace hs := vi_t hs c13
          cases hs
          exact hR _ _ dX8_playDraw_97
        · replace hs := vi_f hs c13
          refine g_aload_n (pl := 3) C dX8_playDraw_54 rfl rfl ?_
          refine g_aload_n (pl := 3) C dX8_playDraw_55 rfl rfl ?_
          refine g_get C fX8_30 0 rfl rfl dX8_playDraw_56 ?_
          refine g_iload (pl := 0) C dX8_playDraw_59 rfl ?_
          obtain ⟨z14, e_z14, hs⟩ := vb_ok hs
          refine g_callV (ws' := [oX8 h a_letters f_length a_board a_draft a_scene a_trial a_past a_kept a_seen a_reader a_search a_deal a_line, oX0 a_board a_board_commons a_board_lengths a_board_parts a_board_likenesses f_board_wordCount f_board_likenessCount f_board_actorCount f_board_forbiddenBits f_board_habitTold f_board_priceTold, aI cI a_board_commons 8 f_board_commons, aI cI a_board_lengths 8 f_board_lengths, aI cI a_board_parts 8 f_board_parts, aI cI a_board_likenesses 6 f_board_likenesses, oX4 a_trial a_trial_cells, aI cI a_trial_cells 55 z14.2]) (rest := []) (st' := [.int z14.1]) C mX8_168 q3_36 [.ref a_trial, .int y6] (fun l D => cX8_guessWord_ct l D cI h a_letters a_board a_draft a_scene a_trial a_past a_kept a_seen a_reader a_search a_deal a_line a_board_commons a_board_lengths a_board_parts a_board_likenesses a_trial a_trial_cells f_length f_board_wordCount f_board_likenessCount f_board_actorCount f_board_forbiddenBits f_board_habitTold f_board_priceTold f_board_commons f_board_lengths f_board_parts f_board_likenesses f_trial_cells y6 e_z14) ⟨⟨rfl, rfl⟩, Nat.le_of_ble_eq_true rfl, Nat.le_of_ble_eq_true rfl⟩ 0 rfl rfl rfl [0, 1, 2, 3, 4, 5, 6, 7] rfl rfl rfl rfl rfl (Nat.le_of_ble_eq_true rfl) (Nat.zero_le _) (Nat.zero_le _) rfl dX8_playDraw_61 ?_
          refine g_pop C dX8_playDraw_64 rfl ?_
          refine g_goto (tgt := 97) C dX8_playDraw_65 (by decide) ?_
          cases hs
          exact hR _ _ dX8_playDraw_97
    · replace hs := vi_f hs c4
      cases hs
      exact hR _ _ dX8_playDraw_26
def LX8_howMany_5 (y_2 : Int32) (f_board_actorCount : Int32) (f_p1_cells : Nat → Int32) : Nat → Int32 → Int32 → Option (Int32)
  | 0, _, _ => none
  | n + 1, y_3, y_4 =>
    vb (sX0_actors f_board_actorCount) fun z1 =>
    vi (z1 ≤ y_4) inferInstance (
      some (y_3)) (
      vb (sX4_cell f_p1_cells y_4 (nI 5)) fun z3 =>
      vi (z3 = y_2) inferInstance (
        vlet (y_3 + (nI 1)) fun y6 =>
        vlet (y_4 + (nI 1)) fun y7 =>
        LX8_howMany_5 y_2 f_board_actorCount f_p1_cells n y6 y7) (
        vlet (y_4 + (nI 1)) fun y5 =>
        LX8_howMany_5 y_2 f_board_actorCount f_p1_cells n y_3 y5))
def sX8_howMany (f_board_actorCount : Int32) (f_p1_cells : Nat → Int32) (x2 : Int32) : Option (Int32) :=
  LX8_howMany_5 x2 f_board_actorCount f_p1_cells vF (nI 0) (nI 0)
abbrev rmX8_howMany : Room := { frames := 1, cells := 0, slots := 0, locals := 23 }
set_option maxHeartbeats 4000000 in
set_option maxRecDepth 100000 in
theorem LX8_howMany_5_w {cI : ClassId} {X : xT} (C : cx cI X 5 cX8_howMany RX8 rmX8_howMany) (h : Nat) (a_letters : Nat) (a_board : Nat) (a_draft : Nat) (a_scene : Nat) (a_trial : Nat) (a_past : Nat) (a_kept : Nat) (a_seen : Nat) (a_reader : Nat) (a_search : Nat) (a_deal : Nat) (a_line : Nat) (a_board_commons : Nat) (a_board_lengths : Nat) (a_board_parts : Nat) (a_board_likenesses : Nat) (a_p1 : Nat) (a_p1_cells : Nat) (f_length : Int32) (f_board_wordCount : Int32) (f_board_likenessCount : Int32) (f_board_actorCount : Int32) (f_board_forbiddenBits : Int32) (f_board_habitTold : Int32) (f_board_priceTold : Int32) (f_p1_cells : Nat → Int32) (y_2 : Int32) {z : Int32} (hR : ∀ (lv : List (Nat × Value)) (pc : Nat), decode cX8_howMany pc = .ok (.ireturn, 1) → gg cI X 5 0 0 [oX8 h a_letters f_length a_board a_draft a_scene a_trial a_past a_kept a_seen a_reader a_search a_deal a_line, oX0 a_board a_board_commons a_board_lengths a_board_parts a_board_likenesses f_board_wordCount f_board_likenessCount f_board_actorCount f_board_forbiddenBits f_board_habitTold f_board_priceTold, oX4 a_p1 a_p1_cells, aI cI a_p1_cells 55 f_p1_cells] lv pc [.int z]) : ∀ (n : Nat) (y_3 : Int32) (y_4 : Int32), LX8_howMany_5 y_2 f_board_actorCount f_p1_cells n y_3 y_4 = some z → gg cI X 5 0 0 [oX8 h a_letters f_length a_board a_draft a_scene a_trial a_past a_kept a_seen a_reader a_search a_deal a_line, oX0 a_board a_board_commons a_board_lengths a_board_parts a_board_likenesses f_board_wordCount f_board_likenessCount f_board_actorCount f_board_forbiddenBits f_board_habitTold f_board_priceTold, oX4 a_p1 a_p1_cells, aI cI a_p1_cells 55 f_p1_cells] [(0, .ref h), (1, .ref a_p1), (2, .int y_2), (3, .int y_3), (4, .int y_4)] 5 [] := by
  intro n
  induction n with
  | zero =>
    intro y_3 y_4 hs
    exact nn_ok hs
  | succ n ih =>
    intro y_3 y_4 hs
    rw [LX8_howMany_5] at hs
    refine g_iload (pl := 4) C dX8_howMany_5 rfl ?_
    refine g_aload_n (pl := 0) C dX8_howMany_7 rfl rfl ?_
    refine g_get C fX8_16 0 rfl rfl dX8_howMany_8 ?_
    obtain ⟨z1, e_z1, hs⟩ := vb_ok hs
    refine g_callV (ws' := [oX8 h a_letters f_length a_board a_draft a_scene a_trial a_past a_kept a_seen a_reader a_search a_deal a_line, oX0 a_board a_board_commons a_board_lengths a_board_parts a_board_likenesses f_board_wordCount f_board_likenessCount f_board_actorCount f_board_forbiddenBits f_board_habitTold f_board_priceTold, oX4 a_p1 a_p1_cells, aI cI a_p1_cells 55 f_p1_cells]) (rest := [.int y_4]) (st' := [.int z1, .int y_4]) C mX8_111 q2_97 [] (fun l D => cX0_actors_ct l D cI a_board a_board_commons a_board_lengths a_board_parts a_board_likenesses f_board_wordCount f_board_likenessCount f_board_actorCount f_board_forbiddenBits f_board_habitTold f_board_priceTold e_z1) ⟨⟨rfl, rfl⟩, Nat.le_of_ble_eq_true rfl, Nat.le_of_ble_eq_true rfl⟩ 1 rfl rfl rfl [1] rfl rfl rfl rfl rfl (Nat.le_of_ble_eq_true rfl) (Nat.zero_le _) (Nat.zero_le _) rfl dX8_howMany_11 ?_
    refine g_icmp_ge (tgt := 37) C dX8_howMany_14 (by decide) (fun c2 => ?_) (fun c2 => ?_)
    · replace hs := vi_t hs c2
      refine g_iload_n (pl := 3) C dX8_howMany_37 rfl rfl ?_
      cases hs
      exact hR _ _ dX8_howMany_38
    · replace hs := vi_f hs c2
      refine g_aload_n (pl := 1) C dX8_howMany_17 rfl rfl ?_
      refine g_iload (pl := 4) C dX8_howMany_18 rfl ?_
      refine g_iconst (v := (nI 5)) C dX8_howMany_20 rfl ?_
      obtain ⟨z3, e_z3, hs⟩ := vb_ok hs
      refine g_callV (ws' := [oX8 h a_letters f_length a_board a_draft a_scene a_trial a_past a_kept a_seen a_reader a_search a_deal a_line, oX0 a_board a_board_commons a_board_lengths a_board_parts a_board_likenesses f_board_wordCount f_board_likenessCount f_board_actorCount f_board_forbiddenBits f_board_habitTold f_board_priceTold, oX4 a_p1 a_p1_cells, aI cI a_p1_cells 55 f_p1_cells]) (rest := []) (st' := [.int z3]) C mX8_149 q2_232 [.int y_4, .int (nI 5)] (fun l D => cX4_cell_ct l D cI a_p1 a_p1_cells f_p1_cells y_4 (nI 5) e_z3) ⟨⟨rfl, rfl⟩, Nat.le_of_ble_eq_true rfl, Nat.le_of_ble_eq_true rfl⟩ 2 rfl rfl rfl [2, 3] rfl rfl rfl rfl rfl (Nat.le_of_ble_eq_true rfl) (Nat.zero_le _) (Nat.zero_le _) rfl dX8_howMany_21 ?_
      refine g_iload_n (pl := 2) C dX8_howMany_24 rfl rfl ?_
      refine g_icmp_ne (tgt := 31) C dX8_howMany_25 (by decide) (fun c4 => ?_) (fun c4 => ?_)
      · replace hs := vi_f hs c4
        obtain ⟨y5, e_y5, hs⟩ := vlet_ex hs
        refine g_iinc (pl := 4) (lv' := [(4, .int y5), (0, .ref h), (1, .ref a_p1), (2, .int y_2), (3, .int y_3)]) C dX8_howMany_31 rfl e_y5.symm (by decide) rfl ?_
        refine g_goto (tgt := 5) C dX8_howMany_34 (by decide) ?_
        refine g_sub [1, 2, 3, 4, 0] rfl ?_
        exact ih y_3 y5 hs
      · replace hs := vi_t hs c4
        obtain ⟨y6, e_y6, hs⟩ := vlet_ex hs
        refine g_iinc (pl := 3) (lv' := [(3, .int y6), (0, .ref h), (1, .ref a_p1), (2, .int y_2), (4, .int y_4)]) C dX8_howMany_28 rfl e_y6.symm (by decide) rfl ?_
        obtain ⟨y7, e_y7, hs⟩ := vlet_ex hs
        refine g_iinc (pl := 4) (lv' := [(4, .int y7), (3, .int y6), (0, .ref h), (1, .ref a_p1), (2, .int y_2)]) C dX8_howMany_31 rfl e_y7.symm (by decide) rfl ?_
        refine g_goto (tgt := 5) C dX8_howMany_34 (by decide) ?_
        refine g_sub [2, 3, 4, 1, 0] rfl ?_
        exact ih y6 y7 hs
set_option maxHeartbeats 4000000 in
set_option maxRecDepth 100000 in
theorem cX8_howMany_ct (l : Launch) (D : va_G) (cI : ClassId) (h : Nat) (a_letters : Nat) (a_board : Nat) (a_draft : Nat) (a_scene : Nat) (a_trial : Nat) (a_past : Nat) (a_kept : Nat) (a_seen : Nat) (a_reader : Nat) (a_search : Nat) (a_deal : Nat) (a_line : Nat) (a_board_commons : Nat) (a_board_lengths : Nat) (a_board_parts : Nat) (a_board_likenesses : Nat) (a_p1 : Nat) (a_p1_cells : Nat) (f_length : Int32) (f_board_wordCount : Int32) (f_board_likenessCount : Int32) (f_board_actorCount : Int32) (f_board_forbiddenBits : Int32) (f_board_habitTold : Int32) (f_board_priceTold : Int32) (f_p1_cells : Nat → Int32) (x2 : Int32) {z : Int32} (hs : sX8_howMany f_board_actorCount f_p1_cells x2 = some z) : ct l yX8_howMany (.code yX8_howMany cX8_howMany 5 (some .int) :: gtb) rmX8_howMany D cI [.ref h, .ref a_p1, .int x2] [oX8 h a_letters f_length a_board a_draft a_scene a_trial a_past a_kept a_seen a_reader a_search a_deal a_line, oX0 a_board a_board_commons a_board_lengths a_board_parts a_board_likenesses f_board_wordCount f_board_likenessCount f_board_actorCount f_board_forbiddenBits f_board_habitTold f_board_priceTold, oX4 a_p1 a_p1_cells, aI cI a_p1_cells 55 f_p1_cells] (some (.int z)) [oX8 h a_letters f_length a_board a_draft a_scene a_trial a_past a_kept a_seen a_reader a_search a_deal a_line, oX0 a_board a_board_commons a_board_lengths a_board_parts a_board_likenesses f_board_wordCount f_board_likenessCount f_board_actorCount f_board_forbiddenBits f_board_habitTold f_board_priceTold, oX4 a_p1 a_p1_cells, aI cI a_p1_cells 55 f_p1_cells] := by
  refine ct_ofI (own := RX8) (by decide +kernel) rfl (Nat.le_of_ble_eq_true rfl) (fun X C hD hR => ?_)
  unfold sX8_howMany at hs
  show gg cI X 5 0 0 [oX8 h a_letters f_length a_board a_draft a_scene a_trial a_past a_kept a_seen a_reader a_search a_deal a_line, oX0 a_board a_board_commons a_board_lengths a_board_parts a_board_likenesses f_board_wordCount f_board_likenessCount f_board_actorCount f_board_forbiddenBits f_board_habitTold f_board_priceTold, oX4 a_p1 a_p1_cells, aI cI a_p1_cells 55 f_p1_cells] [(0, .ref h), (1, .ref a_p1), (2, .int x2)] 0 []
  refine g_iconst (v := (nI 0)) C dX8_howMany_0 rfl ?_
  refine g_istore_n (lv' := [(3, .int (nI 0)), (0, .ref h), (1, .ref a_p1), (2, .int x2)]) C dX8_howMany_1 rfl (by decide) rfl ?_
  refine g_iconst (v := (nI 0)) C dX8_howMany_2 rfl ?_
  refine g_istore (lv' := [(4, .int (nI 0)), (3, .int (nI 0)), (0, .ref h), (1, .ref a_p1), (2, .int x2)]) C dX8_howMany_3 (by decide) rfl ?_
  refine g_sub [2, 3, 4, 1, 0] rfl ?_
  exact LX8_howMany_5_w C h a_letters a_board a_draft a_scene a_trial a_past a_kept a_seen a_reader a_search a_deal a_line a_board_commons a_board_lengths a_board_parts a_board_likenesses a_p1 a_p1_cells f_length f_board_wordCount f_board_likenessCount f_board_actorCount f_board_forbiddenBits f_board_habitTold f_board_priceTold f_p1_cells x2 hR _ (nI 0) (nI 0) hs
def LX8_sumOf_5 (y_2 : Int32) (f_board_actorCount : Int32) (f_p1_cells : Nat → Int32) : Nat → Int32 → Int32 → Option (Int32)
  | 0, _, _ => none
  | n + 1, y_3, y_4 =>
    vb (sX0_actors f_board_actorCount) fun z1 =>
    vi (z1 ≤ y_4) inferInstance (
      some (y_3)) (
      vb (sX4_cell f_p1_cells y_4 y_2) fun z3 =>
      vlet (y_3 + z3) fun y4 =>
      vlet (y_4 + (nI 1)) fun y5 =>
      LX8_sumOf_5 y_2 f_board_actorCount f_p1_cells n y4 y5)
def sX8_sumOf (f_board_actorCount : Int32) (f_p1_cells : Nat → Int32) (x2 : Int32) : Option (Int32) :=
  LX8_sumOf_5 x2 f_board_actorCount f_p1_cells vF (nI 0) (nI 0)
abbrev rmX8_sumOf : Room := { frames := 1, cells := 0, slots := 0, locals := 23 }
set_option maxHeartbeats 4000000 in
set_option maxRecDepth 100000 in
theorem LX8_sumOf_5_w {cI : ClassId} {X : xT} (C : cx cI X 5 cX8_sumOf RX8 rmX8_sumOf) (h : Nat) (a_letters : Nat) (a_board : Nat) (a_draft : Nat) (a_scene : Nat) (a_trial : Nat) (a_past : Nat) (a_kept : Nat) (a_seen : Nat) (a_reader : Nat) (a_search : Nat) (a_deal : Nat) (a_line : Nat) (a_board_commons : Nat) (a_board_lengths : Nat) (a_board_parts : Nat) (a_board_likenesses : Nat) (a_p1 : Nat) (a_p1_cells : Nat) (f_length : Int32) (f_board_wordCount : Int32) (f_board_likenessCount : Int32) (f_board_actorCount : Int32) (f_board_forbiddenBits : Int32) (f_board_habitTold : Int32) (f_board_priceTold : Int32) (f_p1_cells : Nat → Int32) (y_2 : Int32) {z : Int32} (hR : ∀ (lv : List (Nat × Value)) (pc : Nat), decode cX8_sumOf pc = .ok (.ireturn, 1) → gg cI X 5 0 0 [oX8 h a_letters f_length a_board a_draft a_scene a_trial a_past a_kept a_seen a_reader a_search a_deal a_line, oX0 a_board a_board_commons a_board_lengths a_board_parts a_board_likenesses f_board_wordCount f_board_likenessCount f_board_actorCount f_board_forbiddenBits f_board_habitTold f_board_priceTold, oX4 a_p1 a_p1_cells, aI cI a_p1_cells 55 f_p1_cells] lv pc [.int z]) : ∀ (n : Nat) (y_3 : Int32) (y_4 : Int32), LX8_sumOf_5 y_2 f_board_actorCount f_p1_cells n y_3 y_4 = some z → gg cI X 5 0 0 [oX8 h a_letters f_length a_board a_draft a_scene a_trial a_past a_kept a_seen a_reader a_search a_deal a_line, oX0 a_board a_board_commons a_board_lengths a_board_parts a_board_likenesses f_board_wordCount f_board_likenessCount f_board_actorCount f_board_forbiddenBits f_board_habitTold f_board_priceTold, oX4 a_p1 a_p1_cells, aI cI a_p1_cells 55 f_p1_cells] [(0, .ref h), (1, .ref a_p1), (2, .int y_2), (3, .int y_3), (4, .int y_4)] 5 [] := by
  intro n
  induction n with
  | zero =>
    intro y_3 y_4 hs
    exact nn_ok hs
  | succ n ih =>
    intro y_3 y_4 hs
    rw [LX8_sumOf_5] at hs
    refine g_iload (pl := 4) C dX8_sumOf_5 rfl ?_
    refine g_aload_n (pl := 0) C dX8_sumOf_7 rfl rfl ?_
    refine g_get C fX8_16 0 rfl rfl dX8_sumOf_8 ?_
    obtain ⟨z1, e_z1, hs⟩ := vb_ok hs
    refine g_callV (ws' := [oX8 h a_letters f_length a_board a_draft a_scene a_trial a_past a_kept a_seen a_reader a_search a_deal a_line, oX0 a_board a_board_commons a_board_lengths a_board_parts a_board_likenesses f_board_wordCount f_board_likenessCount f_board_actorCount f_board_forbiddenBits f_board_habitTold f_board_priceTold, oX4 a_p1 a_p1_cells, aI cI a_p1_cells 55 f_p1_cells]) (rest := [.int y_4]) (st' := [.int z1, .int y_4]) C mX8_111 q2_97 [] (fun l D => cX0_actors_ct l D cI a_board a_board_commons a_board_lengths a_board_parts a_board_likenesses f_board_wordCount f_board_likenessCount f_board_actorCount f_board_forbiddenBits f_board_habitTold f_board_priceTold e_z1) ⟨⟨rfl, rfl⟩, Nat.le_of_ble_eq_true rfl, Nat.le_of_ble_eq_true rfl⟩ 1 rfl rfl rfl [1] rfl rfl rfl rfl rfl (Nat.le_of_ble_eq_true rfl) (Nat.zero_le _) (Nat.zero_le _) rfl dX8_sumOf_11 ?_
    refine g_icmp_ge (tgt := 33) C dX8_sumOf_14 (by decide) (fun c2 => ?_) (fun c2 => ?_)
    · replace hs := vi_t hs c2
      refine g_iload_n (pl := 3) C dX8_sumOf_33 rfl rfl ?_
      cases hs
      exact hR _ _ dX8_sumOf_34
    · replace hs := vi_f hs c2
      refine g_iload_n (pl := 3) C dX8_sumOf_17 rfl rfl ?_
      refine g_aload_n (pl := 1) C dX8_sumOf_18 rfl rfl ?_
      refine g_iload (pl := 4) C dX8_sumOf_19 rfl ?_
      refine g_iload_n (pl := 2) C dX8_sumOf_21 rfl rfl ?_
      obtain ⟨z3, e_z3, hs⟩ := vb_ok hs
      refine g_callV (ws' := [oX8 h a_letters f_length a_board a_draft a_scene a_trial a_past a_kept a_seen a_reader a_search a_deal a_line, oX0 a_board a_board_commons a_board_lengths a_board_parts a_board_likenesses f_board_wordCount f_board_likenessCount f_board_actorCount f_board_forbiddenBits f_board_habitTold f_board_priceTold, oX4 a_p1 a_p1_cells, aI cI a_p1_cells 55 f_p1_cells]) (rest := [.int y_3]) (st' := [.int z3, .int y_3]) C mX8_149 q2_232 [.int y_4, .int y_2] (fun l D => cX4_cell_ct l D cI a_p1 a_p1_cells f_p1_cells y_4 y_2 e_z3) ⟨⟨rfl, rfl⟩, Nat.le_of_ble_eq_true rfl, Nat.le_of_ble_eq_true rfl⟩ 2 rfl rfl rfl [2, 3] rfl rfl rfl rfl rfl (Nat.le_of_ble_eq_true rfl) (Nat.zero_le _) (Nat.zero_le _) rfl dX8_sumOf_22 ?_
      refine g_iadd C dX8_sumOf_25 ?_
      obtain ⟨y4, e_y4, hs⟩ := vlet_ex hs
      refine g_topi e_y4 ?_
      refine g_istore_n (lv' := [(3, .int y4), (0, .ref h), (1, .ref a_p1), (2, .int y_2), (4, .int y_4)]) C dX8_sumOf_26 rfl (by decide) rfl ?_
      obtain ⟨y5, e_y5, hs⟩ := vlet_ex hs
      refine g_iinc (pl := 4) (lv' := [(4, .int y5), (3, .int y4), (0, .ref h), (1, .ref a_p1), (2, .int y_2)]) C dX8_sumOf_27 rfl e_y5.symm (by decide) rfl ?_
      refine g_goto (tgt := 5) C dX8_sumOf_30 (by decide) ?_
      refine g_sub [2, 3, 4, 1, 0] rfl ?_
      exact ih y4 y5 hs
set_option maxHeartbeats 4000000 in
set_option maxRecDepth 100000 in
theorem cX8_sumOf_ct (l : Launch) (D : va_G) (cI : ClassId) (h : Nat) (a_letters : Nat) (a_board : Nat) (a_draft : Nat) (a_scene : Nat) (a_trial : Nat) (a_past : Nat) (a_kept : Nat) (a_seen : Nat) (a_reader : Nat) (a_search : Nat) (a_deal : Nat) (a_line : Nat) (a_board_commons : Nat) (a_board_lengths : Nat) (a_board_parts : Nat) (a_board_likenesses : Nat) (a_p1 : Nat) (a_p1_cells : Nat) (f_length : Int32) (f_board_wordCount : Int32) (f_board_likenessCount : Int32) (f_board_actorCount : Int32) (f_board_forbiddenBits : Int32) (f_board_habitTold : Int32) (f_board_priceTold : Int32) (f_p1_cells : Nat → Int32) (x2 : Int32) {z : Int32} (hs : sX8_sumOf f_board_actorCount f_p1_cells x2 = some z) : ct l yX8_sumOf (.code yX8_sumOf cX8_sumOf 5 (some .int) :: gtb) rmX8_sumOf D cI [.ref h, .ref a_p1, .int x2] [oX8 h a_letters f_length a_board a_draft a_scene a_trial a_past a_kept a_seen a_reader a_search a_deal a_line, oX0 a_board a_board_commons a_board_lengths a_board_parts a_board_likenesses f_board_wordCount f_board_likenessCount f_board_actorCount f_board_forbiddenBits f_board_habitTold f_board_priceTold, oX4 a_p1 a_p1_cells, aI cI a_p1_cells 55 f_p1_cells] (some (.int z)) [oX8 h a_letters f_length a_board a_draft a_scene a_trial a_past a_kept a_seen a_reader a_search a_deal a_line, oX0 a_board a_board_commons a_board_lengths a_board_parts a_board_likenesses f_board_wordCount f_board_likenessCount f_board_actorCount f_board_forbiddenBits f_board_habitTold f_board_priceTold, oX4 a_p1 a_p1_cells, aI cI a_p1_cells 55 f_p1_cells] := by
  refine ct_ofI (own := RX8) (by decide +kernel) rfl (Nat.le_of_ble_eq_true rfl) (fun X C hD hR => ?_)
  unfold sX8_sumOf at hs
  show gg cI X 5 0 0 [oX8 h a_letters f_length a_board a_draft a_scene a_trial a_past a_kept a_seen a_reader a_search a_deal a_line, oX0 a_board a_board_commons a_board_lengths a_board_parts a_board_likenesses f_board_wordCount f_board_likenessCount f_board_actorCount f_board_forbiddenBits f_board_habitTold f_board_priceTold, oX4 a_p1 a_p1_cells, aI cI a_p1_cells 55 f_p1_cells] [(0, .ref h), (1, .ref a_p1), (2, .int x2)] 0 []
  refine g_iconst (v := (nI 0)) C dX8_sumOf_0 rfl ?_
  refine g_istore_n (lv' := [(3, .int (nI 0)), (0, .ref h), (1, .ref a_p1), (2, .int x2)]) C dX8_sumOf_1 rfl (by decide) rfl ?_
  refine g_iconst (v := (nI 0)) C dX8_sumOf_2 rfl ?_
  refine g_istore (lv' := [(4, .int (nI 0)), (3, .int (nI 0)), (0, .ref h), (1, .ref a_p1), (2, .int x2)]) C dX8_sumOf_3 (by decide) rfl ?_
  refine g_sub [2, 3, 4, 1, 0] rfl ?_
  exact LX8_sumOf_5_w C h a_letters a_board a_draft a_scene a_trial a_past a_kept a_seen a_reader a_search a_deal a_line a_board_commons a_board_lengths a_board_parts a_board_likenesses a_p1 a_p1_cells f_length f_board_wordCount f_board_likenessCount f_board_actorCount f_board_forbiddenBits f_board_habitTold f_board_priceTold f_p1_cells x2 hR _ (nI 0) (nI 0) hs
def LX8_season_47 (y_1 : Int32) (y_2 : Int32) (y_3 : Int32) (f_board_commons : Nat → Int32) (f_board_lengths : Nat → Int32) (f_board_parts : Nat → Int32) (f_board_likenesses : Nat → Int32) (f_board_wordCount : Int32) (f_board_likenessCount : Int32) (f_board_actorCount : Int32) (f_board_forbiddenBits : Int32) (f_board_habitTold : Int32) (f_board_priceTold : Int32) (f_scene_cells : Nat → Int32) : Nat → Int32 → (Nat → Int32) → Option (Int32 × (Nat → Int32))
  | 0, _, _ => none
  | n + 1, y_4, f_trial_cells =>
    vi (y_2 ≤ y_4) inferInstance (
      vi (y_3 = 0) inferInstance (
        vb (sX8_howMany f_board_actorCount f_trial_cells (nI 1)) fun z5 =>
        some (z5, f_trial_cells)) (
        vb (sX8_sumOf f_board_actorCount f_scene_cells (nI 2)) fun z3 =>
        vb (sX8_sumOf f_board_actorCount f_trial_cells (nI 2)) fun z4 =>
        some (z3 - z4, f_trial_cells))) (
      vb (sX8_draw y_1 y_4) fun z6 =>
      vb (sX8_playDraw f_board_commons f_board_lengths f_board_parts f_board_likenesses f_board_wordCount f_board_likenessCount f_board_actorCount f_board_forbiddenBits f_board_habitTold f_board_priceTold f_trial_cells z6) fun z7 =>
      vlet (y_4 + (nI 1)) fun y8 =>
      LX8_season_47 y_1 y_2 y_3 f_board_commons f_board_lengths f_board_parts f_board_likenesses f_board_wordCount f_board_likenessCount f_board_actorCount f_board_forbiddenBits f_board_habitTold f_board_priceTold f_scene_cells n y8 z7)
def sX8_season (f_board_commons : Nat → Int32) (f_board_lengths : Nat → Int32) (f_board_parts : Nat → Int32) (f_board_likenesses : Nat → Int32) (f_board_wordCount : Int32) (f_board_likenessCount : Int32) (f_board_actorCount : Int32) (f_board_forbiddenBits : Int32) (f_board_habitTold : Int32) (f_board_priceTold : Int32) (f_scene_cells : Nat → Int32) (f_trial_cells : Nat → Int32) (x1 : Int32) (x2 : Int32) (x3 : Int32) : Option (Int32 × (Nat → Int32)) :=
  vi (x1 < 0) inferInstance (
    some ((-1), f_trial_cells)) (
    vi ((nI 9999) < x1) inferInstance (
      some ((-1), f_trial_cells)) (
      vi (x2 < (nI 1)) inferInstance (
        some ((-1), f_trial_cells)) (
        vi ((nI 60) < x2) inferInstance (
          some ((-1), f_trial_cells)) (
          vi (x3 < 0) inferInstance (
            some ((-1), f_trial_cells)) (
            vi (x3 ≤ (nI 1)) inferInstance (
              vb (sX4_copyFrom f_trial_cells f_scene_cells) fun z15 =>
              LX8_season_47 x1 x2 x3 f_board_commons f_board_lengths f_board_parts f_board_likenesses f_board_wordCount f_board_likenessCount f_board_actorCount f_board_forbiddenBits f_board_habitTold f_board_priceTold f_scene_cells vF (nI 0) z15) (
              some ((-1), f_trial_cells)))))))
abbrev rmX8_season : Room := { frames := 6, cells := 0, slots := 0, locals := 149 }
set_option maxHeartbeats 4000000 in
set_option maxRecDepth 100000 in
theorem LX8_season_47_w {cI : ClassId} {X : xT} (C : cx cI X 5 cX8_season RX8 rmX8_season) (h : Nat) (a_letters : Nat) (a_board : Nat) (a_draft : Nat) (a_scene : Nat) (a_trial : Nat) (a_past : Nat) (a_kept : Nat) (a_seen : Nat) (a_reader : Nat) (a_search : Nat) (a_deal : Nat) (a_line : Nat) (a_board_commons : Nat) (a_board_lengths : Nat) (a_board_parts : Nat) (a_board_likenesses : Nat) (a_scene_cells : Nat) (a_trial_cells : Nat) (f_length : Int32) (f_board_wordCount : Int32) (f_board_likenessCount : Int32) (f_board_actorCount : Int32) (f_board_forbiddenBits : Int32) (f_board_habitTold : Int32) (f_board_priceTold : Int32) (f_board_commons : Nat → Int32) (f_board_lengths : Nat → Int32) (f_board_parts : Nat → Int32) (f_board_likenesses : Nat → Int32) (f_scene_cells : Nat → Int32) (y_1 : Int32) (y_2 : Int32) (y_3 : Int32) {z : Int32 × (Nat → Int32)} (hR : ∀ (lv : List (Nat × Value)) (pc : Nat), decode cX8_season pc = .ok (.ireturn, 1) → gg cI X 5 0 0 [oX8 h a_letters f_length a_board a_draft a_scene a_trial a_past a_kept a_seen a_reader a_search a_deal a_line, oX0 a_board a_board_commons a_board_lengths a_board_parts a_board_likenesses f_board_wordCount f_board_likenessCount f_board_actorCount f_board_forbiddenBits f_board_habitTold f_board_priceTold, aI cI a_board_commons 8 f_board_commons, aI cI a_board_lengths 8 f_board_lengths, aI cI a_board_parts 8 f_board_parts, aI cI a_board_likenesses 6 f_board_likenesses, oX4 a_scene a_scene_cells, aI cI a_scene_cells 55 f_scene_cells, oX4 a_trial a_trial_cells, aI cI a_trial_cells 55 z.2] lv pc [.int z.1]) : ∀ (n : Nat) (y_4 : Int32) (f_trial_cells : Nat → Int32), LX8_season_47 y_1 y_2 y_3 f_board_commons f_board_lengths f_board_parts f_board_likenesses f_board_wordCount f_board_likenessCount f_board_actorCount f_board_forbiddenBits f_board_habitTold f_board_priceTold f_scene_cells n y_4 f_trial_cells = some z → gg cI X 5 0 0 [oX8 h a_letters f_length a_board a_draft a_scene a_trial a_past a_kept a_seen a_reader a_search a_deal a_line, oX0 a_board a_board_commons a_board_lengths a_board_parts a_board_likenesses f_board_wordCount f_board_likenessCount f_board_actorCount f_board_forbiddenBits f_board_habitTold f_board_priceTold, aI cI a_board_commons 8 f_board_commons, aI cI a_board_lengths 8 f_board_lengths, aI cI a_board_parts 8 f_board_parts, aI cI a_board_likenesses 6 f_board_likenesses, oX4 a_scene a_scene_cells, aI cI a_scene_cells 55 f_scene_cells, oX4 a_trial a_trial_cells, aI cI a_trial_cells 55 f_trial_cells] [(0, .ref h), (1, .int y_1), (2, .int y_2), (3, .int y_3), (4, .int y_4)] 47 [] := by
  intro n
  induction n with
  | zero =>
    intro y_4 f_trial_cells hs
    exact nn_ok hs
  | succ n ih =>
    intro y_4 f_trial_cells hs
    rw [LX8_season_47] at hs
    refine g_iload (pl := 4) C dX8_season_47 rfl ?_
    refine g_iload_n (pl := 2) C dX8_season_49 rfl rfl ?_
    refine g_icmp_ge (tgt := 69) C dX8_season_50 (by decide) (fun c1 => ?_) (fun c1 => ?_)
    · replace hs := vi_t hs c1
      refine g_iload_n (pl := 3) C dX8_season_69 rfl rfl ?_
      refine g_if_ne (tgt := 83) C dX8_season_70 (by decide) (fun c2 => ?_) (fun c2 => ?_)
      · replace hs := vi_f hs c2
        refine g_aload_n (pl := 0) C dX8_season_83 rfl rfl ?_
        refine g_aload_n (pl := 0) C dX8_season_84 rfl rfl ?_
        refine g_get C fX8_26 0 rfl rfl dX8_season_85 ?_
        refine g_iconst (v := (nI 2)) C dX8_season_88 rfl ?_
        obtain ⟨z3, e_z3, hs⟩ := vb_ok hs
        refine g_callV (ws' := [oX8 h a_letters f_length a_board a_draft a_scene a_trial a_past a_kept a_seen a_reader a_search a_deal a_line, oX0 a_board a_board_commons a_board_lengths a_board_parts a_board_likenesses f_board_wordCount f_board_likenessCount f_board_actorCount f_board_forbiddenBits f_board_habitTold f_board_priceTold, aI cI a_board_commons 8 f_board_commons, aI cI a_board_lengths 8 f_board_lengths, aI cI a_board_parts 8 f_board_parts, aI cI a_board_likenesses 6 f_board_likenesses, oX4 a_scene a_scene_cells, aI cI a_scene_cells 55 f_scene_cells, oX4 a_trial a_trial_cells, aI cI a_trial_cells 55 f_trial_cells]) (rest := []) (st' := [.int z3]) C mX8_280 q4_82 [.ref a_scene, .int (nI 2)] (fun l D => cX8_sumOf_ct l D cI h a_letters a_board a_draft a_scene a_trial a_past a_kept a_seen a_reader a_search a_deal a_line a_board_commons a_board_lengths a_board_parts a_board_likenesses a_scene a_scene_cells f_length f_board_wordCount f_board_likenessCount f_board_actorCount f_board_forbiddenBits f_board_habitTold f_board_priceTold f_scene_cells (nI 2) e_z3) ⟨⟨rfl, rfl⟩, Nat.le_of_ble_eq_true rfl, Nat.le_of_ble_eq_true rfl⟩ 0 rfl rfl rfl [0, 1, 6, 7] rfl rfl rfl rfl rfl (Nat.le_of_ble_eq_true rfl) (Nat.zero_le _) (Nat.zero_le _) rfl dX8_season_89 ?_
        refine g_aload_n (pl := 0) C dX8_season_92 rfl rfl ?_
        refine g_aload_n (pl := 0) C dX8_season_93 rfl rfl ?_
        refine g_get C fX8_30 0 rfl rfl dX8_season_94 ?_
        refine g_iconst (v := (nI 2)) C dX8_season_97 rfl ?_
        obtain ⟨z4, e_z4, hs⟩ := vb_ok hs
        refine g_callV (ws' := [oX8 h a_letters f_length a_board a_draft a_scene a_trial a_past a_kept a_seen a_reader a_search a_deal a_line, oX0 a_board a_board_commons a_board_lengths a_board_parts a_board_likenesses f_board_wordCount f_board_likenessCount f_board_actorCount f_board_forbiddenBits f_board_habitTold f_board_priceTold, aI cI a_board_commons 8 f_board_commons, aI cI a_board_lengths 8 f_board_lengths, aI cI a_board_parts 8 f_board_parts, aI cI a_board_likenesses 6 f_board_likenesses, oX4 a_scene a_scene_cells, aI cI a_scene_cells 55 f_scene_cells, oX4 a_trial a_trial_cells, aI cI a_trial_cells 55 f_trial_cells]) (rest := [.int z3]) (st' := [.int z4, .int z3]) C mX8_280 q4_82 [.ref a_trial, .int (nI 2)] (fun l D => cX8_sumOf_ct l D cI h a_letters a_board a_draft a_scene a_trial a_past a_kept a_seen a_reader a_search a_deal a_line a_board_commons a_board_lengths a_board_parts a_board_likenesses a_trial a_trial_cells f_length f_board_wordCount f_board_likenessCount f_board_actorCount f_board_forbiddenBits f_board_habitTold f_board_priceTold f_trial_cells (nI 2) e_z4) ⟨⟨rfl, rfl⟩, Nat.le_of_ble_eq_true rfl, Nat.le_of_ble_eq_true rfl⟩ 0 rfl rfl rfl [0, 1, 8, 9] rfl rfl rfl rfl rfl (Nat.le_of_ble_eq_true rfl) (Nat.zero_le _) (Nat.zero_le _) rfl dX8_season_98 ?_
        refine g_isub C dX8_season_101 ?_
        cases hs
        exact hR _ _ dX8_season_102
      · replace hs := vi_t hs c2
        refine g_aload_n (pl := 0) C dX8_season_73 rfl rfl ?_
        refine g_aload_n (pl := 0) C dX8_season_74 rfl rfl ?_
        refine g_get C fX8_30 0 rfl rfl dX8_season_75 ?_
        refine g_iconst (v := (nI 1)) C dX8_season_78 rfl ?_
        obtain ⟨z5, e_z5, hs⟩ := vb_ok hs
        refine g_callV (ws' := [oX8 h a_letters f_length a_board a_draft a_scene a_trial a_past a_kept a_seen a_reader a_search a_deal a_line, oX0 a_board a_board_commons a_board_lengths a_board_parts a_board_likenesses f_board_wordCount f_board_likenessCount f_board_actorCount f_board_forbiddenBits f_board_habitTold f_board_priceTold, aI cI a_board_commons 8 f_board_commons, aI cI a_board_lengths 8 f_board_lengths, aI cI a_board_parts 8 f_board_parts, aI cI a_board_likenesses 6 f_board_likenesses, oX4 a_scene a_scene_cells, aI cI a_scene_cells 55 f_scene_cells, oX4 a_trial a_trial_cells, aI cI a_trial_cells 55 f_trial_cells]) (rest := []) (st' := [.int z5]) C mX8_278 q4_78 [.ref a_trial, .int (nI 1)] (fun l D => cX8_howMany_ct l D cI h a_letters a_board a_draft a_scene a_trial a_past a_kept a_seen a_reader a_search a_deal a_line a_board_commons a_board_lengths a_board_parts a_board_likenesses a_trial a_trial_cells f_length f_board_wordCount f_board_likenessCount f_board_actorCount f_board_forbiddenBits f_board_habitTold f_board_priceTold f_trial_cells (nI 1) e_z5) ⟨⟨rfl, rfl⟩, Nat.le_of_ble_eq_true rfl, Nat.le_of_ble_eq_true rfl⟩ 0 rfl rfl rfl [0, 1, 8, 9] rfl rfl rfl rfl rfl (Nat.le_of_ble_eq_true rfl) (Nat.zero_le _) (Nat.zero_le _) rfl dX8_season_79 ?_
        cases hs
        exact hR _ _ dX8_season_82
    · replace hs := vi_f hs c1
      refine g_aload_n (pl := 0) C dX8_season_53 rfl rfl ?_
      refine g_iload_n (pl := 1) C dX8_season_54 rfl rfl ?_
      refine g_iload (pl := 4) C dX8_season_55 rfl ?_
      obtain ⟨z6, e_z6, hs⟩ := vb_ok hs
      refine g_callS (ws' := [oX8 h a_letters f_length a_board a_draft a_scene a_trial a_past a_kept a_seen a_reader a_search a_deal a_line, oX0 a_board a_board_commons a_board_lengths a_board_parts a_board_likenesses f_board_wordCount f_board_likenessCount f_board_actorCount f_board_forbiddenBits f_board_habitTold f_board_priceTold, aI cI a_board_commons 8 f_board_commons, aI cI a_board_lengths 8 f_board_lengths, aI cI a_board_parts 8 f_board_parts, aI cI a_board_likenesses 6 f_board_likenesses, oX4 a_scene a_scene_cells, aI cI a_scene_cells 55 f_scene_cells, oX4 a_trial a_trial_cells, aI cI a_trial_cells 55 f_trial_cells]) (rest := [.ref h]) (st' := [.int z6, .ref h]) C mX8_272 q4_66 [.int y_1, .int y_4] (fun l D => cX8_draw_ct l D cI y_1 y_4 e_z6) ⟨⟨rfl, rfl⟩, Nat.le_of_ble_eq_true rfl, Nat.le_of_ble_eq_true rfl⟩ rfl [] rfl rfl rfl rfl rfl (Nat.le_of_ble_eq_true rfl) (Nat.zero_le _) (Nat.zero_le _) rfl dX8_season_57 ?_
      obtain ⟨z7, e_z7, hs⟩ := vb_ok hs
      refine g_callV (ws' := [oX8 h a_letters f_length a_board a_draft a_scene a_trial a_past a_kept a_seen a_reader a_search a_deal a_line, oX0 a_board a_board_commons a_board_lengths a_board_parts a_board_likenesses f_board_wordCount f_board_likenessCount f_board_actorCount f_board_forbiddenBits f_board_habitTold f_board_priceTold, aI cI a_board_commons 8 f_board_commons, aI cI a_board_lengths 8 f_board_lengths, aI cI a_board_parts 8 f_board_parts, aI cI a_board_likenesses 6 f_board_likenesses, oX4 a_scene a_scene_cells, aI cI a_scene_cells 55 f_scene_cells, oX4 a_trial a_trial_cells, aI cI a_trial_cells 55 z7]) (rest := []) (st' := []) C mX8_275 q4_74 [.int z6] (fun l D => cX8_playDraw_ct l D cI h a_letters a_board a_draft a_scene a_trial a_past a_kept a_seen a_reader a_search a_deal a_line a_board_commons a_board_lengths a_board_parts a_board_likenesses a_trial_cells f_length f_board_wordCount f_board_likenessCount f_board_actorCount f_board_forbiddenBits f_board_habitTold f_board_priceTold f_board_commons f_board_lengths f_board_parts f_board_likenesses f_trial_cells z6 e_z7) ⟨⟨rfl, rfl⟩, Nat.le_of_ble_eq_true rfl, Nat.le_of_ble_eq_true rfl⟩ 0 rfl rfl rfl [0, 1, 2, 3, 4, 5, 8, 9] rfl rfl rfl rfl rfl (Nat.le_of_ble_eq_true rfl) (Nat.zero_le _) (Nat.zero_le _) rfl dX8_season_60 ?_
      obtain ⟨y8, e_y8, hs⟩ := vlet_ex hs
      refine g_iinc (pl := 4) (lv' := [(4, .int y8), (0, .ref h), (1, .int y_1), (2, .int y_2), (3, .int y_3)]) C dX8_season_63 rfl e_y8.symm (by decide) rfl ?_
      refine g_goto (tgt := 47) C dX8_season_66 (by decide) ?_
      refine g_sub [1, 2, 3, 4, 0] rfl ?_
      exact ih y8 z7 hs
set_option maxHeartbeats 4000000 in
set_option maxRecDepth 100000 in
theorem cX8_season_ct (l : Launch) (D : va_G) (cI : ClassId) (h : Nat) (a_letters : Nat) (a_board : Nat) (a_draft : Nat) (a_scene : Nat) (a_trial : Nat) (a_past : Nat) (a_kept : Nat) (a_seen : Nat) (a_reader : Nat) (a_search : Nat) (a_deal : Nat) (a_line : Nat) (a_board_commons : Nat) (a_board_lengths : Nat) (a_board_parts : Nat) (a_board_likenesses : Nat) (a_scene_cells : Nat) (a_trial_cells : Nat) (f_length : Int32) (f_board_wordCount : Int32) (f_board_likenessCount : Int32) (f_board_actorCount : Int32) (f_board_forbiddenBits : Int32) (f_board_habitTold : Int32) (f_board_priceTold : Int32) (f_board_commons : Nat → Int32) (f_board_lengths : Nat → Int32) (f_board_parts : Nat → Int32) (f_board_likenesses : Nat → Int32) (f_scene_cells : Nat → Int32) (f_trial_cells : Nat → Int32) (x1 : Int32) (x2 : Int32) (x3 : Int32) {z : Int32 × (Nat → Int32)} (hs : sX8_season f_board_commons f_board_lengths f_board_parts f_board_likenesses f_board_wordCount f_board_likenessCount f_board_actorCount f_board_forbiddenBits f_board_habitTold f_board_priceTold f_scene_cells f_trial_cells x1 x2 x3 = some z) : ct l yX8_season (.code yX8_season cX8_season 5 (some .int) :: gtb) rmX8_season D cI [.ref h, .int x1, .int x2, .int x3] [oX8 h a_letters f_length a_board a_draft a_scene a_trial a_past a_kept a_seen a_reader a_search a_deal a_line, oX0 a_board a_board_commons a_board_lengths a_board_parts a_board_likenesses f_board_wordCount f_board_likenessCount f_board_actorCount f_board_forbiddenBits f_board_habitTold f_board_priceTold, aI cI a_board_commons 8 f_board_commons, aI cI a_board_lengths 8 f_board_lengths, aI cI a_board_parts 8 f_board_parts, aI cI a_board_likenesses 6 f_board_likenesses, oX4 a_scene a_scene_cells, aI cI a_scene_cells 55 f_scene_cells, oX4 a_trial a_trial_cells, aI cI a_trial_cells 55 f_trial_cells] (some (.int z.1)) [oX8 h a_letters f_length a_board a_draft a_scene a_trial a_past a_kept a_seen a_reader a_search a_deal a_line, oX0 a_board a_board_commons a_board_lengths a_board_parts a_board_likenesses f_board_wordCount f_board_likenessCount f_board_actorCount f_board_forbiddenBits f_board_habitTold f_board_priceTold, aI cI a_board_commons 8 f_board_commons, aI cI a_board_lengths 8 f_board_lengths, aI cI a_board_parts 8 f_board_parts, aI cI a_board_likenesses 6 f_board_likenesses, oX4 a_scene a_scene_cells, aI cI a_scene_cells 55 f_scene_cells, oX4 a_trial a_trial_cells, aI cI a_trial_cells 55 z.2] := by
  refine ct_ofI (own := RX8) (by decide +kernel) rfl (Nat.le_of_ble_eq_true rfl) (fun X C hD hR => ?_)
  unfold sX8_season at hs
  show gg cI X 5 0 0 [oX8 h a_letters f_length a_board a_draft a_scene a_trial a_past a_kept a_seen a_reader a_search a_deal a_line, oX0 a_board a_board_commons a_board_lengths a_board_parts a_board_likenesses f_board_wordCount f_board_likenessCount f_board_actorCount f_board_forbiddenBits f_board_habitTold f_board_priceTold, aI cI a_board_commons 8 f_board_commons, aI cI a_board_lengths 8 f_board_lengths, aI cI a_board_parts 8 f_board_parts, aI cI a_board_likenesses 6 f_board_likenesses, oX4 a_scene a_scene_cells, aI cI a_scene_cells 55 f_scene_cells, oX4 a_trial a_trial_cells, aI cI a_trial_cells 55 f_trial_cells] [(0, .ref h), (1, .int x1), (2, .int x2), (3, .int x3)] 0 []
  refine g_iload_n (pl := 1) C dX8_season_0 rfl rfl ?_
  refine g_if_lt (tgt := 31) C dX8_season_1 (by decide) (fun c9 => ?_) (fun c9 => ?_)
  · replace hs := vi_t hs c9
    refine g_iconst (v := (-1)) C dX8_season_31 rfl ?_
    cases hs
    exact hR _ _ dX8_season_32
  · replace hs := vi_f hs c9
    refine g_iload_n (pl := 1) C dX8_season_4 rfl rfl ?_
    refine g_sipush (v := (nI 9999)) C dX8_season_5 rfl ?_
    refine g_icmp_gt (tgt := 31) C dX8_season_8 (by decide) (fun c10 => ?_) (fun c10 => ?_)
    · replace hs := vi_t hs c10
      refine g_iconst (v := (-1)) C dX8_season_31 rfl ?_
      cases hs
      exact hR _ _ dX8_season_32
    · replace hs := vi_f hs c10
      refine g_iload_n (pl := 2) C dX8_season_11 rfl rfl ?_
      refine g_iconst (v := (nI 1)) C dX8_season_12 rfl ?_
      refine g_icmp_lt (tgt := 31) C dX8_season_13 (by decide) (fun c11 => ?_) (fun c11 => ?_)
      · replace hs := vi_t hs c11
        refine g_iconst (v := (-1)) C dX8_season_31 rfl ?_
        cases hs
        exact hR _ _ dX8_season_32
      · replace hs := vi_f hs c11
        refine g_iload_n (pl := 2) C dX8_season_16 rfl rfl ?_
        refine g_bipush (v := (nI 60)) C dX8_season_17 rfl ?_
        refine g_icmp_gt (tgt := 31) C dX8_season_19 (by decide) (fun c12 => ?_) (fun c12 => ?_)
        · replace hs := vi_t hs c12
          refine g_iconst (v := (-1)) C dX8_season_31 rfl ?_
          cases hs
          exact hR _ _ dX8_season_32
        · replace hs := vi_f hs c12
          refine g_iload_n (pl := 3) C dX8_season_22 rfl rfl ?_
          refine g_if_lt (tgt := 31) C dX8_season_23 (by decide) (fun c13 => ?_) (fun c13 => ?_)
          · replace hs := vi_t hs c13
            refine g_iconst (v := (-1)) C dX8_season_31 rfl ?_
            cases hs
            exact hR _ _ dX8_season_32
          · replace hs := vi_f hs c13
            refine g_iload_n (pl := 3) C dX8_season_26 rfl rfl ?_
            refine g_iconst (v := (nI 1)) C dX8_season_27 rfl ?_
            refine g_icmp_le (tgt := 33) C dX8_season_28 (by decide) (fun c14 => ?_) (fun c14 => ?_)
            · replace hs := vi_t hs c14
              refine g_aload_n (pl := 0) C dX8_season_33 rfl rfl ?_
              refine g_get C fX8_30 0 rfl rfl dX8_season_34 ?_
              refine g_aload_n (pl := 0) C dX8_season_37 rfl rfl ?_
              refine g_get C fX8_26 0 rfl rfl dX8_season_38 ?_
              obtain ⟨z15, e_z15, hs⟩ := vb_ok hs
              refine g_callV (ws' := [oX8 h a_letters f_length a_board a_draft a_scene a_trial a_past a_kept a_seen a_reader a_search a_deal a_line, oX0 a_board a_board_commons a_board_lengths a_board_parts a_board_likenesses f_board_wordCount f_board_likenessCount f_board_actorCount f_board_forbiddenBits f_board_habitTold f_board_priceTold, aI cI a_board_commons 8 f_board_commons, aI cI a_board_lengths 8 f_board_lengths, aI cI a_board_parts 8 f_board_parts, aI cI a_board_likenesses 6 f_board_likenesses, oX4 a_scene a_scene_cells, aI cI a_scene_cells 55 f_scene_cells, oX4 a_trial a_trial_cells, aI cI a_trial_cells 55 z15]) (rest := []) (st' := []) C mX8_114 q2_111 [.ref a_scene] (fun l D => cX4_copyFrom_ct l D cI a_trial a_trial_cells a_scene a_scene_cells f_trial_cells f_scene_cells e_z15) ⟨⟨rfl, rfl⟩, Nat.le_of_ble_eq_true rfl, Nat.le_of_ble_eq_true rfl⟩ 8 rfl rfl rfl [8, 9, 6, 7] rfl rfl rfl rfl rfl (Nat.le_of_ble_eq_true rfl) (Nat.zero_le _) (Nat.zero_le _) rfl dX8_season_41 ?_
              refine g_iconst (v := (nI 0)) C dX8_season_44 rfl ?_
              refine g_istore (lv' := [(4, .int (nI 0)), (0, .ref h), (1, .int x1), (2, .int x2), (3, .int x3)]) C dX8_season_45 (by decide) rfl ?_
              refine g_sub [1, 2, 3, 4, 0] rfl ?_
              exact LX8_season_47_w C h a_letters a_board a_draft a_scene a_trial a_past a_kept a_seen a_reader a_search a_deal a_line a_board_commons a_board_lengths a_board_parts a_board_likenesses a_scene_cells a_trial_cells f_length f_board_wordCount f_board_likenessCount f_board_actorCount f_board_forbiddenBits f_board_habitTold f_board_priceTold f_board_commons f_board_lengths f_board_parts f_board_likenesses f_scene_cells x1 x2 x3 hR _ (nI 0) z15 hs
            · replace hs := vi_f hs c14
              refine g_iconst (v := (-1)) C dX8_season_31 rfl ?_
              cases hs
              exact hR _ _ dX8_season_32
def sX8_keep (n_kept_rows : Nat) (f_scene_cells : Nat → Int32) (f_kept_rows : Nat → Int32) (f_kept_most : Int32) (f_kept_used : Int32) : Option (Int32 × (Nat → Int32) × Int32) :=
  vb (sX7_size f_kept_used) fun z1 =>
  vi (z1 < (nI 2)) inferInstance (
    vb (sX7_put n_kept_rows f_kept_rows f_kept_most f_kept_used f_scene_cells) fun z3 =>
    vb (sX7_size z3.2) fun z4 =>
    some (z4, z3.1, z3.2)) (
    some ((-3), f_kept_rows, f_kept_used))
abbrev rmX8_keep : Room := { frames := 2, cells := 0, slots := 0, locals := 47 }
set_option maxHeartbeats 4000000 in
set_option maxRecDepth 100000 in
theorem cX8_keep_ct (l : Launch) (D : va_G) (cI : ClassId) (h : Nat) (a_letters : Nat) (a_board : Nat) (a_draft : Nat) (a_scene : Nat) (a_trial : Nat) (a_past : Nat) (a_kept : Nat) (a_seen : Nat) (a_reader : Nat) (a_search : Nat) (a_deal : Nat) (a_line : Nat) (a_scene_cells : Nat) (a_kept_rows : Nat) (n_kept_rows : Nat) (f_length : Int32) (f_scene_cells : Nat → Int32) (f_kept_most : Int32) (f_kept_used : Int32) (f_kept_rows : Nat → Int32) {z : Int32 × (Nat → Int32) × Int32} (hs : sX8_keep n_kept_rows f_scene_cells f_kept_rows f_kept_most f_kept_used = some z) : ct l yX8_keep (.code yX8_keep cX8_keep 1 (some .int) :: gtb) rmX8_keep D cI [.ref h] [oX8 h a_letters f_length a_board a_draft a_scene a_trial a_past a_kept a_seen a_reader a_search a_deal a_line, oX4 a_scene a_scene_cells, aI cI a_scene_cells 55 f_scene_cells, oX7 a_kept a_kept_rows f_kept_most f_kept_used, aI cI a_kept_rows n_kept_rows f_kept_rows] (some (.int z.1)) [oX8 h a_letters f_length a_board a_draft a_scene a_trial a_past a_kept a_seen a_reader a_search a_deal a_line, oX4 a_scene a_scene_cells, aI cI a_scene_cells 55 f_scene_cells, oX7 a_kept a_kept_rows f_kept_most z.2.2, aI cI a_kept_rows n_kept_rows z.2.1] := by
  refine ct_ofI (own := RX8) (by decide +kernel) rfl (Nat.le_of_ble_eq_true rfl) (fun X C hD hR => ?_)
  unfold sX8_keep at hs
  show gg cI X 1 0 0 [oX8 h a_letters f_length a_board a_draft a_scene a_trial a_past a_kept a_seen a_reader a_search a_deal a_line, oX4 a_scene a_scene_cells, aI cI a_scene_cells 55 f_scene_cells, oX7 a_kept a_kept_rows f_kept_most f_kept_used, aI cI a_kept_rows n_kept_rows f_kept_rows] [(0, .ref h)] 0 []
  refine g_aload_n (pl := 0) C dX8_keep_0 rfl rfl ?_
  refine g_get C fX8_42 0 rfl rfl dX8_keep_1 ?_
  obtain ⟨z1, e_z1, hs⟩ := vb_ok hs
  refine g_callV (ws' := [oX8 h a_letters f_length a_board a_draft a_scene a_trial a_past a_kept a_seen a_reader a_search a_deal a_line, oX4 a_scene a_scene_cells, aI cI a_scene_cells 55 f_scene_cells, oX7 a_kept a_kept_rows f_kept_most f_kept_used, aI cI a_kept_rows n_kept_rows f_kept_rows]) (rest := []) (st' := [.int z1]) C mX8_183 q3_102 [] (fun l D => cX7_size_ct l D cI a_kept a_kept_rows f_kept_most f_kept_used e_z1) ⟨⟨rfl, rfl⟩, Nat.le_of_ble_eq_true rfl, Nat.le_of_ble_eq_true rfl⟩ 3 rfl rfl rfl [3] rfl rfl rfl rfl rfl (Nat.le_of_ble_eq_true rfl) (Nat.zero_le _) (Nat.zero_le _) rfl dX8_keep_4 ?_
  refine g_iconst (v := (nI 2)) C dX8_keep_7 rfl ?_
  refine g_icmp_lt (tgt := 14) C dX8_keep_8 (by decide) (fun c2 => ?_) (fun c2 => ?_)
  · replace hs := vi_t hs c2
    refine g_aload_n (pl := 0) C dX8_keep_14 rfl rfl ?_
    refine g_get C fX8_42 0 rfl rfl dX8_keep_15 ?_
    refine g_aload_n (pl := 0) C dX8_keep_18 rfl rfl ?_
    refine g_get C fX8_26 0 rfl rfl dX8_keep_19 ?_
    obtain ⟨z3, e_z3, hs⟩ := vb_ok hs
    refine g_callV (ws' := [oX8 h a_letters f_length a_board a_draft a_scene a_trial a_past a_kept a_seen a_reader a_search a_deal a_line, oX4 a_scene a_scene_cells, aI cI a_scene_cells 55 f_scene_cells, oX7 a_kept a_kept_rows f_kept_most z3.2, aI cI a_kept_rows n_kept_rows z3.1]) (rest := []) (st' := []) C mX8_158 q3_17 [.ref a_scene] (fun l D => cX7_put_ct l D cI a_kept a_kept_rows a_scene a_scene_cells n_kept_rows f_kept_most f_kept_used f_kept_rows f_scene_cells e_z3) ⟨⟨rfl, rfl⟩, Nat.le_of_ble_eq_true rfl, Nat.le_of_ble_eq_true rfl⟩ 3 rfl rfl rfl [3, 4, 1, 2] rfl rfl rfl rfl rfl (Nat.le_of_ble_eq_true rfl) (Nat.zero_le _) (Nat.zero_le _) rfl dX8_keep_22 ?_
    refine g_aload_n (pl := 0) C dX8_keep_25 rfl rfl ?_
    refine g_get C fX8_42 0 rfl rfl dX8_keep_26 ?_
    obtain ⟨z4, e_z4, hs⟩ := vb_ok hs
    refine g_callV (ws' := [oX8 h a_letters f_length a_board a_draft a_scene a_trial a_past a_kept a_seen a_reader a_search a_deal a_line, oX4 a_scene a_scene_cells, aI cI a_scene_cells 55 f_scene_cells, oX7 a_kept a_kept_rows f_kept_most z3.2, aI cI a_kept_rows n_kept_rows z3.1]) (rest := []) (st' := [.int z4]) C mX8_183 q3_102 [] (fun l D => cX7_size_ct l D cI a_kept a_kept_rows f_kept_most z3.2 e_z4) ⟨⟨rfl, rfl⟩, Nat.le_of_ble_eq_true rfl, Nat.le_of_ble_eq_true rfl⟩ 3 rfl rfl rfl [3] rfl rfl rfl rfl rfl (Nat.le_of_ble_eq_true rfl) (Nat.zero_le _) (Nat.zero_le _) rfl dX8_keep_29 ?_
    cases hs
    exact hR _ _ dX8_keep_32
  · replace hs := vi_f hs c2
    refine g_bipush (v := (-3)) C dX8_keep_11 rfl ?_
    cases hs
    exact hR _ _ dX8_keep_13
def sX8_back (n_kept_rows : Nat) (f_scene_cells : Nat → Int32) (f_past_used : Int32) (f_kept_rows : Nat → Int32) (f_kept_most : Int32) (f_kept_used : Int32) : Option (Int32 × (Nat → Int32) × Int32 × Int32) :=
  vb (sX7_takeInto n_kept_rows f_kept_rows f_kept_most f_kept_used f_scene_cells) fun z1 =>
  vi (z1.1 = 0) inferInstance (
    some ((-2), z1.2.2, f_past_used, z1.2.1)) (
    vb (sX7_clear f_past_used) fun z3 =>
    vb (sX7_size z1.2.1) fun z4 =>
    some (z4, z1.2.2, z3, z1.2.1))
abbrev rmX8_back : Room := { frames := 2, cells := 0, slots := 0, locals := 47 }
set_option maxHeartbeats 4000000 in
set_option maxRecDepth 100000 in
theorem cX8_back_ct (l : Launch) (D : va_G) (cI : ClassId) (h : Nat) (a_letters : Nat) (a_board : Nat) (a_draft : Nat) (a_scene : Nat) (a_trial : Nat) (a_past : Nat) (a_kept : Nat) (a_seen : Nat) (a_reader : Nat) (a_search : Nat) (a_deal : Nat) (a_line : Nat) (a_scene_cells : Nat) (a_past_rows : Nat) (a_kept_rows : Nat) (n_kept_rows : Nat) (f_length : Int32) (f_scene_cells : Nat → Int32) (f_past_most : Int32) (f_past_used : Int32) (f_kept_most : Int32) (f_kept_used : Int32) (f_kept_rows : Nat → Int32) {z : Int32 × (Nat → Int32) × Int32 × Int32} (hs : sX8_back n_kept_rows f_scene_cells f_past_used f_kept_rows f_kept_most f_kept_used = some z) : ct l yX8_back (.code yX8_back cX8_back 1 (some .int) :: gtb) rmX8_back D cI [.ref h] [oX8 h a_letters f_length a_board a_draft a_scene a_trial a_past a_kept a_seen a_reader a_search a_deal a_line, oX4 a_scene a_scene_cells, aI cI a_scene_cells 55 f_scene_cells, oX7 a_past a_past_rows f_past_most f_past_used, oX7 a_kept a_kept_rows f_kept_most f_kept_used, aI cI a_kept_rows n_kept_rows f_kept_rows] (some (.int z.1)) [oX8 h a_letters f_length a_board a_draft a_scene a_trial a_past a_kept a_seen a_reader a_search a_deal a_line, oX4 a_scene a_scene_cells, aI cI a_scene_cells 55 z.2.1, oX7 a_past a_past_rows f_past_most z.2.2.1, oX7 a_kept a_kept_rows f_kept_most z.2.2.2, aI cI a_kept_rows n_kept_rows f_kept_rows] := by
  refine ct_ofI (own := RX8) (by decide +kernel) rfl (Nat.le_of_ble_eq_true rfl) (fun X C hD hR => ?_)
  unfold sX8_back at hs
  show gg cI X 1 0 0 [oX8 h a_letters f_length a_board a_draft a_scene a_trial a_past a_kept a_seen a_reader a_search a_deal a_line, oX4 a_scene a_scene_cells, aI cI a_scene_cells 55 f_scene_cells, oX7 a_past a_past_rows f_past_most f_past_used, oX7 a_kept a_kept_rows f_kept_most f_kept_used, aI cI a_kept_rows n_kept_rows f_kept_rows] [(0, .ref h)] 0 []
  refine g_aload_n (pl := 0) C dX8_back_0 rfl rfl ?_
  refine g_get C fX8_42 0 rfl rfl dX8_back_1 ?_
  refine g_aload_n (pl := 0) C dX8_back_4 rfl rfl ?_
  refine g_get C fX8_26 0 rfl rfl dX8_back_5 ?_
  obtain ⟨z1, e_z1, hs⟩ := vb_ok hs
  refine g_callV (ws' := [oX8 h a_letters f_length a_board a_draft a_scene a_trial a_past a_kept a_seen a_reader a_search a_deal a_line, oX4 a_scene a_scene_cells, aI cI a_scene_cells 55 z1.2.2, oX7 a_past a_past_rows f_past_most f_past_used, oX7 a_kept a_kept_rows f_kept_most z1.2.1, aI cI a_kept_rows n_kept_rows f_kept_rows]) (rest := []) (st' := [.int z1.1]) C mX8_179 q3_98 [.ref a_scene] (fun l D => cX7_takeInto_ct l D cI a_kept a_kept_rows a_scene a_scene_cells n_kept_rows f_kept_most f_kept_used f_kept_rows f_scene_cells e_z1) ⟨⟨rfl, rfl⟩, Nat.le_of_ble_eq_true rfl, Nat.le_of_ble_eq_true rfl⟩ 4 rfl rfl rfl [4, 5, 1, 2] rfl rfl rfl rfl rfl (Nat.le_of_ble_eq_true rfl) (Nat.zero_le _) (Nat.zero_le _) rfl dX8_back_8 ?_
  refine g_if_ne (tgt := 17) C dX8_back_11 (by decide) (fun c2 => ?_) (fun c2 => ?_)
  · replace hs := vi_f hs c2
    refine g_aload_n (pl := 0) C dX8_back_17 rfl rfl ?_
    refine g_get C fX8_38 0 rfl rfl dX8_back_18 ?_
    obtain ⟨z3, e_z3, hs⟩ := vb_ok hs
    refine g_callV (ws' := [oX8 h a_letters f_length a_board a_draft a_scene a_trial a_past a_kept a_seen a_reader a_search a_deal a_line, oX4 a_scene a_scene_cells, aI cI a_scene_cells 55 z1.2.2, oX7 a_past a_past_rows f_past_most z3, oX7 a_kept a_kept_rows f_kept_most z1.2.1, aI cI a_kept_rows n_kept_rows f_kept_rows]) (rest := []) (st' := []) C mX8_118 q2_118 [] (fun l D => cX7_clear_ct l D cI a_past a_past_rows f_past_most f_past_used e_z3) ⟨⟨rfl, rfl⟩, Nat.le_of_ble_eq_true rfl, Nat.le_of_ble_eq_true rfl⟩ 3 rfl rfl rfl [3] rfl rfl rfl rfl rfl (Nat.le_of_ble_eq_true rfl) (Nat.zero_le _) (Nat.zero_le _) rfl dX8_back_21 ?_
    refine g_aload_n (pl := 0) C dX8_back_24 rfl rfl ?_
    refine g_get C fX8_42 0 rfl rfl dX8_back_25 ?_
    obtain ⟨z4, e_z4, hs⟩ := vb_ok hs
    refine g_callV (ws' := [oX8 h a_letters f_length a_board a_draft a_scene a_trial a_past a_kept a_seen a_reader a_search a_deal a_line, oX4 a_scene a_scene_cells, aI cI a_scene_cells 55 z1.2.2, oX7 a_past a_past_rows f_past_most z3, oX7 a_kept a_kept_rows f_kept_most z1.2.1, aI cI a_kept_rows n_kept_rows f_kept_rows]) (rest := []) (st' := [.int z4]) C mX8_183 q3_102 [] (fun l D => cX7_size_ct l D cI a_kept a_kept_rows f_kept_most z1.2.1 e_z4) ⟨⟨rfl, rfl⟩, Nat.le_of_ble_eq_true rfl, Nat.le_of_ble_eq_true rfl⟩ 4 rfl rfl rfl [4] rfl rfl rfl rfl rfl (Nat.le_of_ble_eq_true rfl) (Nat.zero_le _) (Nat.zero_le _) rfl dX8_back_28 ?_
    cases hs
    exact hR _ _ dX8_back_31
  · replace hs := vi_t hs c2
    refine g_bipush (v := (-2)) C dX8_back_14 rfl ?_
    cases hs
    exact hR _ _ dX8_back_16
def sX8_count (f_length : Int32) (f_board_wordCount : Int32) (f_board_likenessCount : Int32) (f_board_actorCount : Int32) (f_board_priceTold : Int32) (f_scene_cells : Nat → Int32) (f_past_used : Int32) (f_kept_used : Int32) (f_seen_used : Int32) (x1 : Int32) : Option (Int32) :=
  vi (x1 = (nI 0)) inferInstance (
    vb (sX0_words f_board_wordCount) fun z2 =>
    some (z2)) (
    vi (x1 = (nI 1)) inferInstance (
      vb (sX0_signs f_board_likenessCount) fun z4 =>
      some (z4)) (
      vi (x1 = (nI 2)) inferInstance (
        vb (sX0_actors f_board_actorCount) fun z6 =>
        some (z6)) (
        vi (x1 = (nI 3)) inferInstance (
          vb (sX0_price f_board_priceTold) fun z8 =>
          some (z8)) (
          vi (x1 = (nI 4)) inferInstance (
            vb (sX8_howMany f_board_actorCount f_scene_cells (nI 0)) fun z10 =>
            some (z10)) (
            vi (x1 = (nI 5)) inferInstance (
              vb (sX8_howMany f_board_actorCount f_scene_cells (nI 1)) fun z12 =>
              some (z12)) (
              vi (x1 = (nI 6)) inferInstance (
                vb (sX8_howMany f_board_actorCount f_scene_cells (nI 2)) fun z14 =>
                some (z14)) (
                vi (x1 = (nI 7)) inferInstance (
                  vb (sX8_howMany f_board_actorCount f_scene_cells (nI 3)) fun z16 =>
                  some (z16)) (
                  vi (x1 = (nI 8)) inferInstance (
                    vb (sX8_sumOf f_board_actorCount f_scene_cells (nI 3)) fun z18 =>
                    some (z18)) (
                    vi (x1 = (nI 9)) inferInstance (
                      vb (sX6_size f_seen_used) fun z20 =>
                      some (z20)) (
                      vi (x1 = (nI 10)) inferInstance (
                        vb (sX7_size f_past_used) fun z22 =>
                        some (z22)) (
                        vi (x1 = (nI 11)) inferInstance (
                          vb (sX7_size f_kept_used) fun z24 =>
                          some (z24)) (
                          vi (x1 = (nI 12)) inferInstance (
                            some (f_length)) (
                            some ((-1)))))))))))))))
abbrev rmX8_count : Room := { frames := 2, cells := 0, slots := 0, locals := 47 }
set_option maxHeartbeats 4000000 in
set_option maxRecDepth 100000 in
theorem cX8_count_ct (l : Launch) (D : va_G) (cI : ClassId) (h : Nat) (a_letters : Nat) (a_board : Nat) (a_draft : Nat) (a_scene : Nat) (a_trial : Nat) (a_past : Nat) (a_kept : Nat) (a_seen : Nat) (a_reader : Nat) (a_search : Nat) (a_deal : Nat) (a_line : Nat) (a_board_commons : Nat) (a_board_lengths : Nat) (a_board_parts : Nat) (a_board_likenesses : Nat) (a_scene_cells : Nat) (a_past_rows : Nat) (a_kept_rows : Nat) (a_seen_actors : Nat) (a_seen_words : Nat) (f_length : Int32) (f_board_wordCount : Int32) (f_board_likenessCount : Int32) (f_board_actorCount : Int32) (f_board_forbiddenBits : Int32) (f_board_habitTold : Int32) (f_board_priceTold : Int32) (f_scene_cells : Nat → Int32) (f_past_most : Int32) (f_past_used : Int32) (f_kept_most : Int32) (f_kept_used : Int32) (f_seen_used : Int32) (x1 : Int32) {z : Int32} (hs : sX8_count f_length f_board_wordCount f_board_likenessCount f_board_actorCount f_board_priceTold f_scene_cells f_past_used f_kept_used f_seen_used x1 = some z) : ct l yX8_count (.code yX8_count cX8_count 2 (some .int) :: gtb) rmX8_count D cI [.ref h, .int x1] [oX8 h a_letters f_length a_board a_draft a_scene a_trial a_past a_kept a_seen a_reader a_search a_deal a_line, oX0 a_board a_board_commons a_board_lengths a_board_parts a_board_likenesses f_board_wordCount f_board_likenessCount f_board_actorCount f_board_forbiddenBits f_board_habitTold f_board_priceTold, oX4 a_scene a_scene_cells, aI cI a_scene_cells 55 f_scene_cells, oX7 a_past a_past_rows f_past_most f_past_used, oX7 a_kept a_kept_rows f_kept_most f_kept_used, oX6 a_seen a_seen_actors a_seen_words f_seen_used] (some (.int z)) [oX8 h a_letters f_length a_board a_draft a_scene a_trial a_past a_kept a_seen a_reader a_search a_deal a_line, oX0 a_board a_board_commons a_board_lengths a_board_parts a_board_likenesses f_board_wordCount f_board_likenessCount f_board_actorCount f_board_forbiddenBits f_board_habitTold f_board_priceTold, oX4 a_scene a_scene_cells, aI cI a_scene_cells 55 f_scene_cells, oX7 a_past a_past_rows f_past_most f_past_used, oX7 a_kept a_kept_rows f_kept_most f_kept_used, oX6 a_seen a_seen_actors a_seen_words f_seen_used] := by
  refine ct_ofI (own := RX8) (by decide +kernel) rfl (Nat.le_of_ble_eq_true rfl) (fun X C hD hR => ?_)
  unfold sX8_count at hs
  show gg cI X 2 0 0 [oX8 h a_letters f_length a_board a_draft a_scene a_trial a_past a_kept a_seen a_reader a_search a_deal a_line, oX0 a_board a_board_commons a_board_lengths a_board_parts a_board_likenesses f_board_wordCount f_board_likenessCount f_board_actorCount f_board_forbiddenBits f_board_habitTold f_board_priceTold, oX4 a_scene a_scene_cells, aI cI a_scene_cells 55 f_scene_cells, oX7 a_past a_past_rows f_past_most f_past_used, oX7 a_kept a_kept_rows f_kept_most f_kept_used, oX6 a_seen a_seen_actors a_seen_words f_seen_used] [(0, .ref h), (1, .int x1)] 0 []
  refine g_iload_n (pl := 1) C dX8_count_0 rfl rfl ?_
  by_cases c1 : x1 = (nI 0)
  · replace hs := vi_t hs c1
    refine g_tableIn (tgt := 68) (off := 67) C dX8_count_1 (by rw [c1]; decide) (by rw [c1]; decide) (by rw [c1]; decide) (by decide) ?_
    refine g_aload_n (pl := 0) C dX8_count_68 rfl rfl ?_
    refine g_get C fX8_16 0 rfl rfl dX8_count_69 ?_
    obtain ⟨z2, e_z2, hs⟩ := vb_ok hs
    refine g_callV (ws' := [oX8 h a_letters f_length a_board a_draft a_scene a_trial a_past a_kept a_seen a_reader a_search a_deal a_line, oX0 a_board a_board_commons a_board_lengths a_board_parts a_board_likenesses f_board_wordCount f_board_likenessCount f_board_actorCount f_board_forbiddenBits f_board_habitTold f_board_priceTold, oX4 a_scene a_scene_cells, aI cI a_scene_cells 55 f_scene_cells, oX7 a_past a_past_rows f_past_most f_past_used, oX7 a_kept a_kept_rows f_kept_most f_kept_used, oX6 a_seen a_seen_actors a_seen_words f_seen_used]) (rest := []) (st' := [.int z2]) C mX8_108 q2_57 [] (fun l D => cX0_words_ct l D cI a_board a_board_commons a_board_lengths a_board_parts a_board_likenesses f_board_wordCount f_board_likenessCount f_board_actorCount f_board_forbiddenBits f_board_habitTold f_board_priceTold e_z2) ⟨⟨rfl, rfl⟩, Nat.le_of_ble_eq_true rfl, Nat.le_of_ble_eq_true rfl⟩ 1 rfl rfl rfl [1] rfl rfl rfl rfl rfl (Nat.le_of_ble_eq_true rfl) (Nat.zero_le _) (Nat.zero_le _) rfl dX8_count_72 ?_
    cases hs
    exact hR _ _ dX8_count_75
  · replace hs := vi_f hs c1
    by_cases c3 : x1 = (nI 1)
    · replace hs := vi_t hs c3
      refine g_tableIn (tgt := 76) (off := 75) C dX8_count_1 (by rw [c3]; decide) (by rw [c3]; decide) (by rw [c3]; decide) (by decide) ?_
      refine g_aload_n (pl := 0) C dX8_count_76 rfl rfl ?_
      refine g_get C fX8_16 0 rfl rfl dX8_count_77 ?_
      obtain ⟨z4, e_z4, hs⟩ := vb_ok hs
      refine g_callV (ws' := [oX8 h a_letters f_length a_board a_draft a_scene a_trial a_past a_kept a_seen a_reader a_search a_deal a_line, oX0 a_board a_board_commons a_board_lengths a_board_parts a_board_likenesses f_board_wordCount f_board_likenessCount f_board_actorCount f_board_forbiddenBits f_board_habitTold f_board_priceTold, oX4 a_scene a_scene_cells, aI cI a_scene_cells 55 f_scene_cells, oX7 a_past a_past_rows f_past_most f_past_used, oX7 a_kept a_kept_rows f_kept_most f_kept_used, oX6 a_seen a_seen_actors a_seen_words f_seen_used]) (rest := []) (st' := [.int z4]) C mX8_245 q2_216 [] (fun l D => cX0_signs_ct l D cI a_board a_board_commons a_board_lengths a_board_parts a_board_likenesses f_board_wordCount f_board_likenessCount f_board_actorCount f_board_forbiddenBits f_board_habitTold f_board_priceTold e_z4) ⟨⟨rfl, rfl⟩, Nat.le_of_ble_eq_true rfl, Nat.le_of_ble_eq_true rfl⟩ 1 rfl rfl rfl [1] rfl rfl rfl rfl rfl (Nat.le_of_ble_eq_true rfl) (Nat.zero_le _) (Nat.zero_le _) rfl dX8_count_80 ?_
      cases hs
      exact hR _ _ dX8_count_83
    · replace hs := vi_f hs c3
      by_cases c5 : x1 = (nI 2)
      · replace hs := vi_t hs c5
        refine g_tableIn (tgt := 84) (off := 83) C dX8_count_1 (by rw [c5]; decide) (by rw [c5]; decide) (by rw [c5]; decide) (by decide) ?_
        refine g_aload_n (pl := 0) C dX8_count_84 rfl rfl ?_
        refine g_get C fX8_16 0 rfl rfl dX8_count_85 ?_
        obtain ⟨z6, e_z6, hs⟩ := vb_ok hs
        refine g_callV (ws' := [oX8 h a_letters f_length a_board a_draft a_scene a_trial a_past a_kept a_seen a_reader a_search a_deal a_line, oX0 a_board a_board_commons a_board_lengths a_board_parts a_board_likenesses f_board_wordCount f_board_likenessCount f_board_actorCount f_board_forbiddenBits f_board_habitTold f_board_priceTold, oX4 a_scene a_scene_cells, aI cI a_scene_cells 55 f_scene_cells, oX7 a_past a_past_rows f_past_most f_past_used, oX7 a_kept a_kept_rows f_kept_most f_kept_used, oX6 a_seen a_seen_actors a_seen_words f_seen_used]) (rest := []) (st' := [.int z6]) C mX8_111 q2_97 [] (fun l D => cX0_actors_ct l D cI a_board a_board_commons a_board_lengths a_board_parts a_board_likenesses f_board_wordCount f_board_likenessCount f_board_actorCount f_board_forbiddenBits f_board_habitTold f_board_priceTold e_z6) ⟨⟨rfl, rfl⟩, Nat.le_of_ble_eq_true rfl, Nat.le_of_ble_eq_true rfl⟩ 1 rfl rfl rfl [1] rfl rfl rfl rfl rfl (Nat.le_of_ble_eq_true rfl) (Nat.zero_le _) (Nat.zero_le _) rfl dX8_count_88 ?_
        cases hs
        exact hR _ _ dX8_count_91
      · replace hs := vi_f hs c5
        by_cases c7 : x1 = (nI 3)
        · replace hs := vi_t hs c7
          refine g_tableIn (tgt := 92) (off := 91) C dX8_count_1 (by rw [c7]; decide) (by rw [c7]; decide) (by rw [c7]; decide) (by decide) ?_
          refine g_aload_n (pl := 0) C dX8_count_92 rfl rfl ?_
          refine g_get C fX8_16 0 rfl rfl dX8_count_93 ?_
          obtain ⟨z8, e_z8, hs⟩ := vb_ok hs
          refine g_callV (ws' := [oX8 h a_letters f_length a_board a_draft a_scene a_trial a_past a_kept a_seen a_reader a_search a_deal a_line, oX0 a_board a_board_commons a_board_lengths a_board_parts a_board_likenesses f_board_wordCount f_board_likenessCount f_board_actorCount f_board_forbiddenBits f_board_habitTold f_board_priceTold, oX4 a_scene a_scene_cells, aI cI a_scene_cells 55 f_scene_cells, oX7 a_past a_past_rows f_past_most f_past_used, oX7 a_kept a_kept_rows f_kept_most f_kept_used, oX6 a_seen a_seen_actors a_seen_words f_seen_used]) (rest := []) (st' := [.int z8]) C mX8_252 q3_74 [] (fun l D => cX0_price_ct l D cI a_board a_board_commons a_board_lengths a_board_parts a_board_likenesses f_board_wordCount f_board_likenessCount f_board_actorCount f_board_forbiddenBits f_board_habitTold f_board_priceTold e_z8) ⟨⟨rfl, rfl⟩, Nat.le_of_ble_eq_true rfl, Nat.le_of_ble_eq_true rfl⟩ 1 rfl rfl rfl [1] rfl rfl rfl rfl rfl (Nat.le_of_ble_eq_true rfl) (Nat.zero_le _) (Nat.zero_le _) rfl dX8_count_96 ?_
          cases hs
          exact hR _ _ dX8_count_99
        · replace hs := vi_f hs c7
          by_cases c9 : x1 = (nI 4)
          · replace hs := vi_t hs c9
            refine g_tableIn (tgt := 100) (off := 99) C dX8_count_1 (by rw [c9]; decide) (by rw [c9]; decide) (by rw [c9]; decide) (by decide) ?_
            refine g_aload_n (pl := 0) C dX8_count_100 rfl rfl ?_
            refine g_aload_n (pl := 0) C dX8_count_101 rfl rfl ?_
            refine g_get C fX8_26 0 rfl rfl dX8_count_102 ?_
            refine g_iconst (v := (nI 0)) C dX8_count_105 rfl ?_
            obtain ⟨z10, e_z10, hs⟩ := vb_ok hs
            refine g_callV (ws' := [oX8 h a_letters f_length a_board a_draft a_scene a_trial a_past a_kept a_seen a_reader a_search a_deal a_line, oX0 a_board a_board_commons a_board_lengths a_board_parts a_board_likenesses f_board_wordCount f_board_likenessCount f_board_actorCount f_board_forbiddenBits f_board_habitTold f_board_priceTold, oX4 a_scene a_scene_cells, aI cI a_scene_cells 55 f_scene_cells, oX7 a_past a_past_rows f_past_most f_past_used, oX7 a_kept a_kept_rows f_kept_most f_kept_used, oX6 a_seen a_seen_actors a_seen_words f_seen_used]) (rest := []) (st' := [.int z10]) C mX8_278 q4_78 [.ref a_scene, .int (nI 0)] (fun l D => cX8_howMany_ct l D cI h a_letters a_board a_draft a_scene a_trial a_past a_kept a_seen a_reader a_search a_deal a_line a_board_commons a_board_lengths a_board_parts a_board_likenesses a_scene a_scene_cells f_length f_board_wordCount f_board_likenessCount f_board_actorCount f_board_forbiddenBits f_board_habitTold f_board_priceTold f_scene_cells (nI 0) e_z10) ⟨⟨rfl, rfl⟩, Nat.le_of_ble_eq_true rfl, Nat.le_of_ble_eq_true rfl⟩ 0 rfl rfl rfl [0, 1, 2, 3] rfl rfl rfl rfl rfl (Nat.le_of_ble_eq_true rfl) (Nat.zero_le _) (Nat.zero_le _) rfl dX8_count_106 ?_
            cases hs
            exact hR _ _ dX8_count_109
          · replace hs := vi_f hs c9
            by_cases c11 : x1 = (nI 5)
            · replace hs := vi_t hs c11
              refine g_tableIn (tgt := 110) (off := 109) C dX8_count_1 (by rw [c11]; decide) (by rw [c11]; decide) (by rw [c11]; decide) (by decide) ?_
              refine g_aload_n (pl := 0) C dX8_count_110 rfl rfl ?_
              refine g_aload_n (pl := 0) C dX8_count_111 rfl rfl ?_
              refine g_get C fX8_26 0 rfl rfl dX8_count_112 ?_
              refine g_iconst (v := (nI 1)) C dX8_count_115 rfl ?_
              obtain ⟨z12, e_z12, hs⟩ := vb_ok hs
              refine g_callV (ws' := [oX8 h a_letters f_length a_board a_draft a_scene a_trial a_past a_kept a_seen a_reader a_search a_deal a_line, oX0 a_board a_board_commons a_board_lengths a_board_parts a_board_likenesses f_board_wordCount f_board_likenessCount f_board_actorCount f_board_forbiddenBits f_board_habitTold f_board_priceTold, oX4 a_scene a_scene_cells, aI cI a_scene_cells 55 f_scene_cells, oX7 a_past a_past_rows f_past_most f_past_used, oX7 a_kept a_kept_rows f_kept_most f_kept_used, oX6 a_seen a_seen_actors a_seen_words f_seen_used]) (rest := []) (st' := [.int z12]) C mX8_278 q4_78 [.ref a_scene, .int (nI 1)] (fun l D => cX8_howMany_ct l D cI h a_letters a_board a_draft a_scene a_trial a_past a_kept a_seen a_reader a_search a_deal a_line a_board_commons a_board_lengths a_board_parts a_board_likenesses a_scene a_scene_cells f_length f_board_wordCount f_board_likenessCount f_board_actorCount f_board_forbiddenBits f_board_habitTold f_board_priceTold f_scene_cells (nI 1) e_z12) ⟨⟨rfl, rfl⟩, Nat.le_of_ble_eq_true rfl, Nat.le_of_ble_eq_true rfl⟩ 0 rfl rfl rfl [0, 1, 2, 3] rfl rfl rfl rfl rfl (Nat.le_of_ble_eq_true rfl) (Nat.zero_le _) (Nat.zero_le _) rfl dX8_count_116 ?_
              cases hs
              exact hR _ _ dX8_count_119
            · replace hs := vi_f hs c11
              by_cases c13 : x1 = (nI 6)
              · replace hs := vi_t hs c13
                refine g_tableIn (tgt := 120) (off := 119) C dX8_count_1 (by rw [c13]; decide) (by rw [c13]; decide) (by rw [c13]; decide) (by decide) ?_
                refine g_aload_n (pl := 0) C dX8_count_120 rfl rfl ?_
                refine g_aload_n (pl := 0) C dX8_count_121 rfl rfl ?_
                refine g_get C fX8_26 0 rfl rfl dX8_count_122 ?_
                refine g_iconst (v := (nI 2)) C dX8_count_125 rfl ?_
                obtain ⟨z14, e_z14, hs⟩ := vb_ok hs
                refine g_callV (ws' := [oX8 h a_letters f_length a_board a_draft a_scene a_trial a_past a_kept a_seen a_reader a_search a_deal a_line, oX0 a_board a_board_commons a_board_lengths a_board_parts a_board_likenesses f_board_wordCount f_board_likenessCount f_board_actorCount f_board_forbiddenBits f_board_habitTold f_board_priceTold, oX4 a_scene a_scene_cells, aI cI a_scene_cells 55 f_scene_cells, oX7 a_past a_past_rows f_past_most f_past_used, oX7 a_kept a_kept_rows f_kept_most f_kept_used, oX6 a_seen a_seen_actors a_seen_words f_seen_used]) (rest := []) (st' := [.int z14]) C mX8_278 q4_78 [.ref a_scene, .int (nI 2)] (fun l D => cX8_howMany_ct l D cI h a_letters a_board a_draft a_scene a_trial a_past a_kept a_seen a_reader a_search a_deal a_line a_board_commons a_board_lengths a_board_parts a_board_likenesses a_scene a_scene_cells f_length f_board_wordCount f_board_likenessCount f_board_actorCount f_board_forbiddenBits f_board_habitTold f_board_priceTold f_scene_cells (nI 2) e_z14) ⟨⟨rfl, rfl⟩, Nat.le_of_ble_eq_true rfl, Nat.le_of_ble_eq_true rfl⟩ 0 rfl rfl rfl [0, 1, 2, 3] rfl rfl rfl rfl rfl (Nat.le_of_ble_eq_true rfl) (Nat.zero_le _) (Nat.zero_le _) rfl dX8_count_126 ?_
                cases hs
                exact hR _ _ dX8_count_129
              · replace hs := vi_f hs c13
                by_cases c15 : x1 = (nI 7)
                · replace hs := vi_t hs c15
                  refine g_tableIn (tgt := 130) (off := 129) C dX8_count_1 (by rw [c15]; decide) (by rw [c15]; decide) (by rw [c15]; decide) (by decide) ?_
                  refine g_aload_n (pl := 0) C dX8_count_130 rfl rfl ?_
                  refine g_aload_n (pl := 0) C dX8_count_131 rfl rfl ?_
                  refine g_get C fX8_26 0 rfl rfl dX8_count_132 ?_
                  refine g_iconst (v := (nI 3)) C dX8_count_135 rfl ?_
                  obtain ⟨z16, e_z16, hs⟩ := vb_ok hs
                  refine g_callV (ws' := [oX8 h a_letters f_length a_board a_draft a_scene a_trial a_past a_kept a_seen a_reader a_search a_deal a_line, oX0 a_board a_board_commons a_board_lengths a_board_parts a_board_likenesses f_board_wordCount f_board_likenessCount f_board_actorCount f_board_forbiddenBits f_board_habitTold f_board_priceTold, oX4 a_scene a_scene_cells, aI cI a_scene_cells 55 f_scene_cells, oX7 a_past a_past_rows f_past_most f_past_used, oX7 a_kept a_kept_rows f_kept_most f_kept_used, oX6 a_seen a_seen_actors a_seen_words f_seen_used]) (rest := []) (st' := [.int z16]) C mX8_278 q4_78 [.ref a_scene, .int (nI 3)] (fun l D => cX8_howMany_ct l D cI h a_letters a_board a_draft a_scene a_trial a_past a_kept a_seen a_reader a_search a_deal a_line a_board_commons a_board_lengths a_board_parts a_board_likenesses a_scene a_scene_cells f_length f_board_wordCount f_board_likenessCount f_board_actorCount f_board_forbiddenBits f_board_habitTold f_board_priceTold f_scene_cells (nI 3) e_z16) ⟨⟨rfl, rfl⟩, Nat.le_of_ble_eq_true rfl, Nat.le_of_ble_eq_true rfl⟩ 0 rfl rfl rfl [0, 1, 2, 3] rfl rfl rfl rfl rfl (Nat.le_of_ble_eq_true rfl) (Nat.zero_le _) (Nat.zero_le _) rfl dX8_count_136 ?_
                  cases hs
                  exact hR _ _ dX8_count_139
                · replace hs := vi_f hs c15
                  by_cases c17 : x1 = (nI 8)
                  · replace hs := vi_t hs c17
                    refine g_tableIn (tgt := 140) (off := 139) C dX8_count_1 (by rw [c17]; decide) (by rw [c17]; decide) (by rw [c17]; decide) (by decide) ?_
                    refine g_aload_n (pl := 0) C dX8_count_140 rfl rfl ?_
                    refine g_aload_n (pl := 0) C dX8_count_141 rfl rfl ?_
                    refine g_get C fX8_26 0 rfl rfl dX8_count_142 ?_
                    refine g_iconst (v := (nI 3)) C dX8_count_145 rfl ?_
                    obtain ⟨z18, e_z18, hs⟩ := vb_ok hs
                    refine g_callV (ws' := [oX8 h a_letters f_length a_board a_draft a_scene a_trial a_past a_kept a_seen a_reader a_search a_deal a_line, oX0 a_board a_board_commons a_board_lengths a_board_parts a_board_likenesses f_board_wordCount f_board_likenessCount f_board_actorCount f_board_forbiddenBits f_board_habitTold f_board_priceTold, oX4 a_scene a_scene_cells, aI cI a_scene_cells 55 f_scene_cells, oX7 a_past a_past_rows f_past_most f_past_used, oX7 a_kept a_kept_rows f_kept_most f_kept_used, oX6 a_seen a_seen_actors a_seen_words f_seen_used]) (rest := []) (st' := [.int z18]) C mX8_280 q4_82 [.ref a_scene, .int (nI 3)] (fun l D => cX8_sumOf_ct l D cI h a_letters a_board a_draft a_scene a_trial a_past a_kept a_seen a_reader a_search a_deal a_line a_board_commons a_board_lengths a_board_parts a_board_likenesses a_scene a_scene_cells f_length f_board_wordCount f_board_likenessCount f_board_actorCount f_board_forbiddenBits f_board_habitTold f_board_priceTold f_scene_cells (nI 3) e_z18) ⟨⟨rfl, rfl⟩, Nat.le_of_ble_eq_true rfl, Nat.le_of_ble_eq_true rfl⟩ 0 rfl rfl rfl [0, 1, 2, 3] rfl rfl rfl rfl rfl (Nat.le_of_ble_eq_true rfl) (Nat.zero_le _) (Nat.zero_le _) rfl dX8_count_146 ?_
                    cases hs
                    exact hR _ _ dX8_count_149
                  · replace hs := vi_f hs c17
                    by_cases c19 : x1 = (nI 9)
                    · replace hs := vi_t hs c19
                      refine g_tableIn (tgt := 150) (off := 149) C dX8_count_1 (by rw [c19]; decide) (by rw [c19]; decide) (by rw [c19]; decide) (by decide) ?_
                      refine g_aload_n (pl := 0) C dX8_count_150 rfl rfl ?_
                      refine g_get C fX8_48 0 rfl rfl dX8_count_151 ?_
                      obtain ⟨z20, e_z20, hs⟩ := vb_ok hs
                      refine g_callV (ws' := [oX8 h a_letters f_length a_board a_draft a_scene a_trial a_past a_kept a_seen a_reader a_search a_deal a_line, oX0 a_board a_board_commons a_board_lengths a_board_parts a_board_likenesses f_board_wordCount f_board_likenessCount f_board_actorCount f_board_forbiddenBits f_board_habitTold f_board_priceTold, oX4 a_scene a_scene_cells, aI cI a_scene_cells 55 f_scene_cells, oX7 a_past a_past_rows f_past_most f_past_used, oX7 a_kept a_kept_rows f_kept_most f_kept_used, oX6 a_seen a_seen_actors a_seen_words f_seen_used]) (rest := []) (st' := [.int z20]) C mX8_283 q4_98 [] (fun l D => cX6_size_ct l D cI a_seen a_seen_actors a_seen_words f_seen_used e_z20) ⟨⟨rfl, rfl⟩, Nat.le_of_ble_eq_true rfl, Nat.le_of_ble_eq_true rfl⟩ 6 rfl rfl rfl [6] rfl rfl rfl rfl rfl (Nat.le_of_ble_eq_true rfl) (Nat.zero_le _) (Nat.zero_le _) rfl dX8_count_154 ?_
                      cases hs
                      exact hR _ _ dX8_count_157
                    · replace hs := vi_f hs c19
                      by_cases c21 : x1 = (nI 10)
                      · replace hs := vi_t hs c21
                        refine g_tableIn (tgt := 158) (off := 157) C dX8_count_1 (by rw [c21]; decide) (by rw [c21]; decide) (by rw [c21]; decide) (by decide) ?_
                        refine g_aload_n (pl := 0) C dX8_count_158 rfl rfl ?_
                        refine g_get C fX8_38 0 rfl rfl dX8_count_159 ?_
                        obtain ⟨z22, e_z22, hs⟩ := vb_ok hs
                        refine g_callV (ws' := [oX8 h a_letters f_length a_board a_draft a_scene a_trial a_past a_kept a_seen a_reader a_search a_deal a_line, oX0 a_board a_board_commons a_board_lengths a_board_parts a_board_likenesses f_board_wordCount f_board_likenessCount f_board_actorCount f_board_forbiddenBits f_board_habitTold f_board_priceTold, oX4 a_scene a_scene_cells, aI cI a_scene_cells 55 f_scene_cells, oX7 a_past a_past_rows f_past_most f_past_used, oX7 a_kept a_kept_rows f_kept_most f_kept_used, oX6 a_seen a_seen_actors a_seen_words f_seen_used]) (rest := []) (st' := [.int z22]) C mX8_183 q3_102 [] (fun l D => cX7_size_ct l D cI a_past a_past_rows f_past_most f_past_used e_z22) ⟨⟨rfl, rfl⟩, Nat.le_of_ble_eq_true rfl, Nat.le_of_ble_eq_true rfl⟩ 4 rfl rfl rfl [4] rfl rfl rfl rfl rfl (Nat.le_of_ble_eq_true rfl) (Nat.zero_le _) (Nat.zero_le _) rfl dX8_count_162 ?_
                        cases hs
                        exact hR _ _ dX8_count_165
                      · replace hs := vi_f hs c21
                        by_cases c23 : x1 = (nI 11)
                        · replace hs := vi_t hs c23
                          refine g_tableIn (tgt := 166) (off := 165) C dX8_count_1 (by rw [c23]; decide) (by rw [c23]; decide) (by rw [c23]; decide) (by decide) ?_
                          refine g_aload_n (pl := 0) C dX8_count_166 rfl rfl ?_
                          refine g_get C fX8_42 0 rfl rfl dX8_count_167 ?_
                          obtain ⟨z24, e_z24, hs⟩ := vb_ok hs
                          refine g_callV (ws' := [oX8 h a_letters f_length a_board a_draft a_scene a_trial a_past a_kept a_seen a_reader a_search a_deal a_line, oX0 a_board a_board_commons a_board_lengths a_board_parts a_board_likenesses f_board_wordCount f_board_likenessCount f_board_actorCount f_board_forbiddenBits f_board_habitTold f_board_priceTold, oX4 a_scene a_scene_cells, aI cI a_scene_cells 55 f_scene_cells, oX7 a_past a_past_rows f_past_most f_past_used, oX7 a_kept a_kept_rows f_kept_most f_kept_used, oX6 a_seen a_seen_actors a_seen_words f_seen_used]) (rest := []) (st' := [.int z24]) C mX8_183 q3_102 [] (fun l D => cX7_size_ct l D cI a_kept a_kept_rows f_kept_most f_kept_used e_z24) ⟨⟨rfl, rfl⟩, Nat.le_of_ble_eq_true rfl, Nat.le_of_ble_eq_true rfl⟩ 5 rfl rfl rfl [5] rfl rfl rfl rfl rfl (Nat.le_of_ble_eq_true rfl) (Nat.zero_le _) (Nat.zero_le _) rfl dX8_count_170 ?_
                          cases hs
                          exact hR _ _ dX8_count_173
                        · replace hs := vi_f hs c23
                          by_cases c25 : x1 = (nI 12)
                          · replace hs := vi_t hs c25
                            refine g_tableIn (tgt := 174) (off := 173) C dX8_count_1 (by rw [c25]; decide) (by rw [c25]; decide) (by rw [c25]; decide) (by decide) ?_
                            refine g_aload_n (pl := 0) C dX8_count_174 rfl rfl ?_
                            refine g_get C fX8_98 0 rfl rfl dX8_count_175 ?_
                            cases hs
                            exact hR _ _ dX8_count_178
                          · replace hs := vi_f hs c25
                            refine g_tableOut (tgt := 179) C dX8_count_1 (tsw_out 12 (fun k hk => match k, hk with | 0, _ => c1 | 1, _ => c3 | 2, _ => c5 | 3, _ => c7 | 4, _ => c9 | 5, _ => c11 | 6, _ => c13 | 7, _ => c15 | 8, _ => c17 | 9, _ => c19 | 10, _ => c21 | 11, _ => c23 | 12, _ => c25 | k + 13, h => absurd h (by omega))) (by decide) ?_
                            refine g_iconst (v := (-1)) C dX8_count_179 rfl ?_
                            cases hs
                            exact hR _ _ dX8_count_180

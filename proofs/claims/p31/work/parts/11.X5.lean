def LX5_weighAtFirst_21 (y_3 : Int32) (f_words : Int32) (f_p1_commons : Nat → Int32) (f_p1_lengths : Nat → Int32) (f_p1_parts : Nat → Int32) (f_p1_likenesses : Nat → Int32) (f_p1_habitTold : Int32) (f_p2_cells : Nat → Int32) : Nat → Int32 → (Nat → Int32) → (Nat → Int32) → Int32 → Option ((Nat → Int32) × (Nat → Int32) × Int32 × Int32)
  | 0, _, _, _, _ => none
  | n + 1, y_4, f_weights, f_lengths, f_open =>
    vi (f_words ≤ y_4) inferInstance (
      some (f_weights, f_lengths, f_words, f_open)) (
      vg (vin y_4 8) (
      vlet (upd f_lengths (Int32.toNatClampNeg y_4) (-4)) fun u3 =>
      vb (sX0_habit f_p1_habitTold) fun z4 =>
      vb (sX0_weightOf f_p1_commons f_p1_lengths f_p1_parts f_p1_likenesses f_p2_cells y_3 y_4 (nI 31) z4) fun z5 =>
      vg (vin y_4 32) (
      vlet (upd f_weights (Int32.toNatClampNeg y_4) z5) fun u7 =>
      vg (vin y_4 32) (
      vi ((u7 (Int32.toNatClampNeg y_4)) ≤ 0) inferInstance (
        vlet (y_4 + (nI 1)) fun y10 =>
        LX5_weighAtFirst_21 y_3 f_words f_p1_commons f_p1_lengths f_p1_parts f_p1_likenesses f_p1_habitTold f_p2_cells n y10 u7 u3 f_open) (
        vlet (f_open + (nI 1)) fun y11 =>
        vlet (y_4 + (nI 1)) fun y12 =>
        LX5_weighAtFirst_21 y_3 f_words f_p1_commons f_p1_lengths f_p1_parts f_p1_likenesses f_p1_habitTold f_p2_cells n y12 u7 u3 y11)))))
def sX5_weighAtFirst (f_weights : Nat → Int32) (f_lengths : Nat → Int32) (f_words : Int32) (f_open : Int32) (f_p1_commons : Nat → Int32) (f_p1_lengths : Nat → Int32) (f_p1_parts : Nat → Int32) (f_p1_likenesses : Nat → Int32) (f_p1_wordCount : Int32) (f_p1_habitTold : Int32) (f_p2_cells : Nat → Int32) (x3 : Int32) : Option ((Nat → Int32) × (Nat → Int32) × Int32 × Int32) :=
  vb (sX0_words f_p1_wordCount) fun z13 =>
  vlet (if (nI 8) < z13 then (nI 8) else z13) fun y14 =>
  LX5_weighAtFirst_21 x3 y14 f_p1_commons f_p1_lengths f_p1_parts f_p1_likenesses f_p1_habitTold f_p2_cells vF (nI 0) f_weights f_lengths (nI 0)
abbrev rmX5_weighAtFirst : Room := { frames := 3, cells := 0, slots := 0, locals := 74 }
set_option maxHeartbeats 4000000 in
set_option maxRecDepth 100000 in
theorem LX5_weighAtFirst_21_w {cI : ClassId} {X : xT} (C : cx cI X 5 cX5_weighAtFirst RX5 rmX5_weighAtFirst) (h : Nat) (a_free : Nat) (a_factors : Nat) (a_weights : Nat) (a_row : Nat) (a_lengths : Nat) (a_signs : Nat) (a_p1 : Nat) (a_p1_commons : Nat) (a_p1_lengths : Nat) (a_p1_parts : Nat) (a_p1_likenesses : Nat) (a_p2 : Nat) (a_p2_cells : Nat) (f_words : Int32) (f_freeCount : Int32) (f_p1_wordCount : Int32) (f_p1_likenessCount : Int32) (f_p1_actorCount : Int32) (f_p1_forbiddenBits : Int32) (f_p1_habitTold : Int32) (f_p1_priceTold : Int32) (f_p1_commons : Nat → Int32) (f_p1_lengths : Nat → Int32) (f_p1_parts : Nat → Int32) (f_p1_likenesses : Nat → Int32) (f_p2_cells : Nat → Int32) (y_3 : Int32) {z : (Nat → Int32) × (Nat → Int32) × Int32 × Int32} (hR : ∀ (lv : List (Nat × Value)) (pc : Nat), decode cX5_weighAtFirst pc = .ok (.return_, 1) → gg cI X 5 0 0 [oX5 h a_free a_factors a_weights a_row a_lengths a_signs z.2.2.1 f_freeCount z.2.2.2, aI cI a_weights 32 z.1, aI cI a_lengths 8 z.2.1, oX0 a_p1 a_p1_commons a_p1_lengths a_p1_parts a_p1_likenesses f_p1_wordCount f_p1_likenessCount f_p1_actorCount f_p1_forbiddenBits f_p1_habitTold f_p1_priceTold, aI cI a_p1_commons 8 f_p1_commons, aI cI a_p1_lengths 8 f_p1_lengths, aI cI a_p1_parts 8 f_p1_parts, aI cI a_p1_likenesses 6 f_p1_likenesses, oX4 a_p2 a_p2_cells, aI cI a_p2_cells 55 f_p2_cells] lv pc []) : ∀ (n : Nat) (y_4 : Int32) (f_weights : Nat → Int32) (f_lengths : Nat → Int32) (f_open : Int32), LX5_weighAtFirst_21 y_3 f_words f_p1_commons f_p1_lengths f_p1_parts f_p1_likenesses f_p1_habitTold f_p2_cells n y_4 f_weights f_lengths f_open = some z → gg cI X 5 0 0 [oX5 h a_free a_factors a_weights a_row a_lengths a_signs f_words f_freeCount f_open, aI cI a_weights 32 f_weights, aI cI a_lengths 8 f_lengths, oX0 a_p1 a_p1_commons a_p1_lengths a_p1_parts a_p1_likenesses f_p1_wordCount f_p1_likenessCount f_p1_actorCount f_p1_forbiddenBits f_p1_habitTold f_p1_priceTold, aI cI a_p1_commons 8 f_p1_commons, aI cI a_p1_lengths 8 f_p1_lengths, aI cI a_p1_parts 8 f_p1_parts, aI cI a_p1_likenesses 6 f_p1_likenesses, oX4 a_p2 a_p2_cells, aI cI a_p2_cells 55 f_p2_cells] [(0, .ref h), (1, .ref a_p1), (2, .ref a_p2), (3, .int y_3), (4, .int y_4)] 21 [] := by
  intro n
  induction n with
  | zero =>
    intro y_4 f_weights f_lengths f_open hs
    exact nn_ok hs
  | succ n ih =>
    intro y_4 f_weights f_lengths f_open hs
    rw [LX5_weighAtFirst_21] at hs
    refine g_iload (pl := 4) C dX5_weighAtFirst_21 rfl ?_
    refine g_aload_n (pl := 0) C dX5_weighAtFirst_23 rfl rfl ?_
    refine g_get C fX5_56 0 rfl rfl dX5_weighAtFirst_24 ?_
    refine g_icmp_ge (tgt := 86) C dX5_weighAtFirst_27 (by decide) (fun c1 => ?_) (fun c1 => ?_)
    · replace hs := vi_t hs c1
      cases hs
      exact hR _ _ dX5_weighAtFirst_86
    · replace hs := vi_f hs c1
      refine g_aload_n (pl := 0) C dX5_weighAtFirst_30 rfl rfl ?_
      refine g_get C fX5_24 0 rfl rfl dX5_weighAtFirst_31 ?_
      refine g_iload (pl := 4) C dX5_weighAtFirst_34 rfl ?_
      refine g_bipush (v := (-4)) C dX5_weighAtFirst_36 rfl ?_
      obtain ⟨b2, hs⟩ := vg_ok hs
      obtain ⟨u3, e_u3, hs⟩ := vlet_ex hs
      refine g_iast (ws' := [oX5 h a_free a_factors a_weights a_row a_lengths a_signs f_words f_freeCount f_open, aI cI a_weights 32 f_weights, aI cI a_lengths 8 u3, oX0 a_p1 a_p1_commons a_p1_lengths a_p1_parts a_p1_likenesses f_p1_wordCount f_p1_likenessCount f_p1_actorCount f_p1_forbiddenBits f_p1_habitTold f_p1_priceTold, aI cI a_p1_commons 8 f_p1_commons, aI cI a_p1_lengths 8 f_p1_lengths, aI cI a_p1_parts 8 f_p1_parts, aI cI a_p1_likenesses 6 f_p1_likenesses, oX4 a_p2 a_p2_cells, aI cI a_p2_cells 55 f_p2_cells]) C 2 rfl (vin_ok b2) (by rw [e_u3]; rfl) dX5_weighAtFirst_38 ?_
      refine g_aload_n (pl := 0) C dX5_weighAtFirst_39 rfl rfl ?_
      refine g_get C fX5_18 0 rfl rfl dX5_weighAtFirst_40 ?_
      refine g_iload (pl := 4) C dX5_weighAtFirst_43 rfl ?_
      refine g_aload_n (pl := 1) C dX5_weighAtFirst_45 rfl rfl ?_
      refine g_aload_n (pl := 2) C dX5_weighAtFirst_46 rfl rfl ?_
      refine g_iload_n (pl := 3) C dX5_weighAtFirst_47 rfl rfl ?_
      refine g_iload (pl := 4) C dX5_weighAtFirst_48 rfl ?_
      refine g_bipush (v := (nI 31)) C dX5_weighAtFirst_50 rfl ?_
      refine g_aload_n (pl := 1) C dX5_weighAtFirst_52 rfl rfl ?_
      obtain ⟨z4, e_z4, hs⟩ := vb_ok hs
      refine g_callV (ws' := [oX5 h a_free a_factors a_weights a_row a_lengths a_signs f_words f_freeCount f_open, aI cI a_weights 32 f_weights, aI cI a_lengths 8 u3, oX0 a_p1 a_p1_commons a_p1_lengths a_p1_parts a_p1_likenesses f_p1_wordCount f_p1_likenessCount f_p1_actorCount f_p1_forbiddenBits f_p1_habitTold f_p1_priceTold, aI cI a_p1_commons 8 f_p1_commons, aI cI a_p1_lengths 8 f_p1_lengths, aI cI a_p1_parts 8 f_p1_parts, aI cI a_p1_likenesses 6 f_p1_likenesses, oX4 a_p2 a_p2_cells, aI cI a_p2_cells 55 f_p2_cells]) (rest := [.int (nI 31), .int y_4, .int y_3, .ref a_p2, .ref a_p1, .int y_4, .ref a_weights]) (st' := [.int z4, .int (nI 31), .int y_4, .int y_3, .ref a_p2, .ref a_p1, .int y_4, .ref a_weights]) C mX5_72 q3_40 [] (fun l D => cX0_habit_ct l D cI a_p1 a_p1_commons a_p1_lengths a_p1_parts a_p1_likenesses f_p1_wordCount f_p1_likenessCount f_p1_actorCount f_p1_forbiddenBits f_p1_habitTold f_p1_priceTold e_z4) ⟨⟨rfl, rfl⟩, Nat.le_of_ble_eq_true rfl, Nat.le_of_ble_eq_true rfl⟩ 3 rfl rfl rfl [3] rfl rfl rfl rfl rfl (Nat.le_of_ble_eq_true rfl) (Nat.zero_le _) (Nat.zero_le _) rfl dX5_weighAtFirst_53 ?_
      obtain ⟨z5, e_z5, hs⟩ := vb_ok hs
      refine g_callV (ws' := [oX5 h a_free a_factors a_weights a_row a_lengths a_signs f_words f_freeCount f_open, aI cI a_weights 32 f_weights, aI cI a_lengths 8 u3, oX0 a_p1 a_p1_commons a_p1_lengths a_p1_parts a_p1_likenesses f_p1_wordCount f_p1_likenessCount f_p1_actorCount f_p1_forbiddenBits f_p1_habitTold f_p1_priceTold, aI cI a_p1_commons 8 f_p1_commons, aI cI a_p1_lengths 8 f_p1_lengths, aI cI a_p1_parts 8 f_p1_parts, aI cI a_p1_likenesses 6 f_p1_likenesses, oX4 a_p2 a_p2_cells, aI cI a_p2_cells 55 f_p2_cells]) (rest := [.int y_4, .ref a_weights]) (st' := [.int z5, .int y_4, .ref a_weights]) C mX5_75 q3_48 [.ref a_p2, .int y_3, .int y_4, .int (nI 31), .int z4] (fun l D => cX0_weightOf_ct l D cI a_p1 a_p1_commons a_p1_lengths a_p1_parts a_p1_likenesses a_p2 a_p2_cells f_p1_wordCount f_p1_likenessCount f_p1_actorCount f_p1_forbiddenBits f_p1_habitTold f_p1_priceTold f_p1_commons f_p1_lengths f_p1_parts f_p1_likenesses f_p2_cells y_3 y_4 (nI 31) z4 e_z5) ⟨⟨rfl, rfl⟩, Nat.le_of_ble_eq_true rfl, Nat.le_of_ble_eq_true rfl⟩ 3 rfl rfl rfl [3, 4, 5, 6, 7, 8, 9] rfl rfl rfl rfl rfl (Nat.le_of_ble_eq_true rfl) (Nat.zero_le _) (Nat.zero_le _) rfl dX5_weighAtFirst_56 ?_
      obtain ⟨b6, hs⟩ := vg_ok hs
      obtain ⟨u7, e_u7, hs⟩ := vlet_ex hs
      refine g_iast (ws' := [oX5 h a_free a_factors a_weights a_row a_lengths a_signs f_words f_freeCount f_open, aI cI a_weights 32 u7, aI cI a_lengths 8 u3, oX0 a_p1 a_p1_commons a_p1_lengths a_p1_parts a_p1_likenesses f_p1_wordCount f_p1_likenessCount f_p1_actorCount f_p1_forbiddenBits f_p1_habitTold f_p1_priceTold, aI cI a_p1_commons 8 f_p1_commons, aI cI a_p1_lengths 8 f_p1_lengths, aI cI a_p1_parts 8 f_p1_parts, aI cI a_p1_likenesses 6 f_p1_likenesses, oX4 a_p2 a_p2_cells, aI cI a_p2_cells 55 f_p2_cells]) C 1 rfl (vin_ok b6) (by rw [e_u7]; rfl) dX5_weighAtFirst_59 ?_
      refine g_aload_n (pl := 0) C dX5_weighAtFirst_60 rfl rfl ?_
      refine g_get C fX5_18 0 rfl rfl dX5_weighAtFirst_61 ?_
      refine g_iload (pl := 4) C dX5_weighAtFirst_64 rfl ?_
      obtain ⟨b8, hs⟩ := vg_ok hs
      refine g_iald C 1 rfl (vin_ok b8) dX5_weighAtFirst_66 ?_
      refine g_if_le (tgt := 80) C dX5_weighAtFirst_67 (by decide) (fun c9 => ?_) (fun c9 => ?_)
      · replace hs := vi_t hs c9
        obtain ⟨y10, e_y10, hs⟩ := vlet_ex hs
        refine g_iinc (pl := 4) (lv' := [(4, .int y10), (0, .ref h), (1, .ref a_p1), (2, .ref a_p2), (3, .int y_3)]) C dX5_weighAtFirst_80 rfl e_y10.symm (by decide) rfl ?_
        refine g_goto (tgt := 21) C dX5_weighAtFirst_83 (by decide) ?_
        refine g_sub [1, 2, 3, 4, 0] rfl ?_
        exact ih y10 u7 u3 f_open hs
      · replace hs := vi_f hs c9
        refine g_aload_n (pl := 0) C dX5_weighAtFirst_70 rfl rfl ?_
        refine g_dup C dX5_weighAtFirst_71 rfl ?_
        refine g_get C fX5_69 0 rfl rfl dX5_weighAtFirst_72 ?_
        refine g_iconst (v := (nI 1)) C dX5_weighAtFirst_75 rfl ?_
        refine g_iadd C dX5_weighAtFirst_76 ?_
        obtain ⟨y11, e_y11, hs⟩ := vlet_ex hs
        refine g_topi e_y11 ?_
        refine g_putI (ws' := [oX5 h a_free a_factors a_weights a_row a_lengths a_signs f_words f_freeCount y11, aI cI a_weights 32 u7, aI cI a_lengths 8 u3, oX0 a_p1 a_p1_commons a_p1_lengths a_p1_parts a_p1_likenesses f_p1_wordCount f_p1_likenessCount f_p1_actorCount f_p1_forbiddenBits f_p1_habitTold f_p1_priceTold, aI cI a_p1_commons 8 f_p1_commons, aI cI a_p1_lengths 8 f_p1_lengths, aI cI a_p1_parts 8 f_p1_parts, aI cI a_p1_likenesses 6 f_p1_likenesses, oX4 a_p2 a_p2_cells, aI cI a_p2_cells 55 f_p2_cells]) C fX5_69 0 rfl (Nat.le_of_ble_eq_true rfl) rfl dX5_weighAtFirst_77 ?_
        obtain ⟨y12, e_y12, hs⟩ := vlet_ex hs
        refine g_iinc (pl := 4) (lv' := [(4, .int y12), (0, .ref h), (1, .ref a_p1), (2, .ref a_p2), (3, .int y_3)]) C dX5_weighAtFirst_80 rfl e_y12.symm (by decide) rfl ?_
        refine g_goto (tgt := 21) C dX5_weighAtFirst_83 (by decide) ?_
        refine g_sub [1, 2, 3, 4, 0] rfl ?_
        exact ih y12 u7 u3 y11 hs
set_option maxHeartbeats 4000000 in
set_option maxRecDepth 100000 in
theorem cX5_weighAtFirst_ct (l : Launch) (D : va_G) (cI : ClassId) (h : Nat) (a_free : Nat) (a_factors : Nat) (a_weights : Nat) (a_row : Nat) (a_lengths : Nat) (a_signs : Nat) (a_p1 : Nat) (a_p1_commons : Nat) (a_p1_lengths : Nat) (a_p1_parts : Nat) (a_p1_likenesses : Nat) (a_p2 : Nat) (a_p2_cells : Nat) (f_words : Int32) (f_freeCount : Int32) (f_open : Int32) (f_weights : Nat → Int32) (f_lengths : Nat → Int32) (f_p1_wordCount : Int32) (f_p1_likenessCount : Int32) (f_p1_actorCount : Int32) (f_p1_forbiddenBits : Int32) (f_p1_habitTold : Int32) (f_p1_priceTold : Int32) (f_p1_commons : Nat → Int32) (f_p1_lengths : Nat → Int32) (f_p1_parts : Nat → Int32) (f_p1_likenesses : Nat → Int32) (f_p2_cells : Nat → Int32) (x3 : Int32) {z : (Nat → Int32) × (Nat → Int32) × Int32 × Int32} (hs : sX5_weighAtFirst f_weights f_lengths f_words f_open f_p1_commons f_p1_lengths f_p1_parts f_p1_likenesses f_p1_wordCount f_p1_habitTold f_p2_cells x3 = some z) : ct l yX5_weighAtFirst (.code yX5_weighAtFirst cX5_weighAtFirst 5 none :: gtb) rmX5_weighAtFirst D cI [.ref h, .ref a_p1, .ref a_p2, .int x3] [oX5 h a_free a_factors a_weights a_row a_lengths a_signs f_words f_freeCount f_open, aI cI a_weights 32 f_weights, aI cI a_lengths 8 f_lengths, oX0 a_p1 a_p1_commons a_p1_lengths a_p1_parts a_p1_likenesses f_p1_wordCount f_p1_likenessCount f_p1_actorCount f_p1_forbiddenBits f_p1_habitTold f_p1_priceTold, aI cI a_p1_commons 8 f_p1_commons, aI cI a_p1_lengths 8 f_p1_lengths, aI cI a_p1_parts 8 f_p1_parts, aI cI a_p1_likenesses 6 f_p1_likenesses, oX4 a_p2 a_p2_cells, aI cI a_p2_cells 55 f_p2_cells] none [oX5 h a_free a_factors a_weights a_row a_lengths a_signs z.2.2.1 f_freeCount z.2.2.2, aI cI a_weights 32 z.1, aI cI a_lengths 8 z.2.1, oX0 a_p1 a_p1_commons a_p1_lengths a_p1_parts a_p1_likenesses f_p1_wordCount f_p1_likenessCount f_p1_actorCount f_p1_forbiddenBits f_p1_habitTold f_p1_priceTold, aI cI a_p1_commons 8 f_p1_commons, aI cI a_p1_lengths 8 f_p1_lengths, aI cI a_p1_parts 8 f_p1_parts, aI cI a_p1_likenesses 6 f_p1_likenesses, oX4 a_p2 a_p2_cells, aI cI a_p2_cells 55 f_p2_cells] := by
  refine ct_ofV (own := RX5) (by decide +kernel) rfl (Nat.le_of_ble_eq_true rfl) (fun X C hD hR => ?_)
  unfold sX5_weighAtFirst at hs
  show gg cI X 5 0 0 [oX5 h a_free a_factors a_weights a_row a_lengths a_signs f_words f_freeCount f_open, aI cI a_weights 32 f_weights, aI cI a_lengths 8 f_lengths, oX0 a_p1 a_p1_commons a_p1_lengths a_p1_parts a_p1_likenesses f_p1_wordCount f_p1_likenessCount f_p1_actorCount f_p1_forbiddenBits f_p1_habitTold f_p1_priceTold, aI cI a_p1_commons 8 f_p1_commons, aI cI a_p1_lengths 8 f_p1_lengths, aI cI a_p1_parts 8 f_p1_parts, aI cI a_p1_likenesses 6 f_p1_likenesses, oX4 a_p2 a_p2_cells, aI cI a_p2_cells 55 f_p2_cells] [(0, .ref h), (1, .ref a_p1), (2, .ref a_p2), (3, .int x3)] 0 []
  refine g_aload_n (pl := 0) C dX5_weighAtFirst_0 rfl rfl ?_
  refine g_aload_n (pl := 1) C dX5_weighAtFirst_1 rfl rfl ?_
  obtain ⟨z13, e_z13, hs⟩ := vb_ok hs
  refine g_callV (ws' := [oX5 h a_free a_factors a_weights a_row a_lengths a_signs f_words f_freeCount f_open, aI cI a_weights 32 f_weights, aI cI a_lengths 8 f_lengths, oX0 a_p1 a_p1_commons a_p1_lengths a_p1_parts a_p1_likenesses f_p1_wordCount f_p1_likenessCount f_p1_actorCount f_p1_forbiddenBits f_p1_habitTold f_p1_priceTold, aI cI a_p1_commons 8 f_p1_commons, aI cI a_p1_lengths 8 f_p1_lengths, aI cI a_p1_parts 8 f_p1_parts, aI cI a_p1_likenesses 6 f_p1_likenesses, oX4 a_p2 a_p2_cells, aI cI a_p2_cells 55 f_p2_cells]) (rest := [.ref h]) (st' := [.int z13, .ref h]) C mX5_64 q2_57 [] (fun l D => cX0_words_ct l D cI a_p1 a_p1_commons a_p1_lengths a_p1_parts a_p1_likenesses f_p1_wordCount f_p1_likenessCount f_p1_actorCount f_p1_forbiddenBits f_p1_habitTold f_p1_priceTold e_z13) ⟨⟨rfl, rfl⟩, Nat.le_of_ble_eq_true rfl, Nat.le_of_ble_eq_true rfl⟩ 3 rfl rfl rfl [3] rfl rfl rfl rfl rfl (Nat.le_of_ble_eq_true rfl) (Nat.zero_le _) (Nat.zero_le _) rfl dX5_weighAtFirst_2 ?_
  refine g_bipush (v := (nI 8)) C dX5_weighAtFirst_5 rfl ?_
  refine g_min C q3_129 q2_8 q1_14 q2_9 (Nat.le_of_ble_eq_true rfl) (Nat.le_of_ble_eq_true rfl) (Nat.zero_le _) (Nat.zero_le _) dX5_weighAtFirst_7 ?_
  obtain ⟨y14, e_y14, hs⟩ := vlet_ex hs
  refine g_topi e_y14 ?_
  refine g_putI (ws' := [oX5 h a_free a_factors a_weights a_row a_lengths a_signs y14 f_freeCount f_open, aI cI a_weights 32 f_weights, aI cI a_lengths 8 f_lengths, oX0 a_p1 a_p1_commons a_p1_lengths a_p1_parts a_p1_likenesses f_p1_wordCount f_p1_likenessCount f_p1_actorCount f_p1_forbiddenBits f_p1_habitTold f_p1_priceTold, aI cI a_p1_commons 8 f_p1_commons, aI cI a_p1_lengths 8 f_p1_lengths, aI cI a_p1_parts 8 f_p1_parts, aI cI a_p1_likenesses 6 f_p1_likenesses, oX4 a_p2 a_p2_cells, aI cI a_p2_cells 55 f_p2_cells]) C fX5_56 0 rfl (Nat.le_of_ble_eq_true rfl) rfl dX5_weighAtFirst_10 ?_
  refine g_aload_n (pl := 0) C dX5_weighAtFirst_13 rfl rfl ?_
  refine g_iconst (v := (nI 0)) C dX5_weighAtFirst_14 rfl ?_
  refine g_putI (ws' := [oX5 h a_free a_factors a_weights a_row a_lengths a_signs y14 f_freeCount (nI 0), aI cI a_weights 32 f_weights, aI cI a_lengths 8 f_lengths, oX0 a_p1 a_p1_commons a_p1_lengths a_p1_parts a_p1_likenesses f_p1_wordCount f_p1_likenessCount f_p1_actorCount f_p1_forbiddenBits f_p1_habitTold f_p1_priceTold, aI cI a_p1_commons 8 f_p1_commons, aI cI a_p1_lengths 8 f_p1_lengths, aI cI a_p1_parts 8 f_p1_parts, aI cI a_p1_likenesses 6 f_p1_likenesses, oX4 a_p2 a_p2_cells, aI cI a_p2_cells 55 f_p2_cells]) C fX5_69 0 rfl (Nat.le_of_ble_eq_true rfl) rfl dX5_weighAtFirst_15 ?_
  refine g_iconst (v := (nI 0)) C dX5_weighAtFirst_18 rfl ?_
  refine g_istore (lv' := [(4, .int (nI 0)), (0, .ref h), (1, .ref a_p1), (2, .ref a_p2), (3, .int x3)]) C dX5_weighAtFirst_19 (by decide) rfl ?_
  refine g_sub [1, 2, 3, 4, 0] rfl ?_
  exact LX5_weighAtFirst_21_w C h a_free a_factors a_weights a_row a_lengths a_signs a_p1 a_p1_commons a_p1_lengths a_p1_parts a_p1_likenesses a_p2 a_p2_cells y14 f_freeCount f_p1_wordCount f_p1_likenessCount f_p1_actorCount f_p1_forbiddenBits f_p1_habitTold f_p1_priceTold f_p1_commons f_p1_lengths f_p1_parts f_p1_likenesses f_p2_cells x3 hR _ (nI 0) f_weights f_lengths (nI 0) hs
def LX5_findFree_42 (y_2 : Int32) (y_3 : Int32) (f_words : Int32) (f_freeCount : Int32) (f_p1_lengths : Nat → Int32) (f_p1_parts : Nat → Int32) (f_p1_likenesses : Nat → Int32) (f_p1_habitTold : Int32) (K84 : (Nat → Int32) → Option ((Nat → Int32) × (Nat → Int32) × Int32)) : Nat → Int32 → (Nat → Int32) → Option ((Nat → Int32) × (Nat → Int32) × Int32)
  | 0, _, _ => none
  | n + 1, y_4, f_factors =>
    vi (f_words ≤ y_4) inferInstance (
      K84 f_factors) (
      vb (sX0_habit f_p1_habitTold) fun z2 =>
      vb (sX0_factor f_p1_lengths f_p1_parts f_p1_likenesses y_2 y_3 y_4 z2) fun z3 =>
      vg (vin ((f_freeCount * (nI 8)) + y_4) 120) (
      vlet (upd f_factors (Int32.toNatClampNeg ((f_freeCount * (nI 8)) + y_4)) z3) fun u5 =>
      vlet (y_4 + (nI 1)) fun y6 =>
      LX5_findFree_42 y_2 y_3 f_words f_freeCount f_p1_lengths f_p1_parts f_p1_likenesses f_p1_habitTold K84 n y6 u5))
def LX5_findFree_7 (y_2 : Int32) (f_words : Int32) (f_p1_lengths : Nat → Int32) (f_p1_parts : Nat → Int32) (f_p1_likenesses : Nat → Int32) (f_p1_likenessCount : Int32) (f_p1_forbiddenBits : Int32) (f_p1_habitTold : Int32) : Nat → Int32 → (Nat → Int32) → (Nat → Int32) → Int32 → Option ((Nat → Int32) × (Nat → Int32) × Int32)
  | 0, _, _, _, _ => none
  | n + 1, y_3, f_free, f_factors, f_freeCount =>
    vb (sX0_signs f_p1_likenessCount) fun z7 =>
    vi (z7 ≤ y_3) inferInstance (
      some (f_free, f_factors, f_freeCount)) (
      vi ((nI 15) ≤ y_3) inferInstance (
        some (f_free, f_factors, f_freeCount)) (
        vb (sX0_isForbidden f_p1_forbiddenBits y_3) fun z10 =>
        vi (z10 = 0) inferInstance (
          vg (vin f_freeCount 15) (
          vlet (upd f_free (Int32.toNatClampNeg f_freeCount) y_3) fun u14 =>
          LX5_findFree_42 y_2 y_3 f_words f_freeCount f_p1_lengths f_p1_parts f_p1_likenesses f_p1_habitTold (fun (v15 : Nat → Int32) =>
              vlet (f_freeCount + (nI 1)) fun y16 =>
              vlet (y_3 + (nI 1)) fun y17 =>
              LX5_findFree_7 y_2 f_words f_p1_lengths f_p1_parts f_p1_likenesses f_p1_likenessCount f_p1_forbiddenBits f_p1_habitTold n y17 u14 v15 y16) vF (nI 0) f_factors)) (
          vlet (y_3 + (nI 1)) fun y12 =>
          LX5_findFree_7 y_2 f_words f_p1_lengths f_p1_parts f_p1_likenesses f_p1_likenessCount f_p1_forbiddenBits f_p1_habitTold n y12 f_free f_factors f_freeCount)))
def sX5_findFree (f_free : Nat → Int32) (f_factors : Nat → Int32) (f_words : Int32) (f_freeCount : Int32) (f_p1_lengths : Nat → Int32) (f_p1_parts : Nat → Int32) (f_p1_likenesses : Nat → Int32) (f_p1_likenessCount : Int32) (f_p1_forbiddenBits : Int32) (f_p1_habitTold : Int32) (x2 : Int32) : Option ((Nat → Int32) × (Nat → Int32) × Int32) :=
  LX5_findFree_7 x2 f_words f_p1_lengths f_p1_parts f_p1_likenesses f_p1_likenessCount f_p1_forbiddenBits f_p1_habitTold vF (nI 0) f_free f_factors (nI 0)
abbrev rmX5_findFree : Room := { frames := 2, cells := 0, slots := 0, locals := 47 }
set_option maxHeartbeats 4000000 in
set_option maxRecDepth 100000 in
theorem LX5_findFree_42_w {cI : ClassId} {X : xT} (C : cx cI X 5 cX5_findFree RX5 rmX5_findFree) (h : Nat) (a_free : Nat) (a_factors : Nat) (a_weights : Nat) (a_row : Nat) (a_lengths : Nat) (a_signs : Nat) (a_p1 : Nat) (a_p1_commons : Nat) (a_p1_lengths : Nat) (a_p1_parts : Nat) (a_p1_likenesses : Nat) (f_words : Int32) (f_freeCount : Int32) (f_open : Int32) (f_free : Nat → Int32) (f_p1_wordCount : Int32) (f_p1_likenessCount : Int32) (f_p1_actorCount : Int32) (f_p1_forbiddenBits : Int32) (f_p1_habitTold : Int32) (f_p1_priceTold : Int32) (f_p1_lengths : Nat → Int32) (f_p1_parts : Nat → Int32) (f_p1_likenesses : Nat → Int32) (y_2 : Int32) (y_3 : Int32) {z : (Nat → Int32) × (Nat → Int32) × Int32} (hR : ∀ (lv : List (Nat × Value)) (pc : Nat), decode cX5_findFree pc = .ok (.return_, 1) → gg cI X 5 0 0 [oX5 h a_free a_factors a_weights a_row a_lengths a_signs f_words z.2.2 f_open, aI cI a_free 15 z.1, aI cI a_factors 120 z.2.1, oX0 a_p1 a_p1_commons a_p1_lengths a_p1_parts a_p1_likenesses f_p1_wordCount f_p1_likenessCount f_p1_actorCount f_p1_forbiddenBits f_p1_habitTold f_p1_priceTold, aI cI a_p1_lengths 8 f_p1_lengths, aI cI a_p1_parts 8 f_p1_parts, aI cI a_p1_likenesses 6 f_p1_likenesses] lv pc []) {K84 : (Nat → Int32) → Option ((Nat → Int32) × (Nat → Int32) × Int32)} (hK84 : ∀ (kf_factors : Nat → Int32), K84 kf_factors = some z → gg cI X 5 0 0 [oX5 h a_free a_factors a_weights a_row a_lengths a_signs f_words f_freeCount f_open, aI cI a_free 15 f_free, aI cI a_factors 120 kf_factors, oX0 a_p1 a_p1_commons a_p1_lengths a_p1_parts a_p1_likenesses f_p1_wordCount f_p1_likenessCount f_p1_actorCount f_p1_forbiddenBits f_p1_habitTold f_p1_priceTold, aI cI a_p1_lengths 8 f_p1_lengths, aI cI a_p1_parts 8 f_p1_parts, aI cI a_p1_likenesses 6 f_p1_likenesses] [(0, .ref h), (1, .ref a_p1), (2, .int y_2), (3, .int y_3)] 84 []) : ∀ (n : Nat) (y_4 : Int32) (f_factors : Nat → Int32), LX5_findFree_42 y_2 y_3 f_words f_freeCount f_p1_lengths f_p1_parts f_p1_likenesses f_p1_habitTold K84 n y_4 f_factors = some z → gg cI X 5 0 0 [oX5 h a_free a_factors a_weights a_row a_lengths a_signs f_words f_freeCount f_open, aI cI a_free 15 f_free, aI cI a_factors 120 f_factors, oX0 a_p1 a_p1_commons a_p1_lengths a_p1_parts a_p1_likenesses f_p1_wordCount f_p1_likenessCount f_p1_actorCount f_p1_forbiddenBits f_p1_habitTold f_p1_priceTold, aI cI a_p1_lengths 8 f_p1_lengths, aI cI a_p1_parts 8 f_p1_parts, aI cI a_p1_likenesses 6 f_p1_likenesses] [(0, .ref h), (1, .ref a_p1), (2, .int y_2), (3, .int y_3), (4, .int y_4)] 42 [] := by
  intro n
  induction n with
  | zero =>
    intro y_4 f_factors hs
    exact nn_ok hs
  | succ n ih =>
    intro y_4 f_factors hs
    rw [LX5_findFree_42] at hs
    refine g_iload (pl := 4) C dX5_findFree_42 rfl ?_
    refine g_aload_n (pl := 0) C dX5_findFree_44 rfl rfl ?_
    refine g_get C fX5_56 0 rfl rfl dX5_findFree_45 ?_
    refine g_icmp_ge (tgt := 84) C dX5_findFree_48 (by decide) (fun c1 => ?_) (fun c1 => ?_)
    · replace hs := vi_t hs c1
      refine g_sub [0, 1, 2, 3] rfl ?_
      exact hK84 f_factors hs
    · replace hs := vi_f hs c1
      refine g_aload_n (pl := 0) C dX5_findFree_51 rfl rfl ?_
      refine g_get C fX5_15 0 rfl rfl dX5_findFree_52 ?_
      refine g_aload_n (pl := 0) C dX5_findFree_55 rfl rfl ?_
      refine g_get C fX5_79 0 rfl rfl dX5_findFree_56 ?_
      refine g_bipush (v := (nI 8)) C dX5_findFree_59 rfl ?_
      refine g_imul C dX5_findFree_61 ?_
      refine g_iload (pl := 4) C dX5_findFree_62 rfl ?_
      refine g_iadd C dX5_findFree_64 ?_
      refine g_aload_n (pl := 1) C dX5_findFree_65 rfl rfl ?_
      refine g_iload_n (pl := 2) C dX5_findFree_66 rfl rfl ?_
      refine g_iload_n (pl := 3) C dX5_findFree_67 rfl rfl ?_
      refine g_iload (pl := 4) C dX5_findFree_68 rfl ?_
      refine g_aload_n (pl := 1) C dX5_findFree_70 rfl rfl ?_
      obtain ⟨z2, e_z2, hs⟩ := vb_ok hs
      refine g_callV (ws' := [oX5 h a_free a_factors a_weights a_row a_lengths a_signs f_words f_freeCount f_open, aI cI a_free 15 f_free, aI cI a_factors 120 f_factors, oX0 a_p1 a_p1_commons a_p1_lengths a_p1_parts a_p1_likenesses f_p1_wordCount f_p1_likenessCount f_p1_actorCount f_p1_forbiddenBits f_p1_habitTold f_p1_priceTold, aI cI a_p1_lengths 8 f_p1_lengths, aI cI a_p1_parts 8 f_p1_parts, aI cI a_p1_likenesses 6 f_p1_likenesses]) (rest := [.int y_4, .int y_3, .int y_2, .ref a_p1, .int ((f_freeCount * (nI 8)) + y_4), .ref a_factors]) (st' := [.int z2, .int y_4, .int y_3, .int y_2, .ref a_p1, .int ((f_freeCount * (nI 8)) + y_4), .ref a_factors]) C mX5_72 q3_40 [] (fun l D => cX0_habit_ct l D cI a_p1 a_p1_commons a_p1_lengths a_p1_parts a_p1_likenesses f_p1_wordCount f_p1_likenessCount f_p1_actorCount f_p1_forbiddenBits f_p1_habitTold f_p1_priceTold e_z2) ⟨⟨rfl, rfl⟩, Nat.le_of_ble_eq_true rfl, Nat.le_of_ble_eq_true rfl⟩ 3 rfl rfl rfl [3] rfl rfl rfl rfl rfl (Nat.le_of_ble_eq_true rfl) (Nat.zero_le _) (Nat.zero_le _) rfl dX5_findFree_71 ?_
      obtain ⟨z3, e_z3, hs⟩ := vb_ok hs
      refine g_callV (ws' := [oX5 h a_free a_factors a_weights a_row a_lengths a_signs f_words f_freeCount f_open, aI cI a_free 15 f_free, aI cI a_factors 120 f_factors, oX0 a_p1 a_p1_commons a_p1_lengths a_p1_parts a_p1_likenesses f_p1_wordCount f_p1_likenessCount f_p1_actorCount f_p1_forbiddenBits f_p1_habitTold f_p1_priceTold, aI cI a_p1_lengths 8 f_p1_lengths, aI cI a_p1_parts 8 f_p1_parts, aI cI a_p1_likenesses 6 f_p1_likenesses]) (rest := [.int ((f_freeCount * (nI 8)) + y_4), .ref a_factors]) (st' := [.int z3, .int ((f_freeCount * (nI 8)) + y_4), .ref a_factors]) C mX5_88 q3_55 [.int y_2, .int y_3, .int y_4, .int z2] (fun l D => cX0_factor_ct l D cI a_p1 a_p1_commons a_p1_lengths a_p1_parts a_p1_likenesses f_p1_wordCount f_p1_likenessCount f_p1_actorCount f_p1_forbiddenBits f_p1_habitTold f_p1_priceTold f_p1_lengths f_p1_parts f_p1_likenesses y_2 y_3 y_4 z2 e_z3) ⟨⟨rfl, rfl⟩, Nat.le_of_ble_eq_true rfl, Nat.le_of_ble_eq_true rfl⟩ 3 rfl rfl rfl [3, 4, 5, 6] rfl rfl rfl rfl rfl (Nat.le_of_ble_eq_true rfl) (Nat.zero_le _) (Nat.zero_le _) rfl dX5_findFree_74 ?_
      obtain ⟨b4, hs⟩ := vg_ok hs
      obtain ⟨u5, e_u5, hs⟩ := vlet_ex hs
      refine g_iast (ws' := [oX5 h a_free a_factors a_weights a_row a_lengths a_signs f_words f_freeCount f_open, aI cI a_free 15 f_free, aI cI a_factors 120 u5, oX0 a_p1 a_p1_commons a_p1_lengths a_p1_parts a_p1_likenesses f_p1_wordCount f_p1_likenessCount f_p1_actorCount f_p1_forbiddenBits f_p1_habitTold f_p1_priceTold, aI cI a_p1_lengths 8 f_p1_lengths, aI cI a_p1_parts 8 f_p1_parts, aI cI a_p1_likenesses 6 f_p1_likenesses]) C 2 rfl (vin_ok b4) (by rw [e_u5]; rfl) dX5_findFree_77 ?_
      obtain ⟨y6, e_y6, hs⟩ := vlet_ex hs
      refine g_iinc (pl := 4) (lv' := [(4, .int y6), (0, .ref h), (1, .ref a_p1), (2, .int y_2), (3, .int y_3)]) C dX5_findFree_78 rfl e_y6.symm (by decide) rfl ?_
      refine g_goto (tgt := 42) C dX5_findFree_81 (by decide) ?_
      refine g_sub [1, 2, 3, 4, 0] rfl ?_
      exact ih y6 u5 hs
set_option maxHeartbeats 4000000 in
set_option maxRecDepth 100000 in
theorem LX5_findFree_7_w {cI : ClassId} {X : xT} (C : cx cI X 5 cX5_findFree RX5 rmX5_findFree) (h : Nat) (a_free : Nat) (a_factors : Nat) (a_weights : Nat) (a_row : Nat) (a_lengths : Nat) (a_signs : Nat) (a_p1 : Nat) (a_p1_commons : Nat) (a_p1_lengths : Nat) (a_p1_parts : Nat) (a_p1_likenesses : Nat) (f_words : Int32) (f_open : Int32) (f_p1_wordCount : Int32) (f_p1_likenessCount : Int32) (f_p1_actorCount : Int32) (f_p1_forbiddenBits : Int32) (f_p1_habitTold : Int32) (f_p1_priceTold : Int32) (f_p1_lengths : Nat → Int32) (f_p1_parts : Nat → Int32) (f_p1_likenesses : Nat → Int32) (y_2 : Int32) {z : (Nat → Int32) × (Nat → Int32) × Int32} (hR : ∀ (lv : List (Nat × Value)) (pc : Nat), decode cX5_findFree pc = .ok (.return_, 1) → gg cI X 5 0 0 [oX5 h a_free a_factors a_weights a_row a_lengths a_signs f_words z.2.2 f_open, aI cI a_free 15 z.1, aI cI a_factors 120 z.2.1, oX0 a_p1 a_p1_commons a_p1_lengths a_p1_parts a_p1_likenesses f_p1_wordCount f_p1_likenessCount f_p1_actorCount f_p1_forbiddenBits f_p1_habitTold f_p1_priceTold, aI cI a_p1_lengths 8 f_p1_lengths, aI cI a_p1_parts 8 f_p1_parts, aI cI a_p1_likenesses 6 f_p1_likenesses] lv pc []) : ∀ (n : Nat) (y_3 : Int32) (f_free : Nat → Int32) (f_factors : Nat → Int32) (f_freeCount : Int32), LX5_findFree_7 y_2 f_words f_p1_lengths f_p1_parts f_p1_likenesses f_p1_likenessCount f_p1_forbiddenBits f_p1_habitTold n y_3 f_free f_factors f_freeCount = some z → gg cI X 5 0 0 [oX5 h a_free a_factors a_weights a_row a_lengths a_signs f_words f_freeCount f_open, aI cI a_free 15 f_free, aI cI a_factors 120 f_factors, oX0 a_p1 a_p1_commons a_p1_lengths a_p1_parts a_p1_likenesses f_p1_wordCount f_p1_likenessCount f_p1_actorCount f_p1_forbiddenBits f_p1_habitTold f_p1_priceTold, aI cI a_p1_lengths 8 f_p1_lengths, aI cI a_p1_parts 8 f_p1_parts, aI cI a_p1_likenesses 6 f_p1_likenesses] [(0, .ref h), (1, .ref a_p1), (2, .int y_2), (3, .int y_3)] 7 [] := by
  intro n
  induction n with
  | zero =>
    intro y_3 f_free f_factors f_freeCount hs
    exact nn_ok hs
  | succ n ih =>
    intro y_3 f_free f_factors f_freeCount hs
    rw [LX5_findFree_7] at hs
    refine g_iload_n (pl := 3) C dX5_findFree_7 rfl rfl ?_
    refine g_aload_n (pl := 1) C dX5_findFree_8 rfl rfl ?_
    obtain ⟨z7, e_z7, hs⟩ := vb_ok hs
    refine g_callV (ws' := [oX5 h a_free a_factors a_weights a_row a_lengths a_signs f_words f_freeCount f_open, aI cI a_free 15 f_free, aI cI a_factors 120 f_factors, oX0 a_p1 a_p1_commons a_p1_lengths a_p1_parts a_p1_likenesses f_p1_wordCount f_p1_likenessCount f_p1_actorCount f_p1_forbiddenBits f_p1_habitTold f_p1_priceTold, aI cI a_p1_lengths 8 f_p1_lengths, aI cI a_p1_parts 8 f_p1_parts, aI cI a_p1_likenesses 6 f_p1_likenesses]) (rest := [.int y_3]) (st' := [.int z7, .int y_3]) C mX5_82 q2_216 [] (fun l D => cX0_signs_ct l D cI a_p1 a_p1_commons a_p1_lengths a_p1_parts a_p1_likenesses f_p1_wordCount f_p1_likenessCount f_p1_actorCount f_p1_forbiddenBits f_p1_habitTold f_p1_priceTold e_z7) ⟨⟨rfl, rfl⟩, Nat.le_of_ble_eq_true rfl, Nat.le_of_ble_eq_true rfl⟩ 3 rfl rfl rfl [3] rfl rfl rfl rfl rfl (Nat.le_of_ble_eq_true rfl) (Nat.zero_le _) (Nat.zero_le _) rfl dX5_findFree_9 ?_
    refine g_icmp_ge (tgt := 100) C dX5_findFree_12 (by decide) (fun c8 => ?_) (fun c8 => ?_)
    · replace hs := vi_t hs c8
      cases hs
      exact hR _ _ dX5_findFree_100
    · replace hs := vi_f hs c8
      refine g_iload_n (pl := 3) C dX5_findFree_15 rfl rfl ?_
      refine g_bipush (v := (nI 15)) C dX5_findFree_16 rfl ?_
      refine g_icmp_ge (tgt := 100) C dX5_findFree_18 (by decide) (fun c9 => ?_) (fun c9 => ?_)
      · replace hs := vi_t hs c9
        cases hs
        exact hR _ _ dX5_findFree_100
      · replace hs := vi_f hs c9
        refine g_aload_n (pl := 1) C dX5_findFree_21 rfl rfl ?_
        refine g_iload_n (pl := 3) C dX5_findFree_22 rfl rfl ?_
        obtain ⟨z10, e_z10, hs⟩ := vb_ok hs
        refine g_callV (ws' := [oX5 h a_free a_factors a_weights a_row a_lengths a_signs f_words f_freeCount f_open, aI cI a_free 15 f_free, aI cI a_factors 120 f_factors, oX0 a_p1 a_p1_commons a_p1_lengths a_p1_parts a_p1_likenesses f_p1_wordCount f_p1_likenessCount f_p1_actorCount f_p1_forbiddenBits f_p1_habitTold f_p1_priceTold, aI cI a_p1_lengths 8 f_p1_lengths, aI cI a_p1_parts 8 f_p1_parts, aI cI a_p1_likenesses 6 f_p1_likenesses]) (rest := []) (st' := [.int z10]) C mX5_84 q2_220 [.int y_3] (fun l D => cX0_isForbidden_ct l D cI a_p1 a_p1_commons a_p1_lengths a_p1_parts a_p1_likenesses f_p1_wordCount f_p1_likenessCount f_p1_actorCount f_p1_forbiddenBits f_p1_habitTold f_p1_priceTold y_3 e_z10) ⟨⟨rfl, rfl⟩, Nat.le_of_ble_eq_true rfl, Nat.le_of_ble_eq_true rfl⟩ 3 rfl rfl rfl [3] rfl rfl rfl rfl rfl (Nat.le_of_ble_eq_true rfl) (Nat.zero_le _) (Nat.zero_le _) rfl dX5_findFree_23 ?_
        refine g_if_ne (tgt := 94) C dX5_findFree_26 (by decide) (fun c11 => ?_) (fun c11 => ?_)
        · replace hs := vi_f hs c11
          obtain ⟨y12, e_y12, hs⟩ := vlet_ex hs
          refine g_iinc (pl := 3) (lv' := [(3, .int y12), (0, .ref h), (1, .ref a_p1), (2, .int y_2)]) C dX5_findFree_94 rfl e_y12.symm (by decide) rfl ?_
          refine g_goto (tgt := 7) C dX5_findFree_97 (by decide) ?_
          refine g_sub [1, 2, 3, 0] rfl ?_
          exact ih y12 f_free f_factors f_freeCount hs
        · replace hs := vi_t hs c11
          refine g_aload_n (pl := 0) C dX5_findFree_29 rfl rfl ?_
          refine g_get C fX5_9 0 rfl rfl dX5_findFree_30 ?_
          refine g_aload_n (pl := 0) C dX5_findFree_33 rfl rfl ?_
          refine g_get C fX5_79 0 rfl rfl dX5_findFree_34 ?_
          refine g_iload_n (pl := 3) C dX5_findFree_37 rfl rfl ?_
          obtain ⟨b13, hs⟩ := vg_ok hs
          obtain ⟨u14, e_u14, hs⟩ := vlet_ex hs
          refine g_iast (ws' := [oX5 h a_free a_factors a_weights a_row a_lengths a_signs f_words f_freeCount f_open, aI cI a_free 15 u14, aI cI a_factors 120 f_factors, oX0 a_p1 a_p1_commons a_p1_lengths a_p1_parts a_p1_likenesses f_p1_wordCount f_p1_likenessCount f_p1_actorCount f_p1_forbiddenBits f_p1_habitTold f_p1_priceTold, aI cI a_p1_lengths 8 f_p1_lengths, aI cI a_p1_parts 8 f_p1_parts, aI cI a_p1_likenesses 6 f_p1_likenesses]) C 1 rfl (vin_ok b13) (by rw [e_u14]; rfl) dX5_findFree_38 ?_
          refine g_iconst (v := (nI 0)) C dX5_findFree_39 rfl ?_
          refine g_istore (lv' := [(4, .int (nI 0)), (0, .ref h), (1, .ref a_p1), (2, .int y_2), (3, .int y_3)]) C dX5_findFree_40 (by decide) rfl ?_
          refine g_sub [1, 2, 3, 4, 0] rfl ?_
          refine LX5_findFree_42_w C h a_free a_factors a_weights a_row a_lengths a_signs a_p1 a_p1_commons a_p1_lengths a_p1_parts a_p1_likenesses f_words f_freeCount f_open u14 f_p1_wordCount f_p1_likenessCount f_p1_actorCount f_p1_forbiddenBits f_p1_habitTold f_p1_priceTold f_p1_lengths f_p1_parts f_p1_likenesses y_2 y_3 hR ?_ _ (nI 0) f_factors hs
          · intro v15 hs
            refine g_aload_n (pl := 0) C dX5_findFree_84 rfl rfl ?_
            refine g_dup C dX5_findFree_85 rfl ?_
            refine g_get C fX5_79 0 rfl rfl dX5_findFree_86 ?_
            refine g_iconst (v := (nI 1)) C dX5_findFree_89 rfl ?_
            refine g_iadd C dX5_findFree_90 ?_
            obtain ⟨y16, e_y16, hs⟩ := vlet_ex hs
            refine g_topi e_y16 ?_
            refine g_putI (ws' := [oX5 h a_free a_factors a_weights a_row a_lengths a_signs f_words y16 f_open, aI cI a_free 15 u14, aI cI a_factors 120 v15, oX0 a_p1 a_p1_commons a_p1_lengths a_p1_parts a_p1_likenesses f_p1_wordCount f_p1_likenessCount f_p1_actorCount f_p1_forbiddenBits f_p1_habitTold f_p1_priceTold, aI cI a_p1_lengths 8 f_p1_lengths, aI cI a_p1_parts 8 f_p1_parts, aI cI a_p1_likenesses 6 f_p1_likenesses]) C fX5_79 0 rfl (Nat.le_of_ble_eq_true rfl) rfl dX5_findFree_91 ?_
            obtain ⟨y17, e_y17, hs⟩ := vlet_ex hs
            refine g_iinc (pl := 3) (lv' := [(3, .int y17), (0, .ref h), (1, .ref a_p1), (2, .int y_2)]) C dX5_findFree_94 rfl e_y17.symm (by decide) rfl ?_
            refine g_goto (tgt := 7) C dX5_findFree_97 (by decide) ?_
            refine g_sub [1, 2, 3, 0] rfl ?_
            exact ih y17 u14 v15 y16 hs
set_option maxHeartbeats 4000000 in
set_option maxRecDepth 100000 in
theorem cX5_findFree_ct (l : Launch) (D : va_G) (cI : ClassId) (h : Nat) (a_free : Nat) (a_factors : Nat) (a_weights : Nat) (a_row : Nat) (a_lengths : Nat) (a_signs : Nat) (a_p1 : Nat) (a_p1_commons : Nat) (a_p1_lengths : Nat) (a_p1_parts : Nat) (a_p1_likenesses : Nat) (f_words : Int32) (f_freeCount : Int32) (f_open : Int32) (f_free : Nat → Int32) (f_factors : Nat → Int32) (f_p1_wordCount : Int32) (f_p1_likenessCount : Int32) (f_p1_actorCount : Int32) (f_p1_forbiddenBits : Int32) (f_p1_habitTold : Int32) (f_p1_priceTold : Int32) (f_p1_lengths : Nat → Int32) (f_p1_parts : Nat → Int32) (f_p1_likenesses : Nat → Int32) (x2 : Int32) {z : (Nat → Int32) × (Nat → Int32) × Int32} (hs : sX5_findFree f_free f_factors f_words f_freeCount f_p1_lengths f_p1_parts f_p1_likenesses f_p1_likenessCount f_p1_forbiddenBits f_p1_habitTold x2 = some z) : ct l yX5_findFree (.code yX5_findFree cX5_findFree 5 none :: gtb) rmX5_findFree D cI [.ref h, .ref a_p1, .int x2] [oX5 h a_free a_factors a_weights a_row a_lengths a_signs f_words f_freeCount f_open, aI cI a_free 15 f_free, aI cI a_factors 120 f_factors, oX0 a_p1 a_p1_commons a_p1_lengths a_p1_parts a_p1_likenesses f_p1_wordCount f_p1_likenessCount f_p1_actorCount f_p1_forbiddenBits f_p1_habitTold f_p1_priceTold, aI cI a_p1_lengths 8 f_p1_lengths, aI cI a_p1_parts 8 f_p1_parts, aI cI a_p1_likenesses 6 f_p1_likenesses] none [oX5 h a_free a_factors a_weights a_row a_lengths a_signs f_words z.2.2 f_open, aI cI a_free 15 z.1, aI cI a_factors 120 z.2.1, oX0 a_p1 a_p1_commons a_p1_lengths a_p1_parts a_p1_likenesses f_p1_wordCount f_p1_likenessCount f_p1_actorCount f_p1_forbiddenBits f_p1_habitTold f_p1_priceTold, aI cI a_p1_lengths 8 f_p1_lengths, aI cI a_p1_parts 8 f_p1_parts, aI cI a_p1_likenesses 6 f_p1_likenesses] := by
  refine ct_ofV (own := RX5) (by decide +kernel) rfl (Nat.le_of_ble_eq_true rfl) (fun X C hD hR => ?_)
  unfold sX5_findFree at hs
  show gg cI X 5 0 0 [oX5 h a_free a_factors a_weights a_row a_lengths a_signs f_words f_freeCount f_open, aI cI a_free 15 f_free, aI cI a_factors 120 f_factors, oX0 a_p1 a_p1_commons a_p1_lengths a_p1_parts a_p1_likenesses f_p1_wordCount f_p1_likenessCount f_p1_actorCount f_p1_forbiddenBits f_p1_habitTold f_p1_priceTold, aI cI a_p1_lengths 8 f_p1_lengths, aI cI a_p1_parts 8 f_p1_parts, aI cI a_p1_likenesses 6 f_p1_likenesses] [(0, .ref h), (1, .ref a_p1), (2, .int x2)] 0 []
  refine g_aload_n (pl := 0) C dX5_findFree_0 rfl rfl ?_
  refine g_iconst (v := (nI 0)) C dX5_findFree_1 rfl ?_
  refine g_putI (ws' := [oX5 h a_free a_factors a_weights a_row a_lengths a_signs f_words (nI 0) f_open, aI cI a_free 15 f_free, aI cI a_factors 120 f_factors, oX0 a_p1 a_p1_commons a_p1_lengths a_p1_parts a_p1_likenesses f_p1_wordCount f_p1_likenessCount f_p1_actorCount f_p1_forbiddenBits f_p1_habitTold f_p1_priceTold, aI cI a_p1_lengths 8 f_p1_lengths, aI cI a_p1_parts 8 f_p1_parts, aI cI a_p1_likenesses 6 f_p1_likenesses]) C fX5_79 0 rfl (Nat.le_of_ble_eq_true rfl) rfl dX5_findFree_2 ?_
  refine g_iconst (v := (nI 0)) C dX5_findFree_5 rfl ?_
  refine g_istore_n (lv' := [(3, .int (nI 0)), (0, .ref h), (1, .ref a_p1), (2, .int x2)]) C dX5_findFree_6 rfl (by decide) rfl ?_
  refine g_sub [1, 2, 3, 0] rfl ?_
  exact LX5_findFree_7_w C h a_free a_factors a_weights a_row a_lengths a_signs a_p1 a_p1_commons a_p1_lengths a_p1_parts a_p1_likenesses f_words f_open f_p1_wordCount f_p1_likenessCount f_p1_actorCount f_p1_forbiddenBits f_p1_habitTold f_p1_priceTold f_p1_lengths f_p1_parts f_p1_likenesses x2 hR _ (nI 0) f_free f_factors (nI 0) hs
def LX5_heaviest_35 (y_2 : Int32) (f_weights : Nat → Int32) (f_words : Int32) : Nat → Int32 → Int32 → Int32 → Option (Int32)
  | 0, _, _, _ => none
  | n + 1, y_3, y_4, y_5 =>
    vi (f_words ≤ y_5) inferInstance (
      some (y_3)) (
      vg (vin (y_2 + y_5) 32) (
      vi ((f_weights (Int32.toNatClampNeg (y_2 + y_5))) ≤ y_4) inferInstance (
        vlet (y_5 + (nI 1)) fun y4 =>
        LX5_heaviest_35 y_2 f_weights f_words n y_3 y_4 y4) (
        vg (vin (y_2 + y_5) 32) (
        vlet (f_weights (Int32.toNatClampNeg (y_2 + y_5))) fun y6 =>
        vlet (y_5 + (nI 1)) fun y7 =>
        LX5_heaviest_35 y_2 f_weights f_words n y_5 y6 y7))))
def sX5_heaviest (f_weights : Nat → Int32) (f_words : Int32) (x1 : Int32) : Option (Int32) :=
  vlet (x1 * (nI 8)) fun y8 =>
  vi (y8 < 0) inferInstance (
    some ((-4))) (
    vi ((y8 + f_words) ≤ (nI 32)) inferInstance (
      LX5_heaviest_35 y8 f_weights f_words vF (-4) (nI 0) (nI 0)) (
      some ((-4))))
abbrev rmX5_heaviest : Room := { frames := 0, cells := 0, slots := 0, locals := 0 }
set_option maxHeartbeats 4000000 in
set_option maxRecDepth 100000 in
theorem LX5_heaviest_35_w {cI : ClassId} {X : xT} (C : cx cI X 6 cX5_heaviest RX5 rmX5_heaviest) (h : Nat) (a_free : Nat) (a_factors : Nat) (a_weights : Nat) (a_row : Nat) (a_lengths : Nat) (a_signs : Nat) (f_words : Int32) (f_freeCount : Int32) (f_open : Int32) (f_weights : Nat → Int32) (y_2 : Int32) {z : Int32} (hR : ∀ (lv : List (Nat × Value)) (pc : Nat), decode cX5_heaviest pc = .ok (.ireturn, 1) → gg cI X 6 0 0 [oX5 h a_free a_factors a_weights a_row a_lengths a_signs f_words f_freeCount f_open, aI cI a_weights 32 f_weights] lv pc [.int z]) : ∀ (n : Nat) (y_3 : Int32) (y_4 : Int32) (y_5 : Int32), LX5_heaviest_35 y_2 f_weights f_words n y_3 y_4 y_5 = some z → gg cI X 6 0 0 [oX5 h a_free a_factors a_weights a_row a_lengths a_signs f_words f_freeCount f_open, aI cI a_weights 32 f_weights] [(0, .ref h), (2, .int y_2), (3, .int y_3), (4, .int y_4), (5, .int y_5)] 35 [] := by
  intro n
  induction n with
  | zero =>
    intro y_3 y_4 y_5 hs
    exact nn_ok hs
  | succ n ih =>
    intro y_3 y_4 y_5 hs
    rw [LX5_heaviest_35] at hs
    refine g_iload (pl := 4) C dX5_heaviest_35 rfl ?_
    refine g_aload_n (pl := 0) C dX5_heaviest_37 rfl rfl ?_
    refine g_get C fX5_56 0 rfl rfl dX5_heaviest_38 ?_
    refine g_icmp_ge (tgt := 78) C dX5_heaviest_41 (by decide) (fun c1 => ?_) (fun c1 => ?_)
    · replace hs := vi_t hs c1
      refine g_iload_n (pl := 2) C dX5_heaviest_78 rfl rfl ?_
      cases hs
      exact hR _ _ dX5_heaviest_79
    · replace hs := vi_f hs c1
      refine g_aload_n (pl := 0) C dX5_heaviest_44 rfl rfl ?_
      refine g_get C fX5_18 0 rfl rfl dX5_heaviest_45 ?_
      refine g_iload_n (pl := 1) C dX5_heaviest_48 rfl rfl ?_
      refine g_iload (pl := 4) C dX5_heaviest_49 rfl ?_
      refine g_iadd C dX5_heaviest_51 ?_
      obtain ⟨b2, hs⟩ := vg_ok hs
      refine g_iald C 1 rfl (vin_ok b2) dX5_heaviest_52 ?_
      refine g_iload (pl := 3) C dX5_heaviest_53 rfl ?_
      refine g_icmp_le (tgt := 72) C dX5_heaviest_55 (by decide) (fun c3 => ?_) (fun c3 => ?_)
      · replace hs := vi_t hs c3
        obtain ⟨y4, e_y4, hs⟩ := vlet_ex hs
        refine g_iinc (pl := 4) (lv' := [(5, .int y4), (0, .ref h), (2, .int y_2), (3, .int y_3), (4, .int y_4)]) C dX5_heaviest_72 rfl e_y4.symm (by decide) rfl ?_
        refine g_goto (tgt := 35) C dX5_heaviest_75 (by decide) ?_
        refine g_sub [1, 2, 3, 4, 0] rfl ?_
        exact ih y_3 y_4 y4 hs
      · replace hs := vi_f hs c3
        refine g_aload_n (pl := 0) C dX5_heaviest_58 rfl rfl ?_
        refine g_get C fX5_18 0 rfl rfl dX5_heaviest_59 ?_
        refine g_iload_n (pl := 1) C dX5_heaviest_62 rfl rfl ?_
        refine g_iload (pl := 4) C dX5_heaviest_63 rfl ?_
        refine g_iadd C dX5_heaviest_65 ?_
        obtain ⟨b5, hs⟩ := vg_ok hs
        refine g_iald C 1 rfl (vin_ok b5) dX5_heaviest_66 ?_
        obtain ⟨y6, e_y6, hs⟩ := vlet_ex hs
        refine g_topi e_y6 ?_
        refine g_istore (lv' := [(4, .int y6), (0, .ref h), (2, .int y_2), (3, .int y_3), (5, .int y_5)]) C dX5_heaviest_67 (by decide) rfl ?_
        refine g_iload (pl := 4) C dX5_heaviest_69 rfl ?_
        refine g_istore_n (lv' := [(3, .int y_5), (4, .int y6), (0, .ref h), (2, .int y_2), (5, .int y_5)]) C dX5_heaviest_71 rfl (by decide) rfl ?_
        obtain ⟨y7, e_y7, hs⟩ := vlet_ex hs
        refine g_iinc (pl := 4) (lv' := [(5, .int y7), (3, .int y_5), (4, .int y6), (0, .ref h), (2, .int y_2)]) C dX5_heaviest_72 rfl e_y7.symm (by decide) rfl ?_
        refine g_goto (tgt := 35) C dX5_heaviest_75 (by decide) ?_
        refine g_sub [3, 4, 1, 2, 0] rfl ?_
        exact ih y_5 y6 y7 hs
set_option maxHeartbeats 4000000 in
set_option maxRecDepth 100000 in
theorem cX5_heaviest_ct (l : Launch) (D : va_G) (cI : ClassId) (h : Nat) (a_free : Nat) (a_factors : Nat) (a_weights : Nat) (a_row : Nat) (a_lengths : Nat) (a_signs : Nat) (f_words : Int32) (f_freeCount : Int32) (f_open : Int32) (f_weights : Nat → Int32) (x1 : Int32) {z : Int32} (hs : sX5_heaviest f_weights f_words x1 = some z) : ct l yX5_heaviest (.code yX5_heaviest cX5_heaviest 6 (some .int) :: gtb) rmX5_heaviest D cI [.ref h, .int x1] [oX5 h a_free a_factors a_weights a_row a_lengths a_signs f_words f_freeCount f_open, aI cI a_weights 32 f_weights] (some (.int z)) [oX5 h a_free a_factors a_weights a_row a_lengths a_signs f_words f_freeCount f_open, aI cI a_weights 32 f_weights] := by
  refine ct_ofI (own := RX5) (by decide +kernel) rfl (Nat.le_of_ble_eq_true rfl) (fun X C hD hR => ?_)
  unfold sX5_heaviest at hs
  show gg cI X 6 0 0 [oX5 h a_free a_factors a_weights a_row a_lengths a_signs f_words f_freeCount f_open, aI cI a_weights 32 f_weights] [(0, .ref h), (1, .int x1)] 0 []
  refine g_iload_n (pl := 1) C dX5_heaviest_0 rfl rfl ?_
  refine g_bipush (v := (nI 8)) C dX5_heaviest_1 rfl ?_
  refine g_imul C dX5_heaviest_3 ?_
  obtain ⟨y8, e_y8, hs⟩ := vlet_ex hs
  refine g_topi e_y8 ?_
  refine g_istore_n (lv' := [(2, .int y8), (0, .ref h), (1, .int x1)]) C dX5_heaviest_4 rfl (by decide) rfl ?_
  refine g_iload_n (pl := 0) C dX5_heaviest_5 rfl rfl ?_
  refine g_if_lt (tgt := 23) C dX5_heaviest_6 (by decide) (fun c9 => ?_) (fun c9 => ?_)
  · replace hs := vi_t hs c9
    refine g_bipush (v := (-4)) C dX5_heaviest_23 rfl ?_
    cases hs
    exact hR _ _ dX5_heaviest_25
  · replace hs := vi_f hs c9
    refine g_iload_n (pl := 0) C dX5_heaviest_9 rfl rfl ?_
    refine g_aload_n (pl := 1) C dX5_heaviest_10 rfl rfl ?_
    refine g_get C fX5_56 0 rfl rfl dX5_heaviest_11 ?_
    refine g_iadd C dX5_heaviest_14 ?_
    refine g_aload_n (pl := 1) C dX5_heaviest_15 rfl rfl ?_
    refine g_get C fX5_18 0 rfl rfl dX5_heaviest_16 ?_
    refine g_alen (v := (nI 32)) C 1 rfl rfl dX5_heaviest_19 ?_
    refine g_icmp_le (tgt := 26) C dX5_heaviest_20 (by decide) (fun c10 => ?_) (fun c10 => ?_)
    · replace hs := vi_t hs c10
      refine g_bipush (v := (-4)) C dX5_heaviest_26 rfl ?_
      refine g_istore_n (lv' := [(3, .int (-4)), (2, .int y8), (0, .ref h), (1, .int x1)]) C dX5_heaviest_28 rfl (by decide) rfl ?_
      refine g_iconst (v := (nI 0)) C dX5_heaviest_29 rfl ?_
      refine g_istore (lv' := [(4, .int (nI 0)), (3, .int (-4)), (2, .int y8), (0, .ref h), (1, .int x1)]) C dX5_heaviest_30 (by decide) rfl ?_
      refine g_iconst (v := (nI 0)) C dX5_heaviest_32 rfl ?_
      refine g_istore (lv' := [(5, .int (nI 0)), (4, .int (nI 0)), (3, .int (-4)), (2, .int y8), (0, .ref h), (1, .int x1)]) C dX5_heaviest_33 (by decide) rfl ?_
      refine g_sub [4, 3, 2, 1, 0] rfl ?_
      exact LX5_heaviest_35_w C h a_free a_factors a_weights a_row a_lengths a_signs f_words f_freeCount f_open f_weights y8 hR _ (-4) (nI 0) (nI 0) hs
    · replace hs := vi_f hs c10
      refine g_bipush (v := (-4)) C dX5_heaviest_23 rfl ?_
      cases hs
      exact hR _ _ dX5_heaviest_25
def sX5_freeAt (f_free : Nat → Int32) (f_freeCount : Int32) (x1 : Int32) : Option (Int32) :=
  vi (x1 < 0) inferInstance (
    some ((-4))) (
    vi (f_freeCount ≤ x1) inferInstance (
      some ((-4))) (
      vi ((nI 15) ≤ x1) inferInstance (
        some ((-4))) (
        vg (vin x1 15) (
        some (f_free (Int32.toNatClampNeg x1))))))
abbrev rmX5_freeAt : Room := { frames := 0, cells := 0, slots := 0, locals := 0 }
set_option maxHeartbeats 4000000 in
set_option maxRecDepth 100000 in
theorem cX5_freeAt_ct (l : Launch) (D : va_G) (cI : ClassId) (h : Nat) (a_free : Nat) (a_factors : Nat) (a_weights : Nat) (a_row : Nat) (a_lengths : Nat) (a_signs : Nat) (f_words : Int32) (f_freeCount : Int32) (f_open : Int32) (f_free : Nat → Int32) (x1 : Int32) {z : Int32} (hs : sX5_freeAt f_free f_freeCount x1 = some z) : ct l yX5_freeAt (.code yX5_freeAt cX5_freeAt 2 (some .int) :: gtb) rmX5_freeAt D cI [.ref h, .int x1] [oX5 h a_free a_factors a_weights a_row a_lengths a_signs f_words f_freeCount f_open, aI cI a_free 15 f_free] (some (.int z)) [oX5 h a_free a_factors a_weights a_row a_lengths a_signs f_words f_freeCount f_open, aI cI a_free 15 f_free] := by
  refine ct_ofI (own := RX5) (by decide +kernel) rfl (Nat.le_of_ble_eq_true rfl) (fun X C hD hR => ?_)
  unfold sX5_freeAt at hs
  show gg cI X 2 0 0 [oX5 h a_free a_factors a_weights a_row a_lengths a_signs f_words f_freeCount f_open, aI cI a_free 15 f_free] [(0, .ref h), (1, .int x1)] 0 []
  refine g_iload_n (pl := 1) C dX5_freeAt_0 rfl rfl ?_
  refine g_if_lt (tgt := 27) C dX5_freeAt_1 (by decide) (fun c1 => ?_) (fun c1 => ?_)
  · replace hs := vi_t hs c1
    refine g_bipush (v := (-4)) C dX5_freeAt_27 rfl ?_
    cases hs
    exact hR _ _ dX5_freeAt_29
  · replace hs := vi_f hs c1
    refine g_iload_n (pl := 1) C dX5_freeAt_4 rfl rfl ?_
    refine g_aload_n (pl := 0) C dX5_freeAt_5 rfl rfl ?_
    refine g_get C fX5_79 0 rfl rfl dX5_freeAt_6 ?_
    refine g_icmp_ge (tgt := 27) C dX5_freeAt_9 (by decide) (fun c2 => ?_) (fun c2 => ?_)
    · replace hs := vi_t hs c2
      refine g_bipush (v := (-4)) C dX5_freeAt_27 rfl ?_
      cases hs
      exact hR _ _ dX5_freeAt_29
    · replace hs := vi_f hs c2
      refine g_iload_n (pl := 1) C dX5_freeAt_12 rfl rfl ?_
      refine g_bipush (v := (nI 15)) C dX5_freeAt_13 rfl ?_
      refine g_icmp_ge (tgt := 27) C dX5_freeAt_15 (by decide) (fun c3 => ?_) (fun c3 => ?_)
      · replace hs := vi_t hs c3
        refine g_bipush (v := (-4)) C dX5_freeAt_27 rfl ?_
        cases hs
        exact hR _ _ dX5_freeAt_29
      · replace hs := vi_f hs c3
        refine g_aload_n (pl := 0) C dX5_freeAt_18 rfl rfl ?_
        refine g_get C fX5_9 0 rfl rfl dX5_freeAt_19 ?_
        refine g_iload_n (pl := 1) C dX5_freeAt_22 rfl rfl ?_
        obtain ⟨b4, hs⟩ := vg_ok hs
        refine g_iald C 1 rfl (vin_ok b4) dX5_freeAt_23 ?_
        refine g_goto (tgt := 29) C dX5_freeAt_24 (by decide) ?_
        cases hs
        exact hR _ _ dX5_freeAt_29
def LX5_judge_39 (y_1 : Int32) (y_2 : Int32) (f_free : Nat → Int32) (f_row : Nat → Int32) (f_lengths : Nat → Int32) (f_freeCount : Int32) (f_open : Int32) : Nat → Int32 → (Nat → Int32) → Option ((Nat → Int32) × (Nat → Int32) × Int32)
  | 0, _, _ => none
  | n + 1, y_3, f_signs =>
    vi (y_1 ≤ y_3) inferInstance (
      vlet (f_open - (nI 1)) fun y2 =>
      some (f_lengths, f_signs, y2)) (
      vi ((nI 3) ≤ y_3) inferInstance (
        vlet (f_open - (nI 1)) fun y4 =>
        some (f_lengths, f_signs, y4)) (
        vg (vin y_3 3) (
        vb (sX5_freeAt f_free f_freeCount (f_row (Int32.toNatClampNeg y_3))) fun z6 =>
        vg (vin ((y_2 * (nI 3)) + y_3) 24) (
        vlet (upd f_signs (Int32.toNatClampNeg ((y_2 * (nI 3)) + y_3)) z6) fun u8 =>
        vlet (y_3 + (nI 1)) fun y9 =>
        LX5_judge_39 y_1 y_2 f_free f_row f_lengths f_freeCount f_open n y9 u8))))
def sX5_judge (f_free : Nat → Int32) (f_weights : Nat → Int32) (f_row : Nat → Int32) (f_lengths : Nat → Int32) (f_signs : Nat → Int32) (f_words : Int32) (f_freeCount : Int32) (f_open : Int32) (x1 : Int32) : Option ((Nat → Int32) × (Nat → Int32) × Int32) :=
  vb (sX5_heaviest f_weights f_words x1) fun z10 =>
  vi (z10 < 0) inferInstance (
    some (f_lengths, f_signs, f_open)) (
    vi (f_words ≤ z10) inferInstance (
      some (f_lengths, f_signs, f_open)) (
      vg (vin z10 8) (
      vi ((f_lengths (Int32.toNatClampNeg z10)) = (-4)) inferInstance (
        vg (vin z10 8) (
        vlet (upd f_lengths (Int32.toNatClampNeg z10) x1) fun u16 =>
        LX5_judge_39 x1 z10 f_free f_row u16 f_freeCount f_open vF (nI 0) f_signs)) (
        some (f_lengths, f_signs, f_open)))))
abbrev rmX5_judge : Room := { frames := 1, cells := 0, slots := 0, locals := 25 }
set_option maxHeartbeats 4000000 in
set_option maxRecDepth 100000 in
theorem LX5_judge_39_w {cI : ClassId} {X : xT} (C : cx cI X 4 cX5_judge RX5 rmX5_judge) (h : Nat) (a_free : Nat) (a_factors : Nat) (a_weights : Nat) (a_row : Nat) (a_lengths : Nat) (a_signs : Nat) (f_words : Int32) (f_freeCount : Int32) (f_open : Int32) (f_free : Nat → Int32) (f_weights : Nat → Int32) (f_row : Nat → Int32) (f_lengths : Nat → Int32) (y_1 : Int32) (y_2 : Int32) {z : (Nat → Int32) × (Nat → Int32) × Int32} (hR : ∀ (lv : List (Nat × Value)) (pc : Nat), decode cX5_judge pc = .ok (.return_, 1) → gg cI X 4 0 0 [oX5 h a_free a_factors a_weights a_row a_lengths a_signs f_words f_freeCount z.2.2, aI cI a_free 15 f_free, aI cI a_weights 32 f_weights, aI cI a_row 3 f_row, aI cI a_lengths 8 z.1, aI cI a_signs 24 z.2.1] lv pc []) : ∀ (n : Nat) (y_3 : Int32) (f_signs : Nat → Int32), LX5_judge_39 y_1 y_2 f_free f_row f_lengths f_freeCount f_open n y_3 f_signs = some z → gg cI X 4 0 0 [oX5 h a_free a_factors a_weights a_row a_lengths a_signs f_words f_freeCount f_open, aI cI a_free 15 f_free, aI cI a_weights 32 f_weights, aI cI a_row 3 f_row, aI cI a_lengths 8 f_lengths, aI cI a_signs 24 f_signs] [(0, .ref h), (1, .int y_1), (2, .int y_2), (3, .int y_3)] 39 [] := by
  intro n
  induction n with
  | zero =>
    intro y_3 f_signs hs
    exact nn_ok hs
  | succ n ih =>
    intro y_3 f_signs hs
    rw [LX5_judge_39] at hs
    refine g_iload_n (pl := 3) C dX5_judge_39 rfl rfl ?_
    refine g_iload_n (pl := 1) C dX5_judge_40 rfl rfl ?_
    refine g_icmp_ge (tgt := 75) C dX5_judge_41 (by decide) (fun c1 => ?_) (fun c1 => ?_)
    · replace hs := vi_t hs c1
      refine g_aload_n (pl := 0) C dX5_judge_75 rfl rfl ?_
      refine g_dup C dX5_judge_76 rfl ?_
      refine g_get C fX5_69 0 rfl rfl dX5_judge_77 ?_
      refine g_iconst (v := (nI 1)) C dX5_judge_80 rfl ?_
      refine g_isub C dX5_judge_81 ?_
      obtain ⟨y2, e_y2, hs⟩ := vlet_ex hs
      refine g_topi e_y2 ?_
      refine g_putI (ws' := [oX5 h a_free a_factors a_weights a_row a_lengths a_signs f_words f_freeCount y2, aI cI a_free 15 f_free, aI cI a_weights 32 f_weights, aI cI a_row 3 f_row, aI cI a_lengths 8 f_lengths, aI cI a_signs 24 f_signs]) C fX5_69 0 rfl (Nat.le_of_ble_eq_true rfl) rfl dX5_judge_82 ?_
      cases hs
      exact hR _ _ dX5_judge_85
    · replace hs := vi_f hs c1
      refine g_iload_n (pl := 3) C dX5_judge_44 rfl rfl ?_
      refine g_iconst (v := (nI 3)) C dX5_judge_45 rfl ?_
      refine g_icmp_ge (tgt := 75) C dX5_judge_46 (by decide) (fun c3 => ?_) (fun c3 => ?_)
      · replace hs := vi_t hs c3
        refine g_aload_n (pl := 0) C dX5_judge_75 rfl rfl ?_
        refine g_dup C dX5_judge_76 rfl ?_
        refine g_get C fX5_69 0 rfl rfl dX5_judge_77 ?_
        refine g_iconst (v := (nI 1)) C dX5_judge_80 rfl ?_
        refine g_isub C dX5_judge_81 ?_
        obtain ⟨y4, e_y4, hs⟩ := vlet_ex hs
        refine g_topi e_y4 ?_
        refine g_putI (ws' := [oX5 h a_free a_factors a_weights a_row a_lengths a_signs f_words f_freeCount y4, aI cI a_free 15 f_free, aI cI a_weights 32 f_weights, aI cI a_row 3 f_row, aI cI a_lengths 8 f_lengths, aI cI a_signs 24 f_signs]) C fX5_69 0 rfl (Nat.le_of_ble_eq_true rfl) rfl dX5_judge_82 ?_
        cases hs
        exact hR _ _ dX5_judge_85
      · replace hs := vi_f hs c3
        refine g_aload_n (pl := 0) C dX5_judge_49 rfl rfl ?_
        refine g_get C fX5_27 0 rfl rfl dX5_judge_50 ?_
        refine g_iload_n (pl := 2) C dX5_judge_53 rfl rfl ?_
        refine g_iconst (v := (nI 3)) C dX5_judge_54 rfl ?_
        refine g_imul C dX5_judge_55 ?_
        refine g_iload_n (pl := 3) C dX5_judge_56 rfl rfl ?_
        refine g_iadd C dX5_judge_57 ?_
        refine g_aload_n (pl := 0) C dX5_judge_58 rfl rfl ?_
        refine g_aload_n (pl := 0) C dX5_judge_59 rfl rfl ?_
        refine g_get C fX5_21 0 rfl rfl dX5_judge_60 ?_
        refine g_iload_n (pl := 3) C dX5_judge_63 rfl rfl ?_
        obtain ⟨b5, hs⟩ := vg_ok hs
        refine g_iald C 3 rfl (vin_ok b5) dX5_judge_64 ?_
        obtain ⟨z6, e_z6, hs⟩ := vb_ok hs
        refine g_callV (ws' := [oX5 h a_free a_factors a_weights a_row a_lengths a_signs f_words f_freeCount f_open, aI cI a_free 15 f_free, aI cI a_weights 32 f_weights, aI cI a_row 3 f_row, aI cI a_lengths 8 f_lengths, aI cI a_signs 24 f_signs]) (rest := [.int ((y_2 * (nI 3)) + y_3), .ref a_signs]) (st' := [.int z6, .int ((y_2 * (nI 3)) + y_3), .ref a_signs]) C mX5_99 q3_151 [.int (f_row (Int32.toNatClampNeg y_3))] (fun l D => cX5_freeAt_ct l D cI h a_free a_factors a_weights a_row a_lengths a_signs f_words f_freeCount f_open f_free (f_row (Int32.toNatClampNeg y_3)) e_z6) ⟨⟨rfl, rfl⟩, Nat.le_of_ble_eq_true rfl, Nat.le_of_ble_eq_true rfl⟩ 0 rfl rfl rfl [0, 1] rfl rfl rfl rfl rfl (Nat.le_of_ble_eq_true rfl) (Nat.zero_le _) (Nat.zero_le _) rfl dX5_judge_65 ?_
        obtain ⟨b7, hs⟩ := vg_ok hs
        obtain ⟨u8, e_u8, hs⟩ := vlet_ex hs
        refine g_iast (ws' := [oX5 h a_free a_factors a_weights a_row a_lengths a_signs f_words f_freeCount f_open, aI cI a_free 15 f_free, aI cI a_weights 32 f_weights, aI cI a_row 3 f_row, aI cI a_lengths 8 f_lengths, aI cI a_signs 24 u8]) C 5 rfl (vin_ok b7) (by rw [e_u8]; rfl) dX5_judge_68 ?_
        obtain ⟨y9, e_y9, hs⟩ := vlet_ex hs
        refine g_iinc (pl := 3) (lv' := [(3, .int y9), (0, .ref h), (1, .int y_1), (2, .int y_2)]) C dX5_judge_69 rfl e_y9.symm (by decide) rfl ?_
        refine g_goto (tgt := 39) C dX5_judge_72 (by decide) ?_
        refine g_sub [1, 2, 3, 0] rfl ?_
        exact ih y9 u8 hs
set_option maxHeartbeats 4000000 in
set_option maxRecDepth 100000 in
theorem cX5_judge_ct (l : Launch) (D : va_G) (cI : ClassId) (h : Nat) (a_free : Nat) (a_factors : Nat) (a_weights : Nat) (a_row : Nat) (a_lengths : Nat) (a_signs : Nat) (f_words : Int32) (f_freeCount : Int32) (f_open : Int32) (f_free : Nat → Int32) (f_weights : Nat → Int32) (f_row : Nat → Int32) (f_lengths : Nat → Int32) (f_signs : Nat → Int32) (x1 : Int32) {z : (Nat → Int32) × (Nat → Int32) × Int32} (hs : sX5_judge f_free f_weights f_row f_lengths f_signs f_words f_freeCount f_open x1 = some z) : ct l yX5_judge (.code yX5_judge cX5_judge 4 none :: gtb) rmX5_judge D cI [.ref h, .int x1] [oX5 h a_free a_factors a_weights a_row a_lengths a_signs f_words f_freeCount f_open, aI cI a_free 15 f_free, aI cI a_weights 32 f_weights, aI cI a_row 3 f_row, aI cI a_lengths 8 f_lengths, aI cI a_signs 24 f_signs] none [oX5 h a_free a_factors a_weights a_row a_lengths a_signs f_words f_freeCount z.2.2, aI cI a_free 15 f_free, aI cI a_weights 32 f_weights, aI cI a_row 3 f_row, aI cI a_lengths 8 z.1, aI cI a_signs 24 z.2.1] := by
  refine ct_ofV (own := RX5) (by decide +kernel) rfl (Nat.le_of_ble_eq_true rfl) (fun X C hD hR => ?_)
  unfold sX5_judge at hs
  show gg cI X 4 0 0 [oX5 h a_free a_factors a_weights a_row a_lengths a_signs f_words f_freeCount f_open, aI cI a_free 15 f_free, aI cI a_weights 32 f_weights, aI cI a_row 3 f_row, aI cI a_lengths 8 f_lengths, aI cI a_signs 24 f_signs] [(0, .ref h), (1, .int x1)] 0 []
  refine g_aload_n (pl := 0) C dX5_judge_0 rfl rfl ?_
  refine g_iload_n (pl := 1) C dX5_judge_1 rfl rfl ?_
  obtain ⟨z10, e_z10, hs⟩ := vb_ok hs
  refine g_callV (ws' := [oX5 h a_free a_factors a_weights a_row a_lengths a_signs f_words f_freeCount f_open, aI cI a_free 15 f_free, aI cI a_weights 32 f_weights, aI cI a_row 3 f_row, aI cI a_lengths 8 f_lengths, aI cI a_signs 24 f_signs]) (rest := []) (st' := [.int z10]) C mX5_96 q3_147 [.int x1] (fun l D => cX5_heaviest_ct l D cI h a_free a_factors a_weights a_row a_lengths a_signs f_words f_freeCount f_open f_weights x1 e_z10) ⟨⟨rfl, rfl⟩, Nat.le_of_ble_eq_true rfl, Nat.le_of_ble_eq_true rfl⟩ 0 rfl rfl rfl [0, 2] rfl rfl rfl rfl rfl (Nat.le_of_ble_eq_true rfl) (Nat.zero_le _) (Nat.zero_le _) rfl dX5_judge_2 ?_
  refine g_istore_n (lv' := [(2, .int z10), (0, .ref h), (1, .int x1)]) C dX5_judge_5 rfl (by decide) rfl ?_
  refine g_iload_n (pl := 0) C dX5_judge_6 rfl rfl ?_
  refine g_if_lt (tgt := 29) C dX5_judge_7 (by decide) (fun c11 => ?_) (fun c11 => ?_)
  · replace hs := vi_t hs c11
    cases hs
    exact hR _ _ dX5_judge_29
  · replace hs := vi_f hs c11
    refine g_iload_n (pl := 0) C dX5_judge_10 rfl rfl ?_
    refine g_aload_n (pl := 1) C dX5_judge_11 rfl rfl ?_
    refine g_get C fX5_56 0 rfl rfl dX5_judge_12 ?_
    refine g_icmp_ge (tgt := 29) C dX5_judge_15 (by decide) (fun c12 => ?_) (fun c12 => ?_)
    · replace hs := vi_t hs c12
      cases hs
      exact hR _ _ dX5_judge_29
    · replace hs := vi_f hs c12
      refine g_aload_n (pl := 1) C dX5_judge_18 rfl rfl ?_
      refine g_get C fX5_24 0 rfl rfl dX5_judge_19 ?_
      refine g_iload_n (pl := 0) C dX5_judge_22 rfl rfl ?_
      obtain ⟨b13, hs⟩ := vg_ok hs
      refine g_iald C 4 rfl (vin_ok b13) dX5_judge_23 ?_
      refine g_bipush (v := (-4)) C dX5_judge_24 rfl ?_
      refine g_icmp_eq (tgt := 30) C dX5_judge_26 (by decide) (fun c14 => ?_) (fun c14 => ?_)
      · replace hs := vi_t hs c14
        refine g_aload_n (pl := 1) C dX5_judge_30 rfl rfl ?_
        refine g_get C fX5_24 0 rfl rfl dX5_judge_31 ?_
        refine g_iload_n (pl := 0) C dX5_judge_34 rfl rfl ?_
        refine g_iload_n (pl := 2) C dX5_judge_35 rfl rfl ?_
        obtain ⟨b15, hs⟩ := vg_ok hs
        obtain ⟨u16, e_u16, hs⟩ := vlet_ex hs
        refine g_iast (ws' := [oX5 h a_free a_factors a_weights a_row a_lengths a_signs f_words f_freeCount f_open, aI cI a_free 15 f_free, aI cI a_weights 32 f_weights, aI cI a_row 3 f_row, aI cI a_lengths 8 u16, aI cI a_signs 24 f_signs]) C 4 rfl (vin_ok b15) (by rw [e_u16]; rfl) dX5_judge_36 ?_
        refine g_iconst (v := (nI 0)) C dX5_judge_37 rfl ?_
        refine g_istore_n (lv' := [(3, .int (nI 0)), (2, .int z10), (0, .ref h), (1, .int x1)]) C dX5_judge_38 rfl (by decide) rfl ?_
        refine g_sub [2, 3, 1, 0] rfl ?_
        exact LX5_judge_39_w C h a_free a_factors a_weights a_row a_lengths a_signs f_words f_freeCount f_open f_free f_weights f_row u16 x1 z10 hR _ (nI 0) f_signs hs
      · replace hs := vi_f hs c14
        cases hs
        exact hR _ _ dX5_judge_29
def LX5_multiply_60 (y_3 : Int32) (y_4 : Int32) (y_5 : Int32) (f_factors : Nat → Int32) (f_words : Int32) : Nat → Int32 → (Nat → Int32) → Option ((Nat → Int32))
  | 0, _, _ => none
  | n + 1, y_6, f_weights =>
    vi (f_words ≤ y_6) inferInstance (
      some (f_weights)) (
      vg (vin (y_3 + y_6) 32) (
      vg (vin (y_5 + y_6) 120) (
      vlet ((f_weights (Int32.toNatClampNeg (y_3 + y_6))) * (f_factors (Int32.toNatClampNeg (y_5 + y_6)))) fun y4 =>
      vg (vin (y_4 + y_6) 32) (
      vlet (upd f_weights (Int32.toNatClampNeg (y_4 + y_6)) y4) fun u6 =>
      vlet (y_6 + (nI 1)) fun y7 =>
      LX5_multiply_60 y_3 y_4 y_5 f_factors f_words n y7 u6))))
def sX5_multiply (f_factors : Nat → Int32) (f_weights : Nat → Int32) (f_words : Int32) (x1 : Int32) (x2 : Int32) : Option ((Nat → Int32)) :=
  vlet (x1 * (nI 8)) fun y8 =>
  vlet (y8 + (nI 8)) fun y9 =>
  vlet (x2 * (nI 8)) fun y10 =>
  vi (y8 < 0) inferInstance (
    some (f_weights)) (
    vi ((nI 32) < (y9 + f_words)) inferInstance (
      some (f_weights)) (
      vi (y10 < 0) inferInstance (
        some (f_weights)) (
        vi ((y10 + f_words) ≤ (nI 120)) inferInstance (
          LX5_multiply_60 y8 y9 y10 f_factors f_words vF (nI 0) f_weights) (
          some (f_weights)))))
abbrev rmX5_multiply : Room := { frames := 0, cells := 0, slots := 0, locals := 0 }
set_option maxHeartbeats 4000000 in
set_option maxRecDepth 100000 in
theorem LX5_multiply_60_w {cI : ClassId} {X : xT} (C : cx cI X 7 cX5_multiply RX5 rmX5_multiply) (h : Nat) (a_free : Nat) (a_factors : Nat) (a_weights : Nat) (a_row : Nat) (a_lengths : Nat) (a_signs : Nat) (f_words : Int32) (f_freeCount : Int32) (f_open : Int32) (f_factors : Nat → Int32) (y_3 : Int32) (y_4 : Int32) (y_5 : Int32) {z : (Nat → Int32)} (hR : ∀ (lv : List (Nat × Value)) (pc : Nat), decode cX5_multiply pc = .ok (.return_, 1) → gg cI X 7 0 0 [oX5 h a_free a_factors a_weights a_row a_lengths a_signs f_words f_freeCount f_open, aI cI a_factors 120 f_factors, aI cI a_weights 32 z] lv pc []) : ∀ (n : Nat) (y_6 : Int32) (f_weights : Nat → Int32), LX5_multiply_60 y_3 y_4 y_5 f_factors f_words n y_6 f_weights = some z → gg cI X 7 0 0 [oX5 h a_free a_factors a_weights a_row a_lengths a_signs f_words f_freeCount f_open, aI cI a_factors 120 f_factors, aI cI a_weights 32 f_weights] [(0, .ref h), (3, .int y_3), (4, .int y_4), (5, .int y_5), (6, .int y_6)] 60 [] := by
  intro n
  induction n with
  | zero =>
    intro y_6 f_weights hs
    exact nn_ok hs
  | succ n ih =>
    intro y_6 f_weights hs
    rw [LX5_multiply_60] at hs
    refine g_iload (pl := 4) C dX5_multiply_60 rfl ?_
    refine g_aload_n (pl := 0) C dX5_multiply_62 rfl rfl ?_
    refine g_get C fX5_56 0 rfl rfl dX5_multiply_63 ?_
    refine g_icmp_ge (tgt := 105) C dX5_multiply_66 (by decide) (fun c1 => ?_) (fun c1 => ?_)
    · replace hs := vi_t hs c1
      cases hs
      exact hR _ _ dX5_multiply_105
    · replace hs := vi_f hs c1
      refine g_aload_n (pl := 0) C dX5_multiply_69 rfl rfl ?_
      refine g_get C fX5_18 0 rfl rfl dX5_multiply_70 ?_
      refine g_iload (pl := 2) C dX5_multiply_73 rfl ?_
      refine g_iload (pl := 4) C dX5_multiply_75 rfl ?_
      refine g_iadd C dX5_multiply_77 ?_
      refine g_aload_n (pl := 0) C dX5_multiply_78 rfl rfl ?_
      refine g_get C fX5_18 0 rfl rfl dX5_multiply_79 ?_
      refine g_iload_n (pl := 1) C dX5_multiply_82 rfl rfl ?_
      refine g_iload (pl := 4) C dX5_multiply_83 rfl ?_
      refine g_iadd C dX5_multiply_85 ?_
      obtain ⟨b2, hs⟩ := vg_ok hs
      refine g_iald C 2 rfl (vin_ok b2) dX5_multiply_86 ?_
      refine g_aload_n (pl := 0) C dX5_multiply_87 rfl rfl ?_
      refine g_get C fX5_15 0 rfl rfl dX5_multiply_88 ?_
      refine g_iload (pl := 3) C dX5_multiply_91 rfl ?_
      refine g_iload (pl := 4) C dX5_multiply_93 rfl ?_
      refine g_iadd C dX5_multiply_95 ?_
      obtain ⟨b3, hs⟩ := vg_ok hs
      refine g_iald C 1 rfl (vin_ok b3) dX5_multiply_96 ?_
      refine g_imul C dX5_multiply_97 ?_
      obtain ⟨y4, e_y4, hs⟩ := vlet_ex hs
      refine g_topi e_y4 ?_
      obtain ⟨b5, hs⟩ := vg_ok hs
      obtain ⟨u6, e_u6, hs⟩ := vlet_ex hs
      refine g_iast (ws' := [oX5 h a_free a_factors a_weights a_row a_lengths a_signs f_words f_freeCount f_open, aI cI a_factors 120 f_factors, aI cI a_weights 32 u6]) C 2 rfl (vin_ok b5) (by rw [e_u6]; rfl) dX5_multiply_98 ?_
      obtain ⟨y7, e_y7, hs⟩ := vlet_ex hs
      refine g_iinc (pl := 4) (lv' := [(6, .int y7), (0, .ref h), (3, .int y_3), (4, .int y_4), (5, .int y_5)]) C dX5_multiply_99 rfl e_y7.symm (by decide) rfl ?_
      refine g_goto (tgt := 60) C dX5_multiply_102 (by decide) ?_
      refine g_sub [1, 2, 3, 4, 0] rfl ?_
      exact ih y7 u6 hs
set_option maxHeartbeats 4000000 in
set_option maxRecDepth 100000 in
theorem cX5_multiply_ct (l : Launch) (D : va_G) (cI : ClassId) (h : Nat) (a_free : Nat) (a_factors : Nat) (a_weights : Nat) (a_row : Nat) (a_lengths : Nat) (a_signs : Nat) (f_words : Int32) (f_freeCount : Int32) (f_open : Int32) (f_factors : Nat → Int32) (f_weights : Nat → Int32) (x1 : Int32) (x2 : Int32) {z : (Nat → Int32)} (hs : sX5_multiply f_factors f_weights f_words x1 x2 = some z) : ct l yX5_multiply (.code yX5_multiply cX5_multiply 7 none :: gtb) rmX5_multiply D cI [.ref h, .int x1, .int x2] [oX5 h a_free a_factors a_weights a_row a_lengths a_signs f_words f_freeCount f_open, aI cI a_factors 120 f_factors, aI cI a_weights 32 f_weights] none [oX5 h a_free a_factors a_weights a_row a_lengths a_signs f_words f_freeCount f_open, aI cI a_factors 120 f_factors, aI cI a_weights 32 z] := by
  refine ct_ofV (own := RX5) (by decide +kernel) rfl (Nat.le_of_ble_eq_true rfl) (fun X C hD hR => ?_)
  unfold sX5_multiply at hs
  show gg cI X 7 0 0 [oX5 h a_free a_factors a_weights a_row a_lengths a_signs f_words f_freeCount f_open, aI cI a_factors 120 f_factors, aI cI a_weights 32 f_weights] [(0, .ref h), (1, .int x1), (2, .int x2)] 0 []
  refine g_iload_n (pl := 1) C dX5_multiply_0 rfl rfl ?_
  refine g_bipush (v := (nI 8)) C dX5_multiply_1 rfl ?_
  refine g_imul C dX5_multiply_3 ?_
  obtain ⟨y8, e_y8, hs⟩ := vlet_ex hs
  refine g_topi e_y8 ?_
  refine g_istore_n (lv' := [(3, .int y8), (0, .ref h), (1, .int x1), (2, .int x2)]) C dX5_multiply_4 rfl (by decide) rfl ?_
  refine g_iload_n (pl := 0) C dX5_multiply_5 rfl rfl ?_
  refine g_bipush (v := (nI 8)) C dX5_multiply_6 rfl ?_
  refine g_iadd C dX5_multiply_8 ?_
  obtain ⟨y9, e_y9, hs⟩ := vlet_ex hs
  refine g_topi e_y9 ?_
  refine g_istore (lv' := [(4, .int y9), (3, .int y8), (0, .ref h), (1, .int x1), (2, .int x2)]) C dX5_multiply_9 (by decide) rfl ?_
  refine g_iload_n (pl := 4) C dX5_multiply_11 rfl rfl ?_
  refine g_bipush (v := (nI 8)) C dX5_multiply_12 rfl ?_
  refine g_imul C dX5_multiply_14 ?_
  obtain ⟨y10, e_y10, hs⟩ := vlet_ex hs
  refine g_topi e_y10 ?_
  refine g_istore (lv' := [(5, .int y10), (4, .int y9), (3, .int y8), (0, .ref h), (1, .int x1), (2, .int x2)]) C dX5_multiply_15 (by decide) rfl ?_
  refine g_iload_n (pl := 2) C dX5_multiply_17 rfl rfl ?_
  refine g_if_lt (tgt := 56) C dX5_multiply_18 (by decide) (fun c11 => ?_) (fun c11 => ?_)
  · replace hs := vi_t hs c11
    cases hs
    exact hR _ _ dX5_multiply_56
  · replace hs := vi_f hs c11
    refine g_iload (pl := 1) C dX5_multiply_21 rfl ?_
    refine g_aload_n (pl := 3) C dX5_multiply_23 rfl rfl ?_
    refine g_get C fX5_56 0 rfl rfl dX5_multiply_24 ?_
    refine g_iadd C dX5_multiply_27 ?_
    refine g_aload_n (pl := 3) C dX5_multiply_28 rfl rfl ?_
    refine g_get C fX5_18 0 rfl rfl dX5_multiply_29 ?_
    refine g_alen (v := (nI 32)) C 2 rfl rfl dX5_multiply_32 ?_
    refine g_icmp_gt (tgt := 56) C dX5_multiply_33 (by decide) (fun c12 => ?_) (fun c12 => ?_)
    · replace hs := vi_t hs c12
      cases hs
      exact hR _ _ dX5_multiply_56
    · replace hs := vi_f hs c12
      refine g_iload (pl := 0) C dX5_multiply_36 rfl ?_
      refine g_if_lt (tgt := 56) C dX5_multiply_38 (by decide) (fun c13 => ?_) (fun c13 => ?_)
      · replace hs := vi_t hs c13
        cases hs
        exact hR _ _ dX5_multiply_56
      · replace hs := vi_f hs c13
        refine g_iload (pl := 0) C dX5_multiply_41 rfl ?_
        refine g_aload_n (pl := 3) C dX5_multiply_43 rfl rfl ?_
        refine g_get C fX5_56 0 rfl rfl dX5_multiply_44 ?_
        refine g_iadd C dX5_multiply_47 ?_
        refine g_aload_n (pl := 3) C dX5_multiply_48 rfl rfl ?_
        refine g_get C fX5_15 0 rfl rfl dX5_multiply_49 ?_
        refine g_alen (v := (nI 120)) C 1 rfl rfl dX5_multiply_52 ?_
        refine g_icmp_le (tgt := 57) C dX5_multiply_53 (by decide) (fun c14 => ?_) (fun c14 => ?_)
        · replace hs := vi_t hs c14
          refine g_iconst (v := (nI 0)) C dX5_multiply_57 rfl ?_
          refine g_istore (lv' := [(6, .int (nI 0)), (5, .int y10), (4, .int y9), (3, .int y8), (0, .ref h), (1, .int x1), (2, .int x2)]) C dX5_multiply_58 (by decide) rfl ?_
          refine g_sub [4, 3, 2, 1, 0] rfl ?_
          exact LX5_multiply_60_w C h a_free a_factors a_weights a_row a_lengths a_signs f_words f_freeCount f_open f_factors y8 y9 y10 hR _ (nI 0) f_weights hs
        · replace hs := vi_f hs c14
          cases hs
          exact hR _ _ dX5_multiply_56
def LX5_tryRows_83 (f_row : Nat → Int32) (f_freeCount : Int32) (K108 : Int32 → Option ((Nat → Int32) × (Nat → Int32) × (Nat → Int32) × (Nat → Int32) × Int32)) : Nat → Int32 → Option ((Nat → Int32) × (Nat → Int32) × (Nat → Int32) × (Nat → Int32) × Int32)
  | 0, _ => none
  | n + 1, y_3 =>
    vi (y_3 < 0) inferInstance (
      K108 y_3) (
      vg (vin y_3 3) (
      vi (((f_row (Int32.toNatClampNeg y_3)) + (nI 1)) < f_freeCount) inferInstance (
        K108 y_3) (
        vlet (y_3 + (-1)) fun y4 =>
        LX5_tryRows_83 f_row f_freeCount K108 n y4)))
def LX5_tryRows_47 (y_2 : Int32) (y_4 : Int32) (f_factors : Nat → Int32) (f_words : Int32) (K76 : (Nat → Int32) → (Nat → Int32) → Option ((Nat → Int32) × (Nat → Int32) × (Nat → Int32) × (Nat → Int32) × Int32)) : Nat → Int32 → (Nat → Int32) → (Nat → Int32) → Option ((Nat → Int32) × (Nat → Int32) × (Nat → Int32) × (Nat → Int32) × Int32)
  | 0, _, _, _ => none
  | n + 1, y_6, f_weights, f_row =>
    vi (y_2 < y_6) inferInstance (
      K76 f_weights f_row) (
      vg (vin y_6 3) (
      vlet (upd f_row (Int32.toNatClampNeg y_6) y_4) fun u7 =>
      vb (sX5_multiply f_factors f_weights f_words y_6 y_4) fun z8 =>
      vlet (y_6 + (nI 1)) fun y9 =>
      LX5_tryRows_47 y_2 y_4 f_factors f_words K76 n y9 z8 u7))
def LX5_tryRows_16 (y_1 : Int32) (y_2 : Int32) (f_free : Nat → Int32) (f_factors : Nat → Int32) (f_words : Int32) (f_freeCount : Int32) : Nat → Int32 → Int32 → Int32 → (Nat → Int32) → (Nat → Int32) → (Nat → Int32) → (Nat → Int32) → Int32 → Option ((Nat → Int32) × (Nat → Int32) × (Nat → Int32) × (Nat → Int32) × Int32)
  | 0, _, _, _, _, _, _, _, _ => none
  | n + 1, y_3, y_4, y_5, f_weights, f_row, f_lengths, f_signs, f_open =>
    vi ((nI 10000) ≤ y_5) inferInstance (
      some (f_weights, f_row, f_lengths, f_signs, f_open)) (
      vi (y_3 < 0) inferInstance (
        some (f_weights, f_row, f_lengths, f_signs, f_open)) (
        vi (f_freeCount ≤ y_4) inferInstance (
          some (f_weights, f_row, f_lengths, f_signs, f_open)) (
          vi (f_open ≤ 0) inferInstance (
            some (f_weights, f_row, f_lengths, f_signs, f_open)) (
            LX5_tryRows_47 y_2 y_4 f_factors f_words (fun (v14 : Nat → Int32) (v15 : Nat → Int32) =>
                vb (sX5_judge f_free v14 v15 f_lengths f_signs f_words f_freeCount f_open y_1) fun z16 =>
                LX5_tryRows_83 v15 f_freeCount (fun (v17 : Int32) =>
                    vi (v17 < 0) inferInstance (
                      vlet (y_5 + (nI 1)) fun y19 =>
                      LX5_tryRows_16 y_1 y_2 f_free f_factors f_words f_freeCount n v17 (nI 0) y19 v14 v15 z16.1 z16.2.1 z16.2.2) (
                      vg (vin v17 3) (
                      vlet ((v15 (Int32.toNatClampNeg v17)) + (nI 1)) fun y21 =>
                      vlet (y_5 + (nI 1)) fun y22 =>
                      LX5_tryRows_16 y_1 y_2 f_free f_factors f_words f_freeCount n v17 y21 y22 v14 v15 z16.1 z16.2.1 z16.2.2))) vF y_2) vF y_3 f_weights f_row))))
def sX5_tryRows (f_free : Nat → Int32) (f_factors : Nat → Int32) (f_weights : Nat → Int32) (f_row : Nat → Int32) (f_lengths : Nat → Int32) (f_signs : Nat → Int32) (f_words : Int32) (f_freeCount : Int32) (f_open : Int32) (x1 : Int32) : Option ((Nat → Int32) × (Nat → Int32) × (Nat → Int32) × (Nat → Int32) × Int32) :=
  vlet ((if (nI 3) < x1 then (nI 3) else x1) - (nI 1)) fun y23 =>
  LX5_tryRows_16 x1 y23 f_free f_factors f_words f_freeCount vF (nI 0) (nI 0) (nI 0) f_weights f_row f_lengths f_signs f_open
abbrev rmX5_tryRows : Room := { frames := 2, cells := 0, slots := 0, locals := 48 }
set_option maxHeartbeats 4000000 in
set_option maxRecDepth 100000 in
theorem LX5_tryRows_83_w {cI : ClassId} {X : xT} (C : cx cI X 7 cX5_tryRows RX5 rmX5_tryRows) (h : Nat) (a_free : Nat) (a_factors : Nat) (a_weights : Nat) (a_row : Nat) (a_lengths : Nat) (a_signs : Nat) (f_words : Int32) (f_freeCount : Int32) (f_open : Int32) (f_free : Nat → Int32) (f_factors : Nat → Int32) (f_weights : Nat → Int32) (f_row : Nat → Int32) (f_lengths : Nat → Int32) (f_signs : Nat → Int32) (y_1 : Int32) (y_2 : Int32) (y_5 : Int32) {z : (Nat → Int32) × (Nat → Int32) × (Nat → Int32) × (Nat → Int32) × Int32} (hR : ∀ (lv : List (Nat × Value)) (pc : Nat), decode cX5_tryRows pc = .ok (.return_, 1) → gg cI X 7 0 0 [oX5 h a_free a_factors a_weights a_row a_lengths a_signs f_words f_freeCount z.2.2.2.2, aI cI a_free 15 f_free, aI cI a_factors 120 f_factors, aI cI a_weights 32 z.1, aI cI a_row 3 z.2.1, aI cI a_lengths 8 z.2.2.1, aI cI a_signs 24 z.2.2.2.1] lv pc []) {K108 : Int32 → Option ((Nat → Int32) × (Nat → Int32) × (Nat → Int32) × (Nat → Int32) × Int32)} (hK108 : ∀ (k_3 : Int32), K108 k_3 = some z → gg cI X 7 0 0 [oX5 h a_free a_factors a_weights a_row a_lengths a_signs f_words f_freeCount f_open, aI cI a_free 15 f_free, aI cI a_factors 120 f_factors, aI cI a_weights 32 f_weights, aI cI a_row 3 f_row, aI cI a_lengths 8 f_lengths, aI cI a_signs 24 f_signs] [(0, .ref h), (1, .int y_1), (2, .int y_2), (3, .int k_3), (5, .int y_5)] 108 []) : ∀ (n : Nat) (y_3 : Int32), LX5_tryRows_83 f_row f_freeCount K108 n y_3 = some z → gg cI X 7 0 0 [oX5 h a_free a_factors a_weights a_row a_lengths a_signs f_words f_freeCount f_open, aI cI a_free 15 f_free, aI cI a_factors 120 f_factors, aI cI a_weights 32 f_weights, aI cI a_row 3 f_row, aI cI a_lengths 8 f_lengths, aI cI a_signs 24 f_signs] [(0, .ref h), (1, .int y_1), (2, .int y_2), (3, .int y_3), (5, .int y_5)] 83 [] := by
  intro n
  induction n with
  | zero =>
    intro y_3 hs
    exact nn_ok hs
  | succ n ih =>
    intro y_3 hs
    rw [LX5_tryRows_83] at hs
    refine g_iload_n (pl := 3) C dX5_tryRows_83 rfl rfl ?_
    refine g_if_lt (tgt := 108) C dX5_tryRows_84 (by decide) (fun c1 => ?_) (fun c1 => ?_)
    · replace hs := vi_t hs c1
      refine g_sub [0, 1, 2, 3, 4] rfl ?_
      exact hK108 y_3 hs
    · replace hs := vi_f hs c1
      refine g_aload_n (pl := 0) C dX5_tryRows_87 rfl rfl ?_
      refine g_get C fX5_21 0 rfl rfl dX5_tryRows_88 ?_
      refine g_iload_n (pl := 3) C dX5_tryRows_91 rfl rfl ?_
      obtain ⟨b2, hs⟩ := vg_ok hs
      refine g_iald C 4 rfl (vin_ok b2) dX5_tryRows_92 ?_
      refine g_iconst (v := (nI 1)) C dX5_tryRows_93 rfl ?_
      refine g_iadd C dX5_tryRows_94 ?_
      refine g_aload_n (pl := 0) C dX5_tryRows_95 rfl rfl ?_
      refine g_get C fX5_79 0 rfl rfl dX5_tryRows_96 ?_
      refine g_icmp_lt (tgt := 108) C dX5_tryRows_99 (by decide) (fun c3 => ?_) (fun c3 => ?_)
      · replace hs := vi_t hs c3
        refine g_sub [0, 1, 2, 3, 4] rfl ?_
        exact hK108 y_3 hs
      · replace hs := vi_f hs c3
        obtain ⟨y4, e_y4, hs⟩ := vlet_ex hs
        refine g_iinc (pl := 3) (lv' := [(3, .int y4), (0, .ref h), (1, .int y_1), (2, .int y_2), (5, .int y_5)]) C dX5_tryRows_102 rfl e_y4.symm (by decide) rfl ?_
        refine g_goto (tgt := 83) C dX5_tryRows_105 (by decide) ?_
        refine g_sub [1, 2, 3, 0, 4] rfl ?_
        exact ih y4 hs
set_option maxHeartbeats 4000000 in
set_option maxRecDepth 100000 in
theorem LX5_tryRows_47_w {cI : ClassId} {X : xT} (C : cx cI X 7 cX5_tryRows RX5 rmX5_tryRows) (h : Nat) (a_free : Nat) (a_factors : Nat) (a_weights : Nat) (a_row : Nat) (a_lengths : Nat) (a_signs : Nat) (f_words : Int32) (f_freeCount : Int32) (f_open : Int32) (f_free : Nat → Int32) (f_factors : Nat → Int32) (f_lengths : Nat → Int32) (f_signs : Nat → Int32) (y_1 : Int32) (y_2 : Int32) (y_4 : Int32) (y_5 : Int32) {z : (Nat → Int32) × (Nat → Int32) × (Nat → Int32) × (Nat → Int32) × Int32} (hR : ∀ (lv : List (Nat × Value)) (pc : Nat), decode cX5_tryRows pc = .ok (.return_, 1) → gg cI X 7 0 0 [oX5 h a_free a_factors a_weights a_row a_lengths a_signs f_words f_freeCount z.2.2.2.2, aI cI a_free 15 f_free, aI cI a_factors 120 f_factors, aI cI a_weights 32 z.1, aI cI a_row 3 z.2.1, aI cI a_lengths 8 z.2.2.1, aI cI a_signs 24 z.2.2.2.1] lv pc []) {K76 : (Nat → Int32) → (Nat → Int32) → Option ((Nat → Int32) × (Nat → Int32) × (Nat → Int32) × (Nat → Int32) × Int32)} (hK76 : ∀ (kf_weights : Nat → Int32) (kf_row : Nat → Int32), K76 kf_weights kf_row = some z → gg cI X 7 0 0 [oX5 h a_free a_factors a_weights a_row a_lengths a_signs f_words f_freeCount f_open, aI cI a_free 15 f_free, aI cI a_factors 120 f_factors, aI cI a_weights 32 kf_weights, aI cI a_row 3 kf_row, aI cI a_lengths 8 f_lengths, aI cI a_signs 24 f_signs] [(0, .ref h), (1, .int y_1), (2, .int y_2), (5, .int y_5)] 76 []) : ∀ (n : Nat) (y_6 : Int32) (f_weights : Nat → Int32) (f_row : Nat → Int32), LX5_tryRows_47 y_2 y_4 f_factors f_words K76 n y_6 f_weights f_row = some z → gg cI X 7 0 0 [oX5 h a_free a_factors a_weights a_row a_lengths a_signs f_words f_freeCount f_open, aI cI a_free 15 f_free, aI cI a_factors 120 f_factors, aI cI a_weights 32 f_weights, aI cI a_row 3 f_row, aI cI a_lengths 8 f_lengths, aI cI a_signs 24 f_signs] [(0, .ref h), (1, .int y_1), (2, .int y_2), (4, .int y_4), (5, .int y_5), (6, .int y_6)] 47 [] := by
  intro n
  induction n with
  | zero =>
    intro y_6 f_weights f_row hs
    exact nn_ok hs
  | succ n ih =>
    intro y_6 f_weights f_row hs
    rw [LX5_tryRows_47] at hs
    refine g_iload (pl := 5) C dX5_tryRows_47 rfl ?_
    refine g_iload_n (pl := 2) C dX5_tryRows_49 rfl rfl ?_
    refine g_icmp_gt (tgt := 76) C dX5_tryRows_50 (by decide) (fun c5 => ?_) (fun c5 => ?_)
    · replace hs := vi_t hs c5
      refine g_sub [0, 1, 2, 4] rfl ?_
      exact hK76 f_weights f_row hs
    · replace hs := vi_f hs c5
      refine g_aload_n (pl := 0) C dX5_tryRows_53 rfl rfl ?_
      refine g_get C fX5_21 0 rfl rfl dX5_tryRows_54 ?_
      refine g_iload (pl := 5) C dX5_tryRows_57 rfl ?_
      refine g_iload (pl := 3) C dX5_tryRows_59 rfl ?_
      obtain ⟨b6, hs⟩ := vg_ok hs
      obtain ⟨u7, e_u7, hs⟩ := vlet_ex hs
      refine g_iast (ws' := [oX5 h a_free a_factors a_weights a_row a_lengths a_signs f_words f_freeCount f_open, aI cI a_free 15 f_free, aI cI a_factors 120 f_factors, aI cI a_weights 32 f_weights, aI cI a_row 3 u7, aI cI a_lengths 8 f_lengths, aI cI a_signs 24 f_signs]) C 4 rfl (vin_ok b6) (by rw [e_u7]; rfl) dX5_tryRows_61 ?_
      refine g_aload_n (pl := 0) C dX5_tryRows_62 rfl rfl ?_
      refine g_iload (pl := 5) C dX5_tryRows_63 rfl ?_
      refine g_iload (pl := 3) C dX5_tryRows_65 rfl ?_
      obtain ⟨z8, e_z8, hs⟩ := vb_ok hs
      refine g_callV (ws' := [oX5 h a_free a_factors a_weights a_row a_lengths a_signs f_words f_freeCount f_open, aI cI a_free 15 f_free, aI cI a_factors 120 f_factors, aI cI a_weights 32 z8, aI cI a_row 3 u7, aI cI a_lengths 8 f_lengths, aI cI a_signs 24 f_signs]) (rest := []) (st' := []) C mX5_92 q3_159 [.int y_6, .int y_4] (fun l D => cX5_multiply_ct l D cI h a_free a_factors a_weights a_row a_lengths a_signs f_words f_freeCount f_open f_factors f_weights y_6 y_4 e_z8) ⟨⟨rfl, rfl⟩, Nat.le_of_ble_eq_true rfl, Nat.le_of_ble_eq_true rfl⟩ 0 rfl rfl rfl [0, 2, 3] rfl rfl rfl rfl rfl (Nat.le_of_ble_eq_true rfl) (Nat.zero_le _) (Nat.zero_le _) rfl dX5_tryRows_67 ?_
      obtain ⟨y9, e_y9, hs⟩ := vlet_ex hs
      refine g_iinc (pl := 5) (lv' := [(6, .int y9), (0, .ref h), (1, .int y_1), (2, .int y_2), (4, .int y_4), (5, .int y_5)]) C dX5_tryRows_70 rfl e_y9.symm (by decide) rfl ?_
      refine g_goto (tgt := 47) C dX5_tryRows_73 (by decide) ?_
      refine g_sub [1, 2, 3, 4, 5, 0] rfl ?_
      exact ih y9 z8 u7 hs
set_option maxHeartbeats 4000000 in
set_option maxRecDepth 100000 in
theorem LX5_tryRows_16_w {cI : ClassId} {X : xT} (C : cx cI X 7 cX5_tryRows RX5 rmX5_tryRows) (h : Nat) (a_free : Nat) (a_factors : Nat) (a_weights : Nat) (a_row : Nat) (a_lengths : Nat) (a_signs : Nat) (f_words : Int32) (f_freeCount : Int32) (f_free : Nat → Int32) (f_factors : Nat → Int32) (y_1 : Int32) (y_2 : Int32) {z : (Nat → Int32) × (Nat → Int32) × (Nat → Int32) × (Nat → Int32) × Int32} (hR : ∀ (lv : List (Nat × Value)) (pc : Nat), decode cX5_tryRows pc = .ok (.return_, 1) → gg cI X 7 0 0 [oX5 h a_free a_factors a_weights a_row a_lengths a_signs f_words f_freeCount z.2.2.2.2, aI cI a_free 15 f_free, aI cI a_factors 120 f_factors, aI cI a_weights 32 z.1, aI cI a_row 3 z.2.1, aI cI a_lengths 8 z.2.2.1, aI cI a_signs 24 z.2.2.2.1] lv pc []) : ∀ (n : Nat) (y_3 : Int32) (y_4 : Int32) (y_5 : Int32) (f_weights : Nat → Int32) (f_row : Nat → Int32) (f_lengths : Nat → Int32) (f_signs : Nat → Int32) (f_open : Int32), LX5_tryRows_16 y_1 y_2 f_free f_factors f_words f_freeCount n y_3 y_4 y_5 f_weights f_row f_lengths f_signs f_open = some z → gg cI X 7 0 0 [oX5 h a_free a_factors a_weights a_row a_lengths a_signs f_words f_freeCount f_open, aI cI a_free 15 f_free, aI cI a_factors 120 f_factors, aI cI a_weights 32 f_weights, aI cI a_row 3 f_row, aI cI a_lengths 8 f_lengths, aI cI a_signs 24 f_signs] [(0, .ref h), (1, .int y_1), (2, .int y_2), (3, .int y_3), (4, .int y_4), (5, .int y_5)] 16 [] := by
  intro n
  induction n with
  | zero =>
    intro y_3 y_4 y_5 f_weights f_row f_lengths f_signs f_open hs
    exact nn_ok hs
  | succ n ih =>
    intro y_3 y_4 y_5 f_weights f_row f_lengths f_signs f_open hs
    rw [LX5_tryRows_16] at hs
    refine g_iload (pl := 5) C dX5_tryRows_16 rfl ?_
    refine g_sipush (v := (nI 10000)) C dX5_tryRows_18 rfl ?_
    refine g_icmp_ge (tgt := 132) C dX5_tryRows_21 (by decide) (fun c10 => ?_) (fun c10 => ?_)
    · replace hs := vi_t hs c10
      cases hs
      exact hR _ _ dX5_tryRows_132
    · replace hs := vi_f hs c10
      refine g_iload_n (pl := 3) C dX5_tryRows_24 rfl rfl ?_
      refine g_if_lt (tgt := 132) C dX5_tryRows_25 (by decide) (fun c11 => ?_) (fun c11 => ?_)
      · replace hs := vi_t hs c11
        cases hs
        exact hR _ _ dX5_tryRows_132
      · replace hs := vi_f hs c11
        refine g_iload (pl := 4) C dX5_tryRows_28 rfl ?_
        refine g_aload_n (pl := 0) C dX5_tryRows_30 rfl rfl ?_
        refine g_get C fX5_79 0 rfl rfl dX5_tryRows_31 ?_
        refine g_icmp_ge (tgt := 132) C dX5_tryRows_34 (by decide) (fun c12 => ?_) (fun c12 => ?_)
        · replace hs := vi_t hs c12
          cases hs
          exact hR _ _ dX5_tryRows_132
        · replace hs := vi_f hs c12
          refine g_aload_n (pl := 0) C dX5_tryRows_37 rfl rfl ?_
          refine g_get C fX5_69 0 rfl rfl dX5_tryRows_38 ?_
          refine g_if_le (tgt := 132) C dX5_tryRows_41 (by decide) (fun c13 => ?_) (fun c13 => ?_)
          · replace hs := vi_t hs c13
            cases hs
            exact hR _ _ dX5_tryRows_132
          · replace hs := vi_f hs c13
            refine g_iload_n (pl := 3) C dX5_tryRows_44 rfl rfl ?_
            refine g_istore (lv' := [(6, .int y_3), (0, .ref h), (1, .int y_1), (2, .int y_2), (3, .int y_3), (4, .int y_4), (5, .int y_5)]) C dX5_tryRows_45 (by decide) rfl ?_
            refine g_sub [1, 2, 3, 5, 6, 0] rfl ?_
            refine LX5_tryRows_47_w C h a_free a_factors a_weights a_row a_lengths a_signs f_words f_freeCount f_open f_free f_factors f_lengths f_signs y_1 y_2 y_4 y_5 hR ?_ _ y_3 f_weights f_row hs
            · intro v14 v15 hs
              refine g_aload_n (pl := 0) C dX5_tryRows_76 rfl rfl ?_
              refine g_iload_n (pl := 1) C dX5_tryRows_77 rfl rfl ?_
              obtain ⟨z16, e_z16, hs⟩ := vb_ok hs
              refine g_callV (ws' := [oX5 h a_free a_factors a_weights a_row a_lengths a_signs f_words f_freeCount z16.2.2, aI cI a_free 15 f_free, aI cI a_factors 120 f_factors, aI cI a_weights 32 v14, aI cI a_row 3 v15, aI cI a_lengths 8 z16.1, aI cI a_signs 24 z16.2.1]) (rest := []) (st' := []) C mX5_44 q3_143 [.int y_1] (fun l D => cX5_judge_ct l D cI h a_free a_factors a_weights a_row a_lengths a_signs f_words f_freeCount f_open f_free v14 v15 f_lengths f_signs y_1 e_z16) ⟨⟨rfl, rfl⟩, Nat.le_of_ble_eq_true rfl, Nat.le_of_ble_eq_true rfl⟩ 0 rfl rfl rfl [0, 1, 3, 4, 5, 6] rfl rfl rfl rfl rfl (Nat.le_of_ble_eq_true rfl) (Nat.zero_le _) (Nat.zero_le _) rfl dX5_tryRows_78 ?_
              refine g_iload_n (pl := 2) C dX5_tryRows_81 rfl rfl ?_
              refine g_istore_n (lv' := [(3, .int y_2), (0, .ref h), (1, .int y_1), (2, .int y_2), (5, .int y_5)]) C dX5_tryRows_82 rfl (by decide) rfl ?_
              refine g_sub [1, 2, 3, 0, 4] rfl ?_
              refine LX5_tryRows_83_w C h a_free a_factors a_weights a_row a_lengths a_signs f_words f_freeCount z16.2.2 f_free f_factors v14 v15 z16.1 z16.2.1 y_1 y_2 y_5 hR ?_ _ y_2 hs
              · intro v17 hs
                refine g_iload_n (pl := 3) C dX5_tryRows_108 rfl rfl ?_
                refine g_if_lt (tgt := 123) C dX5_tryRows_109 (by decide) (fun c18 => ?_) (fun c18 => ?_)
                · replace hs := vi_t hs c18
                  refine g_iconst (v := (nI 0)) C dX5_tryRows_123 rfl ?_
                  refine g_istore (lv' := [(4, .int (nI 0)), (0, .ref h), (1, .int y_1), (2, .int y_2), (3, .int v17), (5, .int y_5)]) C dX5_tryRows_124 (by decide) rfl ?_
                  obtain ⟨y19, e_y19, hs⟩ := vlet_ex hs
                  refine g_iinc (pl := 5) (lv' := [(5, .int y19), (4, .int (nI 0)), (0, .ref h), (1, .int y_1), (2, .int y_2), (3, .int v17)]) C dX5_tryRows_126 rfl e_y19.symm (by decide) rfl ?_
                  refine g_goto (tgt := 16) C dX5_tryRows_129 (by decide) ?_
                  refine g_sub [2, 3, 4, 5, 1, 0] rfl ?_
                  exact ih v17 (nI 0) y19 v14 v15 z16.1 z16.2.1 z16.2.2 hs
                · replace hs := vi_f hs c18
                  refine g_aload_n (pl := 0) C dX5_tryRows_112 rfl rfl ?_
                  refine g_get C fX5_21 0 rfl rfl dX5_tryRows_113 ?_
                  refine g_iload_n (pl := 3) C dX5_tryRows_116 rfl rfl ?_
                  obtain ⟨b20, hs⟩ := vg_ok hs
                  refine g_iald C 4 rfl (vin_ok b20) dX5_tryRows_117 ?_
                  refine g_iconst (v := (nI 1)) C dX5_tryRows_118 rfl ?_
                  refine g_iadd C dX5_tryRows_119 ?_
                  refine g_goto (tgt := 124) C dX5_tryRows_120 (by decide) ?_
                  obtain ⟨y21, e_y21, hs⟩ := vlet_ex hs
                  refine g_topi e_y21 ?_
                  refine g_istore (lv' := [(4, .int y21), (0, .ref h), (1, .int y_1), (2, .int y_2), (3, .int v17), (5, .int y_5)]) C dX5_tryRows_124 (by decide) rfl ?_
                  obtain ⟨y22, e_y22, hs⟩ := vlet_ex hs
                  refine g_iinc (pl := 5) (lv' := [(5, .int y22), (4, .int y21), (0, .ref h), (1, .int y_1), (2, .int y_2), (3, .int v17)]) C dX5_tryRows_126 rfl e_y22.symm (by decide) rfl ?_
                  refine g_goto (tgt := 16) C dX5_tryRows_129 (by decide) ?_
                  refine g_sub [2, 3, 4, 5, 1, 0] rfl ?_
                  exact ih v17 y21 y22 v14 v15 z16.1 z16.2.1 z16.2.2 hs
set_option maxHeartbeats 4000000 in
set_option maxRecDepth 100000 in
theorem cX5_tryRows_ct (l : Launch) (D : va_G) (cI : ClassId) (h : Nat) (a_free : Nat) (a_factors : Nat) (a_weights : Nat) (a_row : Nat) (a_lengths : Nat) (a_signs : Nat) (f_words : Int32) (f_freeCount : Int32) (f_open : Int32) (f_free : Nat → Int32) (f_factors : Nat → Int32) (f_weights : Nat → Int32) (f_row : Nat → Int32) (f_lengths : Nat → Int32) (f_signs : Nat → Int32) (x1 : Int32) {z : (Nat → Int32) × (Nat → Int32) × (Nat → Int32) × (Nat → Int32) × Int32} (hs : sX5_tryRows f_free f_factors f_weights f_row f_lengths f_signs f_words f_freeCount f_open x1 = some z) : ct l yX5_tryRows (.code yX5_tryRows cX5_tryRows 7 none :: gtb) rmX5_tryRows D cI [.ref h, .int x1] [oX5 h a_free a_factors a_weights a_row a_lengths a_signs f_words f_freeCount f_open, aI cI a_free 15 f_free, aI cI a_factors 120 f_factors, aI cI a_weights 32 f_weights, aI cI a_row 3 f_row, aI cI a_lengths 8 f_lengths, aI cI a_signs 24 f_signs] none [oX5 h a_free a_factors a_weights a_row a_lengths a_signs f_words f_freeCount z.2.2.2.2, aI cI a_free 15 f_free, aI cI a_factors 120 f_factors, aI cI a_weights 32 z.1, aI cI a_row 3 z.2.1, aI cI a_lengths 8 z.2.2.1, aI cI a_signs 24 z.2.2.2.1] := by
  refine ct_ofV (own := RX5) (by decide +kernel) rfl (Nat.le_of_ble_eq_true rfl) (fun X C hD hR => ?_)
  unfold sX5_tryRows at hs
  show gg cI X 7 0 0 [oX5 h a_free a_factors a_weights a_row a_lengths a_signs f_words f_freeCount f_open, aI cI a_free 15 f_free, aI cI a_factors 120 f_factors, aI cI a_weights 32 f_weights, aI cI a_row 3 f_row, aI cI a_lengths 8 f_lengths, aI cI a_signs 24 f_signs] [(0, .ref h), (1, .int x1)] 0 []
  refine g_iload_n (pl := 1) C dX5_tryRows_0 rfl rfl ?_
  refine g_iconst (v := (nI 3)) C dX5_tryRows_1 rfl ?_
  refine g_min C q3_129 q2_8 q1_14 q2_9 (Nat.le_of_ble_eq_true rfl) (Nat.le_of_ble_eq_true rfl) (Nat.zero_le _) (Nat.zero_le _) dX5_tryRows_2 ?_
  refine g_iconst (v := (nI 1)) C dX5_tryRows_5 rfl ?_
  refine g_isub C dX5_tryRows_6 ?_
  obtain ⟨y23, e_y23, hs⟩ := vlet_ex hs
  refine g_topi e_y23 ?_
  refine g_istore_n (lv' := [(2, .int y23), (0, .ref h), (1, .int x1)]) C dX5_tryRows_7 rfl (by decide) rfl ?_
  refine g_iconst (v := (nI 0)) C dX5_tryRows_8 rfl ?_
  refine g_istore_n (lv' := [(3, .int (nI 0)), (2, .int y23), (0, .ref h), (1, .int x1)]) C dX5_tryRows_9 rfl (by decide) rfl ?_
  refine g_iconst (v := (nI 0)) C dX5_tryRows_10 rfl ?_
  refine g_istore (lv' := [(4, .int (nI 0)), (3, .int (nI 0)), (2, .int y23), (0, .ref h), (1, .int x1)]) C dX5_tryRows_11 (by decide) rfl ?_
  refine g_iconst (v := (nI 0)) C dX5_tryRows_13 rfl ?_
  refine g_istore (lv' := [(5, .int (nI 0)), (4, .int (nI 0)), (3, .int (nI 0)), (2, .int y23), (0, .ref h), (1, .int x1)]) C dX5_tryRows_14 (by decide) rfl ?_
  refine g_sub [4, 5, 3, 2, 1, 0] rfl ?_
  exact LX5_tryRows_16_w C h a_free a_factors a_weights a_row a_lengths a_signs f_words f_freeCount f_free f_factors x1 y23 hR _ (nI 0) (nI 0) (nI 0) f_weights f_row f_lengths f_signs f_open hs
def LX5_run_40 (y_4 : Int32) (f_free : Nat → Int32) (f_factors : Nat → Int32) (f_words : Int32) (f_freeCount : Int32) : Nat → Int32 → (Nat → Int32) → (Nat → Int32) → (Nat → Int32) → (Nat → Int32) → Int32 → Option ((Nat → Int32) × (Nat → Int32) × (Nat → Int32) × (Nat → Int32) × (Nat → Int32) × (Nat → Int32) × Int32 × Int32 × Int32)
  | 0, _, _, _, _, _, _ => none
  | n + 1, y_5, f_weights, f_row, f_lengths, f_signs, f_open =>
    vi (y_4 < y_5) inferInstance (
      some (f_free, f_factors, f_weights, f_row, f_lengths, f_signs, f_words, f_freeCount, f_open)) (
      vb (sX5_tryRows f_free f_factors f_weights f_row f_lengths f_signs f_words f_freeCount f_open y_5) fun z2 =>
      vlet (y_5 + (nI 1)) fun y3 =>
      LX5_run_40 y_4 f_free f_factors f_words f_freeCount n y3 z2.1 z2.2.1 z2.2.2.1 z2.2.2.2.1 z2.2.2.2.2)
def sX5_run (f_free : Nat → Int32) (f_factors : Nat → Int32) (f_weights : Nat → Int32) (f_row : Nat → Int32) (f_lengths : Nat → Int32) (f_signs : Nat → Int32) (f_words : Int32) (f_freeCount : Int32) (f_open : Int32) (f_p1_commons : Nat → Int32) (f_p1_lengths : Nat → Int32) (f_p1_parts : Nat → Int32) (f_p1_likenesses : Nat → Int32) (f_p1_wordCount : Int32) (f_p1_likenessCount : Int32) (f_p1_forbiddenBits : Int32) (f_p1_habitTold : Int32) (f_p2_cells : Nat → Int32) (x3 : Int32) : Option ((Nat → Int32) × (Nat → Int32) × (Nat → Int32) × (Nat → Int32) × (Nat → Int32) × (Nat → Int32) × Int32 × Int32 × Int32) :=
  vb (sX5_weighAtFirst f_weights f_lengths f_words f_open f_p1_commons f_p1_lengths f_p1_parts f_p1_likenesses f_p1_wordCount f_p1_habitTold f_p2_cells x3) fun z4 =>
  vb (sX4_cell f_p2_cells x3 (nI 0)) fun z5 =>
  vb (sX5_findFree f_free f_factors z4.2.2.1 f_freeCount f_p1_lengths f_p1_parts f_p1_likenesses f_p1_likenessCount f_p1_forbiddenBits f_p1_habitTold z5) fun z6 =>
  vb (sX5_judge z6.1 z4.1 f_row z4.2.1 f_signs z4.2.2.1 z6.2.2 z4.2.2.2 (nI 0)) fun z7 =>
  vb (sX4_cell f_p2_cells x3 (nI 3)) fun z8 =>
  vlet ((nI 5) - z8) fun y9 =>
  vlet (if y9 < (nI 3) then y9 else (nI 3)) fun y10 =>
  LX5_run_40 y10 z6.1 z6.2.1 z4.2.2.1 z6.2.2 vF (nI 1) z4.1 f_row z7.1 z7.2.1 z7.2.2
abbrev rmX5_run : Room := { frames := 4, cells := 0, slots := 0, locals := 98 }
set_option maxHeartbeats 4000000 in
set_option maxRecDepth 100000 in
theorem LX5_run_40_w {cI : ClassId} {X : xT} (C : cx cI X 6 cX5_run RX5 rmX5_run) (h : Nat) (a_free : Nat) (a_factors : Nat) (a_weights : Nat) (a_row : Nat) (a_lengths : Nat) (a_signs : Nat) (a_p1 : Nat) (a_p1_commons : Nat) (a_p1_lengths : Nat) (a_p1_parts : Nat) (a_p1_likenesses : Nat) (a_p2 : Nat) (a_p2_cells : Nat) (f_words : Int32) (f_freeCount : Int32) (f_free : Nat → Int32) (f_factors : Nat → Int32) (f_p1_wordCount : Int32) (f_p1_likenessCount : Int32) (f_p1_actorCount : Int32) (f_p1_forbiddenBits : Int32) (f_p1_habitTold : Int32) (f_p1_priceTold : Int32) (f_p1_commons : Nat → Int32) (f_p1_lengths : Nat → Int32) (f_p1_parts : Nat → Int32) (f_p1_likenesses : Nat → Int32) (f_p2_cells : Nat → Int32) (y_4 : Int32) {z : (Nat → Int32) × (Nat → Int32) × (Nat → Int32) × (Nat → Int32) × (Nat → Int32) × (Nat → Int32) × Int32 × Int32 × Int32} (hR : ∀ (lv : List (Nat × Value)) (pc : Nat), decode cX5_run pc = .ok (.return_, 1) → gg cI X 6 0 0 [oX5 h a_free a_factors a_weights a_row a_lengths a_signs z.2.2.2.2.2.2.1 z.2.2.2.2.2.2.2.1 z.2.2.2.2.2.2.2.2, aI cI a_free 15 z.1, aI cI a_factors 120 z.2.1, aI cI a_weights 32 z.2.2.1, aI cI a_row 3 z.2.2.2.1, aI cI a_lengths 8 z.2.2.2.2.1, aI cI a_signs 24 z.2.2.2.2.2.1, oX0 a_p1 a_p1_commons a_p1_lengths a_p1_parts a_p1_likenesses f_p1_wordCount f_p1_likenessCount f_p1_actorCount f_p1_forbiddenBits f_p1_habitTold f_p1_priceTold, aI cI a_p1_commons 8 f_p1_commons, aI cI a_p1_lengths 8 f_p1_lengths, aI cI a_p1_parts 8 f_p1_parts, aI cI a_p1_likenesses 6 f_p1_likenesses, oX4 a_p2 a_p2_cells, aI cI a_p2_cells 55 f_p2_cells] lv pc []) : ∀ (n : Nat) (y_5 : Int32) (f_weights : Nat → Int32) (f_row : Nat → Int32) (f_lengths : Nat → Int32) (f_signs : Nat → Int32) (f_open : Int32), LX5_run_40 y_4 f_free f_factors f_words f_freeCount n y_5 f_weights f_row f_lengths f_signs f_open = some z → gg cI X 6 0 0 [oX5 h a_free a_factors a_weights a_row a_lengths a_signs f_words f_freeCount f_open, aI cI a_free 15 f_free, aI cI a_factors 120 f_factors, aI cI a_weights 32 f_weights, aI cI a_row 3 f_row, aI cI a_lengths 8 f_lengths, aI cI a_signs 24 f_signs, oX0 a_p1 a_p1_commons a_p1_lengths a_p1_parts a_p1_likenesses f_p1_wordCount f_p1_likenessCount f_p1_actorCount f_p1_forbiddenBits f_p1_habitTold f_p1_priceTold, aI cI a_p1_commons 8 f_p1_commons, aI cI a_p1_lengths 8 f_p1_lengths, aI cI a_p1_parts 8 f_p1_parts, aI cI a_p1_likenesses 6 f_p1_likenesses, oX4 a_p2 a_p2_cells, aI cI a_p2_cells 55 f_p2_cells] [(0, .ref h), (1, .ref a_p1), (2, .ref a_p2), (4, .int y_4), (5, .int y_5)] 40 [] := by
  intro n
  induction n with
  | zero =>
    intro y_5 f_weights f_row f_lengths f_signs f_open hs
    exact nn_ok hs
  | succ n ih =>
    intro y_5 f_weights f_row f_lengths f_signs f_open hs
    rw [LX5_run_40] at hs
    refine g_iload (pl := 4) C dX5_run_40 rfl ?_
    refine g_iload (pl := 3) C dX5_run_42 rfl ?_
    refine g_icmp_gt (tgt := 59) C dX5_run_44 (by decide) (fun c1 => ?_) (fun c1 => ?_)
    · replace hs := vi_t hs c1
      cases hs
      exact hR _ _ dX5_run_59
    · replace hs := vi_f hs c1
      refine g_aload_n (pl := 0) C dX5_run_47 rfl rfl ?_
      refine g_iload (pl := 4) C dX5_run_48 rfl ?_
      obtain ⟨z2, e_z2, hs⟩ := vb_ok hs
      refine g_callV (ws' := [oX5 h a_free a_factors a_weights a_row a_lengths a_signs f_words f_freeCount z2.2.2.2.2, aI cI a_free 15 f_free, aI cI a_factors 120 f_factors, aI cI a_weights 32 z2.1, aI cI a_row 3 z2.2.1, aI cI a_lengths 8 z2.2.2.1, aI cI a_signs 24 z2.2.2.2.1, oX0 a_p1 a_p1_commons a_p1_lengths a_p1_parts a_p1_likenesses f_p1_wordCount f_p1_likenessCount f_p1_actorCount f_p1_forbiddenBits f_p1_habitTold f_p1_priceTold, aI cI a_p1_commons 8 f_p1_commons, aI cI a_p1_lengths 8 f_p1_lengths, aI cI a_p1_parts 8 f_p1_parts, aI cI a_p1_likenesses 6 f_p1_likenesses, oX4 a_p2 a_p2_cells, aI cI a_p2_cells 55 f_p2_cells]) (rest := []) (st' := []) C mX5_53 q3_155 [.int y_5] (fun l D => cX5_tryRows_ct l D cI h a_free a_factors a_weights a_row a_lengths a_signs f_words f_freeCount f_open f_free f_factors f_weights f_row f_lengths f_signs y_5 e_z2) ⟨⟨rfl, rfl⟩, Nat.le_of_ble_eq_true rfl, Nat.le_of_ble_eq_true rfl⟩ 0 rfl rfl rfl [0, 1, 2, 3, 4, 5, 6] rfl rfl rfl rfl rfl (Nat.le_of_ble_eq_true rfl) (Nat.zero_le _) (Nat.zero_le _) rfl dX5_run_50 ?_
      obtain ⟨y3, e_y3, hs⟩ := vlet_ex hs
      refine g_iinc (pl := 4) (lv' := [(5, .int y3), (0, .ref h), (1, .ref a_p1), (2, .ref a_p2), (4, .int y_4)]) C dX5_run_53 rfl e_y3.symm (by decide) rfl ?_
      refine g_goto (tgt := 40) C dX5_run_56 (by decide) ?_
      refine g_sub [1, 2, 3, 4, 0] rfl ?_
      exact ih y3 z2.1 z2.2.1 z2.2.2.1 z2.2.2.2.1 z2.2.2.2.2 hs
set_option maxHeartbeats 4000000 in
set_option maxRecDepth 100000 in
theorem cX5_run_ct (l : Launch) (D : va_G) (cI : ClassId) (h : Nat) (a_free : Nat) (a_factors : Nat) (a_weights : Nat) (a_row : Nat) (a_lengths : Nat) (a_signs : Nat) (a_p1 : Nat) (a_p1_commons : Nat) (a_p1_lengths : Nat) (a_p1_parts : Nat) (a_p1_likenesses : Nat) (a_p2 : Nat) (a_p2_cells : Nat) (f_words : Int32) (f_freeCount : Int32) (f_open : Int32) (f_free : Nat → Int32) (f_factors : Nat → Int32) (f_weights : Nat → Int32) (f_row : Nat → Int32) (f_lengths : Nat → Int32) (f_signs : Nat → Int32) (f_p1_wordCount : Int32) (f_p1_likenessCount : Int32) (f_p1_actorCount : Int32) (f_p1_forbiddenBits : Int32) (f_p1_habitTold : Int32) (f_p1_priceTold : Int32) (f_p1_commons : Nat → Int32) (f_p1_lengths : Nat → Int32) (f_p1_parts : Nat → Int32) (f_p1_likenesses : Nat → Int32) (f_p2_cells : Nat → Int32) (x3 : Int32) {z : (Nat → Int32) × (Nat → Int32) × (Nat → Int32) × (Nat → Int32) × (Nat → Int32) × (Nat → Int32) × Int32 × Int32 × Int32} (hs : sX5_run f_free f_factors f_weights f_row f_lengths f_signs f_words f_freeCount f_open f_p1_commons f_p1_lengths f_p1_parts f_p1_likenesses f_p1_wordCount f_p1_likenessCount f_p1_forbiddenBits f_p1_habitTold f_p2_cells x3 = some z) : ct l yX5_run (.code yX5_run cX5_run 6 none :: gtb) rmX5_run D cI [.ref h, .ref a_p1, .ref a_p2, .int x3] [oX5 h a_free a_factors a_weights a_row a_lengths a_signs f_words f_freeCount f_open, aI cI a_free 15 f_free, aI cI a_factors 120 f_factors, aI cI a_weights 32 f_weights, aI cI a_row 3 f_row, aI cI a_lengths 8 f_lengths, aI cI a_signs 24 f_signs, oX0 a_p1 a_p1_commons a_p1_lengths a_p1_parts a_p1_likenesses f_p1_wordCount f_p1_likenessCount f_p1_actorCount f_p1_forbiddenBits f_p1_habitTold f_p1_priceTold, aI cI a_p1_commons 8 f_p1_commons, aI cI a_p1_lengths 8 f_p1_lengths, aI cI a_p1_parts 8 f_p1_parts, aI cI a_p1_likenesses 6 f_p1_likenesses, oX4 a_p2 a_p2_cells, aI cI a_p2_cells 55 f_p2_cells] none [oX5 h a_free a_factors a_weights a_row a_lengths a_signs z.2.2.2.2.2.2.1 z.2.2.2.2.2.2.2.1 z.2.2.2.2.2.2.2.2, aI cI a_free 15 z.1, aI cI a_factors 120 z.2.1, aI cI a_weights 32 z.2.2.1, aI cI a_row 3 z.2.2.2.1, aI cI a_lengths 8 z.2.2.2.2.1, aI cI a_signs 24 z.2.2.2.2.2.1, oX0 a_p1 a_p1_commons a_p1_lengths a_p1_parts a_p1_likenesses f_p1_wordCount f_p1_likenessCount f_p1_actorCount f_p1_forbiddenBits f_p1_habitTold f_p1_priceTold, aI cI a_p1_commons 8 f_p1_commons, aI cI a_p1_lengths 8 f_p1_lengths, aI cI a_p1_parts 8 f_p1_parts, aI cI a_p1_likenesses 6 f_p1_likenesses, oX4 a_p2 a_p2_cells, aI cI a_p2_cells 55 f_p2_cells] := by
  refine ct_ofV (own := RX5) (by decide +kernel) rfl (Nat.le_of_ble_eq_true rfl) (fun X C hD hR => ?_)
  unfold sX5_run at hs
  show gg cI X 6 0 0 [oX5 h a_free a_factors a_weights a_row a_lengths a_signs f_words f_freeCount f_open, aI cI a_free 15 f_free, aI cI a_factors 120 f_factors, aI cI a_weights 32 f_weights, aI cI a_row 3 f_row, aI cI a_lengths 8 f_lengths, aI cI a_signs 24 f_signs, oX0 a_p1 a_p1_commons a_p1_lengths a_p1_parts a_p1_likenesses f_p1_wordCount f_p1_likenessCount f_p1_actorCount f_p1_forbiddenBits f_p1_habitTold f_p1_priceTold, aI cI a_p1_commons 8 f_p1_commons, aI cI a_p1_lengths 8 f_p1_lengths, aI cI a_p1_parts 8 f_p1_parts, aI cI a_p1_likenesses 6 f_p1_likenesses, oX4 a_p2 a_p2_cells, aI cI a_p2_cells 55 f_p2_cells] [(0, .ref h), (1, .ref a_p1), (2, .ref a_p2), (3, .int x3)] 0 []
  refine g_aload_n (pl := 0) C dX5_run_0 rfl rfl ?_
  refine g_aload_n (pl := 1) C dX5_run_1 rfl rfl ?_
  refine g_aload_n (pl := 2) C dX5_run_2 rfl rfl ?_
  refine g_iload_n (pl := 3) C dX5_run_3 rfl rfl ?_
  obtain ⟨z4, e_z4, hs⟩ := vb_ok hs
  refine g_callV (ws' := [oX5 h a_free a_factors a_weights a_row a_lengths a_signs z4.2.2.1 f_freeCount z4.2.2.2, aI cI a_free 15 f_free, aI cI a_factors 120 f_factors, aI cI a_weights 32 z4.1, aI cI a_row 3 f_row, aI cI a_lengths 8 z4.2.1, aI cI a_signs 24 f_signs, oX0 a_p1 a_p1_commons a_p1_lengths a_p1_parts a_p1_likenesses f_p1_wordCount f_p1_likenessCount f_p1_actorCount f_p1_forbiddenBits f_p1_habitTold f_p1_priceTold, aI cI a_p1_commons 8 f_p1_commons, aI cI a_p1_lengths 8 f_p1_lengths, aI cI a_p1_parts 8 f_p1_parts, aI cI a_p1_likenesses 6 f_p1_likenesses, oX4 a_p2 a_p2_cells, aI cI a_p2_cells 55 f_p2_cells]) (rest := []) (st' := []) C mX5_30 q3_127 [.ref a_p1, .ref a_p2, .int x3] (fun l D => cX5_weighAtFirst_ct l D cI h a_free a_factors a_weights a_row a_lengths a_signs a_p1 a_p1_commons a_p1_lengths a_p1_parts a_p1_likenesses a_p2 a_p2_cells f_words f_freeCount f_open f_weights f_lengths f_p1_wordCount f_p1_likenessCount f_p1_actorCount f_p1_forbiddenBits f_p1_habitTold f_p1_priceTold f_p1_commons f_p1_lengths f_p1_parts f_p1_likenesses f_p2_cells x3 e_z4) ⟨⟨rfl, rfl⟩, Nat.le_of_ble_eq_true rfl, Nat.le_of_ble_eq_true rfl⟩ 0 rfl rfl rfl [0, 3, 5, 7, 8, 9, 10, 11, 12, 13] rfl rfl rfl (by simp only [setM, List.set_cons_zero, List.set_cons_succ]) rfl (Nat.le_of_ble_eq_true rfl) (Nat.zero_le _) (Nat.zero_le _) rfl dX5_run_4 ?_
  refine g_aload_n (pl := 0) C dX5_run_7 rfl rfl ?_
  refine g_aload_n (pl := 1) C dX5_run_8 rfl rfl ?_
  refine g_aload_n (pl := 2) C dX5_run_9 rfl rfl ?_
  refine g_iload_n (pl := 3) C dX5_run_10 rfl rfl ?_
  refine g_iconst (v := (nI 0)) C dX5_run_11 rfl ?_
  obtain ⟨z5, e_z5, hs⟩ := vb_ok hs
  refine g_callV (ws' := [oX5 h a_free a_factors a_weights a_row a_lengths a_signs z4.2.2.1 f_freeCount z4.2.2.2, aI cI a_free 15 f_free, aI cI a_factors 120 f_factors, aI cI a_weights 32 z4.1, aI cI a_row 3 f_row, aI cI a_lengths 8 z4.2.1, aI cI a_signs 24 f_signs, oX0 a_p1 a_p1_commons a_p1_lengths a_p1_parts a_p1_likenesses f_p1_wordCount f_p1_likenessCount f_p1_actorCount f_p1_forbiddenBits f_p1_habitTold f_p1_priceTold, aI cI a_p1_commons 8 f_p1_commons, aI cI a_p1_lengths 8 f_p1_lengths, aI cI a_p1_parts 8 f_p1_parts, aI cI a_p1_likenesses 6 f_p1_likenesses, oX4 a_p2 a_p2_cells, aI cI a_p2_cells 55 f_p2_cells]) (rest := [.ref a_p1, .ref h]) (st' := [.int z5, .ref a_p1, .ref h]) C mX5_34 q2_232 [.int x3, .int (nI 0)] (fun l D => cX4_cell_ct l D cI a_p2 a_p2_cells f_p2_cells x3 (nI 0) e_z5) ⟨⟨rfl, rfl⟩, Nat.le_of_ble_eq_true rfl, Nat.le_of_ble_eq_true rfl⟩ 12 rfl rfl rfl [12, 13] rfl rfl rfl rfl rfl (Nat.le_of_ble_eq_true rfl) (Nat.zero_le _) (Nat.zero_le _) rfl dX5_run_12 ?_
  obtain ⟨z6, e_z6, hs⟩ := vb_ok hs
  refine g_callV (ws' := [oX5 h a_free a_factors a_weights a_row a_lengths a_signs z4.2.2.1 z6.2.2 z4.2.2.2, aI cI a_free 15 z6.1, aI cI a_factors 120 z6.2.1, aI cI a_weights 32 z4.1, aI cI a_row 3 f_row, aI cI a_lengths 8 z4.2.1, aI cI a_signs 24 f_signs, oX0 a_p1 a_p1_commons a_p1_lengths a_p1_parts a_p1_likenesses f_p1_wordCount f_p1_likenessCount f_p1_actorCount f_p1_forbiddenBits f_p1_habitTold f_p1_priceTold, aI cI a_p1_commons 8 f_p1_commons, aI cI a_p1_lengths 8 f_p1_lengths, aI cI a_p1_parts 8 f_p1_parts, aI cI a_p1_likenesses 6 f_p1_likenesses, oX4 a_p2 a_p2_cells, aI cI a_p2_cells 55 f_p2_cells]) (rest := []) (st' := []) C mX5_40 q3_136 [.ref a_p1, .int z5] (fun l D => cX5_findFree_ct l D cI h a_free a_factors a_weights a_row a_lengths a_signs a_p1 a_p1_commons a_p1_lengths a_p1_parts a_p1_likenesses z4.2.2.1 f_freeCount z4.2.2.2 f_free f_factors f_p1_wordCount f_p1_likenessCount f_p1_actorCount f_p1_forbiddenBits f_p1_habitTold f_p1_priceTold f_p1_lengths f_p1_parts f_p1_likenesses z5 e_z6) ⟨⟨rfl, rfl⟩, Nat.le_of_ble_eq_true rfl, Nat.le_of_ble_eq_true rfl⟩ 0 rfl rfl rfl [0, 1, 2, 7, 9, 10, 11] rfl rfl rfl rfl rfl (Nat.le_of_ble_eq_true rfl) (Nat.zero_le _) (Nat.zero_le _) rfl dX5_run_15 ?_
  refine g_aload_n (pl := 0) C dX5_run_18 rfl rfl ?_
  refine g_iconst (v := (nI 0)) C dX5_run_19 rfl ?_
  obtain ⟨z7, e_z7, hs⟩ := vb_ok hs
  refine g_callV (ws' := [oX5 h a_free a_factors a_weights a_row a_lengths a_signs z4.2.2.1 z6.2.2 z7.2.2, aI cI a_free 15 z6.1, aI cI a_factors 120 z6.2.1, aI cI a_weights 32 z4.1, aI cI a_row 3 f_row, aI cI a_lengths 8 z7.1, aI cI a_signs 24 z7.2.1, oX0 a_p1 a_p1_commons a_p1_lengths a_p1_parts a_p1_likenesses f_p1_wordCount f_p1_likenessCount f_p1_actorCount f_p1_forbiddenBits f_p1_habitTold f_p1_priceTold, aI cI a_p1_commons 8 f_p1_commons, aI cI a_p1_lengths 8 f_p1_lengths, aI cI a_p1_parts 8 f_p1_parts, aI cI a_p1_likenesses 6 f_p1_likenesses, oX4 a_p2 a_p2_cells, aI cI a_p2_cells 55 f_p2_cells]) (rest := []) (st' := []) C mX5_44 q3_143 [.int (nI 0)] (fun l D => cX5_judge_ct l D cI h a_free a_factors a_weights a_row a_lengths a_signs z4.2.2.1 z6.2.2 z4.2.2.2 z6.1 z4.1 f_row z4.2.1 f_signs (nI 0) e_z7) ⟨⟨rfl, rfl⟩, Nat.le_of_ble_eq_true rfl, Nat.le_of_ble_eq_true rfl⟩ 0 rfl rfl rfl [0, 1, 3, 4, 5, 6] rfl rfl rfl rfl rfl (Nat.le_of_ble_eq_true rfl) (Nat.zero_le _) (Nat.zero_le _) rfl dX5_run_20 ?_
  refine g_iconst (v := (nI 3)) C dX5_run_23 rfl ?_
  refine g_iconst (v := (nI 5)) C dX5_run_24 rfl ?_
  refine g_aload_n (pl := 2) C dX5_run_25 rfl rfl ?_
  refine g_iload_n (pl := 3) C dX5_run_26 rfl rfl ?_
  refine g_iconst (v := (nI 3)) C dX5_run_27 rfl ?_
  obtain ⟨z8, e_z8, hs⟩ := vb_ok hs
  refine g_callV (ws' := [oX5 h a_free a_factors a_weights a_row a_lengths a_signs z4.2.2.1 z6.2.2 z7.2.2, aI cI a_free 15 z6.1, aI cI a_factors 120 z6.2.1, aI cI a_weights 32 z4.1, aI cI a_row 3 f_row, aI cI a_lengths 8 z7.1, aI cI a_signs 24 z7.2.1, oX0 a_p1 a_p1_commons a_p1_lengths a_p1_parts a_p1_likenesses f_p1_wordCount f_p1_likenessCount f_p1_actorCount f_p1_forbiddenBits f_p1_habitTold f_p1_priceTold, aI cI a_p1_commons 8 f_p1_commons, aI cI a_p1_lengths 8 f_p1_lengths, aI cI a_p1_parts 8 f_p1_parts, aI cI a_p1_likenesses 6 f_p1_likenesses, oX4 a_p2 a_p2_cells, aI cI a_p2_cells 55 f_p2_cells]) (rest := [.int (nI 5), .int (nI 3)]) (st' := [.int z8, .int (nI 5), .int (nI 3)]) C mX5_34 q2_232 [.int x3, .int (nI 3)] (fun l D => cX4_cell_ct l D cI a_p2 a_p2_cells f_p2_cells x3 (nI 3) e_z8) ⟨⟨rfl, rfl⟩, Nat.le_of_ble_eq_true rfl, Nat.le_of_ble_eq_true rfl⟩ 12 rfl rfl rfl [12, 13] rfl rfl rfl rfl rfl (Nat.le_of_ble_eq_true rfl) (Nat.zero_le _) (Nat.zero_le _) rfl dX5_run_28 ?_
  refine g_isub C dX5_run_31 ?_
  obtain ⟨y9, e_y9, hs⟩ := vlet_ex hs
  refine g_topi e_y9 ?_
  refine g_min C q3_129 q2_8 q1_14 q2_9 (Nat.le_of_ble_eq_true rfl) (Nat.le_of_ble_eq_true rfl) (Nat.zero_le _) (Nat.zero_le _) dX5_run_32 ?_
  obtain ⟨y10, e_y10, hs⟩ := vlet_ex hs
  refine g_topi e_y10 ?_
  refine g_istore (lv' := [(4, .int y10), (0, .ref h), (1, .ref a_p1), (2, .ref a_p2), (3, .int x3)]) C dX5_run_35 (by decide) rfl ?_
  refine g_iconst (v := (nI 1)) C dX5_run_37 rfl ?_
  refine g_istore (lv' := [(5, .int (nI 1)), (4, .int y10), (0, .ref h), (1, .ref a_p1), (2, .ref a_p2), (3, .int x3)]) C dX5_run_38 (by decide) rfl ?_
  refine g_sub [2, 3, 4, 1, 0] rfl ?_
  exact LX5_run_40_w C h a_free a_factors a_weights a_row a_lengths a_signs a_p1 a_p1_commons a_p1_lengths a_p1_parts a_p1_likenesses a_p2 a_p2_cells z4.2.2.1 z6.2.2 z6.1 z6.2.1 f_p1_wordCount f_p1_likenessCount f_p1_actorCount f_p1_forbiddenBits f_p1_habitTold f_p1_priceTold f_p1_commons f_p1_lengths f_p1_parts f_p1_likenesses f_p2_cells y10 hR _ (nI 1) z4.1 f_row z7.1 z7.2.1 z7.2.2 hs
def sX5_howMany (f_lengths : Nat → Int32) (f_words : Int32) (x1 : Int32) : Option (Int32) :=
  vi (x1 < 0) inferInstance (
    some ((-4))) (
    vi (f_words ≤ x1) inferInstance (
      some ((-4))) (
      vg (vin x1 8) (
      some (f_lengths (Int32.toNatClampNeg x1)))))
abbrev rmX5_howMany : Room := { frames := 0, cells := 0, slots := 0, locals := 0 }
set_option maxHeartbeats 4000000 in
set_option maxRecDepth 100000 in
theorem cX5_howMany_ct (l : Launch) (D : va_G) (cI : ClassId) (h : Nat) (a_free : Nat) (a_factors : Nat) (a_weights : Nat) (a_row : Nat) (a_lengths : Nat) (a_signs : Nat) (f_words : Int32) (f_freeCount : Int32) (f_open : Int32) (f_lengths : Nat → Int32) (x1 : Int32) {z : Int32} (hs : sX5_howMany f_lengths f_words x1 = some z) : ct l yX5_howMany (.code yX5_howMany cX5_howMany 2 (some .int) :: gtb) rmX5_howMany D cI [.ref h, .int x1] [oX5 h a_free a_factors a_weights a_row a_lengths a_signs f_words f_freeCount f_open, aI cI a_lengths 8 f_lengths] (some (.int z)) [oX5 h a_free a_factors a_weights a_row a_lengths a_signs f_words f_freeCount f_open, aI cI a_lengths 8 f_lengths] := by
  refine ct_ofI (own := RX5) (by decide +kernel) rfl (Nat.le_of_ble_eq_true rfl) (fun X C hD hR => ?_)
  unfold sX5_howMany at hs
  show gg cI X 2 0 0 [oX5 h a_free a_factors a_weights a_row a_lengths a_signs f_words f_freeCount f_open, aI cI a_lengths 8 f_lengths] [(0, .ref h), (1, .int x1)] 0 []
  refine g_iload_n (pl := 1) C dX5_howMany_0 rfl rfl ?_
  refine g_if_lt (tgt := 21) C dX5_howMany_1 (by decide) (fun c1 => ?_) (fun c1 => ?_)
  · replace hs := vi_t hs c1
    refine g_bipush (v := (-4)) C dX5_howMany_21 rfl ?_
    cases hs
    exact hR _ _ dX5_howMany_23
  · replace hs := vi_f hs c1
    refine g_iload_n (pl := 1) C dX5_howMany_4 rfl rfl ?_
    refine g_aload_n (pl := 0) C dX5_howMany_5 rfl rfl ?_
    refine g_get C fX5_56 0 rfl rfl dX5_howMany_6 ?_
    refine g_icmp_ge (tgt := 21) C dX5_howMany_9 (by decide) (fun c2 => ?_) (fun c2 => ?_)
    · replace hs := vi_t hs c2
      refine g_bipush (v := (-4)) C dX5_howMany_21 rfl ?_
      cases hs
      exact hR _ _ dX5_howMany_23
    · replace hs := vi_f hs c2
      refine g_aload_n (pl := 0) C dX5_howMany_12 rfl rfl ?_
      refine g_get C fX5_24 0 rfl rfl dX5_howMany_13 ?_
      refine g_iload_n (pl := 1) C dX5_howMany_16 rfl rfl ?_
      obtain ⟨b3, hs⟩ := vg_ok hs
      refine g_iald C 1 rfl (vin_ok b3) dX5_howMany_17 ?_
      refine g_goto (tgt := 23) C dX5_howMany_18 (by decide) ?_
      cases hs
      exact hR _ _ dX5_howMany_23
def sX5_signOf (f_lengths : Nat → Int32) (f_signs : Nat → Int32) (f_words : Int32) (x1 : Int32) (x2 : Int32) : Option (Int32) :=
  vi (x2 < 0) inferInstance (
    some ((-4))) (
    vb (sX5_howMany f_lengths f_words x1) fun z2 =>
    vi (z2 ≤ x2) inferInstance (
      some ((-4))) (
      vi ((nI 3) ≤ x2) inferInstance (
        some ((-4))) (
        vg (vin ((x1 * (nI 3)) + x2) 24) (
        some (f_signs (Int32.toNatClampNeg ((x1 * (nI 3)) + x2)))))))
abbrev rmX5_signOf : Room := { frames := 1, cells := 0, slots := 0, locals := 21 }
set_option maxHeartbeats 4000000 in
set_option maxRecDepth 100000 in
theorem cX5_signOf_ct (l : Launch) (D : va_G) (cI : ClassId) (h : Nat) (a_free : Nat) (a_factors : Nat) (a_weights : Nat) (a_row : Nat) (a_lengths : Nat) (a_signs : Nat) (f_words : Int32) (f_freeCount : Int32) (f_open : Int32) (f_lengths : Nat → Int32) (f_signs : Nat → Int32) (x1 : Int32) (x2 : Int32) {z : Int32} (hs : sX5_signOf f_lengths f_signs f_words x1 x2 = some z) : ct l yX5_signOf (.code yX5_signOf cX5_signOf 3 (some .int) :: gtb) rmX5_signOf D cI [.ref h, .int x1, .int x2] [oX5 h a_free a_factors a_weights a_row a_lengths a_signs f_words f_freeCount f_open, aI cI a_lengths 8 f_lengths, aI cI a_signs 24 f_signs] (some (.int z)) [oX5 h a_free a_factors a_weights a_row a_lengths a_signs f_words f_freeCount f_open, aI cI a_lengths 8 f_lengths, aI cI a_signs 24 f_signs] := by
  refine ct_ofI (own := RX5) (by decide +kernel) rfl (Nat.le_of_ble_eq_true rfl) (fun X C hD hR => ?_)
  unfold sX5_signOf at hs
  show gg cI X 3 0 0 [oX5 h a_free a_factors a_weights a_row a_lengths a_signs f_words f_freeCount f_open, aI cI a_lengths 8 f_lengths, aI cI a_signs 24 f_signs] [(0, .ref h), (1, .int x1), (2, .int x2)] 0 []
  refine g_iload_n (pl := 2) C dX5_signOf_0 rfl rfl ?_
  refine g_if_lt (tgt := 31) C dX5_signOf_1 (by decide) (fun c1 => ?_) (fun c1 => ?_)
  · replace hs := vi_t hs c1
    refine g_bipush (v := (-4)) C dX5_signOf_31 rfl ?_
    cases hs
    exact hR _ _ dX5_signOf_33
  · replace hs := vi_f hs c1
    refine g_iload_n (pl := 2) C dX5_signOf_4 rfl rfl ?_
    refine g_aload_n (pl := 0) C dX5_signOf_5 rfl rfl ?_
    refine g_iload_n (pl := 1) C dX5_signOf_6 rfl rfl ?_
    obtain ⟨z2, e_z2, hs⟩ := vb_ok hs
    refine g_callV (ws' := [oX5 h a_free a_factors a_weights a_row a_lengths a_signs f_words f_freeCount f_open, aI cI a_lengths 8 f_lengths, aI cI a_signs 24 f_signs]) (rest := [.int x2]) (st' := [.int z2, .int x2]) C mX5_60 q3_163 [.int x1] (fun l D => cX5_howMany_ct l D cI h a_free a_factors a_weights a_row a_lengths a_signs f_words f_freeCount f_open f_lengths x1 e_z2) ⟨⟨rfl, rfl⟩, Nat.le_of_ble_eq_true rfl, Nat.le_of_ble_eq_true rfl⟩ 0 rfl rfl rfl [0, 1] rfl rfl rfl rfl rfl (Nat.le_of_ble_eq_true rfl) (Nat.zero_le _) (Nat.zero_le _) rfl dX5_signOf_7 ?_
    refine g_icmp_ge (tgt := 31) C dX5_signOf_10 (by decide) (fun c3 => ?_) (fun c3 => ?_)
    · replace hs := vi_t hs c3
      refine g_bipush (v := (-4)) C dX5_signOf_31 rfl ?_
      cases hs
      exact hR _ _ dX5_signOf_33
    · replace hs := vi_f hs c3
      refine g_iload_n (pl := 2) C dX5_signOf_13 rfl rfl ?_
      refine g_iconst (v := (nI 3)) C dX5_signOf_14 rfl ?_
      refine g_icmp_ge (tgt := 31) C dX5_signOf_15 (by decide) (fun c4 => ?_) (fun c4 => ?_)
      · replace hs := vi_t hs c4
        refine g_bipush (v := (-4)) C dX5_signOf_31 rfl ?_
        cases hs
        exact hR _ _ dX5_signOf_33
      · replace hs := vi_f hs c4
        refine g_aload_n (pl := 0) C dX5_signOf_18 rfl rfl ?_
        refine g_get C fX5_27 0 rfl rfl dX5_signOf_19 ?_
        refine g_iload_n (pl := 1) C dX5_signOf_22 rfl rfl ?_
        refine g_iconst (v := (nI 3)) C dX5_signOf_23 rfl ?_
        refine g_imul C dX5_signOf_24 ?_
        refine g_iload_n (pl := 2) C dX5_signOf_25 rfl rfl ?_
        refine g_iadd C dX5_signOf_26 ?_
        obtain ⟨b5, hs⟩ := vg_ok hs
        refine g_iald C 2 rfl (vin_ok b5) dX5_signOf_27 ?_
        refine g_goto (tgt := 33) C dX5_signOf_28 (by decide) ?_
        cases hs
        exact hR _ _ dX5_signOf_33

def sX6_size (f_used : Int32) : Option (Int32) :=
  some (f_used)
abbrev rmX6_size : Room := { frames := 0, cells := 0, slots := 0, locals := 0 }
set_option maxHeartbeats 4000000 in
set_option maxRecDepth 100000 in
theorem cX6_size_ct (l : Launch) (D : va_G) (cI : ClassId) (h : Nat) (a_actors : Nat) (a_words : Nat) (f_used : Int32) {z : Int32} (hs : sX6_size f_used = some z) : ct l yX6_size (.code yX6_size cX6_size 1 (some .int) :: gtb) rmX6_size D cI [.ref h] [oX6 h a_actors a_words f_used] (some (.int z)) [oX6 h a_actors a_words f_used] := by
  refine ct_ofI (own := RX6) (by decide +kernel) rfl (Nat.le_of_ble_eq_true rfl) (fun X C hD hR => ?_)
  unfold sX6_size at hs
  show gg cI X 1 0 0 [oX6 h a_actors a_words f_used] [(0, .ref h)] 0 []
  refine g_aload_n (pl := 0) C dX6_size_0 rfl rfl ?_
  refine g_get C fX6_18 0 rfl rfl dX6_size_1 ?_
  cases hs
  exact hR _ _ dX6_size_4
def sX6_add (f_actors : Nat → Int32) (f_words : Nat → Int32) (f_used : Int32) (x1 : Int32) (x2 : Int32) : Option (Int32 × (Nat → Int32) × (Nat → Int32) × Int32) :=
  vi (f_used < 0) inferInstance (
    some ((-3), f_actors, f_words, f_used)) (
    vi (f_used < (nI 6)) inferInstance (
      vg (vin f_used 6) (
      vlet (upd f_actors (Int32.toNatClampNeg f_used) x1) fun u4 =>
      vg (vin f_used 6) (
      vlet (upd f_words (Int32.toNatClampNeg f_used) x2) fun u6 =>
      vlet (f_used + (nI 1)) fun y7 =>
      some (y7, u4, u6, y7)))) (
      some ((-3), f_actors, f_words, f_used)))
abbrev rmX6_add : Room := { frames := 0, cells := 0, slots := 0, locals := 0 }
set_option maxHeartbeats 4000000 in
set_option maxRecDepth 100000 in
theorem cX6_add_ct (l : Launch) (D : va_G) (cI : ClassId) (h : Nat) (a_actors : Nat) (a_words : Nat) (f_used : Int32) (f_actors : Nat → Int32) (f_words : Nat → Int32) (x1 : Int32) (x2 : Int32) {z : Int32 × (Nat → Int32) × (Nat → Int32) × Int32} (hs : sX6_add f_actors f_words f_used x1 x2 = some z) : ct l yX6_add (.code yX6_add cX6_add 3 (some .int) :: gtb) rmX6_add D cI [.ref h, .int x1, .int x2] [oX6 h a_actors a_words f_used, aI cI a_actors 6 f_actors, aI cI a_words 6 f_words] (some (.int z.1)) [oX6 h a_actors a_words z.2.2.2, aI cI a_actors 6 z.2.1, aI cI a_words 6 z.2.2.1] := by
  refine ct_ofI (own := RX6) (by decide +kernel) rfl (Nat.le_of_ble_eq_true rfl) (fun X C hD hR => ?_)
  unfold sX6_add at hs
  show gg cI X 3 0 0 [oX6 h a_actors a_words f_used, aI cI a_actors 6 f_actors, aI cI a_words 6 f_words] [(0, .ref h), (1, .int x1), (2, .int x2)] 0 []
  refine g_aload_n (pl := 0) C dX6_add_0 rfl rfl ?_
  refine g_get C fX6_18 0 rfl rfl dX6_add_1 ?_
  refine g_if_lt (tgt := 16) C dX6_add_4 (by decide) (fun c1 => ?_) (fun c1 => ?_)
  · replace hs := vi_t hs c1
    refine g_bipush (v := (-3)) C dX6_add_16 rfl ?_
    cases hs
    exact hR _ _ dX6_add_18
  · replace hs := vi_f hs c1
    refine g_aload_n (pl := 0) C dX6_add_7 rfl rfl ?_
    refine g_get C fX6_18 0 rfl rfl dX6_add_8 ?_
    refine g_bipush (v := (nI 6)) C dX6_add_11 rfl ?_
    refine g_icmp_lt (tgt := 19) C dX6_add_13 (by decide) (fun c2 => ?_) (fun c2 => ?_)
    · replace hs := vi_t hs c2
      refine g_aload_n (pl := 0) C dX6_add_19 rfl rfl ?_
      refine g_get C fX6_9 0 rfl rfl dX6_add_20 ?_
      refine g_aload_n (pl := 0) C dX6_add_23 rfl rfl ?_
      refine g_get C fX6_18 0 rfl rfl dX6_add_24 ?_
      refine g_iload_n (pl := 1) C dX6_add_27 rfl rfl ?_
      obtain ⟨b3, hs⟩ := vg_ok hs
      obtain ⟨u4, e_u4, hs⟩ := vlet_ex hs
      refine g_iast (ws' := [oX6 h a_actors a_words f_used, aI cI a_actors 6 u4, aI cI a_words 6 f_words]) C 1 rfl (vin_ok b3) (by rw [e_u4]; rfl) dX6_add_28 ?_
      refine g_aload_n (pl := 0) C dX6_add_29 rfl rfl ?_
      refine g_get C fX6_15 0 rfl rfl dX6_add_30 ?_
      refine g_aload_n (pl := 0) C dX6_add_33 rfl rfl ?_
      refine g_get C fX6_18 0 rfl rfl dX6_add_34 ?_
      refine g_iload_n (pl := 2) C dX6_add_37 rfl rfl ?_
      obtain ⟨b5, hs⟩ := vg_ok hs
      obtain ⟨u6, e_u6, hs⟩ := vlet_ex hs
      refine g_iast (ws' := [oX6 h a_actors a_words f_used, aI cI a_actors 6 u4, aI cI a_words 6 u6]) C 2 rfl (vin_ok b5) (by rw [e_u6]; rfl) dX6_add_38 ?_
      refine g_aload_n (pl := 0) C dX6_add_39 rfl rfl ?_
      refine g_dup C dX6_add_40 rfl ?_
      refine g_get C fX6_18 0 rfl rfl dX6_add_41 ?_
      refine g_iconst (v := (nI 1)) C dX6_add_44 rfl ?_
      refine g_iadd C dX6_add_45 ?_
      obtain ⟨y7, e_y7, hs⟩ := vlet_ex hs
      refine g_topi e_y7 ?_
      refine g_putI (ws' := [oX6 h a_actors a_words y7, aI cI a_actors 6 u4, aI cI a_words 6 u6]) C fX6_18 0 rfl (Nat.le_of_ble_eq_true rfl) rfl dX6_add_46 ?_
      refine g_aload_n (pl := 0) C dX6_add_49 rfl rfl ?_
      refine g_get C fX6_18 0 rfl rfl dX6_add_50 ?_
      cases hs
      exact hR _ _ dX6_add_53
    · replace hs := vi_f hs c2
      refine g_bipush (v := (-3)) C dX6_add_16 rfl ?_
      cases hs
      exact hR _ _ dX6_add_18
def sX6_clear (f_used : Int32) : Option (Int32 × Int32) :=
  some (f_used, (nI 0))
abbrev rmX6_clear : Room := { frames := 0, cells := 0, slots := 0, locals := 0 }
set_option maxHeartbeats 4000000 in
set_option maxRecDepth 100000 in
theorem cX6_clear_ct (l : Launch) (D : va_G) (cI : ClassId) (h : Nat) (a_actors : Nat) (a_words : Nat) (f_used : Int32) {z : Int32 × Int32} (hs : sX6_clear f_used = some z) : ct l yX6_clear (.code yX6_clear cX6_clear 2 (some .int) :: gtb) rmX6_clear D cI [.ref h] [oX6 h a_actors a_words f_used] (some (.int z.1)) [oX6 h a_actors a_words z.2] := by
  refine ct_ofI (own := RX6) (by decide +kernel) rfl (Nat.le_of_ble_eq_true rfl) (fun X C hD hR => ?_)
  unfold sX6_clear at hs
  show gg cI X 2 0 0 [oX6 h a_actors a_words f_used] [(0, .ref h)] 0 []
  refine g_aload_n (pl := 0) C dX6_clear_0 rfl rfl ?_
  refine g_get C fX6_18 0 rfl rfl dX6_clear_1 ?_
  refine g_istore_n (lv' := [(1, .int f_used), (0, .ref h)]) C dX6_clear_4 rfl (by decide) rfl ?_
  refine g_aload_n (pl := 1) C dX6_clear_5 rfl rfl ?_
  refine g_iconst (v := (nI 0)) C dX6_clear_6 rfl ?_
  refine g_putI (ws' := [oX6 h a_actors a_words (nI 0)]) C fX6_18 0 rfl (Nat.le_of_ble_eq_true rfl) rfl dX6_clear_7 ?_
  refine g_iload_n (pl := 0) C dX6_clear_10 rfl rfl ?_
  cases hs
  exact hR _ _ dX6_clear_11
def LX6_holdsBy_3 (y_1 : Int32) (f_actors : Nat → Int32) (f_words : Nat → Int32) (f_used : Int32) (f_p2_commons : Nat → Int32) (f_p2_lengths : Nat → Int32) (f_p2_parts : Nat → Int32) (f_p2_likenesses : Nat → Int32) (f_p2_wordCount : Int32) (f_p3_cells : Nat → Int32) : Nat → Int32 → Option (Int32)
  | 0, _ => none
  | n + 1, y_4 =>
    vi (f_used ≤ y_4) inferInstance (
      some ((nI 1))) (
      vi ((nI 6) ≤ y_4) inferInstance (
        some ((nI 1))) (
        vg (vin y_4 6) (
        vb (sX4_waits f_p3_cells (f_actors (Int32.toNatClampNeg y_4))) fun z4 =>
        vi (z4 = 0) inferInstance (
          some ((nI 0))) (
          vg (vin y_4 6) (
          vb (sX0_heaviest f_p2_commons f_p2_lengths f_p2_parts f_p2_likenesses f_p2_wordCount f_p3_cells (f_actors (Int32.toNatClampNeg y_4)) (nI 31) y_1) fun z7 =>
          vg (vin y_4 6) (
          vi (z7 = (f_words (Int32.toNatClampNeg y_4))) inferInstance (
            vlet (y_4 + (nI 1)) fun y10 =>
            LX6_holdsBy_3 y_1 f_actors f_words f_used f_p2_commons f_p2_lengths f_p2_parts f_p2_likenesses f_p2_wordCount f_p3_cells n y10) (
            some ((nI 0)))))))))
def sX6_holdsBy (f_actors : Nat → Int32) (f_words : Nat → Int32) (f_used : Int32) (f_p2_commons : Nat → Int32) (f_p2_lengths : Nat → Int32) (f_p2_parts : Nat → Int32) (f_p2_likenesses : Nat → Int32) (f_p2_wordCount : Int32) (f_p3_cells : Nat → Int32) (x1 : Int32) : Option (Int32) :=
  LX6_holdsBy_3 x1 f_actors f_words f_used f_p2_commons f_p2_lengths f_p2_parts f_p2_likenesses f_p2_wordCount f_p3_cells vF (nI 0)
abbrev rmX6_holdsBy : Room := { frames := 4, cells := 0, slots := 0, locals := 102 }
set_option maxHeartbeats 4000000 in
set_option maxRecDepth 100000 in
theorem LX6_holdsBy_3_w {cI : ClassId} {X : xT} (C : cx cI X 5 cX6_holdsBy RX6 rmX6_holdsBy) (h : Nat) (a_actors : Nat) (a_words : Nat) (a_p2 : Nat) (a_p2_commons : Nat) (a_p2_lengths : Nat) (a_p2_parts : Nat) (a_p2_likenesses : Nat) (a_p3 : Nat) (a_p3_cells : Nat) (f_used : Int32) (f_actors : Nat → Int32) (f_words : Nat → Int32) (f_p2_wordCount : Int32) (f_p2_likenessCount : Int32) (f_p2_actorCount : Int32) (f_p2_forbiddenBits : Int32) (f_p2_habitTold : Int32) (f_p2_priceTold : Int32) (f_p2_commons : Nat → Int32) (f_p2_lengths : Nat → Int32) (f_p2_parts : Nat → Int32) (f_p2_likenesses : Nat → Int32) (f_p3_cells : Nat → Int32) (y_1 : Int32) {z : Int32} (hR : ∀ (lv : List (Nat × Value)) (pc : Nat), (z = 0 ∨ z = 1) → decode cX6_holdsBy pc = .ok (.ireturn, 1) → gg cI X 5 0 0 [oX6 h a_actors a_words f_used, aI cI a_actors 6 f_actors, aI cI a_words 6 f_words, oX0 a_p2 a_p2_commons a_p2_lengths a_p2_parts a_p2_likenesses f_p2_wordCount f_p2_likenessCount f_p2_actorCount f_p2_forbiddenBits f_p2_habitTold f_p2_priceTold, aI cI a_p2_commons 8 f_p2_commons, aI cI a_p2_lengths 8 f_p2_lengths, aI cI a_p2_parts 8 f_p2_parts, aI cI a_p2_likenesses 6 f_p2_likenesses, oX4 a_p3 a_p3_cells, aI cI a_p3_cells 55 f_p3_cells] lv pc [.int z]) : ∀ (n : Nat) (y_4 : Int32), LX6_holdsBy_3 y_1 f_actors f_words f_used f_p2_commons f_p2_lengths f_p2_parts f_p2_likenesses f_p2_wordCount f_p3_cells n y_4 = some z → gg cI X 5 0 0 [oX6 h a_actors a_words f_used, aI cI a_actors 6 f_actors, aI cI a_words 6 f_words, oX0 a_p2 a_p2_commons a_p2_lengths a_p2_parts a_p2_likenesses f_p2_wordCount f_p2_likenessCount f_p2_actorCount f_p2_forbiddenBits f_p2_habitTold f_p2_priceTold, aI cI a_p2_commons 8 f_p2_commons, aI cI a_p2_lengths 8 f_p2_lengths, aI cI a_p2_parts 8 f_p2_parts, aI cI a_p2_likenesses 6 f_p2_likenesses, oX4 a_p3 a_p3_cells, aI cI a_p3_cells 55 f_p3_cells] [(0, .ref h), (1, .int y_1), (2, .ref a_p2), (3, .ref a_p3), (4, .int y_4)] 3 [] := by
  intro n
  induction n with
  | zero =>
    intro y_4 hs
    exact nn_ok hs
  | succ n ih =>
    intro y_4 hs
    rw [LX6_holdsBy_3] at hs
    refine g_iload (pl := 4) C dX6_holdsBy_3 rfl ?_
    refine g_aload_n (pl := 0) C dX6_holdsBy_5 rfl rfl ?_
    refine g_get C fX6_18 0 rfl rfl dX6_holdsBy_6 ?_
    refine g_icmp_ge (tgt := 66) C dX6_holdsBy_9 (by decide) (fun c1 => ?_) (fun c1 => ?_)
    · replace hs := vi_t hs c1
      refine g_iconst (v := (nI 1)) C dX6_holdsBy_66 rfl ?_
      cases hs
      exact hR _ _ (Or.inr rfl) dX6_holdsBy_67
    · replace hs := vi_f hs c1
      refine g_iload (pl := 4) C dX6_holdsBy_12 rfl ?_
      refine g_bipush (v := (nI 6)) C dX6_holdsBy_14 rfl ?_
      refine g_icmp_ge (tgt := 66) C dX6_holdsBy_16 (by decide) (fun c2 => ?_) (fun c2 => ?_)
      · replace hs := vi_t hs c2
        refine g_iconst (v := (nI 1)) C dX6_holdsBy_66 rfl ?_
        cases hs
        exact hR _ _ (Or.inr rfl) dX6_holdsBy_67
      · replace hs := vi_f hs c2
        refine g_aload_n (pl := 3) C dX6_holdsBy_19 rfl rfl ?_
        refine g_aload_n (pl := 0) C dX6_holdsBy_20 rfl rfl ?_
        refine g_get C fX6_9 0 rfl rfl dX6_holdsBy_21 ?_
        refine g_iload (pl := 4) C dX6_holdsBy_24 rfl ?_
        obtain ⟨b3, hs⟩ := vg_ok hs
        refine g_iald C 1 rfl (vin_ok b3) dX6_holdsBy_26 ?_
        obtain ⟨z4, e_z4, hs⟩ := vb_ok hs
        refine g_callV (ws' := [oX6 h a_actors a_words f_used, aI cI a_actors 6 f_actors, aI cI a_words 6 f_words, oX0 a_p2 a_p2_commons a_p2_lengths a_p2_parts a_p2_likenesses f_p2_wordCount f_p2_likenessCount f_p2_actorCount f_p2_forbiddenBits f_p2_habitTold f_p2_priceTold, aI cI a_p2_commons 8 f_p2_commons, aI cI a_p2_lengths 8 f_p2_lengths, aI cI a_p2_parts 8 f_p2_parts, aI cI a_p2_likenesses 6 f_p2_likenesses, oX4 a_p3 a_p3_cells, aI cI a_p3_cells 55 f_p3_cells]) (rest := []) (st' := [.int z4]) C mX6_22 q3_13 [.int (f_actors (Int32.toNatClampNeg y_4))] (fun l D => cX4_waits_ct l D cI a_p3 a_p3_cells f_p3_cells (f_actors (Int32.toNatClampNeg y_4)) e_z4) ⟨⟨rfl, rfl⟩, Nat.le_of_ble_eq_true rfl, Nat.le_of_ble_eq_true rfl⟩ 8 rfl rfl rfl [8, 9] rfl rfl rfl rfl rfl (Nat.le_of_ble_eq_true rfl) (Nat.zero_le _) (Nat.zero_le _) rfl dX6_holdsBy_27 ?_
        refine g_if_eq (tgt := 58) C dX6_holdsBy_30 (by decide) (fun c5 => ?_) (fun c5 => ?_)
        · replace hs := vi_t hs c5
          refine g_iconst (v := (nI 0)) C dX6_holdsBy_58 rfl ?_
          cases hs
          exact hR _ _ (Or.inl rfl) dX6_holdsBy_59
        · replace hs := vi_f hs c5
          refine g_aload_n (pl := 2) C dX6_holdsBy_33 rfl rfl ?_
          refine g_aload_n (pl := 3) C dX6_holdsBy_34 rfl rfl ?_
          refine g_aload_n (pl := 0) C dX6_holdsBy_35 rfl rfl ?_
          refine g_get C fX6_9 0 rfl rfl dX6_holdsBy_36 ?_
          refine g_iload (pl := 4) C dX6_holdsBy_39 rfl ?_
          obtain ⟨b6, hs⟩ := vg_ok hs
          refine g_iald C 1 rfl (vin_ok b6) dX6_holdsBy_41 ?_
          refine g_bipush (v := (nI 31)) C dX6_holdsBy_42 rfl ?_
          refine g_iload_n (pl := 1) C dX6_holdsBy_44 rfl rfl ?_
          obtain ⟨z7, e_z7, hs⟩ := vb_ok hs
          refine g_callV (ws' := [oX6 h a_actors a_words f_used, aI cI a_actors 6 f_actors, aI cI a_words 6 f_words, oX0 a_p2 a_p2_commons a_p2_lengths a_p2_parts a_p2_likenesses f_p2_wordCount f_p2_likenessCount f_p2_actorCount f_p2_forbiddenBits f_p2_habitTold f_p2_priceTold, aI cI a_p2_commons 8 f_p2_commons, aI cI a_p2_lengths 8 f_p2_lengths, aI cI a_p2_parts 8 f_p2_parts, aI cI a_p2_likenesses 6 f_p2_likenesses, oX4 a_p3 a_p3_cells, aI cI a_p3_cells 55 f_p3_cells]) (rest := []) (st' := [.int z7]) C mX6_28 q3_44 [.ref a_p3, .int (f_actors (Int32.toNatClampNeg y_4)), .int (nI 31), .int y_1] (fun l D => cX0_heaviest_ct l D cI a_p2 a_p2_commons a_p2_lengths a_p2_parts a_p2_likenesses a_p3 a_p3_cells f_p2_wordCount f_p2_likenessCount f_p2_actorCount f_p2_forbiddenBits f_p2_habitTold f_p2_priceTold f_p2_commons f_p2_lengths f_p2_parts f_p2_likenesses f_p3_cells (f_actors (Int32.toNatClampNeg y_4)) (nI 31) y_1 e_z7) ⟨⟨rfl, rfl⟩, Nat.le_of_ble_eq_true rfl, Nat.le_of_ble_eq_true rfl⟩ 3 rfl rfl rfl [3, 4, 5, 6, 7, 8, 9] rfl rfl rfl rfl rfl (Nat.le_of_ble_eq_true rfl) (Nat.zero_le _) (Nat.zero_le _) rfl dX6_holdsBy_45 ?_
          refine g_aload_n (pl := 0) C dX6_holdsBy_48 rfl rfl ?_
          refine g_get C fX6_15 0 rfl rfl dX6_holdsBy_49 ?_
          refine g_iload (pl := 4) C dX6_holdsBy_52 rfl ?_
          obtain ⟨b8, hs⟩ := vg_ok hs
          refine g_iald C 2 rfl (vin_ok b8) dX6_holdsBy_54 ?_
          refine g_icmp_eq (tgt := 60) C dX6_holdsBy_55 (by decide) (fun c9 => ?_) (fun c9 => ?_)
          · replace hs := vi_t hs c9
            obtain ⟨y10, e_y10, hs⟩ := vlet_ex hs
            refine g_iinc (pl := 4) (lv' := [(4, .int y10), (0, .ref h), (1, .int y_1), (2, .ref a_p2), (3, .ref a_p3)]) C dX6_holdsBy_60 rfl e_y10.symm (by decide) rfl ?_
            refine g_goto (tgt := 3) C dX6_holdsBy_63 (by decide) ?_
            refine g_sub [1, 2, 3, 4, 0] rfl ?_
            exact ih y10 hs
          · replace hs := vi_f hs c9
            refine g_iconst (v := (nI 0)) C dX6_holdsBy_58 rfl ?_
            cases hs
            exact hR _ _ (Or.inl rfl) dX6_holdsBy_59
set_option maxHeartbeats 4000000 in
set_option maxRecDepth 100000 in
theorem cX6_holdsBy_ct (l : Launch) (D : va_G) (cI : ClassId) (h : Nat) (a_actors : Nat) (a_words : Nat) (a_p2 : Nat) (a_p2_commons : Nat) (a_p2_lengths : Nat) (a_p2_parts : Nat) (a_p2_likenesses : Nat) (a_p3 : Nat) (a_p3_cells : Nat) (f_used : Int32) (f_actors : Nat → Int32) (f_words : Nat → Int32) (f_p2_wordCount : Int32) (f_p2_likenessCount : Int32) (f_p2_actorCount : Int32) (f_p2_forbiddenBits : Int32) (f_p2_habitTold : Int32) (f_p2_priceTold : Int32) (f_p2_commons : Nat → Int32) (f_p2_lengths : Nat → Int32) (f_p2_parts : Nat → Int32) (f_p2_likenesses : Nat → Int32) (f_p3_cells : Nat → Int32) (x1 : Int32) {z : Int32} (hs : sX6_holdsBy f_actors f_words f_used f_p2_commons f_p2_lengths f_p2_parts f_p2_likenesses f_p2_wordCount f_p3_cells x1 = some z) : ct l yX6_holdsBy (.code yX6_holdsBy cX6_holdsBy 5 (some .boolean) :: gtb) rmX6_holdsBy D cI [.ref h, .int x1, .ref a_p2, .ref a_p3] [oX6 h a_actors a_words f_used, aI cI a_actors 6 f_actors, aI cI a_words 6 f_words, oX0 a_p2 a_p2_commons a_p2_lengths a_p2_parts a_p2_likenesses f_p2_wordCount f_p2_likenessCount f_p2_actorCount f_p2_forbiddenBits f_p2_habitTold f_p2_priceTold, aI cI a_p2_commons 8 f_p2_commons, aI cI a_p2_lengths 8 f_p2_lengths, aI cI a_p2_parts 8 f_p2_parts, aI cI a_p2_likenesses 6 f_p2_likenesses, oX4 a_p3 a_p3_cells, aI cI a_p3_cells 55 f_p3_cells] (some (.int z)) [oX6 h a_actors a_words f_used, aI cI a_actors 6 f_actors, aI cI a_words 6 f_words, oX0 a_p2 a_p2_commons a_p2_lengths a_p2_parts a_p2_likenesses f_p2_wordCount f_p2_likenessCount f_p2_actorCount f_p2_forbiddenBits f_p2_habitTold f_p2_priceTold, aI cI a_p2_commons 8 f_p2_commons, aI cI a_p2_lengths 8 f_p2_lengths, aI cI a_p2_parts 8 f_p2_parts, aI cI a_p2_likenesses 6 f_p2_likenesses, oX4 a_p3 a_p3_cells, aI cI a_p3_cells 55 f_p3_cells] := by
  refine ct_ofZ (own := RX6) (by decide +kernel) rfl (Nat.le_of_ble_eq_true rfl) (fun X C hD hR => ?_)
  unfold sX6_holdsBy at hs
  show gg cI X 5 0 0 [oX6 h a_actors a_words f_used, aI cI a_actors 6 f_actors, aI cI a_words 6 f_words, oX0 a_p2 a_p2_commons a_p2_lengths a_p2_parts a_p2_likenesses f_p2_wordCount f_p2_likenessCount f_p2_actorCount f_p2_forbiddenBits f_p2_habitTold f_p2_priceTold, aI cI a_p2_commons 8 f_p2_commons, aI cI a_p2_lengths 8 f_p2_lengths, aI cI a_p2_parts 8 f_p2_parts, aI cI a_p2_likenesses 6 f_p2_likenesses, oX4 a_p3 a_p3_cells, aI cI a_p3_cells 55 f_p3_cells] [(0, .ref h), (1, .int x1), (2, .ref a_p2), (3, .ref a_p3)] 0 []
  refine g_iconst (v := (nI 0)) C dX6_holdsBy_0 rfl ?_
  refine g_istore (lv' := [(4, .int (nI 0)), (0, .ref h), (1, .int x1), (2, .ref a_p2), (3, .ref a_p3)]) C dX6_holdsBy_1 (by decide) rfl ?_
  refine g_sub [1, 2, 3, 4, 0] rfl ?_
  exact LX6_holdsBy_3_w C h a_actors a_words a_p2 a_p2_commons a_p2_lengths a_p2_parts a_p2_likenesses a_p3 a_p3_cells f_used f_actors f_words f_p2_wordCount f_p2_likenessCount f_p2_actorCount f_p2_forbiddenBits f_p2_habitTold f_p2_priceTold f_p2_commons f_p2_lengths f_p2_parts f_p2_likenesses f_p3_cells x1 hR _ (nI 0) hs

def sX0_clear (f_wordCount : Int32) (f_likenessCount : Int32) (f_actorCount : Int32) (f_forbiddenBits : Int32) (f_habitTold : Int32) (f_priceTold : Int32) : Option (Int32 × Int32 × Int32 × Int32 × Int32 × Int32) :=
  some ((nI 0), (nI 0), (nI 0), (nI 0), (nI 32), (nI 2))
abbrev rmX0_clear : Room := { frames := 0, cells := 0, slots := 0, locals := 0 }
set_option maxHeartbeats 4000000 in
set_option maxRecDepth 100000 in
theorem cX0_clear_ct (l : Launch) (D : va_G) (cI : ClassId) (h : Nat) (a_commons : Nat) (a_lengths : Nat) (a_parts : Nat) (a_likenesses : Nat) (f_wordCount : Int32) (f_likenessCount : Int32) (f_actorCount : Int32) (f_forbiddenBits : Int32) (f_habitTold : Int32) (f_priceTold : Int32) {z : Int32 × Int32 × Int32 × Int32 × Int32 × Int32} (hs : sX0_clear f_wordCount f_likenessCount f_actorCount f_forbiddenBits f_habitTold f_priceTold = some z) : ct l yX0_clear (.code yX0_clear cX0_clear 1 none :: gtb) rmX0_clear D cI [.ref h] [oX0 h a_commons a_lengths a_parts a_likenesses f_wordCount f_likenessCount f_actorCount f_forbiddenBits f_habitTold f_priceTold] none [oX0 h a_commons a_lengths a_parts a_likenesses z.1 z.2.1 z.2.2.1 z.2.2.2.1 z.2.2.2.2.1 z.2.2.2.2.2] := by
  refine ct_ofV (own := RX0) (by decide +kernel) rfl (Nat.le_of_ble_eq_true rfl) (fun X C hD hR => ?_)
  unfold sX0_clear at hs
  show gg cI X 1 0 0 [oX0 h a_commons a_lengths a_parts a_likenesses f_wordCount f_likenessCount f_actorCount f_forbiddenBits f_habitTold f_priceTold] [(0, .ref h)] 0 []
  refine g_aload_n (pl := 0) C dX0_clear_0 rfl rfl ?_
  refine g_iconst (v := (nI 0)) C dX0_clear_1 rfl ?_
  refine g_putI (ws' := [oX0 h a_commons a_lengths a_parts a_likenesses (nI 0) f_likenessCount f_actorCount f_forbiddenBits f_habitTold f_priceTold]) C fX0_24 0 rfl (Nat.le_of_ble_eq_true rfl) rfl dX0_clear_2 ?_
  refine g_aload_n (pl := 0) C dX0_clear_5 rfl rfl ?_
  refine g_iconst (v := (nI 0)) C dX0_clear_6 rfl ?_
  refine g_putI (ws' := [oX0 h a_commons a_lengths a_parts a_likenesses (nI 0) (nI 0) f_actorCount f_forbiddenBits f_habitTold f_priceTold]) C fX0_28 0 rfl (Nat.le_of_ble_eq_true rfl) rfl dX0_clear_7 ?_
  refine g_aload_n (pl := 0) C dX0_clear_10 rfl rfl ?_
  refine g_iconst (v := (nI 0)) C dX0_clear_11 rfl ?_
  refine g_putI (ws' := [oX0 h a_commons a_lengths a_parts a_likenesses (nI 0) (nI 0) (nI 0) f_forbiddenBits f_habitTold f_priceTold]) C fX0_31 0 rfl (Nat.le_of_ble_eq_true rfl) rfl dX0_clear_12 ?_
  refine g_aload_n (pl := 0) C dX0_clear_15 rfl rfl ?_
  refine g_iconst (v := (nI 0)) C dX0_clear_16 rfl ?_
  refine g_putI (ws' := [oX0 h a_commons a_lengths a_parts a_likenesses (nI 0) (nI 0) (nI 0) (nI 0) f_habitTold f_priceTold]) C fX0_34 0 rfl (Nat.le_of_ble_eq_true rfl) rfl dX0_clear_17 ?_
  refine g_aload_n (pl := 0) C dX0_clear_20 rfl rfl ?_
  refine g_bipush (v := (nI 32)) C dX0_clear_21 rfl ?_
  refine g_putI (ws' := [oX0 h a_commons a_lengths a_parts a_likenesses (nI 0) (nI 0) (nI 0) (nI 0) (nI 32) f_priceTold]) C fX0_37 0 rfl (Nat.le_of_ble_eq_true rfl) rfl dX0_clear_23 ?_
  refine g_aload_n (pl := 0) C dX0_clear_26 rfl rfl ?_
  refine g_iconst (v := (nI 2)) C dX0_clear_27 rfl ?_
  refine g_putI (ws' := [oX0 h a_commons a_lengths a_parts a_likenesses (nI 0) (nI 0) (nI 0) (nI 0) (nI 32) (nI 2)]) C fX0_40 0 rfl (Nat.le_of_ble_eq_true rfl) rfl dX0_clear_28 ?_
  cases hs
  exact hR _ _ dX0_clear_31
def sX0_addWord (f_commons : Nat → Int32) (f_lengths : Nat → Int32) (f_parts : Nat → Int32) (f_wordCount : Int32) (x1 : Int32) (x2 : Int32) (x3 : Int32) : Option (Int32 × (Nat → Int32) × (Nat → Int32) × (Nat → Int32) × Int32) :=
  vi (f_wordCount < 0) inferInstance (
    some ((nI 0), f_commons, f_lengths, f_parts, f_wordCount)) (
    vi (f_wordCount < (nI 8)) inferInstance (
      vg (vin f_wordCount 8) (
      vlet (upd f_commons (Int32.toNatClampNeg f_wordCount) x1) fun u4 =>
      vg (vin f_wordCount 8) (
      vlet (upd f_lengths (Int32.toNatClampNeg f_wordCount) x2) fun u6 =>
      vg (vin f_wordCount 8) (
      vlet (upd f_parts (Int32.toNatClampNeg f_wordCount) x3) fun u8 =>
      vlet (f_wordCount + (nI 1)) fun y9 =>
      some ((nI 1), u4, u6, u8, y9))))) (
      some ((nI 0), f_commons, f_lengths, f_parts, f_wordCount)))
abbrev rmX0_addWord : Room := { frames := 0, cells := 0, slots := 0, locals := 0 }
set_option maxHeartbeats 4000000 in
set_option maxRecDepth 100000 in
theorem cX0_addWord_ct (l : Launch) (D : va_G) (cI : ClassId) (h : Nat) (a_commons : Nat) (a_lengths : Nat) (a_parts : Nat) (a_likenesses : Nat) (f_wordCount : Int32) (f_likenessCount : Int32) (f_actorCount : Int32) (f_forbiddenBits : Int32) (f_habitTold : Int32) (f_priceTold : Int32) (f_commons : Nat → Int32) (f_lengths : Nat → Int32) (f_parts : Nat → Int32) (x1 : Int32) (x2 : Int32) (x3 : Int32) {z : Int32 × (Nat → Int32) × (Nat → Int32) × (Nat → Int32) × Int32} (hs : sX0_addWord f_commons f_lengths f_parts f_wordCount x1 x2 x3 = some z) : ct l yX0_addWord (.code yX0_addWord cX0_addWord 4 (some .boolean) :: gtb) rmX0_addWord D cI [.ref h, .int x1, .int x2, .int x3] [oX0 h a_commons a_lengths a_parts a_likenesses f_wordCount f_likenessCount f_actorCount f_forbiddenBits f_habitTold f_priceTold, aI cI a_commons 8 f_commons, aI cI a_lengths 8 f_lengths, aI cI a_parts 8 f_parts] (some (.int z.1)) [oX0 h a_commons a_lengths a_parts a_likenesses z.2.2.2.2 f_likenessCount f_actorCount f_forbiddenBits f_habitTold f_priceTold, aI cI a_commons 8 z.2.1, aI cI a_lengths 8 z.2.2.1, aI cI a_parts 8 z.2.2.2.1] := by
  refine ct_ofZ (own := RX0) (by decide +kernel) rfl (Nat.le_of_ble_eq_true rfl) (fun X C hD hR => ?_)
  unfold sX0_addWord at hs
  show gg cI X 4 0 0 [oX0 h a_commons a_lengths a_parts a_likenesses f_wordCount f_likenessCount f_actorCount f_forbiddenBits f_habitTold f_priceTold, aI cI a_commons 8 f_commons, aI cI a_lengths 8 f_lengths, aI cI a_parts 8 f_parts] [(0, .ref h), (1, .int x1), (2, .int x2), (3, .int x3)] 0 []
  refine g_aload_n (pl := 0) C dX0_addWord_0 rfl rfl ?_
  refine g_get C fX0_24 0 rfl rfl dX0_addWord_1 ?_
  refine g_if_lt (tgt := 16) C dX0_addWord_4 (by decide) (fun c1 => ?_) (fun c1 => ?_)
  · replace hs := vi_t hs c1
    refine g_iconst (v := (nI 0)) C dX0_addWord_16 rfl ?_
    cases hs
    exact hR _ _ (Or.inl rfl) dX0_addWord_17
  · replace hs := vi_f hs c1
    refine g_aload_n (pl := 0) C dX0_addWord_7 rfl rfl ?_
    refine g_get C fX0_24 0 rfl rfl dX0_addWord_8 ?_
    refine g_bipush (v := (nI 8)) C dX0_addWord_11 rfl ?_
    refine g_icmp_lt (tgt := 18) C dX0_addWord_13 (by decide) (fun c2 => ?_) (fun c2 => ?_)
    · replace hs := vi_t hs c2
      refine g_aload_n (pl := 0) C dX0_addWord_18 rfl rfl ?_
      refine g_get C fX0_9 0 rfl rfl dX0_addWord_19 ?_
      refine g_aload_n (pl := 0) C dX0_addWord_22 rfl rfl ?_
      refine g_get C fX0_24 0 rfl rfl dX0_addWord_23 ?_
      refine g_iload_n (pl := 1) C dX0_addWord_26 rfl rfl ?_
      obtain ⟨b3, hs⟩ := vg_ok hs
      obtain ⟨u4, e_u4, hs⟩ := vlet_ex hs
      refine g_iast (ws' := [oX0 h a_commons a_lengths a_parts a_likenesses f_wordCount f_likenessCount f_actorCount f_forbiddenBits f_habitTold f_priceTold, aI cI a_commons 8 u4, aI cI a_lengths 8 f_lengths, aI cI a_parts 8 f_parts]) C 1 rfl (vin_ok b3) (by rw [e_u4]; rfl) dX0_addWord_27 ?_
      refine g_aload_n (pl := 0) C dX0_addWord_28 rfl rfl ?_
      refine g_get C fX0_15 0 rfl rfl dX0_addWord_29 ?_
      refine g_aload_n (pl := 0) C dX0_addWord_32 rfl rfl ?_
      refine g_get C fX0_24 0 rfl rfl dX0_addWord_33 ?_
      refine g_iload_n (pl := 2) C dX0_addWord_36 rfl rfl ?_
      obtain ⟨b5, hs⟩ := vg_ok hs
      obtain ⟨u6, e_u6, hs⟩ := vlet_ex hs
      refine g_iast (ws' := [oX0 h a_commons a_lengths a_parts a_likenesses f_wordCount f_likenessCount f_actorCount f_forbiddenBits f_habitTold f_priceTold, aI cI a_commons 8 u4, aI cI a_lengths 8 u6, aI cI a_parts 8 f_parts]) C 2 rfl (vin_ok b5) (by rw [e_u6]; rfl) dX0_addWord_37 ?_
      refine g_aload_n (pl := 0) C dX0_addWord_38 rfl rfl ?_
      refine g_get C fX0_18 0 rfl rfl dX0_addWord_39 ?_
      refine g_aload_n (pl := 0) C dX0_addWord_42 rfl rfl ?_
      refine g_get C fX0_24 0 rfl rfl dX0_addWord_43 ?_
      refine g_iload_n (pl := 3) C dX0_addWord_46 rfl rfl ?_
      obtain ⟨b7, hs⟩ := vg_ok hs
      obtain ⟨u8, e_u8, hs⟩ := vlet_ex hs
      refine g_iast (ws' := [oX0 h a_commons a_lengths a_parts a_likenesses f_wordCount f_likenessCount f_actorCount f_forbiddenBits f_habitTold f_priceTold, aI cI a_commons 8 u4, aI cI a_lengths 8 u6, aI cI a_parts 8 u8]) C 3 rfl (vin_ok b7) (by rw [e_u8]; rfl) dX0_addWord_47 ?_
      refine g_aload_n (pl := 0) C dX0_addWord_48 rfl rfl ?_
      refine g_dup C dX0_addWord_49 rfl ?_
      refine g_get C fX0_24 0 rfl rfl dX0_addWord_50 ?_
      refine g_iconst (v := (nI 1)) C dX0_addWord_53 rfl ?_
      refine g_iadd C dX0_addWord_54 ?_
      obtain ⟨y9, e_y9, hs⟩ := vlet_ex hs
      refine g_topi e_y9 ?_
      refine g_putI (ws' := [oX0 h a_commons a_lengths a_parts a_likenesses y9 f_likenessCount f_actorCount f_forbiddenBits f_habitTold f_priceTold, aI cI a_commons 8 u4, aI cI a_lengths 8 u6, aI cI a_parts 8 u8]) C fX0_24 0 rfl (Nat.le_of_ble_eq_true rfl) rfl dX0_addWord_55 ?_
      refine g_iconst (v := (nI 1)) C dX0_addWord_58 rfl ?_
      cases hs
      exact hR _ _ (Or.inr rfl) dX0_addWord_59
    · replace hs := vi_f hs c2
      refine g_iconst (v := (nI 0)) C dX0_addWord_16 rfl ?_
      cases hs
      exact hR _ _ (Or.inl rfl) dX0_addWord_17
def sX0_addLikeness (f_likenesses : Nat → Int32) (f_likenessCount : Int32) (x1 : Int32) : Option (Int32 × (Nat → Int32) × Int32) :=
  vi (f_likenessCount < 0) inferInstance (
    some ((nI 0), f_likenesses, f_likenessCount)) (
    vi (f_likenessCount < (nI 6)) inferInstance (
      vg (vin f_likenessCount 6) (
      vlet (upd f_likenesses (Int32.toNatClampNeg f_likenessCount) x1) fun u4 =>
      vlet (f_likenessCount + (nI 1)) fun y5 =>
      some ((nI 1), u4, y5))) (
      some ((nI 0), f_likenesses, f_likenessCount)))
abbrev rmX0_addLikeness : Room := { frames := 0, cells := 0, slots := 0, locals := 0 }
set_option maxHeartbeats 4000000 in
set_option maxRecDepth 100000 in
theorem cX0_addLikeness_ct (l : Launch) (D : va_G) (cI : ClassId) (h : Nat) (a_commons : Nat) (a_lengths : Nat) (a_parts : Nat) (a_likenesses : Nat) (f_wordCount : Int32) (f_likenessCount : Int32) (f_actorCount : Int32) (f_forbiddenBits : Int32) (f_habitTold : Int32) (f_priceTold : Int32) (f_likenesses : Nat → Int32) (x1 : Int32) {z : Int32 × (Nat → Int32) × Int32} (hs : sX0_addLikeness f_likenesses f_likenessCount x1 = some z) : ct l yX0_addLikeness (.code yX0_addLikeness cX0_addLikeness 2 (some .boolean) :: gtb) rmX0_addLikeness D cI [.ref h, .int x1] [oX0 h a_commons a_lengths a_parts a_likenesses f_wordCount f_likenessCount f_actorCount f_forbiddenBits f_habitTold f_priceTold, aI cI a_likenesses 6 f_likenesses] (some (.int z.1)) [oX0 h a_commons a_lengths a_parts a_likenesses f_wordCount z.2.2 f_actorCount f_forbiddenBits f_habitTold f_priceTold, aI cI a_likenesses 6 z.2.1] := by
  refine ct_ofZ (own := RX0) (by decide +kernel) rfl (Nat.le_of_ble_eq_true rfl) (fun X C hD hR => ?_)
  unfold sX0_addLikeness at hs
  show gg cI X 2 0 0 [oX0 h a_commons a_lengths a_parts a_likenesses f_wordCount f_likenessCount f_actorCount f_forbiddenBits f_habitTold f_priceTold, aI cI a_likenesses 6 f_likenesses] [(0, .ref h), (1, .int x1)] 0 []
  refine g_aload_n (pl := 0) C dX0_addLikeness_0 rfl rfl ?_
  refine g_get C fX0_28 0 rfl rfl dX0_addLikeness_1 ?_
  refine g_if_lt (tgt := 16) C dX0_addLikeness_4 (by decide) (fun c1 => ?_) (fun c1 => ?_)
  · replace hs := vi_t hs c1
    refine g_iconst (v := (nI 0)) C dX0_addLikeness_16 rfl ?_
    cases hs
    exact hR _ _ (Or.inl rfl) dX0_addLikeness_17
  · replace hs := vi_f hs c1
    refine g_aload_n (pl := 0) C dX0_addLikeness_7 rfl rfl ?_
    refine g_get C fX0_28 0 rfl rfl dX0_addLikeness_8 ?_
    refine g_bipush (v := (nI 6)) C dX0_addLikeness_11 rfl ?_
    refine g_icmp_lt (tgt := 18) C dX0_addLikeness_13 (by decide) (fun c2 => ?_) (fun c2 => ?_)
    · replace hs := vi_t hs c2
      refine g_aload_n (pl := 0) C dX0_addLikeness_18 rfl rfl ?_
      refine g_get C fX0_21 0 rfl rfl dX0_addLikeness_19 ?_
      refine g_aload_n (pl := 0) C dX0_addLikeness_22 rfl rfl ?_
      refine g_get C fX0_28 0 rfl rfl dX0_addLikeness_23 ?_
      refine g_iload_n (pl := 1) C dX0_addLikeness_26 rfl rfl ?_
      obtain ⟨b3, hs⟩ := vg_ok hs
      obtain ⟨u4, e_u4, hs⟩ := vlet_ex hs
      refine g_iast (ws' := [oX0 h a_commons a_lengths a_parts a_likenesses f_wordCount f_likenessCount f_actorCount f_forbiddenBits f_habitTold f_priceTold, aI cI a_likenesses 6 u4]) C 1 rfl (vin_ok b3) (by rw [e_u4]; rfl) dX0_addLikeness_27 ?_
      refine g_aload_n (pl := 0) C dX0_addLikeness_28 rfl rfl ?_
      refine g_dup C dX0_addLikeness_29 rfl ?_
      refine g_get C fX0_28 0 rfl rfl dX0_addLikeness_30 ?_
      refine g_iconst (v := (nI 1)) C dX0_addLikeness_33 rfl ?_
      refine g_iadd C dX0_addLikeness_34 ?_
      obtain ⟨y5, e_y5, hs⟩ := vlet_ex hs
      refine g_topi e_y5 ?_
      refine g_putI (ws' := [oX0 h a_commons a_lengths a_parts a_likenesses f_wordCount y5 f_actorCount f_forbiddenBits f_habitTold f_priceTold, aI cI a_likenesses 6 u4]) C fX0_28 0 rfl (Nat.le_of_ble_eq_true rfl) rfl dX0_addLikeness_35 ?_
      refine g_iconst (v := (nI 1)) C dX0_addLikeness_38 rfl ?_
      cases hs
      exact hR _ _ (Or.inr rfl) dX0_addLikeness_39
    · replace hs := vi_f hs c2
      refine g_iconst (v := (nI 0)) C dX0_addLikeness_16 rfl ?_
      cases hs
      exact hR _ _ (Or.inl rfl) dX0_addLikeness_17
def sX0_addActor (f_actorCount : Int32) : Option (Int32 × Int32) :=
  vi (f_actorCount < (nI 5)) inferInstance (
    vlet (f_actorCount + (nI 1)) fun y2 =>
    some ((nI 1), y2)) (
    some ((nI 0), f_actorCount))
abbrev rmX0_addActor : Room := { frames := 0, cells := 0, slots := 0, locals := 0 }
set_option maxHeartbeats 4000000 in
set_option maxRecDepth 100000 in
theorem cX0_addActor_ct (l : Launch) (D : va_G) (cI : ClassId) (h : Nat) (a_commons : Nat) (a_lengths : Nat) (a_parts : Nat) (a_likenesses : Nat) (f_wordCount : Int32) (f_likenessCount : Int32) (f_actorCount : Int32) (f_forbiddenBits : Int32) (f_habitTold : Int32) (f_priceTold : Int32) {z : Int32 × Int32} (hs : sX0_addActor f_actorCount = some z) : ct l yX0_addActor (.code yX0_addActor cX0_addActor 1 (some .boolean) :: gtb) rmX0_addActor D cI [.ref h] [oX0 h a_commons a_lengths a_parts a_likenesses f_wordCount f_likenessCount f_actorCount f_forbiddenBits f_habitTold f_priceTold] (some (.int z.1)) [oX0 h a_commons a_lengths a_parts a_likenesses f_wordCount f_likenessCount z.2 f_forbiddenBits f_habitTold f_priceTold] := by
  refine ct_ofZ (own := RX0) (by decide +kernel) rfl (Nat.le_of_ble_eq_true rfl) (fun X C hD hR => ?_)
  unfold sX0_addActor at hs
  show gg cI X 1 0 0 [oX0 h a_commons a_lengths a_parts a_likenesses f_wordCount f_likenessCount f_actorCount f_forbiddenBits f_habitTold f_priceTold] [(0, .ref h)] 0 []
  refine g_aload_n (pl := 0) C dX0_addActor_0 rfl rfl ?_
  refine g_get C fX0_31 0 rfl rfl dX0_addActor_1 ?_
  refine g_iconst (v := (nI 5)) C dX0_addActor_4 rfl ?_
  refine g_icmp_lt (tgt := 10) C dX0_addActor_5 (by decide) (fun c1 => ?_) (fun c1 => ?_)
  · replace hs := vi_t hs c1
    refine g_aload_n (pl := 0) C dX0_addActor_10 rfl rfl ?_
    refine g_dup C dX0_addActor_11 rfl ?_
    refine g_get C fX0_31 0 rfl rfl dX0_addActor_12 ?_
    refine g_iconst (v := (nI 1)) C dX0_addActor_15 rfl ?_
    refine g_iadd C dX0_addActor_16 ?_
    obtain ⟨y2, e_y2, hs⟩ := vlet_ex hs
    refine g_topi e_y2 ?_
    refine g_putI (ws' := [oX0 h a_commons a_lengths a_parts a_likenesses f_wordCount f_likenessCount y2 f_forbiddenBits f_habitTold f_priceTold]) C fX0_31 0 rfl (Nat.le_of_ble_eq_true rfl) rfl dX0_addActor_17 ?_
    refine g_iconst (v := (nI 1)) C dX0_addActor_20 rfl ?_
    cases hs
    exact hR _ _ (Or.inr rfl) dX0_addActor_21
  · replace hs := vi_f hs c1
    refine g_iconst (v := (nI 0)) C dX0_addActor_8 rfl ?_
    cases hs
    exact hR _ _ (Or.inl rfl) dX0_addActor_9
def sX0_forbid (f_forbiddenBits : Int32) (x1 : Int32) : Option (Int32) :=
  vlet (f_forbiddenBits ||| ((nI 1) <<< (x1 &&& 31))) fun y1 =>
  some (y1)
abbrev rmX0_forbid : Room := { frames := 0, cells := 0, slots := 0, locals := 0 }
set_option maxHeartbeats 4000000 in
set_option maxRecDepth 100000 in
theorem cX0_forbid_ct (l : Launch) (D : va_G) (cI : ClassId) (h : Nat) (a_commons : Nat) (a_lengths : Nat) (a_parts : Nat) (a_likenesses : Nat) (f_wordCount : Int32) (f_likenessCount : Int32) (f_actorCount : Int32) (f_forbiddenBits : Int32) (f_habitTold : Int32) (f_priceTold : Int32) (x1 : Int32) {z : Int32} (hs : sX0_forbid f_forbiddenBits x1 = some z) : ct l yX0_forbid (.code yX0_forbid cX0_forbid 2 none :: gtb) rmX0_forbid D cI [.ref h, .int x1] [oX0 h a_commons a_lengths a_parts a_likenesses f_wordCount f_likenessCount f_actorCount f_forbiddenBits f_habitTold f_priceTold] none [oX0 h a_commons a_lengths a_parts a_likenesses f_wordCount f_likenessCount f_actorCount z f_habitTold f_priceTold] := by
  refine ct_ofV (own := RX0) (by decide +kernel) rfl (Nat.le_of_ble_eq_true rfl) (fun X C hD hR => ?_)
  unfold sX0_forbid at hs
  show gg cI X 2 0 0 [oX0 h a_commons a_lengths a_parts a_likenesses f_wordCount f_likenessCount f_actorCount f_forbiddenBits f_habitTold f_priceTold] [(0, .ref h), (1, .int x1)] 0 []
  refine g_aload_n (pl := 0) C dX0_forbid_0 rfl rfl ?_
  refine g_dup C dX0_forbid_1 rfl ?_
  refine g_get C fX0_34 0 rfl rfl dX0_forbid_2 ?_
  refine g_iconst (v := (nI 1)) C dX0_forbid_5 rfl ?_
  refine g_iload_n (pl := 1) C dX0_forbid_6 rfl rfl ?_
  refine g_ishl C dX0_forbid_7 ?_
  refine g_ior C dX0_forbid_8 ?_
  obtain ⟨y1, e_y1, hs⟩ := vlet_ex hs
  refine g_topi e_y1 ?_
  refine g_putI (ws' := [oX0 h a_commons a_lengths a_parts a_likenesses f_wordCount f_likenessCount f_actorCount y1 f_habitTold f_priceTold]) C fX0_34 0 rfl (Nat.le_of_ble_eq_true rfl) rfl dX0_forbid_9 ?_
  cases hs
  exact hR _ _ dX0_forbid_12
def sX0_setHabit (f_habitTold : Int32) (x1 : Int32) : Option (Int32) :=
  some (x1)
abbrev rmX0_setHabit : Room := { frames := 0, cells := 0, slots := 0, locals := 0 }
set_option maxHeartbeats 4000000 in
set_option maxRecDepth 100000 in
theorem cX0_setHabit_ct (l : Launch) (D : va_G) (cI : ClassId) (h : Nat) (a_commons : Nat) (a_lengths : Nat) (a_parts : Nat) (a_likenesses : Nat) (f_wordCount : Int32) (f_likenessCount : Int32) (f_actorCount : Int32) (f_forbiddenBits : Int32) (f_habitTold : Int32) (f_priceTold : Int32) (x1 : Int32) {z : Int32} (hs : sX0_setHabit f_habitTold x1 = some z) : ct l yX0_setHabit (.code yX0_setHabit cX0_setHabit 2 none :: gtb) rmX0_setHabit D cI [.ref h, .int x1] [oX0 h a_commons a_lengths a_parts a_likenesses f_wordCount f_likenessCount f_actorCount f_forbiddenBits f_habitTold f_priceTold] none [oX0 h a_commons a_lengths a_parts a_likenesses f_wordCount f_likenessCount f_actorCount f_forbiddenBits z f_priceTold] := by
  refine ct_ofV (own := RX0) (by decide +kernel) rfl (Nat.le_of_ble_eq_true rfl) (fun X C hD hR => ?_)
  unfold sX0_setHabit at hs
  show gg cI X 2 0 0 [oX0 h a_commons a_lengths a_parts a_likenesses f_wordCount f_likenessCount f_actorCount f_forbiddenBits f_habitTold f_priceTold] [(0, .ref h), (1, .int x1)] 0 []
  refine g_aload_n (pl := 0) C dX0_setHabit_0 rfl rfl ?_
  refine g_iload_n (pl := 1) C dX0_setHabit_1 rfl rfl ?_
  refine g_putI (ws' := [oX0 h a_commons a_lengths a_parts a_likenesses f_wordCount f_likenessCount f_actorCount f_forbiddenBits x1 f_priceTold]) C fX0_37 0 rfl (Nat.le_of_ble_eq_true rfl) rfl dX0_setHabit_2 ?_
  cases hs
  exact hR _ _ dX0_setHabit_5
def sX0_setPrice (f_priceTold : Int32) (x1 : Int32) : Option (Int32) :=
  some (x1)
abbrev rmX0_setPrice : Room := { frames := 0, cells := 0, slots := 0, locals := 0 }
set_option maxHeartbeats 4000000 in
set_option maxRecDepth 100000 in
theorem cX0_setPrice_ct (l : Launch) (D : va_G) (cI : ClassId) (h : Nat) (a_commons : Nat) (a_lengths : Nat) (a_parts : Nat) (a_likenesses : Nat) (f_wordCount : Int32) (f_likenessCount : Int32) (f_actorCount : Int32) (f_forbiddenBits : Int32) (f_habitTold : Int32) (f_priceTold : Int32) (x1 : Int32) {z : Int32} (hs : sX0_setPrice f_priceTold x1 = some z) : ct l yX0_setPrice (.code yX0_setPrice cX0_setPrice 2 none :: gtb) rmX0_setPrice D cI [.ref h, .int x1] [oX0 h a_commons a_lengths a_parts a_likenesses f_wordCount f_likenessCount f_actorCount f_forbiddenBits f_habitTold f_priceTold] none [oX0 h a_commons a_lengths a_parts a_likenesses f_wordCount f_likenessCount f_actorCount f_forbiddenBits f_habitTold z] := by
  refine ct_ofV (own := RX0) (by decide +kernel) rfl (Nat.le_of_ble_eq_true rfl) (fun X C hD hR => ?_)
  unfold sX0_setPrice at hs
  show gg cI X 2 0 0 [oX0 h a_commons a_lengths a_parts a_likenesses f_wordCount f_likenessCount f_actorCount f_forbiddenBits f_habitTold f_priceTold] [(0, .ref h), (1, .int x1)] 0 []
  refine g_aload_n (pl := 0) C dX0_setPrice_0 rfl rfl ?_
  refine g_iload_n (pl := 1) C dX0_setPrice_1 rfl rfl ?_
  refine g_putI (ws' := [oX0 h a_commons a_lengths a_parts a_likenesses f_wordCount f_likenessCount f_actorCount f_forbiddenBits f_habitTold x1]) C fX0_40 0 rfl (Nat.le_of_ble_eq_true rfl) rfl dX0_setPrice_2 ?_
  cases hs
  exact hR _ _ dX0_setPrice_5
def sX0_words (f_wordCount : Int32) : Option (Int32) :=
  some (f_wordCount)
abbrev rmX0_words : Room := { frames := 0, cells := 0, slots := 0, locals := 0 }
set_option maxHeartbeats 4000000 in
set_option maxRecDepth 100000 in
theorem cX0_words_ct (l : Launch) (D : va_G) (cI : ClassId) (h : Nat) (a_commons : Nat) (a_lengths : Nat) (a_parts : Nat) (a_likenesses : Nat) (f_wordCount : Int32) (f_likenessCount : Int32) (f_actorCount : Int32) (f_forbiddenBits : Int32) (f_habitTold : Int32) (f_priceTold : Int32) {z : Int32} (hs : sX0_words f_wordCount = some z) : ct l yX0_words (.code yX0_words cX0_words 1 (some .int) :: gtb) rmX0_words D cI [.ref h] [oX0 h a_commons a_lengths a_parts a_likenesses f_wordCount f_likenessCount f_actorCount f_forbiddenBits f_habitTold f_priceTold] (some (.int z)) [oX0 h a_commons a_lengths a_parts a_likenesses f_wordCount f_likenessCount f_actorCount f_forbiddenBits f_habitTold f_priceTold] := by
  refine ct_ofI (own := RX0) (by decide +kernel) rfl (Nat.le_of_ble_eq_true rfl) (fun X C hD hR => ?_)
  unfold sX0_words at hs
  show gg cI X 1 0 0 [oX0 h a_commons a_lengths a_parts a_likenesses f_wordCount f_likenessCount f_actorCount f_forbiddenBits f_habitTold f_priceTold] [(0, .ref h)] 0 []
  refine g_aload_n (pl := 0) C dX0_words_0 rfl rfl ?_
  refine g_get C fX0_24 0 rfl rfl dX0_words_1 ?_
  cases hs
  exact hR _ _ dX0_words_4
def sX0_signs (f_likenessCount : Int32) : Option (Int32) :=
  some ((nI 9) + f_likenessCount)
abbrev rmX0_signs : Room := { frames := 0, cells := 0, slots := 0, locals := 0 }
set_option maxHeartbeats 4000000 in
set_option maxRecDepth 100000 in
theorem cX0_signs_ct (l : Launch) (D : va_G) (cI : ClassId) (h : Nat) (a_commons : Nat) (a_lengths : Nat) (a_parts : Nat) (a_likenesses : Nat) (f_wordCount : Int32) (f_likenessCount : Int32) (f_actorCount : Int32) (f_forbiddenBits : Int32) (f_habitTold : Int32) (f_priceTold : Int32) {z : Int32} (hs : sX0_signs f_likenessCount = some z) : ct l yX0_signs (.code yX0_signs cX0_signs 1 (some .int) :: gtb) rmX0_signs D cI [.ref h] [oX0 h a_commons a_lengths a_parts a_likenesses f_wordCount f_likenessCount f_actorCount f_forbiddenBits f_habitTold f_priceTold] (some (.int z)) [oX0 h a_commons a_lengths a_parts a_likenesses f_wordCount f_likenessCount f_actorCount f_forbiddenBits f_habitTold f_priceTold] := by
  refine ct_ofI (own := RX0) (by decide +kernel) rfl (Nat.le_of_ble_eq_true rfl) (fun X C hD hR => ?_)
  unfold sX0_signs at hs
  show gg cI X 1 0 0 [oX0 h a_commons a_lengths a_parts a_likenesses f_wordCount f_likenessCount f_actorCount f_forbiddenBits f_habitTold f_priceTold] [(0, .ref h)] 0 []
  refine g_bipush (v := (nI 9)) C dX0_signs_0 rfl ?_
  refine g_aload_n (pl := 0) C dX0_signs_2 rfl rfl ?_
  refine g_get C fX0_28 0 rfl rfl dX0_signs_3 ?_
  refine g_iadd C dX0_signs_6 ?_
  cases hs
  exact hR _ _ dX0_signs_7
def sX0_actors (f_actorCount : Int32) : Option (Int32) :=
  some (f_actorCount)
abbrev rmX0_actors : Room := { frames := 0, cells := 0, slots := 0, locals := 0 }
set_option maxHeartbeats 4000000 in
set_option maxRecDepth 100000 in
theorem cX0_actors_ct (l : Launch) (D : va_G) (cI : ClassId) (h : Nat) (a_commons : Nat) (a_lengths : Nat) (a_parts : Nat) (a_likenesses : Nat) (f_wordCount : Int32) (f_likenessCount : Int32) (f_actorCount : Int32) (f_forbiddenBits : Int32) (f_habitTold : Int32) (f_priceTold : Int32) {z : Int32} (hs : sX0_actors f_actorCount = some z) : ct l yX0_actors (.code yX0_actors cX0_actors 1 (some .int) :: gtb) rmX0_actors D cI [.ref h] [oX0 h a_commons a_lengths a_parts a_likenesses f_wordCount f_likenessCount f_actorCount f_forbiddenBits f_habitTold f_priceTold] (some (.int z)) [oX0 h a_commons a_lengths a_parts a_likenesses f_wordCount f_likenessCount f_actorCount f_forbiddenBits f_habitTold f_priceTold] := by
  refine ct_ofI (own := RX0) (by decide +kernel) rfl (Nat.le_of_ble_eq_true rfl) (fun X C hD hR => ?_)
  unfold sX0_actors at hs
  show gg cI X 1 0 0 [oX0 h a_commons a_lengths a_parts a_likenesses f_wordCount f_likenessCount f_actorCount f_forbiddenBits f_habitTold f_priceTold] [(0, .ref h)] 0 []
  refine g_aload_n (pl := 0) C dX0_actors_0 rfl rfl ?_
  refine g_get C fX0_31 0 rfl rfl dX0_actors_1 ?_
  cases hs
  exact hR _ _ dX0_actors_4
def sX0_habit (f_habitTold : Int32) : Option (Int32) :=
  some (f_habitTold)
abbrev rmX0_habit : Room := { frames := 0, cells := 0, slots := 0, locals := 0 }
set_option maxHeartbeats 4000000 in
set_option maxRecDepth 100000 in
theorem cX0_habit_ct (l : Launch) (D : va_G) (cI : ClassId) (h : Nat) (a_commons : Nat) (a_lengths : Nat) (a_parts : Nat) (a_likenesses : Nat) (f_wordCount : Int32) (f_likenessCount : Int32) (f_actorCount : Int32) (f_forbiddenBits : Int32) (f_habitTold : Int32) (f_priceTold : Int32) {z : Int32} (hs : sX0_habit f_habitTold = some z) : ct l yX0_habit (.code yX0_habit cX0_habit 1 (some .int) :: gtb) rmX0_habit D cI [.ref h] [oX0 h a_commons a_lengths a_parts a_likenesses f_wordCount f_likenessCount f_actorCount f_forbiddenBits f_habitTold f_priceTold] (some (.int z)) [oX0 h a_commons a_lengths a_parts a_likenesses f_wordCount f_likenessCount f_actorCount f_forbiddenBits f_habitTold f_priceTold] := by
  refine ct_ofI (own := RX0) (by decide +kernel) rfl (Nat.le_of_ble_eq_true rfl) (fun X C hD hR => ?_)
  unfold sX0_habit at hs
  show gg cI X 1 0 0 [oX0 h a_commons a_lengths a_parts a_likenesses f_wordCount f_likenessCount f_actorCount f_forbiddenBits f_habitTold f_priceTold] [(0, .ref h)] 0 []
  refine g_aload_n (pl := 0) C dX0_habit_0 rfl rfl ?_
  refine g_get C fX0_37 0 rfl rfl dX0_habit_1 ?_
  cases hs
  exact hR _ _ dX0_habit_4
def sX0_price (f_priceTold : Int32) : Option (Int32) :=
  some (f_priceTold)
abbrev rmX0_price : Room := { frames := 0, cells := 0, slots := 0, locals := 0 }
set_option maxHeartbeats 4000000 in
set_option maxRecDepth 100000 in
theorem cX0_price_ct (l : Launch) (D : va_G) (cI : ClassId) (h : Nat) (a_commons : Nat) (a_lengths : Nat) (a_parts : Nat) (a_likenesses : Nat) (f_wordCount : Int32) (f_likenessCount : Int32) (f_actorCount : Int32) (f_forbiddenBits : Int32) (f_habitTold : Int32) (f_priceTold : Int32) {z : Int32} (hs : sX0_price f_priceTold = some z) : ct l yX0_price (.code yX0_price cX0_price 1 (some .int) :: gtb) rmX0_price D cI [.ref h] [oX0 h a_commons a_lengths a_parts a_likenesses f_wordCount f_likenessCount f_actorCount f_forbiddenBits f_habitTold f_priceTold] (some (.int z)) [oX0 h a_commons a_lengths a_parts a_likenesses f_wordCount f_likenessCount f_actorCount f_forbiddenBits f_habitTold f_priceTold] := by
  refine ct_ofI (own := RX0) (by decide +kernel) rfl (Nat.le_of_ble_eq_true rfl) (fun X C hD hR => ?_)
  unfold sX0_price at hs
  show gg cI X 1 0 0 [oX0 h a_commons a_lengths a_parts a_likenesses f_wordCount f_likenessCount f_actorCount f_forbiddenBits f_habitTold f_priceTold] [(0, .ref h)] 0 []
  refine g_aload_n (pl := 0) C dX0_price_0 rfl rfl ?_
  refine g_get C fX0_40 0 rfl rfl dX0_price_1 ?_
  cases hs
  exact hR _ _ dX0_price_4
def sX0_isForbidden (f_forbiddenBits : Int32) (x1 : Int32) : Option (Int32) :=
  vi (((f_forbiddenBits >>> (x1 &&& 31)) &&& (nI 1)) = (nI 1)) inferInstance (
    some ((nI 1))) (
    some ((nI 0)))
abbrev rmX0_isForbidden : Room := { frames := 0, cells := 0, slots := 0, locals := 0 }
set_option maxHeartbeats 4000000 in
set_option maxRecDepth 100000 in
theorem cX0_isForbidden_ct (l : Launch) (D : va_G) (cI : ClassId) (h : Nat) (a_commons : Nat) (a_lengths : Nat) (a_parts : Nat) (a_likenesses : Nat) (f_wordCount : Int32) (f_likenessCount : Int32) (f_actorCount : Int32) (f_forbiddenBits : Int32) (f_habitTold : Int32) (f_priceTold : Int32) (x1 : Int32) {z : Int32} (hs : sX0_isForbidden f_forbiddenBits x1 = some z) : ct l yX0_isForbidden (.code yX0_isForbidden cX0_isForbidden 2 (some .boolean) :: gtb) rmX0_isForbidden D cI [.ref h, .int x1] [oX0 h a_commons a_lengths a_parts a_likenesses f_wordCount f_likenessCount f_actorCount f_forbiddenBits f_habitTold f_priceTold] (some (.int z)) [oX0 h a_commons a_lengths a_parts a_likenesses f_wordCount f_likenessCount f_actorCount f_forbiddenBits f_habitTold f_priceTold] := by
  refine ct_ofZ (own := RX0) (by decide +kernel) rfl (Nat.le_of_ble_eq_true rfl) (fun X C hD hR => ?_)
  unfold sX0_isForbidden at hs
  show gg cI X 2 0 0 [oX0 h a_commons a_lengths a_parts a_likenesses f_wordCount f_likenessCount f_actorCount f_forbiddenBits f_habitTold f_priceTold] [(0, .ref h), (1, .int x1)] 0 []
  refine g_aload_n (pl := 0) C dX0_isForbidden_0 rfl rfl ?_
  refine g_get C fX0_34 0 rfl rfl dX0_isForbidden_1 ?_
  refine g_iload_n (pl := 1) C dX0_isForbidden_4 rfl rfl ?_
  refine g_ishr C dX0_isForbidden_5 ?_
  refine g_iconst (v := (nI 1)) C dX0_isForbidden_6 rfl ?_
  refine g_iand C dX0_isForbidden_7 ?_
  refine g_iconst (v := (nI 1)) C dX0_isForbidden_8 rfl ?_
  refine g_icmp_ne (tgt := 16) C dX0_isForbidden_9 (by decide) (fun c1 => ?_) (fun c1 => ?_)
  · replace hs := vi_f hs c1
    refine g_iconst (v := (nI 0)) C dX0_isForbidden_16 rfl ?_
    cases hs
    exact hR _ _ (Or.inl rfl) dX0_isForbidden_17
  · replace hs := vi_t hs c1
    refine g_iconst (v := (nI 1)) C dX0_isForbidden_12 rfl ?_
    refine g_goto (tgt := 17) C dX0_isForbidden_13 (by decide) ?_
    cases hs
    exact hR _ _ (Or.inr rfl) dX0_isForbidden_17
def sX0_commonOf (f_commons : Nat → Int32) (x1 : Int32) : Option (Int32) :=
  vi (x1 < 0) inferInstance (
    some ((nI 0))) (
    vi ((nI 8) ≤ x1) inferInstance (
      some ((nI 0))) (
      vg (vin x1 8) (
      some (f_commons (Int32.toNatClampNeg x1)))))
abbrev rmX0_commonOf : Room := { frames := 0, cells := 0, slots := 0, locals := 0 }
set_option maxHeartbeats 4000000 in
set_option maxRecDepth 100000 in
theorem cX0_commonOf_ct (l : Launch) (D : va_G) (cI : ClassId) (h : Nat) (a_commons : Nat) (a_lengths : Nat) (a_parts : Nat) (a_likenesses : Nat) (f_wordCount : Int32) (f_likenessCount : Int32) (f_actorCount : Int32) (f_forbiddenBits : Int32) (f_habitTold : Int32) (f_priceTold : Int32) (f_commons : Nat → Int32) (x1 : Int32) {z : Int32} (hs : sX0_commonOf f_commons x1 = some z) : ct l yX0_commonOf (.code yX0_commonOf cX0_commonOf 2 (some .int) :: gtb) rmX0_commonOf D cI [.ref h, .int x1] [oX0 h a_commons a_lengths a_parts a_likenesses f_wordCount f_likenessCount f_actorCount f_forbiddenBits f_habitTold f_priceTold, aI cI a_commons 8 f_commons] (some (.int z)) [oX0 h a_commons a_lengths a_parts a_likenesses f_wordCount f_likenessCount f_actorCount f_forbiddenBits f_habitTold f_priceTold, aI cI a_commons 8 f_commons] := by
  refine ct_ofI (own := RX0) (by decide +kernel) rfl (Nat.le_of_ble_eq_true rfl) (fun X C hD hR => ?_)
  unfold sX0_commonOf at hs
  show gg cI X 2 0 0 [oX0 h a_commons a_lengths a_parts a_likenesses f_wordCount f_likenessCount f_actorCount f_forbiddenBits f_habitTold f_priceTold, aI cI a_commons 8 f_commons] [(0, .ref h), (1, .int x1)] 0 []
  refine g_iload_n (pl := 1) C dX0_commonOf_0 rfl rfl ?_
  refine g_if_lt (tgt := 22) C dX0_commonOf_1 (by decide) (fun c1 => ?_) (fun c1 => ?_)
  · replace hs := vi_t hs c1
    refine g_iconst (v := (nI 0)) C dX0_commonOf_22 rfl ?_
    cases hs
    exact hR _ _ dX0_commonOf_23
  · replace hs := vi_f hs c1
    refine g_iload_n (pl := 1) C dX0_commonOf_4 rfl rfl ?_
    refine g_aload_n (pl := 0) C dX0_commonOf_5 rfl rfl ?_
    refine g_get C fX0_9 0 rfl rfl dX0_commonOf_6 ?_
    refine g_alen (v := (nI 8)) C 1 rfl rfl dX0_commonOf_9 ?_
    refine g_icmp_ge (tgt := 22) C dX0_commonOf_10 (by decide) (fun c2 => ?_) (fun c2 => ?_)
    · replace hs := vi_t hs c2
      refine g_iconst (v := (nI 0)) C dX0_commonOf_22 rfl ?_
      cases hs
      exact hR _ _ dX0_commonOf_23
    · replace hs := vi_f hs c2
      refine g_aload_n (pl := 0) C dX0_commonOf_13 rfl rfl ?_
      refine g_get C fX0_9 0 rfl rfl dX0_commonOf_14 ?_
      refine g_iload_n (pl := 1) C dX0_commonOf_17 rfl rfl ?_
      obtain ⟨b3, hs⟩ := vg_ok hs
      refine g_iald C 1 rfl (vin_ok b3) dX0_commonOf_18 ?_
      refine g_goto (tgt := 23) C dX0_commonOf_19 (by decide) ?_
      cases hs
      exact hR _ _ dX0_commonOf_23
def sX0_lengthOf (f_lengths : Nat → Int32) (x1 : Int32) : Option (Int32) :=
  vi (x1 < 0) inferInstance (
    some ((nI 0))) (
    vi ((nI 8) ≤ x1) inferInstance (
      some ((nI 0))) (
      vg (vin x1 8) (
      some (f_lengths (Int32.toNatClampNeg x1)))))
abbrev rmX0_lengthOf : Room := { frames := 0, cells := 0, slots := 0, locals := 0 }
set_option maxHeartbeats 4000000 in
set_option maxRecDepth 100000 in
theorem cX0_lengthOf_ct (l : Launch) (D : va_G) (cI : ClassId) (h : Nat) (a_commons : Nat) (a_lengths : Nat) (a_parts : Nat) (a_likenesses : Nat) (f_wordCount : Int32) (f_likenessCount : Int32) (f_actorCount : Int32) (f_forbiddenBits : Int32) (f_habitTold : Int32) (f_priceTold : Int32) (f_lengths : Nat → Int32) (x1 : Int32) {z : Int32} (hs : sX0_lengthOf f_lengths x1 = some z) : ct l yX0_lengthOf (.code yX0_lengthOf cX0_lengthOf 2 (some .int) :: gtb) rmX0_lengthOf D cI [.ref h, .int x1] [oX0 h a_commons a_lengths a_parts a_likenesses f_wordCount f_likenessCount f_actorCount f_forbiddenBits f_habitTold f_priceTold, aI cI a_lengths 8 f_lengths] (some (.int z)) [oX0 h a_commons a_lengths a_parts a_likenesses f_wordCount f_likenessCount f_actorCount f_forbiddenBits f_habitTold f_priceTold, aI cI a_lengths 8 f_lengths] := by
  refine ct_ofI (own := RX0) (by decide +kernel) rfl (Nat.le_of_ble_eq_true rfl) (fun X C hD hR => ?_)
  unfold sX0_lengthOf at hs
  show gg cI X 2 0 0 [oX0 h a_commons a_lengths a_parts a_likenesses f_wordCount f_likenessCount f_actorCount f_forbiddenBits f_habitTold f_priceTold, aI cI a_lengths 8 f_lengths] [(0, .ref h), (1, .int x1)] 0 []
  refine g_iload_n (pl := 1) C dX0_lengthOf_0 rfl rfl ?_
  refine g_if_lt (tgt := 22) C dX0_lengthOf_1 (by decide) (fun c1 => ?_) (fun c1 => ?_)
  · replace hs := vi_t hs c1
    refine g_iconst (v := (nI 0)) C dX0_lengthOf_22 rfl ?_
    cases hs
    exact hR _ _ dX0_lengthOf_23
  · replace hs := vi_f hs c1
    refine g_iload_n (pl := 1) C dX0_lengthOf_4 rfl rfl ?_
    refine g_aload_n (pl := 0) C dX0_lengthOf_5 rfl rfl ?_
    refine g_get C fX0_15 0 rfl rfl dX0_lengthOf_6 ?_
    refine g_alen (v := (nI 8)) C 1 rfl rfl dX0_lengthOf_9 ?_
    refine g_icmp_ge (tgt := 22) C dX0_lengthOf_10 (by decide) (fun c2 => ?_) (fun c2 => ?_)
    · replace hs := vi_t hs c2
      refine g_iconst (v := (nI 0)) C dX0_lengthOf_22 rfl ?_
      cases hs
      exact hR _ _ dX0_lengthOf_23
    · replace hs := vi_f hs c2
      refine g_aload_n (pl := 0) C dX0_lengthOf_13 rfl rfl ?_
      refine g_get C fX0_15 0 rfl rfl dX0_lengthOf_14 ?_
      refine g_iload_n (pl := 1) C dX0_lengthOf_17 rfl rfl ?_
      obtain ⟨b3, hs⟩ := vg_ok hs
      refine g_iald C 1 rfl (vin_ok b3) dX0_lengthOf_18 ?_
      refine g_goto (tgt := 23) C dX0_lengthOf_19 (by decide) ?_
      cases hs
      exact hR _ _ dX0_lengthOf_23
def sX0_partsOf (f_parts : Nat → Int32) (x1 : Int32) : Option (Int32) :=
  vi (x1 < 0) inferInstance (
    some ((nI 0))) (
    vi ((nI 8) ≤ x1) inferInstance (
      some ((nI 0))) (
      vg (vin x1 8) (
      some (f_parts (Int32.toNatClampNeg x1)))))
abbrev rmX0_partsOf : Room := { frames := 0, cells := 0, slots := 0, locals := 0 }
set_option maxHeartbeats 4000000 in
set_option maxRecDepth 100000 in
theorem cX0_partsOf_ct (l : Launch) (D : va_G) (cI : ClassId) (h : Nat) (a_commons : Nat) (a_lengths : Nat) (a_parts : Nat) (a_likenesses : Nat) (f_wordCount : Int32) (f_likenessCount : Int32) (f_actorCount : Int32) (f_forbiddenBits : Int32) (f_habitTold : Int32) (f_priceTold : Int32) (f_parts : Nat → Int32) (x1 : Int32) {z : Int32} (hs : sX0_partsOf f_parts x1 = some z) : ct l yX0_partsOf (.code yX0_partsOf cX0_partsOf 2 (some .int) :: gtb) rmX0_partsOf D cI [.ref h, .int x1] [oX0 h a_commons a_lengths a_parts a_likenesses f_wordCount f_likenessCount f_actorCount f_forbiddenBits f_habitTold f_priceTold, aI cI a_parts 8 f_parts] (some (.int z)) [oX0 h a_commons a_lengths a_parts a_likenesses f_wordCount f_likenessCount f_actorCount f_forbiddenBits f_habitTold f_priceTold, aI cI a_parts 8 f_parts] := by
  refine ct_ofI (own := RX0) (by decide +kernel) rfl (Nat.le_of_ble_eq_true rfl) (fun X C hD hR => ?_)
  unfold sX0_partsOf at hs
  show gg cI X 2 0 0 [oX0 h a_commons a_lengths a_parts a_likenesses f_wordCount f_likenessCount f_actorCount f_forbiddenBits f_habitTold f_priceTold, aI cI a_parts 8 f_parts] [(0, .ref h), (1, .int x1)] 0 []
  refine g_iload_n (pl := 1) C dX0_partsOf_0 rfl rfl ?_
  refine g_if_lt (tgt := 22) C dX0_partsOf_1 (by decide) (fun c1 => ?_) (fun c1 => ?_)
  · replace hs := vi_t hs c1
    refine g_iconst (v := (nI 0)) C dX0_partsOf_22 rfl ?_
    cases hs
    exact hR _ _ dX0_partsOf_23
  · replace hs := vi_f hs c1
    refine g_iload_n (pl := 1) C dX0_partsOf_4 rfl rfl ?_
    refine g_aload_n (pl := 0) C dX0_partsOf_5 rfl rfl ?_
    refine g_get C fX0_18 0 rfl rfl dX0_partsOf_6 ?_
    refine g_alen (v := (nI 8)) C 1 rfl rfl dX0_partsOf_9 ?_
    refine g_icmp_ge (tgt := 22) C dX0_partsOf_10 (by decide) (fun c2 => ?_) (fun c2 => ?_)
    · replace hs := vi_t hs c2
      refine g_iconst (v := (nI 0)) C dX0_partsOf_22 rfl ?_
      cases hs
      exact hR _ _ dX0_partsOf_23
    · replace hs := vi_f hs c2
      refine g_aload_n (pl := 0) C dX0_partsOf_13 rfl rfl ?_
      refine g_get C fX0_18 0 rfl rfl dX0_partsOf_14 ?_
      refine g_iload_n (pl := 1) C dX0_partsOf_17 rfl rfl ?_
      obtain ⟨b3, hs⟩ := vg_ok hs
      refine g_iald C 1 rfl (vin_ok b3) dX0_partsOf_18 ?_
      refine g_goto (tgt := 23) C dX0_partsOf_19 (by decide) ?_
      cases hs
      exact hR _ _ dX0_partsOf_23
def sX0_isIn (f_likenesses : Nat → Int32) (x1 : Int32) (x2 : Int32) : Option (Int32) :=
  vi (x2 < 0) inferInstance (
    some ((nI 0))) (
    vi ((nI 6) ≤ x2) inferInstance (
      some ((nI 0))) (
      vg (vin x2 6) (
      vi ((((f_likenesses (Int32.toNatClampNeg x2)) >>> (x1 &&& 31)) &&& (nI 1)) = (nI 1)) inferInstance (
        some ((nI 1))) (
        some ((nI 0))))))
abbrev rmX0_isIn : Room := { frames := 0, cells := 0, slots := 0, locals := 0 }
set_option maxHeartbeats 4000000 in
set_option maxRecDepth 100000 in
theorem cX0_isIn_ct (l : Launch) (D : va_G) (cI : ClassId) (h : Nat) (a_commons : Nat) (a_lengths : Nat) (a_parts : Nat) (a_likenesses : Nat) (f_wordCount : Int32) (f_likenessCount : Int32) (f_actorCount : Int32) (f_forbiddenBits : Int32) (f_habitTold : Int32) (f_priceTold : Int32) (f_likenesses : Nat → Int32) (x1 : Int32) (x2 : Int32) {z : Int32} (hs : sX0_isIn f_likenesses x1 x2 = some z) : ct l yX0_isIn (.code yX0_isIn cX0_isIn 3 (some .boolean) :: gtb) rmX0_isIn D cI [.ref h, .int x1, .int x2] [oX0 h a_commons a_lengths a_parts a_likenesses f_wordCount f_likenessCount f_actorCount f_forbiddenBits f_habitTold f_priceTold, aI cI a_likenesses 6 f_likenesses] (some (.int z)) [oX0 h a_commons a_lengths a_parts a_likenesses f_wordCount f_likenessCount f_actorCount f_forbiddenBits f_habitTold f_priceTold, aI cI a_likenesses 6 f_likenesses] := by
  refine ct_ofZ (own := RX0) (by decide +kernel) rfl (Nat.le_of_ble_eq_true rfl) (fun X C hD hR => ?_)
  unfold sX0_isIn at hs
  show gg cI X 3 0 0 [oX0 h a_commons a_lengths a_parts a_likenesses f_wordCount f_likenessCount f_actorCount f_forbiddenBits f_habitTold f_priceTold, aI cI a_likenesses 6 f_likenesses] [(0, .ref h), (1, .int x1), (2, .int x2)] 0 []
  refine g_iload_n (pl := 2) C dX0_isIn_0 rfl rfl ?_
  refine g_if_lt (tgt := 31) C dX0_isIn_1 (by decide) (fun c1 => ?_) (fun c1 => ?_)
  · replace hs := vi_t hs c1
    refine g_iconst (v := (nI 0)) C dX0_isIn_31 rfl ?_
    cases hs
    exact hR _ _ (Or.inl rfl) dX0_isIn_32
  · replace hs := vi_f hs c1
    refine g_iload_n (pl := 2) C dX0_isIn_4 rfl rfl ?_
    refine g_aload_n (pl := 0) C dX0_isIn_5 rfl rfl ?_
    refine g_get C fX0_21 0 rfl rfl dX0_isIn_6 ?_
    refine g_alen (v := (nI 6)) C 1 rfl rfl dX0_isIn_9 ?_
    refine g_icmp_ge (tgt := 31) C dX0_isIn_10 (by decide) (fun c2 => ?_) (fun c2 => ?_)
    · replace hs := vi_t hs c2
      refine g_iconst (v := (nI 0)) C dX0_isIn_31 rfl ?_
      cases hs
      exact hR _ _ (Or.inl rfl) dX0_isIn_32
    · replace hs := vi_f hs c2
      refine g_aload_n (pl := 0) C dX0_isIn_13 rfl rfl ?_
      refine g_get C fX0_21 0 rfl rfl dX0_isIn_14 ?_
      refine g_iload_n (pl := 2) C dX0_isIn_17 rfl rfl ?_
      obtain ⟨b3, hs⟩ := vg_ok hs
      refine g_iald C 1 rfl (vin_ok b3) dX0_isIn_18 ?_
      refine g_iload_n (pl := 1) C dX0_isIn_19 rfl rfl ?_
      refine g_ishr C dX0_isIn_20 ?_
      refine g_iconst (v := (nI 1)) C dX0_isIn_21 rfl ?_
      refine g_iand C dX0_isIn_22 ?_
      refine g_iconst (v := (nI 1)) C dX0_isIn_23 rfl ?_
      refine g_icmp_ne (tgt := 31) C dX0_isIn_24 (by decide) (fun c4 => ?_) (fun c4 => ?_)
      · replace hs := vi_f hs c4
        refine g_iconst (v := (nI 0)) C dX0_isIn_31 rfl ?_
        cases hs
        exact hR _ _ (Or.inl rfl) dX0_isIn_32
      · replace hs := vi_t hs c4
        refine g_iconst (v := (nI 1)) C dX0_isIn_27 rfl ?_
        refine g_goto (tgt := 32) C dX0_isIn_28 (by decide) ?_
        cases hs
        exact hR _ _ (Or.inr rfl) dX0_isIn_32
def LX0_likenessesOf_4 (y_1 : Int32) (f_likenesses : Nat → Int32) (f_likenessCount : Int32) : Nat → Int32 → Int32 → Option (Int32)
  | 0, _, _ => none
  | n + 1, y_2, y_3 =>
    vi (f_likenessCount ≤ y_3) inferInstance (
      some (y_2)) (
      vb (sX0_isIn f_likenesses y_1 y_3) fun z2 =>
      vi (z2 = 0) inferInstance (
        vlet (y_3 + (nI 1)) fun y4 =>
        LX0_likenessesOf_4 y_1 f_likenesses f_likenessCount n y_2 y4) (
        vlet (y_2 ||| ((nI 1) <<< (y_3 &&& 31))) fun y5 =>
        vlet (y_3 + (nI 1)) fun y6 =>
        LX0_likenessesOf_4 y_1 f_likenesses f_likenessCount n y5 y6))
def sX0_likenessesOf (f_likenesses : Nat → Int32) (f_likenessCount : Int32) (x1 : Int32) : Option (Int32) :=
  LX0_likenessesOf_4 x1 f_likenesses f_likenessCount vF (nI 0) (nI 0)
abbrev rmX0_likenessesOf : Room := { frames := 1, cells := 0, slots := 0, locals := 22 }
set_option maxHeartbeats 4000000 in
set_option maxRecDepth 100000 in
theorem LX0_likenessesOf_4_w {cI : ClassId} {X : xT} (C : cx cI X 4 cX0_likenessesOf RX0 rmX0_likenessesOf) (h : Nat) (a_commons : Nat) (a_lengths : Nat) (a_parts : Nat) (a_likenesses : Nat) (f_wordCount : Int32) (f_likenessCount : Int32) (f_actorCount : Int32) (f_forbiddenBits : Int32) (f_habitTold : Int32) (f_priceTold : Int32) (f_likenesses : Nat → Int32) (y_1 : Int32) {z : Int32} (hR : ∀ (lv : List (Nat × Value)) (pc : Nat), decode cX0_likenessesOf pc = .ok (.ireturn, 1) → gg cI X 4 0 0 [oX0 h a_commons a_lengths a_parts a_likenesses f_wordCount f_likenessCount f_actorCount f_forbiddenBits f_habitTold f_priceTold, aI cI a_likenesses 6 f_likenesses] lv pc [.int z]) : ∀ (n : Nat) (y_2 : Int32) (y_3 : Int32), LX0_likenessesOf_4 y_1 f_likenesses f_likenessCount n y_2 y_3 = some z → gg cI X 4 0 0 [oX0 h a_commons a_lengths a_parts a_likenesses f_wordCount f_likenessCount f_actorCount f_forbiddenBits f_habitTold f_priceTold, aI cI a_likenesses 6 f_likenesses] [(0, .ref h), (1, .int y_1), (2, .int y_2), (3, .int y_3)] 4 [] := by
  intro n
  induction n with
  | zero =>
    intro y_2 y_3 hs
    exact nn_ok hs
  | succ n ih =>
    intro y_2 y_3 hs
    rw [LX0_likenessesOf_4] at hs
    refine g_iload_n (pl := 3) C dX0_likenessesOf_4 rfl rfl ?_
    refine g_aload_n (pl := 0) C dX0_likenessesOf_5 rfl rfl ?_
    refine g_get C fX0_28 0 rfl rfl dX0_likenessesOf_6 ?_
    refine g_icmp_ge (tgt := 33) C dX0_likenessesOf_9 (by decide) (fun c1 => ?_) (fun c1 => ?_)
    · replace hs := vi_t hs c1
      refine g_iload_n (pl := 2) C dX0_likenessesOf_33 rfl rfl ?_
      cases hs
      exact hR _ _ dX0_likenessesOf_34
    · replace hs := vi_f hs c1
      refine g_aload_n (pl := 0) C dX0_likenessesOf_12 rfl rfl ?_
      refine g_iload_n (pl := 1) C dX0_likenessesOf_13 rfl rfl ?_
      refine g_iload_n (pl := 3) C dX0_likenessesOf_14 rfl rfl ?_
      obtain ⟨z2, e_z2, hs⟩ := vb_ok hs
      refine g_callV (ws' := [oX0 h a_commons a_lengths a_parts a_likenesses f_wordCount f_likenessCount f_actorCount f_forbiddenBits f_habitTold f_priceTold, aI cI a_likenesses 6 f_likenesses]) (rest := []) (st' := [.int z2]) C mX0_43 q2_204 [.int y_1, .int y_3] (fun l D => cX0_isIn_ct l D cI h a_commons a_lengths a_parts a_likenesses f_wordCount f_likenessCount f_actorCount f_forbiddenBits f_habitTold f_priceTold f_likenesses y_1 y_3 e_z2) ⟨⟨rfl, rfl⟩, Nat.le_of_ble_eq_true rfl, Nat.le_of_ble_eq_true rfl⟩ 0 rfl rfl rfl [0, 1] rfl rfl rfl rfl rfl (Nat.le_of_ble_eq_true rfl) (Nat.zero_le _) (Nat.zero_le _) rfl dX0_likenessesOf_15 ?_
      refine g_if_eq (tgt := 27) C dX0_likenessesOf_18 (by decide) (fun c3 => ?_) (fun c3 => ?_)
      · replace hs := vi_t hs c3
        obtain ⟨y4, e_y4, hs⟩ := vlet_ex hs
        refine g_iinc (pl := 3) (lv' := [(3, .int y4), (0, .ref h), (1, .int y_1), (2, .int y_2)]) C dX0_likenessesOf_27 rfl e_y4.symm (by decide) rfl ?_
        refine g_goto (tgt := 4) C dX0_likenessesOf_30 (by decide) ?_
        refine g_sub [1, 2, 3, 0] rfl ?_
        exact ih y_2 y4 hs
      · replace hs := vi_f hs c3
        refine g_iload_n (pl := 2) C dX0_likenessesOf_21 rfl rfl ?_
        refine g_iconst (v := (nI 1)) C dX0_likenessesOf_22 rfl ?_
        refine g_iload_n (pl := 3) C dX0_likenessesOf_23 rfl rfl ?_
        refine g_ishl C dX0_likenessesOf_24 ?_
        refine g_ior C dX0_likenessesOf_25 ?_
        obtain ⟨y5, e_y5, hs⟩ := vlet_ex hs
        refine g_topi e_y5 ?_
        refine g_istore_n (lv' := [(2, .int y5), (0, .ref h), (1, .int y_1), (3, .int y_3)]) C dX0_likenessesOf_26 rfl (by decide) rfl ?_
        obtain ⟨y6, e_y6, hs⟩ := vlet_ex hs
        refine g_iinc (pl := 3) (lv' := [(3, .int y6), (2, .int y5), (0, .ref h), (1, .int y_1)]) C dX0_likenessesOf_27 rfl e_y6.symm (by decide) rfl ?_
        refine g_goto (tgt := 4) C dX0_likenessesOf_30 (by decide) ?_
        refine g_sub [2, 3, 1, 0] rfl ?_
        exact ih y5 y6 hs
set_option maxHeartbeats 4000000 in
set_option maxRecDepth 100000 in
theorem cX0_likenessesOf_ct (l : Launch) (D : va_G) (cI : ClassId) (h : Nat) (a_commons : Nat) (a_lengths : Nat) (a_parts : Nat) (a_likenesses : Nat) (f_wordCount : Int32) (f_likenessCount : Int32) (f_actorCount : Int32) (f_forbiddenBits : Int32) (f_habitTold : Int32) (f_priceTold : Int32) (f_likenesses : Nat → Int32) (x1 : Int32) {z : Int32} (hs : sX0_likenessesOf f_likenesses f_likenessCount x1 = some z) : ct l yX0_likenessesOf (.code yX0_likenessesOf cX0_likenessesOf 4 (some .int) :: gtb) rmX0_likenessesOf D cI [.ref h, .int x1] [oX0 h a_commons a_lengths a_parts a_likenesses f_wordCount f_likenessCount f_actorCount f_forbiddenBits f_habitTold f_priceTold, aI cI a_likenesses 6 f_likenesses] (some (.int z)) [oX0 h a_commons a_lengths a_parts a_likenesses f_wordCount f_likenessCount f_actorCount f_forbiddenBits f_habitTold f_priceTold, aI cI a_likenesses 6 f_likenesses] := by
  refine ct_ofI (own := RX0) (by decide +kernel) rfl (Nat.le_of_ble_eq_true rfl) (fun X C hD hR => ?_)
  unfold sX0_likenessesOf at hs
  show gg cI X 4 0 0 [oX0 h a_commons a_lengths a_parts a_likenesses f_wordCount f_likenessCount f_actorCount f_forbiddenBits f_habitTold f_priceTold, aI cI a_likenesses 6 f_likenesses] [(0, .ref h), (1, .int x1)] 0 []
  refine g_iconst (v := (nI 0)) C dX0_likenessesOf_0 rfl ?_
  refine g_istore_n (lv' := [(2, .int (nI 0)), (0, .ref h), (1, .int x1)]) C dX0_likenessesOf_1 rfl (by decide) rfl ?_
  refine g_iconst (v := (nI 0)) C dX0_likenessesOf_2 rfl ?_
  refine g_istore_n (lv' := [(3, .int (nI 0)), (2, .int (nI 0)), (0, .ref h), (1, .int x1)]) C dX0_likenessesOf_3 rfl (by decide) rfl ?_
  refine g_sub [2, 3, 1, 0] rfl ?_
  exact LX0_likenessesOf_4_w C h a_commons a_lengths a_parts a_likenesses f_wordCount f_likenessCount f_actorCount f_forbiddenBits f_habitTold f_priceTold f_likenesses x1 hR _ (nI 0) (nI 0) hs
def sX0_byKind (x1 : Int32) (x2 : Int32) : Option (Int32) :=
  vi (x1 = (nI 2)) inferInstance (
    some (x2 * x2)) (
    some (x2))
abbrev rmX0_byKind : Room := { frames := 0, cells := 0, slots := 0, locals := 0 }
set_option maxHeartbeats 4000000 in
set_option maxRecDepth 100000 in
theorem cX0_byKind_ct (l : Launch) (D : va_G) (cI : ClassId) (x1 : Int32) (x2 : Int32) {z : Int32} (hs : sX0_byKind x1 x2 = some z) : ct l yX0_byKind (.code yX0_byKind cX0_byKind 2 (some .int) :: gtb) rmX0_byKind D cI [.int x1, .int x2] [] (some (.int z)) [] := by
  refine ct_ofI (own := RX0) (by decide +kernel) rfl (Nat.le_of_ble_eq_true rfl) (fun X C hD hR => ?_)
  unfold sX0_byKind at hs
  show gg cI X 2 0 0 [] [(0, .int x1), (1, .int x2)] 0 []
  refine g_iload_n (pl := 0) C dX0_byKind_0 rfl rfl ?_
  refine g_iconst (v := (nI 2)) C dX0_byKind_1 rfl ?_
  refine g_icmp_ne (tgt := 11) C dX0_byKind_2 (by decide) (fun c1 => ?_) (fun c1 => ?_)
  · replace hs := vi_f hs c1
    refine g_iload_n (pl := 1) C dX0_byKind_11 rfl rfl ?_
    cases hs
    exact hR _ _ dX0_byKind_12
  · replace hs := vi_t hs c1
    refine g_iload_n (pl := 1) C dX0_byKind_5 rfl rfl ?_
    refine g_iload_n (pl := 1) C dX0_byKind_6 rfl rfl ?_
    refine g_imul C dX0_byKind_7 ?_
    refine g_goto (tgt := 12) C dX0_byKind_8 (by decide) ?_
    cases hs
    exact hR _ _ dX0_byKind_12
def sX0_factor (f_lengths : Nat → Int32) (f_parts : Nat → Int32) (f_likenesses : Nat → Int32) (x1 : Int32) (x2 : Int32) (x3 : Int32) (x4 : Int32) : Option (Int32) :=
  vi ((nI 6) ≤ x2) inferInstance (
    vi ((nI 9) ≤ x2) inferInstance (
      vb (sX0_isIn f_likenesses x3 (x2 - (nI 9))) fun z3 =>
      vi (z3 = 0) inferInstance (
        some ((nI 1))) (
        vlet (x4 / (nI 10)) fun y5 =>
        vi (x1 = (nI 3)) inferInstance (
          some (y5 + (nI 1))) (
          vb (sX0_byKind x1 y5) fun z7 =>
          some (z7)))) (
      vb (sX0_lengthOf f_lengths x3) fun z8 =>
      vi (z8 = ((x2 - (nI 6)) + (nI 1))) inferInstance (
        some ((nI 1))) (
        some ((nI 0))))) (
    vi (x1 = (nI 1)) inferInstance (
      vlet ((x2 + (nI 1)) - (x2 + (nI 1)) / (nI 6) * (nI 6)) fun y14 =>
      vb (sX0_partsOf f_parts x3) fun z15 =>
      vi (((z15 >>> (y14 &&& 31)) &&& (nI 1)) = (nI 1)) inferInstance (
        vb (sX0_byKind x1 (x4 - x4 / (nI 10) * (nI 10))) fun z17 =>
        some (z17)) (
        some ((nI 1)))) (
      vb (sX0_partsOf f_parts x3) fun z11 =>
      vi (((z11 >>> (x2 &&& 31)) &&& (nI 1)) = (nI 1)) inferInstance (
        vb (sX0_byKind x1 (x4 - x4 / (nI 10) * (nI 10))) fun z13 =>
        some (z13)) (
        some ((nI 1)))))
abbrev rmX0_factor : Room := { frames := 1, cells := 0, slots := 0, locals := 22 }
set_option maxHeartbeats 4000000 in
set_option maxRecDepth 100000 in
theorem cX0_factor_ct (l : Launch) (D : va_G) (cI : ClassId) (h : Nat) (a_commons : Nat) (a_lengths : Nat) (a_parts : Nat) (a_likenesses : Nat) (f_wordCount : Int32) (f_likenessCount : Int32) (f_actorCount : Int32) (f_forbiddenBits : Int32) (f_habitTold : Int32) (f_priceTold : Int32) (f_lengths : Nat → Int32) (f_parts : Nat → Int32) (f_likenesses : Nat → Int32) (x1 : Int32) (x2 : Int32) (x3 : Int32) (x4 : Int32) {z : Int32} (hs : sX0_factor f_lengths f_parts f_likenesses x1 x2 x3 x4 = some z) : ct l yX0_factor (.code yX0_factor cX0_factor 6 (some .int) :: gtb) rmX0_factor D cI [.ref h, .int x1, .int x2, .int x3, .int x4] [oX0 h a_commons a_lengths a_parts a_likenesses f_wordCount f_likenessCount f_actorCount f_forbiddenBits f_habitTold f_priceTold, aI cI a_lengths 8 f_lengths, aI cI a_parts 8 f_parts, aI cI a_likenesses 6 f_likenesses] (some (.int z)) [oX0 h a_commons a_lengths a_parts a_likenesses f_wordCount f_likenessCount f_actorCount f_forbiddenBits f_habitTold f_priceTold, aI cI a_lengths 8 f_lengths, aI cI a_parts 8 f_parts, aI cI a_likenesses 6 f_likenesses] := by
  refine ct_ofI (own := RX0) (by decide +kernel) rfl (Nat.le_of_ble_eq_true rfl) (fun X C hD hR => ?_)
  unfold sX0_factor at hs
  show gg cI X 6 0 0 [oX0 h a_commons a_lengths a_parts a_likenesses f_wordCount f_likenessCount f_actorCount f_forbiddenBits f_habitTold f_priceTold, aI cI a_lengths 8 f_lengths, aI cI a_parts 8 f_parts, aI cI a_likenesses 6 f_likenesses] [(0, .ref h), (1, .int x1), (2, .int x2), (3, .int x3), (4, .int x4)] 0 []
  refine g_iload_n (pl := 2) C dX0_factor_0 rfl rfl ?_
  refine g_bipush (v := (nI 6)) C dX0_factor_1 rfl ?_
  refine g_icmp_ge (tgt := 51) C dX0_factor_3 (by decide) (fun c1 => ?_) (fun c1 => ?_)
  · replace hs := vi_t hs c1
    refine g_iload_n (pl := 2) C dX0_factor_51 rfl rfl ?_
    refine g_bipush (v := (nI 9)) C dX0_factor_52 rfl ?_
    refine g_icmp_ge (tgt := 77) C dX0_factor_54 (by decide) (fun c2 => ?_) (fun c2 => ?_)
    · replace hs := vi_t hs c2
      refine g_aload_n (pl := 0) C dX0_factor_77 rfl rfl ?_
      refine g_iload_n (pl := 3) C dX0_factor_78 rfl rfl ?_
      refine g_iload_n (pl := 2) C dX0_factor_79 rfl rfl ?_
      refine g_bipush (v := (nI 9)) C dX0_factor_80 rfl ?_
      refine g_isub C dX0_factor_82 ?_
      obtain ⟨z3, e_z3, hs⟩ := vb_ok hs
      refine g_callV (ws' := [oX0 h a_commons a_lengths a_parts a_likenesses f_wordCount f_likenessCount f_actorCount f_forbiddenBits f_habitTold f_priceTold, aI cI a_lengths 8 f_lengths, aI cI a_parts 8 f_parts, aI cI a_likenesses 6 f_likenesses]) (rest := []) (st' := [.int z3]) C mX0_43 q2_204 [.int x3, .int (x2 - (nI 9))] (fun l D => cX0_isIn_ct l D cI h a_commons a_lengths a_parts a_likenesses f_wordCount f_likenessCount f_actorCount f_forbiddenBits f_habitTold f_priceTold f_likenesses x3 (x2 - (nI 9)) e_z3) ⟨⟨rfl, rfl⟩, Nat.le_of_ble_eq_true rfl, Nat.le_of_ble_eq_true rfl⟩ 0 rfl rfl rfl [0, 3] rfl rfl rfl rfl rfl (Nat.le_of_ble_eq_true rfl) (Nat.zero_le _) (Nat.zero_le _) rfl dX0_factor_83 ?_
      refine g_if_ne (tgt := 91) C dX0_factor_86 (by decide) (fun c4 => ?_) (fun c4 => ?_)
      · replace hs := vi_f hs c4
        refine g_iload (pl := 4) C dX0_factor_91 rfl ?_
        refine g_bipush (v := (nI 10)) C dX0_factor_93 rfl ?_
        refine g_idiv C dX0_factor_95 (by decide) ?_
        obtain ⟨y5, e_y5, hs⟩ := vlet_ex hs
        refine g_topi e_y5 ?_
        refine g_istore (lv' := [(5, .int y5), (0, .ref h), (1, .int x1), (2, .int x2), (3, .int x3), (4, .int x4)]) C dX0_factor_96 (by decide) rfl ?_
        refine g_iload_n (pl := 2) C dX0_factor_98 rfl rfl ?_
        refine g_iconst (v := (nI 3)) C dX0_factor_99 rfl ?_
        refine g_icmp_ne (tgt := 110) C dX0_factor_100 (by decide) (fun c6 => ?_) (fun c6 => ?_)
        · replace hs := vi_f hs c6
          refine g_iload_n (pl := 2) C dX0_factor_110 rfl rfl ?_
          refine g_iload (pl := 0) C dX0_factor_111 rfl ?_
          obtain ⟨z7, e_z7, hs⟩ := vb_ok hs
          refine g_callS (ws' := [oX0 h a_commons a_lengths a_parts a_likenesses f_wordCount f_likenessCount f_actorCount f_forbiddenBits f_habitTold f_priceTold, aI cI a_lengths 8 f_lengths, aI cI a_parts 8 f_parts, aI cI a_likenesses 6 f_likenesses]) (rest := []) (st' := [.int z7]) C mX0_51 q3_59 [.int x1, .int y5] (fun l D => cX0_byKind_ct l D cI x1 y5 e_z7) ⟨⟨rfl, rfl⟩, Nat.le_of_ble_eq_true rfl, Nat.le_of_ble_eq_true rfl⟩ rfl [] rfl rfl rfl rfl rfl (Nat.le_of_ble_eq_true rfl) (Nat.zero_le _) (Nat.zero_le _) rfl dX0_factor_113 ?_
          cases hs
          exact hR _ _ dX0_factor_116
        · replace hs := vi_t hs c6
          refine g_iload (pl := 0) C dX0_factor_103 rfl ?_
          refine g_iconst (v := (nI 1)) C dX0_factor_105 rfl ?_
          refine g_iadd C dX0_factor_106 ?_
          refine g_goto (tgt := 116) C dX0_factor_107 (by decide) ?_
          cases hs
          exact hR _ _ dX0_factor_116
      · replace hs := vi_t hs c4
        refine g_iconst (v := (nI 1)) C dX0_factor_89 rfl ?_
        cases hs
        exact hR _ _ dX0_factor_90
    · replace hs := vi_f hs c2
      refine g_aload_n (pl := 0) C dX0_factor_57 rfl rfl ?_
      refine g_iload_n (pl := 3) C dX0_factor_58 rfl rfl ?_
      obtain ⟨z8, e_z8, hs⟩ := vb_ok hs
      refine g_callV (ws' := [oX0 h a_commons a_lengths a_parts a_likenesses f_wordCount f_likenessCount f_actorCount f_forbiddenBits f_habitTold f_priceTold, aI cI a_lengths 8 f_lengths, aI cI a_parts 8 f_parts, aI cI a_likenesses 6 f_likenesses]) (rest := []) (st' := [.int z8]) C mX0_55 q2_192 [.int x3] (fun l D => cX0_lengthOf_ct l D cI h a_commons a_lengths a_parts a_likenesses f_wordCount f_likenessCount f_actorCount f_forbiddenBits f_habitTold f_priceTold f_lengths x3 e_z8) ⟨⟨rfl, rfl⟩, Nat.le_of_ble_eq_true rfl, Nat.le_of_ble_eq_true rfl⟩ 0 rfl rfl rfl [0, 1] rfl rfl rfl rfl rfl (Nat.le_of_ble_eq_true rfl) (Nat.zero_le _) (Nat.zero_le _) rfl dX0_factor_59 ?_
      refine g_iload_n (pl := 2) C dX0_factor_62 rfl rfl ?_
      refine g_bipush (v := (nI 6)) C dX0_factor_63 rfl ?_
      refine g_isub C dX0_factor_65 ?_
      refine g_iconst (v := (nI 1)) C dX0_factor_66 rfl ?_
      refine g_iadd C dX0_factor_67 ?_
      refine g_icmp_ne (tgt := 75) C dX0_factor_68 (by decide) (fun c9 => ?_) (fun c9 => ?_)
      · replace hs := vi_f hs c9
        refine g_iconst (v := (nI 0)) C dX0_factor_75 rfl ?_
        cases hs
        exact hR _ _ dX0_factor_76
      · replace hs := vi_t hs c9
        refine g_iconst (v := (nI 1)) C dX0_factor_71 rfl ?_
        refine g_goto (tgt := 76) C dX0_factor_72 (by decide) ?_
        cases hs
        exact hR _ _ dX0_factor_76
  · replace hs := vi_f hs c1
    refine g_iload_n (pl := 1) C dX0_factor_6 rfl rfl ?_
    refine g_iconst (v := (nI 1)) C dX0_factor_7 rfl ?_
    refine g_icmp_ne (tgt := 20) C dX0_factor_8 (by decide) (fun c10 => ?_) (fun c10 => ?_)
    · replace hs := vi_f hs c10
      refine g_iload_n (pl := 2) C dX0_factor_20 rfl rfl ?_
      refine g_istore (lv' := [(5, .int x2), (0, .ref h), (1, .int x1), (2, .int x2), (3, .int x3), (4, .int x4)]) C dX0_factor_21 (by decide) rfl ?_
      refine g_aload_n (pl := 1) C dX0_factor_23 rfl rfl ?_
      refine g_iload_n (pl := 4) C dX0_factor_24 rfl rfl ?_
      obtain ⟨z11, e_z11, hs⟩ := vb_ok hs
      refine g_callV (ws' := [oX0 h a_commons a_lengths a_parts a_likenesses f_wordCount f_likenessCount f_actorCount f_forbiddenBits f_habitTold f_priceTold, aI cI a_lengths 8 f_lengths, aI cI a_parts 8 f_parts, aI cI a_likenesses 6 f_likenesses]) (rest := []) (st' := [.int z11]) C mX0_47 q2_196 [.int x3] (fun l D => cX0_partsOf_ct l D cI h a_commons a_lengths a_parts a_likenesses f_wordCount f_likenessCount f_actorCount f_forbiddenBits f_habitTold f_priceTold f_parts x3 e_z11) ⟨⟨rfl, rfl⟩, Nat.le_of_ble_eq_true rfl, Nat.le_of_ble_eq_true rfl⟩ 0 rfl rfl rfl [0, 2] rfl rfl rfl rfl rfl (Nat.le_of_ble_eq_true rfl) (Nat.zero_le _) (Nat.zero_le _) rfl dX0_factor_25 ?_
      refine g_iload (pl := 0) C dX0_factor_28 rfl ?_
      refine g_ishr C dX0_factor_30 ?_
      refine g_iconst (v := (nI 1)) C dX0_factor_31 rfl ?_
      refine g_iand C dX0_factor_32 ?_
      refine g_iconst (v := (nI 1)) C dX0_factor_33 rfl ?_
      refine g_icmp_ne (tgt := 49) C dX0_factor_34 (by decide) (fun c12 => ?_) (fun c12 => ?_)
      · replace hs := vi_f hs c12
        refine g_iconst (v := (nI 1)) C dX0_factor_49 rfl ?_
        cases hs
        exact hR _ _ dX0_factor_50
      · replace hs := vi_t hs c12
        refine g_iload_n (pl := 2) C dX0_factor_37 rfl rfl ?_
        refine g_iload (pl := 5) C dX0_factor_38 rfl ?_
        refine g_bipush (v := (nI 10)) C dX0_factor_40 rfl ?_
        refine g_irem C dX0_factor_42 (by decide) ?_
        obtain ⟨z13, e_z13, hs⟩ := vb_ok hs
        refine g_callS (ws' := [oX0 h a_commons a_lengths a_parts a_likenesses f_wordCount f_likenessCount f_actorCount f_forbiddenBits f_habitTold f_priceTold, aI cI a_lengths 8 f_lengths, aI cI a_parts 8 f_parts, aI cI a_likenesses 6 f_likenesses]) (rest := []) (st' := [.int z13]) C mX0_51 q3_59 [.int x1, .int (x4 - x4 / (nI 10) * (nI 10))] (fun l D => cX0_byKind_ct l D cI x1 (x4 - x4 / (nI 10) * (nI 10)) e_z13) ⟨⟨rfl, rfl⟩, Nat.le_of_ble_eq_true rfl, Nat.le_of_ble_eq_true rfl⟩ rfl [] rfl rfl rfl rfl rfl (Nat.le_of_ble_eq_true rfl) (Nat.zero_le _) (Nat.zero_le _) rfl dX0_factor_43 ?_
        refine g_goto (tgt := 50) C dX0_factor_46 (by decide) ?_
        cases hs
        exact hR _ _ dX0_factor_50
    · replace hs := vi_t hs c10
      refine g_iload_n (pl := 2) C dX0_factor_11 rfl rfl ?_
      refine g_iconst (v := (nI 1)) C dX0_factor_12 rfl ?_
      refine g_iadd C dX0_factor_13 ?_
      refine g_bipush (v := (nI 6)) C dX0_factor_14 rfl ?_
      refine g_irem C dX0_factor_16 (by decide) ?_
      refine g_goto (tgt := 21) C dX0_factor_17 (by decide) ?_
      obtain ⟨y14, e_y14, hs⟩ := vlet_ex hs
      refine g_topi e_y14 ?_
      refine g_istore (lv' := [(5, .int y14), (0, .ref h), (1, .int x1), (2, .int x2), (3, .int x3), (4, .int x4)]) C dX0_factor_21 (by decide) rfl ?_
      refine g_aload_n (pl := 1) C dX0_factor_23 rfl rfl ?_
      refine g_iload_n (pl := 4) C dX0_factor_24 rfl rfl ?_
      obtain ⟨z15, e_z15, hs⟩ := vb_ok hs
      refine g_callV (ws' := [oX0 h a_commons a_lengths a_parts a_likenesses f_wordCount f_likenessCount f_actorCount f_forbiddenBits f_habitTold f_priceTold, aI cI a_lengths 8 f_lengths, aI cI a_parts 8 f_parts, aI cI a_likenesses 6 f_likenesses]) (rest := []) (st' := [.int z15]) C mX0_47 q2_196 [.int x3] (fun l D => cX0_partsOf_ct l D cI h a_commons a_lengths a_parts a_likenesses f_wordCount f_likenessCount f_actorCount f_forbiddenBits f_habitTold f_priceTold f_parts x3 e_z15) ⟨⟨rfl, rfl⟩, Nat.le_of_ble_eq_true rfl, Nat.le_of_ble_eq_true rfl⟩ 0 rfl rfl rfl [0, 2] rfl rfl rfl rfl rfl (Nat.le_of_ble_eq_true rfl) (Nat.zero_le _) (Nat.zero_le _) rfl dX0_factor_25 ?_
      refine g_iload (pl := 0) C dX0_factor_28 rfl ?_
      refine g_ishr C dX0_factor_30 ?_
      refine g_iconst (v := (nI 1)) C dX0_factor_31 rfl ?_
      refine g_iand C dX0_factor_32 ?_
      refine g_iconst (v := (nI 1)) C dX0_factor_33 rfl ?_
      refine g_icmp_ne (tgt := 49) C dX0_factor_34 (by decide) (fun c16 => ?_) (fun c16 => ?_)
      · replace hs := vi_f hs c16
        refine g_iconst (v := (nI 1)) C dX0_factor_49 rfl ?_
        cases hs
        exact hR _ _ dX0_factor_50
      · replace hs := vi_t hs c16
        refine g_iload_n (pl := 2) C dX0_factor_37 rfl rfl ?_
        refine g_iload (pl := 5) C dX0_factor_38 rfl ?_
        refine g_bipush (v := (nI 10)) C dX0_factor_40 rfl ?_
        refine g_irem C dX0_factor_42 (by decide) ?_
        obtain ⟨z17, e_z17, hs⟩ := vb_ok hs
        refine g_callS (ws' := [oX0 h a_commons a_lengths a_parts a_likenesses f_wordCount f_likenessCount f_actorCount f_forbiddenBits f_habitTold f_priceTold, aI cI a_lengths 8 f_lengths, aI cI a_parts 8 f_parts, aI cI a_likenesses 6 f_likenesses]) (rest := []) (st' := [.int z17]) C mX0_51 q3_59 [.int x1, .int (x4 - x4 / (nI 10) * (nI 10))] (fun l D => cX0_byKind_ct l D cI x1 (x4 - x4 / (nI 10) * (nI 10)) e_z17) ⟨⟨rfl, rfl⟩, Nat.le_of_ble_eq_true rfl, Nat.le_of_ble_eq_true rfl⟩ rfl [] rfl rfl rfl rfl rfl (Nat.le_of_ble_eq_true rfl) (Nat.zero_le _) (Nat.zero_le _) rfl dX0_factor_43 ?_
        refine g_goto (tgt := 50) C dX0_factor_46 (by decide) ?_
        cases hs
        exact hR _ _ dX0_factor_50
def LX0_weightOf_26 (y_2 : Int32) (y_3 : Int32) (y_4 : Int32) (y_5 : Int32) (f_lengths : Nat → Int32) (f_parts : Nat → Int32) (f_likenesses : Nat → Int32) (f_p1_cells : Nat → Int32) : Nat → Int32 → Int32 → Option (Int32)
  | 0, _, _ => none
  | n + 1, y_6, y_7 =>
    vb (sX4_cell f_p1_cells y_2 (nI 3)) fun z1 =>
    vi (z1 ≤ y_7) inferInstance (
      some (y_6)) (
      vi ((nI 5) ≤ y_7) inferInstance (
        some (y_6)) (
        vi (((y_4 >>> (y_7 &&& 31)) &&& (nI 1)) = (nI 1)) inferInstance (
          vb (sX4_cell f_p1_cells y_2 (nI 0)) fun z6 =>
          vb (sX4_sign f_p1_cells y_2 y_7) fun z7 =>
          vb (sX0_factor f_lengths f_parts f_likenesses z6 z7 y_3 y_5) fun z8 =>
          vlet (y_6 * z8) fun y9 =>
          vlet (y_7 + (nI 1)) fun y10 =>
          LX0_weightOf_26 y_2 y_3 y_4 y_5 f_lengths f_parts f_likenesses f_p1_cells n y9 y10) (
          vlet (y_7 + (nI 1)) fun y5 =>
          LX0_weightOf_26 y_2 y_3 y_4 y_5 f_lengths f_parts f_likenesses f_p1_cells n y_6 y5)))
def sX0_weightOf (f_commons : Nat → Int32) (f_lengths : Nat → Int32) (f_parts : Nat → Int32) (f_likenesses : Nat → Int32) (f_p1_cells : Nat → Int32) (x2 : Int32) (x3 : Int32) (x4 : Int32) (x5 : Int32) : Option (Int32) :=
  vb (sX4_cell f_p1_cells x2 (nI 4)) fun z11 =>
  vi (((z11 >>> (x3 &&& 31)) &&& (nI 1)) = (nI 1)) inferInstance (
    some ((nI 0))) (
    vb (sX0_commonOf f_commons x3) fun z13 =>
    LX0_weightOf_26 x2 x3 x4 x5 f_lengths f_parts f_likenesses f_p1_cells vF z13 (nI 0))
abbrev rmX0_weightOf : Room := { frames := 2, cells := 0, slots := 0, locals := 47 }
set_option maxHeartbeats 4000000 in
set_option maxRecDepth 100000 in
theorem LX0_weightOf_26_w {cI : ClassId} {X : xT} (C : cx cI X 8 cX0_weightOf RX0 rmX0_weightOf) (h : Nat) (a_commons : Nat) (a_lengths : Nat) (a_parts : Nat) (a_likenesses : Nat) (a_p1 : Nat) (a_p1_cells : Nat) (f_wordCount : Int32) (f_likenessCount : Int32) (f_actorCount : Int32) (f_forbiddenBits : Int32) (f_habitTold : Int32) (f_priceTold : Int32) (f_commons : Nat → Int32) (f_lengths : Nat → Int32) (f_parts : Nat → Int32) (f_likenesses : Nat → Int32) (f_p1_cells : Nat → Int32) (y_2 : Int32) (y_3 : Int32) (y_4 : Int32) (y_5 : Int32) {z : Int32} (hR : ∀ (lv : List (Nat × Value)) (pc : Nat), decode cX0_weightOf pc = .ok (.ireturn, 1) → gg cI X 8 0 0 [oX0 h a_commons a_lengths a_parts a_likenesses f_wordCount f_likenessCount f_actorCount f_forbiddenBits f_habitTold f_priceTold, aI cI a_commons 8 f_commons, aI cI a_lengths 8 f_lengths, aI cI a_parts 8 f_parts, aI cI a_likenesses 6 f_likenesses, oX4 a_p1 a_p1_cells, aI cI a_p1_cells 55 f_p1_cells] lv pc [.int z]) : ∀ (n : Nat) (y_6 : Int32) (y_7 : Int32), LX0_weightOf_26 y_2 y_3 y_4 y_5 f_lengths f_parts f_likenesses f_p1_cells n y_6 y_7 = some z → gg cI X 8 0 0 [oX0 h a_commons a_lengths a_parts a_likenesses f_wordCount f_likenessCount f_actorCount f_forbiddenBits f_habitTold f_priceTold, aI cI a_commons 8 f_commons, aI cI a_lengths 8 f_lengths, aI cI a_parts 8 f_parts, aI cI a_likenesses 6 f_likenesses, oX4 a_p1 a_p1_cells, aI cI a_p1_cells 55 f_p1_cells] [(0, .ref h), (1, .ref a_p1), (2, .int y_2), (3, .int y_3), (4, .int y_4), (5, .int y_5), (6, .int y_6), (7, .int y_7)] 26 [] := by
  intro n
  induction n with
  | zero =>
    intro y_6 y_7 hs
    exact nn_ok hs
  | succ n ih =>
    intro y_6 y_7 hs
    rw [LX0_weightOf_26] at hs
    refine g_iload (pl := 7) C dX0_weightOf_26 rfl ?_
    refine g_aload_n (pl := 1) C dX0_weightOf_28 rfl rfl ?_
    refine g_iload_n (pl := 2) C dX0_weightOf_29 rfl rfl ?_
    refine g_iconst (v := (nI 3)) C dX0_weightOf_30 rfl ?_
    obtain ⟨z1, e_z1, hs⟩ := vb_ok hs
    refine g_callV (ws' := [oX0 h a_commons a_lengths a_parts a_likenesses f_wordCount f_likenessCount f_actorCount f_forbiddenBits f_habitTold f_priceTold, aI cI a_commons 8 f_commons, aI cI a_lengths 8 f_lengths, aI cI a_parts 8 f_parts, aI cI a_likenesses 6 f_likenesses, oX4 a_p1 a_p1_cells, aI cI a_p1_cells 55 f_p1_cells]) (rest := [.int y_7]) (st' := [.int z1, .int y_7]) C mX0_58 q2_232 [.int y_2, .int (nI 3)] (fun l D => cX4_cell_ct l D cI a_p1 a_p1_cells f_p1_cells y_2 (nI 3) e_z1) ⟨⟨rfl, rfl⟩, Nat.le_of_ble_eq_true rfl, Nat.le_of_ble_eq_true rfl⟩ 5 rfl rfl rfl [5, 6] rfl rfl rfl rfl rfl (Nat.le_of_ble_eq_true rfl) (Nat.zero_le _) (Nat.zero_le _) rfl dX0_weightOf_31 ?_
    refine g_icmp_ge (tgt := 85) C dX0_weightOf_34 (by decide) (fun c2 => ?_) (fun c2 => ?_)
    · replace hs := vi_t hs c2
      refine g_iload (pl := 6) C dX0_weightOf_85 rfl ?_
      cases hs
      exact hR _ _ dX0_weightOf_87
    · replace hs := vi_f hs c2
      refine g_iload (pl := 7) C dX0_weightOf_37 rfl ?_
      refine g_iconst (v := (nI 5)) C dX0_weightOf_39 rfl ?_
      refine g_icmp_ge (tgt := 85) C dX0_weightOf_40 (by decide) (fun c3 => ?_) (fun c3 => ?_)
      · replace hs := vi_t hs c3
        refine g_iload (pl := 6) C dX0_weightOf_85 rfl ?_
        cases hs
        exact hR _ _ dX0_weightOf_87
      · replace hs := vi_f hs c3
        refine g_iload (pl := 4) C dX0_weightOf_43 rfl ?_
        refine g_iload (pl := 7) C dX0_weightOf_45 rfl ?_
        refine g_ishr C dX0_weightOf_47 ?_
        refine g_iconst (v := (nI 1)) C dX0_weightOf_48 rfl ?_
        refine g_iand C dX0_weightOf_49 ?_
        refine g_iconst (v := (nI 1)) C dX0_weightOf_50 rfl ?_
        refine g_icmp_ne (tgt := 79) C dX0_weightOf_51 (by decide) (fun c4 => ?_) (fun c4 => ?_)
        · replace hs := vi_f hs c4
          obtain ⟨y5, e_y5, hs⟩ := vlet_ex hs
          refine g_iinc (pl := 7) (lv' := [(7, .int y5), (0, .ref h), (1, .ref a_p1), (2, .int y_2), (3, .int y_3), (4, .int y_4), (5, .int y_5), (6, .int y_6)]) C dX0_weightOf_79 rfl e_y5.symm (by decide) rfl ?_
          refine g_goto (tgt := 26) C dX0_weightOf_82 (by decide) ?_
          refine g_sub [1, 2, 3, 4, 5, 6, 7, 0] rfl ?_
          exact ih y_6 y5 hs
        · replace hs := vi_t hs c4
          refine g_iload (pl := 6) C dX0_weightOf_54 rfl ?_
          refine g_aload_n (pl := 0) C dX0_weightOf_56 rfl rfl ?_
          refine g_aload_n (pl := 1) C dX0_weightOf_57 rfl rfl ?_
          refine g_iload_n (pl := 2) C dX0_weightOf_58 rfl rfl ?_
          refine g_iconst (v := (nI 0)) C dX0_weightOf_59 rfl ?_
          obtain ⟨z6, e_z6, hs⟩ := vb_ok hs
          refine g_callV (ws' := [oX0 h a_commons a_lengths a_parts a_likenesses f_wordCount f_likenessCount f_actorCount f_forbiddenBits f_habitTold f_priceTold, aI cI a_commons 8 f_commons, aI cI a_lengths 8 f_lengths, aI cI a_parts 8 f_parts, aI cI a_likenesses 6 f_likenesses, oX4 a_p1 a_p1_cells, aI cI a_p1_cells 55 f_p1_cells]) (rest := [.ref h, .int y_6]) (st' := [.int z6, .ref h, .int y_6]) C mX0_58 q2_232 [.int y_2, .int (nI 0)] (fun l D => cX4_cell_ct l D cI a_p1 a_p1_cells f_p1_cells y_2 (nI 0) e_z6) ⟨⟨rfl, rfl⟩, Nat.le_of_ble_eq_true rfl, Nat.le_of_ble_eq_true rfl⟩ 5 rfl rfl rfl [5, 6] rfl rfl rfl rfl rfl (Nat.le_of_ble_eq_true rfl) (Nat.zero_le _) (Nat.zero_le _) rfl dX0_weightOf_60 ?_
          refine g_aload_n (pl := 1) C dX0_weightOf_63 rfl rfl ?_
          refine g_iload_n (pl := 2) C dX0_weightOf_64 rfl rfl ?_
          refine g_iload (pl := 7) C dX0_weightOf_65 rfl ?_
          obtain ⟨z7, e_z7, hs⟩ := vb_ok hs
          refine g_callV (ws' := [oX0 h a_commons a_lengths a_parts a_likenesses f_wordCount f_likenessCount f_actorCount f_forbiddenBits f_habitTold f_priceTold, aI cI a_commons 8 f_commons, aI cI a_lengths 8 f_lengths, aI cI a_parts 8 f_parts, aI cI a_likenesses 6 f_likenesses, oX4 a_p1 a_p1_cells, aI cI a_p1_cells 55 f_p1_cells]) (rest := [.int z6, .ref h, .int y_6]) (st' := [.int z7, .int z6, .ref h, .int y_6]) C mX0_66 q3_0 [.int y_2, .int y_7] (fun l D => cX4_sign_ct l D cI a_p1 a_p1_cells f_p1_cells y_2 y_7 e_z7) ⟨⟨rfl, rfl⟩, Nat.le_of_ble_eq_true rfl, Nat.le_of_ble_eq_true rfl⟩ 5 rfl rfl rfl [5, 6] rfl rfl rfl rfl rfl (Nat.le_of_ble_eq_true rfl) (Nat.zero_le _) (Nat.zero_le _) rfl dX0_weightOf_67 ?_
          refine g_iload_n (pl := 3) C dX0_weightOf_70 rfl rfl ?_
          refine g_iload (pl := 5) C dX0_weightOf_71 rfl ?_
          obtain ⟨z8, e_z8, hs⟩ := vb_ok hs
          refine g_callV (ws' := [oX0 h a_commons a_lengths a_parts a_likenesses f_wordCount f_likenessCount f_actorCount f_forbiddenBits f_habitTold f_priceTold, aI cI a_commons 8 f_commons, aI cI a_lengths 8 f_lengths, aI cI a_parts 8 f_parts, aI cI a_likenesses 6 f_likenesses, oX4 a_p1 a_p1_cells, aI cI a_p1_cells 55 f_p1_cells]) (rest := [.int y_6]) (st' := [.int z8, .int y_6]) C mX0_69 q3_55 [.int z6, .int z7, .int y_3, .int y_5] (fun l D => cX0_factor_ct l D cI h a_commons a_lengths a_parts a_likenesses f_wordCount f_likenessCount f_actorCount f_forbiddenBits f_habitTold f_priceTold f_lengths f_parts f_likenesses z6 z7 y_3 y_5 e_z8) ⟨⟨rfl, rfl⟩, Nat.le_of_ble_eq_true rfl, Nat.le_of_ble_eq_true rfl⟩ 0 rfl rfl rfl [0, 2, 3, 4] rfl rfl rfl rfl rfl (Nat.le_of_ble_eq_true rfl) (Nat.zero_le _) (Nat.zero_le _) rfl dX0_weightOf_73 ?_
          refine g_imul C dX0_weightOf_76 ?_
          obtain ⟨y9, e_y9, hs⟩ := vlet_ex hs
          refine g_topi e_y9 ?_
          refine g_istore (lv' := [(6, .int y9), (0, .ref h), (1, .ref a_p1), (2, .int y_2), (3, .int y_3), (4, .int y_4), (5, .int y_5), (7, .int y_7)]) C dX0_weightOf_77 (by decide) rfl ?_
          obtain ⟨y10, e_y10, hs⟩ := vlet_ex hs
          refine g_iinc (pl := 7) (lv' := [(7, .int y10), (6, .int y9), (0, .ref h), (1, .ref a_p1), (2, .int y_2), (3, .int y_3), (4, .int y_4), (5, .int y_5)]) C dX0_weightOf_79 rfl e_y10.symm (by decide) rfl ?_
          refine g_goto (tgt := 26) C dX0_weightOf_82 (by decide) ?_
          refine g_sub [2, 3, 4, 5, 6, 7, 1, 0] rfl ?_
          exact ih y9 y10 hs
set_option maxHeartbeats 4000000 in
set_option maxRecDepth 100000 in
theorem cX0_weightOf_ct (l : Launch) (D : va_G) (cI : ClassId) (h : Nat) (a_commons : Nat) (a_lengths : Nat) (a_parts : Nat) (a_likenesses : Nat) (a_p1 : Nat) (a_p1_cells : Nat) (f_wordCount : Int32) (f_likenessCount : Int32) (f_actorCount : Int32) (f_forbiddenBits : Int32) (f_habitTold : Int32) (f_priceTold : Int32) (f_commons : Nat → Int32) (f_lengths : Nat → Int32) (f_parts : Nat → Int32) (f_likenesses : Nat → Int32) (f_p1_cells : Nat → Int32) (x2 : Int32) (x3 : Int32) (x4 : Int32) (x5 : Int32) {z : Int32} (hs : sX0_weightOf f_commons f_lengths f_parts f_likenesses f_p1_cells x2 x3 x4 x5 = some z) : ct l yX0_weightOf (.code yX0_weightOf cX0_weightOf 8 (some .int) :: gtb) rmX0_weightOf D cI [.ref h, .ref a_p1, .int x2, .int x3, .int x4, .int x5] [oX0 h a_commons a_lengths a_parts a_likenesses f_wordCount f_likenessCount f_actorCount f_forbiddenBits f_habitTold f_priceTold, aI cI a_commons 8 f_commons, aI cI a_lengths 8 f_lengths, aI cI a_parts 8 f_parts, aI cI a_likenesses 6 f_likenesses, oX4 a_p1 a_p1_cells, aI cI a_p1_cells 55 f_p1_cells] (some (.int z)) [oX0 h a_commons a_lengths a_parts a_likenesses f_wordCount f_likenessCount f_actorCount f_forbiddenBits f_habitTold f_priceTold, aI cI a_commons 8 f_commons, aI cI a_lengths 8 f_lengths, aI cI a_parts 8 f_parts, aI cI a_likenesses 6 f_likenesses, oX4 a_p1 a_p1_cells, aI cI a_p1_cells 55 f_p1_cells] := by
  refine ct_ofI (own := RX0) (by decide +kernel) rfl (Nat.le_of_ble_eq_true rfl) (fun X C hD hR => ?_)
  unfold sX0_weightOf at hs
  show gg cI X 8 0 0 [oX0 h a_commons a_lengths a_parts a_likenesses f_wordCount f_likenessCount f_actorCount f_forbiddenBits f_habitTold f_priceTold, aI cI a_commons 8 f_commons, aI cI a_lengths 8 f_lengths, aI cI a_parts 8 f_parts, aI cI a_likenesses 6 f_likenesses, oX4 a_p1 a_p1_cells, aI cI a_p1_cells 55 f_p1_cells] [(0, .ref h), (1, .ref a_p1), (2, .int x2), (3, .int x3), (4, .int x4), (5, .int x5)] 0 []
  refine g_aload_n (pl := 1) C dX0_weightOf_0 rfl rfl ?_
  refine g_iload_n (pl := 2) C dX0_weightOf_1 rfl rfl ?_
  refine g_iconst (v := (nI 4)) C dX0_weightOf_2 rfl ?_
  obtain ⟨z11, e_z11, hs⟩ := vb_ok hs
  refine g_callV (ws' := [oX0 h a_commons a_lengths a_parts a_likenesses f_wordCount f_likenessCount f_actorCount f_forbiddenBits f_habitTold f_priceTold, aI cI a_commons 8 f_commons, aI cI a_lengths 8 f_lengths, aI cI a_parts 8 f_parts, aI cI a_likenesses 6 f_likenesses, oX4 a_p1 a_p1_cells, aI cI a_p1_cells 55 f_p1_cells]) (rest := []) (st' := [.int z11]) C mX0_58 q2_232 [.int x2, .int (nI 4)] (fun l D => cX4_cell_ct l D cI a_p1 a_p1_cells f_p1_cells x2 (nI 4) e_z11) ⟨⟨rfl, rfl⟩, Nat.le_of_ble_eq_true rfl, Nat.le_of_ble_eq_true rfl⟩ 5 rfl rfl rfl [5, 6] rfl rfl rfl rfl rfl (Nat.le_of_ble_eq_true rfl) (Nat.zero_le _) (Nat.zero_le _) rfl dX0_weightOf_3 ?_
  refine g_iload_n (pl := 3) C dX0_weightOf_6 rfl rfl ?_
  refine g_ishr C dX0_weightOf_7 ?_
  refine g_iconst (v := (nI 1)) C dX0_weightOf_8 rfl ?_
  refine g_iand C dX0_weightOf_9 ?_
  refine g_iconst (v := (nI 1)) C dX0_weightOf_10 rfl ?_
  refine g_icmp_ne (tgt := 16) C dX0_weightOf_11 (by decide) (fun c12 => ?_) (fun c12 => ?_)
  · replace hs := vi_f hs c12
    refine g_aload_n (pl := 0) C dX0_weightOf_16 rfl rfl ?_
    refine g_iload_n (pl := 3) C dX0_weightOf_17 rfl rfl ?_
    obtain ⟨z13, e_z13, hs⟩ := vb_ok hs
    refine g_callV (ws' := [oX0 h a_commons a_lengths a_parts a_likenesses f_wordCount f_likenessCount f_actorCount f_forbiddenBits f_habitTold f_priceTold, aI cI a_commons 8 f_commons, aI cI a_lengths 8 f_lengths, aI cI a_parts 8 f_parts, aI cI a_likenesses 6 f_likenesses, oX4 a_p1 a_p1_cells, aI cI a_p1_cells 55 f_p1_cells]) (rest := []) (st' := [.int z13]) C mX0_63 q2_188 [.int x3] (fun l D => cX0_commonOf_ct l D cI h a_commons a_lengths a_parts a_likenesses f_wordCount f_likenessCount f_actorCount f_forbiddenBits f_habitTold f_priceTold f_commons x3 e_z13) ⟨⟨rfl, rfl⟩, Nat.le_of_ble_eq_true rfl, Nat.le_of_ble_eq_true rfl⟩ 0 rfl rfl rfl [0, 1] rfl rfl rfl rfl rfl (Nat.le_of_ble_eq_true rfl) (Nat.zero_le _) (Nat.zero_le _) rfl dX0_weightOf_18 ?_
    refine g_istore (lv' := [(6, .int z13), (0, .ref h), (1, .ref a_p1), (2, .int x2), (3, .int x3), (4, .int x4), (5, .int x5)]) C dX0_weightOf_21 (by decide) rfl ?_
    refine g_iconst (v := (nI 0)) C dX0_weightOf_23 rfl ?_
    refine g_istore (lv' := [(7, .int (nI 0)), (6, .int z13), (0, .ref h), (1, .ref a_p1), (2, .int x2), (3, .int x3), (4, .int x4), (5, .int x5)]) C dX0_weightOf_24 (by decide) rfl ?_
    refine g_sub [2, 3, 4, 5, 6, 7, 1, 0] rfl ?_
    exact LX0_weightOf_26_w C h a_commons a_lengths a_parts a_likenesses a_p1 a_p1_cells f_wordCount f_likenessCount f_actorCount f_forbiddenBits f_habitTold f_priceTold f_commons f_lengths f_parts f_likenesses f_p1_cells x2 x3 x4 x5 hR _ z13 (nI 0) hs
  · replace hs := vi_t hs c12
    refine g_iconst (v := (nI 0)) C dX0_weightOf_14 rfl ?_
    cases hs
    exact hR _ _ dX0_weightOf_15
def LX0_heaviest_10 (y_2 : Int32) (y_3 : Int32) (y_4 : Int32) (f_commons : Nat → Int32) (f_lengths : Nat → Int32) (f_parts : Nat → Int32) (f_likenesses : Nat → Int32) (f_wordCount : Int32) (f_p1_cells : Nat → Int32) : Nat → Int32 → Int32 → Int32 → Option (Int32)
  | 0, _, _, _ => none
  | n + 1, y_5, y_6, y_7 =>
    vi (f_wordCount ≤ y_7) inferInstance (
      some (y_5)) (
      vb (sX0_weightOf f_commons f_lengths f_parts f_likenesses f_p1_cells y_2 y_7 y_3 y_4) fun z2 =>
      vi (z2 ≤ y_6) inferInstance (
        vlet (y_7 + (nI 1)) fun y4 =>
        LX0_heaviest_10 y_2 y_3 y_4 f_commons f_lengths f_parts f_likenesses f_wordCount f_p1_cells n y_5 y_6 y4) (
        vlet (y_7 + (nI 1)) fun y5 =>
        LX0_heaviest_10 y_2 y_3 y_4 f_commons f_lengths f_parts f_likenesses f_wordCount f_p1_cells n y_7 z2 y5))
def sX0_heaviest (f_commons : Nat → Int32) (f_lengths : Nat → Int32) (f_parts : Nat → Int32) (f_likenesses : Nat → Int32) (f_wordCount : Int32) (f_p1_cells : Nat → Int32) (x2 : Int32) (x3 : Int32) (x4 : Int32) : Option (Int32) :=
  LX0_heaviest_10 x2 x3 x4 f_commons f_lengths f_parts f_likenesses f_wordCount f_p1_cells vF (-4) (nI 0) (nI 0)
abbrev rmX0_heaviest : Room := { frames := 3, cells := 0, slots := 0, locals := 74 }
set_option maxHeartbeats 4000000 in
set_option maxRecDepth 100000 in
theorem LX0_heaviest_10_w {cI : ClassId} {X : xT} (C : cx cI X 9 cX0_heaviest RX0 rmX0_heaviest) (h : Nat) (a_commons : Nat) (a_lengths : Nat) (a_parts : Nat) (a_likenesses : Nat) (a_p1 : Nat) (a_p1_cells : Nat) (f_wordCount : Int32) (f_likenessCount : Int32) (f_actorCount : Int32) (f_forbiddenBits : Int32) (f_habitTold : Int32) (f_priceTold : Int32) (f_commons : Nat → Int32) (f_lengths : Nat → Int32) (f_parts : Nat → Int32) (f_likenesses : Nat → Int32) (f_p1_cells : Nat → Int32) (y_2 : Int32) (y_3 : Int32) (y_4 : Int32) {z : Int32} (hR : ∀ (lv : List (Nat × Value)) (pc : Nat), decode cX0_heaviest pc = .ok (.ireturn, 1) → gg cI X 9 0 0 [oX0 h a_commons a_lengths a_parts a_likenesses f_wordCount f_likenessCount f_actorCount f_forbiddenBits f_habitTold f_priceTold, aI cI a_commons 8 f_commons, aI cI a_lengths 8 f_lengths, aI cI a_parts 8 f_parts, aI cI a_likenesses 6 f_likenesses, oX4 a_p1 a_p1_cells, aI cI a_p1_cells 55 f_p1_cells] lv pc [.int z]) : ∀ (n : Nat) (y_5 : Int32) (y_6 : Int32) (y_7 : Int32), LX0_heaviest_10 y_2 y_3 y_4 f_commons f_lengths f_parts f_likenesses f_wordCount f_p1_cells n y_5 y_6 y_7 = some z → gg cI X 9 0 0 [oX0 h a_commons a_lengths a_parts a_likenesses f_wordCount f_likenessCount f_actorCount f_forbiddenBits f_habitTold f_priceTold, aI cI a_commons 8 f_commons, aI cI a_lengths 8 f_lengths, aI cI a_parts 8 f_parts, aI cI a_likenesses 6 f_likenesses, oX4 a_p1 a_p1_cells, aI cI a_p1_cells 55 f_p1_cells] [(0, .ref h), (1, .ref a_p1), (2, .int y_2), (3, .int y_3), (4, .int y_4), (5, .int y_5), (6, .int y_6), (7, .int y_7)] 10 [] := by
  intro n
  induction n with
  | zero =>
    intro y_5 y_6 y_7 hs
    exact nn_ok hs
  | succ n ih =>
    intro y_5 y_6 y_7 hs
    rw [LX0_heaviest_10] at hs
    refine g_iload (pl := 7) C dX0_heaviest_10 rfl ?_
    refine g_aload_n (pl := 0) C dX0_heaviest_12 rfl rfl ?_
    refine g_get C fX0_24 0 rfl rfl dX0_heaviest_13 ?_
    refine g_icmp_ge (tgt := 53) C dX0_heaviest_16 (by decide) (fun c1 => ?_) (fun c1 => ?_)
    · replace hs := vi_t hs c1
      refine g_iload (pl := 5) C dX0_heaviest_53 rfl ?_
      cases hs
      exact hR _ _ dX0_heaviest_55
    · replace hs := vi_f hs c1
      refine g_aload_n (pl := 0) C dX0_heaviest_19 rfl rfl ?_
      refine g_aload_n (pl := 1) C dX0_heaviest_20 rfl rfl ?_
      refine g_iload_n (pl := 2) C dX0_heaviest_21 rfl rfl ?_
      refine g_iload (pl := 7) C dX0_heaviest_22 rfl ?_
      refine g_iload_n (pl := 3) C dX0_heaviest_24 rfl rfl ?_
      refine g_iload (pl := 4) C dX0_heaviest_25 rfl ?_
      obtain ⟨z2, e_z2, hs⟩ := vb_ok hs
      refine g_callV (ws' := [oX0 h a_commons a_lengths a_parts a_likenesses f_wordCount f_likenessCount f_actorCount f_forbiddenBits f_habitTold f_priceTold, aI cI a_commons 8 f_commons, aI cI a_lengths 8 f_lengths, aI cI a_parts 8 f_parts, aI cI a_likenesses 6 f_likenesses, oX4 a_p1 a_p1_cells, aI cI a_p1_cells 55 f_p1_cells]) (rest := []) (st' := [.int z2]) C mX0_73 q3_48 [.ref a_p1, .int y_2, .int y_7, .int y_3, .int y_4] (fun l D => cX0_weightOf_ct l D cI h a_commons a_lengths a_parts a_likenesses a_p1 a_p1_cells f_wordCount f_likenessCount f_actorCount f_forbiddenBits f_habitTold f_priceTold f_commons f_lengths f_parts f_likenesses f_p1_cells y_2 y_7 y_3 y_4 e_z2) ⟨⟨rfl, rfl⟩, Nat.le_of_ble_eq_true rfl, Nat.le_of_ble_eq_true rfl⟩ 0 rfl rfl rfl [0, 1, 2, 3, 4, 5, 6] rfl rfl rfl rfl rfl (Nat.le_of_ble_eq_true rfl) (Nat.zero_le _) (Nat.zero_le _) rfl dX0_heaviest_27 ?_
      refine g_istore (lv' := [(8, .int z2), (0, .ref h), (1, .ref a_p1), (2, .int y_2), (3, .int y_3), (4, .int y_4), (5, .int y_5), (6, .int y_6), (7, .int y_7)]) C dX0_heaviest_30 (by decide) rfl ?_
      refine g_iload (pl := 0) C dX0_heaviest_32 rfl ?_
      refine g_iload (pl := 7) C dX0_heaviest_34 rfl ?_
      refine g_icmp_le (tgt := 47) C dX0_heaviest_36 (by decide) (fun c3 => ?_) (fun c3 => ?_)
      · replace hs := vi_t hs c3
        obtain ⟨y4, e_y4, hs⟩ := vlet_ex hs
        refine g_iinc (pl := 8) (lv' := [(7, .int y4), (8, .int z2), (0, .ref h), (1, .ref a_p1), (2, .int y_2), (3, .int y_3), (4, .int y_4), (5, .int y_5), (6, .int y_6)]) C dX0_heaviest_47 rfl e_y4.symm (by decide) rfl ?_
        refine g_goto (tgt := 10) C dX0_heaviest_50 (by decide) ?_
        refine g_sub [2, 3, 4, 5, 6, 7, 8, 0] rfl ?_
        exact ih y_5 y_6 y4 hs
      · replace hs := vi_f hs c3
        refine g_iload (pl := 0) C dX0_heaviest_39 rfl ?_
        refine g_istore (lv' := [(6, .int z2), (8, .int z2), (0, .ref h), (1, .ref a_p1), (2, .int y_2), (3, .int y_3), (4, .int y_4), (5, .int y_5), (7, .int y_7)]) C dX0_heaviest_41 (by decide) rfl ?_
        refine g_iload (pl := 8) C dX0_heaviest_43 rfl ?_
        refine g_istore (lv' := [(5, .int y_7), (6, .int z2), (8, .int z2), (0, .ref h), (1, .ref a_p1), (2, .int y_2), (3, .int y_3), (4, .int y_4), (7, .int y_7)]) C dX0_heaviest_45 (by decide) rfl ?_
        obtain ⟨y5, e_y5, hs⟩ := vlet_ex hs
        refine g_iinc (pl := 8) (lv' := [(7, .int y5), (5, .int y_7), (6, .int z2), (8, .int z2), (0, .ref h), (1, .ref a_p1), (2, .int y_2), (3, .int y_3), (4, .int y_4)]) C dX0_heaviest_47 rfl e_y5.symm (by decide) rfl ?_
        refine g_goto (tgt := 10) C dX0_heaviest_50 (by decide) ?_
        refine g_sub [4, 5, 6, 7, 8, 1, 2, 0] rfl ?_
        exact ih y_7 z2 y5 hs
set_option maxHeartbeats 4000000 in
set_option maxRecDepth 100000 in
theorem cX0_heaviest_ct (l : Launch) (D : va_G) (cI : ClassId) (h : Nat) (a_commons : Nat) (a_lengths : Nat) (a_parts : Nat) (a_likenesses : Nat) (a_p1 : Nat) (a_p1_cells : Nat) (f_wordCount : Int32) (f_likenessCount : Int32) (f_actorCount : Int32) (f_forbiddenBits : Int32) (f_habitTold : Int32) (f_priceTold : Int32) (f_commons : Nat → Int32) (f_lengths : Nat → Int32) (f_parts : Nat → Int32) (f_likenesses : Nat → Int32) (f_p1_cells : Nat → Int32) (x2 : Int32) (x3 : Int32) (x4 : Int32) {z : Int32} (hs : sX0_heaviest f_commons f_lengths f_parts f_likenesses f_wordCount f_p1_cells x2 x3 x4 = some z) : ct l yX0_heaviest (.code yX0_heaviest cX0_heaviest 9 (some .int) :: gtb) rmX0_heaviest D cI [.ref h, .ref a_p1, .int x2, .int x3, .int x4] [oX0 h a_commons a_lengths a_parts a_likenesses f_wordCount f_likenessCount f_actorCount f_forbiddenBits f_habitTold f_priceTold, aI cI a_commons 8 f_commons, aI cI a_lengths 8 f_lengths, aI cI a_parts 8 f_parts, aI cI a_likenesses 6 f_likenesses, oX4 a_p1 a_p1_cells, aI cI a_p1_cells 55 f_p1_cells] (some (.int z)) [oX0 h a_commons a_lengths a_parts a_likenesses f_wordCount f_likenessCount f_actorCount f_forbiddenBits f_habitTold f_priceTold, aI cI a_commons 8 f_commons, aI cI a_lengths 8 f_lengths, aI cI a_parts 8 f_parts, aI cI a_likenesses 6 f_likenesses, oX4 a_p1 a_p1_cells, aI cI a_p1_cells 55 f_p1_cells] := by
  refine ct_ofI (own := RX0) (by decide +kernel) rfl (Nat.le_of_ble_eq_true rfl) (fun X C hD hR => ?_)
  unfold sX0_heaviest at hs
  show gg cI X 9 0 0 [oX0 h a_commons a_lengths a_parts a_likenesses f_wordCount f_likenessCount f_actorCount f_forbiddenBits f_habitTold f_priceTold, aI cI a_commons 8 f_commons, aI cI a_lengths 8 f_lengths, aI cI a_parts 8 f_parts, aI cI a_likenesses 6 f_likenesses, oX4 a_p1 a_p1_cells, aI cI a_p1_cells 55 f_p1_cells] [(0, .ref h), (1, .ref a_p1), (2, .int x2), (3, .int x3), (4, .int x4)] 0 []
  refine g_bipush (v := (-4)) C dX0_heaviest_0 rfl ?_
  refine g_istore (lv' := [(5, .int (-4)), (0, .ref h), (1, .ref a_p1), (2, .int x2), (3, .int x3), (4, .int x4)]) C dX0_heaviest_2 (by decide) rfl ?_
  refine g_iconst (v := (nI 0)) C dX0_heaviest_4 rfl ?_
  refine g_istore (lv' := [(6, .int (nI 0)), (5, .int (-4)), (0, .ref h), (1, .ref a_p1), (2, .int x2), (3, .int x3), (4, .int x4)]) C dX0_heaviest_5 (by decide) rfl ?_
  refine g_iconst (v := (nI 0)) C dX0_heaviest_7 rfl ?_
  refine g_istore (lv' := [(7, .int (nI 0)), (6, .int (nI 0)), (5, .int (-4)), (0, .ref h), (1, .ref a_p1), (2, .int x2), (3, .int x3), (4, .int x4)]) C dX0_heaviest_8 (by decide) rfl ?_
  refine g_sub [3, 4, 5, 6, 7, 2, 1, 0] rfl ?_
  exact LX0_heaviest_10_w C h a_commons a_lengths a_parts a_likenesses a_p1 a_p1_cells f_wordCount f_likenessCount f_actorCount f_forbiddenBits f_habitTold f_priceTold f_commons f_lengths f_parts f_likenesses f_p1_cells x2 x3 x4 hR _ (-4) (nI 0) (nI 0) hs

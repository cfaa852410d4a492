def sJ6_bitCount_0f7a4 (x1 : Int32) : Option (Int32) :=
  vlet (x1 - (((Int32.toUInt32 x1 >>> (Int32.toUInt32 (nI 1) &&& Int32.toUInt32 31)).toInt32) &&& (nI 1431655765))) fun y1 =>
  vlet ((y1 &&& (nI 858993459)) + (((Int32.toUInt32 y1 >>> (Int32.toUInt32 (nI 2) &&& Int32.toUInt32 31)).toInt32) &&& (nI 858993459))) fun y2 =>
  vlet ((y2 + ((Int32.toUInt32 y2 >>> (Int32.toUInt32 (nI 4) &&& Int32.toUInt32 31)).toInt32)) &&& (nI 252645135)) fun y3 =>
  vlet (y3 + ((Int32.toUInt32 y3 >>> (Int32.toUInt32 (nI 8) &&& Int32.toUInt32 31)).toInt32)) fun y4 =>
  vlet (y4 + ((Int32.toUInt32 y4 >>> (Int32.toUInt32 (nI 16) &&& Int32.toUInt32 31)).toInt32)) fun y5 =>
  some (y5 &&& (nI 63))
abbrev rmJ6_bitCount_0f7a4 : Room := { frames := 0, cells := 0, slots := 0, locals := 0 }
set_option maxHeartbeats 4000000 in
set_option maxRecDepth 100000 in
theorem cJ6_bitCount_0f7a4_ct (l : Launch) (D : va_G) (cI : ClassId) (x1 : Int32) {z : Int32} (hs : sJ6_bitCount_0f7a4 x1 = some z) : ct l yJ6_bitCount_0f7a4 (.code yJ6_bitCount_0f7a4 cJ6_bitCount_0f7a4 1 (some .int) :: gtb) rmJ6_bitCount_0f7a4 D cI [.int x1] [] (some (.int z)) [] := by
  refine ct_ofI (own := RJ6) (by decide +kernel) rfl (Nat.le_of_ble_eq_true rfl) (fun X C hD hR => ?_)
  unfold sJ6_bitCount_0f7a4 at hs
  show gg cI X 1 0 0 [] [(0, .int x1)] 0 []
  refine g_iload_n (pl := 0) C dJ6_bitCount_0f7a4_0 rfl rfl ?_
  refine g_iload_n (pl := 0) C dJ6_bitCount_0f7a4_1 rfl rfl ?_
  refine g_iconst (v := (nI 1)) C dJ6_bitCount_0f7a4_2 rfl ?_
  refine g_iushr C dJ6_bitCount_0f7a4_3 ?_
  refine g_ldcw (v := (nI 1431655765)) C q3_68 dJ6_bitCount_0f7a4_4 ?_
  refine g_iand C dJ6_bitCount_0f7a4_7 ?_
  refine g_isub C dJ6_bitCount_0f7a4_8 ?_
  obtain ⟨y1, e_y1, hs⟩ := vlet_ex hs
  refine g_topi e_y1 ?_
  refine g_istore_n (lv' := [(0, .int y1)]) C dJ6_bitCount_0f7a4_9 rfl (by decide) rfl ?_
  refine g_iload_n (pl := 0) C dJ6_bitCount_0f7a4_10 rfl rfl ?_
  refine g_ldcw (v := (nI 858993459)) C q3_69 dJ6_bitCount_0f7a4_11 ?_
  refine g_iand C dJ6_bitCount_0f7a4_14 ?_
  refine g_iload_n (pl := 0) C dJ6_bitCount_0f7a4_15 rfl rfl ?_
  refine g_iconst (v := (nI 2)) C dJ6_bitCount_0f7a4_16 rfl ?_
  refine g_iushr C dJ6_bitCount_0f7a4_17 ?_
  refine g_ldcw (v := (nI 858993459)) C q3_69 dJ6_bitCount_0f7a4_18 ?_
  refine g_iand C dJ6_bitCount_0f7a4_21 ?_
  refine g_iadd C dJ6_bitCount_0f7a4_22 ?_
  obtain ⟨y2, e_y2, hs⟩ := vlet_ex hs
  refine g_topi e_y2 ?_
  refine g_istore_n (lv' := [(0, .int y2)]) C dJ6_bitCount_0f7a4_23 rfl (by decide) rfl ?_
  refine g_iload_n (pl := 0) C dJ6_bitCount_0f7a4_24 rfl rfl ?_
  refine g_iload_n (pl := 0) C dJ6_bitCount_0f7a4_25 rfl rfl ?_
  refine g_iconst (v := (nI 4)) C dJ6_bitCount_0f7a4_26 rfl ?_
  refine g_iushr C dJ6_bitCount_0f7a4_27 ?_
  refine g_iadd C dJ6_bitCount_0f7a4_28 ?_
  refine g_ldcw (v := (nI 252645135)) C q3_70 dJ6_bitCount_0f7a4_29 ?_
  refine g_iand C dJ6_bitCount_0f7a4_32 ?_
  obtain ⟨y3, e_y3, hs⟩ := vlet_ex hs
  refine g_topi e_y3 ?_
  refine g_istore_n (lv' := [(0, .int y3)]) C dJ6_bitCount_0f7a4_33 rfl (by decide) rfl ?_
  refine g_iload_n (pl := 0) C dJ6_bitCount_0f7a4_34 rfl rfl ?_
  refine g_iload_n (pl := 0) C dJ6_bitCount_0f7a4_35 rfl rfl ?_
  refine g_bipush (v := (nI 8)) C dJ6_bitCount_0f7a4_36 rfl ?_
  refine g_iushr C dJ6_bitCount_0f7a4_38 ?_
  refine g_iadd C dJ6_bitCount_0f7a4_39 ?_
  obtain ⟨y4, e_y4, hs⟩ := vlet_ex hs
  refine g_topi e_y4 ?_
  refine g_istore_n (lv' := [(0, .int y4)]) C dJ6_bitCount_0f7a4_40 rfl (by decide) rfl ?_
  refine g_iload_n (pl := 0) C dJ6_bitCount_0f7a4_41 rfl rfl ?_
  refine g_iload_n (pl := 0) C dJ6_bitCount_0f7a4_42 rfl rfl ?_
  refine g_bipush (v := (nI 16)) C dJ6_bitCount_0f7a4_43 rfl ?_
  refine g_iushr C dJ6_bitCount_0f7a4_45 ?_
  refine g_iadd C dJ6_bitCount_0f7a4_46 ?_
  obtain ⟨y5, e_y5, hs⟩ := vlet_ex hs
  refine g_topi e_y5 ?_
  refine g_istore_n (lv' := [(0, .int y5)]) C dJ6_bitCount_0f7a4_47 rfl (by decide) rfl ?_
  refine g_iload_n (pl := 0) C dJ6_bitCount_0f7a4_48 rfl rfl ?_
  refine g_bipush (v := (nI 63)) C dJ6_bitCount_0f7a4_49 rfl ?_
  refine g_iand C dJ6_bitCount_0f7a4_51 ?_
  cases hs
  exact hR _ _ dJ6_bitCount_0f7a4_52

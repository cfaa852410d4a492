theorem nkX8_13 : nk RX8 13 0 10 [.null, .null, .null, .null, .int (nI 0), .int (nI 0), .int (nI 0), .int (nI 0), .int (nI 0), .int (nI 0)] := ⟨RX0, TX0, tyX0, rfl, inX0, tyX0_ok, q1_26, q1_27, q1_2, fun j hj => match j, hj with | 0, _ => rfl | 1, _ => rfl | 2, _ => rfl | 3, _ => rfl | 4, _ => rfl | 5, _ => rfl | 6, _ => rfl | 7, _ => rfl | 8, _ => rfl | 9, _ => rfl | k + 10, h => absurd h (by omega)⟩
theorem nkX8_23 : nk RX8 23 4 1 [.null] := ⟨RX4, TX4, tyX4, rfl, inX4, tyX4_ok, q1_64, q1_65, q1_3, fun j hj => match j, hj with | 0, _ => rfl | k + 1, h => absurd h (by omega)⟩
theorem nkX8_33 : nk RX8 33 7 3 [.null, .int (nI 0), .int (nI 0)] := ⟨RX7, TX7, tyX7, rfl, inX7, tyX7_ok, q1_75, q1_76, q1_4, fun j hj => match j, hj with | 0, _ => rfl | 1, _ => rfl | 2, _ => rfl | k + 3, h => absurd h (by omega)⟩
theorem nkX8_45 : nk RX8 45 6 3 [.null, .null, .int (nI 0)] := ⟨RX6, TX6, tyX6, rfl, inX6, tyX6_ok, q1_91, q1_92, q1_5, fun j hj => match j, hj with | 0, _ => rfl | 1, _ => rfl | 2, _ => rfl | k + 3, h => absurd h (by omega)⟩
theorem nkX8_52 : nk RX8 52 3 3 [.null, .int (nI 0), .int (nI 0)] := ⟨RX3, TX3, tyX3, rfl, inX3, tyX3_ok, q1_107, q1_108, q1_6, fun j hj => match j, hj with | 0, _ => rfl | 1, _ => rfl | 2, _ => rfl | k + 3, h => absurd h (by omega)⟩
theorem nkX8_59 : nk RX8 59 5 9 [.null, .null, .null, .null, .null, .null, .int (nI 0), .int (nI 0), .int (nI 0)] := ⟨RX5, TX5, tyX5, rfl, inX5, tyX5_ok, q1_123, q1_124, q1_7, fun j hj => match j, hj with | 0, _ => rfl | 1, _ => rfl | 2, _ => rfl | 3, _ => rfl | 4, _ => rfl | 5, _ => rfl | 6, _ => rfl | 7, _ => rfl | 8, _ => rfl | k + 9, h => absurd h (by omega)⟩
theorem nkX8_66 : nk RX8 66 1 6 [.null, .null, .null, .null, .null, .int (nI 0)] := ⟨RX1, TX1, tyX1, rfl, inX1, tyX1_ok, q1_157, q1_158, q1_8, fun j hj => match j, hj with | 0, _ => rfl | 1, _ => rfl | 2, _ => rfl | 3, _ => rfl | 4, _ => rfl | 5, _ => rfl | k + 6, h => absurd h (by omega)⟩
theorem nkX8_73 : nk RX8 73 2 3 [.null, .null, .int (nI 0)] := ⟨RX2, TX2, tyX2, rfl, inX2, tyX2_ok, q1_182, q1_183, q1_9, fun j hj => match j, hj with | 0, _ => rfl | 1, _ => rfl | 2, _ => rfl | k + 3, h => absurd h (by omega)⟩
abbrev rmX0_init : Room := { frames := 1, cells := 4, slots := 30, locals := 20 }
set_option maxHeartbeats 4000000 in
set_option maxRecDepth 100000 in
theorem cX0_init_ct (l : Launch) (D : va_G) (cI : ClassId) (E : (Nat → Prop) → State → Prop) (EK : EOk E) (h : Nat) : ctN l yX0_init (.code yX0_init cX0_init 1 none :: gtb) rmX0_init D cI E [.ref h] [(h, .inr (0, [.null, .null, .null, .null, .int (nI 0), .int (nI 0), .int (nI 0), .int (nI 0), .int (nI 0), .int (nI 0)]))] 4 30 (fun w1 => ∃ (a_n7 a_n15 a_n23 a_n31 : Nat), w1 = [oX0 h a_n7 a_n15 a_n23 a_n31 (nI 0) (nI 0) (nI 0) (nI 0) (nI 0) (nI 0), aI cI a_n7 8 (fun _ => (0 : Int32)), aI cI a_n15 8 (fun _ => (0 : Int32)), aI cI a_n23 8 (fun _ => (0 : Int32)), aI cI a_n31 6 (fun _ => (0 : Int32))]) := by
  refine ct_ofN (own := RX0) (by decide +kernel) rfl rfl (Nat.le_of_ble_eq_true rfl) (fun X C hD hm hE hR => ?_)
  show gg cI X 1 0 0 [(h, .inr (0, [.null, .null, .null, .null, .int (nI 0), .int (nI 0), .int (nI 0), .int (nI 0), .int (nI 0), .int (nI 0)]))] [(0, .ref h)] 0 []
  refine g_aload_n (pl := 0) C dX0_init_0 rfl rfl ?_
  refine g_objInit C q1_31 q1_24 q1_25 (Nat.le_of_ble_eq_true rfl) (Nat.le_of_ble_eq_true rfl) dX0_init_1 ?_
  refine g_aload_n (pl := 0) C dX0_init_4 rfl rfl ?_
  refine g_bipush (v := (nI 8)) C dX0_init_5 rfl ?_
  refine g_newa (N := 8) C q1_63 (by decide) (by decide) (by decide) (Nat.le_of_ble_eq_true rfl) (Nat.le_of_ble_eq_true rfl) dX0_init_7 (fun a_n7 => ?_)
  show gg cI X 1 1 8 [(h, .inr (0, [.null, .null, .null, .null, .int (nI 0), .int (nI 0), .int (nI 0), .int (nI 0), .int (nI 0), .int (nI 0)])), aI cI a_n7 8 (fun _ => (0 : Int32))] [(0, .ref h)] 9 [.ref a_n7, .ref h]
  refine g_putF (ws' := [(h, .inr (0, [.ref a_n7, .null, .null, .null, .int (nI 0), .int (nI 0), .int (nI 0), .int (nI 0), .int (nI 0), .int (nI 0)])), aI cI a_n7 8 (fun _ => (0 : Int32))]) C hm fX0_9 ⟨_, _, rfl⟩ 0 rfl (Nat.le_of_ble_eq_true rfl) rfl rfl rfl dX0_init_9 ?_
  refine g_aload_n (pl := 0) C dX0_init_12 rfl rfl ?_
  refine g_bipush (v := (nI 8)) C dX0_init_13 rfl ?_
  refine g_newa (N := 8) C q1_63 (by decide) (by decide) (by decide) (Nat.le_of_ble_eq_true rfl) (Nat.le_of_ble_eq_true rfl) dX0_init_15 (fun a_n15 => ?_)
  show gg cI X 1 2 16 [(h, .inr (0, [.ref a_n7, .null, .null, .null, .int (nI 0), .int (nI 0), .int (nI 0), .int (nI 0), .int (nI 0), .int (nI 0)])), aI cI a_n7 8 (fun _ => (0 : Int32)), aI cI a_n15 8 (fun _ => (0 : Int32))] [(0, .ref h)] 17 [.ref a_n15, .ref h]
  refine g_putF (ws' := [(h, .inr (0, [.ref a_n7, .ref a_n15, .null, .null, .int (nI 0), .int (nI 0), .int (nI 0), .int (nI 0), .int (nI 0), .int (nI 0)])), aI cI a_n7 8 (fun _ => (0 : Int32)), aI cI a_n15 8 (fun _ => (0 : Int32))]) C hm fX0_15 ⟨_, _, rfl⟩ 0 rfl (Nat.le_of_ble_eq_true rfl) rfl rfl rfl dX0_init_17 ?_
  refine g_aload_n (pl := 0) C dX0_init_20 rfl rfl ?_
  refine g_bipush (v := (nI 8)) C dX0_init_21 rfl ?_
  refine g_newa (N := 8) C q1_63 (by decide) (by decide) (by decide) (Nat.le_of_ble_eq_true rfl) (Nat.le_of_ble_eq_true rfl) dX0_init_23 (fun a_n23 => ?_)
  show gg cI X 1 3 24 [(h, .inr (0, [.ref a_n7, .ref a_n15, .null, .null, .int (nI 0), .int (nI 0), .int (nI 0), .int (nI 0), .int (nI 0), .int (nI 0)])), aI cI a_n7 8 (fun _ => (0 : Int32)), aI cI a_n15 8 (fun _ => (0 : Int32)), aI cI a_n23 8 (fun _ => (0 : Int32))] [(0, .ref h)] 25 [.ref a_n23, .ref h]
  refine g_putF (ws' := [(h, .inr (0, [.ref a_n7, .ref a_n15, .ref a_n23, .null, .int (nI 0), .int (nI 0), .int (nI 0), .int (nI 0), .int (nI 0), .int (nI 0)])), aI cI a_n7 8 (fun _ => (0 : Int32)), aI cI a_n15 8 (fun _ => (0 : Int32)), aI cI a_n23 8 (fun _ => (0 : Int32))]) C hm fX0_18 ⟨_, _, rfl⟩ 0 rfl (Nat.le_of_ble_eq_true rfl) rfl rfl rfl dX0_init_25 ?_
  refine g_aload_n (pl := 0) C dX0_init_28 rfl rfl ?_
  refine g_bipush (v := (nI 6)) C dX0_init_29 rfl ?_
  refine g_newa (N := 6) C q1_63 (by decide) (by decide) (by decide) (Nat.le_of_ble_eq_true rfl) (Nat.le_of_ble_eq_true rfl) dX0_init_31 (fun a_n31 => ?_)
  show gg cI X 1 4 30 [(h, .inr (0, [.ref a_n7, .ref a_n15, .ref a_n23, .null, .int (nI 0), .int (nI 0), .int (nI 0), .int (nI 0), .int (nI 0), .int (nI 0)])), aI cI a_n7 8 (fun _ => (0 : Int32)), aI cI a_n15 8 (fun _ => (0 : Int32)), aI cI a_n23 8 (fun _ => (0 : Int32)), aI cI a_n31 6 (fun _ => (0 : Int32))] [(0, .ref h)] 33 [.ref a_n31, .ref h]
  refine g_putF (ws' := [oX0 h a_n7 a_n15 a_n23 a_n31 (nI 0) (nI 0) (nI 0) (nI 0) (nI 0) (nI 0), aI cI a_n7 8 (fun _ => (0 : Int32)), aI cI a_n15 8 (fun _ => (0 : Int32)), aI cI a_n23 8 (fun _ => (0 : Int32)), aI cI a_n31 6 (fun _ => (0 : Int32))]) C hm fX0_21 ⟨_, _, rfl⟩ 0 rfl (Nat.le_of_ble_eq_true rfl) rfl rfl rfl dX0_init_33 ?_
  exact hR _ _ _ ⟨a_n7, a_n15, a_n23, a_n31, rfl⟩ dX0_init_36
abbrev rmX1_init : Room := { frames := 1, cells := 5, slots := 72, locals := 20 }
set_option maxHeartbeats 4000000 in
set_option maxRecDepth 100000 in
theorem cX1_init_ct (l : Launch) (D : va_G) (cI : ClassId) (E : (Nat → Prop) → State → Prop) (EK : EOk E) (h : Nat) : ctN l yX1_init (.code yX1_init cX1_init 1 none :: gtb) rmX1_init D cI E [.ref h] [(h, .inr (1, [.null, .null, .null, .null, .null, .int (nI 0)]))] 5 72 (fun w1 => ∃ (a_n6 a_n13 a_n21 a_n29 a_n36 : Nat), w1 = [oX1 h a_n6 a_n13 a_n21 a_n29 a_n36 (nI 0), aI cI a_n6 5 (fun _ => (0 : Int32)), aI cI a_n13 5 (fun _ => (0 : Int32)), aI cI a_n21 25 (fun _ => (0 : Int32)), aI cI a_n29 32 (fun _ => (0 : Int32)), aI cI a_n36 5 (fun _ => (0 : Int32))]) := by
  refine ct_ofN (own := RX1) (by decide +kernel) rfl rfl (Nat.le_of_ble_eq_true rfl) (fun X C hD hm hE hR => ?_)
  show gg cI X 1 0 0 [(h, .inr (1, [.null, .null, .null, .null, .null, .int (nI 0)]))] [(0, .ref h)] 0 []
  refine g_aload_n (pl := 0) C dX1_init_0 rfl rfl ?_
  refine g_objInit C q1_162 q1_24 q1_25 (Nat.le_of_ble_eq_true rfl) (Nat.le_of_ble_eq_true rfl) dX1_init_1 ?_
  refine g_aload_n (pl := 0) C dX1_init_4 rfl rfl ?_
  refine g_iconst (v := (nI 5)) C dX1_init_5 rfl ?_
  refine g_newa (N := 5) C q1_63 (by decide) (by decide) (by decide) (Nat.le_of_ble_eq_true rfl) (Nat.le_of_ble_eq_true rfl) dX1_init_6 (fun a_n6 => ?_)
  show gg cI X 1 1 5 [(h, .inr (1, [.null, .null, .null, .null, .null, .int (nI 0)])), aI cI a_n6 5 (fun _ => (0 : Int32))] [(0, .ref h)] 8 [.ref a_n6, .ref h]
  refine g_putF (ws' := [(h, .inr (1, [.ref a_n6, .null, .null, .null, .null, .int (nI 0)])), aI cI a_n6 5 (fun _ => (0 : Int32))]) C hm fX1_9 ⟨_, _, rfl⟩ 0 rfl (Nat.le_of_ble_eq_true rfl) rfl rfl rfl dX1_init_8 ?_
  refine g_aload_n (pl := 0) C dX1_init_11 rfl rfl ?_
  refine g_iconst (v := (nI 5)) C dX1_init_12 rfl ?_
  refine g_newa (N := 5) C q1_63 (by decide) (by decide) (by decide) (Nat.le_of_ble_eq_true rfl) (Nat.le_of_ble_eq_true rfl) dX1_init_13 (fun a_n13 => ?_)
  show gg cI X 1 2 10 [(h, .inr (1, [.ref a_n6, .null, .null, .null, .null, .int (nI 0)])), aI cI a_n6 5 (fun _ => (0 : Int32)), aI cI a_n13 5 (fun _ => (0 : Int32))] [(0, .ref h)] 15 [.ref a_n13, .ref h]
  refine g_putF (ws' := [(h, .inr (1, [.ref a_n6, .ref a_n13, .null, .null, .null, .int (nI 0)])), aI cI a_n6 5 (fun _ => (0 : Int32)), aI cI a_n13 5 (fun _ => (0 : Int32))]) C hm fX1_15 ⟨_, _, rfl⟩ 0 rfl (Nat.le_of_ble_eq_true rfl) rfl rfl rfl dX1_init_15 ?_
  refine g_aload_n (pl := 0) C dX1_init_18 rfl rfl ?_
  refine g_bipush (v := (nI 25)) C dX1_init_19 rfl ?_
  refine g_newa (N := 25) C q1_63 (by decide) (by decide) (by decide) (Nat.le_of_ble_eq_true rfl) (Nat.le_of_ble_eq_true rfl) dX1_init_21 (fun a_n21 => ?_)
  show gg cI X 1 3 35 [(h, .inr (1, [.ref a_n6, .ref a_n13, .null, .null, .null, .int (nI 0)])), aI cI a_n6 5 (fun _ => (0 : Int32)), aI cI a_n13 5 (fun _ => (0 : Int32)), aI cI a_n21 25 (fun _ => (0 : Int32))] [(0, .ref h)] 23 [.ref a_n21, .ref h]
  refine g_putF (ws' := [(h, .inr (1, [.ref a_n6, .ref a_n13, .ref a_n21, .null, .null, .int (nI 0)])), aI cI a_n6 5 (fun _ => (0 : Int32)), aI cI a_n13 5 (fun _ => (0 : Int32)), aI cI a_n21 25 (fun _ => (0 : Int32))]) C hm fX1_18 ⟨_, _, rfl⟩ 0 rfl (Nat.le_of_ble_eq_true rfl) rfl rfl rfl dX1_init_23 ?_
  refine g_aload_n (pl := 0) C dX1_init_26 rfl rfl ?_
  refine g_bipush (v := (nI 32)) C dX1_init_27 rfl ?_
  refine g_newa (N := 32) C q1_63 (by decide) (by decide) (by decide) (Nat.le_of_ble_eq_true rfl) (Nat.le_of_ble_eq_true rfl) dX1_init_29 (fun a_n29 => ?_)
  show gg cI X 1 4 67 [(h, .inr (1, [.ref a_n6, .ref a_n13, .ref a_n21, .null, .null, .int (nI 0)])), aI cI a_n6 5 (fun _ => (0 : Int32)), aI cI a_n13 5 (fun _ => (0 : Int32)), aI cI a_n21 25 (fun _ => (0 : Int32)), aI cI a_n29 32 (fun _ => (0 : Int32))] [(0, .ref h)] 31 [.ref a_n29, .ref h]
  refine g_putF (ws' := [(h, .inr (1, [.ref a_n6, .ref a_n13, .ref a_n21, .ref a_n29, .null, .int (nI 0)])), aI cI a_n6 5 (fun _ => (0 : Int32)), aI cI a_n13 5 (fun _ => (0 : Int32)), aI cI a_n21 25 (fun _ => (0 : Int32)), aI cI a_n29 32 (fun _ => (0 : Int32))]) C hm fX1_21 ⟨_, _, rfl⟩ 0 rfl (Nat.le_of_ble_eq_true rfl) rfl rfl rfl dX1_init_31 ?_
  refine g_aload_n (pl := 0) C dX1_init_34 rfl rfl ?_
  refine g_iconst (v := (nI 5)) C dX1_init_35 rfl ?_
  refine g_newa (N := 5) C q1_63 (by decide) (by decide) (by decide) (Nat.le_of_ble_eq_true rfl) (Nat.le_of_ble_eq_true rfl) dX1_init_36 (fun a_n36 => ?_)
  show gg cI X 1 5 72 [(h, .inr (1, [.ref a_n6, .ref a_n13, .ref a_n21, .ref a_n29, .null, .int (nI 0)])), aI cI a_n6 5 (fun _ => (0 : Int32)), aI cI a_n13 5 (fun _ => (0 : Int32)), aI cI a_n21 25 (fun _ => (0 : Int32)), aI cI a_n29 32 (fun _ => (0 : Int32)), aI cI a_n36 5 (fun _ => (0 : Int32))] [(0, .ref h)] 38 [.ref a_n36, .ref h]
  refine g_putF (ws' := [oX1 h a_n6 a_n13 a_n21 a_n29 a_n36 (nI 0), aI cI a_n6 5 (fun _ => (0 : Int32)), aI cI a_n13 5 (fun _ => (0 : Int32)), aI cI a_n21 25 (fun _ => (0 : Int32)), aI cI a_n29 32 (fun _ => (0 : Int32)), aI cI a_n36 5 (fun _ => (0 : Int32))]) C hm fX1_24 ⟨_, _, rfl⟩ 0 rfl (Nat.le_of_ble_eq_true rfl) rfl rfl rfl dX1_init_38 ?_
  exact hR _ _ _ ⟨a_n6, a_n13, a_n21, a_n29, a_n36, rfl⟩ dX1_init_41
abbrev rmX2_init : Room := { frames := 1, cells := 2, slots := 10, locals := 20 }
set_option maxHeartbeats 4000000 in
set_option maxRecDepth 100000 in
theorem cX2_init_ct (l : Launch) (D : va_G) (cI : ClassId) (E : (Nat → Prop) → State → Prop) (EK : EOk E) (h : Nat) : ctN l yX2_init (.code yX2_init cX2_init 1 none :: gtb) rmX2_init D cI E [.ref h] [(h, .inr (2, [.null, .null, .int (nI 0)]))] 2 10 (fun w1 => ∃ (a_n6 a_n13 : Nat), w1 = [oX2 h a_n6 a_n13 (nI 0), aI cI a_n6 5 (fun _ => (0 : Int32)), aI cI a_n13 5 (fun _ => (0 : Int32))]) := by
  refine ct_ofN (own := RX2) (by decide +kernel) rfl rfl (Nat.le_of_ble_eq_true rfl) (fun X C hD hm hE hR => ?_)
  show gg cI X 1 0 0 [(h, .inr (2, [.null, .null, .int (nI 0)]))] [(0, .ref h)] 0 []
  refine g_aload_n (pl := 0) C dX2_init_0 rfl rfl ?_
  refine g_objInit C q1_187 q1_24 q1_25 (Nat.le_of_ble_eq_true rfl) (Nat.le_of_ble_eq_true rfl) dX2_init_1 ?_
  refine g_aload_n (pl := 0) C dX2_init_4 rfl rfl ?_
  refine g_iconst (v := (nI 5)) C dX2_init_5 rfl ?_
  refine g_newa (N := 5) C q1_63 (by decide) (by decide) (by decide) (Nat.le_of_ble_eq_true rfl) (Nat.le_of_ble_eq_true rfl) dX2_init_6 (fun a_n6 => ?_)
  show gg cI X 1 1 5 [(h, .inr (2, [.null, .null, .int (nI 0)])), aI cI a_n6 5 (fun _ => (0 : Int32))] [(0, .ref h)] 8 [.ref a_n6, .ref h]
  refine g_putF (ws' := [(h, .inr (2, [.ref a_n6, .null, .int (nI 0)])), aI cI a_n6 5 (fun _ => (0 : Int32))]) C hm fX2_9 ⟨_, _, rfl⟩ 0 rfl (Nat.le_of_ble_eq_true rfl) rfl rfl rfl dX2_init_8 ?_
  refine g_aload_n (pl := 0) C dX2_init_11 rfl rfl ?_
  refine g_iconst (v := (nI 5)) C dX2_init_12 rfl ?_
  refine g_newa (N := 5) C q1_63 (by decide) (by decide) (by decide) (Nat.le_of_ble_eq_true rfl) (Nat.le_of_ble_eq_true rfl) dX2_init_13 (fun a_n13 => ?_)
  show gg cI X 1 2 10 [(h, .inr (2, [.ref a_n6, .null, .int (nI 0)])), aI cI a_n6 5 (fun _ => (0 : Int32)), aI cI a_n13 5 (fun _ => (0 : Int32))] [(0, .ref h)] 15 [.ref a_n13, .ref h]
  refine g_putF (ws' := [oX2 h a_n6 a_n13 (nI 0), aI cI a_n6 5 (fun _ => (0 : Int32)), aI cI a_n13 5 (fun _ => (0 : Int32))]) C hm fX2_15 ⟨_, _, rfl⟩ 0 rfl (Nat.le_of_ble_eq_true rfl) rfl rfl rfl dX2_init_15 ?_
  exact hR _ _ _ ⟨a_n6, a_n13, rfl⟩ dX2_init_18
abbrev rmX3_init : Room := { frames := 1, cells := 1, slots := 0, locals := 20 }
set_option maxHeartbeats 4000000 in
set_option maxRecDepth 100000 in
theorem cX3_init_ct (l : Launch) (D : va_G) (cI : ClassId) (E : (Nat → Prop) → State → Prop) (EK : EOk E) (h : Nat) : ctN l yX3_init (.code yX3_init cX3_init 1 none :: gtb) rmX3_init D cI E [.ref h] [(h, .inr (3, [.null, .int (nI 0), .int (nI 0)]))] 1 0 (fun w1 => ∃ (a_n6 : Nat), w1 = [oX3 h a_n6 (nI 0) (nI 0), aI cI a_n6 0 (fun _ => (0 : Int32))]) := by
  refine ct_ofN (own := RX3) (by decide +kernel) rfl rfl (Nat.le_of_ble_eq_true rfl) (fun X C hD hm hE hR => ?_)
  show gg cI X 1 0 0 [(h, .inr (3, [.null, .int (nI 0), .int (nI 0)]))] [(0, .ref h)] 0 []
  refine g_aload_n (pl := 0) C dX3_init_0 rfl rfl ?_
  refine g_objInit C q1_112 q1_24 q1_25 (Nat.le_of_ble_eq_true rfl) (Nat.le_of_ble_eq_true rfl) dX3_init_1 ?_
  refine g_aload_n (pl := 0) C dX3_init_4 rfl rfl ?_
  refine g_iconst (v := (nI 0)) C dX3_init_5 rfl ?_
  refine g_newa (N := 0) C q1_63 (by decide) (by decide) (by decide) (Nat.le_of_ble_eq_true rfl) (Nat.le_of_ble_eq_true rfl) dX3_init_6 (fun a_n6 => ?_)
  show gg cI X 1 1 0 [(h, .inr (3, [.null, .int (nI 0), .int (nI 0)])), aI cI a_n6 0 (fun _ => (0 : Int32))] [(0, .ref h)] 8 [.ref a_n6, .ref h]
  refine g_putR (ws' := [oX3 h a_n6 (nI 0) (nI 0), aI cI a_n6 0 (fun _ => (0 : Int32))]) C fX3_9 0 rfl (Nat.le_of_ble_eq_true rfl) rfl rfl rfl dX3_init_8 ?_
  exact hR _ _ _ ⟨a_n6, rfl⟩ dX3_init_11
abbrev rmX4_init : Room := { frames := 1, cells := 1, slots := 55, locals := 20 }
set_option maxHeartbeats 4000000 in
set_option maxRecDepth 100000 in
theorem cX4_init_ct (l : Launch) (D : va_G) (cI : ClassId) (E : (Nat → Prop) → State → Prop) (EK : EOk E) (h : Nat) : ctN l yX4_init (.code yX4_init cX4_init 1 none :: gtb) rmX4_init D cI E [.ref h] [(h, .inr (4, [.null]))] 1 55 (fun w1 => ∃ (a_n7 : Nat), w1 = [oX4 h a_n7, aI cI a_n7 55 (fun _ => (0 : Int32))]) := by
  refine ct_ofN (own := RX4) (by decide +kernel) rfl rfl (Nat.le_of_ble_eq_true rfl) (fun X C hD hm hE hR => ?_)
  show gg cI X 1 0 0 [(h, .inr (4, [.null]))] [(0, .ref h)] 0 []
  refine g_aload_n (pl := 0) C dX4_init_0 rfl rfl ?_
  refine g_objInit C q1_69 q1_24 q1_25 (Nat.le_of_ble_eq_true rfl) (Nat.le_of_ble_eq_true rfl) dX4_init_1 ?_
  refine g_aload_n (pl := 0) C dX4_init_4 rfl rfl ?_
  refine g_bipush (v := (nI 55)) C dX4_init_5 rfl ?_
  refine g_newa (N := 55) C q1_63 (by decide) (by decide) (by decide) (Nat.le_of_ble_eq_true rfl) (Nat.le_of_ble_eq_true rfl) dX4_init_7 (fun a_n7 => ?_)
  show gg cI X 1 1 55 [(h, .inr (4, [.null])), aI cI a_n7 55 (fun _ => (0 : Int32))] [(0, .ref h)] 9 [.ref a_n7, .ref h]
  refine g_putF (ws' := [oX4 h a_n7, aI cI a_n7 55 (fun _ => (0 : Int32))]) C hm fX4_9 ⟨_, _, rfl⟩ 0 rfl (Nat.le_of_ble_eq_true rfl) rfl rfl rfl dX4_init_9 ?_
  exact hR _ _ _ ⟨a_n7, rfl⟩ dX4_init_12
abbrev rmX5_init : Room := { frames := 1, cells := 6, slots := 202, locals := 20 }
set_option maxHeartbeats 4000000 in
set_option maxRecDepth 100000 in
theorem cX5_init_ct (l : Launch) (D : va_G) (cI : ClassId) (E : (Nat → Prop) → State → Prop) (EK : EOk E) (h : Nat) : ctN l yX5_init (.code yX5_init cX5_init 1 none :: gtb) rmX5_init D cI E [.ref h] [(h, .inr (5, [.null, .null, .null, .null, .null, .null, .int (nI 0), .int (nI 0), .int (nI 0)]))] 6 202 (fun w1 => ∃ (a_n7 a_n15 a_n23 a_n30 a_n38 a_n46 : Nat), w1 = [oX5 h a_n7 a_n15 a_n23 a_n30 a_n38 a_n46 (nI 0) (nI 0) (nI 0), aI cI a_n7 15 (fun _ => (0 : Int32)), aI cI a_n15 120 (fun _ => (0 : Int32)), aI cI a_n23 32 (fun _ => (0 : Int32)), aI cI a_n30 3 (fun _ => (0 : Int32)), aI cI a_n38 8 (fun _ => (0 : Int32)), aI cI a_n46 24 (fun _ => (0 : Int32))]) := by
  refine ct_ofN (own := RX5) (by decide +kernel) rfl rfl (Nat.le_of_ble_eq_true rfl) (fun X C hD hm hE hR => ?_)
  show gg cI X 1 0 0 [(h, .inr (5, [.null, .null, .null, .null, .null, .null, .int (nI 0), .int (nI 0), .int (nI 0)]))] [(0, .ref h)] 0 []
  refine g_aload_n (pl := 0) C dX5_init_0 rfl rfl ?_
  refine g_objInit C q1_128 q1_24 q1_25 (Nat.le_of_ble_eq_true rfl) (Nat.le_of_ble_eq_true rfl) dX5_init_1 ?_
  refine g_aload_n (pl := 0) C dX5_init_4 rfl rfl ?_
  refine g_bipush (v := (nI 15)) C dX5_init_5 rfl ?_
  refine g_newa (N := 15) C q1_63 (by decide) (by decide) (by decide) (Nat.le_of_ble_eq_true rfl) (Nat.le_of_ble_eq_true rfl) dX5_init_7 (fun a_n7 => ?_)
  show gg cI X 1 1 15 [(h, .inr (5, [.null, .null, .null, .null, .null, .null, .int (nI 0), .int (nI 0), .int (nI 0)])), aI cI a_n7 15 (fun _ => (0 : Int32))] [(0, .ref h)] 9 [.ref a_n7, .ref h]
  refine g_putF (ws' := [(h, .inr (5, [.ref a_n7, .null, .null, .null, .null, .null, .int (nI 0), .int (nI 0), .int (nI 0)])), aI cI a_n7 15 (fun _ => (0 : Int32))]) C hm fX5_9 ⟨_, _, rfl⟩ 0 rfl (Nat.le_of_ble_eq_true rfl) rfl rfl rfl dX5_init_9 ?_
  refine g_aload_n (pl := 0) C dX5_init_12 rfl rfl ?_
  refine g_bipush (v := (nI 120)) C dX5_init_13 rfl ?_
  refine g_newa (N := 120) C q1_63 (by decide) (by decide) (by decide) (Nat.le_of_ble_eq_true rfl) (Nat.le_of_ble_eq_true rfl) dX5_init_15 (fun a_n15 => ?_)
  show gg cI X 1 2 135 [(h, .inr (5, [.ref a_n7, .null, .null, .null, .null, .null, .int (nI 0), .int (nI 0), .int (nI 0)])), aI cI a_n7 15 (fun _ => (0 : Int32)), aI cI a_n15 120 (fun _ => (0 : Int32))] [(0, .ref h)] 17 [.ref a_n15, .ref h]
  refine g_putF (ws' := [(h, .inr (5, [.ref a_n7, .ref a_n15, .null, .null, .null, .null, .int (nI 0), .int (nI 0), .int (nI 0)])), aI cI a_n7 15 (fun _ => (0 : Int32)), aI cI a_n15 120 (fun _ => (0 : Int32))]) C hm fX5_15 ⟨_, _, rfl⟩ 0 rfl (Nat.le_of_ble_eq_true rfl) rfl rfl rfl dX5_init_17 ?_
  refine g_aload_n (pl := 0) C dX5_init_20 rfl rfl ?_
  refine g_bipush (v := (nI 32)) C dX5_init_21 rfl ?_
  refine g_newa (N := 32) C q1_63 (by decide) (by decide) (by decide) (Nat.le_of_ble_eq_true rfl) (Nat.le_of_ble_eq_true rfl) dX5_init_23 (fun a_n23 => ?_)
  show gg cI X 1 3 167 [(h, .inr (5, [.ref a_n7, .ref a_n15, .null, .null, .null, .null, .int (nI 0), .int (nI 0), .int (nI 0)])), aI cI a_n7 15 (fun _ => (0 : Int32)), aI cI a_n15 120 (fun _ => (0 : Int32)), aI cI a_n23 32 (fun _ => (0 : Int32))] [(0, .ref h)] 25 [.ref a_n23, .ref h]
  refine g_putF (ws' := [(h, .inr (5, [.ref a_n7, .ref a_n15, .ref a_n23, .null, .null, .null, .int (nI 0), .int (nI 0), .int (nI 0)])), aI cI a_n7 15 (fun _ => (0 : Int32)), aI cI a_n15 120 (fun _ => (0 : Int32)), aI cI a_n23 32 (fun _ => (0 : Int32))]) C hm fX5_18 ⟨_, _, rfl⟩ 0 rfl (Nat.le_of_ble_eq_true rfl) rfl rfl rfl dX5_init_25 ?_
  refine g_aload_n (pl := 0) C dX5_init_28 rfl rfl ?_
  refine g_iconst (v := (nI 3)) C dX5_init_29 rfl ?_
  refine g_newa (N := 3) C q1_63 (by decide) (by decide) (by decide) (Nat.le_of_ble_eq_true rfl) (Nat.le_of_ble_eq_true rfl) dX5_init_30 (fun a_n30 => ?_)
  show gg cI X 1 4 170 [(h, .inr (5, [.ref a_n7, .ref a_n15, .ref a_n23, .null, .null, .null, .int (nI 0), .int (nI 0), .int (nI 0)])), aI cI a_n7 15 (fun _ => (0 : Int32)), aI cI a_n15 120 (fun _ => (0 : Int32)), aI cI a_n23 32 (fun _ => (0 : Int32)), aI cI a_n30 3 (fun _ => (0 : Int32))] [(0, .ref h)] 32 [.ref a_n30, .ref h]
  refine g_putF (ws' := [(h, .inr (5, [.ref a_n7, .ref a_n15, .ref a_n23, .ref a_n30, .null, .null, .int (nI 0), .int (nI 0), .int (nI 0)])), aI cI a_n7 15 (fun _ => (0 : Int32)), aI cI a_n15 120 (fun _ => (0 : Int32)), aI cI a_n23 32 (fun _ => (0 : Int32)), aI cI a_n30 3 (fun _ => (0 : Int32))]) C hm fX5_21 ⟨_, _, rfl⟩ 0 rfl (Nat.le_of_ble_eq_true rfl) rfl rfl rfl dX5_init_32 ?_
  refine g_aload_n (pl := 0) C dX5_init_35 rfl rfl ?_
  refine g_bipush (v := (nI 8)) C dX5_init_36 rfl ?_
  refine g_newa (N := 8) C q1_63 (by decide) (by decide) (by decide) (Nat.le_of_ble_eq_true rfl) (Nat.le_of_ble_eq_true rfl) dX5_init_38 (fun a_n38 => ?_)
  show gg cI X 1 5 178 [(h, .inr (5, [.ref a_n7, .ref a_n15, .ref a_n23, .ref a_n30, .null, .null, .int (nI 0), .int (nI 0), .int (nI 0)])), aI cI a_n7 15 (fun _ => (0 : Int32)), aI cI a_n15 120 (fun _ => (0 : Int32)), aI cI a_n23 32 (fun _ => (0 : Int32)), aI cI a_n30 3 (fun _ => (0 : Int32)), aI cI a_n38 8 (fun _ => (0 : Int32))] [(0, .ref h)] 40 [.ref a_n38, .ref h]
  refine g_putF (ws' := [(h, .inr (5, [.ref a_n7, .ref a_n15, .ref a_n23, .ref a_n30, .ref a_n38, .null, .int (nI 0), .int (nI 0), .int (nI 0)])), aI cI a_n7 15 (fun _ => (0 : Int32)), aI cI a_n15 120 (fun _ => (0 : Int32)), aI cI a_n23 32 (fun _ => (0 : Int32)), aI cI a_n30 3 (fun _ => (0 : Int32)), aI cI a_n38 8 (fun _ => (0 : Int32))]) C hm fX5_24 ⟨_, _, rfl⟩ 0 rfl (Nat.le_of_ble_eq_true rfl) rfl rfl rfl dX5_init_40 ?_
  refine g_aload_n (pl := 0) C dX5_init_43 rfl rfl ?_
  refine g_bipush (v := (nI 24)) C dX5_init_44 rfl ?_
  refine g_newa (N := 24) C q1_63 (by decide) (by decide) (by decide) (Nat.le_of_ble_eq_true rfl) (Nat.le_of_ble_eq_true rfl) dX5_init_46 (fun a_n46 => ?_)
  show gg cI X 1 6 202 [(h, .inr (5, [.ref a_n7, .ref a_n15, .ref a_n23, .ref a_n30, .ref a_n38, .null, .int (nI 0), .int (nI 0), .int (nI 0)])), aI cI a_n7 15 (fun _ => (0 : Int32)), aI cI a_n15 120 (fun _ => (0 : Int32)), aI cI a_n23 32 (fun _ => (0 : Int32)), aI cI a_n30 3 (fun _ => (0 : Int32)), aI cI a_n38 8 (fun _ => (0 : Int32)), aI cI a_n46 24 (fun _ => (0 : Int32))] [(0, .ref h)] 48 [.ref a_n46, .ref h]
  refine g_putF (ws' := [oX5 h a_n7 a_n15 a_n23 a_n30 a_n38 a_n46 (nI 0) (nI 0) (nI 0), aI cI a_n7 15 (fun _ => (0 : Int32)), aI cI a_n15 120 (fun _ => (0 : Int32)), aI cI a_n23 32 (fun _ => (0 : Int32)), aI cI a_n30 3 (fun _ => (0 : Int32)), aI cI a_n38 8 (fun _ => (0 : Int32)), aI cI a_n46 24 (fun _ => (0 : Int32))]) C hm fX5_27 ⟨_, _, rfl⟩ 0 rfl (Nat.le_of_ble_eq_true rfl) rfl rfl rfl dX5_init_48 ?_
  exact hR _ _ _ ⟨a_n7, a_n15, a_n23, a_n30, a_n38, a_n46, rfl⟩ dX5_init_51
abbrev rmX6_init : Room := { frames := 1, cells := 2, slots := 12, locals := 20 }
set_option maxHeartbeats 4000000 in
set_option maxRecDepth 100000 in
theorem cX6_init_ct (l : Launch) (D : va_G) (cI : ClassId) (E : (Nat → Prop) → State → Prop) (EK : EOk E) (h : Nat) : ctN l yX6_init (.code yX6_init cX6_init 1 none :: gtb) rmX6_init D cI E [.ref h] [(h, .inr (6, [.null, .null, .int (nI 0)]))] 2 12 (fun w1 => ∃ (a_n7 a_n15 : Nat), w1 = [oX6 h a_n7 a_n15 (nI 0), aI cI a_n7 6 (fun _ => (0 : Int32)), aI cI a_n15 6 (fun _ => (0 : Int32))]) := by
  refine ct_ofN (own := RX6) (by decide +kernel) rfl rfl (Nat.le_of_ble_eq_true rfl) (fun X C hD hm hE hR => ?_)
  show gg cI X 1 0 0 [(h, .inr (6, [.null, .null, .int (nI 0)]))] [(0, .ref h)] 0 []
  refine g_aload_n (pl := 0) C dX6_init_0 rfl rfl ?_
  refine g_objInit C q1_96 q1_24 q1_25 (Nat.le_of_ble_eq_true rfl) (Nat.le_of_ble_eq_true rfl) dX6_init_1 ?_
  refine g_aload_n (pl := 0) C dX6_init_4 rfl rfl ?_
  refine g_bipush (v := (nI 6)) C dX6_init_5 rfl ?_
  refine g_newa (N := 6) C q1_63 (by decide) (by decide) (by decide) (Nat.le_of_ble_eq_true rfl) (Nat.le_of_ble_eq_true rfl) dX6_init_7 (fun a_n7 => ?_)
  show gg cI X 1 1 6 [(h, .inr (6, [.null, .null, .int (nI 0)])), aI cI a_n7 6 (fun _ => (0 : Int32))] [(0, .ref h)] 9 [.ref a_n7, .ref h]
  refine g_putF (ws' := [(h, .inr (6, [.ref a_n7, .null, .int (nI 0)])), aI cI a_n7 6 (fun _ => (0 : Int32))]) C hm fX6_9 ⟨_, _, rfl⟩ 0 rfl (Nat.le_of_ble_eq_true rfl) rfl rfl rfl dX6_init_9 ?_
  refine g_aload_n (pl := 0) C dX6_init_12 rfl rfl ?_
  refine g_bipush (v := (nI 6)) C dX6_init_13 rfl ?_
  refine g_newa (N := 6) C q1_63 (by decide) (by decide) (by decide) (Nat.le_of_ble_eq_true rfl) (Nat.le_of_ble_eq_true rfl) dX6_init_15 (fun a_n15 => ?_)
  show gg cI X 1 2 12 [(h, .inr (6, [.ref a_n7, .null, .int (nI 0)])), aI cI a_n7 6 (fun _ => (0 : Int32)), aI cI a_n15 6 (fun _ => (0 : Int32))] [(0, .ref h)] 17 [.ref a_n15, .ref h]
  refine g_putF (ws' := [oX6 h a_n7 a_n15 (nI 0), aI cI a_n7 6 (fun _ => (0 : Int32)), aI cI a_n15 6 (fun _ => (0 : Int32))]) C hm fX6_15 ⟨_, _, rfl⟩ 0 rfl (Nat.le_of_ble_eq_true rfl) rfl rfl rfl dX6_init_17 ?_
  exact hR _ _ _ ⟨a_n7, a_n15, rfl⟩ dX6_init_20
abbrev rmX7_init_8 : Room := { frames := 1, cells := 1, slots := 440, locals := 20 }
set_option maxHeartbeats 4000000 in
set_option maxRecDepth 100000 in
theorem cX7_init_8_ct (l : Launch) (D : va_G) (cI : ClassId) (E : (Nat → Prop) → State → Prop) (EK : EOk E) (h : Nat) : ctN l yX7_init (.code yX7_init cX7_init 2 none :: gtb) rmX7_init_8 D cI E [.ref h, .int (nI 8)] [(h, .inr (7, [.null, .int (nI 0), .int (nI 0)]))] 1 440 (fun w1 => ∃ (a_n25 : Nat), w1 = [oX7 h a_n25 (nI 8) (nI 0), aI cI a_n25 440 (fun _ => (0 : Int32))]) := by
  refine ct_ofN (own := RX7) (by decide +kernel) rfl rfl (Nat.le_of_ble_eq_true rfl) (fun X C hD hm hE hR => ?_)
  show gg cI X 2 0 0 [(h, .inr (7, [.null, .int (nI 0), .int (nI 0)]))] [(0, .ref h), (1, .int (nI 8))] 0 []
  refine g_aload_n (pl := 0) C dX7_init_0 rfl rfl ?_
  refine g_objInit C q1_80 q1_24 q1_25 (Nat.le_of_ble_eq_true rfl) (Nat.le_of_ble_eq_true rfl) dX7_init_1 ?_
  refine g_aload_n (pl := 0) C dX7_init_4 rfl rfl ?_
  refine g_iload_n (pl := 1) C dX7_init_5 rfl rfl ?_
  refine g_if_le (tgt := 13) C dX7_init_6 (by decide) (fun c1 => ?_) (fun c1 => ?_)
  · exact absurd c1 (by decide)
  refine g_iload_n (pl := 1) C dX7_init_9 rfl rfl ?_
  refine g_goto (tgt := 14) C dX7_init_10 (by decide) ?_
  refine g_putF (ws' := [(h, .inr (7, [.null, .int (nI 8), .int (nI 0)]))]) C hm fX7_9 ⟨_, _, rfl⟩ 0 rfl (Nat.le_of_ble_eq_true rfl) rfl rfl rfl dX7_init_14 ?_
  refine g_aload_n (pl := 0) C dX7_init_17 rfl rfl ?_
  refine g_aload_n (pl := 0) C dX7_init_18 rfl rfl ?_
  refine g_get C fX7_9 0 rfl rfl dX7_init_19 ?_
  refine g_bipush (v := (nI 55)) C dX7_init_22 rfl ?_
  refine g_imul C dX7_init_24 ?_
  refine g_newa (N := 440) C q1_63 (by decide) (by decide) (by decide) (Nat.le_of_ble_eq_true rfl) (Nat.le_of_ble_eq_true rfl) dX7_init_25 (fun a_n25 => ?_)
  show gg cI X 2 1 440 [(h, .inr (7, [.null, .int (nI 8), .int (nI 0)])), aI cI a_n25 440 (fun _ => (0 : Int32))] [(0, .ref h), (1, .int (nI 8))] 27 [.ref a_n25, .ref h]
  refine g_putF (ws' := [oX7 h a_n25 (nI 8) (nI 0), aI cI a_n25 440 (fun _ => (0 : Int32))]) C hm fX7_15 ⟨_, _, rfl⟩ 0 rfl (Nat.le_of_ble_eq_true rfl) rfl rfl rfl dX7_init_27 ?_
  exact hR _ _ _ ⟨a_n25, rfl⟩ dX7_init_30
abbrev rmX7_init_2 : Room := { frames := 1, cells := 1, slots := 110, locals := 20 }
set_option maxHeartbeats 4000000 in
set_option maxRecDepth 100000 in
theorem cX7_init_2_ct (l : Launch) (D : va_G) (cI : ClassId) (E : (Nat → Prop) → State → Prop) (EK : EOk E) (h : Nat) : ctN l yX7_init (.code yX7_init cX7_init 2 none :: gtb) rmX7_init_2 D cI E [.ref h, .int (nI 2)] [(h, .inr (7, [.null, .int (nI 0), .int (nI 0)]))] 1 110 (fun w1 => ∃ (a_n25 : Nat), w1 = [oX7 h a_n25 (nI 2) (nI 0), aI cI a_n25 110 (fun _ => (0 : Int32))]) := by
  refine ct_ofN (own := RX7) (by decide +kernel) rfl rfl (Nat.le_of_ble_eq_true rfl) (fun X C hD hm hE hR => ?_)
  show gg cI X 2 0 0 [(h, .inr (7, [.null, .int (nI 0), .int (nI 0)]))] [(0, .ref h), (1, .int (nI 2))] 0 []
  refine g_aload_n (pl := 0) C dX7_init_0 rfl rfl ?_
  refine g_objInit C q1_80 q1_24 q1_25 (Nat.le_of_ble_eq_true rfl) (Nat.le_of_ble_eq_true rfl) dX7_init_1 ?_
  refine g_aload_n (pl := 0) C dX7_init_4 rfl rfl ?_
  refine g_iload_n (pl := 1) C dX7_init_5 rfl rfl ?_
  refine g_if_le (tgt := 13) C dX7_init_6 (by decide) (fun c1 => ?_) (fun c1 => ?_)
  · exact absurd c1 (by decide)
  refine g_iload_n (pl := 1) C dX7_init_9 rfl rfl ?_
  refine g_goto (tgt := 14) C dX7_init_10 (by decide) ?_
  refine g_putF (ws' := [(h, .inr (7, [.null, .int (nI 2), .int (nI 0)]))]) C hm fX7_9 ⟨_, _, rfl⟩ 0 rfl (Nat.le_of_ble_eq_true rfl) rfl rfl rfl dX7_init_14 ?_
  refine g_aload_n (pl := 0) C dX7_init_17 rfl rfl ?_
  refine g_aload_n (pl := 0) C dX7_init_18 rfl rfl ?_
  refine g_get C fX7_9 0 rfl rfl dX7_init_19 ?_
  refine g_bipush (v := (nI 55)) C dX7_init_22 rfl ?_
  refine g_imul C dX7_init_24 ?_
  refine g_newa (N := 110) C q1_63 (by decide) (by decide) (by decide) (Nat.le_of_ble_eq_true rfl) (Nat.le_of_ble_eq_true rfl) dX7_init_25 (fun a_n25 => ?_)
  show gg cI X 2 1 110 [(h, .inr (7, [.null, .int (nI 2), .int (nI 0)])), aI cI a_n25 110 (fun _ => (0 : Int32))] [(0, .ref h), (1, .int (nI 2))] 27 [.ref a_n25, .ref h]
  refine g_putF (ws' := [oX7 h a_n25 (nI 2) (nI 0), aI cI a_n25 110 (fun _ => (0 : Int32))]) C hm fX7_15 ⟨_, _, rfl⟩ 0 rfl (Nat.le_of_ble_eq_true rfl) rfl rfl rfl dX7_init_27 ?_
  exact hR _ _ _ ⟨a_n25, rfl⟩ dX7_init_30
def sX9_init : Option (Int32 × Int32 × Int32 × (Nat → Int32) × (Nat → Int32)) :=
  vlet (upd (fun _ => (0 : Int32)) (Int32.toNatClampNeg (nI 3)) (nI 128)) fun u1 =>
  vlet (upd u1 (Int32.toNatClampNeg (nI 4)) (nI 3)) fun u2 =>
  vlet (upd u2 (Int32.toNatClampNeg (nI 5)) (nI 2)) fun u3 =>
  vlet (upd u3 (Int32.toNatClampNeg (nI 6)) (nI 2)) fun u4 =>
  vb (sX9_word u4 (nI 5) (nI 2) (nI 3)) fun z5 =>
  vb (sX9_word z5 (nI 3) (nI 3) (nI 7)) fun z6 =>
  vb (sX9_word z6 (nI 7) (nI 1) (nI 8)) fun z7 =>
  vb (sX9_word z7 (nI 2) (nI 2) (nI 24)) fun z8 =>
  vb (sX9_word z8 (nI 4) (nI 2) (nI 33)) fun z9 =>
  vb (sX9_word z9 (nI 6) (nI 1) (nI 4)) fun z10 =>
  vlet (upd z10 (Int32.toNatClampNeg (nI 1)) (nI 4)) fun u11 =>
  vlet (upd u11 (Int32.toNatClampNeg (nI 31)) (nI 3)) fun u12 =>
  vlet (upd u12 (Int32.toNatClampNeg (nI 32)) (nI 12)) fun u13 =>
  vlet (upd u13 (Int32.toNatClampNeg (nI 33)) (nI 16)) fun u14 =>
  vlet (upd u14 (Int32.toNatClampNeg (nI 34)) (nI 36)) fun u15 =>
  vb (sX9_actor u15 (nI 0) (nI 0) (nI 20)) fun z16 =>
  vb (sX9_actor z16 (nI 1) (nI 3) (nI 9)) fun z17 =>
  vb (sX9_actor z17 (nI 2) (nI 4) (nI 30)) fun z18 =>
  vb (sX9_actor z18 (nI 3) (nI 1) (nI 15)) fun z19 =>
  vb (sX9_begins z19 (fun _ => (0 : Int32)) (nI 0) (nI 0) (nI 0)) fun z20 =>
  some (z20.2.1, z20.2.2.1, z20.2.2.2, z19, z20.1)
abbrev rmX9_init : Room := { frames := 1, cells := 16, slots := 980, locals := 24 }
set_option maxHeartbeats 4000000 in
set_option maxRecDepth 100000 in
theorem cX9_init_ct (l : Launch) (D : va_G) (cI : ClassId) (E : (Nat → Prop) → State → Prop) (EK : EOk E) (h : Nat) {z : Int32 × Int32 × Int32 × (Nat → Int32) × (Nat → Int32)} (hs : sX9_init = some z) : ctN l yX9_init (.code yX9_init cX9_init 1 none :: gtb) rmX9_init D cI E [.ref h] [(h, .inr (9, [.null, .null, .null, .null, .null, .int (nI 0), .null, .int (nI 0), .null, .int (nI 0), .null, .int (nI 0), .int (nI 0), .int (nI 0), .null, .null, .long (lN 0), .long (lN 0), .int (nI 0), .null, .null, .null, .null, .null, .null]))] 16 980 (fun w1 => ∃ (a_n7 a_n15 a_n23 a_n31 a_n40 a_n48 a_n56 a_n65 a_n73 a_n81 a_n88 a_n95 a_n102 a_n109 a_n117 a_n124 : Nat), w1 = [oX9 h a_n7 a_n15 a_n23 a_n31 a_n40 z.1 a_n48 z.2.1 a_n56 z.2.2.1 a_n65 (nI 0) (nI 0) (nI 0) a_n73 a_n81 (lN 0) (lN 0) (nI 0) a_n88 a_n95 a_n102 a_n109 a_n117 a_n124, aI cI a_n7 52 z.2.2.2.1, aI cI a_n15 52 (fun _ => (0 : Int32)), aI cI a_n23 50 z.2.2.2.2, aI cI a_n31 50 (fun _ => (0 : Int32)), aI cI a_n40 400 (fun _ => (0 : Int32)), aI cI a_n48 100 (fun _ => (0 : Int32)), aI cI a_n56 12 (fun _ => (0 : Int32)), aI cI a_n65 200 (fun _ => (0 : Int32)), aI cI a_n73 8 (fun _ => (0 : Int32)), aI cI a_n81 8 (fun _ => (0 : Int32)), aI cI a_n88 3 (fun _ => (0 : Int32)), aI cI a_n95 5 (fun _ => (0 : Int32)), aI cI a_n102 5 (fun _ => (0 : Int32)), aI cI a_n109 5 (fun _ => (0 : Int32)), aI cI a_n117 25 (fun _ => (0 : Int32)), aI cI a_n124 5 (fun _ => (0 : Int32))]) := by
  refine ct_ofN (own := RX9) (by decide +kernel) rfl rfl (Nat.le_of_ble_eq_true rfl) (fun X C hD hm hE hR => ?_)
  unfold sX9_init at hs
  show gg cI X 1 0 0 [(h, .inr (9, [.null, .null, .null, .null, .null, .int (nI 0), .null, .int (nI 0), .null, .int (nI 0), .null, .int (nI 0), .int (nI 0), .int (nI 0), .null, .null, .long (lN 0), .long (lN 0), .int (nI 0), .null, .null, .null, .null, .null, .null]))] [(0, .ref h)] 0 []
  refine g_aload_n (pl := 0) C dX9_init_0 rfl rfl ?_
  refine g_objInit C q4_104 q1_24 q1_25 (Nat.le_of_ble_eq_true rfl) (Nat.le_of_ble_eq_true rfl) dX9_init_1 ?_
  refine g_aload_n (pl := 0) C dX9_init_4 rfl rfl ?_
  refine g_bipush (v := (nI 52)) C dX9_init_5 rfl ?_
  refine g_newa (N := 52) C q1_63 (by decide) (by decide) (by decide) (Nat.le_of_ble_eq_true rfl) (Nat.le_of_ble_eq_true rfl) dX9_init_7 (fun a_n7 => ?_)
  show gg cI X 1 1 52 [(h, .inr (9, [.null, .null, .null, .null, .null, .int (nI 0), .null, .int (nI 0), .null, .int (nI 0), .null, .int (nI 0), .int (nI 0), .int (nI 0), .null, .null, .long (lN 0), .long (lN 0), .int (nI 0), .null, .null, .null, .null, .null, .null])), aI cI a_n7 52 (fun _ => (0 : Int32))] [(0, .ref h)] 9 [.ref a_n7, .ref h]
  refine g_putF (ws' := [(h, .inr (9, [.ref a_n7, .null, .null, .null, .null, .int (nI 0), .null, .int (nI 0), .null, .int (nI 0), .null, .int (nI 0), .int (nI 0), .int (nI 0), .null, .null, .long (lN 0), .long (lN 0), .int (nI 0), .null, .null, .null, .null, .null, .null])), aI cI a_n7 52 (fun _ => (0 : Int32))]) C hm fX9_7 ⟨_, _, rfl⟩ 0 rfl (Nat.le_of_ble_eq_true rfl) rfl rfl rfl dX9_init_9 ?_
  refine g_aload_n (pl := 0) C dX9_init_12 rfl rfl ?_
  refine g_bipush (v := (nI 52)) C dX9_init_13 rfl ?_
  refine g_newa (N := 52) C q1_63 (by decide) (by decide) (by decide) (Nat.le_of_ble_eq_true rfl) (Nat.le_of_ble_eq_true rfl) dX9_init_15 (fun a_n15 => ?_)
  show gg cI X 1 2 104 [(h, .inr (9, [.ref a_n7, .null, .null, .null, .null, .int (nI 0), .null, .int (nI 0), .null, .int (nI 0), .null, .int (nI 0), .int (nI 0), .int (nI 0), .null, .null, .long (lN 0), .long (lN 0), .int (nI 0), .null, .null, .null, .null, .null, .null])), aI cI a_n7 52 (fun _ => (0 : Int32)), aI cI a_n15 52 (fun _ => (0 : Int32))] [(0, .ref h)] 17 [.ref a_n15, .ref h]
  refine g_putF (ws' := [(h, .inr (9, [.ref a_n7, .ref a_n15, .null, .null, .null, .int (nI 0), .null, .int (nI 0), .null, .int (nI 0), .null, .int (nI 0), .int (nI 0), .int (nI 0), .null, .null, .long (lN 0), .long (lN 0), .int (nI 0), .null, .null, .null, .null, .null, .null])), aI cI a_n7 52 (fun _ => (0 : Int32)), aI cI a_n15 52 (fun _ => (0 : Int32))]) C hm fX9_13 ⟨_, _, rfl⟩ 0 rfl (Nat.le_of_ble_eq_true rfl) rfl rfl rfl dX9_init_17 ?_
  refine g_aload_n (pl := 0) C dX9_init_20 rfl rfl ?_
  refine g_bipush (v := (nI 50)) C dX9_init_21 rfl ?_
  refine g_newa (N := 50) C q1_63 (by decide) (by decide) (by decide) (Nat.le_of_ble_eq_true rfl) (Nat.le_of_ble_eq_true rfl) dX9_init_23 (fun a_n23 => ?_)
  show gg cI X 1 3 154 [(h, .inr (9, [.ref a_n7, .ref a_n15, .null, .null, .null, .int (nI 0), .null, .int (nI 0), .null, .int (nI 0), .null, .int (nI 0), .int (nI 0), .int (nI 0), .null, .null, .long (lN 0), .long (lN 0), .int (nI 0), .null, .null, .null, .null, .null, .null])), aI cI a_n7 52 (fun _ => (0 : Int32)), aI cI a_n15 52 (fun _ => (0 : Int32)), aI cI a_n23 50 (fun _ => (0 : Int32))] [(0, .ref h)] 25 [.ref a_n23, .ref h]
  refine g_putF (ws' := [(h, .inr (9, [.ref a_n7, .ref a_n15, .ref a_n23, .null, .null, .int (nI 0), .null, .int (nI 0), .null, .int (nI 0), .null, .int (nI 0), .int (nI 0), .int (nI 0), .null, .null, .long (lN 0), .long (lN 0), .int (nI 0), .null, .null, .null, .null, .null, .null])), aI cI a_n7 52 (fun _ => (0 : Int32)), aI cI a_n15 52 (fun _ => (0 : Int32)), aI cI a_n23 50 (fun _ => (0 : Int32))]) C hm fX9_16 ⟨_, _, rfl⟩ 0 rfl (Nat.le_of_ble_eq_true rfl) rfl rfl rfl dX9_init_25 ?_
  refine g_aload_n (pl := 0) C dX9_init_28 rfl rfl ?_
  refine g_bipush (v := (nI 50)) C dX9_init_29 rfl ?_
  refine g_newa (N := 50) C q1_63 (by decide) (by decide) (by decide) (Nat.le_of_ble_eq_true rfl) (Nat.le_of_ble_eq_true rfl) dX9_init_31 (fun a_n31 => ?_)
  show gg cI X 1 4 204 [(h, .inr (9, [.ref a_n7, .ref a_n15, .ref a_n23, .null, .null, .int (nI 0), .null, .int (nI 0), .null, .int (nI 0), .null, .int (nI 0), .int (nI 0), .int (nI 0), .null, .null, .long (lN 0), .long (lN 0), .int (nI 0), .null, .null, .null, .null, .null, .null])), aI cI a_n7 52 (fun _ => (0 : Int32)), aI cI a_n15 52 (fun _ => (0 : Int32)), aI cI a_n23 50 (fun _ => (0 : Int32)), aI cI a_n31 50 (fun _ => (0 : Int32))] [(0, .ref h)] 33 [.ref a_n31, .ref h]
  refine g_putF (ws' := [(h, .inr (9, [.ref a_n7, .ref a_n15, .ref a_n23, .ref a_n31, .null, .int (nI 0), .null, .int (nI 0), .null, .int (nI 0), .null, .int (nI 0), .int (nI 0), .int (nI 0), .null, .null, .long (lN 0), .long (lN 0), .int (nI 0), .null, .null, .null, .null, .null, .null])), aI cI a_n7 52 (fun _ => (0 : Int32)), aI cI a_n15 52 (fun _ => (0 : Int32)), aI cI a_n23 50 (fun _ => (0 : Int32)), aI cI a_n31 50 (fun _ => (0 : Int32))]) C hm fX9_19 ⟨_, _, rfl⟩ 0 rfl (Nat.le_of_ble_eq_true rfl) rfl rfl rfl dX9_init_33 ?_
  refine g_aload_n (pl := 0) C dX9_init_36 rfl rfl ?_
  refine g_sipush (v := (nI 400)) C dX9_init_37 rfl ?_
  refine g_newa (N := 400) C q1_63 (by decide) (by decide) (by decide) (Nat.le_of_ble_eq_true rfl) (Nat.le_of_ble_eq_true rfl) dX9_init_40 (fun a_n40 => ?_)
  show gg cI X 1 5 604 [(h, .inr (9, [.ref a_n7, .ref a_n15, .ref a_n23, .ref a_n31, .null, .int (nI 0), .null, .int (nI 0), .null, .int (nI 0), .null, .int (nI 0), .int (nI 0), .int (nI 0), .null, .null, .long (lN 0), .long (lN 0), .int (nI 0), .null, .null, .null, .null, .null, .null])), aI cI a_n7 52 (fun _ => (0 : Int32)), aI cI a_n15 52 (fun _ => (0 : Int32)), aI cI a_n23 50 (fun _ => (0 : Int32)), aI cI a_n31 50 (fun _ => (0 : Int32)), aI cI a_n40 400 (fun _ => (0 : Int32))] [(0, .ref h)] 42 [.ref a_n40, .ref h]
  refine g_putF (ws' := [(h, .inr (9, [.ref a_n7, .ref a_n15, .ref a_n23, .ref a_n31, .ref a_n40, .int (nI 0), .null, .int (nI 0), .null, .int (nI 0), .null, .int (nI 0), .int (nI 0), .int (nI 0), .null, .null, .long (lN 0), .long (lN 0), .int (nI 0), .null, .null, .null, .null, .null, .null])), aI cI a_n7 52 (fun _ => (0 : Int32)), aI cI a_n15 52 (fun _ => (0 : Int32)), aI cI a_n23 50 (fun _ => (0 : Int32)), aI cI a_n31 50 (fun _ => (0 : Int32)), aI cI a_n40 400 (fun _ => (0 : Int32))]) C hm fX9_22 ⟨_, _, rfl⟩ 0 rfl (Nat.le_of_ble_eq_true rfl) rfl rfl rfl dX9_init_42 ?_
  refine g_aload_n (pl := 0) C dX9_init_45 rfl rfl ?_
  refine g_bipush (v := (nI 100)) C dX9_init_46 rfl ?_
  refine g_newa (N := 100) C q1_63 (by decide) (by decide) (by decide) (Nat.le_of_ble_eq_true rfl) (Nat.le_of_ble_eq_true rfl) dX9_init_48 (fun a_n48 => ?_)
  show gg cI X 1 6 704 [(h, .inr (9, [.ref a_n7, .ref a_n15, .ref a_n23, .ref a_n31, .ref a_n40, .int (nI 0), .null, .int (nI 0), .null, .int (nI 0), .null, .int (nI 0), .int (nI 0), .int (nI 0), .null, .null, .long (lN 0), .long (lN 0), .int (nI 0), .null, .null, .null, .null, .null, .null])), aI cI a_n7 52 (fun _ => (0 : Int32)), aI cI a_n15 52 (fun _ => (0 : Int32)), aI cI a_n23 50 (fun _ => (0 : Int32)), aI cI a_n31 50 (fun _ => (0 : Int32)), aI cI a_n40 400 (fun _ => (0 : Int32)), aI cI a_n48 100 (fun _ => (0 : Int32))] [(0, .ref h)] 50 [.ref a_n48, .ref h]
  refine g_putF (ws' := [(h, .inr (9, [.ref a_n7, .ref a_n15, .ref a_n23, .ref a_n31, .ref a_n40, .int (nI 0), .ref a_n48, .int (nI 0), .null, .int (nI 0), .null, .int (nI 0), .int (nI 0), .int (nI 0), .null, .null, .long (lN 0), .long (lN 0), .int (nI 0), .null, .null, .null, .null, .null, .null])), aI cI a_n7 52 (fun _ => (0 : Int32)), aI cI a_n15 52 (fun _ => (0 : Int32)), aI cI a_n23 50 (fun _ => (0 : Int32)), aI cI a_n31 50 (fun _ => (0 : Int32)), aI cI a_n40 400 (fun _ => (0 : Int32)), aI cI a_n48 100 (fun _ => (0 : Int32))]) C hm fX9_25 ⟨_, _, rfl⟩ 0 rfl (Nat.le_of_ble_eq_true rfl) rfl rfl rfl dX9_init_50 ?_
  refine g_aload_n (pl := 0) C dX9_init_53 rfl rfl ?_
  refine g_bipush (v := (nI 12)) C dX9_init_54 rfl ?_
  refine g_newa (N := 12) C q1_63 (by decide) (by decide) (by decide) (Nat.le_of_ble_eq_true rfl) (Nat.le_of_ble_eq_true rfl) dX9_init_56 (fun a_n56 => ?_)
  show gg cI X 1 7 716 [(h, .inr (9, [.ref a_n7, .ref a_n15, .ref a_n23, .ref a_n31, .ref a_n40, .int (nI 0), .ref a_n48, .int (nI 0), .null, .int (nI 0), .null, .int (nI 0), .int (nI 0), .int (nI 0), .null, .null, .long (lN 0), .long (lN 0), .int (nI 0), .null, .null, .null, .null, .null, .null])), aI cI a_n7 52 (fun _ => (0 : Int32)), aI cI a_n15 52 (fun _ => (0 : Int32)), aI cI a_n23 50 (fun _ => (0 : Int32)), aI cI a_n31 50 (fun _ => (0 : Int32)), aI cI a_n40 400 (fun _ => (0 : Int32)), aI cI a_n48 100 (fun _ => (0 : Int32)), aI cI a_n56 12 (fun _ => (0 : Int32))] [(0, .ref h)] 58 [.ref a_n56, .ref h]
  refine g_putF (ws' := [(h, .inr (9, [.ref a_n7, .ref a_n15, .ref a_n23, .ref a_n31, .ref a_n40, .int (nI 0), .ref a_n48, .int (nI 0), .ref a_n56, .int (nI 0), .null, .int (nI 0), .int (nI 0), .int (nI 0), .null, .null, .long (lN 0), .long (lN 0), .int (nI 0), .null, .null, .null, .null, .null, .null])), aI cI a_n7 52 (fun _ => (0 : Int32)), aI cI a_n15 52 (fun _ => (0 : Int32)), aI cI a_n23 50 (fun _ => (0 : Int32)), aI cI a_n31 50 (fun _ => (0 : Int32)), aI cI a_n40 400 (fun _ => (0 : Int32)), aI cI a_n48 100 (fun _ => (0 : Int32)), aI cI a_n56 12 (fun _ => (0 : Int32))]) C hm fX9_28 ⟨_, _, rfl⟩ 0 rfl (Nat.le_of_ble_eq_true rfl) rfl rfl rfl dX9_init_58 ?_
  refine g_aload_n (pl := 0) C dX9_init_61 rfl rfl ?_
  refine g_sipush (v := (nI 200)) C dX9_init_62 rfl ?_
  refine g_newa (N := 200) C q1_63 (by decide) (by decide) (by decide) (Nat.le_of_ble_eq_true rfl) (Nat.le_of_ble_eq_true rfl) dX9_init_65 (fun a_n65 => ?_)
  show gg cI X 1 8 916 [(h, .inr (9, [.ref a_n7, .ref a_n15, .ref a_n23, .ref a_n31, .ref a_n40, .int (nI 0), .ref a_n48, .int (nI 0), .ref a_n56, .int (nI 0), .null, .int (nI 0), .int (nI 0), .int (nI 0), .null, .null, .long (lN 0), .long (lN 0), .int (nI 0), .null, .null, .null, .null, .null, .null])), aI cI a_n7 52 (fun _ => (0 : Int32)), aI cI a_n15 52 (fun _ => (0 : Int32)), aI cI a_n23 50 (fun _ => (0 : Int32)), aI cI a_n31 50 (fun _ => (0 : Int32)), aI cI a_n40 400 (fun _ => (0 : Int32)), aI cI a_n48 100 (fun _ => (0 : Int32)), aI cI a_n56 12 (fun _ => (0 : Int32)), aI cI a_n65 200 (fun _ => (0 : Int32))] [(0, .ref h)] 67 [.ref a_n65, .ref h]
  refine g_putF (ws' := [(h, .inr (9, [.ref a_n7, .ref a_n15, .ref a_n23, .ref a_n31, .ref a_n40, .int (nI 0), .ref a_n48, .int (nI 0), .ref a_n56, .int (nI 0), .ref a_n65, .int (nI 0), .int (nI 0), .int (nI 0), .null, .null, .long (lN 0), .long (lN 0), .int (nI 0), .null, .null, .null, .null, .null, .null])), aI cI a_n7 52 (fun _ => (0 : Int32)), aI cI a_n15 52 (fun _ => (0 : Int32)), aI cI a_n23 50 (fun _ => (0 : Int32)), aI cI a_n31 50 (fun _ => (0 : Int32)), aI cI a_n40 400 (fun _ => (0 : Int32)), aI cI a_n48 100 (fun _ => (0 : Int32)), aI cI a_n56 12 (fun _ => (0 : Int32)), aI cI a_n65 200 (fun _ => (0 : Int32))]) C hm fX9_31 ⟨_, _, rfl⟩ 0 rfl (Nat.le_of_ble_eq_true rfl) rfl rfl rfl dX9_init_67 ?_
  refine g_aload_n (pl := 0) C dX9_init_70 rfl rfl ?_
  refine g_bipush (v := (nI 8)) C dX9_init_71 rfl ?_
  refine g_newa (N := 8) C q1_63 (by decide) (by decide) (by decide) (Nat.le_of_ble_eq_true rfl) (Nat.le_of_ble_eq_true rfl) dX9_init_73 (fun a_n73 => ?_)
  show gg cI X 1 9 924 [(h, .inr (9, [.ref a_n7, .ref a_n15, .ref a_n23, .ref a_n31, .ref a_n40, .int (nI 0), .ref a_n48, .int (nI 0), .ref a_n56, .int (nI 0), .ref a_n65, .int (nI 0), .int (nI 0), .int (nI 0), .null, .null, .long (lN 0), .long (lN 0), .int (nI 0), .null, .null, .null, .null, .null, .null])), aI cI a_n7 52 (fun _ => (0 : Int32)), aI cI a_n15 52 (fun _ => (0 : Int32)), aI cI a_n23 50 (fun _ => (0 : Int32)), aI cI a_n31 50 (fun _ => (0 : Int32)), aI cI a_n40 400 (fun _ => (0 : Int32)), aI cI a_n48 100 (fun _ => (0 : Int32)), aI cI a_n56 12 (fun _ => (0 : Int32)), aI cI a_n65 200 (fun _ => (0 : Int32)), aI cI a_n73 8 (fun _ => (0 : Int32))] [(0, .ref h)] 75 [.ref a_n73, .ref h]
  refine g_putF (ws' := [(h, .inr (9, [.ref a_n7, .ref a_n15, .ref a_n23, .ref a_n31, .ref a_n40, .int (nI 0), .ref a_n48, .int (nI 0), .ref a_n56, .int (nI 0), .ref a_n65, .int (nI 0), .int (nI 0), .int (nI 0), .ref a_n73, .null, .long (lN 0), .long (lN 0), .int (nI 0), .null, .null, .null, .null, .null, .null])), aI cI a_n7 52 (fun _ => (0 : Int32)), aI cI a_n15 52 (fun _ => (0 : Int32)), aI cI a_n23 50 (fun _ => (0 : Int32)), aI cI a_n31 50 (fun _ => (0 : Int32)), aI cI a_n40 400 (fun _ => (0 : Int32)), aI cI a_n48 100 (fun _ => (0 : Int32)), aI cI a_n56 12 (fun _ => (0 : Int32)), aI cI a_n65 200 (fun _ => (0 : Int32)), aI cI a_n73 8 (fun _ => (0 : Int32))]) C hm fX9_34 ⟨_, _, rfl⟩ 0 rfl (Nat.le_of_ble_eq_true rfl) rfl rfl rfl dX9_init_75 ?_
  refine g_aload_n (pl := 0) C dX9_init_78 rfl rfl ?_
  refine g_bipush (v := (nI 8)) C dX9_init_79 rfl ?_
  refine g_newa (N := 8) C q1_63 (by decide) (by decide) (by decide) (Nat.le_of_ble_eq_true rfl) (Nat.le_of_ble_eq_true rfl) dX9_init_81 (fun a_n81 => ?_)
  show gg cI X 1 10 932 [(h, .inr (9, [.ref a_n7, .ref a_n15, .ref a_n23, .ref a_n31, .ref a_n40, .int (nI 0), .ref a_n48, .int (nI 0), .ref a_n56, .int (nI 0), .ref a_n65, .int (nI 0), .int (nI 0), .int (nI 0), .ref a_n73, .null, .long (lN 0), .long (lN 0), .int (nI 0), .null, .null, .null, .null, .null, .null])), aI cI a_n7 52 (fun _ => (0 : Int32)), aI cI a_n15 52 (fun _ => (0 : Int32)), aI cI a_n23 50 (fun _ => (0 : Int32)), aI cI a_n31 50 (fun _ => (0 : Int32)), aI cI a_n40 400 (fun _ => (0 : Int32)), aI cI a_n48 100 (fun _ => (0 : Int32)), aI cI a_n56 12 (fun _ => (0 : Int32)), aI cI a_n65 200 (fun _ => (0 : Int32)), aI cI a_n73 8 (fun _ => (0 : Int32)), aI cI a_n81 8 (fun _ => (0 : Int32))] [(0, .ref h)] 83 [.ref a_n81, .ref h]
  refine g_putF (ws' := [(h, .inr (9, [.ref a_n7, .ref a_n15, .ref a_n23, .ref a_n31, .ref a_n40, .int (nI 0), .ref a_n48, .int (nI 0), .ref a_n56, .int (nI 0), .ref a_n65, .int (nI 0), .int (nI 0), .int (nI 0), .ref a_n73, .ref a_n81, .long (lN 0), .long (lN 0), .int (nI 0), .null, .null, .null, .null, .null, .null])), aI cI a_n7 52 (fun _ => (0 : Int32)), aI cI a_n15 52 (fun _ => (0 : Int32)), aI cI a_n23 50 (fun _ => (0 : Int32)), aI cI a_n31 50 (fun _ => (0 : Int32)), aI cI a_n40 400 (fun _ => (0 : Int32)), aI cI a_n48 100 (fun _ => (0 : Int32)), aI cI a_n56 12 (fun _ => (0 : Int32)), aI cI a_n65 200 (fun _ => (0 : Int32)), aI cI a_n73 8 (fun _ => (0 : Int32)), aI cI a_n81 8 (fun _ => (0 : Int32))]) C hm fX9_37 ⟨_, _, rfl⟩ 0 rfl (Nat.le_of_ble_eq_true rfl) rfl rfl rfl dX9_init_83 ?_
  refine g_aload_n (pl := 0) C dX9_init_86 rfl rfl ?_
  refine g_iconst (v := (nI 3)) C dX9_init_87 rfl ?_
  refine g_newa (N := 3) C q1_63 (by decide) (by decide) (by decide) (Nat.le_of_ble_eq_true rfl) (Nat.le_of_ble_eq_true rfl) dX9_init_88 (fun a_n88 => ?_)
  show gg cI X 1 11 935 [(h, .inr (9, [.ref a_n7, .ref a_n15, .ref a_n23, .ref a_n31, .ref a_n40, .int (nI 0), .ref a_n48, .int (nI 0), .ref a_n56, .int (nI 0), .ref a_n65, .int (nI 0), .int (nI 0), .int (nI 0), .ref a_n73, .ref a_n81, .long (lN 0), .long (lN 0), .int (nI 0), .null, .null, .null, .null, .null, .null])), aI cI a_n7 52 (fun _ => (0 : Int32)), aI cI a_n15 52 (fun _ => (0 : Int32)), aI cI a_n23 50 (fun _ => (0 : Int32)), aI cI a_n31 50 (fun _ => (0 : Int32)), aI cI a_n40 400 (fun _ => (0 : Int32)), aI cI a_n48 100 (fun _ => (0 : Int32)), aI cI a_n56 12 (fun _ => (0 : Int32)), aI cI a_n65 200 (fun _ => (0 : Int32)), aI cI a_n73 8 (fun _ => (0 : Int32)), aI cI a_n81 8 (fun _ => (0 : Int32)), aI cI a_n88 3 (fun _ => (0 : Int32))] [(0, .ref h)] 90 [.ref a_n88, .ref h]
  refine g_putF (ws' := [(h, .inr (9, [.ref a_n7, .ref a_n15, .ref a_n23, .ref a_n31, .ref a_n40, .int (nI 0), .ref a_n48, .int (nI 0), .ref a_n56, .int (nI 0), .ref a_n65, .int (nI 0), .int (nI 0), .int (nI 0), .ref a_n73, .ref a_n81, .long (lN 0), .long (lN 0), .int (nI 0), .ref a_n88, .null, .null, .null, .null, .null])), aI cI a_n7 52 (fun _ => (0 : Int32)), aI cI a_n15 52 (fun _ => (0 : Int32)), aI cI a_n23 50 (fun _ => (0 : Int32)), aI cI a_n31 50 (fun _ => (0 : Int32)), aI cI a_n40 400 (fun _ => (0 : Int32)), aI cI a_n48 100 (fun _ => (0 : Int32)), aI cI a_n56 12 (fun _ => (0 : Int32)), aI cI a_n65 200 (fun _ => (0 : Int32)), aI cI a_n73 8 (fun _ => (0 : Int32)), aI cI a_n81 8 (fun _ => (0 : Int32)), aI cI a_n88 3 (fun _ => (0 : Int32))]) C hm fX9_40 ⟨_, _, rfl⟩ 0 rfl (Nat.le_of_ble_eq_true rfl) rfl rfl rfl dX9_init_90 ?_
  refine g_aload_n (pl := 0) C dX9_init_93 rfl rfl ?_
  refine g_iconst (v := (nI 5)) C dX9_init_94 rfl ?_
  refine g_newa (N := 5) C q1_63 (by decide) (by decide) (by decide) (Nat.le_of_ble_eq_true rfl) (Nat.le_of_ble_eq_true rfl) dX9_init_95 (fun a_n95 => ?_)
  show gg cI X 1 12 940 [(h, .inr (9, [.ref a_n7, .ref a_n15, .ref a_n23, .ref a_n31, .ref a_n40, .int (nI 0), .ref a_n48, .int (nI 0), .ref a_n56, .int (nI 0), .ref a_n65, .int (nI 0), .int (nI 0), .int (nI 0), .ref a_n73, .ref a_n81, .long (lN 0), .long (lN 0), .int (nI 0), .ref a_n88, .null, .null, .null, .null, .null])), aI cI a_n7 52 (fun _ => (0 : Int32)), aI cI a_n15 52 (fun _ => (0 : Int32)), aI cI a_n23 50 (fun _ => (0 : Int32)), aI cI a_n31 50 (fun _ => (0 : Int32)), aI cI a_n40 400 (fun _ => (0 : Int32)), aI cI a_n48 100 (fun _ => (0 : Int32)), aI cI a_n56 12 (fun _ => (0 : Int32)), aI cI a_n65 200 (fun _ => (0 : Int32)), aI cI a_n73 8 (fun _ => (0 : Int32)), aI cI a_n81 8 (fun _ => (0 : Int32)), aI cI a_n88 3 (fun _ => (0 : Int32)), aI cI a_n95 5 (fun _ => (0 : Int32))] [(0, .ref h)] 97 [.ref a_n95, .ref h]
  refine g_putF (ws' := [(h, .inr (9, [.ref a_n7, .ref a_n15, .ref a_n23, .ref a_n31, .ref a_n40, .int (nI 0), .ref a_n48, .int (nI 0), .ref a_n56, .int (nI 0), .ref a_n65, .int (nI 0), .int (nI 0), .int (nI 0), .ref a_n73, .ref a_n81, .long (lN 0), .long (lN 0), .int (nI 0), .ref a_n88, .ref a_n95, .null, .null, .null, .null])), aI cI a_n7 52 (fun _ => (0 : Int32)), aI cI a_n15 52 (fun _ => (0 : Int32)), aI cI a_n23 50 (fun _ => (0 : Int32)), aI cI a_n31 50 (fun _ => (0 : Int32)), aI cI a_n40 400 (fun _ => (0 : Int32)), aI cI a_n48 100 (fun _ => (0 : Int32)), aI cI a_n56 12 (fun _ => (0 : Int32)), aI cI a_n65 200 (fun _ => (0 : Int32)), aI cI a_n73 8 (fun _ => (0 : Int32)), aI cI a_n81 8 (fun _ => (0 : Int32)), aI cI a_n88 3 (fun _ => (0 : Int32)), aI cI a_n95 5 (fun _ => (0 : Int32))]) C hm fX9_43 ⟨_, _, rfl⟩ 0 rfl (Nat.le_of_ble_eq_true rfl) rfl rfl rfl dX9_init_97 ?_
  refine g_aload_n (pl := 0) C dX9_init_100 rfl rfl ?_
  refine g_iconst (v := (nI 5)) C dX9_init_101 rfl ?_
  refine g_newa (N := 5) C q1_63 (by decide) (by decide) (by decide) (Nat.le_of_ble_eq_true rfl) (Nat.le_of_ble_eq_true rfl) dX9_init_102 (fun a_n102 => ?_)
  show gg cI X 1 13 945 [(h, .inr (9, [.ref a_n7, .ref a_n15, .ref a_n23, .ref a_n31, .ref a_n40, .int (nI 0), .ref a_n48, .int (nI 0), .ref a_n56, .int (nI 0), .ref a_n65, .int (nI 0), .int (nI 0), .int (nI 0), .ref a_n73, .ref a_n81, .long (lN 0), .long (lN 0), .int (nI 0), .ref a_n88, .ref a_n95, .null, .null, .null, .null])), aI cI a_n7 52 (fun _ => (0 : Int32)), aI cI a_n15 52 (fun _ => (0 : Int32)), aI cI a_n23 50 (fun _ => (0 : Int32)), aI cI a_n31 50 (fun _ => (0 : Int32)), aI cI a_n40 400 (fun _ => (0 : Int32)), aI cI a_n48 100 (fun _ => (0 : Int32)), aI cI a_n56 12 (fun _ => (0 : Int32)), aI cI a_n65 200 (fun _ => (0 : Int32)), aI cI a_n73 8 (fun _ => (0 : Int32)), aI cI a_n81 8 (fun _ => (0 : Int32)), aI cI a_n88 3 (fun _ => (0 : Int32)), aI cI a_n95 5 (fun _ => (0 : Int32)), aI cI a_n102 5 (fun _ => (0 : Int32))] [(0, .ref h)] 104 [.ref a_n102, .ref h]
  refine g_putF (ws' := [(h, .inr (9, [.ref a_n7, .ref a_n15, .ref a_n23, .ref a_n31, .ref a_n40, .int (nI 0), .ref a_n48, .int (nI 0), .ref a_n56, .int (nI 0), .ref a_n65, .int (nI 0), .int (nI 0), .int (nI 0), .ref a_n73, .ref a_n81, .long (lN 0), .long (lN 0), .int (nI 0), .ref a_n88, .ref a_n95, .ref a_n102, .null, .null, .null])), aI cI a_n7 52 (fun _ => (0 : Int32)), aI cI a_n15 52 (fun _ => (0 : Int32)), aI cI a_n23 50 (fun _ => (0 : Int32)), aI cI a_n31 50 (fun _ => (0 : Int32)), aI cI a_n40 400 (fun _ => (0 : Int32)), aI cI a_n48 100 (fun _ => (0 : Int32)), aI cI a_n56 12 (fun _ => (0 : Int32)), aI cI a_n65 200 (fun _ => (0 : Int32)), aI cI a_n73 8 (fun _ => (0 : Int32)), aI cI a_n81 8 (fun _ => (0 : Int32)), aI cI a_n88 3 (fun _ => (0 : Int32)), aI cI a_n95 5 (fun _ => (0 : Int32)), aI cI a_n102 5 (fun _ => (0 : Int32))]) C hm fX9_46 ⟨_, _, rfl⟩ 0 rfl (Nat.le_of_ble_eq_true rfl) rfl rfl rfl dX9_init_104 ?_
  refine g_aload_n (pl := 0) C dX9_init_107 rfl rfl ?_
  refine g_iconst (v := (nI 5)) C dX9_init_108 rfl ?_
  refine g_newa (N := 5) C q1_63 (by decide) (by decide) (by decide) (Nat.le_of_ble_eq_true rfl) (Nat.le_of_ble_eq_true rfl) dX9_init_109 (fun a_n109 => ?_)
  show gg cI X 1 14 950 [(h, .inr (9, [.ref a_n7, .ref a_n15, .ref a_n23, .ref a_n31, .ref a_n40, .int (nI 0), .ref a_n48, .int (nI 0), .ref a_n56, .int (nI 0), .ref a_n65, .int (nI 0), .int (nI 0), .int (nI 0), .ref a_n73, .ref a_n81, .long (lN 0), .long (lN 0), .int (nI 0), .ref a_n88, .ref a_n95, .ref a_n102, .null, .null, .null])), aI cI a_n7 52 (fun _ => (0 : Int32)), aI cI a_n15 52 (fun _ => (0 : Int32)), aI cI a_n23 50 (fun _ => (0 : Int32)), aI cI a_n31 50 (fun _ => (0 : Int32)), aI cI a_n40 400 (fun _ => (0 : Int32)), aI cI a_n48 100 (fun _ => (0 : Int32)), aI cI a_n56 12 (fun _ => (0 : Int32)), aI cI a_n65 200 (fun _ => (0 : Int32)), aI cI a_n73 8 (fun _ => (0 : Int32)), aI cI a_n81 8 (fun _ => (0 : Int32)), aI cI a_n88 3 (fun _ => (0 : Int32)), aI cI a_n95 5 (fun _ => (0 : Int32)), aI cI a_n102 5 (fun _ => (0 : Int32)), aI cI a_n109 5 (fun _ => (0 : Int32))] [(0, .ref h)] 111 [.ref a_n109, .ref h]
  refine g_putF (ws' := [(h, .inr (9, [.ref a_n7, .ref a_n15, .ref a_n23, .ref a_n31, .ref a_n40, .int (nI 0), .ref a_n48, .int (nI 0), .ref a_n56, .int (nI 0), .ref a_n65, .int (nI 0), .int (nI 0), .int (nI 0), .ref a_n73, .ref a_n81, .long (lN 0), .long (lN 0), .int (nI 0), .ref a_n88, .ref a_n95, .ref a_n102, .ref a_n109, .null, .null])), aI cI a_n7 52 (fun _ => (0 : Int32)), aI cI a_n15 52 (fun _ => (0 : Int32)), aI cI a_n23 50 (fun _ => (0 : Int32)), aI cI a_n31 50 (fun _ => (0 : Int32)), aI cI a_n40 400 (fun _ => (0 : Int32)), aI cI a_n48 100 (fun _ => (0 : Int32)), aI cI a_n56 12 (fun _ => (0 : Int32)), aI cI a_n65 200 (fun _ => (0 : Int32)), aI cI a_n73 8 (fun _ => (0 : Int32)), aI cI a_n81 8 (fun _ => (0 : Int32)), aI cI a_n88 3 (fun _ => (0 : Int32)), aI cI a_n95 5 (fun _ => (0 : Int32)), aI cI a_n102 5 (fun _ => (0 : Int32)), aI cI a_n109 5 (fun _ => (0 : Int32))]) C hm fX9_49 ⟨_, _, rfl⟩ 0 rfl (Nat.le_of_ble_eq_true rfl) rfl rfl rfl dX9_init_111 ?_
  refine g_aload_n (pl := 0) C dX9_init_114 rfl rfl ?_
  refine g_bipush (v := (nI 25)) C dX9_init_115 rfl ?_
  refine g_newa (N := 25) C q1_63 (by decide) (by decide) (by decide) (Nat.le_of_ble_eq_true rfl) (Nat.le_of_ble_eq_true rfl) dX9_init_117 (fun a_n117 => ?_)
  show gg cI X 1 15 975 [(h, .inr (9, [.ref a_n7, .ref a_n15, .ref a_n23, .ref a_n31, .ref a_n40, .int (nI 0), .ref a_n48, .int (nI 0), .ref a_n56, .int (nI 0), .ref a_n65, .int (nI 0), .int (nI 0), .int (nI 0), .ref a_n73, .ref a_n81, .long (lN 0), .long (lN 0), .int (nI 0), .ref a_n88, .ref a_n95, .ref a_n102, .ref a_n109, .null, .null])), aI cI a_n7 52 (fun _ => (0 : Int32)), aI cI a_n15 52 (fun _ => (0 : Int32)), aI cI a_n23 50 (fun _ => (0 : Int32)), aI cI a_n31 50 (fun _ => (0 : Int32)), aI cI a_n40 400 (fun _ => (0 : Int32)), aI cI a_n48 100 (fun _ => (0 : Int32)), aI cI a_n56 12 (fun _ => (0 : Int32)), aI cI a_n65 200 (fun _ => (0 : Int32)), aI cI a_n73 8 (fun _ => (0 : Int32)), aI cI a_n81 8 (fun _ => (0 : Int32)), aI cI a_n88 3 (fun _ => (0 : Int32)), aI cI a_n95 5 (fun _ => (0 : Int32)), aI cI a_n102 5 (fun _ => (0 : Int32)), aI cI a_n109 5 (fun _ => (0 : Int32)), aI cI a_n117 25 (fun _ => (0 : Int32))] [(0, .ref h)] 119 [.ref a_n117, .ref h]
  refine g_putF (ws' := [(h, .inr (9, [.ref a_n7, .ref a_n15, .ref a_n23, .ref a_n31, .ref a_n40, .int (nI 0), .ref a_n48, .int (nI 0), .ref a_n56, .int (nI 0), .ref a_n65, .int (nI 0), .int (nI 0), .int (nI 0), .ref a_n73, .ref a_n81, .long (lN 0), .long (lN 0), .int (nI 0), .ref a_n88, .ref a_n95, .ref a_n102, .ref a_n109, .ref a_n117, .null])), aI cI a_n7 52 (fun _ => (0 : Int32)), aI cI a_n15 52 (fun _ => (0 : Int32)), aI cI a_n23 50 (fun _ => (0 : Int32)), aI cI a_n31 50 (fun _ => (0 : Int32)), aI cI a_n40 400 (fun _ => (0 : Int32)), aI cI a_n48 100 (fun _ => (0 : Int32)), aI cI a_n56 12 (fun _ => (0 : Int32)), aI cI a_n65 200 (fun _ => (0 : Int32)), aI cI a_n73 8 (fun _ => (0 : Int32)), aI cI a_n81 8 (fun _ => (0 : Int32)), aI cI a_n88 3 (fun _ => (0 : Int32)), aI cI a_n95 5 (fun _ => (0 : Int32)), aI cI a_n102 5 (fun _ => (0 : Int32)), aI cI a_n109 5 (fun _ => (0 : Int32)), aI cI a_n117 25 (fun _ => (0 : Int32))]) C hm fX9_52 ⟨_, _, rfl⟩ 0 rfl (Nat.le_of_ble_eq_true rfl) rfl rfl rfl dX9_init_119 ?_
  refine g_aload_n (pl := 0) C dX9_init_122 rfl rfl ?_
  refine g_iconst (v := (nI 5)) C dX9_init_123 rfl ?_
  refine g_newa (N := 5) C q1_63 (by decide) (by decide) (by decide) (Nat.le_of_ble_eq_true rfl) (Nat.le_of_ble_eq_true rfl) dX9_init_124 (fun a_n124 => ?_)
  show gg cI X 1 16 980 [(h, .inr (9, [.ref a_n7, .ref a_n15, .ref a_n23, .ref a_n31, .ref a_n40, .int (nI 0), .ref a_n48, .int (nI 0), .ref a_n56, .int (nI 0), .ref a_n65, .int (nI 0), .int (nI 0), .int (nI 0), .ref a_n73, .ref a_n81, .long (lN 0), .long (lN 0), .int (nI 0), .ref a_n88, .ref a_n95, .ref a_n102, .ref a_n109, .ref a_n117, .null])), aI cI a_n7 52 (fun _ => (0 : Int32)), aI cI a_n15 52 (fun _ => (0 : Int32)), aI cI a_n23 50 (fun _ => (0 : Int32)), aI cI a_n31 50 (fun _ => (0 : Int32)), aI cI a_n40 400 (fun _ => (0 : Int32)), aI cI a_n48 100 (fun _ => (0 : Int32)), aI cI a_n56 12 (fun _ => (0 : Int32)), aI cI a_n65 200 (fun _ => (0 : Int32)), aI cI a_n73 8 (fun _ => (0 : Int32)), aI cI a_n81 8 (fun _ => (0 : Int32)), aI cI a_n88 3 (fun _ => (0 : Int32)), aI cI a_n95 5 (fun _ => (0 : Int32)), aI cI a_n102 5 (fun _ => (0 : Int32)), aI cI a_n109 5 (fun _ => (0 : Int32)), aI cI a_n117 25 (fun _ => (0 : Int32)), aI cI a_n124 5 (fun _ => (0 : Int32))] [(0, .ref h)] 126 [.ref a_n124, .ref h]
  refine g_putF (ws' := [oX9 h a_n7 a_n15 a_n23 a_n31 a_n40 (nI 0) a_n48 (nI 0) a_n56 (nI 0) a_n65 (nI 0) (nI 0) (nI 0) a_n73 a_n81 (lN 0) (lN 0) (nI 0) a_n88 a_n95 a_n102 a_n109 a_n117 a_n124, aI cI a_n7 52 (fun _ => (0 : Int32)), aI cI a_n15 52 (fun _ => (0 : Int32)), aI cI a_n23 50 (fun _ => (0 : Int32)), aI cI a_n31 50 (fun _ => (0 : Int32)), aI cI a_n40 400 (fun _ => (0 : Int32)), aI cI a_n48 100 (fun _ => (0 : Int32)), aI cI a_n56 12 (fun _ => (0 : Int32)), aI cI a_n65 200 (fun _ => (0 : Int32)), aI cI a_n73 8 (fun _ => (0 : Int32)), aI cI a_n81 8 (fun _ => (0 : Int32)), aI cI a_n88 3 (fun _ => (0 : Int32)), aI cI a_n95 5 (fun _ => (0 : Int32)), aI cI a_n102 5 (fun _ => (0 : Int32)), aI cI a_n109 5 (fun _ => (0 : Int32)), aI cI a_n117 25 (fun _ => (0 : Int32)), aI cI a_n124 5 (fun _ => (0 : Int32))]) C hm fX9_55 ⟨_, _, rfl⟩ 0 rfl (Nat.le_of_ble_eq_true rfl) rfl rfl rfl dX9_init_126 ?_
  refine g_aload_n (pl := 0) C dX9_init_129 rfl rfl ?_
  refine g_get C fX9_7 0 rfl rfl dX9_init_130 ?_
  refine g_iconst (v := (nI 3)) C dX9_init_133 rfl ?_
  refine g_sipush (v := (nI 128)) C dX9_init_134 rfl ?_
  obtain ⟨u1, e_u1, hs⟩ := vlet_ex hs
  refine g_iast (ws' := [oX9 h a_n7 a_n15 a_n23 a_n31 a_n40 (nI 0) a_n48 (nI 0) a_n56 (nI 0) a_n65 (nI 0) (nI 0) (nI 0) a_n73 a_n81 (lN 0) (lN 0) (nI 0) a_n88 a_n95 a_n102 a_n109 a_n117 a_n124, aI cI a_n7 52 u1, aI cI a_n15 52 (fun _ => (0 : Int32)), aI cI a_n23 50 (fun _ => (0 : Int32)), aI cI a_n31 50 (fun _ => (0 : Int32)), aI cI a_n40 400 (fun _ => (0 : Int32)), aI cI a_n48 100 (fun _ => (0 : Int32)), aI cI a_n56 12 (fun _ => (0 : Int32)), aI cI a_n65 200 (fun _ => (0 : Int32)), aI cI a_n73 8 (fun _ => (0 : Int32)), aI cI a_n81 8 (fun _ => (0 : Int32)), aI cI a_n88 3 (fun _ => (0 : Int32)), aI cI a_n95 5 (fun _ => (0 : Int32)), aI cI a_n102 5 (fun _ => (0 : Int32)), aI cI a_n109 5 (fun _ => (0 : Int32)), aI cI a_n117 25 (fun _ => (0 : Int32)), aI cI a_n124 5 (fun _ => (0 : Int32))]) C 1 rfl (vin_ok rfl) (by rw [e_u1]; rfl) dX9_init_137 ?_
  refine g_aload_n (pl := 0) C dX9_init_138 rfl rfl ?_
  refine g_get C fX9_7 0 rfl rfl dX9_init_139 ?_
  refine g_iconst (v := (nI 4)) C dX9_init_142 rfl ?_
  refine g_iconst (v := (nI 3)) C dX9_init_143 rfl ?_
  obtain ⟨u2, e_u2, hs⟩ := vlet_ex hs
  refine g_iast (ws' := [oX9 h a_n7 a_n15 a_n23 a_n31 a_n40 (nI 0) a_n48 (nI 0) a_n56 (nI 0) a_n65 (nI 0) (nI 0) (nI 0) a_n73 a_n81 (lN 0) (lN 0) (nI 0) a_n88 a_n95 a_n102 a_n109 a_n117 a_n124, aI cI a_n7 52 u2, aI cI a_n15 52 (fun _ => (0 : Int32)), aI cI a_n23 50 (fun _ => (0 : Int32)), aI cI a_n31 50 (fun _ => (0 : Int32)), aI cI a_n40 400 (fun _ => (0 : Int32)), aI cI a_n48 100 (fun _ => (0 : Int32)), aI cI a_n56 12 (fun _ => (0 : Int32)), aI cI a_n65 200 (fun _ => (0 : Int32)), aI cI a_n73 8 (fun _ => (0 : Int32)), aI cI a_n81 8 (fun _ => (0 : Int32)), aI cI a_n88 3 (fun _ => (0 : Int32)), aI cI a_n95 5 (fun _ => (0 : Int32)), aI cI a_n102 5 (fun _ => (0 : Int32)), aI cI a_n109 5 (fun _ => (0 : Int32)), aI cI a_n117 25 (fun _ => (0 : Int32)), aI cI a_n124 5 (fun _ => (0 : Int32))]) C 1 rfl (vin_ok rfl) (by rw [e_u2]; rfl) dX9_init_144 ?_
  refine g_aload_n (pl := 0) C dX9_init_145 rfl rfl ?_
  refine g_get C fX9_7 0 rfl rfl dX9_init_146 ?_
  refine g_iconst (v := (nI 5)) C dX9_init_149 rfl ?_
  refine g_iconst (v := (nI 2)) C dX9_init_150 rfl ?_
  obtain ⟨u3, e_u3, hs⟩ := vlet_ex hs
  refine g_iast (ws' := [oX9 h a_n7 a_n15 a_n23 a_n31 a_n40 (nI 0) a_n48 (nI 0) a_n56 (nI 0) a_n65 (nI 0) (nI 0) (nI 0) a_n73 a_n81 (lN 0) (lN 0) (nI 0) a_n88 a_n95 a_n102 a_n109 a_n117 a_n124, aI cI a_n7 52 u3, aI cI a_n15 52 (fun _ => (0 : Int32)), aI cI a_n23 50 (fun _ => (0 : Int32)), aI cI a_n31 50 (fun _ => (0 : Int32)), aI cI a_n40 400 (fun _ => (0 : Int32)), aI cI a_n48 100 (fun _ => (0 : Int32)), aI cI a_n56 12 (fun _ => (0 : Int32)), aI cI a_n65 200 (fun _ => (0 : Int32)), aI cI a_n73 8 (fun _ => (0 : Int32)), aI cI a_n81 8 (fun _ => (0 : Int32)), aI cI a_n88 3 (fun _ => (0 : Int32)), aI cI a_n95 5 (fun _ => (0 : Int32)), aI cI a_n102 5 (fun _ => (0 : Int32)), aI cI a_n109 5 (fun _ => (0 : Int32)), aI cI a_n117 25 (fun _ => (0 : Int32)), aI cI a_n124 5 (fun _ => (0 : Int32))]) C 1 rfl (vin_ok rfl) (by rw [e_u3]; rfl) dX9_init_151 ?_
  refine g_aload_n (pl := 0) C dX9_init_152 rfl rfl ?_
  refine g_get C fX9_7 0 rfl rfl dX9_init_153 ?_
  refine g_bipush (v := (nI 6)) C dX9_init_156 rfl ?_
  refine g_iconst (v := (nI 2)) C dX9_init_158 rfl ?_
  obtain ⟨u4, e_u4, hs⟩ := vlet_ex hs
  refine g_iast (ws' := [oX9 h a_n7 a_n15 a_n23 a_n31 a_n40 (nI 0) a_n48 (nI 0) a_n56 (nI 0) a_n65 (nI 0) (nI 0) (nI 0) a_n73 a_n81 (lN 0) (lN 0) (nI 0) a_n88 a_n95 a_n102 a_n109 a_n117 a_n124, aI cI a_n7 52 u4, aI cI a_n15 52 (fun _ => (0 : Int32)), aI cI a_n23 50 (fun _ => (0 : Int32)), aI cI a_n31 50 (fun _ => (0 : Int32)), aI cI a_n40 400 (fun _ => (0 : Int32)), aI cI a_n48 100 (fun _ => (0 : Int32)), aI cI a_n56 12 (fun _ => (0 : Int32)), aI cI a_n65 200 (fun _ => (0 : Int32)), aI cI a_n73 8 (fun _ => (0 : Int32)), aI cI a_n81 8 (fun _ => (0 : Int32)), aI cI a_n88 3 (fun _ => (0 : Int32)), aI cI a_n95 5 (fun _ => (0 : Int32)), aI cI a_n102 5 (fun _ => (0 : Int32)), aI cI a_n109 5 (fun _ => (0 : Int32)), aI cI a_n117 25 (fun _ => (0 : Int32)), aI cI a_n124 5 (fun _ => (0 : Int32))]) C 1 rfl (vin_ok rfl) (by rw [e_u4]; rfl) dX9_init_159 ?_
  refine g_aload_n (pl := 0) C dX9_init_160 rfl rfl ?_
  refine g_get C fX9_7 0 rfl rfl dX9_init_161 ?_
  refine g_iconst (v := (nI 5)) C dX9_init_164 rfl ?_
  refine g_iconst (v := (nI 2)) C dX9_init_165 rfl ?_
  refine g_iconst (v := (nI 3)) C dX9_init_166 rfl ?_
  obtain ⟨z5, e_z5, hs⟩ := vb_ok hs
  refine g_callS (ws' := [oX9 h a_n7 a_n15 a_n23 a_n31 a_n40 (nI 0) a_n48 (nI 0) a_n56 (nI 0) a_n65 (nI 0) (nI 0) (nI 0) a_n73 a_n81 (lN 0) (lN 0) (nI 0) a_n88 a_n95 a_n102 a_n109 a_n117 a_n124, aI cI a_n7 52 z5, aI cI a_n15 52 (fun _ => (0 : Int32)), aI cI a_n23 50 (fun _ => (0 : Int32)), aI cI a_n31 50 (fun _ => (0 : Int32)), aI cI a_n40 400 (fun _ => (0 : Int32)), aI cI a_n48 100 (fun _ => (0 : Int32)), aI cI a_n56 12 (fun _ => (0 : Int32)), aI cI a_n65 200 (fun _ => (0 : Int32)), aI cI a_n73 8 (fun _ => (0 : Int32)), aI cI a_n81 8 (fun _ => (0 : Int32)), aI cI a_n88 3 (fun _ => (0 : Int32)), aI cI a_n95 5 (fun _ => (0 : Int32)), aI cI a_n102 5 (fun _ => (0 : Int32)), aI cI a_n109 5 (fun _ => (0 : Int32)), aI cI a_n117 25 (fun _ => (0 : Int32)), aI cI a_n124 5 (fun _ => (0 : Int32))]) (rest := []) (st' := []) C mX9_58 q4_107 [.ref a_n7, .int (nI 5), .int (nI 2), .int (nI 3)] (fun l D => cX9_word_ct l D cI a_n7 u4 (nI 5) (nI 2) (nI 3) e_z5) ⟨⟨rfl, rfl⟩, Nat.le_of_ble_eq_true rfl, Nat.le_of_ble_eq_true rfl⟩ rfl [1] rfl rfl rfl rfl rfl (Nat.le_of_ble_eq_true rfl) (Nat.le_of_ble_eq_true rfl) (Nat.le_of_ble_eq_true rfl) rfl dX9_init_167 ?_
  refine g_aload_n (pl := 0) C dX9_init_170 rfl rfl ?_
  refine g_get C fX9_7 0 rfl rfl dX9_init_171 ?_
  refine g_iconst (v := (nI 3)) C dX9_init_174 rfl ?_
  refine g_iconst (v := (nI 3)) C dX9_init_175 rfl ?_
  refine g_bipush (v := (nI 7)) C dX9_init_176 rfl ?_
  obtain ⟨z6, e_z6, hs⟩ := vb_ok hs
  refine g_callS (ws' := [oX9 h a_n7 a_n15 a_n23 a_n31 a_n40 (nI 0) a_n48 (nI 0) a_n56 (nI 0) a_n65 (nI 0) (nI 0) (nI 0) a_n73 a_n81 (lN 0) (lN 0) (nI 0) a_n88 a_n95 a_n102 a_n109 a_n117 a_n124, aI cI a_n7 52 z6, aI cI a_n15 52 (fun _ => (0 : Int32)), aI cI a_n23 50 (fun _ => (0 : Int32)), aI cI a_n31 50 (fun _ => (0 : Int32)), aI cI a_n40 400 (fun _ => (0 : Int32)), aI cI a_n48 100 (fun _ => (0 : Int32)), aI cI a_n56 12 (fun _ => (0 : Int32)), aI cI a_n65 200 (fun _ => (0 : Int32)), aI cI a_n73 8 (fun _ => (0 : Int32)), aI cI a_n81 8 (fun _ => (0 : Int32)), aI cI a_n88 3 (fun _ => (0 : Int32)), aI cI a_n95 5 (fun _ => (0 : Int32)), aI cI a_n102 5 (fun _ => (0 : Int32)), aI cI a_n109 5 (fun _ => (0 : Int32)), aI cI a_n117 25 (fun _ => (0 : Int32)), aI cI a_n124 5 (fun _ => (0 : Int32))]) (rest := []) (st' := []) C mX9_58 q4_107 [.ref a_n7, .int (nI 3), .int (nI 3), .int (nI 7)] (fun l D => cX9_word_ct l D cI a_n7 z5 (nI 3) (nI 3) (nI 7) e_z6) ⟨⟨rfl, rfl⟩, Nat.le_of_ble_eq_true rfl, Nat.le_of_ble_eq_true rfl⟩ rfl [1] rfl rfl rfl rfl rfl (Nat.le_of_ble_eq_true rfl) (Nat.le_of_ble_eq_true rfl) (Nat.le_of_ble_eq_true rfl) rfl dX9_init_178 ?_
  refine g_aload_n (pl := 0) C dX9_init_181 rfl rfl ?_
  refine g_get C fX9_7 0 rfl rfl dX9_init_182 ?_
  refine g_bipush (v := (nI 7)) C dX9_init_185 rfl ?_
  refine g_iconst (v := (nI 1)) C dX9_init_187 rfl ?_
  refine g_bipush (v := (nI 8)) C dX9_init_188 rfl ?_
  obtain ⟨z7, e_z7, hs⟩ := vb_ok hs
  refine g_callS (ws' := [oX9 h a_n7 a_n15 a_n23 a_n31 a_n40 (nI 0) a_n48 (nI 0) a_n56 (nI 0) a_n65 (nI 0) (nI 0) (nI 0) a_n73 a_n81 (lN 0) (lN 0) (nI 0) a_n88 a_n95 a_n102 a_n109 a_n117 a_n124, aI cI a_n7 52 z7, aI cI a_n15 52 (fun _ => (0 : Int32)), aI cI a_n23 50 (fun _ => (0 : Int32)), aI cI a_n31 50 (fun _ => (0 : Int32)), aI cI a_n40 400 (fun _ => (0 : Int32)), aI cI a_n48 100 (fun _ => (0 : Int32)), aI cI a_n56 12 (fun _ => (0 : Int32)), aI cI a_n65 200 (fun _ => (0 : Int32)), aI cI a_n73 8 (fun _ => (0 : Int32)), aI cI a_n81 8 (fun _ => (0 : Int32)), aI cI a_n88 3 (fun _ => (0 : Int32)), aI cI a_n95 5 (fun _ => (0 : Int32)), aI cI a_n102 5 (fun _ => (0 : Int32)), aI cI a_n109 5 (fun _ => (0 : Int32)), aI cI a_n117 25 (fun _ => (0 : Int32)), aI cI a_n124 5 (fun _ => (0 : Int32))]) (rest := []) (st' := []) C mX9_58 q4_107 [.ref a_n7, .int (nI 7), .int (nI 1), .int (nI 8)] (fun l D => cX9_word_ct l D cI a_n7 z6 (nI 7) (nI 1) (nI 8) e_z7) ⟨⟨rfl, rfl⟩, Nat.le_of_ble_eq_true rfl, Nat.le_of_ble_eq_true rfl⟩ rfl [1] rfl rfl rfl rfl rfl (Nat.le_of_ble_eq_true rfl) (Nat.le_of_ble_eq_true rfl) (Nat.le_of_ble_eq_true rfl) rfl dX9_init_190 ?_
  refine g_aload_n (pl := 0) C dX9_init_193 rfl rfl ?_
  refine g_get C fX9_7 0 rfl rfl dX9_init_194 ?_
  refine g_iconst (v := (nI 2)) C dX9_init_197 rfl ?_
  refine g_iconst (v := (nI 2)) C dX9_init_198 rfl ?_
  refine g_bipush (v := (nI 24)) C dX9_init_199 rfl ?_
  obtain ⟨z8, e_z8, hs⟩ := vb_ok hs
  refine g_callS (ws' := [oX9 h a_n7 a_n15 a_n23 a_n31 a_n40 (nI 0) a_n48 (nI 0) a_n56 (nI 0) a_n65 (nI 0) (nI 0) (nI 0) a_n73 a_n81 (lN 0) (lN 0) (nI 0) a_n88 a_n95 a_n102 a_n109 a_n117 a_n124, aI cI a_n7 52 z8, aI cI a_n15 52 (fun _ => (0 : Int32)), aI cI a_n23 50 (fun _ => (0 : Int32)), aI cI a_n31 50 (fun _ => (0 : Int32)), aI cI a_n40 400 (fun _ => (0 : Int32)), aI cI a_n48 100 (fun _ => (0 : Int32)), aI cI a_n56 12 (fun _ => (0 : Int32)), aI cI a_n65 200 (fun _ => (0 : Int32)), aI cI a_n73 8 (fun _ => (0 : Int32)), aI cI a_n81 8 (fun _ => (0 : Int32)), aI cI a_n88 3 (fun _ => (0 : Int32)), aI cI a_n95 5 (fun _ => (0 : Int32)), aI cI a_n102 5 (fun _ => (0 : Int32)), aI cI a_n109 5 (fun _ => (0 : Int32)), aI cI a_n117 25 (fun _ => (0 : Int32)), aI cI a_n124 5 (fun _ => (0 : Int32))]) (rest := []) (st' := []) C mX9_58 q4_107 [.ref a_n7, .int (nI 2), .int (nI 2), .int (nI 24)] (fun l D => cX9_word_ct l D cI a_n7 z7 (nI 2) (nI 2) (nI 24) e_z8) ⟨⟨rfl, rfl⟩, Nat.le_of_ble_eq_true rfl, Nat.le_of_ble_eq_true rfl⟩ rfl [1] rfl rfl rfl rfl rfl (Nat.le_of_ble_eq_true rfl) (Nat.le_of_ble_eq_true rfl) (Nat.le_of_ble_eq_true rfl) rfl dX9_init_201 ?_
  refine g_aload_n (pl := 0) C dX9_init_204 rfl rfl ?_
  refine g_get C fX9_7 0 rfl rfl dX9_init_205 ?_
  refine g_iconst (v := (nI 4)) C dX9_init_208 rfl ?_
  refine g_iconst (v := (nI 2)) C dX9_init_209 rfl ?_
  refine g_bipush (v := (nI 33)) C dX9_init_210 rfl ?_
  obtain ⟨z9, e_z9, hs⟩ := vb_ok hs
  refine g_callS (ws' := [oX9 h a_n7 a_n15 a_n23 a_n31 a_n40 (nI 0) a_n48 (nI 0) a_n56 (nI 0) a_n65 (nI 0) (nI 0) (nI 0) a_n73 a_n81 (lN 0) (lN 0) (nI 0) a_n88 a_n95 a_n102 a_n109 a_n117 a_n124, aI cI a_n7 52 z9, aI cI a_n15 52 (fun _ => (0 : Int32)), aI cI a_n23 50 (fun _ => (0 : Int32)), aI cI a_n31 50 (fun _ => (0 : Int32)), aI cI a_n40 400 (fun _ => (0 : Int32)), aI cI a_n48 100 (fun _ => (0 : Int32)), aI cI a_n56 12 (fun _ => (0 : Int32)), aI cI a_n65 200 (fun _ => (0 : Int32)), aI cI a_n73 8 (fun _ => (0 : Int32)), aI cI a_n81 8 (fun _ => (0 : Int32)), aI cI a_n88 3 (fun _ => (0 : Int32)), aI cI a_n95 5 (fun _ => (0 : Int32)), aI cI a_n102 5 (fun _ => (0 : Int32)), aI cI a_n109 5 (fun _ => (0 : Int32)), aI cI a_n117 25 (fun _ => (0 : Int32)), aI cI a_n124 5 (fun _ => (0 : Int32))]) (rest := []) (st' := []) C mX9_58 q4_107 [.ref a_n7, .int (nI 4), .int (nI 2), .int (nI 33)] (fun l D => cX9_word_ct l D cI a_n7 z8 (nI 4) (nI 2) (nI 33) e_z9) ⟨⟨rfl, rfl⟩, Nat.le_of_ble_eq_true rfl, Nat.le_of_ble_eq_true rfl⟩ rfl [1] rfl rfl rfl rfl rfl (Nat.le_of_ble_eq_true rfl) (Nat.le_of_ble_eq_true rfl) (Nat.le_of_ble_eq_true rfl) rfl dX9_init_212 ?_
  refine g_aload_n (pl := 0) C dX9_init_215 rfl rfl ?_
  refine g_get C fX9_7 0 rfl rfl dX9_init_216 ?_
  refine g_bipush (v := (nI 6)) C dX9_init_219 rfl ?_
  refine g_iconst (v := (nI 1)) C dX9_init_221 rfl ?_
  refine g_iconst (v := (nI 4)) C dX9_init_222 rfl ?_
  obtain ⟨z10, e_z10, hs⟩ := vb_ok hs
  refine g_callS (ws' := [oX9 h a_n7 a_n15 a_n23 a_n31 a_n40 (nI 0) a_n48 (nI 0) a_n56 (nI 0) a_n65 (nI 0) (nI 0) (nI 0) a_n73 a_n81 (lN 0) (lN 0) (nI 0) a_n88 a_n95 a_n102 a_n109 a_n117 a_n124, aI cI a_n7 52 z10, aI cI a_n15 52 (fun _ => (0 : Int32)), aI cI a_n23 50 (fun _ => (0 : Int32)), aI cI a_n31 50 (fun _ => (0 : Int32)), aI cI a_n40 400 (fun _ => (0 : Int32)), aI cI a_n48 100 (fun _ => (0 : Int32)), aI cI a_n56 12 (fun _ => (0 : Int32)), aI cI a_n65 200 (fun _ => (0 : Int32)), aI cI a_n73 8 (fun _ => (0 : Int32)), aI cI a_n81 8 (fun _ => (0 : Int32)), aI cI a_n88 3 (fun _ => (0 : Int32)), aI cI a_n95 5 (fun _ => (0 : Int32)), aI cI a_n102 5 (fun _ => (0 : Int32)), aI cI a_n109 5 (fun _ => (0 : Int32)), aI cI a_n117 25 (fun _ => (0 : Int32)), aI cI a_n124 5 (fun _ => (0 : Int32))]) (rest := []) (st' := []) C mX9_58 q4_107 [.ref a_n7, .int (nI 6), .int (nI 1), .int (nI 4)] (fun l D => cX9_word_ct l D cI a_n7 z9 (nI 6) (nI 1) (nI 4) e_z10) ⟨⟨rfl, rfl⟩, Nat.le_of_ble_eq_true rfl, Nat.le_of_ble_eq_true rfl⟩ rfl [1] rfl rfl rfl rfl rfl (Nat.le_of_ble_eq_true rfl) (Nat.le_of_ble_eq_true rfl) (Nat.le_of_ble_eq_true rfl) rfl dX9_init_223 ?_
  refine g_aload_n (pl := 0) C dX9_init_226 rfl rfl ?_
  refine g_get C fX9_7 0 rfl rfl dX9_init_227 ?_
  refine g_iconst (v := (nI 1)) C dX9_init_230 rfl ?_
  refine g_iconst (v := (nI 4)) C dX9_init_231 rfl ?_
  obtain ⟨u11, e_u11, hs⟩ := vlet_ex hs
  refine g_iast (ws' := [oX9 h a_n7 a_n15 a_n23 a_n31 a_n40 (nI 0) a_n48 (nI 0) a_n56 (nI 0) a_n65 (nI 0) (nI 0) (nI 0) a_n73 a_n81 (lN 0) (lN 0) (nI 0) a_n88 a_n95 a_n102 a_n109 a_n117 a_n124, aI cI a_n7 52 u11, aI cI a_n15 52 (fun _ => (0 : Int32)), aI cI a_n23 50 (fun _ => (0 : Int32)), aI cI a_n31 50 (fun _ => (0 : Int32)), aI cI a_n40 400 (fun _ => (0 : Int32)), aI cI a_n48 100 (fun _ => (0 : Int32)), aI cI a_n56 12 (fun _ => (0 : Int32)), aI cI a_n65 200 (fun _ => (0 : Int32)), aI cI a_n73 8 (fun _ => (0 : Int32)), aI cI a_n81 8 (fun _ => (0 : Int32)), aI cI a_n88 3 (fun _ => (0 : Int32)), aI cI a_n95 5 (fun _ => (0 : Int32)), aI cI a_n102 5 (fun _ => (0 : Int32)), aI cI a_n109 5 (fun _ => (0 : Int32)), aI cI a_n117 25 (fun _ => (0 : Int32)), aI cI a_n124 5 (fun _ => (0 : Int32))]) C 1 rfl (vin_ok rfl) (by rw [e_u11]; rfl) dX9_init_232 ?_
  refine g_aload_n (pl := 0) C dX9_init_233 rfl rfl ?_
  refine g_get C fX9_7 0 rfl rfl dX9_init_234 ?_
  refine g_bipush (v := (nI 31)) C dX9_init_237 rfl ?_
  refine g_iconst (v := (nI 3)) C dX9_init_239 rfl ?_
  obtain ⟨u12, e_u12, hs⟩ := vlet_ex hs
  refine g_iast (ws' := [oX9 h a_n7 a_n15 a_n23 a_n31 a_n40 (nI 0) a_n48 (nI 0) a_n56 (nI 0) a_n65 (nI 0) (nI 0) (nI 0) a_n73 a_n81 (lN 0) (lN 0) (nI 0) a_n88 a_n95 a_n102 a_n109 a_n117 a_n124, aI cI a_n7 52 u12, aI cI a_n15 52 (fun _ => (0 : Int32)), aI cI a_n23 50 (fun _ => (0 : Int32)), aI cI a_n31 50 (fun _ => (0 : Int32)), aI cI a_n40 400 (fun _ => (0 : Int32)), aI cI a_n48 100 (fun _ => (0 : Int32)), aI cI a_n56 12 (fun _ => (0 : Int32)), aI cI a_n65 200 (fun _ => (0 : Int32)), aI cI a_n73 8 (fun _ => (0 : Int32)), aI cI a_n81 8 (fun _ => (0 : Int32)), aI cI a_n88 3 (fun _ => (0 : Int32)), aI cI a_n95 5 (fun _ => (0 : Int32)), aI cI a_n102 5 (fun _ => (0 : Int32)), aI cI a_n109 5 (fun _ => (0 : Int32)), aI cI a_n117 25 (fun _ => (0 : Int32)), aI cI a_n124 5 (fun _ => (0 : Int32))]) C 1 rfl (vin_ok rfl) (by rw [e_u12]; rfl) dX9_init_240 ?_
  refine g_aload_n (pl := 0) C dX9_init_241 rfl rfl ?_
  refine g_get C fX9_7 0 rfl rfl dX9_init_242 ?_
  refine g_bipush (v := (nI 32)) C dX9_init_245 rfl ?_
  refine g_bipush (v := (nI 12)) C dX9_init_247 rfl ?_
  obtain ⟨u13, e_u13, hs⟩ := vlet_ex hs
  refine g_iast (ws' := [oX9 h a_n7 a_n15 a_n23 a_n31 a_n40 (nI 0) a_n48 (nI 0) a_n56 (nI 0) a_n65 (nI 0) (nI 0) (nI 0) a_n73 a_n81 (lN 0) (lN 0) (nI 0) a_n88 a_n95 a_n102 a_n109 a_n117 a_n124, aI cI a_n7 52 u13, aI cI a_n15 52 (fun _ => (0 : Int32)), aI cI a_n23 50 (fun _ => (0 : Int32)), aI cI a_n31 50 (fun _ => (0 : Int32)), aI cI a_n40 400 (fun _ => (0 : Int32)), aI cI a_n48 100 (fun _ => (0 : Int32)), aI cI a_n56 12 (fun _ => (0 : Int32)), aI cI a_n65 200 (fun _ => (0 : Int32)), aI cI a_n73 8 (fun _ => (0 : Int32)), aI cI a_n81 8 (fun _ => (0 : Int32)), aI cI a_n88 3 (fun _ => (0 : Int32)), aI cI a_n95 5 (fun _ => (0 : Int32)), aI cI a_n102 5 (fun _ => (0 : Int32)), aI cI a_n109 5 (fun _ => (0 : Int32)), aI cI a_n117 25 (fun _ => (0 : Int32)), aI cI a_n124 5 (fun _ => (0 : Int32))]) C 1 rfl (vin_ok rfl) (by rw [e_u13]; rfl) dX9_init_249 ?_
  refine g_aload_n (pl := 0) C dX9_init_250 rfl rfl ?_
  refine g_get C fX9_7 0 rfl rfl dX9_init_251 ?_
  refine g_bipush (v := (nI 33)) C dX9_init_254 rfl ?_
  refine g_bipush (v := (nI 16)) C dX9_init_256 rfl ?_
  obtain ⟨u14, e_u14, hs⟩ := vlet_ex hs
  refine g_iast (ws' := [oX9 h a_n7 a_n15 a_n23 a_n31 a_n40 (nI 0) a_n48 (nI 0) a_n56 (nI 0) a_n65 (nI 0) (nI 0) (nI 0) a_n73 a_n81 (lN 0) (lN 0) (nI 0) a_n88 a_n95 a_n102 a_n109 a_n117 a_n124, aI cI a_n7 52 u14, aI cI a_n15 52 (fun _ => (0 : Int32)), aI cI a_n23 50 (fun _ => (0 : Int32)), aI cI a_n31 50 (fun _ => (0 : Int32)), aI cI a_n40 400 (fun _ => (0 : Int32)), aI cI a_n48 100 (fun _ => (0 : Int32)), aI cI a_n56 12 (fun _ => (0 : Int32)), aI cI a_n65 200 (fun _ => (0 : Int32)), aI cI a_n73 8 (fun _ => (0 : Int32)), aI cI a_n81 8 (fun _ => (0 : Int32)), aI cI a_n88 3 (fun _ => (0 : Int32)), aI cI a_n95 5 (fun _ => (0 : Int32)), aI cI a_n102 5 (fun _ => (0 : Int32)), aI cI a_n109 5 (fun _ => (0 : Int32)), aI cI a_n117 25 (fun _ => (0 : Int32)), aI cI a_n124 5 (fun _ => (0 : Int32))]) C 1 rfl (vin_ok rfl) (by rw [e_u14]; rfl) dX9_init_258 ?_
  refine g_aload_n (pl := 0) C dX9_init_259 rfl rfl ?_
  refine g_get C fX9_7 0 rfl rfl dX9_init_260 ?_
  refine g_bipush (v := (nI 34)) C dX9_init_263 rfl ?_
  refine g_bipush (v := (nI 36)) C dX9_init_265 rfl ?_
  obtain ⟨u15, e_u15, hs⟩ := vlet_ex hs
  refine g_iast (ws' := [oX9 h a_n7 a_n15 a_n23 a_n31 a_n40 (nI 0) a_n48 (nI 0) a_n56 (nI 0) a_n65 (nI 0) (nI 0) (nI 0) a_n73 a_n81 (lN 0) (lN 0) (nI 0) a_n88 a_n95 a_n102 a_n109 a_n117 a_n124, aI cI a_n7 52 u15, aI cI a_n15 52 (fun _ => (0 : Int32)), aI cI a_n23 50 (fun _ => (0 : Int32)), aI cI a_n31 50 (fun _ => (0 : Int32)), aI cI a_n40 400 (fun _ => (0 : Int32)), aI cI a_n48 100 (fun _ => (0 : Int32)), aI cI a_n56 12 (fun _ => (0 : Int32)), aI cI a_n65 200 (fun _ => (0 : Int32)), aI cI a_n73 8 (fun _ => (0 : Int32)), aI cI a_n81 8 (fun _ => (0 : Int32)), aI cI a_n88 3 (fun _ => (0 : Int32)), aI cI a_n95 5 (fun _ => (0 : Int32)), aI cI a_n102 5 (fun _ => (0 : Int32)), aI cI a_n109 5 (fun _ => (0 : Int32)), aI cI a_n117 25 (fun _ => (0 : Int32)), aI cI a_n124 5 (fun _ => (0 : Int32))]) C 1 rfl (vin_ok rfl) (by rw [e_u15]; rfl) dX9_init_267 ?_
  refine g_aload_n (pl := 0) C dX9_init_268 rfl rfl ?_
  refine g_get C fX9_7 0 rfl rfl dX9_init_269 ?_
  refine g_iconst (v := (nI 0)) C dX9_init_272 rfl ?_
  refine g_iconst (v := (nI 0)) C dX9_init_273 rfl ?_
  refine g_bipush (v := (nI 20)) C dX9_init_274 rfl ?_
  obtain ⟨z16, e_z16, hs⟩ := vb_ok hs
  refine g_callS (ws' := [oX9 h a_n7 a_n15 a_n23 a_n31 a_n40 (nI 0) a_n48 (nI 0) a_n56 (nI 0) a_n65 (nI 0) (nI 0) (nI 0) a_n73 a_n81 (lN 0) (lN 0) (nI 0) a_n88 a_n95 a_n102 a_n109 a_n117 a_n124, aI cI a_n7 52 z16, aI cI a_n15 52 (fun _ => (0 : Int32)), aI cI a_n23 50 (fun _ => (0 : Int32)), aI cI a_n31 50 (fun _ => (0 : Int32)), aI cI a_n40 400 (fun _ => (0 : Int32)), aI cI a_n48 100 (fun _ => (0 : Int32)), aI cI a_n56 12 (fun _ => (0 : Int32)), aI cI a_n65 200 (fun _ => (0 : Int32)), aI cI a_n73 8 (fun _ => (0 : Int32)), aI cI a_n81 8 (fun _ => (0 : Int32)), aI cI a_n88 3 (fun _ => (0 : Int32)), aI cI a_n95 5 (fun _ => (0 : Int32)), aI cI a_n102 5 (fun _ => (0 : Int32)), aI cI a_n109 5 (fun _ => (0 : Int32)), aI cI a_n117 25 (fun _ => (0 : Int32)), aI cI a_n124 5 (fun _ => (0 : Int32))]) (rest := []) (st' := []) C mX9_62 q4_110 [.ref a_n7, .int (nI 0), .int (nI 0), .int (nI 20)] (fun l D => cX9_actor_ct l D cI a_n7 u15 (nI 0) (nI 0) (nI 20) e_z16) ⟨⟨rfl, rfl⟩, Nat.le_of_ble_eq_true rfl, Nat.le_of_ble_eq_true rfl⟩ rfl [1] rfl rfl rfl rfl rfl (Nat.le_of_ble_eq_true rfl) (Nat.le_of_ble_eq_true rfl) (Nat.le_of_ble_eq_true rfl) rfl dX9_init_276 ?_
  refine g_aload_n (pl := 0) C dX9_init_279 rfl rfl ?_
  refine g_get C fX9_7 0 rfl rfl dX9_init_280 ?_
  refine g_iconst (v := (nI 1)) C dX9_init_283 rfl ?_
  refine g_iconst (v := (nI 3)) C dX9_init_284 rfl ?_
  refine g_bipush (v := (nI 9)) C dX9_init_285 rfl ?_
  obtain ⟨z17, e_z17, hs⟩ := vb_ok hs
  refine g_callS (ws' := [oX9 h a_n7 a_n15 a_n23 a_n31 a_n40 (nI 0) a_n48 (nI 0) a_n56 (nI 0) a_n65 (nI 0) (nI 0) (nI 0) a_n73 a_n81 (lN 0) (lN 0) (nI 0) a_n88 a_n95 a_n102 a_n109 a_n117 a_n124, aI cI a_n7 52 z17, aI cI a_n15 52 (fun _ => (0 : Int32)), aI cI a_n23 50 (fun _ => (0 : Int32)), aI cI a_n31 50 (fun _ => (0 : Int32)), aI cI a_n40 400 (fun _ => (0 : Int32)), aI cI a_n48 100 (fun _ => (0 : Int32)), aI cI a_n56 12 (fun _ => (0 : Int32)), aI cI a_n65 200 (fun _ => (0 : Int32)), aI cI a_n73 8 (fun _ => (0 : Int32)), aI cI a_n81 8 (fun _ => (0 : Int32)), aI cI a_n88 3 (fun _ => (0 : Int32)), aI cI a_n95 5 (fun _ => (0 : Int32)), aI cI a_n102 5 (fun _ => (0 : Int32)), aI cI a_n109 5 (fun _ => (0 : Int32)), aI cI a_n117 25 (fun _ => (0 : Int32)), aI cI a_n124 5 (fun _ => (0 : Int32))]) (rest := []) (st' := []) C mX9_62 q4_110 [.ref a_n7, .int (nI 1), .int (nI 3), .int (nI 9)] (fun l D => cX9_actor_ct l D cI a_n7 z16 (nI 1) (nI 3) (nI 9) e_z17) ⟨⟨rfl, rfl⟩, Nat.le_of_ble_eq_true rfl, Nat.le_of_ble_eq_true rfl⟩ rfl [1] rfl rfl rfl rfl rfl (Nat.le_of_ble_eq_true rfl) (Nat.le_of_ble_eq_true rfl) (Nat.le_of_ble_eq_true rfl) rfl dX9_init_287 ?_
  refine g_aload_n (pl := 0) C dX9_init_290 rfl rfl ?_
  refine g_get C fX9_7 0 rfl rfl dX9_init_291 ?_
  refine g_iconst (v := (nI 2)) C dX9_init_294 rfl ?_
  refine g_iconst (v := (nI 4)) C dX9_init_295 rfl ?_
  refine g_bipush (v := (nI 30)) C dX9_init_296 rfl ?_
  obtain ⟨z18, e_z18, hs⟩ := vb_ok hs
  refine g_callS (ws' := [oX9 h a_n7 a_n15 a_n23 a_n31 a_n40 (nI 0) a_n48 (nI 0) a_n56 (nI 0) a_n65 (nI 0) (nI 0) (nI 0) a_n73 a_n81 (lN 0) (lN 0) (nI 0) a_n88 a_n95 a_n102 a_n109 a_n117 a_n124, aI cI a_n7 52 z18, aI cI a_n15 52 (fun _ => (0 : Int32)), aI cI a_n23 50 (fun _ => (0 : Int32)), aI cI a_n31 50 (fun _ => (0 : Int32)), aI cI a_n40 400 (fun _ => (0 : Int32)), aI cI a_n48 100 (fun _ => (0 : Int32)), aI cI a_n56 12 (fun _ => (0 : Int32)), aI cI a_n65 200 (fun _ => (0 : Int32)), aI cI a_n73 8 (fun _ => (0 : Int32)), aI cI a_n81 8 (fun _ => (0 : Int32)), aI cI a_n88 3 (fun _ => (0 : Int32)), aI cI a_n95 5 (fun _ => (0 : Int32)), aI cI a_n102 5 (fun _ => (0 : Int32)), aI cI a_n109 5 (fun _ => (0 : Int32)), aI cI a_n117 25 (fun _ => (0 : Int32)), aI cI a_n124 5 (fun _ => (0 : Int32))]) (rest := []) (st' := []) C mX9_62 q4_110 [.ref a_n7, .int (nI 2), .int (nI 4), .int (nI 30)] (fun l D => cX9_actor_ct l D cI a_n7 z17 (nI 2) (nI 4) (nI 30) e_z18) ⟨⟨rfl, rfl⟩, Nat.le_of_ble_eq_true rfl, Nat.le_of_ble_eq_true rfl⟩ rfl [1] rfl rfl rfl rfl rfl (Nat.le_of_ble_eq_true rfl) (Nat.le_of_ble_eq_true rfl) (Nat.le_of_ble_eq_true rfl) rfl dX9_init_298 ?_
  refine g_aload_n (pl := 0) C dX9_init_301 rfl rfl ?_
  refine g_get C fX9_7 0 rfl rfl dX9_init_302 ?_
  refine g_iconst (v := (nI 3)) C dX9_init_305 rfl ?_
  refine g_iconst (v := (nI 1)) C dX9_init_306 rfl ?_
  refine g_bipush (v := (nI 15)) C dX9_init_307 rfl ?_
  obtain ⟨z19, e_z19, hs⟩ := vb_ok hs
  refine g_callS (ws' := [oX9 h a_n7 a_n15 a_n23 a_n31 a_n40 (nI 0) a_n48 (nI 0) a_n56 (nI 0) a_n65 (nI 0) (nI 0) (nI 0) a_n73 a_n81 (lN 0) (lN 0) (nI 0) a_n88 a_n95 a_n102 a_n109 a_n117 a_n124, aI cI a_n7 52 z19, aI cI a_n15 52 (fun _ => (0 : Int32)), aI cI a_n23 50 (fun _ => (0 : Int32)), aI cI a_n31 50 (fun _ => (0 : Int32)), aI cI a_n40 400 (fun _ => (0 : Int32)), aI cI a_n48 100 (fun _ => (0 : Int32)), aI cI a_n56 12 (fun _ => (0 : Int32)), aI cI a_n65 200 (fun _ => (0 : Int32)), aI cI a_n73 8 (fun _ => (0 : Int32)), aI cI a_n81 8 (fun _ => (0 : Int32)), aI cI a_n88 3 (fun _ => (0 : Int32)), aI cI a_n95 5 (fun _ => (0 : Int32)), aI cI a_n102 5 (fun _ => (0 : Int32)), aI cI a_n109 5 (fun _ => (0 : Int32)), aI cI a_n117 25 (fun _ => (0 : Int32)), aI cI a_n124 5 (fun _ => (0 : Int32))]) (rest := []) (st' := []) C mX9_62 q4_110 [.ref a_n7, .int (nI 3), .int (nI 1), .int (nI 15)] (fun l D => cX9_actor_ct l D cI a_n7 z18 (nI 3) (nI 1) (nI 15) e_z19) ⟨⟨rfl, rfl⟩, Nat.le_of_ble_eq_true rfl, Nat.le_of_ble_eq_true rfl⟩ rfl [1] rfl rfl rfl rfl rfl (Nat.le_of_ble_eq_true rfl) (Nat.le_of_ble_eq_true rfl) (Nat.le_of_ble_eq_true rfl) rfl dX9_init_309 ?_
  refine g_aload_n (pl := 0) C dX9_init_312 rfl rfl ?_
  obtain ⟨z20, e_z20, hs⟩ := vb_ok hs
  refine g_callV (ws' := [oX9 h a_n7 a_n15 a_n23 a_n31 a_n40 z20.2.1 a_n48 z20.2.2.1 a_n56 z20.2.2.2 a_n65 (nI 0) (nI 0) (nI 0) a_n73 a_n81 (lN 0) (lN 0) (nI 0) a_n88 a_n95 a_n102 a_n109 a_n117 a_n124, aI cI a_n7 52 z19, aI cI a_n15 52 (fun _ => (0 : Int32)), aI cI a_n23 50 z20.1, aI cI a_n31 50 (fun _ => (0 : Int32)), aI cI a_n40 400 (fun _ => (0 : Int32)), aI cI a_n48 100 (fun _ => (0 : Int32)), aI cI a_n56 12 (fun _ => (0 : Int32)), aI cI a_n65 200 (fun _ => (0 : Int32)), aI cI a_n73 8 (fun _ => (0 : Int32)), aI cI a_n81 8 (fun _ => (0 : Int32)), aI cI a_n88 3 (fun _ => (0 : Int32)), aI cI a_n95 5 (fun _ => (0 : Int32)), aI cI a_n102 5 (fun _ => (0 : Int32)), aI cI a_n109 5 (fun _ => (0 : Int32)), aI cI a_n117 25 (fun _ => (0 : Int32)), aI cI a_n124 5 (fun _ => (0 : Int32))]) (rest := []) (st' := []) C mX9_65 q4_114 [] (fun l D => cX9_begins_ct l D cI h a_n7 a_n15 a_n23 a_n31 a_n40 a_n48 a_n56 a_n65 a_n73 a_n81 a_n88 a_n95 a_n102 a_n109 a_n117 a_n124 (nI 0) (nI 0) (nI 0) (nI 0) (nI 0) (nI 0) (lN 0) (lN 0) (nI 0) z19 (fun _ => (0 : Int32)) e_z20) ⟨⟨rfl, rfl⟩, Nat.le_of_ble_eq_true rfl, Nat.le_of_ble_eq_true rfl⟩ 0 rfl rfl rfl [0, 1, 3] rfl rfl rfl rfl rfl (Nat.le_of_ble_eq_true rfl) (Nat.le_of_ble_eq_true rfl) (Nat.le_of_ble_eq_true rfl) rfl dX9_init_313 ?_
  cases hs
  exact hR _ _ _ ⟨a_n7, a_n15, a_n23, a_n31, a_n40, a_n48, a_n56, a_n65, a_n73, a_n81, a_n88, a_n95, a_n102, a_n109, a_n117, a_n124, rfl⟩ dX9_init_316

def sX7_size (f_used : Int32) : Option (Int32) :=
  some (f_used)
abbrev rmX7_size : Room := { frames := 0, cells := 0, slots := 0, locals := 0 }
set_option maxHeartbeats 4000000 in
set_option maxRecDepth 100000 in
theorem cX7_size_ct (l : Launch) (D : va_G) (cI : ClassId) (h : Nat) (a_rows : Nat) (f_most : Int32) (f_used : Int32) {z : Int32} (hs : sX7_size f_used = some z) : ct l yX7_size (.code yX7_size cX7_size 1 (some .int) :: gtb) rmX7_size D cI [.ref h] [oX7 h a_rows f_most f_used] (some (.int z)) [oX7 h a_rows f_most f_used] := by
  refine ct_ofI (own := RX7) (by decide +kernel) rfl (Nat.le_of_ble_eq_true rfl) (fun X C hD hR => ?_)
  unfold sX7_size at hs
  show gg cI X 1 0 0 [oX7 h a_rows f_most f_used] [(0, .ref h)] 0 []
  refine g_aload_n (pl := 0) C dX7_size_0 rfl rfl ?_
  refine g_get C fX7_19 0 rfl rfl dX7_size_1 ?_
  cases hs
  exact hR _ _ dX7_size_4
def sX7_clear (f_used : Int32) : Option (Int32) :=
  some ((nI 0))
abbrev rmX7_clear : Room := { frames := 0, cells := 0, slots := 0, locals := 0 }
set_option maxHeartbeats 4000000 in
set_option maxRecDepth 100000 in
theorem cX7_clear_ct (l : Launch) (D : va_G) (cI : ClassId) (h : Nat) (a_rows : Nat) (f_most : Int32) (f_used : Int32) {z : Int32} (hs : sX7_clear f_used = some z) : ct l yX7_clear (.code yX7_clear cX7_clear 1 none :: gtb) rmX7_clear D cI [.ref h] [oX7 h a_rows f_most f_used] none [oX7 h a_rows f_most z] := by
  refine ct_ofV (own := RX7) (by decide +kernel) rfl (Nat.le_of_ble_eq_true rfl) (fun X C hD hR => ?_)
  unfold sX7_clear at hs
  show gg cI X 1 0 0 [oX7 h a_rows f_most f_used] [(0, .ref h)] 0 []
  refine g_aload_n (pl := 0) C dX7_clear_0 rfl rfl ?_
  refine g_iconst (v := (nI 0)) C dX7_clear_1 rfl ?_
  refine g_putI (ws' := [oX7 h a_rows f_most (nI 0)]) C fX7_19 0 rfl (Nat.le_of_ble_eq_true rfl) rfl dX7_clear_2 ?_
  cases hs
  exact hR _ _ dX7_clear_5
def sX7_put (n_rows : Nat) (f_rows : Nat → Int32) (f_most : Int32) (f_used : Int32) (f_p1_cells : Nat → Int32) : Option ((Nat → Int32) × Int32) :=
  vi (f_used < f_most) inferInstance (
    vi (f_used < 0) inferInstance (
      some (f_rows, f_used)) (
      vg (cpOk (nI 0) (f_used * (nI 55)) (nI 55) 55 n_rows) (
      vlet (va_cpy f_p1_cells f_rows (Int32.toNatClampNeg (nI 0)) (Int32.toNatClampNeg (f_used * (nI 55))) (Int32.toNatClampNeg (nI 55))) fun u4 =>
      vlet (f_used + (nI 1)) fun y5 =>
      some (u4, y5)))) (
    vg (cpOk (nI 55) (nI 0) ((f_most - (nI 1)) * (nI 55)) n_rows n_rows) (
    vlet (va_cpy f_rows f_rows (Int32.toNatClampNeg (nI 55)) (Int32.toNatClampNeg (nI 0)) (Int32.toNatClampNeg ((f_most - (nI 1)) * (nI 55)))) fun u7 =>
    vlet (f_most - (nI 1)) fun y8 =>
    vi (y8 < 0) inferInstance (
      some (u7, y8)) (
      vg (cpOk (nI 0) (y8 * (nI 55)) (nI 55) 55 n_rows) (
      vlet (va_cpy f_p1_cells u7 (Int32.toNatClampNeg (nI 0)) (Int32.toNatClampNeg (y8 * (nI 55))) (Int32.toNatClampNeg (nI 55))) fun u11 =>
      vlet (y8 + (nI 1)) fun y12 =>
      some (u11, y12)))))
abbrev rmX7_put : Room := { frames := 1, cells := 0, slots := 0, locals := 26 }
set_option maxHeartbeats 4000000 in
set_option maxRecDepth 100000 in
theorem cX7_put_ct (l : Launch) (D : va_G) (cI : ClassId) (h : Nat) (a_rows : Nat) (a_p1 : Nat) (a_p1_cells : Nat) (n_rows : Nat) (f_most : Int32) (f_used : Int32) (f_rows : Nat → Int32) (f_p1_cells : Nat → Int32) {z : (Nat → Int32) × Int32} (hs : sX7_put n_rows f_rows f_most f_used f_p1_cells = some z) : ct l yX7_put (.code yX7_put cX7_put 2 none :: gtb) rmX7_put D cI [.ref h, .ref a_p1] [oX7 h a_rows f_most f_used, aI cI a_rows n_rows f_rows, oX4 a_p1 a_p1_cells, aI cI a_p1_cells 55 f_p1_cells] none [oX7 h a_rows f_most z.2, aI cI a_rows n_rows z.1, oX4 a_p1 a_p1_cells, aI cI a_p1_cells 55 f_p1_cells] := by
  refine ct_ofV (own := RX7) (by decide +kernel) rfl (Nat.le_of_ble_eq_true rfl) (fun X C hD hR => ?_)
  unfold sX7_put at hs
  show gg cI X 2 0 0 [oX7 h a_rows f_most f_used, aI cI a_rows n_rows f_rows, oX4 a_p1 a_p1_cells, aI cI a_p1_cells 55 f_p1_cells] [(0, .ref h), (1, .ref a_p1)] 0 []
  refine g_aload_n (pl := 0) C dX7_put_0 rfl rfl ?_
  refine g_get C fX7_19 0 rfl rfl dX7_put_1 ?_
  refine g_aload_n (pl := 0) C dX7_put_4 rfl rfl ?_
  refine g_get C fX7_9 0 rfl rfl dX7_put_5 ?_
  refine g_icmp_lt (tgt := 44) C dX7_put_8 (by decide) (fun c1 => ?_) (fun c1 => ?_)
  · replace hs := vi_t hs c1
    refine g_aload_n (pl := 0) C dX7_put_44 rfl rfl ?_
    refine g_get C fX7_19 0 rfl rfl dX7_put_45 ?_
    refine g_if_lt (tgt := 82) C dX7_put_48 (by decide) (fun c2 => ?_) (fun c2 => ?_)
    · replace hs := vi_t hs c2
      cases hs
      exact hR _ _ dX7_put_82
    · replace hs := vi_f hs c2
      refine g_aload_n (pl := 1) C dX7_put_51 rfl rfl ?_
      refine g_getN C 2 rfl rfl dX7_put_52 ?_
      refine g_iconst (v := (nI 0)) C dX7_put_55 rfl ?_
      refine g_aload_n (pl := 0) C dX7_put_56 rfl rfl ?_
      refine g_get C fX7_15 0 rfl rfl dX7_put_57 ?_
      refine g_aload_n (pl := 0) C dX7_put_60 rfl rfl ?_
      refine g_get C fX7_19 0 rfl rfl dX7_put_61 ?_
      refine g_bipush (v := (nI 55)) C dX7_put_64 rfl ?_
      refine g_imul C dX7_put_66 ?_
      refine g_bipush (v := (nI 55)) C dX7_put_67 rfl ?_
      obtain ⟨b3, hs⟩ := vg_ok hs
      obtain ⟨u4, e_u4, hs⟩ := vlet_ex hs
      refine g_copy (ws' := [oX7 h a_rows f_most f_used, aI cI a_rows n_rows u4, oX4 a_p1 a_p1_cells, aI cI a_p1_cells 55 f_p1_cells]) C q3_18 q2_114 q2_113 q1_15 3 1 rfl rfl b3 (by decide) (by decide) (by rw [e_u4]; rfl) dX7_put_69 ?_
      refine g_aload_n (pl := 0) C dX7_put_72 rfl rfl ?_
      refine g_dup C dX7_put_73 rfl ?_
      refine g_get C fX7_19 0 rfl rfl dX7_put_74 ?_
      refine g_iconst (v := (nI 1)) C dX7_put_77 rfl ?_
      refine g_iadd C dX7_put_78 ?_
      obtain ⟨y5, e_y5, hs⟩ := vlet_ex hs
      refine g_topi e_y5 ?_
      refine g_putI (ws' := [oX7 h a_rows f_most y5, aI cI a_rows n_rows u4, oX4 a_p1 a_p1_cells, aI cI a_p1_cells 55 f_p1_cells]) C fX7_19 0 rfl (Nat.le_of_ble_eq_true rfl) rfl dX7_put_79 ?_
      cases hs
      exact hR _ _ dX7_put_82
  · replace hs := vi_f hs c1
    refine g_aload_n (pl := 0) C dX7_put_11 rfl rfl ?_
    refine g_get C fX7_15 0 rfl rfl dX7_put_12 ?_
    refine g_bipush (v := (nI 55)) C dX7_put_15 rfl ?_
    refine g_aload_n (pl := 0) C dX7_put_17 rfl rfl ?_
    refine g_get C fX7_15 0 rfl rfl dX7_put_18 ?_
    refine g_iconst (v := (nI 0)) C dX7_put_21 rfl ?_
    refine g_aload_n (pl := 0) C dX7_put_22 rfl rfl ?_
    refine g_get C fX7_9 0 rfl rfl dX7_put_23 ?_
    refine g_iconst (v := (nI 1)) C dX7_put_26 rfl ?_
    refine g_isub C dX7_put_27 ?_
    refine g_bipush (v := (nI 55)) C dX7_put_28 rfl ?_
    refine g_imul C dX7_put_30 ?_
    obtain ⟨b6, hs⟩ := vg_ok hs
    obtain ⟨u7, e_u7, hs⟩ := vlet_ex hs
    refine g_copy (ws' := [oX7 h a_rows f_most f_used, aI cI a_rows n_rows u7, oX4 a_p1 a_p1_cells, aI cI a_p1_cells 55 f_p1_cells]) C q3_18 q2_114 q2_113 q1_15 1 1 rfl rfl b6 (by decide) (by decide) (by rw [e_u7]; rfl) dX7_put_31 ?_
    refine g_aload_n (pl := 0) C dX7_put_34 rfl rfl ?_
    refine g_aload_n (pl := 0) C dX7_put_35 rfl rfl ?_
    refine g_get C fX7_9 0 rfl rfl dX7_put_36 ?_
    refine g_iconst (v := (nI 1)) C dX7_put_39 rfl ?_
    refine g_isub C dX7_put_40 ?_
    obtain ⟨y8, e_y8, hs⟩ := vlet_ex hs
    refine g_topi e_y8 ?_
    refine g_putI (ws' := [oX7 h a_rows f_most y8, aI cI a_rows n_rows u7, oX4 a_p1 a_p1_cells, aI cI a_p1_cells 55 f_p1_cells]) C fX7_19 0 rfl (Nat.le_of_ble_eq_true rfl) rfl dX7_put_41 ?_
    refine g_aload_n (pl := 0) C dX7_put_44 rfl rfl ?_
    refine g_get C fX7_19 0 rfl rfl dX7_put_45 ?_
    refine g_if_lt (tgt := 82) C dX7_put_48 (by decide) (fun c9 => ?_) (fun c9 => ?_)
    · replace hs := vi_t hs c9
      cases hs
      exact hR _ _ dX7_put_82
    · replace hs := vi_f hs c9
      refine g_aload_n (pl := 1) C dX7_put_51 rfl rfl ?_
      refine g_getN C 2 rfl rfl dX7_put_52 ?_
      refine g_iconst (v := (nI 0)) C dX7_put_55 rfl ?_
      refine g_aload_n (pl := 0) C dX7_put_56 rfl rfl ?_
      refine g_get C fX7_15 0 rfl rfl dX7_put_57 ?_
      refine g_aload_n (pl := 0) C dX7_put_60 rfl rfl ?_
      refine g_get C fX7_19 0 rfl rfl dX7_put_61 ?_
      refine g_bipush (v := (nI 55)) C dX7_put_64 rfl ?_
      refine g_imul C dX7_put_66 ?_
      refine g_bipush (v := (nI 55)) C dX7_put_67 rfl ?_
      obtain ⟨b10, hs⟩ := vg_ok hs
      obtain ⟨u11, e_u11, hs⟩ := vlet_ex hs
      refine g_copy (ws' := [oX7 h a_rows f_most y8, aI cI a_rows n_rows u11, oX4 a_p1 a_p1_cells, aI cI a_p1_cells 55 f_p1_cells]) C q3_18 q2_114 q2_113 q1_15 3 1 rfl rfl b10 (by decide) (by decide) (by rw [e_u11]; rfl) dX7_put_69 ?_
      refine g_aload_n (pl := 0) C dX7_put_72 rfl rfl ?_
      refine g_dup C dX7_put_73 rfl ?_
      refine g_get C fX7_19 0 rfl rfl dX7_put_74 ?_
      refine g_iconst (v := (nI 1)) C dX7_put_77 rfl ?_
      refine g_iadd C dX7_put_78 ?_
      obtain ⟨y12, e_y12, hs⟩ := vlet_ex hs
      refine g_topi e_y12 ?_
      refine g_putI (ws' := [oX7 h a_rows f_most y12, aI cI a_rows n_rows u11, oX4 a_p1 a_p1_cells, aI cI a_p1_cells 55 f_p1_cells]) C fX7_19 0 rfl (Nat.le_of_ble_eq_true rfl) rfl dX7_put_79 ?_
      cases hs
      exact hR _ _ dX7_put_82
def sX7_takeInto (n_rows : Nat) (f_rows : Nat → Int32) (f_most : Int32) (f_used : Int32) (f_p1_cells : Nat → Int32) : Option (Int32 × Int32 × (Nat → Int32)) :=
  vi (f_used < (nI 1)) inferInstance (
    some ((nI 0), f_used, f_p1_cells)) (
    vi (f_used ≤ f_most) inferInstance (
      vlet (f_used - (nI 1)) fun y3 =>
      vg (cpOk (y3 * (nI 55)) (nI 0) (nI 55) n_rows 55) (
      vlet (va_cpy f_rows f_p1_cells (Int32.toNatClampNeg (y3 * (nI 55))) (Int32.toNatClampNeg (nI 0)) (Int32.toNatClampNeg (nI 55))) fun u5 =>
      some ((nI 1), y3, u5))) (
      some ((nI 0), f_used, f_p1_cells)))
abbrev rmX7_takeInto : Room := { frames := 1, cells := 0, slots := 0, locals := 26 }
set_option maxHeartbeats 4000000 in
set_option maxRecDepth 100000 in
theorem cX7_takeInto_ct (l : Launch) (D : va_G) (cI : ClassId) (h : Nat) (a_rows : Nat) (a_p1 : Nat) (a_p1_cells : Nat) (n_rows : Nat) (f_most : Int32) (f_used : Int32) (f_rows : Nat → Int32) (f_p1_cells : Nat → Int32) {z : Int32 × Int32 × (Nat → Int32)} (hs : sX7_takeInto n_rows f_rows f_most f_used f_p1_cells = some z) : ct l yX7_takeInto (.code yX7_takeInto cX7_takeInto 2 (some .boolean) :: gtb) rmX7_takeInto D cI [.ref h, .ref a_p1] [oX7 h a_rows f_most f_used, aI cI a_rows n_rows f_rows, oX4 a_p1 a_p1_cells, aI cI a_p1_cells 55 f_p1_cells] (some (.int z.1)) [oX7 h a_rows f_most z.2.1, aI cI a_rows n_rows f_rows, oX4 a_p1 a_p1_cells, aI cI a_p1_cells 55 z.2.2] := by
  refine ct_ofZ (own := RX7) (by decide +kernel) rfl (Nat.le_of_ble_eq_true rfl) (fun X C hD hR => ?_)
  unfold sX7_takeInto at hs
  show gg cI X 2 0 0 [oX7 h a_rows f_most f_used, aI cI a_rows n_rows f_rows, oX4 a_p1 a_p1_cells, aI cI a_p1_cells 55 f_p1_cells] [(0, .ref h), (1, .ref a_p1)] 0 []
  refine g_aload_n (pl := 0) C dX7_takeInto_0 rfl rfl ?_
  refine g_get C fX7_19 0 rfl rfl dX7_takeInto_1 ?_
  refine g_iconst (v := (nI 1)) C dX7_takeInto_4 rfl ?_
  refine g_icmp_lt (tgt := 19) C dX7_takeInto_5 (by decide) (fun c1 => ?_) (fun c1 => ?_)
  · replace hs := vi_t hs c1
    refine g_iconst (v := (nI 0)) C dX7_takeInto_19 rfl ?_
    cases hs
    exact hR _ _ (Or.inl rfl) dX7_takeInto_20
  · replace hs := vi_f hs c1
    refine g_aload_n (pl := 0) C dX7_takeInto_8 rfl rfl ?_
    refine g_get C fX7_19 0 rfl rfl dX7_takeInto_9 ?_
    refine g_aload_n (pl := 0) C dX7_takeInto_12 rfl rfl ?_
    refine g_get C fX7_9 0 rfl rfl dX7_takeInto_13 ?_
    refine g_icmp_le (tgt := 21) C dX7_takeInto_16 (by decide) (fun c2 => ?_) (fun c2 => ?_)
    · replace hs := vi_t hs c2
      refine g_aload_n (pl := 0) C dX7_takeInto_21 rfl rfl ?_
      refine g_dup C dX7_takeInto_22 rfl ?_
      refine g_get C fX7_19 0 rfl rfl dX7_takeInto_23 ?_
      refine g_iconst (v := (nI 1)) C dX7_takeInto_26 rfl ?_
      refine g_isub C dX7_takeInto_27 ?_
      obtain ⟨y3, e_y3, hs⟩ := vlet_ex hs
      refine g_topi e_y3 ?_
      refine g_putI (ws' := [oX7 h a_rows f_most y3, aI cI a_rows n_rows f_rows, oX4 a_p1 a_p1_cells, aI cI a_p1_cells 55 f_p1_cells]) C fX7_19 0 rfl (Nat.le_of_ble_eq_true rfl) rfl dX7_takeInto_28 ?_
      refine g_aload_n (pl := 0) C dX7_takeInto_31 rfl rfl ?_
      refine g_get C fX7_15 0 rfl rfl dX7_takeInto_32 ?_
      refine g_aload_n (pl := 0) C dX7_takeInto_35 rfl rfl ?_
      refine g_get C fX7_19 0 rfl rfl dX7_takeInto_36 ?_
      refine g_bipush (v := (nI 55)) C dX7_takeInto_39 rfl ?_
      refine g_imul C dX7_takeInto_41 ?_
      refine g_aload_n (pl := 1) C dX7_takeInto_42 rfl rfl ?_
      refine g_getN C 2 rfl rfl dX7_takeInto_43 ?_
      refine g_iconst (v := (nI 0)) C dX7_takeInto_46 rfl ?_
      refine g_bipush (v := (nI 55)) C dX7_takeInto_47 rfl ?_
      obtain ⟨b4, hs⟩ := vg_ok hs
      obtain ⟨u5, e_u5, hs⟩ := vlet_ex hs
      refine g_copy (ws' := [oX7 h a_rows f_most y3, aI cI a_rows n_rows f_rows, oX4 a_p1 a_p1_cells, aI cI a_p1_cells 55 u5]) C q3_18 q2_114 q2_113 q1_15 1 3 rfl rfl b4 (by decide) (by decide) (by rw [e_u5]; rfl) dX7_takeInto_49 ?_
      refine g_iconst (v := (nI 1)) C dX7_takeInto_52 rfl ?_
      cases hs
      exact hR _ _ (Or.inr rfl) dX7_takeInto_53
    · replace hs := vi_f hs c2
      refine g_iconst (v := (nI 0)) C dX7_takeInto_19 rfl ?_
      cases hs
      exact hR _ _ (Or.inl rfl) dX7_takeInto_20

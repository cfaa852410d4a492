def sX4_cell (f_cells : Nat → Int32) (x1 : Int32) (x2 : Int32) : Option (Int32) :=
  vlet ((x1 * (nI 11)) + x2) fun y1 =>
  vi (y1 < 0) inferInstance (
    some ((nI 0))) (
    vi ((nI 55) ≤ y1) inferInstance (
      some ((nI 0))) (
      vg (vin y1 55) (
      some (f_cells (Int32.toNatClampNeg y1)))))
abbrev rmX4_cell : Room := { frames := 0, cells := 0, slots := 0, locals := 0 }
set_option maxHeartbeats 4000000 in
set_option maxRecDepth 100000 in
theorem cX4_cell_ct (l : Launch) (D : va_G) (cI : ClassId) (h : Nat) (a_cells : Nat) (f_cells : Nat → Int32) (x1 : Int32) (x2 : Int32) {z : Int32} (hs : sX4_cell f_cells x1 x2 = some z) : ct l yX4_cell (.code yX4_cell cX4_cell 4 (some .int) :: gtb) rmX4_cell D cI [.ref h, .int x1, .int x2] [oX4 h a_cells, aI cI a_cells 55 f_cells] (some (.int z)) [oX4 h a_cells, aI cI a_cells 55 f_cells] := by
  refine ct_ofI (own := RX4) (by decide +kernel) rfl (Nat.le_of_ble_eq_true rfl) (fun X C hD hR => ?_)
  unfold sX4_cell at hs
  show gg cI X 4 0 0 [oX4 h a_cells, aI cI a_cells 55 f_cells] [(0, .ref h), (1, .int x1), (2, .int x2)] 0 []
  refine g_iload_n (pl := 1) C dX4_cell_0 rfl rfl ?_
  refine g_bipush (v := (nI 11)) C dX4_cell_1 rfl ?_
  refine g_imul C dX4_cell_3 ?_
  refine g_iload_n (pl := 2) C dX4_cell_4 rfl rfl ?_
  refine g_iadd C dX4_cell_5 ?_
  obtain ⟨y1, e_y1, hs⟩ := vlet_ex hs
  refine g_topi e_y1 ?_
  refine g_istore_n (lv' := [(3, .int y1), (0, .ref h), (1, .int x1), (2, .int x2)]) C dX4_cell_6 rfl (by decide) rfl ?_
  refine g_iload_n (pl := 0) C dX4_cell_7 rfl rfl ?_
  refine g_if_lt (tgt := 29) C dX4_cell_8 (by decide) (fun c2 => ?_) (fun c2 => ?_)
  · replace hs := vi_t hs c2
    refine g_iconst (v := (nI 0)) C dX4_cell_29 rfl ?_
    cases hs
    exact hR _ _ dX4_cell_30
  · replace hs := vi_f hs c2
    refine g_iload_n (pl := 0) C dX4_cell_11 rfl rfl ?_
    refine g_aload_n (pl := 1) C dX4_cell_12 rfl rfl ?_
    refine g_get C fX4_9 0 rfl rfl dX4_cell_13 ?_
    refine g_alen (v := (nI 55)) C 1 rfl rfl dX4_cell_16 ?_
    refine g_icmp_ge (tgt := 29) C dX4_cell_17 (by decide) (fun c3 => ?_) (fun c3 => ?_)
    · replace hs := vi_t hs c3
      refine g_iconst (v := (nI 0)) C dX4_cell_29 rfl ?_
      cases hs
      exact hR _ _ dX4_cell_30
    · replace hs := vi_f hs c3
      refine g_aload_n (pl := 1) C dX4_cell_20 rfl rfl ?_
      refine g_get C fX4_9 0 rfl rfl dX4_cell_21 ?_
      refine g_iload_n (pl := 0) C dX4_cell_24 rfl rfl ?_
      obtain ⟨b4, hs⟩ := vg_ok hs
      refine g_iald C 1 rfl (vin_ok b4) dX4_cell_25 ?_
      refine g_goto (tgt := 30) C dX4_cell_26 (by decide) ?_
      cases hs
      exact hR _ _ dX4_cell_30
def sX4_sign (f_cells : Nat → Int32) (x1 : Int32) (x2 : Int32) : Option (Int32) :=
  vb (sX4_cell f_cells x1 ((nI 6) + x2)) fun z1 =>
  some (z1)
abbrev rmX4_sign : Room := { frames := 1, cells := 0, slots := 0, locals := 23 }
set_option maxHeartbeats 4000000 in
set_option maxRecDepth 100000 in
theorem cX4_sign_ct (l : Launch) (D : va_G) (cI : ClassId) (h : Nat) (a_cells : Nat) (f_cells : Nat → Int32) (x1 : Int32) (x2 : Int32) {z : Int32} (hs : sX4_sign f_cells x1 x2 = some z) : ct l yX4_sign (.code yX4_sign cX4_sign 3 (some .int) :: gtb) rmX4_sign D cI [.ref h, .int x1, .int x2] [oX4 h a_cells, aI cI a_cells 55 f_cells] (some (.int z)) [oX4 h a_cells, aI cI a_cells 55 f_cells] := by
  refine ct_ofI (own := RX4) (by decide +kernel) rfl (Nat.le_of_ble_eq_true rfl) (fun X C hD hR => ?_)
  unfold sX4_sign at hs
  show gg cI X 3 0 0 [oX4 h a_cells, aI cI a_cells 55 f_cells] [(0, .ref h), (1, .int x1), (2, .int x2)] 0 []
  refine g_aload_n (pl := 0) C dX4_sign_0 rfl rfl ?_
  refine g_iload_n (pl := 1) C dX4_sign_1 rfl rfl ?_
  refine g_bipush (v := (nI 6)) C dX4_sign_2 rfl ?_
  refine g_iload_n (pl := 2) C dX4_sign_4 rfl rfl ?_
  refine g_iadd C dX4_sign_5 ?_
  obtain ⟨z1, e_z1, hs⟩ := vb_ok hs
  refine g_callV (ws' := [oX4 h a_cells, aI cI a_cells 55 f_cells]) (rest := []) (st' := [.int z1]) C mX4_25 q2_232 [.int x1, .int ((nI 6) + x2)] (fun l D => cX4_cell_ct l D cI h a_cells f_cells x1 ((nI 6) + x2) e_z1) ⟨⟨rfl, rfl⟩, Nat.le_of_ble_eq_true rfl, Nat.le_of_ble_eq_true rfl⟩ 0 rfl rfl rfl [0, 1] rfl rfl rfl rfl rfl (Nat.le_of_ble_eq_true rfl) (Nat.zero_le _) (Nat.zero_le _) rfl dX4_sign_6 ?_
  cases hs
  exact hR _ _ dX4_sign_9
def sX4_set (f_cells : Nat → Int32) (x1 : Int32) (x2 : Int32) (x3 : Int32) : Option ((Nat → Int32)) :=
  vlet ((x1 * (nI 11)) + x2) fun y1 =>
  vi (y1 < 0) inferInstance (
    some (f_cells)) (
    vi ((nI 55) ≤ y1) inferInstance (
      some (f_cells)) (
      vg (vin y1 55) (
      vlet (upd f_cells (Int32.toNatClampNeg y1) x3) fun u5 =>
      some (u5))))
abbrev rmX4_set : Room := { frames := 0, cells := 0, slots := 0, locals := 0 }
set_option maxHeartbeats 4000000 in
set_option maxRecDepth 100000 in
theorem cX4_set_ct (l : Launch) (D : va_G) (cI : ClassId) (h : Nat) (a_cells : Nat) (f_cells : Nat → Int32) (x1 : Int32) (x2 : Int32) (x3 : Int32) {z : (Nat → Int32)} (hs : sX4_set f_cells x1 x2 x3 = some z) : ct l yX4_set (.code yX4_set cX4_set 5 none :: gtb) rmX4_set D cI [.ref h, .int x1, .int x2, .int x3] [oX4 h a_cells, aI cI a_cells 55 f_cells] none [oX4 h a_cells, aI cI a_cells 55 z] := by
  refine ct_ofV (own := RX4) (by decide +kernel) rfl (Nat.le_of_ble_eq_true rfl) (fun X C hD hR => ?_)
  unfold sX4_set at hs
  show gg cI X 5 0 0 [oX4 h a_cells, aI cI a_cells 55 f_cells] [(0, .ref h), (1, .int x1), (2, .int x2), (3, .int x3)] 0 []
  refine g_iload_n (pl := 1) C dX4_set_0 rfl rfl ?_
  refine g_bipush (v := (nI 11)) C dX4_set_1 rfl ?_
  refine g_imul C dX4_set_3 ?_
  refine g_iload_n (pl := 2) C dX4_set_4 rfl rfl ?_
  refine g_iadd C dX4_set_5 ?_
  obtain ⟨y1, e_y1, hs⟩ := vlet_ex hs
  refine g_topi e_y1 ?_
  refine g_istore (lv' := [(4, .int y1), (0, .ref h), (1, .int x1), (2, .int x2), (3, .int x3)]) C dX4_set_6 (by decide) rfl ?_
  refine g_iload (pl := 0) C dX4_set_8 rfl ?_
  refine g_if_lt (tgt := 31) C dX4_set_10 (by decide) (fun c2 => ?_) (fun c2 => ?_)
  · replace hs := vi_t hs c2
    cases hs
    exact hR _ _ dX4_set_31
  · replace hs := vi_f hs c2
    refine g_iload (pl := 0) C dX4_set_13 rfl ?_
    refine g_aload_n (pl := 1) C dX4_set_15 rfl rfl ?_
    refine g_get C fX4_9 0 rfl rfl dX4_set_16 ?_
    refine g_alen (v := (nI 55)) C 1 rfl rfl dX4_set_19 ?_
    refine g_icmp_ge (tgt := 31) C dX4_set_20 (by decide) (fun c3 => ?_) (fun c3 => ?_)
    · replace hs := vi_t hs c3
      cases hs
      exact hR _ _ dX4_set_31
    · replace hs := vi_f hs c3
      refine g_aload_n (pl := 1) C dX4_set_23 rfl rfl ?_
      refine g_get C fX4_9 0 rfl rfl dX4_set_24 ?_
      refine g_iload (pl := 0) C dX4_set_27 rfl ?_
      refine g_iload_n (pl := 4) C dX4_set_29 rfl rfl ?_
      obtain ⟨b4, hs⟩ := vg_ok hs
      obtain ⟨u5, e_u5, hs⟩ := vlet_ex hs
      refine g_iast (ws' := [oX4 h a_cells, aI cI a_cells 55 u5]) C 1 rfl (vin_ok b4) (by rw [e_u5]; rfl) dX4_set_30 ?_
      cases hs
      exact hR _ _ dX4_set_31
def LX4_start_3 (y_1 : Int32) (y_2 : Int32) (y_3 : Int32) (y_4 : Int32) : Nat → Int32 → (Nat → Int32) → Option ((Nat → Int32))
  | 0, _, _ => none
  | n + 1, y_5, f_cells =>
    vi ((nI 11) ≤ y_5) inferInstance (
      vb (sX4_set f_cells y_1 (nI 0) y_2) fun z2 =>
      vb (sX4_set z2 y_1 (nI 1) y_3) fun z3 =>
      vb (sX4_set z3 y_1 (nI 2) y_4) fun z4 =>
      some (z4)) (
      vb (sX4_set f_cells y_1 y_5 (nI 0)) fun z5 =>
      vlet (y_5 + (nI 1)) fun y6 =>
      LX4_start_3 y_1 y_2 y_3 y_4 n y6 z5)
def sX4_start (f_cells : Nat → Int32) (x1 : Int32) (x2 : Int32) (x3 : Int32) (x4 : Int32) : Option ((Nat → Int32)) :=
  LX4_start_3 x1 x2 x3 x4 vF (nI 0) f_cells
abbrev rmX4_start : Room := { frames := 1, cells := 0, slots := 0, locals := 24 }
set_option maxHeartbeats 4000000 in
set_option maxRecDepth 100000 in
theorem LX4_start_3_w {cI : ClassId} {X : xT} (C : cx cI X 6 cX4_start RX4 rmX4_start) (h : Nat) (a_cells : Nat) (y_1 : Int32) (y_2 : Int32) (y_3 : Int32) (y_4 : Int32) {z : (Nat → Int32)} (hR : ∀ (lv : List (Nat × Value)) (pc : Nat), decode cX4_start pc = .ok (.return_, 1) → gg cI X 6 0 0 [oX4 h a_cells, aI cI a_cells 55 z] lv pc []) : ∀ (n : Nat) (y_5 : Int32) (f_cells : Nat → Int32), LX4_start_3 y_1 y_2 y_3 y_4 n y_5 f_cells = some z → gg cI X 6 0 0 [oX4 h a_cells, aI cI a_cells 55 f_cells] [(0, .ref h), (1, .int y_1), (2, .int y_2), (3, .int y_3), (4, .int y_4), (5, .int y_5)] 3 [] := by
  intro n
  induction n with
  | zero =>
    intro y_5 f_cells hs
    exact nn_ok hs
  | succ n ih =>
    intro y_5 f_cells hs
    rw [LX4_start_3] at hs
    refine g_iload (pl := 5) C dX4_start_3 rfl ?_
    refine g_bipush (v := (nI 11)) C dX4_start_5 rfl ?_
    refine g_icmp_ge (tgt := 24) C dX4_start_7 (by decide) (fun c1 => ?_) (fun c1 => ?_)
    · replace hs := vi_t hs c1
      refine g_aload_n (pl := 0) C dX4_start_24 rfl rfl ?_
      refine g_iload_n (pl := 1) C dX4_start_25 rfl rfl ?_
      refine g_iconst (v := (nI 0)) C dX4_start_26 rfl ?_
      refine g_iload_n (pl := 2) C dX4_start_27 rfl rfl ?_
      obtain ⟨z2, e_z2, hs⟩ := vb_ok hs
      refine g_callV (ws' := [oX4 h a_cells, aI cI a_cells 55 z2]) (rest := []) (st' := []) C mX4_15 q2_105 [.int y_1, .int (nI 0), .int y_2] (fun l D => cX4_set_ct l D cI h a_cells f_cells y_1 (nI 0) y_2 e_z2) ⟨⟨rfl, rfl⟩, Nat.le_of_ble_eq_true rfl, Nat.le_of_ble_eq_true rfl⟩ 0 rfl rfl rfl [0, 1] rfl rfl rfl rfl rfl (Nat.le_of_ble_eq_true rfl) (Nat.zero_le _) (Nat.zero_le _) rfl dX4_start_28 ?_
      refine g_aload_n (pl := 0) C dX4_start_31 rfl rfl ?_
      refine g_iload_n (pl := 1) C dX4_start_32 rfl rfl ?_
      refine g_iconst (v := (nI 1)) C dX4_start_33 rfl ?_
      refine g_iload_n (pl := 3) C dX4_start_34 rfl rfl ?_
      obtain ⟨z3, e_z3, hs⟩ := vb_ok hs
      refine g_callV (ws' := [oX4 h a_cells, aI cI a_cells 55 z3]) (rest := []) (st' := []) C mX4_15 q2_105 [.int y_1, .int (nI 1), .int y_3] (fun l D => cX4_set_ct l D cI h a_cells z2 y_1 (nI 1) y_3 e_z3) ⟨⟨rfl, rfl⟩, Nat.le_of_ble_eq_true rfl, Nat.le_of_ble_eq_true rfl⟩ 0 rfl rfl rfl [0, 1] rfl rfl rfl rfl rfl (Nat.le_of_ble_eq_true rfl) (Nat.zero_le _) (Nat.zero_le _) rfl dX4_start_35 ?_
      refine g_aload_n (pl := 0) C dX4_start_38 rfl rfl ?_
      refine g_iload_n (pl := 1) C dX4_start_39 rfl rfl ?_
      refine g_iconst (v := (nI 2)) C dX4_start_40 rfl ?_
      refine g_iload (pl := 4) C dX4_start_41 rfl ?_
      obtain ⟨z4, e_z4, hs⟩ := vb_ok hs
      refine g_callV (ws' := [oX4 h a_cells, aI cI a_cells 55 z4]) (rest := []) (st' := []) C mX4_15 q2_105 [.int y_1, .int (nI 2), .int y_4] (fun l D => cX4_set_ct l D cI h a_cells z3 y_1 (nI 2) y_4 e_z4) ⟨⟨rfl, rfl⟩, Nat.le_of_ble_eq_true rfl, Nat.le_of_ble_eq_true rfl⟩ 0 rfl rfl rfl [0, 1] rfl rfl rfl rfl rfl (Nat.le_of_ble_eq_true rfl) (Nat.zero_le _) (Nat.zero_le _) rfl dX4_start_43 ?_
      cases hs
      exact hR _ _ dX4_start_46
    · replace hs := vi_f hs c1
      refine g_aload_n (pl := 0) C dX4_start_10 rfl rfl ?_
      refine g_iload_n (pl := 1) C dX4_start_11 rfl rfl ?_
      refine g_iload (pl := 5) C dX4_start_12 rfl ?_
      refine g_iconst (v := (nI 0)) C dX4_start_14 rfl ?_
      obtain ⟨z5, e_z5, hs⟩ := vb_ok hs
      refine g_callV (ws' := [oX4 h a_cells, aI cI a_cells 55 z5]) (rest := []) (st' := []) C mX4_15 q2_105 [.int y_1, .int y_5, .int (nI 0)] (fun l D => cX4_set_ct l D cI h a_cells f_cells y_1 y_5 (nI 0) e_z5) ⟨⟨rfl, rfl⟩, Nat.le_of_ble_eq_true rfl, Nat.le_of_ble_eq_true rfl⟩ 0 rfl rfl rfl [0, 1] rfl rfl rfl rfl rfl (Nat.le_of_ble_eq_true rfl) (Nat.zero_le _) (Nat.zero_le _) rfl dX4_start_15 ?_
      obtain ⟨y6, e_y6, hs⟩ := vlet_ex hs
      refine g_iinc (pl := 5) (lv' := [(5, .int y6), (0, .ref h), (1, .int y_1), (2, .int y_2), (3, .int y_3), (4, .int y_4)]) C dX4_start_18 rfl e_y6.symm (by decide) rfl ?_
      refine g_goto (tgt := 3) C dX4_start_21 (by decide) ?_
      refine g_sub [1, 2, 3, 4, 5, 0] rfl ?_
      exact ih y6 z5 hs
set_option maxHeartbeats 4000000 in
set_option maxRecDepth 100000 in
theorem cX4_start_ct (l : Launch) (D : va_G) (cI : ClassId) (h : Nat) (a_cells : Nat) (f_cells : Nat → Int32) (x1 : Int32) (x2 : Int32) (x3 : Int32) (x4 : Int32) {z : (Nat → Int32)} (hs : sX4_start f_cells x1 x2 x3 x4 = some z) : ct l yX4_start (.code yX4_start cX4_start 6 none :: gtb) rmX4_start D cI [.ref h, .int x1, .int x2, .int x3, .int x4] [oX4 h a_cells, aI cI a_cells 55 f_cells] none [oX4 h a_cells, aI cI a_cells 55 z] := by
  refine ct_ofV (own := RX4) (by decide +kernel) rfl (Nat.le_of_ble_eq_true rfl) (fun X C hD hR => ?_)
  unfold sX4_start at hs
  show gg cI X 6 0 0 [oX4 h a_cells, aI cI a_cells 55 f_cells] [(0, .ref h), (1, .int x1), (2, .int x2), (3, .int x3), (4, .int x4)] 0 []
  refine g_iconst (v := (nI 0)) C dX4_start_0 rfl ?_
  refine g_istore (lv' := [(5, .int (nI 0)), (0, .ref h), (1, .int x1), (2, .int x2), (3, .int x3), (4, .int x4)]) C dX4_start_1 (by decide) rfl ?_
  refine g_sub [1, 2, 3, 4, 5, 0] rfl ?_
  exact LX4_start_3_w C h a_cells x1 x2 x3 x4 hR _ (nI 0) f_cells hs
def sX4_copyFrom (f_cells : Nat → Int32) (f_p1_cells : Nat → Int32) : Option ((Nat → Int32)) :=
  vlet (va_cpy f_p1_cells f_cells (Int32.toNatClampNeg (nI 0)) (Int32.toNatClampNeg (nI 0)) (Int32.toNatClampNeg (nI 55))) fun u1 =>
  some (u1)
abbrev rmX4_copyFrom : Room := { frames := 1, cells := 0, slots := 0, locals := 26 }
set_option maxHeartbeats 4000000 in
set_option maxRecDepth 100000 in
theorem cX4_copyFrom_ct (l : Launch) (D : va_G) (cI : ClassId) (h : Nat) (a_cells : Nat) (a_p1 : Nat) (a_p1_cells : Nat) (f_cells : Nat → Int32) (f_p1_cells : Nat → Int32) {z : (Nat → Int32)} (hs : sX4_copyFrom f_cells f_p1_cells = some z) : ct l yX4_copyFrom (.code yX4_copyFrom cX4_copyFrom 2 none :: gtb) rmX4_copyFrom D cI [.ref h, .ref a_p1] [oX4 h a_cells, aI cI a_cells 55 f_cells, oX4 a_p1 a_p1_cells, aI cI a_p1_cells 55 f_p1_cells] none [oX4 h a_cells, aI cI a_cells 55 z, oX4 a_p1 a_p1_cells, aI cI a_p1_cells 55 f_p1_cells] := by
  refine ct_ofV (own := RX4) (by decide +kernel) rfl (Nat.le_of_ble_eq_true rfl) (fun X C hD hR => ?_)
  unfold sX4_copyFrom at hs
  show gg cI X 2 0 0 [oX4 h a_cells, aI cI a_cells 55 f_cells, oX4 a_p1 a_p1_cells, aI cI a_p1_cells 55 f_p1_cells] [(0, .ref h), (1, .ref a_p1)] 0 []
  refine g_aload_n (pl := 1) C dX4_copyFrom_0 rfl rfl ?_
  refine g_get C fX4_9 2 rfl rfl dX4_copyFrom_1 ?_
  refine g_iconst (v := (nI 0)) C dX4_copyFrom_4 rfl ?_
  refine g_aload_n (pl := 0) C dX4_copyFrom_5 rfl rfl ?_
  refine g_get C fX4_9 0 rfl rfl dX4_copyFrom_6 ?_
  refine g_iconst (v := (nI 0)) C dX4_copyFrom_9 rfl ?_
  refine g_bipush (v := (nI 55)) C dX4_copyFrom_10 rfl ?_
  obtain ⟨u1, e_u1, hs⟩ := vlet_ex hs
  refine g_copy (ws' := [oX4 h a_cells, aI cI a_cells 55 u1, oX4 a_p1 a_p1_cells, aI cI a_p1_cells 55 f_p1_cells]) C q2_112 q2_114 q2_113 q1_15 3 1 rfl rfl (by decide) (by decide) (by decide) (by rw [e_u1]; rfl) dX4_copyFrom_12 ?_
  cases hs
  exact hR _ _ dX4_copyFrom_15
def sX4_waits (f_cells : Nat → Int32) (x1 : Int32) : Option (Int32) :=
  vb (sX4_cell f_cells x1 (nI 5)) fun z1 =>
  vi (z1 = 0) inferInstance (
    some ((nI 1))) (
    some ((nI 0)))
abbrev rmX4_waits : Room := { frames := 1, cells := 0, slots := 0, locals := 23 }
set_option maxHeartbeats 4000000 in
set_option maxRecDepth 100000 in
theorem cX4_waits_ct (l : Launch) (D : va_G) (cI : ClassId) (h : Nat) (a_cells : Nat) (f_cells : Nat → Int32) (x1 : Int32) {z : Int32} (hs : sX4_waits f_cells x1 = some z) : ct l yX4_waits (.code yX4_waits cX4_waits 2 (some .boolean) :: gtb) rmX4_waits D cI [.ref h, .int x1] [oX4 h a_cells, aI cI a_cells 55 f_cells] (some (.int z)) [oX4 h a_cells, aI cI a_cells 55 f_cells] := by
  refine ct_ofZ (own := RX4) (by decide +kernel) rfl (Nat.le_of_ble_eq_true rfl) (fun X C hD hR => ?_)
  unfold sX4_waits at hs
  show gg cI X 2 0 0 [oX4 h a_cells, aI cI a_cells 55 f_cells] [(0, .ref h), (1, .int x1)] 0 []
  refine g_aload_n (pl := 0) C dX4_waits_0 rfl rfl ?_
  refine g_iload_n (pl := 1) C dX4_waits_1 rfl rfl ?_
  refine g_iconst (v := (nI 5)) C dX4_waits_2 rfl ?_
  obtain ⟨z1, e_z1, hs⟩ := vb_ok hs
  refine g_callV (ws' := [oX4 h a_cells, aI cI a_cells 55 f_cells]) (rest := []) (st' := [.int z1]) C mX4_25 q2_232 [.int x1, .int (nI 5)] (fun l D => cX4_cell_ct l D cI h a_cells f_cells x1 (nI 5) e_z1) ⟨⟨rfl, rfl⟩, Nat.le_of_ble_eq_true rfl, Nat.le_of_ble_eq_true rfl⟩ 0 rfl rfl rfl [0, 1] rfl rfl rfl rfl rfl (Nat.le_of_ble_eq_true rfl) (Nat.zero_le _) (Nat.zero_le _) rfl dX4_waits_3 ?_
  refine g_if_ne (tgt := 13) C dX4_waits_6 (by decide) (fun c2 => ?_) (fun c2 => ?_)
  · replace hs := vi_f hs c2
    refine g_iconst (v := (nI 0)) C dX4_waits_13 rfl ?_
    cases hs
    exact hR _ _ (Or.inl rfl) dX4_waits_14
  · replace hs := vi_t hs c2
    refine g_iconst (v := (nI 1)) C dX4_waits_9 rfl ?_
    refine g_goto (tgt := 14) C dX4_waits_10 (by decide) ?_
    cases hs
    exact hR _ _ (Or.inr rfl) dX4_waits_14
def sX4_canShow (f_cells : Nat → Int32) (x1 : Int32) : Option (Int32) :=
  vb (sX4_waits f_cells x1) fun z1 =>
  vi (z1 = 0) inferInstance (
    some ((nI 0))) (
    vb (sX4_cell f_cells x1 (nI 3)) fun z3 =>
    vi ((nI 5) ≤ z3) inferInstance (
      some ((nI 0))) (
      some ((nI 1))))
abbrev rmX4_canShow : Room := { frames := 2, cells := 0, slots := 0, locals := 44 }
set_option maxHeartbeats 4000000 in
set_option maxRecDepth 100000 in
theorem cX4_canShow_ct (l : Launch) (D : va_G) (cI : ClassId) (h : Nat) (a_cells : Nat) (f_cells : Nat → Int32) (x1 : Int32) {z : Int32} (hs : sX4_canShow f_cells x1 = some z) : ct l yX4_canShow (.code yX4_canShow cX4_canShow 2 (some .boolean) :: gtb) rmX4_canShow D cI [.ref h, .int x1] [oX4 h a_cells, aI cI a_cells 55 f_cells] (some (.int z)) [oX4 h a_cells, aI cI a_cells 55 f_cells] := by
  refine ct_ofZ (own := RX4) (by decide +kernel) rfl (Nat.le_of_ble_eq_true rfl) (fun X C hD hR => ?_)
  unfold sX4_canShow at hs
  show gg cI X 2 0 0 [oX4 h a_cells, aI cI a_cells 55 f_cells] [(0, .ref h), (1, .int x1)] 0 []
  refine g_aload_n (pl := 0) C dX4_canShow_0 rfl rfl ?_
  refine g_iload_n (pl := 1) C dX4_canShow_1 rfl rfl ?_
  obtain ⟨z1, e_z1, hs⟩ := vb_ok hs
  refine g_callV (ws' := [oX4 h a_cells, aI cI a_cells 55 f_cells]) (rest := []) (st' := [.int z1]) C mX4_29 q3_13 [.int x1] (fun l D => cX4_waits_ct l D cI h a_cells f_cells x1 e_z1) ⟨⟨rfl, rfl⟩, Nat.le_of_ble_eq_true rfl, Nat.le_of_ble_eq_true rfl⟩ 0 rfl rfl rfl [0, 1] rfl rfl rfl rfl rfl (Nat.le_of_ble_eq_true rfl) (Nat.zero_le _) (Nat.zero_le _) rfl dX4_canShow_2 ?_
  refine g_if_eq (tgt := 22) C dX4_canShow_5 (by decide) (fun c2 => ?_) (fun c2 => ?_)
  · replace hs := vi_t hs c2
    refine g_iconst (v := (nI 0)) C dX4_canShow_22 rfl ?_
    cases hs
    exact hR _ _ (Or.inl rfl) dX4_canShow_23
  · replace hs := vi_f hs c2
    refine g_aload_n (pl := 0) C dX4_canShow_8 rfl rfl ?_
    refine g_iload_n (pl := 1) C dX4_canShow_9 rfl rfl ?_
    refine g_iconst (v := (nI 3)) C dX4_canShow_10 rfl ?_
    obtain ⟨z3, e_z3, hs⟩ := vb_ok hs
    refine g_callV (ws' := [oX4 h a_cells, aI cI a_cells 55 f_cells]) (rest := []) (st' := [.int z3]) C mX4_25 q2_232 [.int x1, .int (nI 3)] (fun l D => cX4_cell_ct l D cI h a_cells f_cells x1 (nI 3) e_z3) ⟨⟨rfl, rfl⟩, Nat.le_of_ble_eq_true rfl, Nat.le_of_ble_eq_true rfl⟩ 0 rfl rfl rfl [0, 1] rfl rfl rfl rfl rfl (Nat.le_of_ble_eq_true rfl) (Nat.zero_le _) (Nat.zero_le _) rfl dX4_canShow_11 ?_
    refine g_iconst (v := (nI 5)) C dX4_canShow_14 rfl ?_
    refine g_icmp_ge (tgt := 22) C dX4_canShow_15 (by decide) (fun c4 => ?_) (fun c4 => ?_)
    · replace hs := vi_t hs c4
      refine g_iconst (v := (nI 0)) C dX4_canShow_22 rfl ?_
      cases hs
      exact hR _ _ (Or.inl rfl) dX4_canShow_23
    · replace hs := vi_f hs c4
      refine g_iconst (v := (nI 1)) C dX4_canShow_18 rfl ?_
      refine g_goto (tgt := 23) C dX4_canShow_19 (by decide) ?_
      cases hs
      exact hR _ _ (Or.inr rfl) dX4_canShow_23
def sX4_isFresh (f_cells : Nat → Int32) (x1 : Int32) : Option (Int32) :=
  vb (sX4_waits f_cells x1) fun z1 =>
  vi (z1 = 0) inferInstance (
    some ((nI 0))) (
    vb (sX4_cell f_cells x1 (nI 3)) fun z3 =>
    vi (z3 = 0) inferInstance (
      some ((nI 1))) (
      some ((nI 0))))
abbrev rmX4_isFresh : Room := { frames := 2, cells := 0, slots := 0, locals := 44 }
set_option maxHeartbeats 4000000 in
set_option maxRecDepth 100000 in
theorem cX4_isFresh_ct (l : Launch) (D : va_G) (cI : ClassId) (h : Nat) (a_cells : Nat) (f_cells : Nat → Int32) (x1 : Int32) {z : Int32} (hs : sX4_isFresh f_cells x1 = some z) : ct l yX4_isFresh (.code yX4_isFresh cX4_isFresh 2 (some .boolean) :: gtb) rmX4_isFresh D cI [.ref h, .int x1] [oX4 h a_cells, aI cI a_cells 55 f_cells] (some (.int z)) [oX4 h a_cells, aI cI a_cells 55 f_cells] := by
  refine ct_ofZ (own := RX4) (by decide +kernel) rfl (Nat.le_of_ble_eq_true rfl) (fun X C hD hR => ?_)
  unfold sX4_isFresh at hs
  show gg cI X 2 0 0 [oX4 h a_cells, aI cI a_cells 55 f_cells] [(0, .ref h), (1, .int x1)] 0 []
  refine g_aload_n (pl := 0) C dX4_isFresh_0 rfl rfl ?_
  refine g_iload_n (pl := 1) C dX4_isFresh_1 rfl rfl ?_
  obtain ⟨z1, e_z1, hs⟩ := vb_ok hs
  refine g_callV (ws' := [oX4 h a_cells, aI cI a_cells 55 f_cells]) (rest := []) (st' := [.int z1]) C mX4_29 q3_13 [.int x1] (fun l D => cX4_waits_ct l D cI h a_cells f_cells x1 e_z1) ⟨⟨rfl, rfl⟩, Nat.le_of_ble_eq_true rfl, Nat.le_of_ble_eq_true rfl⟩ 0 rfl rfl rfl [0, 1] rfl rfl rfl rfl rfl (Nat.le_of_ble_eq_true rfl) (Nat.zero_le _) (Nat.zero_le _) rfl dX4_isFresh_2 ?_
  refine g_if_eq (tgt := 21) C dX4_isFresh_5 (by decide) (fun c2 => ?_) (fun c2 => ?_)
  · replace hs := vi_t hs c2
    refine g_iconst (v := (nI 0)) C dX4_isFresh_21 rfl ?_
    cases hs
    exact hR _ _ (Or.inl rfl) dX4_isFresh_22
  · replace hs := vi_f hs c2
    refine g_aload_n (pl := 0) C dX4_isFresh_8 rfl rfl ?_
    refine g_iload_n (pl := 1) C dX4_isFresh_9 rfl rfl ?_
    refine g_iconst (v := (nI 3)) C dX4_isFresh_10 rfl ?_
    obtain ⟨z3, e_z3, hs⟩ := vb_ok hs
    refine g_callV (ws' := [oX4 h a_cells, aI cI a_cells 55 f_cells]) (rest := []) (st' := [.int z3]) C mX4_25 q2_232 [.int x1, .int (nI 3)] (fun l D => cX4_cell_ct l D cI h a_cells f_cells x1 (nI 3) e_z3) ⟨⟨rfl, rfl⟩, Nat.le_of_ble_eq_true rfl, Nat.le_of_ble_eq_true rfl⟩ 0 rfl rfl rfl [0, 1] rfl rfl rfl rfl rfl (Nat.le_of_ble_eq_true rfl) (Nat.zero_le _) (Nat.zero_le _) rfl dX4_isFresh_11 ?_
    refine g_if_ne (tgt := 21) C dX4_isFresh_14 (by decide) (fun c4 => ?_) (fun c4 => ?_)
    · replace hs := vi_f hs c4
      refine g_iconst (v := (nI 0)) C dX4_isFresh_21 rfl ?_
      cases hs
      exact hR _ _ (Or.inl rfl) dX4_isFresh_22
    · replace hs := vi_t hs c4
      refine g_iconst (v := (nI 1)) C dX4_isFresh_17 rfl ?_
      refine g_goto (tgt := 22) C dX4_isFresh_18 (by decide) ?_
      cases hs
      exact hR _ _ (Or.inr rfl) dX4_isFresh_22
def sX4_canPay (f_cells : Nat → Int32) (x1 : Int32) (x2 : Int32) (x3 : Int32) : Option (Int32) :=
  vb (sX4_cell f_cells x1 (nI 2)) fun z1 =>
  vb (sX4_cell f_cells x1 (nI 3)) fun z2 =>
  vi (z1 < (x2 * (z2 + x3))) inferInstance (
    some ((nI 0))) (
    some ((nI 1)))
abbrev rmX4_canPay : Room := { frames := 1, cells := 0, slots := 0, locals := 23 }
set_option maxHeartbeats 4000000 in
set_option maxRecDepth 100000 in
theorem cX4_canPay_ct (l : Launch) (D : va_G) (cI : ClassId) (h : Nat) (a_cells : Nat) (f_cells : Nat → Int32) (x1 : Int32) (x2 : Int32) (x3 : Int32) {z : Int32} (hs : sX4_canPay f_cells x1 x2 x3 = some z) : ct l yX4_canPay (.code yX4_canPay cX4_canPay 4 (some .boolean) :: gtb) rmX4_canPay D cI [.ref h, .int x1, .int x2, .int x3] [oX4 h a_cells, aI cI a_cells 55 f_cells] (some (.int z)) [oX4 h a_cells, aI cI a_cells 55 f_cells] := by
  refine ct_ofZ (own := RX4) (by decide +kernel) rfl (Nat.le_of_ble_eq_true rfl) (fun X C hD hR => ?_)
  unfold sX4_canPay at hs
  show gg cI X 4 0 0 [oX4 h a_cells, aI cI a_cells 55 f_cells] [(0, .ref h), (1, .int x1), (2, .int x2), (3, .int x3)] 0 []
  refine g_aload_n (pl := 0) C dX4_canPay_0 rfl rfl ?_
  refine g_iload_n (pl := 1) C dX4_canPay_1 rfl rfl ?_
  refine g_iconst (v := (nI 2)) C dX4_canPay_2 rfl ?_
  obtain ⟨z1, e_z1, hs⟩ := vb_ok hs
  refine g_callV (ws' := [oX4 h a_cells, aI cI a_cells 55 f_cells]) (rest := []) (st' := [.int z1]) C mX4_25 q2_232 [.int x1, .int (nI 2)] (fun l D => cX4_cell_ct l D cI h a_cells f_cells x1 (nI 2) e_z1) ⟨⟨rfl, rfl⟩, Nat.le_of_ble_eq_true rfl, Nat.le_of_ble_eq_true rfl⟩ 0 rfl rfl rfl [0, 1] rfl rfl rfl rfl rfl (Nat.le_of_ble_eq_true rfl) (Nat.zero_le _) (Nat.zero_le _) rfl dX4_canPay_3 ?_
  refine g_iload_n (pl := 2) C dX4_canPay_6 rfl rfl ?_
  refine g_aload_n (pl := 0) C dX4_canPay_7 rfl rfl ?_
  refine g_iload_n (pl := 1) C dX4_canPay_8 rfl rfl ?_
  refine g_iconst (v := (nI 3)) C dX4_canPay_9 rfl ?_
  obtain ⟨z2, e_z2, hs⟩ := vb_ok hs
  refine g_callV (ws' := [oX4 h a_cells, aI cI a_cells 55 f_cells]) (rest := [.int x2, .int z1]) (st' := [.int z2, .int x2, .int z1]) C mX4_25 q2_232 [.int x1, .int (nI 3)] (fun l D => cX4_cell_ct l D cI h a_cells f_cells x1 (nI 3) e_z2) ⟨⟨rfl, rfl⟩, Nat.le_of_ble_eq_true rfl, Nat.le_of_ble_eq_true rfl⟩ 0 rfl rfl rfl [0, 1] rfl rfl rfl rfl rfl (Nat.le_of_ble_eq_true rfl) (Nat.zero_le _) (Nat.zero_le _) rfl dX4_canPay_10 ?_
  refine g_iload_n (pl := 3) C dX4_canPay_13 rfl rfl ?_
  refine g_iadd C dX4_canPay_14 ?_
  refine g_imul C dX4_canPay_15 ?_
  refine g_icmp_lt (tgt := 23) C dX4_canPay_16 (by decide) (fun c3 => ?_) (fun c3 => ?_)
  · replace hs := vi_t hs c3
    refine g_iconst (v := (nI 0)) C dX4_canPay_23 rfl ?_
    cases hs
    exact hR _ _ (Or.inl rfl) dX4_canPay_24
  · replace hs := vi_f hs c3
    refine g_iconst (v := (nI 1)) C dX4_canPay_19 rfl ?_
    refine g_goto (tgt := 24) C dX4_canPay_20 (by decide) ?_
    cases hs
    exact hR _ _ (Or.inr rfl) dX4_canPay_24
def sX4_payAndPass (f_cells : Nat → Int32) (x1 : Int32) (x2 : Int32) : Option ((Nat → Int32)) :=
  vb (sX4_cell f_cells x1 (nI 2)) fun z1 =>
  vb (sX4_cell f_cells x1 (nI 3)) fun z2 =>
  vb (sX4_set f_cells x1 (nI 2) (z1 - (x2 * z2))) fun z3 =>
  vb (sX4_set z3 x1 (nI 5) (nI 1)) fun z4 =>
  some (z4)
abbrev rmX4_payAndPass : Room := { frames := 1, cells := 0, slots := 0, locals := 24 }
set_option maxHeartbeats 4000000 in
set_option maxRecDepth 100000 in
theorem cX4_payAndPass_ct (l : Launch) (D : va_G) (cI : ClassId) (h : Nat) (a_cells : Nat) (f_cells : Nat → Int32) (x1 : Int32) (x2 : Int32) {z : (Nat → Int32)} (hs : sX4_payAndPass f_cells x1 x2 = some z) : ct l yX4_payAndPass (.code yX4_payAndPass cX4_payAndPass 3 none :: gtb) rmX4_payAndPass D cI [.ref h, .int x1, .int x2] [oX4 h a_cells, aI cI a_cells 55 f_cells] none [oX4 h a_cells, aI cI a_cells 55 z] := by
  refine ct_ofV (own := RX4) (by decide +kernel) rfl (Nat.le_of_ble_eq_true rfl) (fun X C hD hR => ?_)
  unfold sX4_payAndPass at hs
  show gg cI X 3 0 0 [oX4 h a_cells, aI cI a_cells 55 f_cells] [(0, .ref h), (1, .int x1), (2, .int x2)] 0 []
  refine g_aload_n (pl := 0) C dX4_payAndPass_0 rfl rfl ?_
  refine g_iload_n (pl := 1) C dX4_payAndPass_1 rfl rfl ?_
  refine g_iconst (v := (nI 2)) C dX4_payAndPass_2 rfl ?_
  refine g_aload_n (pl := 0) C dX4_payAndPass_3 rfl rfl ?_
  refine g_iload_n (pl := 1) C dX4_payAndPass_4 rfl rfl ?_
  refine g_iconst (v := (nI 2)) C dX4_payAndPass_5 rfl ?_
  obtain ⟨z1, e_z1, hs⟩ := vb_ok hs
  refine g_callV (ws' := [oX4 h a_cells, aI cI a_cells 55 f_cells]) (rest := [.int (nI 2), .int x1, .ref h]) (st' := [.int z1, .int (nI 2), .int x1, .ref h]) C mX4_25 q2_232 [.int x1, .int (nI 2)] (fun l D => cX4_cell_ct l D cI h a_cells f_cells x1 (nI 2) e_z1) ⟨⟨rfl, rfl⟩, Nat.le_of_ble_eq_true rfl, Nat.le_of_ble_eq_true rfl⟩ 0 rfl rfl rfl [0, 1] rfl rfl rfl rfl rfl (Nat.le_of_ble_eq_true rfl) (Nat.zero_le _) (Nat.zero_le _) rfl dX4_payAndPass_6 ?_
  refine g_iload_n (pl := 2) C dX4_payAndPass_9 rfl rfl ?_
  refine g_aload_n (pl := 0) C dX4_payAndPass_10 rfl rfl ?_
  refine g_iload_n (pl := 1) C dX4_payAndPass_11 rfl rfl ?_
  refine g_iconst (v := (nI 3)) C dX4_payAndPass_12 rfl ?_
  obtain ⟨z2, e_z2, hs⟩ := vb_ok hs
  refine g_callV (ws' := [oX4 h a_cells, aI cI a_cells 55 f_cells]) (rest := [.int x2, .int z1, .int (nI 2), .int x1, .ref h]) (st' := [.int z2, .int x2, .int z1, .int (nI 2), .int x1, .ref h]) C mX4_25 q2_232 [.int x1, .int (nI 3)] (fun l D => cX4_cell_ct l D cI h a_cells f_cells x1 (nI 3) e_z2) ⟨⟨rfl, rfl⟩, Nat.le_of_ble_eq_true rfl, Nat.le_of_ble_eq_true rfl⟩ 0 rfl rfl rfl [0, 1] rfl rfl rfl rfl rfl (Nat.le_of_ble_eq_true rfl) (Nat.zero_le _) (Nat.zero_le _) rfl dX4_payAndPass_13 ?_
  refine g_imul C dX4_payAndPass_16 ?_
  refine g_isub C dX4_payAndPass_17 ?_
  obtain ⟨z3, e_z3, hs⟩ := vb_ok hs
  refine g_callV (ws' := [oX4 h a_cells, aI cI a_cells 55 z3]) (rest := []) (st' := []) C mX4_15 q2_105 [.int x1, .int (nI 2), .int (z1 - (x2 * z2))] (fun l D => cX4_set_ct l D cI h a_cells f_cells x1 (nI 2) (z1 - (x2 * z2)) e_z3) ⟨⟨rfl, rfl⟩, Nat.le_of_ble_eq_true rfl, Nat.le_of_ble_eq_true rfl⟩ 0 rfl rfl rfl [0, 1] rfl rfl rfl rfl rfl (Nat.le_of_ble_eq_true rfl) (Nat.zero_le _) (Nat.zero_le _) rfl dX4_payAndPass_18 ?_
  refine g_aload_n (pl := 0) C dX4_payAndPass_21 rfl rfl ?_
  refine g_iload_n (pl := 1) C dX4_payAndPass_22 rfl rfl ?_
  refine g_iconst (v := (nI 5)) C dX4_payAndPass_23 rfl ?_
  refine g_iconst (v := (nI 1)) C dX4_payAndPass_24 rfl ?_
  obtain ⟨z4, e_z4, hs⟩ := vb_ok hs
  refine g_callV (ws' := [oX4 h a_cells, aI cI a_cells 55 z4]) (rest := []) (st' := []) C mX4_15 q2_105 [.int x1, .int (nI 5), .int (nI 1)] (fun l D => cX4_set_ct l D cI h a_cells z3 x1 (nI 5) (nI 1) e_z4) ⟨⟨rfl, rfl⟩, Nat.le_of_ble_eq_true rfl, Nat.le_of_ble_eq_true rfl⟩ 0 rfl rfl rfl [0, 1] rfl rfl rfl rfl rfl (Nat.le_of_ble_eq_true rfl) (Nat.zero_le _) (Nat.zero_le _) rfl dX4_payAndPass_25 ?_
  cases hs
  exact hR _ _ dX4_payAndPass_28
def sX4_addSign (f_cells : Nat → Int32) (x1 : Int32) (x2 : Int32) : Option ((Nat → Int32)) :=
  vb (sX4_cell f_cells x1 (nI 3)) fun z1 =>
  vi ((nI 5) ≤ z1) inferInstance (
    some (f_cells)) (
    vb (sX4_set f_cells x1 ((nI 6) + z1) x2) fun z3 =>
    vb (sX4_set z3 x1 (nI 3) (z1 + (nI 1))) fun z4 =>
    some (z4))
abbrev rmX4_addSign : Room := { frames := 1, cells := 0, slots := 0, locals := 24 }
set_option maxHeartbeats 4000000 in
set_option maxRecDepth 100000 in
theorem cX4_addSign_ct (l : Launch) (D : va_G) (cI : ClassId) (h : Nat) (a_cells : Nat) (f_cells : Nat → Int32) (x1 : Int32) (x2 : Int32) {z : (Nat → Int32)} (hs : sX4_addSign f_cells x1 x2 = some z) : ct l yX4_addSign (.code yX4_addSign cX4_addSign 4 none :: gtb) rmX4_addSign D cI [.ref h, .int x1, .int x2] [oX4 h a_cells, aI cI a_cells 55 f_cells] none [oX4 h a_cells, aI cI a_cells 55 z] := by
  refine ct_ofV (own := RX4) (by decide +kernel) rfl (Nat.le_of_ble_eq_true rfl) (fun X C hD hR => ?_)
  unfold sX4_addSign at hs
  show gg cI X 4 0 0 [oX4 h a_cells, aI cI a_cells 55 f_cells] [(0, .ref h), (1, .int x1), (2, .int x2)] 0 []
  refine g_aload_n (pl := 0) C dX4_addSign_0 rfl rfl ?_
  refine g_iload_n (pl := 1) C dX4_addSign_1 rfl rfl ?_
  refine g_iconst (v := (nI 3)) C dX4_addSign_2 rfl ?_
  obtain ⟨z1, e_z1, hs⟩ := vb_ok hs
  refine g_callV (ws' := [oX4 h a_cells, aI cI a_cells 55 f_cells]) (rest := []) (st' := [.int z1]) C mX4_25 q2_232 [.int x1, .int (nI 3)] (fun l D => cX4_cell_ct l D cI h a_cells f_cells x1 (nI 3) e_z1) ⟨⟨rfl, rfl⟩, Nat.le_of_ble_eq_true rfl, Nat.le_of_ble_eq_true rfl⟩ 0 rfl rfl rfl [0, 1] rfl rfl rfl rfl rfl (Nat.le_of_ble_eq_true rfl) (Nat.zero_le _) (Nat.zero_le _) rfl dX4_addSign_3 ?_
  refine g_istore_n (lv' := [(3, .int z1), (0, .ref h), (1, .int x1), (2, .int x2)]) C dX4_addSign_6 rfl (by decide) rfl ?_
  refine g_iload_n (pl := 0) C dX4_addSign_7 rfl rfl ?_
  refine g_iconst (v := (nI 5)) C dX4_addSign_8 rfl ?_
  refine g_icmp_ge (tgt := 31) C dX4_addSign_9 (by decide) (fun c2 => ?_) (fun c2 => ?_)
  · replace hs := vi_t hs c2
    cases hs
    exact hR _ _ dX4_addSign_31
  · replace hs := vi_f hs c2
    refine g_aload_n (pl := 1) C dX4_addSign_12 rfl rfl ?_
    refine g_iload_n (pl := 2) C dX4_addSign_13 rfl rfl ?_
    refine g_bipush (v := (nI 6)) C dX4_addSign_14 rfl ?_
    refine g_iload_n (pl := 0) C dX4_addSign_16 rfl rfl ?_
    refine g_iadd C dX4_addSign_17 ?_
    refine g_iload_n (pl := 3) C dX4_addSign_18 rfl rfl ?_
    obtain ⟨z3, e_z3, hs⟩ := vb_ok hs
    refine g_callV (ws' := [oX4 h a_cells, aI cI a_cells 55 z3]) (rest := []) (st' := []) C mX4_15 q2_105 [.int x1, .int ((nI 6) + z1), .int x2] (fun l D => cX4_set_ct l D cI h a_cells f_cells x1 ((nI 6) + z1) x2 e_z3) ⟨⟨rfl, rfl⟩, Nat.le_of_ble_eq_true rfl, Nat.le_of_ble_eq_true rfl⟩ 0 rfl rfl rfl [0, 1] rfl rfl rfl rfl rfl (Nat.le_of_ble_eq_true rfl) (Nat.zero_le _) (Nat.zero_le _) rfl dX4_addSign_19 ?_
    refine g_aload_n (pl := 1) C dX4_addSign_22 rfl rfl ?_
    refine g_iload_n (pl := 2) C dX4_addSign_23 rfl rfl ?_
    refine g_iconst (v := (nI 3)) C dX4_addSign_24 rfl ?_
    refine g_iload_n (pl := 0) C dX4_addSign_25 rfl rfl ?_
    refine g_iconst (v := (nI 1)) C dX4_addSign_26 rfl ?_
    refine g_iadd C dX4_addSign_27 ?_
    obtain ⟨z4, e_z4, hs⟩ := vb_ok hs
    refine g_callV (ws' := [oX4 h a_cells, aI cI a_cells 55 z4]) (rest := []) (st' := []) C mX4_15 q2_105 [.int x1, .int (nI 3), .int (z1 + (nI 1))] (fun l D => cX4_set_ct l D cI h a_cells z3 x1 (nI 3) (z1 + (nI 1)) e_z4) ⟨⟨rfl, rfl⟩, Nat.le_of_ble_eq_true rfl, Nat.le_of_ble_eq_true rfl⟩ 0 rfl rfl rfl [0, 1] rfl rfl rfl rfl rfl (Nat.le_of_ble_eq_true rfl) (Nat.zero_le _) (Nat.zero_le _) rfl dX4_addSign_28 ?_
    cases hs
    exact hR _ _ dX4_addSign_31
def sX4_addWrongGuess (f_cells : Nat → Int32) (x1 : Int32) (x2 : Int32) : Option ((Nat → Int32)) :=
  vb (sX4_cell f_cells x1 (nI 4)) fun z1 =>
  vb (sX4_set f_cells x1 (nI 4) (z1 ||| ((nI 1) <<< (x2 &&& 31)))) fun z2 =>
  vb (sX4_cell z2 x1 (nI 4)) fun z3 =>
  vb (sJ6_bitCount_0f7a4 z3) fun z4 =>
  vi (z4 < (nI 3)) inferInstance (
    some (z2)) (
    vb (sX4_set z2 x1 (nI 5) (nI 2)) fun z6 =>
    some (z6))
abbrev rmX4_addWrongGuess : Room := { frames := 1, cells := 0, slots := 0, locals := 24 }
set_option maxHeartbeats 4000000 in
set_option maxRecDepth 100000 in
theorem cX4_addWrongGuess_ct (l : Launch) (D : va_G) (cI : ClassId) (h : Nat) (a_cells : Nat) (f_cells : Nat → Int32) (x1 : Int32) (x2 : Int32) {z : (Nat → Int32)} (hs : sX4_addWrongGuess f_cells x1 x2 = some z) : ct l yX4_addWrongGuess (.code yX4_addWrongGuess cX4_addWrongGuess 3 none :: gtb) rmX4_addWrongGuess D cI [.ref h, .int x1, .int x2] [oX4 h a_cells, aI cI a_cells 55 f_cells] none [oX4 h a_cells, aI cI a_cells 55 z] := by
  refine ct_ofV (own := RX4) (by decide +kernel) rfl (Nat.le_of_ble_eq_true rfl) (fun X C hD hR => ?_)
  unfold sX4_addWrongGuess at hs
  show gg cI X 3 0 0 [oX4 h a_cells, aI cI a_cells 55 f_cells] [(0, .ref h), (1, .int x1), (2, .int x2)] 0 []
  refine g_aload_n (pl := 0) C dX4_addWrongGuess_0 rfl rfl ?_
  refine g_iload_n (pl := 1) C dX4_addWrongGuess_1 rfl rfl ?_
  refine g_iconst (v := (nI 4)) C dX4_addWrongGuess_2 rfl ?_
  refine g_aload_n (pl := 0) C dX4_addWrongGuess_3 rfl rfl ?_
  refine g_iload_n (pl := 1) C dX4_addWrongGuess_4 rfl rfl ?_
  refine g_iconst (v := (nI 4)) C dX4_addWrongGuess_5 rfl ?_
  obtain ⟨z1, e_z1, hs⟩ := vb_ok hs
  refine g_callV (ws' := [oX4 h a_cells, aI cI a_cells 55 f_cells]) (rest := [.int (nI 4), .int x1, .ref h]) (st' := [.int z1, .int (nI 4), .int x1, .ref h]) C mX4_25 q2_232 [.int x1, .int (nI 4)] (fun l D => cX4_cell_ct l D cI h a_cells f_cells x1 (nI 4) e_z1) ⟨⟨rfl, rfl⟩, Nat.le_of_ble_eq_true rfl, Nat.le_of_ble_eq_true rfl⟩ 0 rfl rfl rfl [0, 1] rfl rfl rfl rfl rfl (Nat.le_of_ble_eq_true rfl) (Nat.zero_le _) (Nat.zero_le _) rfl dX4_addWrongGuess_6 ?_
  refine g_iconst (v := (nI 1)) C dX4_addWrongGuess_9 rfl ?_
  refine g_iload_n (pl := 2) C dX4_addWrongGuess_10 rfl rfl ?_
  refine g_ishl C dX4_addWrongGuess_11 ?_
  refine g_ior C dX4_addWrongGuess_12 ?_
  obtain ⟨z2, e_z2, hs⟩ := vb_ok hs
  refine g_callV (ws' := [oX4 h a_cells, aI cI a_cells 55 z2]) (rest := []) (st' := []) C mX4_15 q2_105 [.int x1, .int (nI 4), .int (z1 ||| ((nI 1) <<< (x2 &&& 31)))] (fun l D => cX4_set_ct l D cI h a_cells f_cells x1 (nI 4) (z1 ||| ((nI 1) <<< (x2 &&& 31))) e_z2) ⟨⟨rfl, rfl⟩, Nat.le_of_ble_eq_true rfl, Nat.le_of_ble_eq_true rfl⟩ 0 rfl rfl rfl [0, 1] rfl rfl rfl rfl rfl (Nat.le_of_ble_eq_true rfl) (Nat.zero_le _) (Nat.zero_le _) rfl dX4_addWrongGuess_13 ?_
  refine g_aload_n (pl := 0) C dX4_addWrongGuess_16 rfl rfl ?_
  refine g_iload_n (pl := 1) C dX4_addWrongGuess_17 rfl rfl ?_
  refine g_iconst (v := (nI 4)) C dX4_addWrongGuess_18 rfl ?_
  obtain ⟨z3, e_z3, hs⟩ := vb_ok hs
  refine g_callV (ws' := [oX4 h a_cells, aI cI a_cells 55 z2]) (rest := []) (st' := [.int z3]) C mX4_25 q2_232 [.int x1, .int (nI 4)] (fun l D => cX4_cell_ct l D cI h a_cells z2 x1 (nI 4) e_z3) ⟨⟨rfl, rfl⟩, Nat.le_of_ble_eq_true rfl, Nat.le_of_ble_eq_true rfl⟩ 0 rfl rfl rfl [0, 1] rfl rfl rfl rfl rfl (Nat.le_of_ble_eq_true rfl) (Nat.zero_le _) (Nat.zero_le _) rfl dX4_addWrongGuess_19 ?_
  obtain ⟨z4, e_z4, hs⟩ := vb_ok hs
  refine g_callS (ws' := [oX4 h a_cells, aI cI a_cells 55 z2]) (rest := []) (st' := [.int z4]) C mX4_33 q3_67 [.int z3] (fun l D => cJ6_bitCount_0f7a4_ct l D cI z3 e_z4) ⟨⟨rfl, rfl⟩, Nat.le_of_ble_eq_true rfl, Nat.le_of_ble_eq_true rfl⟩ rfl [] rfl rfl rfl rfl rfl (Nat.le_of_ble_eq_true rfl) (Nat.zero_le _) (Nat.zero_le _) rfl dX4_addWrongGuess_22 ?_
  refine g_iconst (v := (nI 3)) C dX4_addWrongGuess_25 rfl ?_
  refine g_icmp_lt (tgt := 36) C dX4_addWrongGuess_26 (by decide) (fun c5 => ?_) (fun c5 => ?_)
  · replace hs := vi_t hs c5
    cases hs
    exact hR _ _ dX4_addWrongGuess_36
  · replace hs := vi_f hs c5
    refine g_aload_n (pl := 0) C dX4_addWrongGuess_29 rfl rfl ?_
    refine g_iload_n (pl := 1) C dX4_addWrongGuess_30 rfl rfl ?_
    refine g_iconst (v := (nI 5)) C dX4_addWrongGuess_31 rfl ?_
    refine g_iconst (v := (nI 2)) C dX4_addWrongGuess_32 rfl ?_
    obtain ⟨z6, e_z6, hs⟩ := vb_ok hs
    refine g_callV (ws' := [oX4 h a_cells, aI cI a_cells 55 z6]) (rest := []) (st' := []) C mX4_15 q2_105 [.int x1, .int (nI 5), .int (nI 2)] (fun l D => cX4_set_ct l D cI h a_cells z2 x1 (nI 5) (nI 2) e_z6) ⟨⟨rfl, rfl⟩, Nat.le_of_ble_eq_true rfl, Nat.le_of_ble_eq_true rfl⟩ 0 rfl rfl rfl [0, 1] rfl rfl rfl rfl rfl (Nat.le_of_ble_eq_true rfl) (Nat.zero_le _) (Nat.zero_le _) rfl dX4_addWrongGuess_33 ?_
    cases hs
    exact hR _ _ dX4_addWrongGuess_36

def sX3_peek (n_text : Nat) (f_text : Nat → Int32) (f_end : Int32) (f_at : Int32) : Option (Int32) :=
  vi (f_at < 0) inferInstance (
    some ((nI 0))) (
    vi (f_end ≤ f_at) inferInstance (
      some ((nI 0))) (
      vi ((nI n_text) ≤ f_at) inferInstance (
        some ((nI 0))) (
        vg (vin f_at n_text) (
        some (f_text (Int32.toNatClampNeg f_at))))))
abbrev rmX3_peek : Room := { frames := 0, cells := 0, slots := 0, locals := 0 }
set_option maxHeartbeats 4000000 in
set_option maxRecDepth 100000 in
theorem cX3_peek_ct (l : Launch) (D : va_G) (cI : ClassId) (h : Nat) (a_text : Nat) (n_text : Nat) (f_end : Int32) (f_at : Int32) (f_text : Nat → Int32) {z : Int32} (hs : sX3_peek n_text f_text f_end f_at = some z) : ct l yX3_peek (.code yX3_peek cX3_peek 1 (some .int) :: gtb) rmX3_peek D cI [.ref h] [oX3 h a_text f_end f_at, aI cI a_text n_text f_text] (some (.int z)) [oX3 h a_text f_end f_at, aI cI a_text n_text f_text] := by
  refine ct_ofI (own := RX3) (by decide +kernel) rfl (Nat.le_of_ble_eq_true rfl) (fun X C hD hR => ?_)
  unfold sX3_peek at hs
  show gg cI X 1 0 0 [oX3 h a_text f_end f_at, aI cI a_text n_text f_text] [(0, .ref h)] 0 []
  refine g_aload_n (pl := 0) C dX3_peek_0 rfl rfl ?_
  refine g_get C fX3_25 0 rfl rfl dX3_peek_1 ?_
  refine g_if_lt (tgt := 42) C dX3_peek_4 (by decide) (fun c1 => ?_) (fun c1 => ?_)
  · replace hs := vi_t hs c1
    refine g_iconst (v := (nI 0)) C dX3_peek_42 rfl ?_
    cases hs
    exact hR _ _ dX3_peek_43
  · replace hs := vi_f hs c1
    refine g_aload_n (pl := 0) C dX3_peek_7 rfl rfl ?_
    refine g_get C fX3_25 0 rfl rfl dX3_peek_8 ?_
    refine g_aload_n (pl := 0) C dX3_peek_11 rfl rfl ?_
    refine g_get C fX3_21 0 rfl rfl dX3_peek_12 ?_
    refine g_icmp_ge (tgt := 42) C dX3_peek_15 (by decide) (fun c2 => ?_) (fun c2 => ?_)
    · replace hs := vi_t hs c2
      refine g_iconst (v := (nI 0)) C dX3_peek_42 rfl ?_
      cases hs
      exact hR _ _ dX3_peek_43
    · replace hs := vi_f hs c2
      refine g_aload_n (pl := 0) C dX3_peek_18 rfl rfl ?_
      refine g_get C fX3_25 0 rfl rfl dX3_peek_19 ?_
      refine g_aload_n (pl := 0) C dX3_peek_22 rfl rfl ?_
      refine g_get C fX3_9 0 rfl rfl dX3_peek_23 ?_
      refine g_alen (v := (nI n_text)) C 1 rfl rfl dX3_peek_26 ?_
      refine g_icmp_ge (tgt := 42) C dX3_peek_27 (by decide) (fun c3 => ?_) (fun c3 => ?_)
      · replace hs := vi_t hs c3
        refine g_iconst (v := (nI 0)) C dX3_peek_42 rfl ?_
        cases hs
        exact hR _ _ dX3_peek_43
      · replace hs := vi_f hs c3
        refine g_aload_n (pl := 0) C dX3_peek_30 rfl rfl ?_
        refine g_get C fX3_9 0 rfl rfl dX3_peek_31 ?_
        refine g_aload_n (pl := 0) C dX3_peek_34 rfl rfl ?_
        refine g_get C fX3_25 0 rfl rfl dX3_peek_35 ?_
        obtain ⟨b4, hs⟩ := vg_ok hs
        refine g_iald C 1 rfl (vin_ok b4) dX3_peek_38 ?_
        refine g_goto (tgt := 43) C dX3_peek_39 (by decide) ?_
        cases hs
        exact hR _ _ dX3_peek_43
def sX3_isFigure (x1 : Int32) : Option (Int32) :=
  vi (x1 < (nI 48)) inferInstance (
    some ((nI 0))) (
    vi ((nI 57) < x1) inferInstance (
      some ((nI 0))) (
      some ((nI 1))))
abbrev rmX3_isFigure : Room := { frames := 0, cells := 0, slots := 0, locals := 0 }
set_option maxHeartbeats 4000000 in
set_option maxRecDepth 100000 in
theorem cX3_isFigure_ct (l : Launch) (D : va_G) (cI : ClassId) (x1 : Int32) {z : Int32} (hs : sX3_isFigure x1 = some z) : ct l yX3_isFigure (.code yX3_isFigure cX3_isFigure 1 (some .boolean) :: gtb) rmX3_isFigure D cI [.int x1] [] (some (.int z)) [] := by
  refine ct_ofZ (own := RX3) (by decide +kernel) rfl (Nat.le_of_ble_eq_true rfl) (fun X C hD hR => ?_)
  unfold sX3_isFigure at hs
  show gg cI X 1 0 0 [] [(0, .int x1)] 0 []
  refine g_iload_n (pl := 0) C dX3_isFigure_0 rfl rfl ?_
  refine g_bipush (v := (nI 48)) C dX3_isFigure_1 rfl ?_
  refine g_icmp_lt (tgt := 16) C dX3_isFigure_3 (by decide) (fun c1 => ?_) (fun c1 => ?_)
  · replace hs := vi_t hs c1
    refine g_iconst (v := (nI 0)) C dX3_isFigure_16 rfl ?_
    cases hs
    exact hR _ _ (Or.inl rfl) dX3_isFigure_17
  · replace hs := vi_f hs c1
    refine g_iload_n (pl := 0) C dX3_isFigure_6 rfl rfl ?_
    refine g_bipush (v := (nI 57)) C dX3_isFigure_7 rfl ?_
    refine g_icmp_gt (tgt := 16) C dX3_isFigure_9 (by decide) (fun c2 => ?_) (fun c2 => ?_)
    · replace hs := vi_t hs c2
      refine g_iconst (v := (nI 0)) C dX3_isFigure_16 rfl ?_
      cases hs
      exact hR _ _ (Or.inl rfl) dX3_isFigure_17
    · replace hs := vi_f hs c2
      refine g_iconst (v := (nI 1)) C dX3_isFigure_12 rfl ?_
      refine g_goto (tgt := 17) C dX3_isFigure_13 (by decide) ?_
      cases hs
      exact hR _ _ (Or.inr rfl) dX3_isFigure_17
def LX3_number_5 (y_1 : Int32) (y_2 : Int32) (f_text : Nat → Int32) (f_end : Int32) (n_text : Nat) : Nat → Int32 → Int32 → Int32 → Option (Int32 × Int32)
  | 0, _, _, _ => none
  | n + 1, y_3, y_4, f_at =>
    vi ((nI 2) ≤ y_4) inferInstance (
      vi (y_4 ≤ 0) inferInstance (
        some ((-4), f_at)) (
        vi (y_3 < y_1) inferInstance (
          some ((-4), f_at)) (
          vi (y_2 < y_3) inferInstance (
            some ((-4), f_at)) (
            some (y_3, f_at))))) (
      vb (sX3_peek n_text f_text f_end f_at) fun z5 =>
      vb (sX3_isFigure z5) fun z6 =>
      vi (z6 = 0) inferInstance (
        vi (y_4 ≤ 0) inferInstance (
          some ((-4), f_at)) (
          vi (y_3 < y_1) inferInstance (
            some ((-4), f_at)) (
            vi (y_2 < y_3) inferInstance (
              some ((-4), f_at)) (
              some (y_3, f_at))))) (
        vb (sX3_peek n_text f_text f_end f_at) fun z11 =>
        vlet ((((nI 10) * y_3) + z11) - (nI 48)) fun y12 =>
        vlet (y_4 + (nI 1)) fun y13 =>
        vlet (f_at + (nI 1)) fun y14 =>
        LX3_number_5 y_1 y_2 f_text f_end n_text n y12 y13 y14))
def sX3_number (n_text : Nat) (f_text : Nat → Int32) (f_end : Int32) (f_at : Int32) (x1 : Int32) (x2 : Int32) : Option (Int32 × Int32) :=
  LX3_number_5 x1 x2 f_text f_end n_text vF (nI 0) (nI 0) f_at
abbrev rmX3_number : Room := { frames := 1, cells := 0, slots := 0, locals := 20 }
set_option maxHeartbeats 4000000 in
set_option maxRecDepth 100000 in
theorem LX3_number_5_w {cI : ClassId} {X : xT} (C : cx cI X 5 cX3_number RX3 rmX3_number) (h : Nat) (a_text : Nat) (n_text : Nat) (f_end : Int32) (f_text : Nat → Int32) (y_1 : Int32) (y_2 : Int32) {z : Int32 × Int32} (hR : ∀ (lv : List (Nat × Value)) (pc : Nat), decode cX3_number pc = .ok (.ireturn, 1) → gg cI X 5 0 0 [oX3 h a_text f_end z.2, aI cI a_text n_text f_text] lv pc [.int z.1]) : ∀ (n : Nat) (y_3 : Int32) (y_4 : Int32) (f_at : Int32), LX3_number_5 y_1 y_2 f_text f_end n_text n y_3 y_4 f_at = some z → gg cI X 5 0 0 [oX3 h a_text f_end f_at, aI cI a_text n_text f_text] [(0, .ref h), (1, .int y_1), (2, .int y_2), (3, .int y_3), (4, .int y_4)] 5 [] := by
  intro n
  induction n with
  | zero =>
    intro y_3 y_4 f_at hs
    exact nn_ok hs
  | succ n ih =>
    intro y_3 y_4 f_at hs
    rw [LX3_number_5] at hs
    refine g_iload (pl := 4) C dX3_number_5 rfl ?_
    refine g_iconst (v := (nI 2)) C dX3_number_7 rfl ?_
    refine g_icmp_ge (tgt := 50) C dX3_number_8 (by decide) (fun c1 => ?_) (fun c1 => ?_)
    · replace hs := vi_t hs c1
      refine g_iload (pl := 4) C dX3_number_50 rfl ?_
      refine g_if_le (tgt := 69) C dX3_number_52 (by decide) (fun c2 => ?_) (fun c2 => ?_)
      · replace hs := vi_t hs c2
        refine g_bipush (v := (-4)) C dX3_number_69 rfl ?_
        cases hs
        exact hR _ _ dX3_number_71
      · replace hs := vi_f hs c2
        refine g_iload_n (pl := 3) C dX3_number_55 rfl rfl ?_
        refine g_iload_n (pl := 1) C dX3_number_56 rfl rfl ?_
        refine g_icmp_lt (tgt := 69) C dX3_number_57 (by decide) (fun c3 => ?_) (fun c3 => ?_)
        · replace hs := vi_t hs c3
          refine g_bipush (v := (-4)) C dX3_number_69 rfl ?_
          cases hs
          exact hR _ _ dX3_number_71
        · replace hs := vi_f hs c3
          refine g_iload_n (pl := 3) C dX3_number_60 rfl rfl ?_
          refine g_iload_n (pl := 2) C dX3_number_61 rfl rfl ?_
          refine g_icmp_gt (tgt := 69) C dX3_number_62 (by decide) (fun c4 => ?_) (fun c4 => ?_)
          · replace hs := vi_t hs c4
            refine g_bipush (v := (-4)) C dX3_number_69 rfl ?_
            cases hs
            exact hR _ _ dX3_number_71
          · replace hs := vi_f hs c4
            refine g_iload_n (pl := 3) C dX3_number_65 rfl rfl ?_
            refine g_goto (tgt := 71) C dX3_number_66 (by decide) ?_
            cases hs
            exact hR _ _ dX3_number_71
    · replace hs := vi_f hs c1
      refine g_aload_n (pl := 0) C dX3_number_11 rfl rfl ?_
      obtain ⟨z5, e_z5, hs⟩ := vb_ok hs
      refine g_callV (ws' := [oX3 h a_text f_end f_at, aI cI a_text n_text f_text]) (rest := []) (st' := [.int z5]) C mX3_37 q2_30 [] (fun l D => cX3_peek_ct l D cI h a_text n_text f_end f_at f_text e_z5) ⟨⟨rfl, rfl⟩, Nat.le_of_ble_eq_true rfl, Nat.le_of_ble_eq_true rfl⟩ 0 rfl rfl rfl [0, 1] rfl rfl rfl rfl rfl (Nat.le_of_ble_eq_true rfl) (Nat.zero_le _) (Nat.zero_le _) rfl dX3_number_12 ?_
      obtain ⟨z6, e_z6, hs⟩ := vb_ok hs
      refine g_callS (ws' := [oX3 h a_text f_end f_at, aI cI a_text n_text f_text]) (rest := []) (st' := [.int z6]) C mX3_100 q2_41 [.int z5] (fun l D => cX3_isFigure_ct l D cI z5 e_z6) ⟨⟨rfl, rfl⟩, Nat.le_of_ble_eq_true rfl, Nat.le_of_ble_eq_true rfl⟩ rfl [] rfl rfl rfl rfl rfl (Nat.le_of_ble_eq_true rfl) (Nat.zero_le _) (Nat.zero_le _) rfl dX3_number_15 ?_
      refine g_if_eq (tgt := 50) C dX3_number_18 (by decide) (fun c7 => ?_) (fun c7 => ?_)
      · replace hs := vi_t hs c7
        refine g_iload (pl := 4) C dX3_number_50 rfl ?_
        refine g_if_le (tgt := 69) C dX3_number_52 (by decide) (fun c8 => ?_) (fun c8 => ?_)
        · replace hs := vi_t hs c8
          refine g_bipush (v := (-4)) C dX3_number_69 rfl ?_
          cases hs
          exact hR _ _ dX3_number_71
        · replace hs := vi_f hs c8
          refine g_iload_n (pl := 3) C dX3_number_55 rfl rfl ?_
          refine g_iload_n (pl := 1) C dX3_number_56 rfl rfl ?_
          refine g_icmp_lt (tgt := 69) C dX3_number_57 (by decide) (fun c9 => ?_) (fun c9 => ?_)
          · replace hs := vi_t hs c9
            refine g_bipush (v := (-4)) C dX3_number_69 rfl ?_
            cases hs
            exact hR _ _ dX3_number_71
          · replace hs := vi_f hs c9
            refine g_iload_n (pl := 3) C dX3_number_60 rfl rfl ?_
            refine g_iload_n (pl := 2) C dX3_number_61 rfl rfl ?_
            refine g_icmp_gt (tgt := 69) C dX3_number_62 (by decide) (fun c10 => ?_) (fun c10 => ?_)
            · replace hs := vi_t hs c10
              refine g_bipush (v := (-4)) C dX3_number_69 rfl ?_
              cases hs
              exact hR _ _ dX3_number_71
            · replace hs := vi_f hs c10
              refine g_iload_n (pl := 3) C dX3_number_65 rfl rfl ?_
              refine g_goto (tgt := 71) C dX3_number_66 (by decide) ?_
              cases hs
              exact hR _ _ dX3_number_71
      · replace hs := vi_f hs c7
        refine g_bipush (v := (nI 10)) C dX3_number_21 rfl ?_
        refine g_iload_n (pl := 3) C dX3_number_23 rfl rfl ?_
        refine g_imul C dX3_number_24 ?_
        refine g_aload_n (pl := 0) C dX3_number_25 rfl rfl ?_
        obtain ⟨z11, e_z11, hs⟩ := vb_ok hs
        refine g_callV (ws' := [oX3 h a_text f_end f_at, aI cI a_text n_text f_text]) (rest := [.int ((nI 10) * y_3)]) (st' := [.int z11, .int ((nI 10) * y_3)]) C mX3_37 q2_30 [] (fun l D => cX3_peek_ct l D cI h a_text n_text f_end f_at f_text e_z11) ⟨⟨rfl, rfl⟩, Nat.le_of_ble_eq_true rfl, Nat.le_of_ble_eq_true rfl⟩ 0 rfl rfl rfl [0, 1] rfl rfl rfl rfl rfl (Nat.le_of_ble_eq_true rfl) (Nat.zero_le _) (Nat.zero_le _) rfl dX3_number_26 ?_
        refine g_iadd C dX3_number_29 ?_
        refine g_bipush (v := (nI 48)) C dX3_number_30 rfl ?_
        refine g_isub C dX3_number_32 ?_
        obtain ⟨y12, e_y12, hs⟩ := vlet_ex hs
        refine g_topi e_y12 ?_
        refine g_istore_n (lv' := [(3, .int y12), (0, .ref h), (1, .int y_1), (2, .int y_2), (4, .int y_4)]) C dX3_number_33 rfl (by decide) rfl ?_
        obtain ⟨y13, e_y13, hs⟩ := vlet_ex hs
        refine g_iinc (pl := 4) (lv' := [(4, .int y13), (3, .int y12), (0, .ref h), (1, .int y_1), (2, .int y_2)]) C dX3_number_34 rfl e_y13.symm (by decide) rfl ?_
        refine g_aload_n (pl := 2) C dX3_number_37 rfl rfl ?_
        refine g_dup C dX3_number_38 rfl ?_
        refine g_get C fX3_25 0 rfl rfl dX3_number_39 ?_
        refine g_iconst (v := (nI 1)) C dX3_number_42 rfl ?_
        refine g_iadd C dX3_number_43 ?_
        obtain ⟨y14, e_y14, hs⟩ := vlet_ex hs
        refine g_topi e_y14 ?_
        refine g_putI (ws' := [oX3 h a_text f_end y14, aI cI a_text n_text f_text]) C fX3_25 0 rfl (Nat.le_of_ble_eq_true rfl) rfl dX3_number_44 ?_
        refine g_goto (tgt := 5) C dX3_number_47 (by decide) ?_
        refine g_sub [2, 3, 4, 1, 0] rfl ?_
        exact ih y12 y13 y14 hs
set_option maxHeartbeats 4000000 in
set_option maxRecDepth 100000 in
theorem cX3_number_ct (l : Launch) (D : va_G) (cI : ClassId) (h : Nat) (a_text : Nat) (n_text : Nat) (f_end : Int32) (f_at : Int32) (f_text : Nat → Int32) (x1 : Int32) (x2 : Int32) {z : Int32 × Int32} (hs : sX3_number n_text f_text f_end f_at x1 x2 = some z) : ct l yX3_number (.code yX3_number cX3_number 5 (some .int) :: gtb) rmX3_number D cI [.ref h, .int x1, .int x2] [oX3 h a_text f_end f_at, aI cI a_text n_text f_text] (some (.int z.1)) [oX3 h a_text f_end z.2, aI cI a_text n_text f_text] := by
  refine ct_ofI (own := RX3) (by decide +kernel) rfl (Nat.le_of_ble_eq_true rfl) (fun X C hD hR => ?_)
  unfold sX3_number at hs
  show gg cI X 5 0 0 [oX3 h a_text f_end f_at, aI cI a_text n_text f_text] [(0, .ref h), (1, .int x1), (2, .int x2)] 0 []
  refine g_iconst (v := (nI 0)) C dX3_number_0 rfl ?_
  refine g_istore_n (lv' := [(3, .int (nI 0)), (0, .ref h), (1, .int x1), (2, .int x2)]) C dX3_number_1 rfl (by decide) rfl ?_
  refine g_iconst (v := (nI 0)) C dX3_number_2 rfl ?_
  refine g_istore (lv' := [(4, .int (nI 0)), (3, .int (nI 0)), (0, .ref h), (1, .int x1), (2, .int x2)]) C dX3_number_3 (by decide) rfl ?_
  refine g_sub [2, 3, 4, 1, 0] rfl ?_
  exact LX3_number_5_w C h a_text n_text f_end f_text x1 x2 hR _ (nI 0) (nI 0) f_at hs
def sX3_passes (n_text : Nat) (f_text : Nat → Int32) (f_end : Int32) (f_at : Int32) (x1 : Int32) : Option (Int32 × Int32) :=
  vb (sX3_peek n_text f_text f_end f_at) fun z1 =>
  vi (z1 = x1) inferInstance (
    vlet (f_at + (nI 1)) fun y3 =>
    some ((nI 1), y3)) (
    some ((nI 0), f_at))
abbrev rmX3_passes : Room := { frames := 1, cells := 0, slots := 0, locals := 20 }
set_option maxHeartbeats 4000000 in
set_option maxRecDepth 100000 in
theorem cX3_passes_ct (l : Launch) (D : va_G) (cI : ClassId) (h : Nat) (a_text : Nat) (n_text : Nat) (f_end : Int32) (f_at : Int32) (f_text : Nat → Int32) (x1 : Int32) {z : Int32 × Int32} (hs : sX3_passes n_text f_text f_end f_at x1 = some z) : ct l yX3_passes (.code yX3_passes cX3_passes 2 (some .boolean) :: gtb) rmX3_passes D cI [.ref h, .int x1] [oX3 h a_text f_end f_at, aI cI a_text n_text f_text] (some (.int z.1)) [oX3 h a_text f_end z.2, aI cI a_text n_text f_text] := by
  refine ct_ofZ (own := RX3) (by decide +kernel) rfl (Nat.le_of_ble_eq_true rfl) (fun X C hD hR => ?_)
  unfold sX3_passes at hs
  show gg cI X 2 0 0 [oX3 h a_text f_end f_at, aI cI a_text n_text f_text] [(0, .ref h), (1, .int x1)] 0 []
  refine g_aload_n (pl := 0) C dX3_passes_0 rfl rfl ?_
  obtain ⟨z1, e_z1, hs⟩ := vb_ok hs
  refine g_callV (ws' := [oX3 h a_text f_end f_at, aI cI a_text n_text f_text]) (rest := []) (st' := [.int z1]) C mX3_37 q2_30 [] (fun l D => cX3_peek_ct l D cI h a_text n_text f_end f_at f_text e_z1) ⟨⟨rfl, rfl⟩, Nat.le_of_ble_eq_true rfl, Nat.le_of_ble_eq_true rfl⟩ 0 rfl rfl rfl [0, 1] rfl rfl rfl rfl rfl (Nat.le_of_ble_eq_true rfl) (Nat.zero_le _) (Nat.zero_le _) rfl dX3_passes_1 ?_
  refine g_iload_n (pl := 1) C dX3_passes_4 rfl rfl ?_
  refine g_icmp_eq (tgt := 10) C dX3_passes_5 (by decide) (fun c2 => ?_) (fun c2 => ?_)
  · replace hs := vi_t hs c2
    refine g_aload_n (pl := 0) C dX3_passes_10 rfl rfl ?_
    refine g_dup C dX3_passes_11 rfl ?_
    refine g_get C fX3_25 0 rfl rfl dX3_passes_12 ?_
    refine g_iconst (v := (nI 1)) C dX3_passes_15 rfl ?_
    refine g_iadd C dX3_passes_16 ?_
    obtain ⟨y3, e_y3, hs⟩ := vlet_ex hs
    refine g_topi e_y3 ?_
    refine g_putI (ws' := [oX3 h a_text f_end y3, aI cI a_text n_text f_text]) C fX3_25 0 rfl (Nat.le_of_ble_eq_true rfl) rfl dX3_passes_17 ?_
    refine g_iconst (v := (nI 1)) C dX3_passes_20 rfl ?_
    cases hs
    exact hR _ _ (Or.inr rfl) dX3_passes_21
  · replace hs := vi_f hs c2
    refine g_iconst (v := (nI 0)) C dX3_passes_8 rfl ?_
    cases hs
    exact hR _ _ (Or.inl rfl) dX3_passes_9
def LX3_readWord_30 (y_2 : Int32) (f_text : Nat → Int32) (f_end : Int32) (f_p1_commons : Nat → Int32) (f_p1_lengths : Nat → Int32) (f_p1_parts : Nat → Int32) (f_p1_wordCount : Int32) (n_text : Nat) : Nat → Int32 → Int32 → Int32 → Option (Int32 × Int32 × (Nat → Int32) × (Nat → Int32) × (Nat → Int32) × Int32)
  | 0, _, _, _ => none
  | n + 1, y_3, y_4, f_at =>
    vi ((nI 3) ≤ y_3) inferInstance (
      vi (y_3 ≤ 0) inferInstance (
        some ((nI 0), f_at, f_p1_commons, f_p1_lengths, f_p1_parts, f_p1_wordCount)) (
        vb (sX3_passes n_text f_text f_end f_at (nI 59)) fun z3 =>
        vi (z3.1 = 0) inferInstance (
          some ((nI 0), z3.2, f_p1_commons, f_p1_lengths, f_p1_parts, f_p1_wordCount)) (
          vb (sX0_addWord f_p1_commons f_p1_lengths f_p1_parts f_p1_wordCount y_2 y_3 y_4) fun z5 =>
          vi (z5.1 = 0) inferInstance (
            some ((nI 0), z3.2, z5.2.1, z5.2.2.1, z5.2.2.2.1, z5.2.2.2.2)) (
            some ((nI 1), z3.2, z5.2.1, z5.2.2.1, z5.2.2.2.1, z5.2.2.2.2))))) (
      vb (sX3_peek n_text f_text f_end f_at) fun z7 =>
      vi (z7 < (nI 97)) inferInstance (
        vi (y_3 ≤ 0) inferInstance (
          some ((nI 0), f_at, f_p1_commons, f_p1_lengths, f_p1_parts, f_p1_wordCount)) (
          vb (sX3_passes n_text f_text f_end f_at (nI 59)) fun z10 =>
          vi (z10.1 = 0) inferInstance (
            some ((nI 0), z10.2, f_p1_commons, f_p1_lengths, f_p1_parts, f_p1_wordCount)) (
            vb (sX0_addWord f_p1_commons f_p1_lengths f_p1_parts f_p1_wordCount y_2 y_3 y_4) fun z12 =>
            vi (z12.1 = 0) inferInstance (
              some ((nI 0), z10.2, z12.2.1, z12.2.2.1, z12.2.2.2.1, z12.2.2.2.2)) (
              some ((nI 1), z10.2, z12.2.1, z12.2.2.1, z12.2.2.2.1, z12.2.2.2.2))))) (
        vb (sX3_peek n_text f_text f_end f_at) fun z14 =>
        vi ((nI 103) ≤ z14) inferInstance (
          vi (y_3 ≤ 0) inferInstance (
            some ((nI 0), f_at, f_p1_commons, f_p1_lengths, f_p1_parts, f_p1_wordCount)) (
            vb (sX3_passes n_text f_text f_end f_at (nI 59)) fun z17 =>
            vi (z17.1 = 0) inferInstance (
              some ((nI 0), z17.2, f_p1_commons, f_p1_lengths, f_p1_parts, f_p1_wordCount)) (
              vb (sX0_addWord f_p1_commons f_p1_lengths f_p1_parts f_p1_wordCount y_2 y_3 y_4) fun z19 =>
              vi (z19.1 = 0) inferInstance (
                some ((nI 0), z17.2, z19.2.1, z19.2.2.1, z19.2.2.2.1, z19.2.2.2.2)) (
                some ((nI 1), z17.2, z19.2.1, z19.2.2.1, z19.2.2.2.1, z19.2.2.2.2))))) (
          vb (sX3_peek n_text f_text f_end f_at) fun z21 =>
          vlet (y_4 ||| ((nI 1) <<< ((z21 - (nI 97)) &&& 31))) fun y22 =>
          vlet (y_3 + (nI 1)) fun y23 =>
          vlet (f_at + (nI 1)) fun y24 =>
          LX3_readWord_30 y_2 f_text f_end f_p1_commons f_p1_lengths f_p1_parts f_p1_wordCount n_text n y23 y22 y24)))
def sX3_readWord (n_text : Nat) (f_text : Nat → Int32) (f_end : Int32) (f_at : Int32) (f_p1_commons : Nat → Int32) (f_p1_lengths : Nat → Int32) (f_p1_parts : Nat → Int32) (f_p1_wordCount : Int32) : Option (Int32 × Int32 × (Nat → Int32) × (Nat → Int32) × (Nat → Int32) × Int32) :=
  vb (sX3_number n_text f_text f_end f_at (nI 1) (nI 9)) fun z25 =>
  vi (z25.1 = (-4)) inferInstance (
    some ((nI 0), z25.2, f_p1_commons, f_p1_lengths, f_p1_parts, f_p1_wordCount)) (
    vb (sX3_passes n_text f_text f_end z25.2 (nI 44)) fun z27 =>
    vi (z27.1 = 0) inferInstance (
      some ((nI 0), z27.2, f_p1_commons, f_p1_lengths, f_p1_parts, f_p1_wordCount)) (
      LX3_readWord_30 z25.1 f_text f_end f_p1_commons f_p1_lengths f_p1_parts f_p1_wordCount n_text vF (nI 0) (nI 0) z27.2))
abbrev rmX3_readWord : Room := { frames := 2, cells := 0, slots := 0, locals := 44 }
set_option maxHeartbeats 4000000 in
set_option maxRecDepth 100000 in
theorem LX3_readWord_30_w {cI : ClassId} {X : xT} (C : cx cI X 5 cX3_readWord RX3 rmX3_readWord) (h : Nat) (a_text : Nat) (a_p1 : Nat) (a_p1_commons : Nat) (a_p1_lengths : Nat) (a_p1_parts : Nat) (a_p1_likenesses : Nat) (n_text : Nat) (f_end : Int32) (f_text : Nat → Int32) (f_p1_wordCount : Int32) (f_p1_likenessCount : Int32) (f_p1_actorCount : Int32) (f_p1_forbiddenBits : Int32) (f_p1_habitTold : Int32) (f_p1_priceTold : Int32) (f_p1_commons : Nat → Int32) (f_p1_lengths : Nat → Int32) (f_p1_parts : Nat → Int32) (y_2 : Int32) {z : Int32 × Int32 × (Nat → Int32) × (Nat → Int32) × (Nat → Int32) × Int32} (hR : ∀ (lv : List (Nat × Value)) (pc : Nat), (z.1 = 0 ∨ z.1 = 1) → decode cX3_readWord pc = .ok (.ireturn, 1) → gg cI X 5 0 0 [oX3 h a_text f_end z.2.1, aI cI a_text n_text f_text, oX0 a_p1 a_p1_commons a_p1_lengths a_p1_parts a_p1_likenesses z.2.2.2.2.2 f_p1_likenessCount f_p1_actorCount f_p1_forbiddenBits f_p1_habitTold f_p1_priceTold, aI cI a_p1_commons 8 z.2.2.1, aI cI a_p1_lengths 8 z.2.2.2.1, aI cI a_p1_parts 8 z.2.2.2.2.1] lv pc [.int z.1]) : ∀ (n : Nat) (y_3 : Int32) (y_4 : Int32) (f_at : Int32), LX3_readWord_30 y_2 f_text f_end f_p1_commons f_p1_lengths f_p1_parts f_p1_wordCount n_text n y_3 y_4 f_at = some z → gg cI X 5 0 0 [oX3 h a_text f_end f_at, aI cI a_text n_text f_text, oX0 a_p1 a_p1_commons a_p1_lengths a_p1_parts a_p1_likenesses f_p1_wordCount f_p1_likenessCount f_p1_actorCount f_p1_forbiddenBits f_p1_habitTold f_p1_priceTold, aI cI a_p1_commons 8 f_p1_commons, aI cI a_p1_lengths 8 f_p1_lengths, aI cI a_p1_parts 8 f_p1_parts] [(0, .ref h), (1, .ref a_p1), (2, .int y_2), (3, .int y_3), (4, .int y_4)] 30 [] := by
  intro n
  induction n with
  | zero =>
    intro y_3 y_4 f_at hs
    exact nn_ok hs
  | succ n ih =>
    intro y_3 y_4 f_at hs
    rw [LX3_readWord_30] at hs
    refine g_iload_n (pl := 3) C dX3_readWord_30 rfl rfl ?_
    refine g_iconst (v := (nI 3)) C dX3_readWord_31 rfl ?_
    refine g_icmp_ge (tgt := 83) C dX3_readWord_32 (by decide) (fun c1 => ?_) (fun c1 => ?_)
    · replace hs := vi_t hs c1
      refine g_iload_n (pl := 3) C dX3_readWord_83 rfl rfl ?_
      refine g_if_le (tgt := 111) C dX3_readWord_84 (by decide) (fun c2 => ?_) (fun c2 => ?_)
      · replace hs := vi_t hs c2
        refine g_iconst (v := (nI 0)) C dX3_readWord_111 rfl ?_
        cases hs
        exact hR _ _ (Or.inl rfl) dX3_readWord_112
      · replace hs := vi_f hs c2
        refine g_aload_n (pl := 0) C dX3_readWord_87 rfl rfl ?_
        refine g_bipush (v := (nI 59)) C dX3_readWord_88 rfl ?_
        obtain ⟨z3, e_z3, hs⟩ := vb_ok hs
        refine g_callV (ws' := [oX3 h a_text f_end z3.2, aI cI a_text n_text f_text, oX0 a_p1 a_p1_commons a_p1_lengths a_p1_parts a_p1_likenesses f_p1_wordCount f_p1_likenessCount f_p1_actorCount f_p1_forbiddenBits f_p1_habitTold f_p1_priceTold, aI cI a_p1_commons 8 f_p1_commons, aI cI a_p1_lengths 8 f_p1_lengths, aI cI a_p1_parts 8 f_p1_parts]) (rest := []) (st' := [.int z3.1]) C mX3_63 q2_45 [.int (nI 59)] (fun l D => cX3_passes_ct l D cI h a_text n_text f_end f_at f_text (nI 59) e_z3) ⟨⟨rfl, rfl⟩, Nat.le_of_ble_eq_true rfl, Nat.le_of_ble_eq_true rfl⟩ 0 rfl rfl rfl [0, 1] rfl rfl rfl rfl rfl (Nat.le_of_ble_eq_true rfl) (Nat.zero_le _) (Nat.zero_le _) rfl dX3_readWord_90 ?_
        refine g_if_eq (tgt := 111) C dX3_readWord_93 (by decide) (fun c4 => ?_) (fun c4 => ?_)
        · replace hs := vi_t hs c4
          refine g_iconst (v := (nI 0)) C dX3_readWord_111 rfl ?_
          cases hs
          exact hR _ _ (Or.inl rfl) dX3_readWord_112
        · replace hs := vi_f hs c4
          refine g_aload_n (pl := 1) C dX3_readWord_96 rfl rfl ?_
          refine g_iload_n (pl := 2) C dX3_readWord_97 rfl rfl ?_
          refine g_iload_n (pl := 3) C dX3_readWord_98 rfl rfl ?_
          refine g_iload (pl := 4) C dX3_readWord_99 rfl ?_
          obtain ⟨z5, e_z5, hs⟩ := vb_ok hs
          refine g_callV (ws' := [oX3 h a_text f_end z3.2, aI cI a_text n_text f_text, oX0 a_p1 a_p1_commons a_p1_lengths a_p1_parts a_p1_likenesses z5.2.2.2.2 f_p1_likenessCount f_p1_actorCount f_p1_forbiddenBits f_p1_habitTold f_p1_priceTold, aI cI a_p1_commons 8 z5.2.1, aI cI a_p1_lengths 8 z5.2.2.1, aI cI a_p1_parts 8 z5.2.2.2.1]) (rest := []) (st' := [.int z5.1]) C mX3_67 q2_49 [.int y_2, .int y_3, .int y_4] (fun l D => cX0_addWord_ct l D cI a_p1 a_p1_commons a_p1_lengths a_p1_parts a_p1_likenesses f_p1_wordCount f_p1_likenessCount f_p1_actorCount f_p1_forbiddenBits f_p1_habitTold f_p1_priceTold f_p1_commons f_p1_lengths f_p1_parts y_2 y_3 y_4 e_z5) ⟨⟨rfl, rfl⟩, Nat.le_of_ble_eq_true rfl, Nat.le_of_ble_eq_true rfl⟩ 2 rfl rfl rfl [2, 3, 4, 5] rfl rfl rfl rfl rfl (Nat.le_of_ble_eq_true rfl) (Nat.zero_le _) (Nat.zero_le _) rfl dX3_readWord_101 ?_
          refine g_if_eq (tgt := 111) C dX3_readWord_104 (by decide) (fun c6 => ?_) (fun c6 => ?_)
          · replace hs := vi_t hs c6
            refine g_iconst (v := (nI 0)) C dX3_readWord_111 rfl ?_
            cases hs
            exact hR _ _ (Or.inl rfl) dX3_readWord_112
          · replace hs := vi_f hs c6
            refine g_iconst (v := (nI 1)) C dX3_readWord_107 rfl ?_
            refine g_goto (tgt := 112) C dX3_readWord_108 (by decide) ?_
            cases hs
            exact hR _ _ (Or.inr rfl) dX3_readWord_112
    · replace hs := vi_f hs c1
      refine g_aload_n (pl := 0) C dX3_readWord_35 rfl rfl ?_
      obtain ⟨z7, e_z7, hs⟩ := vb_ok hs
      refine g_callV (ws' := [oX3 h a_text f_end f_at, aI cI a_text n_text f_text, oX0 a_p1 a_p1_commons a_p1_lengths a_p1_parts a_p1_likenesses f_p1_wordCount f_p1_likenessCount f_p1_actorCount f_p1_forbiddenBits f_p1_habitTold f_p1_priceTold, aI cI a_p1_commons 8 f_p1_commons, aI cI a_p1_lengths 8 f_p1_lengths, aI cI a_p1_parts 8 f_p1_parts]) (rest := []) (st' := [.int z7]) C mX3_37 q2_30 [] (fun l D => cX3_peek_ct l D cI h a_text n_text f_end f_at f_text e_z7) ⟨⟨rfl, rfl⟩, Nat.le_of_ble_eq_true rfl, Nat.le_of_ble_eq_true rfl⟩ 0 rfl rfl rfl [0, 1] rfl rfl rfl rfl rfl (Nat.le_of_ble_eq_true rfl) (Nat.zero_le _) (Nat.zero_le _) rfl dX3_readWord_36 ?_
      refine g_bipush (v := (nI 97)) C dX3_readWord_39 rfl ?_
      refine g_icmp_lt (tgt := 83) C dX3_readWord_41 (by decide) (fun c8 => ?_) (fun c8 => ?_)
      · replace hs := vi_t hs c8
        refine g_iload_n (pl := 3) C dX3_readWord_83 rfl rfl ?_
        refine g_if_le (tgt := 111) C dX3_readWord_84 (by decide) (fun c9 => ?_) (fun c9 => ?_)
        · replace hs := vi_t hs c9
          refine g_iconst (v := (nI 0)) C dX3_readWord_111 rfl ?_
          cases hs
          exact hR _ _ (Or.inl rfl) dX3_readWord_112
        · replace hs := vi_f hs c9
          refine g_aload_n (pl := 0) C dX3_readWord_87 rfl rfl ?_
          refine g_bipush (v := (nI 59)) C dX3_readWord_88 rfl ?_
          obtain ⟨z10, e_z10, hs⟩ := vb_ok hs
          refine g_callV (ws' := [oX3 h a_text f_end z10.2, aI cI a_text n_text f_text, oX0 a_p1 a_p1_commons a_p1_lengths a_p1_parts a_p1_likenesses f_p1_wordCount f_p1_likenessCount f_p1_actorCount f_p1_forbiddenBits f_p1_habitTold f_p1_priceTold, aI cI a_p1_commons 8 f_p1_commons, aI cI a_p1_lengths 8 f_p1_lengths, aI cI a_p1_parts 8 f_p1_parts]) (rest := []) (st' := [.int z10.1]) C mX3_63 q2_45 [.int (nI 59)] (fun l D => cX3_passes_ct l D cI h a_text n_text f_end f_at f_text (nI 59) e_z10) ⟨⟨rfl, rfl⟩, Nat.le_of_ble_eq_true rfl, Nat.le_of_ble_eq_true rfl⟩ 0 rfl rfl rfl [0, 1] rfl rfl rfl rfl rfl (Nat.le_of_ble_eq_true rfl) (Nat.zero_le _) (Nat.zero_le _) rfl dX3_readWord_90 ?_
          refine g_if_eq (tgt := 111) C dX3_readWord_93 (by decide) (fun c11 => ?_) (fun c11 => ?_)
          · replace hs := vi_t hs c11
            refine g_iconst (v := (nI 0)) C dX3_readWord_111 rfl ?_
            cases hs
            exact hR _ _ (Or.inl rfl) dX3_readWord_112
          · replace hs := vi_f hs c11
            refine g_aload_n (pl := 1) C dX3_readWord_96 rfl rfl ?_
            refine g_iload_n (pl := 2) C dX3_readWord_97 rfl rfl ?_
            refine g_iload_n (pl := 3) C dX3_readWord_98 rfl rfl ?_
            refine g_iload (pl := 4) C dX3_readWord_99 rfl ?_
            obtain ⟨z12, e_z12, hs⟩ := vb_ok hs
            refine g_callV (ws' := [oX3 h a_text f_end z10.2, aI cI a_text n_text f_text, oX0 a_p1 a_p1_commons a_p1_lengths a_p1_parts a_p1_likenesses z12.2.2.2.2 f_p1_likenessCount f_p1_actorCount f_p1_forbiddenBits f_p1_habitTold f_p1_priceTold, aI cI a_p1_commons 8 z12.2.1, aI cI a_p1_lengths 8 z12.2.2.1, aI cI a_p1_parts 8 z12.2.2.2.1]) (rest := []) (st' := [.int z12.1]) C mX3_67 q2_49 [.int y_2, .int y_3, .int y_4] (fun l D => cX0_addWord_ct l D cI a_p1 a_p1_commons a_p1_lengths a_p1_parts a_p1_likenesses f_p1_wordCount f_p1_likenessCount f_p1_actorCount f_p1_forbiddenBits f_p1_habitTold f_p1_priceTold f_p1_commons f_p1_lengths f_p1_parts y_2 y_3 y_4 e_z12) ⟨⟨rfl, rfl⟩, Nat.le_of_ble_eq_true rfl, Nat.le_of_ble_eq_true rfl⟩ 2 rfl rfl rfl [2, 3, 4, 5] rfl rfl rfl rfl rfl (Nat.le_of_ble_eq_true rfl) (Nat.zero_le _) (Nat.zero_le _) rfl dX3_readWord_101 ?_
            refine g_if_eq (tgt := 111) C dX3_readWord_104 (by decide) (fun c13 => ?_) (fun c13 => ?_)
            · replace hs := vi_t hs c13
              refine g_iconst (v := (nI 0)) C dX3_readWord_111 rfl ?_
              cases hs
              exact hR _ _ (Or.inl rfl) dX3_readWord_112
            · replace hs := vi_f hs c13
              refine g_iconst (v := (nI 1)) C dX3_readWord_107 rfl ?_
              refine g_goto (tgt := 112) C dX3_readWord_108 (by decide) ?_
              cases hs
              exact hR _ _ (Or.inr rfl) dX3_readWord_112
      · replace hs := vi_f hs c8
        refine g_aload_n (pl := 0) C dX3_readWord_44 rfl rfl ?_
        obtain ⟨z14, e_z14, hs⟩ := vb_ok hs
        refine g_callV (ws' := [oX3 h a_text f_end f_at, aI cI a_text n_text f_text, oX0 a_p1 a_p1_commons a_p1_lengths a_p1_parts a_p1_likenesses f_p1_wordCount f_p1_likenessCount f_p1_actorCount f_p1_forbiddenBits f_p1_habitTold f_p1_priceTold, aI cI a_p1_commons 8 f_p1_commons, aI cI a_p1_lengths 8 f_p1_lengths, aI cI a_p1_parts 8 f_p1_parts]) (rest := []) (st' := [.int z14]) C mX3_37 q2_30 [] (fun l D => cX3_peek_ct l D cI h a_text n_text f_end f_at f_text e_z14) ⟨⟨rfl, rfl⟩, Nat.le_of_ble_eq_true rfl, Nat.le_of_ble_eq_true rfl⟩ 0 rfl rfl rfl [0, 1] rfl rfl rfl rfl rfl (Nat.le_of_ble_eq_true rfl) (Nat.zero_le _) (Nat.zero_le _) rfl dX3_readWord_45 ?_
        refine g_bipush (v := (nI 103)) C dX3_readWord_48 rfl ?_
        refine g_icmp_ge (tgt := 83) C dX3_readWord_50 (by decide) (fun c15 => ?_) (fun c15 => ?_)
        · replace hs := vi_t hs c15
          refine g_iload_n (pl := 3) C dX3_readWord_83 rfl rfl ?_
          refine g_if_le (tgt := 111) C dX3_readWord_84 (by decide) (fun c16 => ?_) (fun c16 => ?_)
          · replace hs := vi_t hs c16
            refine g_iconst (v := (nI 0)) C dX3_readWord_111 rfl ?_
            cases hs
            exact hR _ _ (Or.inl rfl) dX3_readWord_112
          · replace hs := vi_f hs c16
            refine g_aload_n (pl := 0) C dX3_readWord_87 rfl rfl ?_
            refine g_bipush (v := (nI 59)) C dX3_readWord_88 rfl ?_
            obtain ⟨z17, e_z17, hs⟩ := vb_ok hs
            refine g_callV (ws' := [oX3 h a_text f_end z17.2, aI cI a_text n_text f_text, oX0 a_p1 a_p1_commons a_p1_lengths a_p1_parts a_p1_likenesses f_p1_wordCount f_p1_likenessCount f_p1_actorCount f_p1_forbiddenBits f_p1_habitTold f_p1_priceTold, aI cI a_p1_commons 8 f_p1_commons, aI cI a_p1_lengths 8 f_p1_lengths, aI cI a_p1_parts 8 f_p1_parts]) (rest := []) (st' := [.int z17.1]) C mX3_63 q2_45 [.int (nI 59)] (fun l D => cX3_passes_ct l D cI h a_text n_text f_end f_at f_text (nI 59) e_z17) ⟨⟨rfl, rfl⟩, Nat.le_of_ble_eq_true rfl, Nat.le_of_ble_eq_true rfl⟩ 0 rfl rfl rfl [0, 1] rfl rfl rfl rfl rfl (Nat.le_of_ble_eq_true rfl) (Nat.zero_le _) (Nat.zero_le _) rfl dX3_readWord_90 ?_
            refine g_if_eq (tgt := 111) C dX3_readWord_93 (by decide) (fun c18 => ?_) (fun c18 => ?_)
            · replace hs := vi_t hs c18
              refine g_iconst (v := (nI 0)) C dX3_readWord_111 rfl ?_
              cases hs
              exact hR _ _ (Or.inl rfl) dX3_readWord_112
            · replace hs := vi_f hs c18
              refine g_aload_n (pl := 1) C dX3_readWord_96 rfl rfl ?_
              refine g_iload_n (pl := 2) C dX3_readWord_97 rfl rfl ?_
              refine g_iload_n (pl := 3) C dX3_readWord_98 rfl rfl ?_
              refine g_iload (pl := 4) C dX3_readWord_99 rfl ?_
              obtain ⟨z19, e_z19, hs⟩ := vb_ok hs
              refine g_callV (ws' := [oX3 h a_text f_end z17.2, aI cI a_text n_text f_text, oX0 a_p1 a_p1_commons a_p1_lengths a_p1_parts a_p1_likenesses z19.2.2.2.2 f_p1_likenessCount f_p1_actorCount f_p1_forbiddenBits f_p1_habitTold f_p1_priceTold, aI cI a_p1_commons 8 z19.2.1, aI cI a_p1_lengths 8 z19.2.2.1, aI cI a_p1_parts 8 z19.2.2.2.1]) (rest := []) (st' := [.int z19.1]) C mX3_67 q2_49 [.int y_2, .int y_3, .int y_4] (fun l D => cX0_addWord_ct l D cI a_p1 a_p1_commons a_p1_lengths a_p1_parts a_p1_likenesses f_p1_wordCount f_p1_likenessCount f_p1_actorCount f_p1_forbiddenBits f_p1_habitTold f_p1_priceTold f_p1_commons f_p1_lengths f_p1_parts y_2 y_3 y_4 e_z19) ⟨⟨rfl, rfl⟩, Nat.le_of_ble_eq_true rfl, Nat.le_of_ble_eq_true rfl⟩ 2 rfl rfl rfl [2, 3, 4, 5] rfl rfl rfl rfl rfl (Nat.le_of_ble_eq_true rfl) (Nat.zero_le _) (Nat.zero_le _) rfl dX3_readWord_101 ?_
              refine g_if_eq (tgt := 111) C dX3_readWord_104 (by decide) (fun c20 => ?_) (fun c20 => ?_)
              · replace hs := vi_t hs c20
                refine g_iconst (v := (nI 0)) C dX3_readWord_111 rfl ?_
                cases hs
                exact hR _ _ (Or.inl rfl) dX3_readWord_112
              · replace hs := vi_f hs c20
                refine g_iconst (v := (nI 1)) C dX3_readWord_107 rfl ?_
                refine g_goto (tgt := 112) C dX3_readWord_108 (by decide) ?_
                cases hs
                exact hR _ _ (Or.inr rfl) dX3_readWord_112
        · replace hs := vi_f hs c15
          refine g_iload (pl := 4) C dX3_readWord_53 rfl ?_
          refine g_iconst (v := (nI 1)) C dX3_readWord_55 rfl ?_
          refine g_aload_n (pl := 0) C dX3_readWord_56 rfl rfl ?_
          obtain ⟨z21, e_z21, hs⟩ := vb_ok hs
          refine g_callV (ws' := [oX3 h a_text f_end f_at, aI cI a_text n_text f_text, oX0 a_p1 a_p1_commons a_p1_lengths a_p1_parts a_p1_likenesses f_p1_wordCount f_p1_likenessCount f_p1_actorCount f_p1_forbiddenBits f_p1_habitTold f_p1_priceTold, aI cI a_p1_commons 8 f_p1_commons, aI cI a_p1_lengths 8 f_p1_lengths, aI cI a_p1_parts 8 f_p1_parts]) (rest := [.int (nI 1), .int y_4]) (st' := [.int z21, .int (nI 1), .int y_4]) C mX3_37 q2_30 [] (fun l D => cX3_peek_ct l D cI h a_text n_text f_end f_at f_text e_z21) ⟨⟨rfl, rfl⟩, Nat.le_of_ble_eq_true rfl, Nat.le_of_ble_eq_true rfl⟩ 0 rfl rfl rfl [0, 1] rfl rfl rfl rfl rfl (Nat.le_of_ble_eq_true rfl) (Nat.zero_le _) (Nat.zero_le _) rfl dX3_readWord_57 ?_
          refine g_bipush (v := (nI 97)) C dX3_readWord_60 rfl ?_
          refine g_isub C dX3_readWord_62 ?_
          refine g_ishl C dX3_readWord_63 ?_
          refine g_ior C dX3_readWord_64 ?_
          obtain ⟨y22, e_y22, hs⟩ := vlet_ex hs
          refine g_topi e_y22 ?_
          refine g_istore (lv' := [(4, .int y22), (0, .ref h), (1, .ref a_p1), (2, .int y_2), (3, .int y_3)]) C dX3_readWord_65 (by decide) rfl ?_
          obtain ⟨y23, e_y23, hs⟩ := vlet_ex hs
          refine g_iinc (pl := 4) (lv' := [(3, .int y23), (4, .int y22), (0, .ref h), (1, .ref a_p1), (2, .int y_2)]) C dX3_readWord_67 rfl e_y23.symm (by decide) rfl ?_
          refine g_aload_n (pl := 2) C dX3_readWord_70 rfl rfl ?_
          refine g_dup C dX3_readWord_71 rfl ?_
          refine g_get C fX3_25 0 rfl rfl dX3_readWord_72 ?_
          refine g_iconst (v := (nI 1)) C dX3_readWord_75 rfl ?_
          refine g_iadd C dX3_readWord_76 ?_
          obtain ⟨y24, e_y24, hs⟩ := vlet_ex hs
          refine g_topi e_y24 ?_
          refine g_putI (ws' := [oX3 h a_text f_end y24, aI cI a_text n_text f_text, oX0 a_p1 a_p1_commons a_p1_lengths a_p1_parts a_p1_likenesses f_p1_wordCount f_p1_likenessCount f_p1_actorCount f_p1_forbiddenBits f_p1_habitTold f_p1_priceTold, aI cI a_p1_commons 8 f_p1_commons, aI cI a_p1_lengths 8 f_p1_lengths, aI cI a_p1_parts 8 f_p1_parts]) C fX3_25 0 rfl (Nat.le_of_ble_eq_true rfl) rfl dX3_readWord_77 ?_
          refine g_goto (tgt := 30) C dX3_readWord_80 (by decide) ?_
          refine g_sub [2, 3, 4, 0, 1] rfl ?_
          exact ih y23 y22 y24 hs
set_option maxHeartbeats 4000000 in
set_option maxRecDepth 100000 in
theorem cX3_readWord_ct (l : Launch) (D : va_G) (cI : ClassId) (h : Nat) (a_text : Nat) (a_p1 : Nat) (a_p1_commons : Nat) (a_p1_lengths : Nat) (a_p1_parts : Nat) (a_p1_likenesses : Nat) (n_text : Nat) (f_end : Int32) (f_at : Int32) (f_text : Nat → Int32) (f_p1_wordCount : Int32) (f_p1_likenessCount : Int32) (f_p1_actorCount : Int32) (f_p1_forbiddenBits : Int32) (f_p1_habitTold : Int32) (f_p1_priceTold : Int32) (f_p1_commons : Nat → Int32) (f_p1_lengths : Nat → Int32) (f_p1_parts : Nat → Int32) {z : Int32 × Int32 × (Nat → Int32) × (Nat → Int32) × (Nat → Int32) × Int32} (hs : sX3_readWord n_text f_text f_end f_at f_p1_commons f_p1_lengths f_p1_parts f_p1_wordCount = some z) : ct l yX3_readWord (.code yX3_readWord cX3_readWord 5 (some .boolean) :: gtb) rmX3_readWord D cI [.ref h, .ref a_p1] [oX3 h a_text f_end f_at, aI cI a_text n_text f_text, oX0 a_p1 a_p1_commons a_p1_lengths a_p1_parts a_p1_likenesses f_p1_wordCount f_p1_likenessCount f_p1_actorCount f_p1_forbiddenBits f_p1_habitTold f_p1_priceTold, aI cI a_p1_commons 8 f_p1_commons, aI cI a_p1_lengths 8 f_p1_lengths, aI cI a_p1_parts 8 f_p1_parts] (some (.int z.1)) [oX3 h a_text f_end z.2.1, aI cI a_text n_text f_text, oX0 a_p1 a_p1_commons a_p1_lengths a_p1_parts a_p1_likenesses z.2.2.2.2.2 f_p1_likenessCount f_p1_actorCount f_p1_forbiddenBits f_p1_habitTold f_p1_priceTold, aI cI a_p1_commons 8 z.2.2.1, aI cI a_p1_lengths 8 z.2.2.2.1, aI cI a_p1_parts 8 z.2.2.2.2.1] := by
  refine ct_ofZ (own := RX3) (by decide +kernel) rfl (Nat.le_of_ble_eq_true rfl) (fun X C hD hR => ?_)
  unfold sX3_readWord at hs
  show gg cI X 5 0 0 [oX3 h a_text f_end f_at, aI cI a_text n_text f_text, oX0 a_p1 a_p1_commons a_p1_lengths a_p1_parts a_p1_likenesses f_p1_wordCount f_p1_likenessCount f_p1_actorCount f_p1_forbiddenBits f_p1_habitTold f_p1_priceTold, aI cI a_p1_commons 8 f_p1_commons, aI cI a_p1_lengths 8 f_p1_lengths, aI cI a_p1_parts 8 f_p1_parts] [(0, .ref h), (1, .ref a_p1)] 0 []
  refine g_aload_n (pl := 0) C dX3_readWord_0 rfl rfl ?_
  refine g_iconst (v := (nI 1)) C dX3_readWord_1 rfl ?_
  refine g_bipush (v := (nI 9)) C dX3_readWord_2 rfl ?_
  obtain ⟨z25, e_z25, hs⟩ := vb_ok hs
  refine g_callV (ws' := [oX3 h a_text f_end z25.2, aI cI a_text n_text f_text, oX0 a_p1 a_p1_commons a_p1_lengths a_p1_parts a_p1_likenesses f_p1_wordCount f_p1_likenessCount f_p1_actorCount f_p1_forbiddenBits f_p1_habitTold f_p1_priceTold, aI cI a_p1_commons 8 f_p1_commons, aI cI a_p1_lengths 8 f_p1_lengths, aI cI a_p1_parts 8 f_p1_parts]) (rest := []) (st' := [.int z25.1]) C mX3_60 q2_38 [.int (nI 1), .int (nI 9)] (fun l D => cX3_number_ct l D cI h a_text n_text f_end f_at f_text (nI 1) (nI 9) e_z25) ⟨⟨rfl, rfl⟩, Nat.le_of_ble_eq_true rfl, Nat.le_of_ble_eq_true rfl⟩ 0 rfl rfl rfl [0, 1] rfl rfl rfl rfl rfl (Nat.le_of_ble_eq_true rfl) (Nat.zero_le _) (Nat.zero_le _) rfl dX3_readWord_4 ?_
  refine g_istore_n (lv' := [(2, .int z25.1), (0, .ref h), (1, .ref a_p1)]) C dX3_readWord_7 rfl (by decide) rfl ?_
  refine g_iload_n (pl := 0) C dX3_readWord_8 rfl rfl ?_
  refine g_bipush (v := (-4)) C dX3_readWord_9 rfl ?_
  refine g_icmp_eq (tgt := 23) C dX3_readWord_11 (by decide) (fun c26 => ?_) (fun c26 => ?_)
  · replace hs := vi_t hs c26
    refine g_iconst (v := (nI 0)) C dX3_readWord_23 rfl ?_
    cases hs
    exact hR _ _ (Or.inl rfl) dX3_readWord_24
  · replace hs := vi_f hs c26
    refine g_aload_n (pl := 1) C dX3_readWord_14 rfl rfl ?_
    refine g_bipush (v := (nI 44)) C dX3_readWord_15 rfl ?_
    obtain ⟨z27, e_z27, hs⟩ := vb_ok hs
    refine g_callV (ws' := [oX3 h a_text f_end z27.2, aI cI a_text n_text f_text, oX0 a_p1 a_p1_commons a_p1_lengths a_p1_parts a_p1_likenesses f_p1_wordCount f_p1_likenessCount f_p1_actorCount f_p1_forbiddenBits f_p1_habitTold f_p1_priceTold, aI cI a_p1_commons 8 f_p1_commons, aI cI a_p1_lengths 8 f_p1_lengths, aI cI a_p1_parts 8 f_p1_parts]) (rest := []) (st' := [.int z27.1]) C mX3_63 q2_45 [.int (nI 44)] (fun l D => cX3_passes_ct l D cI h a_text n_text f_end z25.2 f_text (nI 44) e_z27) ⟨⟨rfl, rfl⟩, Nat.le_of_ble_eq_true rfl, Nat.le_of_ble_eq_true rfl⟩ 0 rfl rfl rfl [0, 1] rfl rfl rfl rfl rfl (Nat.le_of_ble_eq_true rfl) (Nat.zero_le _) (Nat.zero_le _) rfl dX3_readWord_17 ?_
    refine g_if_ne (tgt := 25) C dX3_readWord_20 (by decide) (fun c28 => ?_) (fun c28 => ?_)
    · replace hs := vi_f hs c28
      refine g_iconst (v := (nI 0)) C dX3_readWord_25 rfl ?_
      refine g_istore_n (lv' := [(3, .int (nI 0)), (2, .int z25.1), (0, .ref h), (1, .ref a_p1)]) C dX3_readWord_26 rfl (by decide) rfl ?_
      refine g_iconst (v := (nI 0)) C dX3_readWord_27 rfl ?_
      refine g_istore (lv' := [(4, .int (nI 0)), (3, .int (nI 0)), (2, .int z25.1), (0, .ref h), (1, .ref a_p1)]) C dX3_readWord_28 (by decide) rfl ?_
      refine g_sub [3, 4, 2, 1, 0] rfl ?_
      exact LX3_readWord_30_w C h a_text a_p1 a_p1_commons a_p1_lengths a_p1_parts a_p1_likenesses n_text f_end f_text f_p1_wordCount f_p1_likenessCount f_p1_actorCount f_p1_forbiddenBits f_p1_habitTold f_p1_priceTold f_p1_commons f_p1_lengths f_p1_parts z25.1 hR _ (nI 0) (nI 0) z27.2 hs
    · replace hs := vi_t hs c28
      refine g_iconst (v := (nI 0)) C dX3_readWord_23 rfl ?_
      cases hs
      exact hR _ _ (Or.inl rfl) dX3_readWord_24
def LX3_readLikeness_4 (f_text : Nat → Int32) (f_end : Int32) (f_p1_likenesses : Nat → Int32) (f_p1_wordCount : Int32) (f_p1_likenessCount : Int32) (n_text : Nat) : Nat → Int32 → Int32 → Int32 → Option (Int32 × Int32 × (Nat → Int32) × Int32)
  | 0, _, _, _ => none
  | n + 1, y_2, y_3, f_at =>
    vi ((nI 8) ≤ y_3) inferInstance (
      vi (y_2 = 0) inferInstance (
        some ((nI 0), f_at, f_p1_likenesses, f_p1_likenessCount)) (
        vb (sX3_passes n_text f_text f_end f_at (nI 59)) fun z3 =>
        vi (z3.1 = 0) inferInstance (
          some ((nI 0), z3.2, f_p1_likenesses, f_p1_likenessCount)) (
          vb (sX0_addLikeness f_p1_likenesses f_p1_likenessCount y_2) fun z5 =>
          vi (z5.1 = 0) inferInstance (
            some ((nI 0), z3.2, z5.2.1, z5.2.2)) (
            some ((nI 1), z3.2, z5.2.1, z5.2.2))))) (
      vb (sX3_peek n_text f_text f_end f_at) fun z7 =>
      vi (z7 = (nI 59)) inferInstance (
        vi (y_2 = 0) inferInstance (
          some ((nI 0), f_at, f_p1_likenesses, f_p1_likenessCount)) (
          vb (sX3_passes n_text f_text f_end f_at (nI 59)) fun z10 =>
          vi (z10.1 = 0) inferInstance (
            some ((nI 0), z10.2, f_p1_likenesses, f_p1_likenessCount)) (
            vb (sX0_addLikeness f_p1_likenesses f_p1_likenessCount y_2) fun z12 =>
            vi (z12.1 = 0) inferInstance (
              some ((nI 0), z10.2, z12.2.1, z12.2.2)) (
              some ((nI 1), z10.2, z12.2.1, z12.2.2))))) (
        vb (sX3_peek n_text f_text f_end f_at) fun z14 =>
        vlet (z14 - (nI 48)) fun y15 =>
        vi (y15 < 0) inferInstance (
          some ((nI 0), f_at, f_p1_likenesses, f_p1_likenessCount)) (
          vb (sX0_words f_p1_wordCount) fun z17 =>
          vi (z17 ≤ y15) inferInstance (
            some ((nI 0), f_at, f_p1_likenesses, f_p1_likenessCount)) (
            vi (((y_2 >>> (y15 &&& 31)) &&& (nI 1)) = (nI 1)) inferInstance (
              some ((nI 0), f_at, f_p1_likenesses, f_p1_likenessCount)) (
              vlet (y_2 ||| ((nI 1) <<< (y15 &&& 31))) fun y20 =>
              vlet (f_at + (nI 1)) fun y21 =>
              vlet (y_3 + (nI 1)) fun y22 =>
              LX3_readLikeness_4 f_text f_end f_p1_likenesses f_p1_wordCount f_p1_likenessCount n_text n y20 y22 y21)))))
def sX3_readLikeness (n_text : Nat) (f_text : Nat → Int32) (f_end : Int32) (f_at : Int32) (f_p1_likenesses : Nat → Int32) (f_p1_wordCount : Int32) (f_p1_likenessCount : Int32) : Option (Int32 × Int32 × (Nat → Int32) × Int32) :=
  LX3_readLikeness_4 f_text f_end f_p1_likenesses f_p1_wordCount f_p1_likenessCount n_text vF (nI 0) (nI 0) f_at
abbrev rmX3_readLikeness : Room := { frames := 2, cells := 0, slots := 0, locals := 41 }
set_option maxHeartbeats 4000000 in
set_option maxRecDepth 100000 in
theorem LX3_readLikeness_4_w {cI : ClassId} {X : xT} (C : cx cI X 5 cX3_readLikeness RX3 rmX3_readLikeness) (h : Nat) (a_text : Nat) (a_p1 : Nat) (a_p1_commons : Nat) (a_p1_lengths : Nat) (a_p1_parts : Nat) (a_p1_likenesses : Nat) (n_text : Nat) (f_end : Int32) (f_text : Nat → Int32) (f_p1_wordCount : Int32) (f_p1_likenessCount : Int32) (f_p1_actorCount : Int32) (f_p1_forbiddenBits : Int32) (f_p1_habitTold : Int32) (f_p1_priceTold : Int32) (f_p1_likenesses : Nat → Int32) {z : Int32 × Int32 × (Nat → Int32) × Int32} (hR : ∀ (lv : List (Nat × Value)) (pc : Nat), (z.1 = 0 ∨ z.1 = 1) → decode cX3_readLikeness pc = .ok (.ireturn, 1) → gg cI X 5 0 0 [oX3 h a_text f_end z.2.1, aI cI a_text n_text f_text, oX0 a_p1 a_p1_commons a_p1_lengths a_p1_parts a_p1_likenesses f_p1_wordCount z.2.2.2 f_p1_actorCount f_p1_forbiddenBits f_p1_habitTold f_p1_priceTold, aI cI a_p1_likenesses 6 z.2.2.1] lv pc [.int z.1]) : ∀ (n : Nat) (y_2 : Int32) (y_3 : Int32) (f_at : Int32), LX3_readLikeness_4 f_text f_end f_p1_likenesses f_p1_wordCount f_p1_likenessCount n_text n y_2 y_3 f_at = some z → gg cI X 5 0 0 [oX3 h a_text f_end f_at, aI cI a_text n_text f_text, oX0 a_p1 a_p1_commons a_p1_lengths a_p1_parts a_p1_likenesses f_p1_wordCount f_p1_likenessCount f_p1_actorCount f_p1_forbiddenBits f_p1_habitTold f_p1_priceTold, aI cI a_p1_likenesses 6 f_p1_likenesses] [(0, .ref h), (1, .ref a_p1), (2, .int y_2), (3, .int y_3)] 4 [] := by
  intro n
  induction n with
  | zero =>
    intro y_2 y_3 f_at hs
    exact nn_ok hs
  | succ n ih =>
    intro y_2 y_3 f_at hs
    rw [LX3_readLikeness_4] at hs
    refine g_iload_n (pl := 3) C dX3_readLikeness_4 rfl rfl ?_
    refine g_bipush (v := (nI 8)) C dX3_readLikeness_5 rfl ?_
    refine g_icmp_ge (tgt := 77) C dX3_readLikeness_7 (by decide) (fun c1 => ?_) (fun c1 => ?_)
    · replace hs := vi_t hs c1
      refine g_iload_n (pl := 2) C dX3_readLikeness_77 rfl rfl ?_
      refine g_if_eq (tgt := 102) C dX3_readLikeness_78 (by decide) (fun c2 => ?_) (fun c2 => ?_)
      · replace hs := vi_t hs c2
        refine g_iconst (v := (nI 0)) C dX3_readLikeness_102 rfl ?_
        cases hs
        exact hR _ _ (Or.inl rfl) dX3_readLikeness_103
      · replace hs := vi_f hs c2
        refine g_aload_n (pl := 0) C dX3_readLikeness_81 rfl rfl ?_
        refine g_bipush (v := (nI 59)) C dX3_readLikeness_82 rfl ?_
        obtain ⟨z3, e_z3, hs⟩ := vb_ok hs
        refine g_callV (ws' := [oX3 h a_text f_end z3.2, aI cI a_text n_text f_text, oX0 a_p1 a_p1_commons a_p1_lengths a_p1_parts a_p1_likenesses f_p1_wordCount f_p1_likenessCount f_p1_actorCount f_p1_forbiddenBits f_p1_habitTold f_p1_priceTold, aI cI a_p1_likenesses 6 f_p1_likenesses]) (rest := []) (st' := [.int z3.1]) C mX3_63 q2_45 [.int (nI 59)] (fun l D => cX3_passes_ct l D cI h a_text n_text f_end f_at f_text (nI 59) e_z3) ⟨⟨rfl, rfl⟩, Nat.le_of_ble_eq_true rfl, Nat.le_of_ble_eq_true rfl⟩ 0 rfl rfl rfl [0, 1] rfl rfl rfl rfl rfl (Nat.le_of_ble_eq_true rfl) (Nat.zero_le _) (Nat.zero_le _) rfl dX3_readLikeness_84 ?_
        refine g_if_eq (tgt := 102) C dX3_readLikeness_87 (by decide) (fun c4 => ?_) (fun c4 => ?_)
        · replace hs := vi_t hs c4
          refine g_iconst (v := (nI 0)) C dX3_readLikeness_102 rfl ?_
          cases hs
          exact hR _ _ (Or.inl rfl) dX3_readLikeness_103
        · replace hs := vi_f hs c4
          refine g_aload_n (pl := 1) C dX3_readLikeness_90 rfl rfl ?_
          refine g_iload_n (pl := 2) C dX3_readLikeness_91 rfl rfl ?_
          obtain ⟨z5, e_z5, hs⟩ := vb_ok hs
          refine g_callV (ws' := [oX3 h a_text f_end z3.2, aI cI a_text n_text f_text, oX0 a_p1 a_p1_commons a_p1_lengths a_p1_parts a_p1_likenesses f_p1_wordCount z5.2.2 f_p1_actorCount f_p1_forbiddenBits f_p1_habitTold f_p1_priceTold, aI cI a_p1_likenesses 6 z5.2.1]) (rest := []) (st' := [.int z5.1]) C mX3_74 q2_61 [.int y_2] (fun l D => cX0_addLikeness_ct l D cI a_p1 a_p1_commons a_p1_lengths a_p1_parts a_p1_likenesses f_p1_wordCount f_p1_likenessCount f_p1_actorCount f_p1_forbiddenBits f_p1_habitTold f_p1_priceTold f_p1_likenesses y_2 e_z5) ⟨⟨rfl, rfl⟩, Nat.le_of_ble_eq_true rfl, Nat.le_of_ble_eq_true rfl⟩ 2 rfl rfl rfl [2, 3] rfl rfl rfl rfl rfl (Nat.le_of_ble_eq_true rfl) (Nat.zero_le _) (Nat.zero_le _) rfl dX3_readLikeness_92 ?_
          refine g_if_eq (tgt := 102) C dX3_readLikeness_95 (by decide) (fun c6 => ?_) (fun c6 => ?_)
          · replace hs := vi_t hs c6
            refine g_iconst (v := (nI 0)) C dX3_readLikeness_102 rfl ?_
            cases hs
            exact hR _ _ (Or.inl rfl) dX3_readLikeness_103
          · replace hs := vi_f hs c6
            refine g_iconst (v := (nI 1)) C dX3_readLikeness_98 rfl ?_
            refine g_goto (tgt := 103) C dX3_readLikeness_99 (by decide) ?_
            cases hs
            exact hR _ _ (Or.inr rfl) dX3_readLikeness_103
    · replace hs := vi_f hs c1
      refine g_aload_n (pl := 0) C dX3_readLikeness_10 rfl rfl ?_
      obtain ⟨z7, e_z7, hs⟩ := vb_ok hs
      refine g_callV (ws' := [oX3 h a_text f_end f_at, aI cI a_text n_text f_text, oX0 a_p1 a_p1_commons a_p1_lengths a_p1_parts a_p1_likenesses f_p1_wordCount f_p1_likenessCount f_p1_actorCount f_p1_forbiddenBits f_p1_habitTold f_p1_priceTold, aI cI a_p1_likenesses 6 f_p1_likenesses]) (rest := []) (st' := [.int z7]) C mX3_37 q2_30 [] (fun l D => cX3_peek_ct l D cI h a_text n_text f_end f_at f_text e_z7) ⟨⟨rfl, rfl⟩, Nat.le_of_ble_eq_true rfl, Nat.le_of_ble_eq_true rfl⟩ 0 rfl rfl rfl [0, 1] rfl rfl rfl rfl rfl (Nat.le_of_ble_eq_true rfl) (Nat.zero_le _) (Nat.zero_le _) rfl dX3_readLikeness_11 ?_
      refine g_bipush (v := (nI 59)) C dX3_readLikeness_14 rfl ?_
      refine g_icmp_eq (tgt := 77) C dX3_readLikeness_16 (by decide) (fun c8 => ?_) (fun c8 => ?_)
      · replace hs := vi_t hs c8
        refine g_iload_n (pl := 2) C dX3_readLikeness_77 rfl rfl ?_
        refine g_if_eq (tgt := 102) C dX3_readLikeness_78 (by decide) (fun c9 => ?_) (fun c9 => ?_)
        · replace hs := vi_t hs c9
          refine g_iconst (v := (nI 0)) C dX3_readLikeness_102 rfl ?_
          cases hs
          exact hR _ _ (Or.inl rfl) dX3_readLikeness_103
        · replace hs := vi_f hs c9
          refine g_aload_n (pl := 0) C dX3_readLikeness_81 rfl rfl ?_
          refine g_bipush (v := (nI 59)) C dX3_readLikeness_82 rfl ?_
          obtain ⟨z10, e_z10, hs⟩ := vb_ok hs
          refine g_callV (ws' := [oX3 h a_text f_end z10.2, aI cI a_text n_text f_text, oX0 a_p1 a_p1_commons a_p1_lengths a_p1_parts a_p1_likenesses f_p1_wordCount f_p1_likenessCount f_p1_actorCount f_p1_forbiddenBits f_p1_habitTold f_p1_priceTold, aI cI a_p1_likenesses 6 f_p1_likenesses]) (rest := []) (st' := [.int z10.1]) C mX3_63 q2_45 [.int (nI 59)] (fun l D => cX3_passes_ct l D cI h a_text n_text f_end f_at f_text (nI 59) e_z10) ⟨⟨rfl, rfl⟩, Nat.le_of_ble_eq_true rfl, Nat.le_of_ble_eq_true rfl⟩ 0 rfl rfl rfl [0, 1] rfl rfl rfl rfl rfl (Nat.le_of_ble_eq_true rfl) (Nat.zero_le _) (Nat.zero_le _) rfl dX3_readLikeness_84 ?_
          refine g_if_eq (tgt := 102) C dX3_readLikeness_87 (by decide) (fun c11 => ?_) (fun c11 => ?_)
          · replace hs := vi_t hs c11
            refine g_iconst (v := (nI 0)) C dX3_readLikeness_102 rfl ?_
            cases hs
            exact hR _ _ (Or.inl rfl) dX3_readLikeness_103
          · replace hs := vi_f hs c11
            refine g_aload_n (pl := 1) C dX3_readLikeness_90 rfl rfl ?_
            refine g_iload_n (pl := 2) C dX3_readLikeness_91 rfl rfl ?_
            obtain ⟨z12, e_z12, hs⟩ := vb_ok hs
            refine g_callV (ws' := [oX3 h a_text f_end z10.2, aI cI a_text n_text f_text, oX0 a_p1 a_p1_commons a_p1_lengths a_p1_parts a_p1_likenesses f_p1_wordCount z12.2.2 f_p1_actorCount f_p1_forbiddenBits f_p1_habitTold f_p1_priceTold, aI cI a_p1_likenesses 6 z12.2.1]) (rest := []) (st' := [.int z12.1]) C mX3_74 q2_61 [.int y_2] (fun l D => cX0_addLikeness_ct l D cI a_p1 a_p1_commons a_p1_lengths a_p1_parts a_p1_likenesses f_p1_wordCount f_p1_likenessCount f_p1_actorCount f_p1_forbiddenBits f_p1_habitTold f_p1_priceTold f_p1_likenesses y_2 e_z12) ⟨⟨rfl, rfl⟩, Nat.le_of_ble_eq_true rfl, Nat.le_of_ble_eq_true rfl⟩ 2 rfl rfl rfl [2, 3] rfl rfl rfl rfl rfl (Nat.le_of_ble_eq_true rfl) (Nat.zero_le _) (Nat.zero_le _) rfl dX3_readLikeness_92 ?_
            refine g_if_eq (tgt := 102) C dX3_readLikeness_95 (by decide) (fun c13 => ?_) (fun c13 => ?_)
            · replace hs := vi_t hs c13
              refine g_iconst (v := (nI 0)) C dX3_readLikeness_102 rfl ?_
              cases hs
              exact hR _ _ (Or.inl rfl) dX3_readLikeness_103
            · replace hs := vi_f hs c13
              refine g_iconst (v := (nI 1)) C dX3_readLikeness_98 rfl ?_
              refine g_goto (tgt := 103) C dX3_readLikeness_99 (by decide) ?_
              cases hs
              exact hR _ _ (Or.inr rfl) dX3_readLikeness_103
      · replace hs := vi_f hs c8
        refine g_aload_n (pl := 0) C dX3_readLikeness_19 rfl rfl ?_
        obtain ⟨z14, e_z14, hs⟩ := vb_ok hs
        refine g_callV (ws' := [oX3 h a_text f_end f_at, aI cI a_text n_text f_text, oX0 a_p1 a_p1_commons a_p1_lengths a_p1_parts a_p1_likenesses f_p1_wordCount f_p1_likenessCount f_p1_actorCount f_p1_forbiddenBits f_p1_habitTold f_p1_priceTold, aI cI a_p1_likenesses 6 f_p1_likenesses]) (rest := []) (st' := [.int z14]) C mX3_37 q2_30 [] (fun l D => cX3_peek_ct l D cI h a_text n_text f_end f_at f_text e_z14) ⟨⟨rfl, rfl⟩, Nat.le_of_ble_eq_true rfl, Nat.le_of_ble_eq_true rfl⟩ 0 rfl rfl rfl [0, 1] rfl rfl rfl rfl rfl (Nat.le_of_ble_eq_true rfl) (Nat.zero_le _) (Nat.zero_le _) rfl dX3_readLikeness_20 ?_
        refine g_bipush (v := (nI 48)) C dX3_readLikeness_23 rfl ?_
        refine g_isub C dX3_readLikeness_25 ?_
        obtain ⟨y15, e_y15, hs⟩ := vlet_ex hs
        refine g_topi e_y15 ?_
        refine g_istore (lv' := [(4, .int y15), (0, .ref h), (1, .ref a_p1), (2, .int y_2), (3, .int y_3)]) C dX3_readLikeness_26 (by decide) rfl ?_
        refine g_iload (pl := 0) C dX3_readLikeness_28 rfl ?_
        refine g_if_lt (tgt := 52) C dX3_readLikeness_30 (by decide) (fun c16 => ?_) (fun c16 => ?_)
        · replace hs := vi_t hs c16
          refine g_iconst (v := (nI 0)) C dX3_readLikeness_52 rfl ?_
          cases hs
          exact hR _ _ (Or.inl rfl) dX3_readLikeness_53
        · replace hs := vi_f hs c16
          refine g_iload (pl := 0) C dX3_readLikeness_33 rfl ?_
          refine g_aload_n (pl := 2) C dX3_readLikeness_35 rfl rfl ?_
          obtain ⟨z17, e_z17, hs⟩ := vb_ok hs
          refine g_callV (ws' := [oX3 h a_text f_end f_at, aI cI a_text n_text f_text, oX0 a_p1 a_p1_commons a_p1_lengths a_p1_parts a_p1_likenesses f_p1_wordCount f_p1_likenessCount f_p1_actorCount f_p1_forbiddenBits f_p1_habitTold f_p1_priceTold, aI cI a_p1_likenesses 6 f_p1_likenesses]) (rest := [.int y15]) (st' := [.int z17, .int y15]) C mX3_71 q2_57 [] (fun l D => cX0_words_ct l D cI a_p1 a_p1_commons a_p1_lengths a_p1_parts a_p1_likenesses f_p1_wordCount f_p1_likenessCount f_p1_actorCount f_p1_forbiddenBits f_p1_habitTold f_p1_priceTold e_z17) ⟨⟨rfl, rfl⟩, Nat.le_of_ble_eq_true rfl, Nat.le_of_ble_eq_true rfl⟩ 2 rfl rfl rfl [2] rfl rfl rfl rfl rfl (Nat.le_of_ble_eq_true rfl) (Nat.zero_le _) (Nat.zero_le _) rfl dX3_readLikeness_36 ?_
          refine g_icmp_ge (tgt := 52) C dX3_readLikeness_39 (by decide) (fun c18 => ?_) (fun c18 => ?_)
          · replace hs := vi_t hs c18
            refine g_iconst (v := (nI 0)) C dX3_readLikeness_52 rfl ?_
            cases hs
            exact hR _ _ (Or.inl rfl) dX3_readLikeness_53
          · replace hs := vi_f hs c18
            refine g_iload_n (pl := 3) C dX3_readLikeness_42 rfl rfl ?_
            refine g_iload (pl := 0) C dX3_readLikeness_43 rfl ?_
            refine g_ishr C dX3_readLikeness_45 ?_
            refine g_iconst (v := (nI 1)) C dX3_readLikeness_46 rfl ?_
            refine g_iand C dX3_readLikeness_47 ?_
            refine g_iconst (v := (nI 1)) C dX3_readLikeness_48 rfl ?_
            refine g_icmp_ne (tgt := 54) C dX3_readLikeness_49 (by decide) (fun c19 => ?_) (fun c19 => ?_)
            · replace hs := vi_f hs c19
              refine g_iload_n (pl := 3) C dX3_readLikeness_54 rfl rfl ?_
              refine g_iconst (v := (nI 1)) C dX3_readLikeness_55 rfl ?_
              refine g_iload (pl := 0) C dX3_readLikeness_56 rfl ?_
              refine g_ishl C dX3_readLikeness_58 ?_
              refine g_ior C dX3_readLikeness_59 ?_
              obtain ⟨y20, e_y20, hs⟩ := vlet_ex hs
              refine g_topi e_y20 ?_
              refine g_istore_n (lv' := [(2, .int y20), (4, .int y15), (0, .ref h), (1, .ref a_p1), (3, .int y_3)]) C dX3_readLikeness_60 rfl (by decide) rfl ?_
              refine g_aload_n (pl := 2) C dX3_readLikeness_61 rfl rfl ?_
              refine g_dup C dX3_readLikeness_62 rfl ?_
              refine g_get C fX3_25 0 rfl rfl dX3_readLikeness_63 ?_
              refine g_iconst (v := (nI 1)) C dX3_readLikeness_66 rfl ?_
              refine g_iadd C dX3_readLikeness_67 ?_
              obtain ⟨y21, e_y21, hs⟩ := vlet_ex hs
              refine g_topi e_y21 ?_
              refine g_putI (ws' := [oX3 h a_text f_end y21, aI cI a_text n_text f_text, oX0 a_p1 a_p1_commons a_p1_lengths a_p1_parts a_p1_likenesses f_p1_wordCount f_p1_likenessCount f_p1_actorCount f_p1_forbiddenBits f_p1_habitTold f_p1_priceTold, aI cI a_p1_likenesses 6 f_p1_likenesses]) C fX3_25 0 rfl (Nat.le_of_ble_eq_true rfl) rfl dX3_readLikeness_68 ?_
              obtain ⟨y22, e_y22, hs⟩ := vlet_ex hs
              refine g_iinc (pl := 4) (lv' := [(3, .int y22), (2, .int y20), (4, .int y15), (0, .ref h), (1, .ref a_p1)]) C dX3_readLikeness_71 rfl e_y22.symm (by decide) rfl ?_
              refine g_goto (tgt := 4) C dX3_readLikeness_74 (by decide) ?_
              refine g_sub [3, 4, 1, 0] rfl ?_
              exact ih y20 y22 y21 hs
            · replace hs := vi_t hs c19
              refine g_iconst (v := (nI 0)) C dX3_readLikeness_52 rfl ?_
              cases hs
              exact hR _ _ (Or.inl rfl) dX3_readLikeness_53
set_option maxHeartbeats 4000000 in
set_option maxRecDepth 100000 in
theorem cX3_readLikeness_ct (l : Launch) (D : va_G) (cI : ClassId) (h : Nat) (a_text : Nat) (a_p1 : Nat) (a_p1_commons : Nat) (a_p1_lengths : Nat) (a_p1_parts : Nat) (a_p1_likenesses : Nat) (n_text : Nat) (f_end : Int32) (f_at : Int32) (f_text : Nat → Int32) (f_p1_wordCount : Int32) (f_p1_likenessCount : Int32) (f_p1_actorCount : Int32) (f_p1_forbiddenBits : Int32) (f_p1_habitTold : Int32) (f_p1_priceTold : Int32) (f_p1_likenesses : Nat → Int32) {z : Int32 × Int32 × (Nat → Int32) × Int32} (hs : sX3_readLikeness n_text f_text f_end f_at f_p1_likenesses f_p1_wordCount f_p1_likenessCount = some z) : ct l yX3_readLikeness (.code yX3_readLikeness cX3_readLikeness 5 (some .boolean) :: gtb) rmX3_readLikeness D cI [.ref h, .ref a_p1] [oX3 h a_text f_end f_at, aI cI a_text n_text f_text, oX0 a_p1 a_p1_commons a_p1_lengths a_p1_parts a_p1_likenesses f_p1_wordCount f_p1_likenessCount f_p1_actorCount f_p1_forbiddenBits f_p1_habitTold f_p1_priceTold, aI cI a_p1_likenesses 6 f_p1_likenesses] (some (.int z.1)) [oX3 h a_text f_end z.2.1, aI cI a_text n_text f_text, oX0 a_p1 a_p1_commons a_p1_lengths a_p1_parts a_p1_likenesses f_p1_wordCount z.2.2.2 f_p1_actorCount f_p1_forbiddenBits f_p1_habitTold f_p1_priceTold, aI cI a_p1_likenesses 6 z.2.2.1] := by
  refine ct_ofZ (own := RX3) (by decide +kernel) rfl (Nat.le_of_ble_eq_true rfl) (fun X C hD hR => ?_)
  unfold sX3_readLikeness at hs
  show gg cI X 5 0 0 [oX3 h a_text f_end f_at, aI cI a_text n_text f_text, oX0 a_p1 a_p1_commons a_p1_lengths a_p1_parts a_p1_likenesses f_p1_wordCount f_p1_likenessCount f_p1_actorCount f_p1_forbiddenBits f_p1_habitTold f_p1_priceTold, aI cI a_p1_likenesses 6 f_p1_likenesses] [(0, .ref h), (1, .ref a_p1)] 0 []
  refine g_iconst (v := (nI 0)) C dX3_readLikeness_0 rfl ?_
  refine g_istore_n (lv' := [(2, .int (nI 0)), (0, .ref h), (1, .ref a_p1)]) C dX3_readLikeness_1 rfl (by decide) rfl ?_
  refine g_iconst (v := (nI 0)) C dX3_readLikeness_2 rfl ?_
  refine g_istore_n (lv' := [(3, .int (nI 0)), (2, .int (nI 0)), (0, .ref h), (1, .ref a_p1)]) C dX3_readLikeness_3 rfl (by decide) rfl ?_
  refine g_sub [2, 3, 1, 0] rfl ?_
  exact LX3_readLikeness_4_w C h a_text a_p1 a_p1_commons a_p1_lengths a_p1_parts a_p1_likenesses n_text f_end f_text f_p1_wordCount f_p1_likenessCount f_p1_actorCount f_p1_forbiddenBits f_p1_habitTold f_p1_priceTold f_p1_likenesses hR _ (nI 0) (nI 0) f_at hs
def sX3_readForbidden (n_text : Nat) (f_text : Nat → Int32) (f_end : Int32) (f_at : Int32) (f_p1_forbiddenBits : Int32) : Option (Int32 × Int32 × Int32) :=
  vb (sX3_number n_text f_text f_end f_at (nI 0) (nI 14)) fun z1 =>
  vi (z1.1 = (-4)) inferInstance (
    some ((nI 0), z1.2, f_p1_forbiddenBits)) (
    vb (sX3_passes n_text f_text f_end z1.2 (nI 59)) fun z3 =>
    vi (z3.1 = 0) inferInstance (
      some ((nI 0), z3.2, f_p1_forbiddenBits)) (
      vb (sX0_forbid f_p1_forbiddenBits z1.1) fun z5 =>
      some ((nI 1), z3.2, z5)))
abbrev rmX3_readForbidden : Room := { frames := 2, cells := 0, slots := 0, locals := 44 }
set_option maxHeartbeats 4000000 in
set_option maxRecDepth 100000 in
theorem cX3_readForbidden_ct (l : Launch) (D : va_G) (cI : ClassId) (h : Nat) (a_text : Nat) (a_p1 : Nat) (a_p1_commons : Nat) (a_p1_lengths : Nat) (a_p1_parts : Nat) (a_p1_likenesses : Nat) (n_text : Nat) (f_end : Int32) (f_at : Int32) (f_text : Nat → Int32) (f_p1_wordCount : Int32) (f_p1_likenessCount : Int32) (f_p1_actorCount : Int32) (f_p1_forbiddenBits : Int32) (f_p1_habitTold : Int32) (f_p1_priceTold : Int32) {z : Int32 × Int32 × Int32} (hs : sX3_readForbidden n_text f_text f_end f_at f_p1_forbiddenBits = some z) : ct l yX3_readForbidden (.code yX3_readForbidden cX3_readForbidden 3 (some .boolean) :: gtb) rmX3_readForbidden D cI [.ref h, .ref a_p1] [oX3 h a_text f_end f_at, aI cI a_text n_text f_text, oX0 a_p1 a_p1_commons a_p1_lengths a_p1_parts a_p1_likenesses f_p1_wordCount f_p1_likenessCount f_p1_actorCount f_p1_forbiddenBits f_p1_habitTold f_p1_priceTold] (some (.int z.1)) [oX3 h a_text f_end z.2.1, aI cI a_text n_text f_text, oX0 a_p1 a_p1_commons a_p1_lengths a_p1_parts a_p1_likenesses f_p1_wordCount f_p1_likenessCount f_p1_actorCount z.2.2 f_p1_habitTold f_p1_priceTold] := by
  refine ct_ofZ (own := RX3) (by decide +kernel) rfl (Nat.le_of_ble_eq_true rfl) (fun X C hD hR => ?_)
  unfold sX3_readForbidden at hs
  show gg cI X 3 0 0 [oX3 h a_text f_end f_at, aI cI a_text n_text f_text, oX0 a_p1 a_p1_commons a_p1_lengths a_p1_parts a_p1_likenesses f_p1_wordCount f_p1_likenessCount f_p1_actorCount f_p1_forbiddenBits f_p1_habitTold f_p1_priceTold] [(0, .ref h), (1, .ref a_p1)] 0 []
  refine g_aload_n (pl := 0) C dX3_readForbidden_0 rfl rfl ?_
  refine g_iconst (v := (nI 0)) C dX3_readForbidden_1 rfl ?_
  refine g_bipush (v := (nI 14)) C dX3_readForbidden_2 rfl ?_
  obtain ⟨z1, e_z1, hs⟩ := vb_ok hs
  refine g_callV (ws' := [oX3 h a_text f_end z1.2, aI cI a_text n_text f_text, oX0 a_p1 a_p1_commons a_p1_lengths a_p1_parts a_p1_likenesses f_p1_wordCount f_p1_likenessCount f_p1_actorCount f_p1_forbiddenBits f_p1_habitTold f_p1_priceTold]) (rest := []) (st' := [.int z1.1]) C mX3_60 q2_38 [.int (nI 0), .int (nI 14)] (fun l D => cX3_number_ct l D cI h a_text n_text f_end f_at f_text (nI 0) (nI 14) e_z1) ⟨⟨rfl, rfl⟩, Nat.le_of_ble_eq_true rfl, Nat.le_of_ble_eq_true rfl⟩ 0 rfl rfl rfl [0, 1] rfl rfl rfl rfl rfl (Nat.le_of_ble_eq_true rfl) (Nat.zero_le _) (Nat.zero_le _) rfl dX3_readForbidden_4 ?_
  refine g_istore_n (lv' := [(2, .int z1.1), (0, .ref h), (1, .ref a_p1)]) C dX3_readForbidden_7 rfl (by decide) rfl ?_
  refine g_iload_n (pl := 0) C dX3_readForbidden_8 rfl rfl ?_
  refine g_bipush (v := (-4)) C dX3_readForbidden_9 rfl ?_
  refine g_icmp_eq (tgt := 23) C dX3_readForbidden_11 (by decide) (fun c2 => ?_) (fun c2 => ?_)
  · replace hs := vi_t hs c2
    refine g_iconst (v := (nI 0)) C dX3_readForbidden_23 rfl ?_
    cases hs
    exact hR _ _ (Or.inl rfl) dX3_readForbidden_24
  · replace hs := vi_f hs c2
    refine g_aload_n (pl := 1) C dX3_readForbidden_14 rfl rfl ?_
    refine g_bipush (v := (nI 59)) C dX3_readForbidden_15 rfl ?_
    obtain ⟨z3, e_z3, hs⟩ := vb_ok hs
    refine g_callV (ws' := [oX3 h a_text f_end z3.2, aI cI a_text n_text f_text, oX0 a_p1 a_p1_commons a_p1_lengths a_p1_parts a_p1_likenesses f_p1_wordCount f_p1_likenessCount f_p1_actorCount f_p1_forbiddenBits f_p1_habitTold f_p1_priceTold]) (rest := []) (st' := [.int z3.1]) C mX3_63 q2_45 [.int (nI 59)] (fun l D => cX3_passes_ct l D cI h a_text n_text f_end z1.2 f_text (nI 59) e_z3) ⟨⟨rfl, rfl⟩, Nat.le_of_ble_eq_true rfl, Nat.le_of_ble_eq_true rfl⟩ 0 rfl rfl rfl [0, 1] rfl rfl rfl rfl rfl (Nat.le_of_ble_eq_true rfl) (Nat.zero_le _) (Nat.zero_le _) rfl dX3_readForbidden_17 ?_
    refine g_if_ne (tgt := 25) C dX3_readForbidden_20 (by decide) (fun c4 => ?_) (fun c4 => ?_)
    · replace hs := vi_f hs c4
      refine g_aload_n (pl := 2) C dX3_readForbidden_25 rfl rfl ?_
      refine g_iload_n (pl := 0) C dX3_readForbidden_26 rfl rfl ?_
      obtain ⟨z5, e_z5, hs⟩ := vb_ok hs
      refine g_callV (ws' := [oX3 h a_text f_end z3.2, aI cI a_text n_text f_text, oX0 a_p1 a_p1_commons a_p1_lengths a_p1_parts a_p1_likenesses f_p1_wordCount f_p1_likenessCount f_p1_actorCount z5 f_p1_habitTold f_p1_priceTold]) (rest := []) (st' := []) C mX3_77 q2_69 [.int z1.1] (fun l D => cX0_forbid_ct l D cI a_p1 a_p1_commons a_p1_lengths a_p1_parts a_p1_likenesses f_p1_wordCount f_p1_likenessCount f_p1_actorCount f_p1_forbiddenBits f_p1_habitTold f_p1_priceTold z1.1 e_z5) ⟨⟨rfl, rfl⟩, Nat.le_of_ble_eq_true rfl, Nat.le_of_ble_eq_true rfl⟩ 2 rfl rfl rfl [2] rfl rfl rfl rfl rfl (Nat.le_of_ble_eq_true rfl) (Nat.zero_le _) (Nat.zero_le _) rfl dX3_readForbidden_27 ?_
      refine g_iconst (v := (nI 1)) C dX3_readForbidden_30 rfl ?_
      cases hs
      exact hR _ _ (Or.inr rfl) dX3_readForbidden_31
    · replace hs := vi_t hs c4
      refine g_iconst (v := (nI 0)) C dX3_readForbidden_23 rfl ?_
      cases hs
      exact hR _ _ (Or.inl rfl) dX3_readForbidden_24
def sX3_readHabit (n_text : Nat) (f_text : Nat → Int32) (f_end : Int32) (f_at : Int32) (f_p1_habitTold : Int32) : Option (Int32 × Int32 × Int32) :=
  vb (sX3_number n_text f_text f_end f_at (nI 2) (nI 5)) fun z1 =>
  vi (z1.1 = (-4)) inferInstance (
    some ((nI 0), z1.2, f_p1_habitTold)) (
    vb (sX3_passes n_text f_text f_end z1.2 (nI 44)) fun z3 =>
    vi (z3.1 = 0) inferInstance (
      some ((nI 0), z3.2, f_p1_habitTold)) (
      vb (sX3_number n_text f_text f_end z3.2 (nI 1) (nI 4)) fun z5 =>
      vi (z5.1 = (-4)) inferInstance (
        some ((nI 0), z5.2, f_p1_habitTold)) (
        vb (sX3_passes n_text f_text f_end z5.2 (nI 59)) fun z7 =>
        vi (z7.1 = 0) inferInstance (
          some ((nI 0), z7.2, f_p1_habitTold)) (
          vb (sX0_setHabit f_p1_habitTold (((nI 10) * z1.1) + z5.1)) fun z9 =>
          some ((nI 1), z7.2, z9)))))
abbrev rmX3_readHabit : Room := { frames := 2, cells := 0, slots := 0, locals := 44 }
set_option maxHeartbeats 4000000 in
set_option maxRecDepth 100000 in
theorem cX3_readHabit_ct (l : Launch) (D : va_G) (cI : ClassId) (h : Nat) (a_text : Nat) (a_p1 : Nat) (a_p1_commons : Nat) (a_p1_lengths : Nat) (a_p1_parts : Nat) (a_p1_likenesses : Nat) (n_text : Nat) (f_end : Int32) (f_at : Int32) (f_text : Nat → Int32) (f_p1_wordCount : Int32) (f_p1_likenessCount : Int32) (f_p1_actorCount : Int32) (f_p1_forbiddenBits : Int32) (f_p1_habitTold : Int32) (f_p1_priceTold : Int32) {z : Int32 × Int32 × Int32} (hs : sX3_readHabit n_text f_text f_end f_at f_p1_habitTold = some z) : ct l yX3_readHabit (.code yX3_readHabit cX3_readHabit 4 (some .boolean) :: gtb) rmX3_readHabit D cI [.ref h, .ref a_p1] [oX3 h a_text f_end f_at, aI cI a_text n_text f_text, oX0 a_p1 a_p1_commons a_p1_lengths a_p1_parts a_p1_likenesses f_p1_wordCount f_p1_likenessCount f_p1_actorCount f_p1_forbiddenBits f_p1_habitTold f_p1_priceTold] (some (.int z.1)) [oX3 h a_text f_end z.2.1, aI cI a_text n_text f_text, oX0 a_p1 a_p1_commons a_p1_lengths a_p1_parts a_p1_likenesses f_p1_wordCount f_p1_likenessCount f_p1_actorCount f_p1_forbiddenBits z.2.2 f_p1_priceTold] := by
  refine ct_ofZ (own := RX3) (by decide +kernel) rfl (Nat.le_of_ble_eq_true rfl) (fun X C hD hR => ?_)
  unfold sX3_readHabit at hs
  show gg cI X 4 0 0 [oX3 h a_text f_end f_at, aI cI a_text n_text f_text, oX0 a_p1 a_p1_commons a_p1_lengths a_p1_parts a_p1_likenesses f_p1_wordCount f_p1_likenessCount f_p1_actorCount f_p1_forbiddenBits f_p1_habitTold f_p1_priceTold] [(0, .ref h), (1, .ref a_p1)] 0 []
  refine g_aload_n (pl := 0) C dX3_readHabit_0 rfl rfl ?_
  refine g_iconst (v := (nI 2)) C dX3_readHabit_1 rfl ?_
  refine g_iconst (v := (nI 5)) C dX3_readHabit_2 rfl ?_
  obtain ⟨z1, e_z1, hs⟩ := vb_ok hs
  refine g_callV (ws' := [oX3 h a_text f_end z1.2, aI cI a_text n_text f_text, oX0 a_p1 a_p1_commons a_p1_lengths a_p1_parts a_p1_likenesses f_p1_wordCount f_p1_likenessCount f_p1_actorCount f_p1_forbiddenBits f_p1_habitTold f_p1_priceTold]) (rest := []) (st' := [.int z1.1]) C mX3_60 q2_38 [.int (nI 2), .int (nI 5)] (fun l D => cX3_number_ct l D cI h a_text n_text f_end f_at f_text (nI 2) (nI 5) e_z1) ⟨⟨rfl, rfl⟩, Nat.le_of_ble_eq_true rfl, Nat.le_of_ble_eq_true rfl⟩ 0 rfl rfl rfl [0, 1] rfl rfl rfl rfl rfl (Nat.le_of_ble_eq_true rfl) (Nat.zero_le _) (Nat.zero_le _) rfl dX3_readHabit_3 ?_
  refine g_istore_n (lv' := [(2, .int z1.1), (0, .ref h), (1, .ref a_p1)]) C dX3_readHabit_6 rfl (by decide) rfl ?_
  refine g_iload_n (pl := 0) C dX3_readHabit_7 rfl rfl ?_
  refine g_bipush (v := (-4)) C dX3_readHabit_8 rfl ?_
  refine g_icmp_eq (tgt := 22) C dX3_readHabit_10 (by decide) (fun c2 => ?_) (fun c2 => ?_)
  · replace hs := vi_t hs c2
    refine g_iconst (v := (nI 0)) C dX3_readHabit_22 rfl ?_
    cases hs
    exact hR _ _ (Or.inl rfl) dX3_readHabit_23
  · replace hs := vi_f hs c2
    refine g_aload_n (pl := 1) C dX3_readHabit_13 rfl rfl ?_
    refine g_bipush (v := (nI 44)) C dX3_readHabit_14 rfl ?_
    obtain ⟨z3, e_z3, hs⟩ := vb_ok hs
    refine g_callV (ws' := [oX3 h a_text f_end z3.2, aI cI a_text n_text f_text, oX0 a_p1 a_p1_commons a_p1_lengths a_p1_parts a_p1_likenesses f_p1_wordCount f_p1_likenessCount f_p1_actorCount f_p1_forbiddenBits f_p1_habitTold f_p1_priceTold]) (rest := []) (st' := [.int z3.1]) C mX3_63 q2_45 [.int (nI 44)] (fun l D => cX3_passes_ct l D cI h a_text n_text f_end z1.2 f_text (nI 44) e_z3) ⟨⟨rfl, rfl⟩, Nat.le_of_ble_eq_true rfl, Nat.le_of_ble_eq_true rfl⟩ 0 rfl rfl rfl [0, 1] rfl rfl rfl rfl rfl (Nat.le_of_ble_eq_true rfl) (Nat.zero_le _) (Nat.zero_le _) rfl dX3_readHabit_16 ?_
    refine g_if_ne (tgt := 24) C dX3_readHabit_19 (by decide) (fun c4 => ?_) (fun c4 => ?_)
    · replace hs := vi_f hs c4
      refine g_aload_n (pl := 1) C dX3_readHabit_24 rfl rfl ?_
      refine g_iconst (v := (nI 1)) C dX3_readHabit_25 rfl ?_
      refine g_iconst (v := (nI 4)) C dX3_readHabit_26 rfl ?_
      obtain ⟨z5, e_z5, hs⟩ := vb_ok hs
      refine g_callV (ws' := [oX3 h a_text f_end z5.2, aI cI a_text n_text f_text, oX0 a_p1 a_p1_commons a_p1_lengths a_p1_parts a_p1_likenesses f_p1_wordCount f_p1_likenessCount f_p1_actorCount f_p1_forbiddenBits f_p1_habitTold f_p1_priceTold]) (rest := []) (st' := [.int z5.1]) C mX3_60 q2_38 [.int (nI 1), .int (nI 4)] (fun l D => cX3_number_ct l D cI h a_text n_text f_end z3.2 f_text (nI 1) (nI 4) e_z5) ⟨⟨rfl, rfl⟩, Nat.le_of_ble_eq_true rfl, Nat.le_of_ble_eq_true rfl⟩ 0 rfl rfl rfl [0, 1] rfl rfl rfl rfl rfl (Nat.le_of_ble_eq_true rfl) (Nat.zero_le _) (Nat.zero_le _) rfl dX3_readHabit_27 ?_
      refine g_istore_n (lv' := [(3, .int z5.1), (2, .int z1.1), (0, .ref h), (1, .ref a_p1)]) C dX3_readHabit_30 rfl (by decide) rfl ?_
      refine g_iload_n (pl := 0) C dX3_readHabit_31 rfl rfl ?_
      refine g_bipush (v := (-4)) C dX3_readHabit_32 rfl ?_
      refine g_icmp_eq (tgt := 46) C dX3_readHabit_34 (by decide) (fun c6 => ?_) (fun c6 => ?_)
      · replace hs := vi_t hs c6
        refine g_iconst (v := (nI 0)) C dX3_readHabit_46 rfl ?_
        cases hs
        exact hR _ _ (Or.inl rfl) dX3_readHabit_47
      · replace hs := vi_f hs c6
        refine g_aload_n (pl := 2) C dX3_readHabit_37 rfl rfl ?_
        refine g_bipush (v := (nI 59)) C dX3_readHabit_38 rfl ?_
        obtain ⟨z7, e_z7, hs⟩ := vb_ok hs
        refine g_callV (ws' := [oX3 h a_text f_end z7.2, aI cI a_text n_text f_text, oX0 a_p1 a_p1_commons a_p1_lengths a_p1_parts a_p1_likenesses f_p1_wordCount f_p1_likenessCount f_p1_actorCount f_p1_forbiddenBits f_p1_habitTold f_p1_priceTold]) (rest := []) (st' := [.int z7.1]) C mX3_63 q2_45 [.int (nI 59)] (fun l D => cX3_passes_ct l D cI h a_text n_text f_end z5.2 f_text (nI 59) e_z7) ⟨⟨rfl, rfl⟩, Nat.le_of_ble_eq_true rfl, Nat.le_of_ble_eq_true rfl⟩ 0 rfl rfl rfl [0, 1] rfl rfl rfl rfl rfl (Nat.le_of_ble_eq_true rfl) (Nat.zero_le _) (Nat.zero_le _) rfl dX3_readHabit_40 ?_
        refine g_if_ne (tgt := 48) C dX3_readHabit_43 (by decide) (fun c8 => ?_) (fun c8 => ?_)
        · replace hs := vi_f hs c8
          refine g_aload_n (pl := 3) C dX3_readHabit_48 rfl rfl ?_
          refine g_bipush (v := (nI 10)) C dX3_readHabit_49 rfl ?_
          refine g_iload_n (pl := 1) C dX3_readHabit_51 rfl rfl ?_
          refine g_imul C dX3_readHabit_52 ?_
          refine g_iload_n (pl := 0) C dX3_readHabit_53 rfl rfl ?_
          refine g_iadd C dX3_readHabit_54 ?_
          obtain ⟨z9, e_z9, hs⟩ := vb_ok hs
          refine g_callV (ws' := [oX3 h a_text f_end z7.2, aI cI a_text n_text f_text, oX0 a_p1 a_p1_commons a_p1_lengths a_p1_parts a_p1_likenesses f_p1_wordCount f_p1_likenessCount f_p1_actorCount f_p1_forbiddenBits z9 f_p1_priceTold]) (rest := []) (st' := []) C mX3_81 q2_77 [.int (((nI 10) * z1.1) + z5.1)] (fun l D => cX0_setHabit_ct l D cI a_p1 a_p1_commons a_p1_lengths a_p1_parts a_p1_likenesses f_p1_wordCount f_p1_likenessCount f_p1_actorCount f_p1_forbiddenBits f_p1_habitTold f_p1_priceTold (((nI 10) * z1.1) + z5.1) e_z9) ⟨⟨rfl, rfl⟩, Nat.le_of_ble_eq_true rfl, Nat.le_of_ble_eq_true rfl⟩ 2 rfl rfl rfl [2] rfl rfl rfl rfl rfl (Nat.le_of_ble_eq_true rfl) (Nat.zero_le _) (Nat.zero_le _) rfl dX3_readHabit_55 ?_
          refine g_iconst (v := (nI 1)) C dX3_readHabit_58 rfl ?_
          cases hs
          exact hR _ _ (Or.inr rfl) dX3_readHabit_59
        · replace hs := vi_t hs c8
          refine g_iconst (v := (nI 0)) C dX3_readHabit_46 rfl ?_
          cases hs
          exact hR _ _ (Or.inl rfl) dX3_readHabit_47
    · replace hs := vi_t hs c4
      refine g_iconst (v := (nI 0)) C dX3_readHabit_22 rfl ?_
      cases hs
      exact hR _ _ (Or.inl rfl) dX3_readHabit_23
def sX3_readPrice (n_text : Nat) (f_text : Nat → Int32) (f_end : Int32) (f_at : Int32) (f_p1_priceTold : Int32) : Option (Int32 × Int32 × Int32) :=
  vb (sX3_number n_text f_text f_end f_at (nI 0) (nI 9)) fun z1 =>
  vi (z1.1 = (-4)) inferInstance (
    some ((nI 0), z1.2, f_p1_priceTold)) (
    vb (sX3_passes n_text f_text f_end z1.2 (nI 59)) fun z3 =>
    vi (z3.1 = 0) inferInstance (
      some ((nI 0), z3.2, f_p1_priceTold)) (
      vb (sX0_setPrice f_p1_priceTold z1.1) fun z5 =>
      some ((nI 1), z3.2, z5)))
abbrev rmX3_readPrice : Room := { frames := 2, cells := 0, slots := 0, locals := 44 }
set_option maxHeartbeats 4000000 in
set_option maxRecDepth 100000 in
theorem cX3_readPrice_ct (l : Launch) (D : va_G) (cI : ClassId) (h : Nat) (a_text : Nat) (a_p1 : Nat) (a_p1_commons : Nat) (a_p1_lengths : Nat) (a_p1_parts : Nat) (a_p1_likenesses : Nat) (n_text : Nat) (f_end : Int32) (f_at : Int32) (f_text : Nat → Int32) (f_p1_wordCount : Int32) (f_p1_likenessCount : Int32) (f_p1_actorCount : Int32) (f_p1_forbiddenBits : Int32) (f_p1_habitTold : Int32) (f_p1_priceTold : Int32) {z : Int32 × Int32 × Int32} (hs : sX3_readPrice n_text f_text f_end f_at f_p1_priceTold = some z) : ct l yX3_readPrice (.code yX3_readPrice cX3_readPrice 3 (some .boolean) :: gtb) rmX3_readPrice D cI [.ref h, .ref a_p1] [oX3 h a_text f_end f_at, aI cI a_text n_text f_text, oX0 a_p1 a_p1_commons a_p1_lengths a_p1_parts a_p1_likenesses f_p1_wordCount f_p1_likenessCount f_p1_actorCount f_p1_forbiddenBits f_p1_habitTold f_p1_priceTold] (some (.int z.1)) [oX3 h a_text f_end z.2.1, aI cI a_text n_text f_text, oX0 a_p1 a_p1_commons a_p1_lengths a_p1_parts a_p1_likenesses f_p1_wordCount f_p1_likenessCount f_p1_actorCount f_p1_forbiddenBits f_p1_habitTold z.2.2] := by
  refine ct_ofZ (own := RX3) (by decide +kernel) rfl (Nat.le_of_ble_eq_true rfl) (fun X C hD hR => ?_)
  unfold sX3_readPrice at hs
  show gg cI X 3 0 0 [oX3 h a_text f_end f_at, aI cI a_text n_text f_text, oX0 a_p1 a_p1_commons a_p1_lengths a_p1_parts a_p1_likenesses f_p1_wordCount f_p1_likenessCount f_p1_actorCount f_p1_forbiddenBits f_p1_habitTold f_p1_priceTold] [(0, .ref h), (1, .ref a_p1)] 0 []
  refine g_aload_n (pl := 0) C dX3_readPrice_0 rfl rfl ?_
  refine g_iconst (v := (nI 0)) C dX3_readPrice_1 rfl ?_
  refine g_bipush (v := (nI 9)) C dX3_readPrice_2 rfl ?_
  obtain ⟨z1, e_z1, hs⟩ := vb_ok hs
  refine g_callV (ws' := [oX3 h a_text f_end z1.2, aI cI a_text n_text f_text, oX0 a_p1 a_p1_commons a_p1_lengths a_p1_parts a_p1_likenesses f_p1_wordCount f_p1_likenessCount f_p1_actorCount f_p1_forbiddenBits f_p1_habitTold f_p1_priceTold]) (rest := []) (st' := [.int z1.1]) C mX3_60 q2_38 [.int (nI 0), .int (nI 9)] (fun l D => cX3_number_ct l D cI h a_text n_text f_end f_at f_text (nI 0) (nI 9) e_z1) ⟨⟨rfl, rfl⟩, Nat.le_of_ble_eq_true rfl, Nat.le_of_ble_eq_true rfl⟩ 0 rfl rfl rfl [0, 1] rfl rfl rfl rfl rfl (Nat.le_of_ble_eq_true rfl) (Nat.zero_le _) (Nat.zero_le _) rfl dX3_readPrice_4 ?_
  refine g_istore_n (lv' := [(2, .int z1.1), (0, .ref h), (1, .ref a_p1)]) C dX3_readPrice_7 rfl (by decide) rfl ?_
  refine g_iload_n (pl := 0) C dX3_readPrice_8 rfl rfl ?_
  refine g_bipush (v := (-4)) C dX3_readPrice_9 rfl ?_
  refine g_icmp_eq (tgt := 23) C dX3_readPrice_11 (by decide) (fun c2 => ?_) (fun c2 => ?_)
  · replace hs := vi_t hs c2
    refine g_iconst (v := (nI 0)) C dX3_readPrice_23 rfl ?_
    cases hs
    exact hR _ _ (Or.inl rfl) dX3_readPrice_24
  · replace hs := vi_f hs c2
    refine g_aload_n (pl := 1) C dX3_readPrice_14 rfl rfl ?_
    refine g_bipush (v := (nI 59)) C dX3_readPrice_15 rfl ?_
    obtain ⟨z3, e_z3, hs⟩ := vb_ok hs
    refine g_callV (ws' := [oX3 h a_text f_end z3.2, aI cI a_text n_text f_text, oX0 a_p1 a_p1_commons a_p1_lengths a_p1_parts a_p1_likenesses f_p1_wordCount f_p1_likenessCount f_p1_actorCount f_p1_forbiddenBits f_p1_habitTold f_p1_priceTold]) (rest := []) (st' := [.int z3.1]) C mX3_63 q2_45 [.int (nI 59)] (fun l D => cX3_passes_ct l D cI h a_text n_text f_end z1.2 f_text (nI 59) e_z3) ⟨⟨rfl, rfl⟩, Nat.le_of_ble_eq_true rfl, Nat.le_of_ble_eq_true rfl⟩ 0 rfl rfl rfl [0, 1] rfl rfl rfl rfl rfl (Nat.le_of_ble_eq_true rfl) (Nat.zero_le _) (Nat.zero_le _) rfl dX3_readPrice_17 ?_
    refine g_if_ne (tgt := 25) C dX3_readPrice_20 (by decide) (fun c4 => ?_) (fun c4 => ?_)
    · replace hs := vi_f hs c4
      refine g_aload_n (pl := 2) C dX3_readPrice_25 rfl rfl ?_
      refine g_iload_n (pl := 0) C dX3_readPrice_26 rfl rfl ?_
      obtain ⟨z5, e_z5, hs⟩ := vb_ok hs
      refine g_callV (ws' := [oX3 h a_text f_end z3.2, aI cI a_text n_text f_text, oX0 a_p1 a_p1_commons a_p1_lengths a_p1_parts a_p1_likenesses f_p1_wordCount f_p1_likenessCount f_p1_actorCount f_p1_forbiddenBits f_p1_habitTold z5]) (rest := []) (st' := []) C mX3_84 q2_85 [.int z1.1] (fun l D => cX0_setPrice_ct l D cI a_p1 a_p1_commons a_p1_lengths a_p1_parts a_p1_likenesses f_p1_wordCount f_p1_likenessCount f_p1_actorCount f_p1_forbiddenBits f_p1_habitTold f_p1_priceTold z1.1 e_z5) ⟨⟨rfl, rfl⟩, Nat.le_of_ble_eq_true rfl, Nat.le_of_ble_eq_true rfl⟩ 2 rfl rfl rfl [2] rfl rfl rfl rfl rfl (Nat.le_of_ble_eq_true rfl) (Nat.zero_le _) (Nat.zero_le _) rfl dX3_readPrice_27 ?_
      refine g_iconst (v := (nI 1)) C dX3_readPrice_30 rfl ?_
      cases hs
      exact hR _ _ (Or.inr rfl) dX3_readPrice_31
    · replace hs := vi_t hs c4
      refine g_iconst (v := (nI 0)) C dX3_readPrice_23 rfl ?_
      cases hs
      exact hR _ _ (Or.inl rfl) dX3_readPrice_24
def sX3_readActor (n_text : Nat) (f_text : Nat → Int32) (f_end : Int32) (f_at : Int32) (f_p1_wordCount : Int32) (f_p1_actorCount : Int32) (f_p2_cells : Nat → Int32) : Option (Int32 × Int32 × Int32 × (Nat → Int32)) :=
  vb (sX3_number n_text f_text f_end f_at (nI 0) (nI 3)) fun z1 =>
  vi (z1.1 = (-4)) inferInstance (
    some ((nI 0), z1.2, f_p1_actorCount, f_p2_cells)) (
    vb (sX3_passes n_text f_text f_end z1.2 (nI 44)) fun z3 =>
    vi (z3.1 = 0) inferInstance (
      some ((nI 0), z3.2, f_p1_actorCount, f_p2_cells)) (
      vb (sX0_words f_p1_wordCount) fun z5 =>
      vb (sX3_number n_text f_text f_end z3.2 (nI 0) (z5 - (nI 1))) fun z6 =>
      vi (z6.1 = (-4)) inferInstance (
        some ((nI 0), z6.2, f_p1_actorCount, f_p2_cells)) (
        vb (sX3_passes n_text f_text f_end z6.2 (nI 44)) fun z8 =>
        vi (z8.1 = 0) inferInstance (
          some ((nI 0), z8.2, f_p1_actorCount, f_p2_cells)) (
          vb (sX3_number n_text f_text f_end z8.2 (nI 0) (nI 99)) fun z10 =>
          vi (z10.1 = (-4)) inferInstance (
            some ((nI 0), z10.2, f_p1_actorCount, f_p2_cells)) (
            vb (sX3_passes n_text f_text f_end z10.2 (nI 59)) fun z12 =>
            vi (z12.1 = 0) inferInstance (
              some ((nI 0), z12.2, f_p1_actorCount, f_p2_cells)) (
              vb (sX0_addActor f_p1_actorCount) fun z14 =>
              vi (z14.1 = 0) inferInstance (
                some ((nI 0), z12.2, z14.2, f_p2_cells)) (
                vb (sX0_actors z14.2) fun z16 =>
                vb (sX4_start f_p2_cells (z16 - (nI 1)) z1.1 z6.1 z10.1) fun z17 =>
                some ((nI 1), z12.2, z14.2, z17))))))))
abbrev rmX3_readActor : Room := { frames := 2, cells := 0, slots := 0, locals := 49 }
set_option maxHeartbeats 4000000 in
set_option maxRecDepth 100000 in
theorem cX3_readActor_ct (l : Launch) (D : va_G) (cI : ClassId) (h : Nat) (a_text : Nat) (a_p1 : Nat) (a_p1_commons : Nat) (a_p1_lengths : Nat) (a_p1_parts : Nat) (a_p1_likenesses : Nat) (a_p2 : Nat) (a_p2_cells : Nat) (n_text : Nat) (f_end : Int32) (f_at : Int32) (f_text : Nat → Int32) (f_p1_wordCount : Int32) (f_p1_likenessCount : Int32) (f_p1_actorCount : Int32) (f_p1_forbiddenBits : Int32) (f_p1_habitTold : Int32) (f_p1_priceTold : Int32) (f_p2_cells : Nat → Int32) {z : Int32 × Int32 × Int32 × (Nat → Int32)} (hs : sX3_readActor n_text f_text f_end f_at f_p1_wordCount f_p1_actorCount f_p2_cells = some z) : ct l yX3_readActor (.code yX3_readActor cX3_readActor 6 (some .boolean) :: gtb) rmX3_readActor D cI [.ref h, .ref a_p1, .ref a_p2] [oX3 h a_text f_end f_at, aI cI a_text n_text f_text, oX0 a_p1 a_p1_commons a_p1_lengths a_p1_parts a_p1_likenesses f_p1_wordCount f_p1_likenessCount f_p1_actorCount f_p1_forbiddenBits f_p1_habitTold f_p1_priceTold, oX4 a_p2 a_p2_cells, aI cI a_p2_cells 55 f_p2_cells] (some (.int z.1)) [oX3 h a_text f_end z.2.1, aI cI a_text n_text f_text, oX0 a_p1 a_p1_commons a_p1_lengths a_p1_parts a_p1_likenesses f_p1_wordCount f_p1_likenessCount z.2.2.1 f_p1_forbiddenBits f_p1_habitTold f_p1_priceTold, oX4 a_p2 a_p2_cells, aI cI a_p2_cells 55 z.2.2.2] := by
  refine ct_ofZ (own := RX3) (by decide +kernel) rfl (Nat.le_of_ble_eq_true rfl) (fun X C hD hR => ?_)
  unfold sX3_readActor at hs
  show gg cI X 6 0 0 [oX3 h a_text f_end f_at, aI cI a_text n_text f_text, oX0 a_p1 a_p1_commons a_p1_lengths a_p1_parts a_p1_likenesses f_p1_wordCount f_p1_likenessCount f_p1_actorCount f_p1_forbiddenBits f_p1_habitTold f_p1_priceTold, oX4 a_p2 a_p2_cells, aI cI a_p2_cells 55 f_p2_cells] [(0, .ref h), (1, .ref a_p1), (2, .ref a_p2)] 0 []
  refine g_aload_n (pl := 0) C dX3_readActor_0 rfl rfl ?_
  refine g_iconst (v := (nI 0)) C dX3_readActor_1 rfl ?_
  refine g_iconst (v := (nI 3)) C dX3_readActor_2 rfl ?_
  obtain ⟨z1, e_z1, hs⟩ := vb_ok hs
  refine g_callV (ws' := [oX3 h a_text f_end z1.2, aI cI a_text n_text f_text, oX0 a_p1 a_p1_commons a_p1_lengths a_p1_parts a_p1_likenesses f_p1_wordCount f_p1_likenessCount f_p1_actorCount f_p1_forbiddenBits f_p1_habitTold f_p1_priceTold, oX4 a_p2 a_p2_cells, aI cI a_p2_cells 55 f_p2_cells]) (rest := []) (st' := [.int z1.1]) C mX3_60 q2_38 [.int (nI 0), .int (nI 3)] (fun l D => cX3_number_ct l D cI h a_text n_text f_end f_at f_text (nI 0) (nI 3) e_z1) ⟨⟨rfl, rfl⟩, Nat.le_of_ble_eq_true rfl, Nat.le_of_ble_eq_true rfl⟩ 0 rfl rfl rfl [0, 1] rfl rfl rfl rfl rfl (Nat.le_of_ble_eq_true rfl) (Nat.zero_le _) (Nat.zero_le _) rfl dX3_readActor_3 ?_
  refine g_istore_n (lv' := [(3, .int z1.1), (0, .ref h), (1, .ref a_p1), (2, .ref a_p2)]) C dX3_readActor_6 rfl (by decide) rfl ?_
  refine g_iload_n (pl := 0) C dX3_readActor_7 rfl rfl ?_
  refine g_bipush (v := (-4)) C dX3_readActor_8 rfl ?_
  refine g_icmp_eq (tgt := 22) C dX3_readActor_10 (by decide) (fun c2 => ?_) (fun c2 => ?_)
  · replace hs := vi_t hs c2
    refine g_iconst (v := (nI 0)) C dX3_readActor_22 rfl ?_
    cases hs
    exact hR _ _ (Or.inl rfl) dX3_readActor_23
  · replace hs := vi_f hs c2
    refine g_aload_n (pl := 1) C dX3_readActor_13 rfl rfl ?_
    refine g_bipush (v := (nI 44)) C dX3_readActor_14 rfl ?_
    obtain ⟨z3, e_z3, hs⟩ := vb_ok hs
    refine g_callV (ws' := [oX3 h a_text f_end z3.2, aI cI a_text n_text f_text, oX0 a_p1 a_p1_commons a_p1_lengths a_p1_parts a_p1_likenesses f_p1_wordCount f_p1_likenessCount f_p1_actorCount f_p1_forbiddenBits f_p1_habitTold f_p1_priceTold, oX4 a_p2 a_p2_cells, aI cI a_p2_cells 55 f_p2_cells]) (rest := []) (st' := [.int z3.1]) C mX3_63 q2_45 [.int (nI 44)] (fun l D => cX3_passes_ct l D cI h a_text n_text f_end z1.2 f_text (nI 44) e_z3) ⟨⟨rfl, rfl⟩, Nat.le_of_ble_eq_true rfl, Nat.le_of_ble_eq_true rfl⟩ 0 rfl rfl rfl [0, 1] rfl rfl rfl rfl rfl (Nat.le_of_ble_eq_true rfl) (Nat.zero_le _) (Nat.zero_le _) rfl dX3_readActor_16 ?_
    refine g_if_ne (tgt := 24) C dX3_readActor_19 (by decide) (fun c4 => ?_) (fun c4 => ?_)
    · replace hs := vi_f hs c4
      refine g_aload_n (pl := 1) C dX3_readActor_24 rfl rfl ?_
      refine g_iconst (v := (nI 0)) C dX3_readActor_25 rfl ?_
      refine g_aload_n (pl := 2) C dX3_readActor_26 rfl rfl ?_
      obtain ⟨z5, e_z5, hs⟩ := vb_ok hs
      refine g_callV (ws' := [oX3 h a_text f_end z3.2, aI cI a_text n_text f_text, oX0 a_p1 a_p1_commons a_p1_lengths a_p1_parts a_p1_likenesses f_p1_wordCount f_p1_likenessCount f_p1_actorCount f_p1_forbiddenBits f_p1_habitTold f_p1_priceTold, oX4 a_p2 a_p2_cells, aI cI a_p2_cells 55 f_p2_cells]) (rest := [.int (nI 0), .ref h]) (st' := [.int z5, .int (nI 0), .ref h]) C mX3_71 q2_57 [] (fun l D => cX0_words_ct l D cI a_p1 a_p1_commons a_p1_lengths a_p1_parts a_p1_likenesses f_p1_wordCount f_p1_likenessCount f_p1_actorCount f_p1_forbiddenBits f_p1_habitTold f_p1_priceTold e_z5) ⟨⟨rfl, rfl⟩, Nat.le_of_ble_eq_true rfl, Nat.le_of_ble_eq_true rfl⟩ 2 rfl rfl rfl [2] rfl rfl rfl rfl rfl (Nat.le_of_ble_eq_true rfl) (Nat.zero_le _) (Nat.zero_le _) rfl dX3_readActor_27 ?_
      refine g_iconst (v := (nI 1)) C dX3_readActor_30 rfl ?_
      refine g_isub C dX3_readActor_31 ?_
      obtain ⟨z6, e_z6, hs⟩ := vb_ok hs
      refine g_callV (ws' := [oX3 h a_text f_end z6.2, aI cI a_text n_text f_text, oX0 a_p1 a_p1_commons a_p1_lengths a_p1_parts a_p1_likenesses f_p1_wordCount f_p1_likenessCount f_p1_actorCount f_p1_forbiddenBits f_p1_habitTold f_p1_priceTold, oX4 a_p2 a_p2_cells, aI cI a_p2_cells 55 f_p2_cells]) (rest := []) (st' := [.int z6.1]) C mX3_60 q2_38 [.int (nI 0), .int (z5 - (nI 1))] (fun l D => cX3_number_ct l D cI h a_text n_text f_end z3.2 f_text (nI 0) (z5 - (nI 1)) e_z6) ⟨⟨rfl, rfl⟩, Nat.le_of_ble_eq_true rfl, Nat.le_of_ble_eq_true rfl⟩ 0 rfl rfl rfl [0, 1] rfl rfl rfl rfl rfl (Nat.le_of_ble_eq_true rfl) (Nat.zero_le _) (Nat.zero_le _) rfl dX3_readActor_32 ?_
      refine g_istore (lv' := [(4, .int z6.1), (3, .int z1.1), (0, .ref h), (1, .ref a_p1), (2, .ref a_p2)]) C dX3_readActor_35 (by decide) rfl ?_
      refine g_iload (pl := 0) C dX3_readActor_37 rfl ?_
      refine g_bipush (v := (-4)) C dX3_readActor_39 rfl ?_
      refine g_icmp_eq (tgt := 53) C dX3_readActor_41 (by decide) (fun c7 => ?_) (fun c7 => ?_)
      · replace hs := vi_t hs c7
        refine g_iconst (v := (nI 0)) C dX3_readActor_53 rfl ?_
        cases hs
        exact hR _ _ (Or.inl rfl) dX3_readActor_54
      · replace hs := vi_f hs c7
        refine g_aload_n (pl := 2) C dX3_readActor_44 rfl rfl ?_
        refine g_bipush (v := (nI 44)) C dX3_readActor_45 rfl ?_
        obtain ⟨z8, e_z8, hs⟩ := vb_ok hs
        refine g_callV (ws' := [oX3 h a_text f_end z8.2, aI cI a_text n_text f_text, oX0 a_p1 a_p1_commons a_p1_lengths a_p1_parts a_p1_likenesses f_p1_wordCount f_p1_likenessCount f_p1_actorCount f_p1_forbiddenBits f_p1_habitTold f_p1_priceTold, oX4 a_p2 a_p2_cells, aI cI a_p2_cells 55 f_p2_cells]) (rest := []) (st' := [.int z8.1]) C mX3_63 q2_45 [.int (nI 44)] (fun l D => cX3_passes_ct l D cI h a_text n_text f_end z6.2 f_text (nI 44) e_z8) ⟨⟨rfl, rfl⟩, Nat.le_of_ble_eq_true rfl, Nat.le_of_ble_eq_true rfl⟩ 0 rfl rfl rfl [0, 1] rfl rfl rfl rfl rfl (Nat.le_of_ble_eq_true rfl) (Nat.zero_le _) (Nat.zero_le _) rfl dX3_readActor_47 ?_
        refine g_if_ne (tgt := 55) C dX3_readActor_50 (by decide) (fun c9 => ?_) (fun c9 => ?_)
        · replace hs := vi_f hs c9
          refine g_aload_n (pl := 2) C dX3_readActor_55 rfl rfl ?_
          refine g_iconst (v := (nI 0)) C dX3_readActor_56 rfl ?_
          refine g_bipush (v := (nI 99)) C dX3_readActor_57 rfl ?_
          obtain ⟨z10, e_z10, hs⟩ := vb_ok hs
          refine g_callV (ws' := [oX3 h a_text f_end z10.2, aI cI a_text n_text f_text, oX0 a_p1 a_p1_commons a_p1_lengths a_p1_parts a_p1_likenesses f_p1_wordCount f_p1_likenessCount f_p1_actorCount f_p1_forbiddenBits f_p1_habitTold f_p1_priceTold, oX4 a_p2 a_p2_cells, aI cI a_p2_cells 55 f_p2_cells]) (rest := []) (st' := [.int z10.1]) C mX3_60 q2_38 [.int (nI 0), .int (nI 99)] (fun l D => cX3_number_ct l D cI h a_text n_text f_end z8.2 f_text (nI 0) (nI 99) e_z10) ⟨⟨rfl, rfl⟩, Nat.le_of_ble_eq_true rfl, Nat.le_of_ble_eq_true rfl⟩ 0 rfl rfl rfl [0, 1] rfl rfl rfl rfl rfl (Nat.le_of_ble_eq_true rfl) (Nat.zero_le _) (Nat.zero_le _) rfl dX3_readActor_59 ?_
          refine g_istore (lv' := [(5, .int z10.1), (4, .int z6.1), (3, .int z1.1), (0, .ref h), (1, .ref a_p1), (2, .ref a_p2)]) C dX3_readActor_62 (by decide) rfl ?_
          refine g_iload (pl := 0) C dX3_readActor_64 rfl ?_
          refine g_bipush (v := (-4)) C dX3_readActor_66 rfl ?_
          refine g_icmp_eq (tgt := 87) C dX3_readActor_68 (by decide) (fun c11 => ?_) (fun c11 => ?_)
          · replace hs := vi_t hs c11
            refine g_iconst (v := (nI 0)) C dX3_readActor_87 rfl ?_
            cases hs
            exact hR _ _ (Or.inl rfl) dX3_readActor_88
          · replace hs := vi_f hs c11
            refine g_aload_n (pl := 3) C dX3_readActor_71 rfl rfl ?_
            refine g_bipush (v := (nI 59)) C dX3_readActor_72 rfl ?_
            obtain ⟨z12, e_z12, hs⟩ := vb_ok hs
            refine g_callV (ws' := [oX3 h a_text f_end z12.2, aI cI a_text n_text f_text, oX0 a_p1 a_p1_commons a_p1_lengths a_p1_parts a_p1_likenesses f_p1_wordCount f_p1_likenessCount f_p1_actorCount f_p1_forbiddenBits f_p1_habitTold f_p1_priceTold, oX4 a_p2 a_p2_cells, aI cI a_p2_cells 55 f_p2_cells]) (rest := []) (st' := [.int z12.1]) C mX3_63 q2_45 [.int (nI 59)] (fun l D => cX3_passes_ct l D cI h a_text n_text f_end z10.2 f_text (nI 59) e_z12) ⟨⟨rfl, rfl⟩, Nat.le_of_ble_eq_true rfl, Nat.le_of_ble_eq_true rfl⟩ 0 rfl rfl rfl [0, 1] rfl rfl rfl rfl rfl (Nat.le_of_ble_eq_true rfl) (Nat.zero_le _) (Nat.zero_le _) rfl dX3_readActor_74 ?_
            refine g_if_eq (tgt := 87) C dX3_readActor_77 (by decide) (fun c13 => ?_) (fun c13 => ?_)
            · replace hs := vi_t hs c13
              refine g_iconst (v := (nI 0)) C dX3_readActor_87 rfl ?_
              cases hs
              exact hR _ _ (Or.inl rfl) dX3_readActor_88
            · replace hs := vi_f hs c13
              refine g_aload_n (pl := 4) C dX3_readActor_80 rfl rfl ?_
              obtain ⟨z14, e_z14, hs⟩ := vb_ok hs
              refine g_callV (ws' := [oX3 h a_text f_end z12.2, aI cI a_text n_text f_text, oX0 a_p1 a_p1_commons a_p1_lengths a_p1_parts a_p1_likenesses f_p1_wordCount f_p1_likenessCount z14.2 f_p1_forbiddenBits f_p1_habitTold f_p1_priceTold, oX4 a_p2 a_p2_cells, aI cI a_p2_cells 55 f_p2_cells]) (rest := []) (st' := [.int z14.1]) C mX3_87 q2_93 [] (fun l D => cX0_addActor_ct l D cI a_p1 a_p1_commons a_p1_lengths a_p1_parts a_p1_likenesses f_p1_wordCount f_p1_likenessCount f_p1_actorCount f_p1_forbiddenBits f_p1_habitTold f_p1_priceTold e_z14) ⟨⟨rfl, rfl⟩, Nat.le_of_ble_eq_true rfl, Nat.le_of_ble_eq_true rfl⟩ 2 rfl rfl rfl [2] rfl rfl rfl rfl rfl (Nat.le_of_ble_eq_true rfl) (Nat.zero_le _) (Nat.zero_le _) rfl dX3_readActor_81 ?_
              refine g_if_ne (tgt := 89) C dX3_readActor_84 (by decide) (fun c15 => ?_) (fun c15 => ?_)
              · replace hs := vi_f hs c15
                refine g_aload_n (pl := 5) C dX3_readActor_89 rfl rfl ?_
                refine g_aload_n (pl := 4) C dX3_readActor_90 rfl rfl ?_
                obtain ⟨z16, e_z16, hs⟩ := vb_ok hs
                refine g_callV (ws' := [oX3 h a_text f_end z12.2, aI cI a_text n_text f_text, oX0 a_p1 a_p1_commons a_p1_lengths a_p1_parts a_p1_likenesses f_p1_wordCount f_p1_likenessCount z14.2 f_p1_forbiddenBits f_p1_habitTold f_p1_priceTold, oX4 a_p2 a_p2_cells, aI cI a_p2_cells 55 f_p2_cells]) (rest := [.ref a_p2]) (st' := [.int z16, .ref a_p2]) C mX3_91 q2_97 [] (fun l D => cX0_actors_ct l D cI a_p1 a_p1_commons a_p1_lengths a_p1_parts a_p1_likenesses f_p1_wordCount f_p1_likenessCount z14.2 f_p1_forbiddenBits f_p1_habitTold f_p1_priceTold e_z16) ⟨⟨rfl, rfl⟩, Nat.le_of_ble_eq_true rfl, Nat.le_of_ble_eq_true rfl⟩ 2 rfl rfl rfl [2] rfl rfl rfl rfl rfl (Nat.le_of_ble_eq_true rfl) (Nat.zero_le _) (Nat.zero_le _) rfl dX3_readActor_91 ?_
                refine g_iconst (v := (nI 1)) C dX3_readActor_94 rfl ?_
                refine g_isub C dX3_readActor_95 ?_
                refine g_iload_n (pl := 2) C dX3_readActor_96 rfl rfl ?_
                refine g_iload (pl := 1) C dX3_readActor_97 rfl ?_
                refine g_iload (pl := 0) C dX3_readActor_99 rfl ?_
                obtain ⟨z17, e_z17, hs⟩ := vb_ok hs
                refine g_callV (ws' := [oX3 h a_text f_end z12.2, aI cI a_text n_text f_text, oX0 a_p1 a_p1_commons a_p1_lengths a_p1_parts a_p1_likenesses f_p1_wordCount f_p1_likenessCount z14.2 f_p1_forbiddenBits f_p1_habitTold f_p1_priceTold, oX4 a_p2 a_p2_cells, aI cI a_p2_cells 55 z17]) (rest := []) (st' := []) C mX3_94 q2_101 [.int (z16 - (nI 1)), .int z1.1, .int z6.1, .int z10.1] (fun l D => cX4_start_ct l D cI a_p2 a_p2_cells f_p2_cells (z16 - (nI 1)) z1.1 z6.1 z10.1 e_z17) ⟨⟨rfl, rfl⟩, Nat.le_of_ble_eq_true rfl, Nat.le_of_ble_eq_true rfl⟩ 3 rfl rfl rfl [3, 4] rfl rfl rfl rfl rfl (Nat.le_of_ble_eq_true rfl) (Nat.zero_le _) (Nat.zero_le _) rfl dX3_readActor_101 ?_
                refine g_iconst (v := (nI 1)) C dX3_readActor_104 rfl ?_
                cases hs
                exact hR _ _ (Or.inr rfl) dX3_readActor_105
              · replace hs := vi_t hs c15
                refine g_iconst (v := (nI 0)) C dX3_readActor_87 rfl ?_
                cases hs
                exact hR _ _ (Or.inl rfl) dX3_readActor_88
        · replace hs := vi_t hs c9
          refine g_iconst (v := (nI 0)) C dX3_readActor_53 rfl ?_
          cases hs
          exact hR _ _ (Or.inl rfl) dX3_readActor_54
    · replace hs := vi_t hs c4
      refine g_iconst (v := (nI 0)) C dX3_readActor_22 rfl ?_
      cases hs
      exact hR _ _ (Or.inl rfl) dX3_readActor_23
def sX3_readItem (n_text : Nat) (f_text : Nat → Int32) (f_end : Int32) (f_at : Int32) (f_p1_commons : Nat → Int32) (f_p1_lengths : Nat → Int32) (f_p1_parts : Nat → Int32) (f_p1_likenesses : Nat → Int32) (f_p1_wordCount : Int32) (f_p1_likenessCount : Int32) (f_p1_actorCount : Int32) (f_p1_forbiddenBits : Int32) (f_p1_habitTold : Int32) (f_p1_priceTold : Int32) (f_p2_cells : Nat → Int32) : Option (Int32 × Int32 × (Nat → Int32) × (Nat → Int32) × (Nat → Int32) × (Nat → Int32) × Int32 × Int32 × Int32 × Int32 × Int32 × Int32 × (Nat → Int32)) :=
  vb (sX3_peek n_text f_text f_end f_at) fun z1 =>
  vlet (f_at + (nI 1)) fun y2 =>
  vi (z1 = (nI 97)) inferInstance (
    vb (sX3_readActor n_text f_text f_end y2 f_p1_wordCount f_p1_actorCount f_p2_cells) fun z4 =>
    vg (vz z4.1) (
    some (z4.1, z4.2.1, f_p1_commons, f_p1_lengths, f_p1_parts, f_p1_likenesses, f_p1_wordCount, f_p1_likenessCount, z4.2.2.1, f_p1_forbiddenBits, f_p1_habitTold, f_p1_priceTold, z4.2.2.2))) (
    vi (z1 = (nI 104)) inferInstance (
      vb (sX3_readHabit n_text f_text f_end y2 f_p1_habitTold) fun z7 =>
      vg (vz z7.1) (
      some (z7.1, z7.2.1, f_p1_commons, f_p1_lengths, f_p1_parts, f_p1_likenesses, f_p1_wordCount, f_p1_likenessCount, f_p1_actorCount, f_p1_forbiddenBits, z7.2.2, f_p1_priceTold, f_p2_cells))) (
      vi (z1 = (nI 108)) inferInstance (
        vb (sX3_readLikeness n_text f_text f_end y2 f_p1_likenesses f_p1_wordCount f_p1_likenessCount) fun z10 =>
        vg (vz z10.1) (
        some (z10.1, z10.2.1, f_p1_commons, f_p1_lengths, f_p1_parts, z10.2.2.1, f_p1_wordCount, z10.2.2.2, f_p1_actorCount, f_p1_forbiddenBits, f_p1_habitTold, f_p1_priceTold, f_p2_cells))) (
        vi (z1 = (nI 114)) inferInstance (
          vb (sX3_readPrice n_text f_text f_end y2 f_p1_priceTold) fun z13 =>
          vg (vz z13.1) (
          some (z13.1, z13.2.1, f_p1_commons, f_p1_lengths, f_p1_parts, f_p1_likenesses, f_p1_wordCount, f_p1_likenessCount, f_p1_actorCount, f_p1_forbiddenBits, f_p1_habitTold, z13.2.2, f_p2_cells))) (
          vi (z1 = (nI 119)) inferInstance (
            vb (sX3_readWord n_text f_text f_end y2 f_p1_commons f_p1_lengths f_p1_parts f_p1_wordCount) fun z16 =>
            vg (vz z16.1) (
            some (z16.1, z16.2.1, z16.2.2.1, z16.2.2.2.1, z16.2.2.2.2.1, f_p1_likenesses, z16.2.2.2.2.2, f_p1_likenessCount, f_p1_actorCount, f_p1_forbiddenBits, f_p1_habitTold, f_p1_priceTold, f_p2_cells))) (
            vi (z1 = (nI 120)) inferInstance (
              vb (sX3_readForbidden n_text f_text f_end y2 f_p1_forbiddenBits) fun z19 =>
              vg (vz z19.1) (
              some (z19.1, z19.2.1, f_p1_commons, f_p1_lengths, f_p1_parts, f_p1_likenesses, f_p1_wordCount, f_p1_likenessCount, f_p1_actorCount, z19.2.2, f_p1_habitTold, f_p1_priceTold, f_p2_cells))) (
              some ((nI 0), y2, f_p1_commons, f_p1_lengths, f_p1_parts, f_p1_likenesses, f_p1_wordCount, f_p1_likenessCount, f_p1_actorCount, f_p1_forbiddenBits, f_p1_habitTold, f_p1_priceTold, f_p2_cells)))))))
abbrev rmX3_readItem : Room := { frames := 3, cells := 0, slots := 0, locals := 74 }
set_option maxHeartbeats 4000000 in
set_option maxRecDepth 100000 in
theorem cX3_readItem_ct (l : Launch) (D : va_G) (cI : ClassId) (h : Nat) (a_text : Nat) (a_p1 : Nat) (a_p1_commons : Nat) (a_p1_lengths : Nat) (a_p1_parts : Nat) (a_p1_likenesses : Nat) (a_p2 : Nat) (a_p2_cells : Nat) (n_text : Nat) (f_end : Int32) (f_at : Int32) (f_text : Nat → Int32) (f_p1_wordCount : Int32) (f_p1_likenessCount : Int32) (f_p1_actorCount : Int32) (f_p1_forbiddenBits : Int32) (f_p1_habitTold : Int32) (f_p1_priceTold : Int32) (f_p1_commons : Nat → Int32) (f_p1_lengths : Nat → Int32) (f_p1_parts : Nat → Int32) (f_p1_likenesses : Nat → Int32) (f_p2_cells : Nat → Int32) {z : Int32 × Int32 × (Nat → Int32) × (Nat → Int32) × (Nat → Int32) × (Nat → Int32) × Int32 × Int32 × Int32 × Int32 × Int32 × Int32 × (Nat → Int32)} (hs : sX3_readItem n_text f_text f_end f_at f_p1_commons f_p1_lengths f_p1_parts f_p1_likenesses f_p1_wordCount f_p1_likenessCount f_p1_actorCount f_p1_forbiddenBits f_p1_habitTold f_p1_priceTold f_p2_cells = some z) : ct l yX3_readItem (.code yX3_readItem cX3_readItem 4 (some .boolean) :: gtb) rmX3_readItem D cI [.ref h, .ref a_p1, .ref a_p2] [oX3 h a_text f_end f_at, aI cI a_text n_text f_text, oX0 a_p1 a_p1_commons a_p1_lengths a_p1_parts a_p1_likenesses f_p1_wordCount f_p1_likenessCount f_p1_actorCount f_p1_forbiddenBits f_p1_habitTold f_p1_priceTold, aI cI a_p1_commons 8 f_p1_commons, aI cI a_p1_lengths 8 f_p1_lengths, aI cI a_p1_parts 8 f_p1_parts, aI cI a_p1_likenesses 6 f_p1_likenesses, oX4 a_p2 a_p2_cells, aI cI a_p2_cells 55 f_p2_cells] (some (.int z.1)) [oX3 h a_text f_end z.2.1, aI cI a_text n_text f_text, oX0 a_p1 a_p1_commons a_p1_lengths a_p1_parts a_p1_likenesses z.2.2.2.2.2.2.1 z.2.2.2.2.2.2.2.1 z.2.2.2.2.2.2.2.2.1 z.2.2.2.2.2.2.2.2.2.1 z.2.2.2.2.2.2.2.2.2.2.1 z.2.2.2.2.2.2.2.2.2.2.2.1, aI cI a_p1_commons 8 z.2.2.1, aI cI a_p1_lengths 8 z.2.2.2.1, aI cI a_p1_parts 8 z.2.2.2.2.1, aI cI a_p1_likenesses 6 z.2.2.2.2.2.1, oX4 a_p2 a_p2_cells, aI cI a_p2_cells 55 z.2.2.2.2.2.2.2.2.2.2.2.2] := by
  refine ct_ofZ (own := RX3) (by decide +kernel) rfl (Nat.le_of_ble_eq_true rfl) (fun X C hD hR => ?_)
  unfold sX3_readItem at hs
  show gg cI X 4 0 0 [oX3 h a_text f_end f_at, aI cI a_text n_text f_text, oX0 a_p1 a_p1_commons a_p1_lengths a_p1_parts a_p1_likenesses f_p1_wordCount f_p1_likenessCount f_p1_actorCount f_p1_forbiddenBits f_p1_habitTold f_p1_priceTold, aI cI a_p1_commons 8 f_p1_commons, aI cI a_p1_lengths 8 f_p1_lengths, aI cI a_p1_parts 8 f_p1_parts, aI cI a_p1_likenesses 6 f_p1_likenesses, oX4 a_p2 a_p2_cells, aI cI a_p2_cells 55 f_p2_cells] [(0, .ref h), (1, .ref a_p1), (2, .ref a_p2)] 0 []
  refine g_aload_n (pl := 0) C dX3_readItem_0 rfl rfl ?_
  obtain ⟨z1, e_z1, hs⟩ := vb_ok hs
  refine g_callV (ws' := [oX3 h a_text f_end f_at, aI cI a_text n_text f_text, oX0 a_p1 a_p1_commons a_p1_lengths a_p1_parts a_p1_likenesses f_p1_wordCount f_p1_likenessCount f_p1_actorCount f_p1_forbiddenBits f_p1_habitTold f_p1_priceTold, aI cI a_p1_commons 8 f_p1_commons, aI cI a_p1_lengths 8 f_p1_lengths, aI cI a_p1_parts 8 f_p1_parts, aI cI a_p1_likenesses 6 f_p1_likenesses, oX4 a_p2 a_p2_cells, aI cI a_p2_cells 55 f_p2_cells]) (rest := []) (st' := [.int z1]) C mX3_37 q2_30 [] (fun l D => cX3_peek_ct l D cI h a_text n_text f_end f_at f_text e_z1) ⟨⟨rfl, rfl⟩, Nat.le_of_ble_eq_true rfl, Nat.le_of_ble_eq_true rfl⟩ 0 rfl rfl rfl [0, 1] rfl rfl rfl rfl rfl (Nat.le_of_ble_eq_true rfl) (Nat.zero_le _) (Nat.zero_le _) rfl dX3_readItem_1 ?_
  refine g_istore_n (lv' := [(3, .int z1), (0, .ref h), (1, .ref a_p1), (2, .ref a_p2)]) C dX3_readItem_4 rfl (by decide) rfl ?_
  refine g_aload_n (pl := 1) C dX3_readItem_5 rfl rfl ?_
  refine g_dup C dX3_readItem_6 rfl ?_
  refine g_get C fX3_25 0 rfl rfl dX3_readItem_7 ?_
  refine g_iconst (v := (nI 1)) C dX3_readItem_10 rfl ?_
  refine g_iadd C dX3_readItem_11 ?_
  obtain ⟨y2, e_y2, hs⟩ := vlet_ex hs
  refine g_topi e_y2 ?_
  refine g_putI (ws' := [oX3 h a_text f_end y2, aI cI a_text n_text f_text, oX0 a_p1 a_p1_commons a_p1_lengths a_p1_parts a_p1_likenesses f_p1_wordCount f_p1_likenessCount f_p1_actorCount f_p1_forbiddenBits f_p1_habitTold f_p1_priceTold, aI cI a_p1_commons 8 f_p1_commons, aI cI a_p1_lengths 8 f_p1_lengths, aI cI a_p1_parts 8 f_p1_parts, aI cI a_p1_likenesses 6 f_p1_likenesses, oX4 a_p2 a_p2_cells, aI cI a_p2_cells 55 f_p2_cells]) C fX3_25 0 rfl (Nat.le_of_ble_eq_true rfl) rfl dX3_readItem_12 ?_
  refine g_iload_n (pl := 0) C dX3_readItem_15 rfl rfl ?_
  by_cases c3 : z1 = (nI 97)
  · replace hs := vi_t hs c3
    refine g_lookup (tgt := 106) (off := 90) C dX3_readItem_16 (by decide) (by rw [c3]; decide) (by decide) ?_
    refine g_aload_n (pl := 1) C dX3_readItem_106 rfl rfl ?_
    refine g_aload_n (pl := 2) C dX3_readItem_107 rfl rfl ?_
    refine g_aload_n (pl := 3) C dX3_readItem_108 rfl rfl ?_
    obtain ⟨z4, e_z4, hs⟩ := vb_ok hs
    refine g_callV (ws' := [oX3 h a_text f_end z4.2.1, aI cI a_text n_text f_text, oX0 a_p1 a_p1_commons a_p1_lengths a_p1_parts a_p1_likenesses f_p1_wordCount f_p1_likenessCount z4.2.2.1 f_p1_forbiddenBits f_p1_habitTold f_p1_priceTold, aI cI a_p1_commons 8 f_p1_commons, aI cI a_p1_lengths 8 f_p1_lengths, aI cI a_p1_parts 8 f_p1_parts, aI cI a_p1_likenesses 6 f_p1_likenesses, oX4 a_p2 a_p2_cells, aI cI a_p2_cells 55 z4.2.2.2]) (rest := []) (st' := [.int z4.1]) C mX3_57 q2_89 [.ref a_p1, .ref a_p2] (fun l D => cX3_readActor_ct l D cI h a_text a_p1 a_p1_commons a_p1_lengths a_p1_parts a_p1_likenesses a_p2 a_p2_cells n_text f_end y2 f_text f_p1_wordCount f_p1_likenessCount f_p1_actorCount f_p1_forbiddenBits f_p1_habitTold f_p1_priceTold f_p2_cells e_z4) ⟨⟨rfl, rfl⟩, Nat.le_of_ble_eq_true rfl, Nat.le_of_ble_eq_true rfl⟩ 0 rfl rfl rfl [0, 1, 2, 7, 8] rfl rfl rfl rfl rfl (Nat.le_of_ble_eq_true rfl) (Nat.zero_le _) (Nat.zero_le _) rfl dX3_readItem_109 ?_
    obtain ⟨b5, hs⟩ := vg_ok hs
    cases hs
    exact hR _ _ (vz_ok b5) dX3_readItem_112
  · replace hs := vi_f hs c3
    by_cases c6 : z1 = (nI 104)
    · replace hs := vi_t hs c6
      refine g_lookup (tgt := 94) (off := 78) C dX3_readItem_16 (by decide) (by rw [c6]; decide) (by decide) ?_
      refine g_aload_n (pl := 1) C dX3_readItem_94 rfl rfl ?_
      refine g_aload_n (pl := 2) C dX3_readItem_95 rfl rfl ?_
      obtain ⟨z7, e_z7, hs⟩ := vb_ok hs
      refine g_callV (ws' := [oX3 h a_text f_end z7.2.1, aI cI a_text n_text f_text, oX0 a_p1 a_p1_commons a_p1_lengths a_p1_parts a_p1_likenesses f_p1_wordCount f_p1_likenessCount f_p1_actorCount f_p1_forbiddenBits z7.2.2 f_p1_priceTold, aI cI a_p1_commons 8 f_p1_commons, aI cI a_p1_lengths 8 f_p1_lengths, aI cI a_p1_parts 8 f_p1_parts, aI cI a_p1_likenesses 6 f_p1_likenesses, oX4 a_p2 a_p2_cells, aI cI a_p2_cells 55 f_p2_cells]) (rest := []) (st' := [.int z7.1]) C mX3_51 q2_73 [.ref a_p1] (fun l D => cX3_readHabit_ct l D cI h a_text a_p1 a_p1_commons a_p1_lengths a_p1_parts a_p1_likenesses n_text f_end y2 f_text f_p1_wordCount f_p1_likenessCount f_p1_actorCount f_p1_forbiddenBits f_p1_habitTold f_p1_priceTold e_z7) ⟨⟨rfl, rfl⟩, Nat.le_of_ble_eq_true rfl, Nat.le_of_ble_eq_true rfl⟩ 0 rfl rfl rfl [0, 1, 2] rfl rfl rfl rfl rfl (Nat.le_of_ble_eq_true rfl) (Nat.zero_le _) (Nat.zero_le _) rfl dX3_readItem_96 ?_
      obtain ⟨b8, hs⟩ := vg_ok hs
      cases hs
      exact hR _ _ (vz_ok b8) dX3_readItem_99
    · replace hs := vi_f hs c6
      by_cases c9 : z1 = (nI 108)
      · replace hs := vi_t hs c9
        refine g_lookup (tgt := 82) (off := 66) C dX3_readItem_16 (by decide) (by rw [c9]; decide) (by decide) ?_
        refine g_aload_n (pl := 1) C dX3_readItem_82 rfl rfl ?_
        refine g_aload_n (pl := 2) C dX3_readItem_83 rfl rfl ?_
        obtain ⟨z10, e_z10, hs⟩ := vb_ok hs
        refine g_callV (ws' := [oX3 h a_text f_end z10.2.1, aI cI a_text n_text f_text, oX0 a_p1 a_p1_commons a_p1_lengths a_p1_parts a_p1_likenesses f_p1_wordCount z10.2.2.2 f_p1_actorCount f_p1_forbiddenBits f_p1_habitTold f_p1_priceTold, aI cI a_p1_commons 8 f_p1_commons, aI cI a_p1_lengths 8 f_p1_lengths, aI cI a_p1_parts 8 f_p1_parts, aI cI a_p1_likenesses 6 z10.2.2.1, oX4 a_p2 a_p2_cells, aI cI a_p2_cells 55 f_p2_cells]) (rest := []) (st' := [.int z10.1]) C mX3_45 q2_53 [.ref a_p1] (fun l D => cX3_readLikeness_ct l D cI h a_text a_p1 a_p1_commons a_p1_lengths a_p1_parts a_p1_likenesses n_text f_end y2 f_text f_p1_wordCount f_p1_likenessCount f_p1_actorCount f_p1_forbiddenBits f_p1_habitTold f_p1_priceTold f_p1_likenesses e_z10) ⟨⟨rfl, rfl⟩, Nat.le_of_ble_eq_true rfl, Nat.le_of_ble_eq_true rfl⟩ 0 rfl rfl rfl [0, 1, 2, 6] rfl rfl rfl rfl rfl (Nat.le_of_ble_eq_true rfl) (Nat.zero_le _) (Nat.zero_le _) rfl dX3_readItem_84 ?_
        obtain ⟨b11, hs⟩ := vg_ok hs
        cases hs
        exact hR _ _ (vz_ok b11) dX3_readItem_87
      · replace hs := vi_f hs c9
        by_cases c12 : z1 = (nI 114)
        · replace hs := vi_t hs c12
          refine g_lookup (tgt := 100) (off := 84) C dX3_readItem_16 (by decide) (by rw [c12]; decide) (by decide) ?_
          refine g_aload_n (pl := 1) C dX3_readItem_100 rfl rfl ?_
          refine g_aload_n (pl := 2) C dX3_readItem_101 rfl rfl ?_
          obtain ⟨z13, e_z13, hs⟩ := vb_ok hs
          refine g_callV (ws' := [oX3 h a_text f_end z13.2.1, aI cI a_text n_text f_text, oX0 a_p1 a_p1_commons a_p1_lengths a_p1_parts a_p1_likenesses f_p1_wordCount f_p1_likenessCount f_p1_actorCount f_p1_forbiddenBits f_p1_habitTold z13.2.2, aI cI a_p1_commons 8 f_p1_commons, aI cI a_p1_lengths 8 f_p1_lengths, aI cI a_p1_parts 8 f_p1_parts, aI cI a_p1_likenesses 6 f_p1_likenesses, oX4 a_p2 a_p2_cells, aI cI a_p2_cells 55 f_p2_cells]) (rest := []) (st' := [.int z13.1]) C mX3_54 q2_81 [.ref a_p1] (fun l D => cX3_readPrice_ct l D cI h a_text a_p1 a_p1_commons a_p1_lengths a_p1_parts a_p1_likenesses n_text f_end y2 f_text f_p1_wordCount f_p1_likenessCount f_p1_actorCount f_p1_forbiddenBits f_p1_habitTold f_p1_priceTold e_z13) ⟨⟨rfl, rfl⟩, Nat.le_of_ble_eq_true rfl, Nat.le_of_ble_eq_true rfl⟩ 0 rfl rfl rfl [0, 1, 2] rfl rfl rfl rfl rfl (Nat.le_of_ble_eq_true rfl) (Nat.zero_le _) (Nat.zero_le _) rfl dX3_readItem_102 ?_
          obtain ⟨b14, hs⟩ := vg_ok hs
          cases hs
          exact hR _ _ (vz_ok b14) dX3_readItem_105
        · replace hs := vi_f hs c12
          by_cases c15 : z1 = (nI 119)
          · replace hs := vi_t hs c15
            refine g_lookup (tgt := 76) (off := 60) C dX3_readItem_16 (by decide) (by rw [c15]; decide) (by decide) ?_
            refine g_aload_n (pl := 1) C dX3_readItem_76 rfl rfl ?_
            refine g_aload_n (pl := 2) C dX3_readItem_77 rfl rfl ?_
            obtain ⟨z16, e_z16, hs⟩ := vb_ok hs
            refine g_callV (ws' := [oX3 h a_text f_end z16.2.1, aI cI a_text n_text f_text, oX0 a_p1 a_p1_commons a_p1_lengths a_p1_parts a_p1_likenesses z16.2.2.2.2.2 f_p1_likenessCount f_p1_actorCount f_p1_forbiddenBits f_p1_habitTold f_p1_priceTold, aI cI a_p1_commons 8 z16.2.2.1, aI cI a_p1_lengths 8 z16.2.2.2.1, aI cI a_p1_parts 8 z16.2.2.2.2.1, aI cI a_p1_likenesses 6 f_p1_likenesses, oX4 a_p2 a_p2_cells, aI cI a_p2_cells 55 f_p2_cells]) (rest := []) (st' := [.int z16.1]) C mX3_41 q2_34 [.ref a_p1] (fun l D => cX3_readWord_ct l D cI h a_text a_p1 a_p1_commons a_p1_lengths a_p1_parts a_p1_likenesses n_text f_end y2 f_text f_p1_wordCount f_p1_likenessCount f_p1_actorCount f_p1_forbiddenBits f_p1_habitTold f_p1_priceTold f_p1_commons f_p1_lengths f_p1_parts e_z16) ⟨⟨rfl, rfl⟩, Nat.le_of_ble_eq_true rfl, Nat.le_of_ble_eq_true rfl⟩ 0 rfl rfl rfl [0, 1, 2, 3, 4, 5] rfl rfl rfl rfl rfl (Nat.le_of_ble_eq_true rfl) (Nat.zero_le _) (Nat.zero_le _) rfl dX3_readItem_78 ?_
            obtain ⟨b17, hs⟩ := vg_ok hs
            cases hs
            exact hR _ _ (vz_ok b17) dX3_readItem_81
          · replace hs := vi_f hs c15
            by_cases c18 : z1 = (nI 120)
            · replace hs := vi_t hs c18
              refine g_lookup (tgt := 88) (off := 72) C dX3_readItem_16 (by decide) (by rw [c18]; decide) (by decide) ?_
              refine g_aload_n (pl := 1) C dX3_readItem_88 rfl rfl ?_
              refine g_aload_n (pl := 2) C dX3_readItem_89 rfl rfl ?_
              obtain ⟨z19, e_z19, hs⟩ := vb_ok hs
              refine g_callV (ws' := [oX3 h a_text f_end z19.2.1, aI cI a_text n_text f_text, oX0 a_p1 a_p1_commons a_p1_lengths a_p1_parts a_p1_likenesses f_p1_wordCount f_p1_likenessCount f_p1_actorCount z19.2.2 f_p1_habitTold f_p1_priceTold, aI cI a_p1_commons 8 f_p1_commons, aI cI a_p1_lengths 8 f_p1_lengths, aI cI a_p1_parts 8 f_p1_parts, aI cI a_p1_likenesses 6 f_p1_likenesses, oX4 a_p2 a_p2_cells, aI cI a_p2_cells 55 f_p2_cells]) (rest := []) (st' := [.int z19.1]) C mX3_48 q2_65 [.ref a_p1] (fun l D => cX3_readForbidden_ct l D cI h a_text a_p1 a_p1_commons a_p1_lengths a_p1_parts a_p1_likenesses n_text f_end y2 f_text f_p1_wordCount f_p1_likenessCount f_p1_actorCount f_p1_forbiddenBits f_p1_habitTold f_p1_priceTold e_z19) ⟨⟨rfl, rfl⟩, Nat.le_of_ble_eq_true rfl, Nat.le_of_ble_eq_true rfl⟩ 0 rfl rfl rfl [0, 1, 2] rfl rfl rfl rfl rfl (Nat.le_of_ble_eq_true rfl) (Nat.zero_le _) (Nat.zero_le _) rfl dX3_readItem_90 ?_
              obtain ⟨b20, hs⟩ := vg_ok hs
              cases hs
              exact hR _ _ (vz_ok b20) dX3_readItem_93
            · replace hs := vi_f hs c18
              refine g_lookup (tgt := 113) (off := 97) C dX3_readItem_16 (by decide) ((lv_osw c3 (by decide)).trans ((lv_osw c6 (by decide)).trans ((lv_osw c9 (by decide)).trans ((lv_osw c12 (by decide)).trans ((lv_osw c15 (by decide)).trans ((lv_osw c18 (by decide)).trans rfl)))))) (by decide) ?_
              refine g_iconst (v := (nI 0)) C dX3_readItem_113 rfl ?_
              cases hs
              exact hR _ _ (Or.inl rfl) dX3_readItem_114
def LX3_firstFault_27 (f_end : Int32) (f_p1 : Nat → Int32) (n_p1 : Nat) : Nat → Int32 → Int32 → (Nat → Int32) → (Nat → Int32) → (Nat → Int32) → (Nat → Int32) → Int32 → Int32 → Int32 → Int32 → Int32 → Int32 → (Nat → Int32) → Option (Int32 × Int32 × Int32 × (Nat → Int32) × (Nat → Int32) × (Nat → Int32) × (Nat → Int32) × Int32 × Int32 × Int32 × Int32 × Int32 × Int32 × (Nat → Int32))
  | 0, _, _, _, _, _, _, _, _, _, _, _, _, _ => none
  | n + 1, y_5, f_at, f_p3_commons, f_p3_lengths, f_p3_parts, f_p3_likenesses, f_p3_wordCount, f_p3_likenessCount, f_p3_actorCount, f_p3_forbiddenBits, f_p3_habitTold, f_p3_priceTold, f_p4_cells =>
    vi ((nI 200) ≤ y_5) inferInstance (
      some ((-4), f_end, f_at, f_p3_commons, f_p3_lengths, f_p3_parts, f_p3_likenesses, f_p3_wordCount, f_p3_likenessCount, f_p3_actorCount, f_p3_forbiddenBits, f_p3_habitTold, f_p3_priceTold, f_p4_cells)) (
      vi (f_end ≤ f_at) inferInstance (
        some ((-4), f_end, f_at, f_p3_commons, f_p3_lengths, f_p3_parts, f_p3_likenesses, f_p3_wordCount, f_p3_likenessCount, f_p3_actorCount, f_p3_forbiddenBits, f_p3_habitTold, f_p3_priceTold, f_p4_cells)) (
        vb (sX3_readItem n_p1 f_p1 f_end f_at f_p3_commons f_p3_lengths f_p3_parts f_p3_likenesses f_p3_wordCount f_p3_likenessCount f_p3_actorCount f_p3_forbiddenBits f_p3_habitTold f_p3_priceTold f_p4_cells) fun z3 =>
        vi (z3.1 = 0) inferInstance (
          some (f_at, f_end, z3.2.1, z3.2.2.1, z3.2.2.2.1, z3.2.2.2.2.1, z3.2.2.2.2.2.1, z3.2.2.2.2.2.2.1, z3.2.2.2.2.2.2.2.1, z3.2.2.2.2.2.2.2.2.1, z3.2.2.2.2.2.2.2.2.2.1, z3.2.2.2.2.2.2.2.2.2.2.1, z3.2.2.2.2.2.2.2.2.2.2.2.1, z3.2.2.2.2.2.2.2.2.2.2.2.2)) (
          vlet (y_5 + (nI 1)) fun y5 =>
          LX3_firstFault_27 f_end f_p1 n_p1 n y5 z3.2.1 z3.2.2.1 z3.2.2.2.1 z3.2.2.2.2.1 z3.2.2.2.2.2.1 z3.2.2.2.2.2.2.1 z3.2.2.2.2.2.2.2.1 z3.2.2.2.2.2.2.2.2.1 z3.2.2.2.2.2.2.2.2.2.1 z3.2.2.2.2.2.2.2.2.2.2.1 z3.2.2.2.2.2.2.2.2.2.2.2.1 z3.2.2.2.2.2.2.2.2.2.2.2.2)))
def sX3_firstFault (n_p1 : Nat) (f_end : Int32) (f_at : Int32) (f_p1 : Nat → Int32) (f_p3_commons : Nat → Int32) (f_p3_lengths : Nat → Int32) (f_p3_parts : Nat → Int32) (f_p3_likenesses : Nat → Int32) (f_p3_wordCount : Int32) (f_p3_likenessCount : Int32) (f_p3_actorCount : Int32) (f_p3_forbiddenBits : Int32) (f_p3_habitTold : Int32) (f_p3_priceTold : Int32) (f_p4_cells : Nat → Int32) (x2 : Int32) : Option (Int32 × Int32 × Int32 × (Nat → Int32) × (Nat → Int32) × (Nat → Int32) × (Nat → Int32) × Int32 × Int32 × Int32 × Int32 × Int32 × Int32 × (Nat → Int32)) :=
  vlet ((nI n_p1)) fun y6 =>
  vlet (if y6 < x2 then y6 else x2) fun y7 =>
  vb (sX0_clear f_p3_wordCount f_p3_likenessCount f_p3_actorCount f_p3_forbiddenBits f_p3_habitTold f_p3_priceTold) fun z8 =>
  LX3_firstFault_27 y7 f_p1 n_p1 vF (nI 0) (nI 0) f_p3_commons f_p3_lengths f_p3_parts f_p3_likenesses z8.1 z8.2.1 z8.2.2.1 z8.2.2.2.1 z8.2.2.2.2.1 z8.2.2.2.2.2 f_p4_cells
abbrev rmX3_firstFault : Room := { frames := 4, cells := 0, slots := 0, locals := 97 }
set_option maxHeartbeats 4000000 in
set_option maxRecDepth 100000 in
theorem LX3_firstFault_27_w {cI : ClassId} {X : xT} (C : cx cI X 7 cX3_firstFault RX3 rmX3_firstFault) (h : Nat) (a_text : Nat) (a_p1 : Nat) (a_p3 : Nat) (a_p3_commons : Nat) (a_p3_lengths : Nat) (a_p3_parts : Nat) (a_p3_likenesses : Nat) (a_p4 : Nat) (a_p4_cells : Nat) (n_p1 : Nat) (f_end : Int32) (f_p1 : Nat → Int32) {z : Int32 × Int32 × Int32 × (Nat → Int32) × (Nat → Int32) × (Nat → Int32) × (Nat → Int32) × Int32 × Int32 × Int32 × Int32 × Int32 × Int32 × (Nat → Int32)} (hR : ∀ (lv : List (Nat × Value)) (pc : Nat), decode cX3_firstFault pc = .ok (.ireturn, 1) → gg cI X 7 0 0 [oX3 h a_p1 z.2.1 z.2.2.1, aI cI a_p1 n_p1 f_p1, oX0 a_p3 a_p3_commons a_p3_lengths a_p3_parts a_p3_likenesses z.2.2.2.2.2.2.2.1 z.2.2.2.2.2.2.2.2.1 z.2.2.2.2.2.2.2.2.2.1 z.2.2.2.2.2.2.2.2.2.2.1 z.2.2.2.2.2.2.2.2.2.2.2.1 z.2.2.2.2.2.2.2.2.2.2.2.2.1, aI cI a_p3_commons 8 z.2.2.2.1, aI cI a_p3_lengths 8 z.2.2.2.2.1, aI cI a_p3_parts 8 z.2.2.2.2.2.1, aI cI a_p3_likenesses 6 z.2.2.2.2.2.2.1, oX4 a_p4 a_p4_cells, aI cI a_p4_cells 55 z.2.2.2.2.2.2.2.2.2.2.2.2.2] lv pc [.int z.1]) : ∀ (n : Nat) (y_5 : Int32) (f_at : Int32) (f_p3_commons : Nat → Int32) (f_p3_lengths : Nat → Int32) (f_p3_parts : Nat → Int32) (f_p3_likenesses : Nat → Int32) (f_p3_wordCount : Int32) (f_p3_likenessCount : Int32) (f_p3_actorCount : Int32) (f_p3_forbiddenBits : Int32) (f_p3_habitTold : Int32) (f_p3_priceTold : Int32) (f_p4_cells : Nat → Int32), LX3_firstFault_27 f_end f_p1 n_p1 n y_5 f_at f_p3_commons f_p3_lengths f_p3_parts f_p3_likenesses f_p3_wordCount f_p3_likenessCount f_p3_actorCount f_p3_forbiddenBits f_p3_habitTold f_p3_priceTold f_p4_cells = some z → gg cI X 7 0 0 [oX3 h a_p1 f_end f_at, aI cI a_p1 n_p1 f_p1, oX0 a_p3 a_p3_commons a_p3_lengths a_p3_parts a_p3_likenesses f_p3_wordCount f_p3_likenessCount f_p3_actorCount f_p3_forbiddenBits f_p3_habitTold f_p3_priceTold, aI cI a_p3_commons 8 f_p3_commons, aI cI a_p3_lengths 8 f_p3_lengths, aI cI a_p3_parts 8 f_p3_parts, aI cI a_p3_likenesses 6 f_p3_likenesses, oX4 a_p4 a_p4_cells, aI cI a_p4_cells 55 f_p4_cells] [(0, .ref h), (1, .ref a_p1), (3, .ref a_p3), (4, .ref a_p4), (5, .int y_5)] 27 [] := by
  intro n
  induction n with
  | zero =>
    intro y_5 f_at f_p3_commons f_p3_lengths f_p3_parts f_p3_likenesses f_p3_wordCount f_p3_likenessCount f_p3_actorCount f_p3_forbiddenBits f_p3_habitTold f_p3_priceTold f_p4_cells hs
    exact nn_ok hs
  | succ n ih =>
    intro y_5 f_at f_p3_commons f_p3_lengths f_p3_parts f_p3_likenesses f_p3_wordCount f_p3_likenessCount f_p3_actorCount f_p3_forbiddenBits f_p3_habitTold f_p3_priceTold f_p4_cells hs
    rw [LX3_firstFault_27] at hs
    refine g_iload (pl := 4) C dX3_firstFault_27 rfl ?_
    refine g_sipush (v := (nI 200)) C dX3_firstFault_29 rfl ?_
    refine g_icmp_ge (tgt := 71) C dX3_firstFault_32 (by decide) (fun c1 => ?_) (fun c1 => ?_)
    · replace hs := vi_t hs c1
      refine g_bipush (v := (-4)) C dX3_firstFault_71 rfl ?_
      cases hs
      exact hR _ _ dX3_firstFault_73
    · replace hs := vi_f hs c1
      refine g_aload_n (pl := 0) C dX3_firstFault_35 rfl rfl ?_
      refine g_get C fX3_25 0 rfl rfl dX3_firstFault_36 ?_
      refine g_aload_n (pl := 0) C dX3_firstFault_39 rfl rfl ?_
      refine g_get C fX3_21 0 rfl rfl dX3_firstFault_40 ?_
      refine g_icmp_ge (tgt := 71) C dX3_firstFault_43 (by decide) (fun c2 => ?_) (fun c2 => ?_)
      · replace hs := vi_t hs c2
        refine g_bipush (v := (-4)) C dX3_firstFault_71 rfl ?_
        cases hs
        exact hR _ _ dX3_firstFault_73
      · replace hs := vi_f hs c2
        refine g_aload_n (pl := 0) C dX3_firstFault_46 rfl rfl ?_
        refine g_get C fX3_25 0 rfl rfl dX3_firstFault_47 ?_
        refine g_istore (lv' := [(6, .int f_at), (0, .ref h), (1, .ref a_p1), (3, .ref a_p3), (4, .ref a_p4), (5, .int y_5)]) C dX3_firstFault_50 (by decide) rfl ?_
        refine g_aload_n (pl := 1) C dX3_firstFault_52 rfl rfl ?_
        refine g_aload_n (pl := 3) C dX3_firstFault_53 rfl rfl ?_
        refine g_aload (pl := 4) C dX3_firstFault_54 rfl ?_
        obtain ⟨z3, e_z3, hs⟩ := vb_ok hs
        refine g_callV (ws' := [oX3 h a_p1 f_end z3.2.1, aI cI a_p1 n_p1 f_p1, oX0 a_p3 a_p3_commons a_p3_lengths a_p3_parts a_p3_likenesses z3.2.2.2.2.2.2.1 z3.2.2.2.2.2.2.2.1 z3.2.2.2.2.2.2.2.2.1 z3.2.2.2.2.2.2.2.2.2.1 z3.2.2.2.2.2.2.2.2.2.2.1 z3.2.2.2.2.2.2.2.2.2.2.2.1, aI cI a_p3_commons 8 z3.2.2.1, aI cI a_p3_lengths 8 z3.2.2.2.1, aI cI a_p3_parts 8 z3.2.2.2.2.1, aI cI a_p3_likenesses 6 z3.2.2.2.2.2.1, oX4 a_p4 a_p4_cells, aI cI a_p4_cells 55 z3.2.2.2.2.2.2.2.2.2.2.2.2]) (rest := []) (st' := [.int z3.1]) C mX3_33 q2_26 [.ref a_p3, .ref a_p4] (fun l D => cX3_readItem_ct l D cI h a_p1 a_p3 a_p3_commons a_p3_lengths a_p3_parts a_p3_likenesses a_p4 a_p4_cells n_p1 f_end f_at f_p1 f_p3_wordCount f_p3_likenessCount f_p3_actorCount f_p3_forbiddenBits f_p3_habitTold f_p3_priceTold f_p3_commons f_p3_lengths f_p3_parts f_p3_likenesses f_p4_cells e_z3) ⟨⟨rfl, rfl⟩, Nat.le_of_ble_eq_true rfl, Nat.le_of_ble_eq_true rfl⟩ 0 rfl rfl rfl [0, 1, 2, 3, 4, 5, 6, 7, 8] rfl rfl rfl (by simp only [setM, List.set_cons_zero, List.set_cons_succ]) rfl (Nat.le_of_ble_eq_true rfl) (Nat.zero_le _) (Nat.zero_le _) rfl dX3_firstFault_56 ?_
        refine g_if_ne (tgt := 65) C dX3_firstFault_59 (by decide) (fun c4 => ?_) (fun c4 => ?_)
        · replace hs := vi_f hs c4
          obtain ⟨y5, e_y5, hs⟩ := vlet_ex hs
          refine g_iinc (pl := 5) (lv' := [(5, .int y5), (6, .int f_at), (0, .ref h), (1, .ref a_p1), (3, .ref a_p3), (4, .ref a_p4)]) C dX3_firstFault_65 rfl e_y5.symm (by decide) rfl ?_
          refine g_goto (tgt := 27) C dX3_firstFault_68 (by decide) ?_
          refine g_sub [2, 3, 4, 5, 0] rfl ?_
          exact ih y5 z3.2.1 z3.2.2.1 z3.2.2.2.1 z3.2.2.2.2.1 z3.2.2.2.2.2.1 z3.2.2.2.2.2.2.1 z3.2.2.2.2.2.2.2.1 z3.2.2.2.2.2.2.2.2.1 z3.2.2.2.2.2.2.2.2.2.1 z3.2.2.2.2.2.2.2.2.2.2.1 z3.2.2.2.2.2.2.2.2.2.2.2.1 z3.2.2.2.2.2.2.2.2.2.2.2.2 hs
        · replace hs := vi_t hs c4
          refine g_iload (pl := 0) C dX3_firstFault_62 rfl ?_
          cases hs
          exact hR _ _ dX3_firstFault_64
set_option maxHeartbeats 4000000 in
set_option maxRecDepth 100000 in
theorem cX3_firstFault_ct (l : Launch) (D : va_G) (cI : ClassId) (h : Nat) (a_text : Nat) (a_p1 : Nat) (a_p3 : Nat) (a_p3_commons : Nat) (a_p3_lengths : Nat) (a_p3_parts : Nat) (a_p3_likenesses : Nat) (a_p4 : Nat) (a_p4_cells : Nat) (n_p1 : Nat) (f_end : Int32) (f_at : Int32) (f_p1 : Nat → Int32) (f_p3_wordCount : Int32) (f_p3_likenessCount : Int32) (f_p3_actorCount : Int32) (f_p3_forbiddenBits : Int32) (f_p3_habitTold : Int32) (f_p3_priceTold : Int32) (f_p3_commons : Nat → Int32) (f_p3_lengths : Nat → Int32) (f_p3_parts : Nat → Int32) (f_p3_likenesses : Nat → Int32) (f_p4_cells : Nat → Int32) (x2 : Int32) {z : Int32 × Int32 × Int32 × (Nat → Int32) × (Nat → Int32) × (Nat → Int32) × (Nat → Int32) × Int32 × Int32 × Int32 × Int32 × Int32 × Int32 × (Nat → Int32)} (hs : sX3_firstFault n_p1 f_end f_at f_p1 f_p3_commons f_p3_lengths f_p3_parts f_p3_likenesses f_p3_wordCount f_p3_likenessCount f_p3_actorCount f_p3_forbiddenBits f_p3_habitTold f_p3_priceTold f_p4_cells x2 = some z) : ct l yX3_firstFault (.code yX3_firstFault cX3_firstFault 7 (some .int) :: gtb) rmX3_firstFault D cI [.ref h, .ref a_p1, .int x2, .ref a_p3, .ref a_p4] [oX3 h a_text f_end f_at, aI cI a_p1 n_p1 f_p1, oX0 a_p3 a_p3_commons a_p3_lengths a_p3_parts a_p3_likenesses f_p3_wordCount f_p3_likenessCount f_p3_actorCount f_p3_forbiddenBits f_p3_habitTold f_p3_priceTold, aI cI a_p3_commons 8 f_p3_commons, aI cI a_p3_lengths 8 f_p3_lengths, aI cI a_p3_parts 8 f_p3_parts, aI cI a_p3_likenesses 6 f_p3_likenesses, oX4 a_p4 a_p4_cells, aI cI a_p4_cells 55 f_p4_cells] (some (.int z.1)) [oX3 h a_p1 z.2.1 z.2.2.1, aI cI a_p1 n_p1 f_p1, oX0 a_p3 a_p3_commons a_p3_lengths a_p3_parts a_p3_likenesses z.2.2.2.2.2.2.2.1 z.2.2.2.2.2.2.2.2.1 z.2.2.2.2.2.2.2.2.2.1 z.2.2.2.2.2.2.2.2.2.2.1 z.2.2.2.2.2.2.2.2.2.2.2.1 z.2.2.2.2.2.2.2.2.2.2.2.2.1, aI cI a_p3_commons 8 z.2.2.2.1, aI cI a_p3_lengths 8 z.2.2.2.2.1, aI cI a_p3_parts 8 z.2.2.2.2.2.1, aI cI a_p3_likenesses 6 z.2.2.2.2.2.2.1, oX4 a_p4 a_p4_cells, aI cI a_p4_cells 55 z.2.2.2.2.2.2.2.2.2.2.2.2.2] := by
  refine ct_ofI (own := RX3) (by decide +kernel) rfl (Nat.le_of_ble_eq_true rfl) (fun X C hD hR => ?_)
  unfold sX3_firstFault at hs
  show gg cI X 7 0 0 [oX3 h a_text f_end f_at, aI cI a_p1 n_p1 f_p1, oX0 a_p3 a_p3_commons a_p3_lengths a_p3_parts a_p3_likenesses f_p3_wordCount f_p3_likenessCount f_p3_actorCount f_p3_forbiddenBits f_p3_habitTold f_p3_priceTold, aI cI a_p3_commons 8 f_p3_commons, aI cI a_p3_lengths 8 f_p3_lengths, aI cI a_p3_parts 8 f_p3_parts, aI cI a_p3_likenesses 6 f_p3_likenesses, oX4 a_p4 a_p4_cells, aI cI a_p4_cells 55 f_p4_cells] [(0, .ref h), (1, .ref a_p1), (2, .int x2), (3, .ref a_p3), (4, .ref a_p4)] 0 []
  refine g_aload_n (pl := 0) C dX3_firstFault_0 rfl rfl ?_
  refine g_aload_n (pl := 1) C dX3_firstFault_1 rfl rfl ?_
  refine g_putR (ws' := [oX3 h a_p1 f_end f_at, aI cI a_p1 n_p1 f_p1, oX0 a_p3 a_p3_commons a_p3_lengths a_p3_parts a_p3_likenesses f_p3_wordCount f_p3_likenessCount f_p3_actorCount f_p3_forbiddenBits f_p3_habitTold f_p3_priceTold, aI cI a_p3_commons 8 f_p3_commons, aI cI a_p3_lengths 8 f_p3_lengths, aI cI a_p3_parts 8 f_p3_parts, aI cI a_p3_likenesses 6 f_p3_likenesses, oX4 a_p4 a_p4_cells, aI cI a_p4_cells 55 f_p4_cells]) C fX3_9 0 rfl (Nat.le_of_ble_eq_true rfl) rfl rfl rfl dX3_firstFault_2 ?_
  refine g_aload_n (pl := 0) C dX3_firstFault_5 rfl rfl ?_
  refine g_iload_n (pl := 2) C dX3_firstFault_6 rfl rfl ?_
  refine g_aload_n (pl := 1) C dX3_firstFault_7 rfl rfl ?_
  refine g_alen (v := (nI n_p1)) C 1 rfl rfl dX3_firstFault_8 ?_
  obtain ⟨y6, e_y6, hs⟩ := vlet_ex hs
  refine g_topi e_y6 ?_
  refine g_min C q2_18 q2_8 q1_14 q2_9 (Nat.le_of_ble_eq_true rfl) (Nat.le_of_ble_eq_true rfl) (Nat.zero_le _) (Nat.zero_le _) dX3_firstFault_9 ?_
  obtain ⟨y7, e_y7, hs⟩ := vlet_ex hs
  refine g_topi e_y7 ?_
  refine g_putI (ws' := [oX3 h a_p1 y7 f_at, aI cI a_p1 n_p1 f_p1, oX0 a_p3 a_p3_commons a_p3_lengths a_p3_parts a_p3_likenesses f_p3_wordCount f_p3_likenessCount f_p3_actorCount f_p3_forbiddenBits f_p3_habitTold f_p3_priceTold, aI cI a_p3_commons 8 f_p3_commons, aI cI a_p3_lengths 8 f_p3_lengths, aI cI a_p3_parts 8 f_p3_parts, aI cI a_p3_likenesses 6 f_p3_likenesses, oX4 a_p4 a_p4_cells, aI cI a_p4_cells 55 f_p4_cells]) C fX3_21 0 rfl (Nat.le_of_ble_eq_true rfl) rfl dX3_firstFault_12 ?_
  refine g_aload_n (pl := 0) C dX3_firstFault_15 rfl rfl ?_
  refine g_iconst (v := (nI 0)) C dX3_firstFault_16 rfl ?_
  refine g_putI (ws' := [oX3 h a_p1 y7 (nI 0), aI cI a_p1 n_p1 f_p1, oX0 a_p3 a_p3_commons a_p3_lengths a_p3_parts a_p3_likenesses f_p3_wordCount f_p3_likenessCount f_p3_actorCount f_p3_forbiddenBits f_p3_habitTold f_p3_priceTold, aI cI a_p3_commons 8 f_p3_commons, aI cI a_p3_lengths 8 f_p3_lengths, aI cI a_p3_parts 8 f_p3_parts, aI cI a_p3_likenesses 6 f_p3_likenesses, oX4 a_p4 a_p4_cells, aI cI a_p4_cells 55 f_p4_cells]) C fX3_25 0 rfl (Nat.le_of_ble_eq_true rfl) rfl dX3_firstFault_17 ?_
  refine g_aload_n (pl := 3) C dX3_firstFault_20 rfl rfl ?_
  obtain ⟨z8, e_z8, hs⟩ := vb_ok hs
  refine g_callV (ws' := [oX3 h a_p1 y7 (nI 0), aI cI a_p1 n_p1 f_p1, oX0 a_p3 a_p3_commons a_p3_lengths a_p3_parts a_p3_likenesses z8.1 z8.2.1 z8.2.2.1 z8.2.2.2.1 z8.2.2.2.2.1 z8.2.2.2.2.2, aI cI a_p3_commons 8 f_p3_commons, aI cI a_p3_lengths 8 f_p3_lengths, aI cI a_p3_parts 8 f_p3_parts, aI cI a_p3_likenesses 6 f_p3_likenesses, oX4 a_p4 a_p4_cells, aI cI a_p4_cells 55 f_p4_cells]) (rest := []) (st' := []) C mX3_28 q2_22 [] (fun l D => cX0_clear_ct l D cI a_p3 a_p3_commons a_p3_lengths a_p3_parts a_p3_likenesses f_p3_wordCount f_p3_likenessCount f_p3_actorCount f_p3_forbiddenBits f_p3_habitTold f_p3_priceTold e_z8) ⟨⟨rfl, rfl⟩, Nat.le_of_ble_eq_true rfl, Nat.le_of_ble_eq_true rfl⟩ 2 rfl rfl rfl [2] rfl rfl rfl rfl rfl (Nat.le_of_ble_eq_true rfl) (Nat.zero_le _) (Nat.zero_le _) rfl dX3_firstFault_21 ?_
  refine g_iconst (v := (nI 0)) C dX3_firstFault_24 rfl ?_
  refine g_istore (lv' := [(5, .int (nI 0)), (0, .ref h), (1, .ref a_p1), (2, .int x2), (3, .ref a_p3), (4, .ref a_p4)]) C dX3_firstFault_25 (by decide) rfl ?_
  refine g_sub [1, 2, 4, 5, 0] rfl ?_
  exact LX3_firstFault_27_w C h a_text a_p1 a_p3 a_p3_commons a_p3_lengths a_p3_parts a_p3_likenesses a_p4 a_p4_cells n_p1 y7 f_p1 hR _ (nI 0) (nI 0) f_p3_commons f_p3_lengths f_p3_parts f_p3_likenesses z8.1 z8.2.1 z8.2.2.1 z8.2.2.2.1 z8.2.2.2.2.1 z8.2.2.2.2.2 f_p4_cells hs

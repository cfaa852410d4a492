def sX2_start (f_used : Int32) : Option (Int32) :=
  some ((nI 0))
abbrev rmX2_start : Room := { frames := 0, cells := 0, slots := 0, locals := 0 }
set_option maxHeartbeats 4000000 in
set_option maxRecDepth 100000 in
theorem cX2_start_ct (l : Launch) (D : va_G) (cI : ClassId) (h : Nat) (a_actors : Nat) (a_minutes : Nat) (f_used : Int32) {z : Int32} (hs : sX2_start f_used = some z) : ct l yX2_start (.code yX2_start cX2_start 1 none :: gtb) rmX2_start D cI [.ref h] [oX2 h a_actors a_minutes f_used] none [oX2 h a_actors a_minutes z] := by
  refine ct_ofV (own := RX2) (by decide +kernel) rfl (Nat.le_of_ble_eq_true rfl) (fun X C hD hR => ?_)
  unfold sX2_start at hs
  show gg cI X 1 0 0 [oX2 h a_actors a_minutes f_used] [(0, .ref h)] 0 []
  refine g_aload_n (pl := 0) C dX2_start_0 rfl rfl ?_
  refine g_iconst (v := (nI 0)) C dX2_start_1 rfl ?_
  refine g_putI (ws' := [oX2 h a_actors a_minutes (nI 0)]) C fX2_18 0 rfl (Nat.le_of_ble_eq_true rfl) rfl dX2_start_2 ?_
  cases hs
  exact hR _ _ dX2_start_5
def LX2_add_21 (y_1 : Int32) (y_2 : Int32) (f_used : Int32) : Nat → Int32 → (Nat → Int32) → (Nat → Int32) → Option ((Nat → Int32) × (Nat → Int32) × Int32)
  | 0, _, _, _ => none
  | n + 1, y_3, f_actors, f_minutes =>
    vi (y_3 ≤ 0) inferInstance (
      vg (vin y_3 5) (
      vlet (upd f_actors (Int32.toNatClampNeg y_3) y_1) fun u3 =>
      vg (vin y_3 5) (
      vlet (upd f_minutes (Int32.toNatClampNeg y_3) y_2) fun u5 =>
      vlet (f_used + (nI 1)) fun y6 =>
      some (u3, u5, y6)))) (
      vg (vin (y_3 - (nI 1)) 5) (
      vi ((f_minutes (Int32.toNatClampNeg (y_3 - (nI 1)))) ≤ y_2) inferInstance (
        vg (vin y_3 5) (
        vlet (upd f_actors (Int32.toNatClampNeg y_3) y_1) fun u10 =>
        vg (vin y_3 5) (
        vlet (upd f_minutes (Int32.toNatClampNeg y_3) y_2) fun u12 =>
        vlet (f_used + (nI 1)) fun y13 =>
        some (u10, u12, y13)))) (
        vg (vin (y_3 - (nI 1)) 5) (
        vlet (f_actors (Int32.toNatClampNeg (y_3 - (nI 1)))) fun y15 =>
        vg (vin y_3 5) (
        vlet (upd f_actors (Int32.toNatClampNeg y_3) y15) fun u17 =>
        vg (vin (y_3 - (nI 1)) 5) (
        vlet (f_minutes (Int32.toNatClampNeg (y_3 - (nI 1)))) fun y19 =>
        vg (vin y_3 5) (
        vlet (upd f_minutes (Int32.toNatClampNeg y_3) y19) fun u21 =>
        vlet (y_3 + (-1)) fun y22 =>
        LX2_add_21 y_1 y_2 f_used n y22 u17 u21)))))))
def sX2_add (f_actors : Nat → Int32) (f_minutes : Nat → Int32) (f_used : Int32) (x1 : Int32) (x2 : Int32) : Option ((Nat → Int32) × (Nat → Int32) × Int32) :=
  vi (f_used < 0) inferInstance (
    some (f_actors, f_minutes, f_used)) (
    vi (f_used < (nI 5)) inferInstance (
      LX2_add_21 x1 x2 f_used vF f_used f_actors f_minutes) (
      some (f_actors, f_minutes, f_used)))
abbrev rmX2_add : Room := { frames := 0, cells := 0, slots := 0, locals := 0 }
set_option maxHeartbeats 4000000 in
set_option maxRecDepth 100000 in
theorem LX2_add_21_w {cI : ClassId} {X : xT} (C : cx cI X 4 cX2_add RX2 rmX2_add) (h : Nat) (a_actors : Nat) (a_minutes : Nat) (f_used : Int32) (y_1 : Int32) (y_2 : Int32) {z : (Nat → Int32) × (Nat → Int32) × Int32} (hR : ∀ (lv : List (Nat × Value)) (pc : Nat), decode cX2_add pc = .ok (.return_, 1) → gg cI X 4 0 0 [oX2 h a_actors a_minutes z.2.2, aI cI a_actors 5 z.1, aI cI a_minutes 5 z.2.1] lv pc []) : ∀ (n : Nat) (y_3 : Int32) (f_actors : Nat → Int32) (f_minutes : Nat → Int32), LX2_add_21 y_1 y_2 f_used n y_3 f_actors f_minutes = some z → gg cI X 4 0 0 [oX2 h a_actors a_minutes f_used, aI cI a_actors 5 f_actors, aI cI a_minutes 5 f_minutes] [(0, .ref h), (1, .int y_1), (2, .int y_2), (3, .int y_3)] 21 [] := by
  intro n
  induction n with
  | zero =>
    intro y_3 f_actors f_minutes hs
    exact nn_ok hs
  | succ n ih =>
    intro y_3 f_actors f_minutes hs
    rw [LX2_add_21] at hs
    refine g_iload_n (pl := 3) C dX2_add_21 rfl rfl ?_
    refine g_if_le (tgt := 71) C dX2_add_22 (by decide) (fun c1 => ?_) (fun c1 => ?_)
    · replace hs := vi_t hs c1
      refine g_aload_n (pl := 0) C dX2_add_71 rfl rfl ?_
      refine g_get C fX2_9 0 rfl rfl dX2_add_72 ?_
      refine g_iload_n (pl := 3) C dX2_add_75 rfl rfl ?_
      refine g_iload_n (pl := 1) C dX2_add_76 rfl rfl ?_
      obtain ⟨b2, hs⟩ := vg_ok hs
      obtain ⟨u3, e_u3, hs⟩ := vlet_ex hs
      refine g_iast (ws' := [oX2 h a_actors a_minutes f_used, aI cI a_actors 5 u3, aI cI a_minutes 5 f_minutes]) C 1 rfl (vin_ok b2) (by rw [e_u3]; rfl) dX2_add_77 ?_
      refine g_aload_n (pl := 0) C dX2_add_78 rfl rfl ?_
      refine g_get C fX2_15 0 rfl rfl dX2_add_79 ?_
      refine g_iload_n (pl := 3) C dX2_add_82 rfl rfl ?_
      refine g_iload_n (pl := 2) C dX2_add_83 rfl rfl ?_
      obtain ⟨b4, hs⟩ := vg_ok hs
      obtain ⟨u5, e_u5, hs⟩ := vlet_ex hs
      refine g_iast (ws' := [oX2 h a_actors a_minutes f_used, aI cI a_actors 5 u3, aI cI a_minutes 5 u5]) C 2 rfl (vin_ok b4) (by rw [e_u5]; rfl) dX2_add_84 ?_
      refine g_aload_n (pl := 0) C dX2_add_85 rfl rfl ?_
      refine g_dup C dX2_add_86 rfl ?_
      refine g_get C fX2_18 0 rfl rfl dX2_add_87 ?_
      refine g_iconst (v := (nI 1)) C dX2_add_90 rfl ?_
      refine g_iadd C dX2_add_91 ?_
      obtain ⟨y6, e_y6, hs⟩ := vlet_ex hs
      refine g_topi e_y6 ?_
      refine g_putI (ws' := [oX2 h a_actors a_minutes y6, aI cI a_actors 5 u3, aI cI a_minutes 5 u5]) C fX2_18 0 rfl (Nat.le_of_ble_eq_true rfl) rfl dX2_add_92 ?_
      cases hs
      exact hR _ _ dX2_add_95
    · replace hs := vi_f hs c1
      refine g_aload_n (pl := 0) C dX2_add_25 rfl rfl ?_
      refine g_get C fX2_15 0 rfl rfl dX2_add_26 ?_
      refine g_iload_n (pl := 3) C dX2_add_29 rfl rfl ?_
      refine g_iconst (v := (nI 1)) C dX2_add_30 rfl ?_
      refine g_isub C dX2_add_31 ?_
      obtain ⟨b7, hs⟩ := vg_ok hs
      refine g_iald C 2 rfl (vin_ok b7) dX2_add_32 ?_
      refine g_iload_n (pl := 2) C dX2_add_33 rfl rfl ?_
      refine g_icmp_le (tgt := 71) C dX2_add_34 (by decide) (fun c8 => ?_) (fun c8 => ?_)
      · replace hs := vi_t hs c8
        refine g_aload_n (pl := 0) C dX2_add_71 rfl rfl ?_
        refine g_get C fX2_9 0 rfl rfl dX2_add_72 ?_
        refine g_iload_n (pl := 3) C dX2_add_75 rfl rfl ?_
        refine g_iload_n (pl := 1) C dX2_add_76 rfl rfl ?_
        obtain ⟨b9, hs⟩ := vg_ok hs
        obtain ⟨u10, e_u10, hs⟩ := vlet_ex hs
        refine g_iast (ws' := [oX2 h a_actors a_minutes f_used, aI cI a_actors 5 u10, aI cI a_minutes 5 f_minutes]) C 1 rfl (vin_ok b9) (by rw [e_u10]; rfl) dX2_add_77 ?_
        refine g_aload_n (pl := 0) C dX2_add_78 rfl rfl ?_
        refine g_get C fX2_15 0 rfl rfl dX2_add_79 ?_
        refine g_iload_n (pl := 3) C dX2_add_82 rfl rfl ?_
        refine g_iload_n (pl := 2) C dX2_add_83 rfl rfl ?_
        obtain ⟨b11, hs⟩ := vg_ok hs
        obtain ⟨u12, e_u12, hs⟩ := vlet_ex hs
        refine g_iast (ws' := [oX2 h a_actors a_minutes f_used, aI cI a_actors 5 u10, aI cI a_minutes 5 u12]) C 2 rfl (vin_ok b11) (by rw [e_u12]; rfl) dX2_add_84 ?_
        refine g_aload_n (pl := 0) C dX2_add_85 rfl rfl ?_
        refine g_dup C dX2_add_86 rfl ?_
        refine g_get C fX2_18 0 rfl rfl dX2_add_87 ?_
        refine g_iconst (v := (nI 1)) C dX2_add_90 rfl ?_
        refine g_iadd C dX2_add_91 ?_
        obtain ⟨y13, e_y13, hs⟩ := vlet_ex hs
        refine g_topi e_y13 ?_
        refine g_putI (ws' := [oX2 h a_actors a_minutes y13, aI cI a_actors 5 u10, aI cI a_minutes 5 u12]) C fX2_18 0 rfl (Nat.le_of_ble_eq_true rfl) rfl dX2_add_92 ?_
        cases hs
        exact hR _ _ dX2_add_95
      · replace hs := vi_f hs c8
        refine g_aload_n (pl := 0) C dX2_add_37 rfl rfl ?_
        refine g_get C fX2_9 0 rfl rfl dX2_add_38 ?_
        refine g_iload_n (pl := 3) C dX2_add_41 rfl rfl ?_
        refine g_aload_n (pl := 0) C dX2_add_42 rfl rfl ?_
        refine g_get C fX2_9 0 rfl rfl dX2_add_43 ?_
        refine g_iload_n (pl := 3) C dX2_add_46 rfl rfl ?_
        refine g_iconst (v := (nI 1)) C dX2_add_47 rfl ?_
        refine g_isub C dX2_add_48 ?_
        obtain ⟨b14, hs⟩ := vg_ok hs
        refine g_iald C 1 rfl (vin_ok b14) dX2_add_49 ?_
        obtain ⟨y15, e_y15, hs⟩ := vlet_ex hs
        refine g_topi e_y15 ?_
        obtain ⟨b16, hs⟩ := vg_ok hs
        obtain ⟨u17, e_u17, hs⟩ := vlet_ex hs
        refine g_iast (ws' := [oX2 h a_actors a_minutes f_used, aI cI a_actors 5 u17, aI cI a_minutes 5 f_minutes]) C 1 rfl (vin_ok b16) (by rw [e_u17]; rfl) dX2_add_50 ?_
        refine g_aload_n (pl := 0) C dX2_add_51 rfl rfl ?_
        refine g_get C fX2_15 0 rfl rfl dX2_add_52 ?_
        refine g_iload_n (pl := 3) C dX2_add_55 rfl rfl ?_
        refine g_aload_n (pl := 0) C dX2_add_56 rfl rfl ?_
        refine g_get C fX2_15 0 rfl rfl dX2_add_57 ?_
        refine g_iload_n (pl := 3) C dX2_add_60 rfl rfl ?_
        refine g_iconst (v := (nI 1)) C dX2_add_61 rfl ?_
        refine g_isub C dX2_add_62 ?_
        obtain ⟨b18, hs⟩ := vg_ok hs
        refine g_iald C 2 rfl (vin_ok b18) dX2_add_63 ?_
        obtain ⟨y19, e_y19, hs⟩ := vlet_ex hs
        refine g_topi e_y19 ?_
        obtain ⟨b20, hs⟩ := vg_ok hs
        obtain ⟨u21, e_u21, hs⟩ := vlet_ex hs
        refine g_iast (ws' := [oX2 h a_actors a_minutes f_used, aI cI a_actors 5 u17, aI cI a_minutes 5 u21]) C 2 rfl (vin_ok b20) (by rw [e_u21]; rfl) dX2_add_64 ?_
        obtain ⟨y22, e_y22, hs⟩ := vlet_ex hs
        refine g_iinc (pl := 3) (lv' := [(3, .int y22), (0, .ref h), (1, .int y_1), (2, .int y_2)]) C dX2_add_65 rfl e_y22.symm (by decide) rfl ?_
        refine g_goto (tgt := 21) C dX2_add_68 (by decide) ?_
        refine g_sub [1, 2, 3, 0] rfl ?_
        exact ih y22 u17 u21 hs
set_option maxHeartbeats 4000000 in
set_option maxRecDepth 100000 in
theorem cX2_add_ct (l : Launch) (D : va_G) (cI : ClassId) (h : Nat) (a_actors : Nat) (a_minutes : Nat) (f_used : Int32) (f_actors : Nat → Int32) (f_minutes : Nat → Int32) (x1 : Int32) (x2 : Int32) {z : (Nat → Int32) × (Nat → Int32) × Int32} (hs : sX2_add f_actors f_minutes f_used x1 x2 = some z) : ct l yX2_add (.code yX2_add cX2_add 4 none :: gtb) rmX2_add D cI [.ref h, .int x1, .int x2] [oX2 h a_actors a_minutes f_used, aI cI a_actors 5 f_actors, aI cI a_minutes 5 f_minutes] none [oX2 h a_actors a_minutes z.2.2, aI cI a_actors 5 z.1, aI cI a_minutes 5 z.2.1] := by
  refine ct_ofV (own := RX2) (by decide +kernel) rfl (Nat.le_of_ble_eq_true rfl) (fun X C hD hR => ?_)
  unfold sX2_add at hs
  show gg cI X 4 0 0 [oX2 h a_actors a_minutes f_used, aI cI a_actors 5 f_actors, aI cI a_minutes 5 f_minutes] [(0, .ref h), (1, .int x1), (2, .int x2)] 0 []
  refine g_aload_n (pl := 0) C dX2_add_0 rfl rfl ?_
  refine g_get C fX2_18 0 rfl rfl dX2_add_1 ?_
  refine g_if_lt (tgt := 15) C dX2_add_4 (by decide) (fun c23 => ?_) (fun c23 => ?_)
  · replace hs := vi_t hs c23
    cases hs
    exact hR _ _ dX2_add_15
  · replace hs := vi_f hs c23
    refine g_aload_n (pl := 0) C dX2_add_7 rfl rfl ?_
    refine g_get C fX2_18 0 rfl rfl dX2_add_8 ?_
    refine g_iconst (v := (nI 5)) C dX2_add_11 rfl ?_
    refine g_icmp_lt (tgt := 16) C dX2_add_12 (by decide) (fun c24 => ?_) (fun c24 => ?_)
    · replace hs := vi_t hs c24
      refine g_aload_n (pl := 0) C dX2_add_16 rfl rfl ?_
      refine g_get C fX2_18 0 rfl rfl dX2_add_17 ?_
      refine g_istore_n (lv' := [(3, .int f_used), (0, .ref h), (1, .int x1), (2, .int x2)]) C dX2_add_20 rfl (by decide) rfl ?_
      refine g_sub [1, 2, 3, 0] rfl ?_
      exact LX2_add_21_w C h a_actors a_minutes f_used x1 x2 hR _ f_used f_actors f_minutes hs
    · replace hs := vi_f hs c24
      cases hs
      exact hR _ _ dX2_add_15
def sX2_actorAt (f_actors : Nat → Int32) (f_used : Int32) (x1 : Int32) : Option (Int32) :=
  vi (x1 < 0) inferInstance (
    some ((-4))) (
    vi (f_used ≤ x1) inferInstance (
      some ((-4))) (
      vi ((nI 5) ≤ x1) inferInstance (
        some ((-4))) (
        vg (vin x1 5) (
        some (f_actors (Int32.toNatClampNeg x1))))))
abbrev rmX2_actorAt : Room := { frames := 0, cells := 0, slots := 0, locals := 0 }
set_option maxHeartbeats 4000000 in
set_option maxRecDepth 100000 in
theorem cX2_actorAt_ct (l : Launch) (D : va_G) (cI : ClassId) (h : Nat) (a_actors : Nat) (a_minutes : Nat) (f_used : Int32) (f_actors : Nat → Int32) (x1 : Int32) {z : Int32} (hs : sX2_actorAt f_actors f_used x1 = some z) : ct l yX2_actorAt (.code yX2_actorAt cX2_actorAt 2 (some .int) :: gtb) rmX2_actorAt D cI [.ref h, .int x1] [oX2 h a_actors a_minutes f_used, aI cI a_actors 5 f_actors] (some (.int z)) [oX2 h a_actors a_minutes f_used, aI cI a_actors 5 f_actors] := by
  refine ct_ofI (own := RX2) (by decide +kernel) rfl (Nat.le_of_ble_eq_true rfl) (fun X C hD hR => ?_)
  unfold sX2_actorAt at hs
  show gg cI X 2 0 0 [oX2 h a_actors a_minutes f_used, aI cI a_actors 5 f_actors] [(0, .ref h), (1, .int x1)] 0 []
  refine g_iload_n (pl := 1) C dX2_actorAt_0 rfl rfl ?_
  refine g_if_lt (tgt := 26) C dX2_actorAt_1 (by decide) (fun c1 => ?_) (fun c1 => ?_)
  · replace hs := vi_t hs c1
    refine g_bipush (v := (-4)) C dX2_actorAt_26 rfl ?_
    cases hs
    exact hR _ _ dX2_actorAt_28
  · replace hs := vi_f hs c1
    refine g_iload_n (pl := 1) C dX2_actorAt_4 rfl rfl ?_
    refine g_aload_n (pl := 0) C dX2_actorAt_5 rfl rfl ?_
    refine g_get C fX2_18 0 rfl rfl dX2_actorAt_6 ?_
    refine g_icmp_ge (tgt := 26) C dX2_actorAt_9 (by decide) (fun c2 => ?_) (fun c2 => ?_)
    · replace hs := vi_t hs c2
      refine g_bipush (v := (-4)) C dX2_actorAt_26 rfl ?_
      cases hs
      exact hR _ _ dX2_actorAt_28
    · replace hs := vi_f hs c2
      refine g_iload_n (pl := 1) C dX2_actorAt_12 rfl rfl ?_
      refine g_iconst (v := (nI 5)) C dX2_actorAt_13 rfl ?_
      refine g_icmp_ge (tgt := 26) C dX2_actorAt_14 (by decide) (fun c3 => ?_) (fun c3 => ?_)
      · replace hs := vi_t hs c3
        refine g_bipush (v := (-4)) C dX2_actorAt_26 rfl ?_
        cases hs
        exact hR _ _ dX2_actorAt_28
      · replace hs := vi_f hs c3
        refine g_aload_n (pl := 0) C dX2_actorAt_17 rfl rfl ?_
        refine g_get C fX2_9 0 rfl rfl dX2_actorAt_18 ?_
        refine g_iload_n (pl := 1) C dX2_actorAt_21 rfl rfl ?_
        obtain ⟨b4, hs⟩ := vg_ok hs
        refine g_iald C 1 rfl (vin_ok b4) dX2_actorAt_22 ?_
        refine g_goto (tgt := 28) C dX2_actorAt_23 (by decide) ?_
        cases hs
        exact hR _ _ dX2_actorAt_28
def LX2_waited_6 (f_minutes : Nat → Int32) (f_used : Int32) : Nat → Int32 → Int32 → Int32 → Option (Int32)
  | 0, _, _, _ => none
  | n + 1, y_1, y_2, y_3 =>
    vi (f_used ≤ y_3) inferInstance (
      some (y_1)) (
      vi ((nI 5) ≤ y_3) inferInstance (
        some (y_1)) (
        vlet (y_1 + y_2) fun y3 =>
        vg (vin y_3 5) (
        vlet (y_2 + (f_minutes (Int32.toNatClampNeg y_3))) fun y5 =>
        vlet (y_3 + (nI 1)) fun y6 =>
        LX2_waited_6 f_minutes f_used n y3 y5 y6)))
def sX2_waited (f_minutes : Nat → Int32) (f_used : Int32) : Option (Int32) :=
  LX2_waited_6 f_minutes f_used vF (nI 0) (nI 0) (nI 0)
abbrev rmX2_waited : Room := { frames := 0, cells := 0, slots := 0, locals := 0 }
set_option maxHeartbeats 4000000 in
set_option maxRecDepth 100000 in
theorem LX2_waited_6_w {cI : ClassId} {X : xT} (C : cx cI X 4 cX2_waited RX2 rmX2_waited) (h : Nat) (a_actors : Nat) (a_minutes : Nat) (f_used : Int32) (f_minutes : Nat → Int32) {z : Int32} (hR : ∀ (lv : List (Nat × Value)) (pc : Nat), decode cX2_waited pc = .ok (.ireturn, 1) → gg cI X 4 0 0 [oX2 h a_actors a_minutes f_used, aI cI a_minutes 5 f_minutes] lv pc [.int z]) : ∀ (n : Nat) (y_1 : Int32) (y_2 : Int32) (y_3 : Int32), LX2_waited_6 f_minutes f_used n y_1 y_2 y_3 = some z → gg cI X 4 0 0 [oX2 h a_actors a_minutes f_used, aI cI a_minutes 5 f_minutes] [(0, .ref h), (1, .int y_1), (2, .int y_2), (3, .int y_3)] 6 [] := by
  intro n
  induction n with
  | zero =>
    intro y_1 y_2 y_3 hs
    exact nn_ok hs
  | succ n ih =>
    intro y_1 y_2 y_3 hs
    rw [LX2_waited_6] at hs
    refine g_iload_n (pl := 3) C dX2_waited_6 rfl rfl ?_
    refine g_aload_n (pl := 0) C dX2_waited_7 rfl rfl ?_
    refine g_get C fX2_18 0 rfl rfl dX2_waited_8 ?_
    refine g_icmp_ge (tgt := 38) C dX2_waited_11 (by decide) (fun c1 => ?_) (fun c1 => ?_)
    · replace hs := vi_t hs c1
      refine g_iload_n (pl := 1) C dX2_waited_38 rfl rfl ?_
      cases hs
      exact hR _ _ dX2_waited_39
    · replace hs := vi_f hs c1
      refine g_iload_n (pl := 3) C dX2_waited_14 rfl rfl ?_
      refine g_iconst (v := (nI 5)) C dX2_waited_15 rfl ?_
      refine g_icmp_ge (tgt := 38) C dX2_waited_16 (by decide) (fun c2 => ?_) (fun c2 => ?_)
      · replace hs := vi_t hs c2
        refine g_iload_n (pl := 1) C dX2_waited_38 rfl rfl ?_
        cases hs
        exact hR _ _ dX2_waited_39
      · replace hs := vi_f hs c2
        refine g_iload_n (pl := 1) C dX2_waited_19 rfl rfl ?_
        refine g_iload_n (pl := 2) C dX2_waited_20 rfl rfl ?_
        refine g_iadd C dX2_waited_21 ?_
        obtain ⟨y3, e_y3, hs⟩ := vlet_ex hs
        refine g_topi e_y3 ?_
        refine g_istore_n (lv' := [(1, .int y3), (0, .ref h), (2, .int y_2), (3, .int y_3)]) C dX2_waited_22 rfl (by decide) rfl ?_
        refine g_iload_n (pl := 2) C dX2_waited_23 rfl rfl ?_
        refine g_aload_n (pl := 1) C dX2_waited_24 rfl rfl ?_
        refine g_get C fX2_15 0 rfl rfl dX2_waited_25 ?_
        refine g_iload_n (pl := 3) C dX2_waited_28 rfl rfl ?_
        obtain ⟨b4, hs⟩ := vg_ok hs
        refine g_iald C 1 rfl (vin_ok b4) dX2_waited_29 ?_
        refine g_iadd C dX2_waited_30 ?_
        obtain ⟨y5, e_y5, hs⟩ := vlet_ex hs
        refine g_topi e_y5 ?_
        refine g_istore_n (lv' := [(2, .int y5), (1, .int y3), (0, .ref h), (3, .int y_3)]) C dX2_waited_31 rfl (by decide) rfl ?_
        obtain ⟨y6, e_y6, hs⟩ := vlet_ex hs
        refine g_iinc (pl := 3) (lv' := [(3, .int y6), (2, .int y5), (1, .int y3), (0, .ref h)]) C dX2_waited_32 rfl e_y6.symm (by decide) rfl ?_
        refine g_goto (tgt := 6) C dX2_waited_35 (by decide) ?_
        refine g_sub [3, 2, 1, 0] rfl ?_
        exact ih y3 y5 y6 hs
set_option maxHeartbeats 4000000 in
set_option maxRecDepth 100000 in
theorem cX2_waited_ct (l : Launch) (D : va_G) (cI : ClassId) (h : Nat) (a_actors : Nat) (a_minutes : Nat) (f_used : Int32) (f_minutes : Nat → Int32) {z : Int32} (hs : sX2_waited f_minutes f_used = some z) : ct l yX2_waited (.code yX2_waited cX2_waited 4 (some .int) :: gtb) rmX2_waited D cI [.ref h] [oX2 h a_actors a_minutes f_used, aI cI a_minutes 5 f_minutes] (some (.int z)) [oX2 h a_actors a_minutes f_used, aI cI a_minutes 5 f_minutes] := by
  refine ct_ofI (own := RX2) (by decide +kernel) rfl (Nat.le_of_ble_eq_true rfl) (fun X C hD hR => ?_)
  unfold sX2_waited at hs
  show gg cI X 4 0 0 [oX2 h a_actors a_minutes f_used, aI cI a_minutes 5 f_minutes] [(0, .ref h)] 0 []
  refine g_iconst (v := (nI 0)) C dX2_waited_0 rfl ?_
  refine g_istore_n (lv' := [(1, .int (nI 0)), (0, .ref h)]) C dX2_waited_1 rfl (by decide) rfl ?_
  refine g_iconst (v := (nI 0)) C dX2_waited_2 rfl ?_
  refine g_istore_n (lv' := [(2, .int (nI 0)), (1, .int (nI 0)), (0, .ref h)]) C dX2_waited_3 rfl (by decide) rfl ?_
  refine g_iconst (v := (nI 0)) C dX2_waited_4 rfl ?_
  refine g_istore_n (lv' := [(3, .int (nI 0)), (2, .int (nI 0)), (1, .int (nI 0)), (0, .ref h)]) C dX2_waited_5 rfl (by decide) rfl ?_
  refine g_sub [3, 2, 1, 0] rfl ?_
  exact LX2_waited_6_w C h a_actors a_minutes f_used f_minutes hR _ (nI 0) (nI 0) (nI 0) hs
